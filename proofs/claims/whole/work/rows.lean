section
/-- a private method of a class that the tables say can be made, by its rows of tables_1 -/
def lw_okq (q : MethodName × Nat) : Prop := (q.1.cls ≠ "java/lang/invoke/MethodHandle" ∧ q.1.cls ≠ "java/lang/invoke/VarHandle") ∧ Cond.instantiable q.1.cls q.2 ∈ tables_1 ∧ Cond.privateMethod q.1 ∈ tables_1 ∧ Cond.instanceMethod q.1 ∈ tables_1
theorem lw_p0 : lw_okq (⟨"PronounOrders$Tokens", "addRow", "(JILPronounOrders$Words;)V"⟩, 5) := ⟨⟨by decide +kernel, by decide +kernel⟩, List.mem_of_getElem? (i := 242) (by decide +kernel), List.mem_of_getElem? (i := 499) (by decide +kernel), List.mem_of_getElem? (i := 500) (by decide +kernel)⟩
theorem lw_p1 : lw_okq (⟨"PronounOrders$Tokens", "add", "(III)V"⟩, 5) := ⟨⟨by decide +kernel, by decide +kernel⟩, List.mem_of_getElem? (i := 242) (by decide +kernel), List.mem_of_getElem? (i := 504) (by decide +kernel), List.mem_of_getElem? (i := 505) (by decide +kernel)⟩
theorem lw_p2 : lw_okq (⟨"PronounOrders$Tokens", "leaveOnlyStrangeByte", "(I)V"⟩, 5) := ⟨⟨by decide +kernel, by decide +kernel⟩, List.mem_of_getElem? (i := 242) (by decide +kernel), List.mem_of_getElem? (i := 514) (by decide +kernel), List.mem_of_getElem? (i := 515) (by decide +kernel)⟩
theorem lw_p3 : lw_okq (⟨"PronounOrders$Reader", "skipStops", "()V"⟩, 11) := ⟨⟨by decide +kernel, by decide +kernel⟩, List.mem_of_getElem? (i := 236) (by decide +kernel), List.mem_of_getElem? (i := 526) (by decide +kernel), List.mem_of_getElem? (i := 527) (by decide +kernel)⟩
theorem lw_p4 : lw_okq (⟨"PronounOrders$Reader", "readAgain", "()Z"⟩, 11) := ⟨⟨by decide +kernel, by decide +kernel⟩, List.mem_of_getElem? (i := 236) (by decide +kernel), List.mem_of_getElem? (i := 537) (by decide +kernel), List.mem_of_getElem? (i := 538) (by decide +kernel)⟩
theorem lw_p5 : lw_okq (⟨"PronounOrders$Reader", "fail", "(II)Z"⟩, 11) := ⟨⟨by decide +kernel, by decide +kernel⟩, List.mem_of_getElem? (i := 236) (by decide +kernel), List.mem_of_getElem? (i := 545) (by decide +kernel), List.mem_of_getElem? (i := 546) (by decide +kernel)⟩
theorem lw_p6 : lw_okq (⟨"PronounOrders$Reader", "isOrderEnd", "()Z"⟩, 11) := ⟨⟨by decide +kernel, by decide +kernel⟩, List.mem_of_getElem? (i := 236) (by decide +kernel), List.mem_of_getElem? (i := 570) (by decide +kernel), List.mem_of_getElem? (i := 571) (by decide +kernel)⟩
theorem lw_p7 : lw_okq (⟨"PronounOrders$Reader", "failMisplaced", "()Z"⟩, 11) := ⟨⟨by decide +kernel, by decide +kernel⟩, List.mem_of_getElem? (i := 236) (by decide +kernel), List.mem_of_getElem? (i := 574) (by decide +kernel), List.mem_of_getElem? (i := 575) (by decide +kernel)⟩
theorem lw_p8 : lw_okq (⟨"PronounOrders$Reader", "readActor", "()Z"⟩, 11) := ⟨⟨by decide +kernel, by decide +kernel⟩, List.mem_of_getElem? (i := 236) (by decide +kernel), List.mem_of_getElem? (i := 594) (by decide +kernel), List.mem_of_getElem? (i := 595) (by decide +kernel)⟩
theorem lw_p9 : lw_okq (⟨"PronounOrders$Reader", "readItem", "(LPronounOrders$ThingList;)Z"⟩, 11) := ⟨⟨by decide +kernel, by decide +kernel⟩, List.mem_of_getElem? (i := 236) (by decide +kernel), List.mem_of_getElem? (i := 598) (by decide +kernel), List.mem_of_getElem? (i := 599) (by decide +kernel)⟩
theorem lw_p10 : lw_okq (⟨"PronounOrders$Reader", "isTableReady", "(I)Z"⟩, 11) := ⟨⟨by decide +kernel, by decide +kernel⟩, List.mem_of_getElem? (i := 236) (by decide +kernel), List.mem_of_getElem? (i := 608) (by decide +kernel), List.mem_of_getElem? (i := 609) (by decide +kernel)⟩
theorem lw_p11 : lw_okq (⟨"PronounOrders$Reader", "readAll", "(LPronounOrders$ThingList;)Z"⟩, 11) := ⟨⟨by decide +kernel, by decide +kernel⟩, List.mem_of_getElem? (i := 236) (by decide +kernel), List.mem_of_getElem? (i := 621) (by decide +kernel), List.mem_of_getElem? (i := 622) (by decide +kernel)⟩
theorem lw_p12 : lw_okq (⟨"PronounOrders$Reader", "readPronoun", "(ILPronounOrders$ThingList;)V"⟩, 11) := ⟨⟨by decide +kernel, by decide +kernel⟩, List.mem_of_getElem? (i := 236) (by decide +kernel), List.mem_of_getElem? (i := 644) (by decide +kernel), List.mem_of_getElem? (i := 645) (by decide +kernel)⟩
theorem lw_p13 : lw_okq (⟨"PronounOrders$Reader", "ownersFor", "(I)I"⟩, 11) := ⟨⟨by decide +kernel, by decide +kernel⟩, List.mem_of_getElem? (i := 236) (by decide +kernel), List.mem_of_getElem? (i := 652) (by decide +kernel), List.mem_of_getElem? (i := 653) (by decide +kernel)⟩
theorem lw_p14 : lw_okq (⟨"PronounOrders$Reader", "readNames", "(LPronounOrders$ThingList;I)Z"⟩, 11) := ⟨⟨by decide +kernel, by decide +kernel⟩, List.mem_of_getElem? (i := 236) (by decide +kernel), List.mem_of_getElem? (i := 662) (by decide +kernel), List.mem_of_getElem? (i := 663) (by decide +kernel)⟩
theorem lw_p15 : lw_okq (⟨"PronounOrders$Reader", "readCommand", "()Z"⟩, 11) := ⟨⟨by decide +kernel, by decide +kernel⟩, List.mem_of_getElem? (i := 236) (by decide +kernel), List.mem_of_getElem? (i := 673) (by decide +kernel), List.mem_of_getElem? (i := 674) (by decide +kernel)⟩
def lw_privs_1 : List (MethodName × Nat) := [(⟨"PronounOrders$Tokens", "addRow", "(JILPronounOrders$Words;)V"⟩, 5), (⟨"PronounOrders$Tokens", "add", "(III)V"⟩, 5), (⟨"PronounOrders$Tokens", "leaveOnlyStrangeByte", "(I)V"⟩, 5), (⟨"PronounOrders$Reader", "skipStops", "()V"⟩, 11), (⟨"PronounOrders$Reader", "readAgain", "()Z"⟩, 11), (⟨"PronounOrders$Reader", "fail", "(II)Z"⟩, 11), (⟨"PronounOrders$Reader", "isOrderEnd", "()Z"⟩, 11), (⟨"PronounOrders$Reader", "failMisplaced", "()Z"⟩, 11), (⟨"PronounOrders$Reader", "readActor", "()Z"⟩, 11), (⟨"PronounOrders$Reader", "readItem", "(LPronounOrders$ThingList;)Z"⟩, 11), (⟨"PronounOrders$Reader", "isTableReady", "(I)Z"⟩, 11), (⟨"PronounOrders$Reader", "readAll", "(LPronounOrders$ThingList;)Z"⟩, 11), (⟨"PronounOrders$Reader", "readPronoun", "(ILPronounOrders$ThingList;)V"⟩, 11), (⟨"PronounOrders$Reader", "ownersFor", "(I)I"⟩, 11), (⟨"PronounOrders$Reader", "readNames", "(LPronounOrders$ThingList;I)Z"⟩, 11), (⟨"PronounOrders$Reader", "readCommand", "()Z"⟩, 11)]
theorem lw_r1 : ∀ q ∈ lw_privs_1, lw_okq q := List.forall_mem_cons.mpr ⟨lw_p0, List.forall_mem_cons.mpr ⟨lw_p1, List.forall_mem_cons.mpr ⟨lw_p2, List.forall_mem_cons.mpr ⟨lw_p3, List.forall_mem_cons.mpr ⟨lw_p4, List.forall_mem_cons.mpr ⟨lw_p5, List.forall_mem_cons.mpr ⟨lw_p6, List.forall_mem_cons.mpr ⟨lw_p7, List.forall_mem_cons.mpr ⟨lw_p8, List.forall_mem_cons.mpr ⟨lw_p9, List.forall_mem_cons.mpr ⟨lw_p10, List.forall_mem_cons.mpr ⟨lw_p11, List.forall_mem_cons.mpr ⟨lw_p12, List.forall_mem_cons.mpr ⟨lw_p13, List.forall_mem_cons.mpr ⟨lw_p14, List.forall_mem_cons.mpr ⟨lw_p15, fun _ h => absurd h List.not_mem_nil⟩⟩⟩⟩⟩⟩⟩⟩⟩⟩⟩⟩⟩⟩⟩⟩
theorem lw_p16 : lw_okq (⟨"PronounOrders$Reader", "readList", "(LPronounOrders$ThingList;)Z"⟩, 11) := ⟨⟨by decide +kernel, by decide +kernel⟩, List.mem_of_getElem? (i := 236) (by decide +kernel), List.mem_of_getElem? (i := 683) (by decide +kernel), List.mem_of_getElem? (i := 684) (by decide +kernel)⟩
theorem lw_p17 : lw_okq (⟨"PronounOrders$Reader", "skipSeparator", "()Z"⟩, 11) := ⟨⟨by decide +kernel, by decide +kernel⟩, List.mem_of_getElem? (i := 236) (by decide +kernel), List.mem_of_getElem? (i := 687) (by decide +kernel), List.mem_of_getElem? (i := 688) (by decide +kernel)⟩
theorem lw_p18 : lw_okq (⟨"PronounOrders$Reader", "isCommandAnd", "()Z"⟩, 11) := ⟨⟨by decide +kernel, by decide +kernel⟩, List.mem_of_getElem? (i := 236) (by decide +kernel), List.mem_of_getElem? (i := 696) (by decide +kernel), List.mem_of_getElem? (i := 697) (by decide +kernel)⟩
theorem lw_p19 : lw_okq (⟨"PronounOrders$Reader", "keepDraft", "()V"⟩, 11) := ⟨⟨by decide +kernel, by decide +kernel⟩, List.mem_of_getElem? (i := 236) (by decide +kernel), List.mem_of_getElem? (i := 700) (by decide +kernel), List.mem_of_getElem? (i := 701) (by decide +kernel)⟩
theorem lw_p20 : lw_okq (⟨"PronounOrdersModel", "isThing", "(I)Z"⟩, 37) := ⟨⟨by decide +kernel, by decide +kernel⟩, List.mem_of_getElem? (i := 762) (by decide +kernel), List.mem_of_getElem? (i := 913) (by decide +kernel), List.mem_of_getElem? (i := 914) (by decide +kernel)⟩
theorem lw_p21 : lw_okq (⟨"PronounOrdersModel", "fixedOf", "(J)I"⟩, 37) := ⟨⟨by decide +kernel, by decide +kernel⟩, List.mem_of_getElem? (i := 762) (by decide +kernel), List.mem_of_getElem? (i := 933) (by decide +kernel), List.mem_of_getElem? (i := 934) (by decide +kernel)⟩
theorem lw_p22 : lw_okq (⟨"PronounOrdersModel", "wordOf", "(J)I"⟩, 37) := ⟨⟨by decide +kernel, by decide +kernel⟩, List.mem_of_getElem? (i := 762) (by decide +kernel), List.mem_of_getElem? (i := 937) (by decide +kernel), List.mem_of_getElem? (i := 938) (by decide +kernel)⟩
theorem lw_p23 : lw_okq (⟨"PronounOrdersModel", "isWord", "(I)Z"⟩, 37) := ⟨⟨by decide +kernel, by decide +kernel⟩, List.mem_of_getElem? (i := 762) (by decide +kernel), List.mem_of_getElem? (i := 945) (by decide +kernel), List.mem_of_getElem? (i := 946) (by decide +kernel)⟩
theorem lw_p24 : lw_okq (⟨"PronounOrdersModel", "cuts", "(I)Z"⟩, 37) := ⟨⟨by decide +kernel, by decide +kernel⟩, List.mem_of_getElem? (i := 762) (by decide +kernel), List.mem_of_getElem? (i := 961) (by decide +kernel), List.mem_of_getElem? (i := 962) (by decide +kernel)⟩
theorem lw_p25 : lw_okq (⟨"PronounOrdersModel", "fails", "(II)Z"⟩, 37) := ⟨⟨by decide +kernel, by decide +kernel⟩, List.mem_of_getElem? (i := 762) (by decide +kernel), List.mem_of_getElem? (i := 968) (by decide +kernel), List.mem_of_getElem? (i := 969) (by decide +kernel)⟩
theorem lw_p26 : lw_okq (⟨"PronounOrdersModel", "comes", "(II)V"⟩, 37) := ⟨⟨by decide +kernel, by decide +kernel⟩, List.mem_of_getElem? (i := 762) (by decide +kernel), List.mem_of_getElem? (i := 972) (by decide +kernel), List.mem_of_getElem? (i := 973) (by decide +kernel)⟩
theorem lw_p27 : lw_okq (⟨"PronounOrdersModel", "isBetween", "()Z"⟩, 37) := ⟨⟨by decide +kernel, by decide +kernel⟩, List.mem_of_getElem? (i := 762) (by decide +kernel), List.mem_of_getElem? (i := 976) (by decide +kernel), List.mem_of_getElem? (i := 977) (by decide +kernel)⟩
theorem lw_p28 : lw_okq (⟨"PronounOrdersModel", "order", "()Z"⟩, 37) := ⟨⟨by decide +kernel, by decide +kernel⟩, List.mem_of_getElem? (i := 762) (by decide +kernel), List.mem_of_getElem? (i := 980) (by decide +kernel), List.mem_of_getElem? (i := 981) (by decide +kernel)⟩
theorem lw_p29 : lw_okq (⟨"PronounOrdersModel", "again", "()Z"⟩, 37) := ⟨⟨by decide +kernel, by decide +kernel⟩, List.mem_of_getElem? (i := 762) (by decide +kernel), List.mem_of_getElem? (i := 984) (by decide +kernel), List.mem_of_getElem? (i := 985) (by decide +kernel)⟩
theorem lw_p30 : lw_okq (⟨"PronounOrdersModel", "wrong", "()Z"⟩, 37) := ⟨⟨by decide +kernel, by decide +kernel⟩, List.mem_of_getElem? (i := 762) (by decide +kernel), List.mem_of_getElem? (i := 988) (by decide +kernel), List.mem_of_getElem? (i := 989) (by decide +kernel)⟩
theorem lw_p31 : lw_okq (⟨"PronounOrdersModel", "someone", "(I)Z"⟩, 37) := ⟨⟨by decide +kernel, by decide +kernel⟩, List.mem_of_getElem? (i := 762) (by decide +kernel), List.mem_of_getElem? (i := 992) (by decide +kernel), List.mem_of_getElem? (i := 993) (by decide +kernel)⟩
def lw_privs_2 : List (MethodName × Nat) := [(⟨"PronounOrders$Reader", "readList", "(LPronounOrders$ThingList;)Z"⟩, 11), (⟨"PronounOrders$Reader", "skipSeparator", "()Z"⟩, 11), (⟨"PronounOrders$Reader", "isCommandAnd", "()Z"⟩, 11), (⟨"PronounOrders$Reader", "keepDraft", "()V"⟩, 11), (⟨"PronounOrdersModel", "isThing", "(I)Z"⟩, 37), (⟨"PronounOrdersModel", "fixedOf", "(J)I"⟩, 37), (⟨"PronounOrdersModel", "wordOf", "(J)I"⟩, 37), (⟨"PronounOrdersModel", "isWord", "(I)Z"⟩, 37), (⟨"PronounOrdersModel", "cuts", "(I)Z"⟩, 37), (⟨"PronounOrdersModel", "fails", "(II)Z"⟩, 37), (⟨"PronounOrdersModel", "comes", "(II)V"⟩, 37), (⟨"PronounOrdersModel", "isBetween", "()Z"⟩, 37), (⟨"PronounOrdersModel", "order", "()Z"⟩, 37), (⟨"PronounOrdersModel", "again", "()Z"⟩, 37), (⟨"PronounOrdersModel", "wrong", "()Z"⟩, 37), (⟨"PronounOrdersModel", "someone", "(I)Z"⟩, 37)]
theorem lw_r2 : ∀ q ∈ lw_privs_2, lw_okq q := List.forall_mem_cons.mpr ⟨lw_p16, List.forall_mem_cons.mpr ⟨lw_p17, List.forall_mem_cons.mpr ⟨lw_p18, List.forall_mem_cons.mpr ⟨lw_p19, List.forall_mem_cons.mpr ⟨lw_p20, List.forall_mem_cons.mpr ⟨lw_p21, List.forall_mem_cons.mpr ⟨lw_p22, List.forall_mem_cons.mpr ⟨lw_p23, List.forall_mem_cons.mpr ⟨lw_p24, List.forall_mem_cons.mpr ⟨lw_p25, List.forall_mem_cons.mpr ⟨lw_p26, List.forall_mem_cons.mpr ⟨lw_p27, List.forall_mem_cons.mpr ⟨lw_p28, List.forall_mem_cons.mpr ⟨lw_p29, List.forall_mem_cons.mpr ⟨lw_p30, List.forall_mem_cons.mpr ⟨lw_p31, fun _ h => absurd h List.not_mem_nil⟩⟩⟩⟩⟩⟩⟩⟩⟩⟩⟩⟩⟩⟩⟩⟩
theorem lw_p32 : lw_okq (⟨"PronounOrdersModel", "item", "(I)Z"⟩, 37) := ⟨⟨by decide +kernel, by decide +kernel⟩, List.mem_of_getElem? (i := 762) (by decide +kernel), List.mem_of_getElem? (i := 996) (by decide +kernel), List.mem_of_getElem? (i := 997) (by decide +kernel)⟩
theorem lw_p33 : lw_okq (⟨"PronounOrdersModel", "isSort", "(II)Z"⟩, 37) := ⟨⟨by decide +kernel, by decide +kernel⟩, List.mem_of_getElem? (i := 762) (by decide +kernel), List.mem_of_getElem? (i := 1000) (by decide +kernel), List.mem_of_getElem? (i := 1001) (by decide +kernel)⟩
theorem lw_p34 : lw_okq (⟨"PronounOrdersModel", "tableMeans", "(II)Z"⟩, 37) := ⟨⟨by decide +kernel, by decide +kernel⟩, List.mem_of_getElem? (i := 762) (by decide +kernel), List.mem_of_getElem? (i := 1004) (by decide +kernel), List.mem_of_getElem? (i := 1005) (by decide +kernel)⟩
theorem lw_p35 : lw_okq (⟨"PronounOrdersModel", "oneMeans", "(I)Z"⟩, 37) := ⟨⟨by decide +kernel, by decide +kernel⟩, List.mem_of_getElem? (i := 762) (by decide +kernel), List.mem_of_getElem? (i := 1008) (by decide +kernel), List.mem_of_getElem? (i := 1009) (by decide +kernel)⟩
theorem lw_p36 : lw_okq (⟨"PronounOrdersModel", "commands", "(I)Z"⟩, 37) := ⟨⟨by decide +kernel, by decide +kernel⟩, List.mem_of_getElem? (i := 762) (by decide +kernel), List.mem_of_getElem? (i := 1012) (by decide +kernel), List.mem_of_getElem? (i := 1013) (by decide +kernel)⟩
theorem lw_p37 : lw_okq (⟨"PronounOrdersModel", "command", "(IZ)Z"⟩, 37) := ⟨⟨by decide +kernel, by decide +kernel⟩, List.mem_of_getElem? (i := 762) (by decide +kernel), List.mem_of_getElem? (i := 1016) (by decide +kernel), List.mem_of_getElem? (i := 1017) (by decide +kernel)⟩
theorem lw_p38 : lw_okq (⟨"PronounOrdersModel", "list", "(I)Z"⟩, 37) := ⟨⟨by decide +kernel, by decide +kernel⟩, List.mem_of_getElem? (i := 762) (by decide +kernel), List.mem_of_getElem? (i := 1020) (by decide +kernel), List.mem_of_getElem? (i := 1021) (by decide +kernel)⟩
theorem lw_p39 : lw_okq (⟨"PronounOrdersModel", "items", "(IZ)Z"⟩, 37) := ⟨⟨by decide +kernel, by decide +kernel⟩, List.mem_of_getElem? (i := 762) (by decide +kernel), List.mem_of_getElem? (i := 1024) (by decide +kernel), List.mem_of_getElem? (i := 1025) (by decide +kernel)⟩
theorem lw_p40 : lw_okq (⟨"PronounOrdersModel", "placeIn", "(I)I"⟩, 37) := ⟨⟨by decide +kernel, by decide +kernel⟩, List.mem_of_getElem? (i := 762) (by decide +kernel), List.mem_of_getElem? (i := 1028) (by decide +kernel), List.mem_of_getElem? (i := 1029) (by decide +kernel)⟩
theorem lw_p41 : lw_okq (⟨"PronounOrdersModel", "isVerbBehind", "()Z"⟩, 37) := ⟨⟨by decide +kernel, by decide +kernel⟩, List.mem_of_getElem? (i := 762) (by decide +kernel), List.mem_of_getElem? (i := 1032) (by decide +kernel), List.mem_of_getElem? (i := 1033) (by decide +kernel)⟩
theorem lw_p42 : lw_okq (⟨"PronounOrdersModel", "keeps", "(I)V"⟩, 37) := ⟨⟨by decide +kernel, by decide +kernel⟩, List.mem_of_getElem? (i := 762) (by decide +kernel), List.mem_of_getElem? (i := 1036) (by decide +kernel), List.mem_of_getElem? (i := 1037) (by decide +kernel)⟩
theorem lw_p43 : lw_okq (⟨"PronounOrdersModel", "sets", "(I)V"⟩, 37) := ⟨⟨by decide +kernel, by decide +kernel⟩, List.mem_of_getElem? (i := 762) (by decide +kernel), List.mem_of_getElem? (i := 1040) (by decide +kernel), List.mem_of_getElem? (i := 1041) (by decide +kernel)⟩
theorem lw_p44 : lw_okq (⟨"PronounOrdersModel", "understood", "()V"⟩, 37) := ⟨⟨by decide +kernel, by decide +kernel⟩, List.mem_of_getElem? (i := 762) (by decide +kernel), List.mem_of_getElem? (i := 1044) (by decide +kernel), List.mem_of_getElem? (i := 1045) (by decide +kernel)⟩
def lw_privs_3 : List (MethodName × Nat) := [(⟨"PronounOrdersModel", "item", "(I)Z"⟩, 37), (⟨"PronounOrdersModel", "isSort", "(II)Z"⟩, 37), (⟨"PronounOrdersModel", "tableMeans", "(II)Z"⟩, 37), (⟨"PronounOrdersModel", "oneMeans", "(I)Z"⟩, 37), (⟨"PronounOrdersModel", "commands", "(I)Z"⟩, 37), (⟨"PronounOrdersModel", "command", "(IZ)Z"⟩, 37), (⟨"PronounOrdersModel", "list", "(I)Z"⟩, 37), (⟨"PronounOrdersModel", "items", "(IZ)Z"⟩, 37), (⟨"PronounOrdersModel", "placeIn", "(I)I"⟩, 37), (⟨"PronounOrdersModel", "isVerbBehind", "()Z"⟩, 37), (⟨"PronounOrdersModel", "keeps", "(I)V"⟩, 37), (⟨"PronounOrdersModel", "sets", "(I)V"⟩, 37), (⟨"PronounOrdersModel", "understood", "()V"⟩, 37)]
theorem lw_r3 : ∀ q ∈ lw_privs_3, lw_okq q := List.forall_mem_cons.mpr ⟨lw_p32, List.forall_mem_cons.mpr ⟨lw_p33, List.forall_mem_cons.mpr ⟨lw_p34, List.forall_mem_cons.mpr ⟨lw_p35, List.forall_mem_cons.mpr ⟨lw_p36, List.forall_mem_cons.mpr ⟨lw_p37, List.forall_mem_cons.mpr ⟨lw_p38, List.forall_mem_cons.mpr ⟨lw_p39, List.forall_mem_cons.mpr ⟨lw_p40, List.forall_mem_cons.mpr ⟨lw_p41, List.forall_mem_cons.mpr ⟨lw_p42, List.forall_mem_cons.mpr ⟨lw_p43, List.forall_mem_cons.mpr ⟨lw_p44, fun _ h => absurd h List.not_mem_nil⟩⟩⟩⟩⟩⟩⟩⟩⟩⟩⟩⟩⟩
def lw_privs : List (MethodName × Nat) := lw_privs_1 ++ (lw_privs_2 ++ (lw_privs_3))
def lw_tbl : List Cond := k2_sels lw_privs ++ tables_1
theorem lw_privs_ok : ∀ q ∈ lw_privs, lw_okq q := by
  show ∀ q ∈ lw_privs_1 ++ (lw_privs_2 ++ (lw_privs_3)), lw_okq q
  exact List.forall_mem_append.mpr ⟨lw_r1, List.forall_mem_append.mpr ⟨lw_r2, lw_r3⟩⟩
end
section
def RX0 : String := "PronounOrders$Order"
def TX0 : u_T := fun k => match k with
  | 0 => ("PronounOrders$Order", "first", "LPronounOrders$ThingList;", true)
  | 1 => ("PronounOrders$Order", "second", "LPronounOrders$ThingList;", true)
  | 2 => ("PronounOrders$Order", "actor", "I", false)
  | 3 => ("PronounOrders$Order", "verb", "I", false)
  | _ => ("PronounOrders$Order", "preposition", "I", false)
def tyX0 : Nat → FieldType := fun k => match k with
  | 0 => .object "PronounOrders$ThingList"
  | 1 => .object "PronounOrders$ThingList"
  | 2 => .int
  | 3 => .int
  | _ => .int
theorem nmX0 : ∀ a, a < 5 → ∀ b, b < 5 → a ≠ b → (TX0 a).2.1 ≠ (TX0 b).2.1 := by decide +kernel
theorem tyX0_ok : ∀ k, k < 5 → parseFieldDescriptor (TX0 k).2.2.1 = some (tyX0 k) := by decide +kernel
set_option maxRecDepth 20000 in
theorem inX0 : ∀ w ∈ u_ws RX0 TX0 5, w ∈ lw_tbl := by decide +kernel
def RX1 : String := "PronounOrders$Orders"
def TX1 : u_T := fun k => match k with
  | 0 => ("PronounOrders$Orders", "kept", "[LPronounOrders$Order;", true)
  | 1 => ("PronounOrders$Orders", "latest", "LPronounOrders$Order;", true)
  | 2 => ("PronounOrders$Orders", "size", "I", false)
  | _ => ("PronounOrders$Orders", "total", "I", false)
def tyX1 : Nat → FieldType := fun k => match k with
  | 0 => .array (.object "PronounOrders$Order")
  | 1 => .object "PronounOrders$Order"
  | 2 => .int
  | _ => .int
theorem nmX1 : ∀ a, a < 4 → ∀ b, b < 4 → a ≠ b → (TX1 a).2.1 ≠ (TX1 b).2.1 := by decide +kernel
theorem tyX1_ok : ∀ k, k < 4 → parseFieldDescriptor (TX1 k).2.2.1 = some (tyX1 k) := by decide +kernel
set_option maxRecDepth 20000 in
theorem inX1 : ∀ w ∈ u_ws RX1 TX1 4, w ∈ lw_tbl := by decide +kernel
def RX2 : String := "PronounOrders$Reader"
def TX2 : u_T := fun k => match k with
  | 0 => ("PronounOrders$Reader", "things", "LPronounOrders$Things;", true)
  | 1 => ("PronounOrders$Reader", "words", "LPronounOrders$Words;", true)
  | 2 => ("PronounOrders$Reader", "table", "LPronounOrders$Table;", true)
  | 3 => ("PronounOrders$Reader", "orders", "LPronounOrders$Orders;", true)
  | 4 => ("PronounOrders$Reader", "tokens", "LPronounOrders$Tokens;", true)
  | 5 => ("PronounOrders$Reader", "draft", "LPronounOrders$Order;", true)
  | 6 => ("PronounOrders$Reader", "excluded", "LPronounOrders$ThingList;", true)
  | 7 => ("PronounOrders$Reader", "addressed", "LPronounOrders$ThingList;", true)
  | 8 => ("PronounOrders$Reader", "at", "I", false)
  | 9 => ("PronounOrders$Reader", "fault", "I", false)
  | _ => ("PronounOrders$Reader", "faultToken", "I", false)
def tyX2 : Nat → FieldType := fun k => match k with
  | 0 => .object "PronounOrders$Things"
  | 1 => .object "PronounOrders$Words"
  | 2 => .object "PronounOrders$Table"
  | 3 => .object "PronounOrders$Orders"
  | 4 => .object "PronounOrders$Tokens"
  | 5 => .object "PronounOrders$Order"
  | 6 => .object "PronounOrders$ThingList"
  | 7 => .object "PronounOrders$ThingList"
  | 8 => .int
  | 9 => .int
  | _ => .int
theorem nmX2 : ∀ a, a < 11 → ∀ b, b < 11 → a ≠ b → (TX2 a).2.1 ≠ (TX2 b).2.1 := by decide +kernel
theorem tyX2_ok : ∀ k, k < 11 → parseFieldDescriptor (TX2 k).2.2.1 = some (tyX2 k) := by decide +kernel
set_option maxRecDepth 20000 in
theorem inX2 : ∀ w ∈ u_ws RX2 TX2 11, w ∈ lw_tbl := by decide +kernel
def RX3 : String := "PronounOrders$Table"
def TX3 : u_T := fun k => match k with
  | 0 => ("PronounOrders$Table", "it", "LPronounOrders$ThingList;", true)
  | 1 => ("PronounOrders$Table", "him", "LPronounOrders$ThingList;", true)
  | 2 => ("PronounOrders$Table", "her", "LPronounOrders$ThingList;", true)
  | _ => ("PronounOrders$Table", "them", "LPronounOrders$ThingList;", true)
def tyX3 : Nat → FieldType := fun k => match k with
  | 0 => .object "PronounOrders$ThingList"
  | 1 => .object "PronounOrders$ThingList"
  | 2 => .object "PronounOrders$ThingList"
  | _ => .object "PronounOrders$ThingList"
theorem nmX3 : ∀ a, a < 4 → ∀ b, b < 4 → a ≠ b → (TX3 a).2.1 ≠ (TX3 b).2.1 := by decide +kernel
theorem tyX3_ok : ∀ k, k < 4 → parseFieldDescriptor (TX3 k).2.2.1 = some (tyX3 k) := by decide +kernel
set_option maxRecDepth 20000 in
theorem inX3 : ∀ w ∈ u_ws RX3 TX3 4, w ∈ lw_tbl := by decide +kernel
def RX4 : String := "PronounOrders$Tape"
def TX4 : u_T := fun k => match k with
  | 0 => ("PronounOrders$Tape", "bytes", "[I", true)
  | _ => ("PronounOrders$Tape", "size", "I", false)
def tyX4 : Nat → FieldType := fun k => match k with
  | 0 => .array .int
  | _ => .int
theorem nmX4 : ∀ a, a < 2 → ∀ b, b < 2 → a ≠ b → (TX4 a).2.1 ≠ (TX4 b).2.1 := by decide +kernel
theorem tyX4_ok : ∀ k, k < 2 → parseFieldDescriptor (TX4 k).2.2.1 = some (tyX4 k) := by decide +kernel
set_option maxRecDepth 20000 in
theorem inX4 : ∀ w ∈ u_ws RX4 TX4 2, w ∈ lw_tbl := by decide +kernel
def RX5 : String := "PronounOrders$ThingList"
def TX5 : u_T := fun k => match k with
  | 0 => ("PronounOrders$ThingList", "things", "[I", true)
  | 1 => ("PronounOrders$ThingList", "size", "I", false)
  | _ => ("PronounOrders$ThingList", "members", "I", false)
def tyX5 : Nat → FieldType := fun k => match k with
  | 0 => .array .int
  | 1 => .int
  | _ => .int
theorem nmX5 : ∀ a, a < 3 → ∀ b, b < 3 → a ≠ b → (TX5 a).2.1 ≠ (TX5 b).2.1 := by decide +kernel
theorem tyX5_ok : ∀ k, k < 3 → parseFieldDescriptor (TX5 k).2.2.1 = some (tyX5 k) := by decide +kernel
set_option maxRecDepth 20000 in
theorem inX5 : ∀ w ∈ u_ws RX5 TX5 3, w ∈ lw_tbl := by decide +kernel
def RX6 : String := "PronounOrders$Things"
def TX6 : u_T := fun k => match k with
  | 0 => ("PronounOrders$Things", "kinds", "[I", true)
  | 1 => ("PronounOrders$Things", "owners", "[I", true)
  | 2 => ("PronounOrders$Things", "seen", "I", false)
  | _ => ("PronounOrders$Things", "size", "I", false)
def tyX6 : Nat → FieldType := fun k => match k with
  | 0 => .array .int
  | 1 => .array .int
  | 2 => .int
  | _ => .int
theorem nmX6 : ∀ a, a < 4 → ∀ b, b < 4 → a ≠ b → (TX6 a).2.1 ≠ (TX6 b).2.1 := by decide +kernel
theorem tyX6_ok : ∀ k, k < 4 → parseFieldDescriptor (TX6 k).2.2.1 = some (tyX6 k) := by decide +kernel
set_option maxRecDepth 20000 in
theorem inX6 : ∀ w ∈ u_ws RX6 TX6 4, w ∈ lw_tbl := by decide +kernel
def RX7 : String := "PronounOrders$Tokens"
def TX7 : u_T := fun k => match k with
  | 0 => ("PronounOrders$Tokens", "kinds", "[I", true)
  | 1 => ("PronounOrders$Tokens", "roots", "[I", true)
  | 2 => ("PronounOrders$Tokens", "places", "[I", true)
  | 3 => ("PronounOrders$Tokens", "size", "I", false)
  | _ => ("PronounOrders$Tokens", "lineLength", "I", false)
def tyX7 : Nat → FieldType := fun k => match k with
  | 0 => .array .int
  | 1 => .array .int
  | 2 => .array .int
  | 3 => .int
  | _ => .int
theorem nmX7 : ∀ a, a < 5 → ∀ b, b < 5 → a ≠ b → (TX7 a).2.1 ≠ (TX7 b).2.1 := by decide +kernel
theorem tyX7_ok : ∀ k, k < 5 → parseFieldDescriptor (TX7 k).2.2.1 = some (tyX7 k) := by decide +kernel
set_option maxRecDepth 20000 in
theorem inX7 : ∀ w ∈ u_ws RX7 TX7 5, w ∈ lw_tbl := by decide +kernel
def RX8 : String := "PronounOrders$Words"
def TX8 : u_T := fun k => match k with
  | 0 => ("PronounOrders$Words", "fixedKeys", "[J", true)
  | 1 => ("PronounOrders$Words", "keys", "[J", true)
  | 2 => ("PronounOrders$Words", "sorts", "[I", true)
  | 3 => ("PronounOrders$Words", "forms", "[I", true)
  | 4 => ("PronounOrders$Words", "nouns", "[I", true)
  | 5 => ("PronounOrders$Words", "adjectives", "[I", true)
  | 6 => ("PronounOrders$Words", "roots", "[I", true)
  | _ => ("PronounOrders$Words", "size", "I", false)
def tyX8 : Nat → FieldType := fun k => match k with
  | 0 => .array .long
  | 1 => .array .long
  | 2 => .array .int
  | 3 => .array .int
  | 4 => .array .int
  | 5 => .array .int
  | 6 => .array .int
  | _ => .int
theorem nmX8 : ∀ a, a < 8 → ∀ b, b < 8 → a ≠ b → (TX8 a).2.1 ≠ (TX8 b).2.1 := by decide +kernel
theorem tyX8_ok : ∀ k, k < 8 → parseFieldDescriptor (TX8 k).2.2.1 = some (tyX8 k) := by decide +kernel
set_option maxRecDepth 20000 in
theorem inX8 : ∀ w ∈ u_ws RX8 TX8 8, w ∈ lw_tbl := by decide +kernel
def RX9 : String := "PronounOrders"
def TX9 : u_T := fun k => match k with
  | 0 => ("PronounOrders", "things", "LPronounOrders$Things;", true)
  | 1 => ("PronounOrders", "words", "LPronounOrders$Words;", true)
  | 2 => ("PronounOrders", "tape", "LPronounOrders$Tape;", true)
  | 3 => ("PronounOrders", "table", "LPronounOrders$Table;", true)
  | 4 => ("PronounOrders", "orders", "LPronounOrders$Orders;", true)
  | _ => ("PronounOrders", "reader", "LPronounOrders$Reader;", true)
def tyX9 : Nat → FieldType := fun k => match k with
  | 0 => .object "PronounOrders$Things"
  | 1 => .object "PronounOrders$Words"
  | 2 => .object "PronounOrders$Tape"
  | 3 => .object "PronounOrders$Table"
  | 4 => .object "PronounOrders$Orders"
  | _ => .object "PronounOrders$Reader"
theorem nmX9 : ∀ a, a < 6 → ∀ b, b < 6 → a ≠ b → (TX9 a).2.1 ≠ (TX9 b).2.1 := by decide +kernel
theorem tyX9_ok : ∀ k, k < 6 → parseFieldDescriptor (TX9 k).2.2.1 = some (tyX9 k) := by decide +kernel
set_option maxRecDepth 20000 in
theorem inX9 : ∀ w ∈ u_ws RX9 TX9 6, w ∈ lw_tbl := by decide +kernel
def RX10 : String := "PronounOrdersModel"
def TX10 : u_T := fun k => match k with
  | 0 => ("PronounOrdersModel", "fixed", "[J", true)
  | 1 => ("PronounOrdersModel", "things", "I", false)
  | 2 => ("PronounOrdersModel", "kinds", "[I", true)
  | 3 => ("PronounOrdersModel", "seen", "[Z", true)
  | 4 => ("PronounOrdersModel", "owners", "[I", true)
  | 5 => ("PronounOrdersModel", "words", "I", false)
  | 6 => ("PronounOrdersModel", "letters", "[J", true)
  | 7 => ("PronounOrdersModel", "sorts", "[I", true)
  | 8 => ("PronounOrdersModel", "forms", "[I", true)
  | 9 => ("PronounOrdersModel", "sames", "[I", true)
  | 10 => ("PronounOrdersModel", "names", "[I", true)
  | 11 => ("PronounOrdersModel", "tape", "[B", true)
  | 12 => ("PronounOrdersModel", "taped", "I", false)
  | 13 => ("PronounOrdersModel", "tokens", "[I", true)
  | 14 => ("PronounOrdersModel", "begins", "[I", true)
  | 15 => ("PronounOrdersModel", "tokenMany", "I", false)
  | 16 => ("PronounOrdersModel", "t", "I", false)
  | 17 => ("PronounOrdersModel", "fault", "I", false)
  | 18 => ("PronounOrdersModel", "faultAt", "I", false)
  | 19 => ("PronounOrdersModel", "actors", "[I", true)
  | 20 => ("PronounOrdersModel", "verbs", "[I", true)
  | 21 => ("PronounOrdersModel", "prepositions", "[I", true)
  | 22 => ("PronounOrdersModel", "given", "[I", true)
  | 23 => ("PronounOrdersModel", "givenMany", "[I", true)
  | 24 => ("PronounOrdersModel", "orders", "I", false)
  | 25 => ("PronounOrdersModel", "ordersInAll", "I", false)
  | 26 => ("PronounOrdersModel", "latestActor", "I", false)
  | 27 => ("PronounOrdersModel", "latestVerb", "I", false)
  | 28 => ("PronounOrdersModel", "latestPreposition", "I", false)
  | 29 => ("PronounOrdersModel", "latest", "[I", true)
  | 30 => ("PronounOrdersModel", "latestMany", "[I", true)
  | 31 => ("PronounOrdersModel", "table", "[I", true)
  | 32 => ("PronounOrdersModel", "tableMany", "[I", true)
  | 33 => ("PronounOrdersModel", "meant", "[I", true)
  | 34 => ("PronounOrdersModel", "meantMany", "I", false)
  | 35 => ("PronounOrdersModel", "list", "[I", true)
  | _ => ("PronounOrdersModel", "listMany", "I", false)
def tyX10 : Nat → FieldType := fun k => match k with
  | 0 => .array .long
  | 1 => .int
  | 2 => .array .int
  | 3 => .array .boolean
  | 4 => .array .int
  | 5 => .int
  | 6 => .array .long
  | 7 => .array .int
  | 8 => .array .int
  | 9 => .array .int
  | 10 => .array .int
  | 11 => .array .byte
  | 12 => .int
  | 13 => .array .int
  | 14 => .array .int
  | 15 => .int
  | 16 => .int
  | 17 => .int
  | 18 => .int
  | 19 => .array .int
  | 20 => .array .int
  | 21 => .array .int
  | 22 => .array .int
  | 23 => .array .int
  | 24 => .int
  | 25 => .int
  | 26 => .int
  | 27 => .int
  | 28 => .int
  | 29 => .array .int
  | 30 => .array .int
  | 31 => .array .int
  | 32 => .array .int
  | 33 => .array .int
  | 34 => .int
  | 35 => .array .int
  | _ => .int
theorem nmX10 : ∀ a, a < 37 → ∀ b, b < 37 → a ≠ b → (TX10 a).2.1 ≠ (TX10 b).2.1 := by decide +kernel
theorem tyX10_ok : ∀ k, k < 37 → parseFieldDescriptor (TX10 k).2.2.1 = some (tyX10 k) := by decide +kernel
set_option maxRecDepth 20000 in
theorem inX10 : ∀ w ∈ u_ws RX10 TX10 37, w ∈ lw_tbl := by decide +kernel
def RJ7 : String := "java/util/Arrays"
abbrev cX0_init : ByteArray := prog_2_method_1_code
def yX0_init : MethodName := ⟨RX0, "<init>", "()V"⟩
abbrev cX0_startVerb : ByteArray := prog_2_method_2_code
def yX0_startVerb : MethodName := ⟨RX0, "startVerb", "(I)V"⟩
abbrev cX0_copyFrom : ByteArray := prog_2_method_3_code
def yX0_copyFrom : MethodName := ⟨RX0, "copyFrom", "(LPronounOrders$Order;)V"⟩
abbrev cX0_members : ByteArray := prog_2_method_4_code
def yX0_members : MethodName := ⟨RX0, "members", "()I"⟩
abbrev cX1_init : ByteArray := prog_3_method_1_code
def yX1_init : MethodName := ⟨RX1, "<init>", "()V"⟩
abbrev cX1_size : ByteArray := prog_3_method_2_code
def yX1_size : MethodName := ⟨RX1, "size", "()I"⟩
abbrev cX1_total : ByteArray := prog_3_method_3_code
def yX1_total : MethodName := ⟨RX1, "total", "()I"⟩
abbrev cX1_startLine : ByteArray := prog_3_method_4_code
def yX1_startLine : MethodName := ⟨RX1, "startLine", "()V"⟩
abbrev cX1_areFull : ByteArray := prog_3_method_5_code
def yX1_areFull : MethodName := ⟨RX1, "areFull", "()Z"⟩
abbrev cX1_at : ByteArray := prog_3_method_6_code
def yX1_at : MethodName := ⟨RX1, "at", "(I)LPronounOrders$Order;"⟩
abbrev cX1_latest : ByteArray := prog_3_method_7_code
def yX1_latest : MethodName := ⟨RX1, "latest", "()LPronounOrders$Order;"⟩
abbrev cX1_keep : ByteArray := prog_3_method_8_code
def yX1_keep : MethodName := ⟨RX1, "keep", "(LPronounOrders$Order;)V"⟩
abbrev cX2_init : ByteArray := prog_4_method_1_code
def yX2_init : MethodName := ⟨RX2, "<init>", "(LPronounOrders$Things;LPronounOrders$Words;LPronounOrders$Table;LPronounOrders$Orders;)V"⟩
abbrev cX2_faultNumber : ByteArray := prog_4_method_2_code
def yX2_faultNumber : MethodName := ⟨RX2, "faultNumber", "()I"⟩
abbrev cX2_faultPlace : ByteArray := prog_4_method_3_code
def yX2_faultPlace : MethodName := ⟨RX2, "faultPlace", "()I"⟩
abbrev cX2_begin : ByteArray := prog_4_method_4_code
def yX2_begin : MethodName := ⟨RX2, "begin", "(LPronounOrders$Tape;)V"⟩
abbrev cX2_readOrder : ByteArray := prog_4_method_5_code
def yX2_readOrder : MethodName := ⟨RX2, "readOrder", "()Z"⟩
abbrev cX2_skipStops : ByteArray := prog_4_method_6_code
def yX2_skipStops : MethodName := ⟨RX2, "skipStops", "()V"⟩
abbrev cX2_isStop : ByteArray := prog_4_method_7_code
def yX2_isStop : MethodName := ⟨RX2, "isStop", "(I)Z"⟩
abbrev cX2_isOrderEnd : ByteArray := prog_4_method_8_code
def yX2_isOrderEnd : MethodName := ⟨RX2, "isOrderEnd", "()Z"⟩
abbrev cX2_isCommandAnd : ByteArray := prog_4_method_9_code
def yX2_isCommandAnd : MethodName := ⟨RX2, "isCommandAnd", "()Z"⟩
abbrev cX2_readAgain : ByteArray := prog_4_method_10_code
def yX2_readAgain : MethodName := ⟨RX2, "readAgain", "()Z"⟩
abbrev cX2_readActor : ByteArray := prog_4_method_11_code
def yX2_readActor : MethodName := ⟨RX2, "readActor", "()Z"⟩
abbrev cX2_readCommand : ByteArray := prog_4_method_12_code
def yX2_readCommand : MethodName := ⟨RX2, "readCommand", "()Z"⟩
abbrev cX2_keepDraft : ByteArray := prog_4_method_13_code
def yX2_keepDraft : MethodName := ⟨RX2, "keepDraft", "()V"⟩
abbrev cX2_readList : ByteArray := prog_4_method_14_code
def yX2_readList : MethodName := ⟨RX2, "readList", "(LPronounOrders$ThingList;)Z"⟩
abbrev cX2_skipSeparator : ByteArray := prog_4_method_15_code
def yX2_skipSeparator : MethodName := ⟨RX2, "skipSeparator", "()Z"⟩
abbrev cX2_readItem : ByteArray := prog_4_method_16_code
def yX2_readItem : MethodName := ⟨RX2, "readItem", "(LPronounOrders$ThingList;)Z"⟩
abbrev cX2_isPronoun : ByteArray := prog_4_method_17_code
def yX2_isPronoun : MethodName := ⟨RX2, "isPronoun", "(I)Z"⟩
abbrev cX2_isWhose : ByteArray := prog_4_method_18_code
def yX2_isWhose : MethodName := ⟨RX2, "isWhose", "(I)Z"⟩
abbrev cX2_isFromTable : ByteArray := prog_4_method_19_code
def yX2_isFromTable : MethodName := ⟨RX2, "isFromTable", "(I)Z"⟩
abbrev cX2_pronounOf : ByteArray := prog_4_method_20_code
def yX2_pronounOf : MethodName := ⟨RX2, "pronounOf", "(I)I"⟩
abbrev cX2_isTableReady : ByteArray := prog_4_method_21_code
def yX2_isTableReady : MethodName := ⟨RX2, "isTableReady", "(I)Z"⟩
abbrev cX2_ownersFor : ByteArray := prog_4_method_22_code
def yX2_ownersFor : MethodName := ⟨RX2, "ownersFor", "(I)I"⟩
abbrev cX2_readAll : ByteArray := prog_4_method_23_code
def yX2_readAll : MethodName := ⟨RX2, "readAll", "(LPronounOrders$ThingList;)Z"⟩
abbrev cX2_readPronoun : ByteArray := prog_4_method_24_code
def yX2_readPronoun : MethodName := ⟨RX2, "readPronoun", "(ILPronounOrders$ThingList;)V"⟩
abbrev cX2_readNames : ByteArray := prog_4_method_25_code
def yX2_readNames : MethodName := ⟨RX2, "readNames", "(LPronounOrders$ThingList;I)Z"⟩
abbrev cX2_failMisplaced : ByteArray := prog_4_method_26_code
def yX2_failMisplaced : MethodName := ⟨RX2, "failMisplaced", "()Z"⟩
abbrev cX2_fail : ByteArray := prog_4_method_27_code
def yX2_fail : MethodName := ⟨RX2, "fail", "(II)Z"⟩
abbrev cX3_init : ByteArray := prog_5_method_1_code
def yX3_init : MethodName := ⟨RX3, "<init>", "()V"⟩
abbrev cX3_meantBy : ByteArray := prog_5_method_2_code
def yX3_meantBy : MethodName := ⟨RX3, "meantBy", "(I)LPronounOrders$ThingList;"⟩
abbrev cX3_learn : ByteArray := prog_5_method_3_code
def yX3_learn : MethodName := ⟨RX3, "learn", "(LPronounOrders$ThingList;LPronounOrders$Things;)V"⟩
abbrev cX4_init : ByteArray := prog_6_method_1_code
def yX4_init : MethodName := ⟨RX4, "<init>", "()V"⟩
abbrev cX4_size : ByteArray := prog_6_method_2_code
def yX4_size : MethodName := ⟨RX4, "size", "()I"⟩
abbrev cX4_clear : ByteArray := prog_6_method_3_code
def yX4_clear : MethodName := ⟨RX4, "clear", "()V"⟩
abbrev cX4_append : ByteArray := prog_6_method_4_code
def yX4_append : MethodName := ⟨RX4, "append", "(IJ)Z"⟩
abbrev cX4_at : ByteArray := prog_6_method_5_code
def yX4_at : MethodName := ⟨RX4, "at", "(I)I"⟩
abbrev cX4_letterAt : ByteArray := prog_6_method_6_code
def yX4_letterAt : MethodName := ⟨RX4, "letterAt", "(I)I"⟩
abbrev cX4_keyAt : ByteArray := prog_6_method_7_code
def yX4_keyAt : MethodName := ⟨RX4, "keyAt", "(I)J"⟩
abbrev cX4_isPlainWord : ByteArray := prog_6_method_8_code
def yX4_isPlainWord : MethodName := ⟨RX4, "isPlainWord", "()Z"⟩
abbrev cX5_init : ByteArray := prog_7_method_1_code
def yX5_init : MethodName := ⟨RX5, "<init>", "()V"⟩
abbrev cX5_size : ByteArray := prog_7_method_2_code
def yX5_size : MethodName := ⟨RX5, "size", "()I"⟩
abbrev cX5_members : ByteArray := prog_7_method_3_code
def yX5_members : MethodName := ⟨RX5, "members", "()I"⟩
abbrev cX5_at : ByteArray := prog_7_method_4_code
def yX5_at : MethodName := ⟨RX5, "at", "(I)I"⟩
abbrev cX5_clear : ByteArray := prog_7_method_5_code
def yX5_clear : MethodName := ⟨RX5, "clear", "()V"⟩
abbrev cX5_add : ByteArray := prog_7_method_6_code
def yX5_add : MethodName := ⟨RX5, "add", "(I)V"⟩
abbrev cX5_remove : ByteArray := prog_7_method_7_code
def yX5_remove : MethodName := ⟨RX5, "remove", "(I)V"⟩
abbrev cX5_copyFrom : ByteArray := prog_7_method_8_code
def yX5_copyFrom : MethodName := ⟨RX5, "copyFrom", "(LPronounOrders$ThingList;)V"⟩
abbrev cX6_init : ByteArray := prog_8_method_1_code
def yX6_init : MethodName := ⟨RX6, "<init>", "()V"⟩
abbrev cX6_size : ByteArray := prog_8_method_2_code
def yX6_size : MethodName := ⟨RX6, "size", "()I"⟩
abbrev cX6_has : ByteArray := prog_8_method_3_code
def yX6_has : MethodName := ⟨RX6, "has", "(I)Z"⟩
abbrev cX6_add : ByteArray := prog_8_method_4_code
def yX6_add : MethodName := ⟨RX6, "add", "(I)I"⟩
abbrev cX6_isSeen : ByteArray := prog_8_method_5_code
def yX6_isSeen : MethodName := ⟨RX6, "isSeen", "(I)Z"⟩
abbrev cX6_seenOnes : ByteArray := prog_8_method_6_code
def yX6_seenOnes : MethodName := ⟨RX6, "seenOnes", "()I"⟩
abbrev cX6_setSeen : ByteArray := prog_8_method_7_code
def yX6_setSeen : MethodName := ⟨RX6, "setSeen", "(IZ)V"⟩
abbrev cX6_kindOf : ByteArray := prog_8_method_8_code
def yX6_kindOf : MethodName := ⟨RX6, "kindOf", "(I)I"⟩
abbrev cX6_setKind : ByteArray := prog_8_method_9_code
def yX6_setKind : MethodName := ⟨RX6, "setKind", "(II)V"⟩
abbrev cX6_isPerson : ByteArray := prog_8_method_10_code
def yX6_isPerson : MethodName := ⟨RX6, "isPerson", "(I)Z"⟩
abbrev cX6_setOwner : ByteArray := prog_8_method_11_code
def yX6_setOwner : MethodName := ⟨RX6, "setOwner", "(II)V"⟩
abbrev cX6_ownedBy : ByteArray := prog_8_method_12_code
def yX6_ownedBy : MethodName := ⟨RX6, "ownedBy", "(I)I"⟩
abbrev cX7_init : ByteArray := prog_9_method_1_code
def yX7_init : MethodName := ⟨RX7, "<init>", "()V"⟩
abbrev cX7_kindAt : ByteArray := prog_9_method_2_code
def yX7_kindAt : MethodName := ⟨RX7, "kindAt", "(I)I"⟩
abbrev cX7_wordAt : ByteArray := prog_9_method_3_code
def yX7_wordAt : MethodName := ⟨RX7, "wordAt", "(I)I"⟩
abbrev cX7_placeAt : ByteArray := prog_9_method_4_code
def yX7_placeAt : MethodName := ⟨RX7, "placeAt", "(I)I"⟩
abbrev cX7_split : ByteArray := prog_9_method_5_code
def yX7_split : MethodName := ⟨RX7, "split", "(LPronounOrders$Tape;LPronounOrders$Words;)V"⟩
abbrev cX7_leaveOnlyStrangeByte : ByteArray := prog_9_method_6_code
def yX7_leaveOnlyStrangeByte : MethodName := ⟨RX7, "leaveOnlyStrangeByte", "(I)V"⟩
abbrev cX7_addRow : ByteArray := prog_9_method_7_code
def yX7_addRow : MethodName := ⟨RX7, "addRow", "(JILPronounOrders$Words;)V"⟩
abbrev cX7_kindOfSort : ByteArray := prog_9_method_8_code
def yX7_kindOfSort : MethodName := ⟨RX7, "kindOfSort", "(I)I"⟩
abbrev cX7_add : ByteArray := prog_9_method_9_code
def yX7_add : MethodName := ⟨RX7, "add", "(III)V"⟩
abbrev cX8_init : ByteArray := prog_10_method_1_code
def yX8_init : MethodName := ⟨RX8, "<init>", "()V"⟩
abbrev cX8_size : ByteArray := prog_10_method_2_code
def yX8_size : MethodName := ⟨RX8, "size", "()I"⟩
abbrev cX8_has : ByteArray := prog_10_method_3_code
def yX8_has : MethodName := ⟨RX8, "has", "(I)Z"⟩
abbrev cX8_fixedNumber : ByteArray := prog_10_method_4_code
def yX8_fixedNumber : MethodName := ⟨RX8, "fixedNumber", "(J)I"⟩
abbrev cX8_find : ByteArray := prog_10_method_5_code
def yX8_find : MethodName := ⟨RX8, "find", "(J)I"⟩
abbrev cX8_add : ByteArray := prog_10_method_6_code
def yX8_add : MethodName := ⟨RX8, "add", "(JI)I"⟩
abbrev cX8_sortOf : ByteArray := prog_10_method_7_code
def yX8_sortOf : MethodName := ⟨RX8, "sortOf", "(I)I"⟩
abbrev cX8_rootOf : ByteArray := prog_10_method_8_code
def yX8_rootOf : MethodName := ⟨RX8, "rootOf", "(I)I"⟩
abbrev cX8_setRoot : ByteArray := prog_10_method_9_code
def yX8_setRoot : MethodName := ⟨RX8, "setRoot", "(II)V"⟩
abbrev cX8_isOwn : ByteArray := prog_10_method_10_code
def yX8_isOwn : MethodName := ⟨RX8, "isOwn", "(II)Z"⟩
abbrev cX8_isRootOfOthers : ByteArray := prog_10_method_11_code
def yX8_isRootOfOthers : MethodName := ⟨RX8, "isRootOfOthers", "(I)Z"⟩
abbrev cX8_isInUse : ByteArray := prog_10_method_12_code
def yX8_isInUse : MethodName := ⟨RX8, "isInUse", "(I)Z"⟩
abbrev cX8_formOf : ByteArray := prog_10_method_13_code
def yX8_formOf : MethodName := ⟨RX8, "formOf", "(I)I"⟩
abbrev cX8_setForm : ByteArray := prog_10_method_14_code
def yX8_setForm : MethodName := ⟨RX8, "setForm", "(II)V"⟩
abbrev cX8_nounsOf : ByteArray := prog_10_method_15_code
def yX8_nounsOf : MethodName := ⟨RX8, "nounsOf", "(I)I"⟩
abbrev cX8_adjectivesOf : ByteArray := prog_10_method_16_code
def yX8_adjectivesOf : MethodName := ⟨RX8, "adjectivesOf", "(I)I"⟩
abbrev cX8_addNamed : ByteArray := prog_10_method_17_code
def yX8_addNamed : MethodName := ⟨RX8, "addNamed", "(IIZ)Z"⟩
abbrev cX9_init : ByteArray := prog_1_method_1_code
def yX9_init : MethodName := ⟨RX9, "<init>", "()V"⟩
abbrev cX9_thing : ByteArray := prog_1_method_2_code
def yX9_thing : MethodName := ⟨RX9, "thing", "(I)I"⟩
abbrev cX9_see : ByteArray := prog_1_method_3_code
def yX9_see : MethodName := ⟨RX9, "see", "(IZ)I"⟩
abbrev cX9_own : ByteArray := prog_1_method_4_code
def yX9_own : MethodName := ⟨RX9, "own", "(II)I"⟩
abbrev cX9_turn : ByteArray := prog_1_method_5_code
def yX9_turn : MethodName := ⟨RX9, "turn", "(II)I"⟩
abbrev cX9_feed : ByteArray := prog_1_method_6_code
def yX9_feed : MethodName := ⟨RX9, "feed", "(IJ)I"⟩
abbrev cX9_word : ByteArray := prog_1_method_7_code
def yX9_word : MethodName := ⟨RX9, "word", "(I)I"⟩
abbrev cX9_name : ByteArray := prog_1_method_8_code
def yX9_name : MethodName := ⟨RX9, "name", "(III)I"⟩
abbrev cX9_form : ByteArray := prog_1_method_9_code
def yX9_form : MethodName := ⟨RX9, "form", "(II)I"⟩
abbrev cX9_same : ByteArray := prog_1_method_10_code
def yX9_same : MethodName := ⟨RX9, "same", "(II)I"⟩
abbrev cX9_line : ByteArray := prog_1_method_11_code
def yX9_line : MethodName := ⟨RX9, "line", "()I"⟩
abbrev cX9_fault : ByteArray := prog_1_method_12_code
def yX9_fault : MethodName := ⟨RX9, "fault", "()I"⟩
abbrev cX9_order : ByteArray := prog_1_method_13_code
def yX9_order : MethodName := ⟨RX9, "order", "(II)I"⟩
abbrev cX9_given : ByteArray := prog_1_method_14_code
def yX9_given : MethodName := ⟨RX9, "given", "(III)I"⟩
abbrev cX9_table : ByteArray := prog_1_method_15_code
def yX9_table : MethodName := ⟨RX9, "table", "(II)I"⟩
abbrev cX9_count : ByteArray := prog_1_method_16_code
def yX9_count : MethodName := ⟨RX9, "count", "(I)I"⟩
abbrev cX9_isBelow : ByteArray := prog_1_method_17_code
def yX9_isBelow : MethodName := ⟨RX9, "isBelow", "(II)Z"⟩
abbrev cX9_isIn : ByteArray := prog_1_method_18_code
def yX9_isIn : MethodName := ⟨RX9, "isIn", "(II)Z"⟩
abbrev cX9_bitOf : ByteArray := prog_1_method_19_code
def yX9_bitOf : MethodName := ⟨RX9, "bitOf", "(I)I"⟩
abbrev cX10_init : ByteArray := prog_12_method_1_code
def yX10_init : MethodName := ⟨RX10, "<init>", "()V"⟩
abbrev cX10_isIn : ByteArray := prog_12_method_2_code
def yX10_isIn : MethodName := ⟨RX10, "isIn", "(III)Z"⟩
abbrev cX10_isThing : ByteArray := prog_12_method_3_code
def yX10_isThing : MethodName := ⟨RX10, "isThing", "(I)Z"⟩
abbrev cX10_isWord : ByteArray := prog_12_method_4_code
def yX10_isWord : MethodName := ⟨RX10, "isWord", "(I)Z"⟩
abbrev cX10_thing : ByteArray := prog_12_method_5_code
def yX10_thing : MethodName := ⟨RX10, "thing", "(I)I"⟩
abbrev cX10_see : ByteArray := prog_12_method_6_code
def yX10_see : MethodName := ⟨RX10, "see", "(IZ)I"⟩
abbrev cX10_own : ByteArray := prog_12_method_7_code
def yX10_own : MethodName := ⟨RX10, "own", "(II)I"⟩
abbrev cX10_turn : ByteArray := prog_12_method_8_code
def yX10_turn : MethodName := ⟨RX10, "turn", "(II)I"⟩
abbrev cX10_feed : ByteArray := prog_12_method_9_code
def yX10_feed : MethodName := ⟨RX10, "feed", "(IJ)I"⟩
abbrev cX10_fixedOf : ByteArray := prog_12_method_10_code
def yX10_fixedOf : MethodName := ⟨RX10, "fixedOf", "(J)I"⟩
abbrev cX10_wordOf : ByteArray := prog_12_method_11_code
def yX10_wordOf : MethodName := ⟨RX10, "wordOf", "(J)I"⟩
abbrev cX10_word : ByteArray := prog_12_method_12_code
def yX10_word : MethodName := ⟨RX10, "word", "(I)I"⟩
abbrev cX10_name : ByteArray := prog_12_method_13_code
def yX10_name : MethodName := ⟨RX10, "name", "(III)I"⟩
abbrev cX10_form : ByteArray := prog_12_method_14_code
def yX10_form : MethodName := ⟨RX10, "form", "(II)I"⟩
abbrev cX10_same : ByteArray := prog_12_method_15_code
def yX10_same : MethodName := ⟨RX10, "same", "(II)I"⟩
abbrev cX10_isLetter : ByteArray := prog_12_method_16_code
def yX10_isLetter : MethodName := ⟨RX10, "isLetter", "(I)Z"⟩
abbrev cX10_cuts : ByteArray := prog_12_method_17_code
def yX10_cuts : MethodName := ⟨RX10, "cuts", "(I)Z"⟩
abbrev cX10_comes : ByteArray := prog_12_method_18_code
def yX10_comes : MethodName := ⟨RX10, "comes", "(II)V"⟩
abbrev cX10_fails : ByteArray := prog_12_method_19_code
def yX10_fails : MethodName := ⟨RX10, "fails", "(II)Z"⟩
abbrev cX10_wrong : ByteArray := prog_12_method_20_code
def yX10_wrong : MethodName := ⟨RX10, "wrong", "()Z"⟩
abbrev cX10_isSort : ByteArray := prog_12_method_21_code
def yX10_isSort : MethodName := ⟨RX10, "isSort", "(II)Z"⟩
abbrev cX10_isVerbBehind : ByteArray := prog_12_method_22_code
def yX10_isVerbBehind : MethodName := ⟨RX10, "isVerbBehind", "()Z"⟩
abbrev cX10_tableMeans : ByteArray := prog_12_method_23_code
def yX10_tableMeans : MethodName := ⟨RX10, "tableMeans", "(II)Z"⟩
abbrev cX10_oneMeans : ByteArray := prog_12_method_24_code
def yX10_oneMeans : MethodName := ⟨RX10, "oneMeans", "(I)Z"⟩
abbrev cX10_item : ByteArray := prog_12_method_25_code
def yX10_item : MethodName := ⟨RX10, "item", "(I)Z"⟩
abbrev cX10_placeIn : ByteArray := prog_12_method_26_code
def yX10_placeIn : MethodName := ⟨RX10, "placeIn", "(I)I"⟩
abbrev cX10_items : ByteArray := prog_12_method_27_code
def yX10_items : MethodName := ⟨RX10, "items", "(IZ)Z"⟩
abbrev cX10_list : ByteArray := prog_12_method_28_code
def yX10_list : MethodName := ⟨RX10, "list", "(I)Z"⟩
abbrev cX10_keeps : ByteArray := prog_12_method_29_code
def yX10_keeps : MethodName := ⟨RX10, "keeps", "(I)V"⟩
abbrev cX10_sets : ByteArray := prog_12_method_30_code
def yX10_sets : MethodName := ⟨RX10, "sets", "(I)V"⟩
abbrev cX10_understood : ByteArray := prog_12_method_31_code
def yX10_understood : MethodName := ⟨RX10, "understood", "()V"⟩
abbrev cX10_command : ByteArray := prog_12_method_32_code
def yX10_command : MethodName := ⟨RX10, "command", "(IZ)Z"⟩
abbrev cX10_commands : ByteArray := prog_12_method_33_code
def yX10_commands : MethodName := ⟨RX10, "commands", "(I)Z"⟩
abbrev cX10_again : ByteArray := prog_12_method_34_code
def yX10_again : MethodName := ⟨RX10, "again", "()Z"⟩
abbrev cX10_someone : ByteArray := prog_12_method_35_code
def yX10_someone : MethodName := ⟨RX10, "someone", "(I)Z"⟩
abbrev cX10_order : ByteArray := prog_12_method_36_code
def yX10_order : MethodName := ⟨RX10, "order", "()Z"⟩
abbrev cX10_isBetween : ByteArray := prog_12_method_37_code
def yX10_isBetween : MethodName := ⟨RX10, "isBetween", "()Z"⟩
abbrev cX10_line : ByteArray := prog_12_method_38_code
def yX10_line : MethodName := ⟨RX10, "line", "()I"⟩
abbrev cX10_fault : ByteArray := prog_12_method_39_code
def yX10_fault : MethodName := ⟨RX10, "fault", "()I"⟩
abbrev cX10_order_ : ByteArray := prog_12_method_40_code
def yX10_order_ : MethodName := ⟨RX10, "order", "(II)I"⟩
abbrev cX10_given : ByteArray := prog_12_method_41_code
def yX10_given : MethodName := ⟨RX10, "given", "(III)I"⟩
abbrev cX10_table : ByteArray := prog_12_method_42_code
def yX10_table : MethodName := ⟨RX10, "table", "(II)I"⟩
abbrev cX10_count : ByteArray := prog_12_method_43_code
def yX10_count : MethodName := ⟨RX10, "count", "(I)I"⟩
abbrev cJ7_fill_53178 : ByteArray := prog_16_method_103_code
def yJ7_fill_53178 : MethodName := ⟨RJ7, "fill", "([II)V"⟩
abbrev vwCl : List vw_C := [(RX0, TX0, 5), (RX1, TX1, 4), (RX2, TX2, 11), (RX3, TX3, 4), (RX4, TX4, 2), (RX5, TX5, 3), (RX6, TX6, 4), (RX7, TX7, 5), (RX8, TX8, 8), (RX9, TX9, 6), (RX10, TX10, 37)]
/-- which fields hold references, by class and slot -/
def xfrL : List (List Bool) := [[true, true, false, false, false], [true, true, false, false], [true, true, true, true, true, true, true, true, false, false, false], [true, true, true, true], [true, false], [true, false, false], [true, true, false, false], [true, true, true, false, false], [true, true, true, true, true, true, true, false], [true, true, true, true, true, true], [true, false, true, true, true, false, true, true, true, true, true, true, false, true, true, false, false, false, false, true, true, true, true, true, false, false, false, false, false, true, true, true, true, true, false, true, false]]
def xfr (ci j : Nat) : Bool := (xfrL.getD ci []).getD j false
end
section
/-- an instruction with what it links: (pc, instruction, length, targets, a, b, c, place of its link's word, constant) -/
abbrev xI : Type := Nat × Instr × Nat × List Nat × Nat × Nat × Nat × Nat × Int64
/-- a method: (name, bytes, locals, what it returns, its class, kind 0 static 1 instance 2 constructor, its instructions) -/
abbrev xMe : Type := MethodName × ByteArray × Nat × Option FieldType × String × Nat × List xI
set_option maxRecDepth 20000 in
def pX0_init : List xI := [(0, .aload_n 0, 1, [], 0, 0, 0, 0, 0),
  (1, .invokespecial 3, 3, [], 0, 0, 2, 239, 0),
  (4, .aload_n 0, 1, [], 0, 0, 0, 0, 0),
  (5, .new 9, 3, [], 5, 0, 0, 240, 0),
  (8, .dup, 1, [], 0, 0, 0, 0, 0),
  (9, .invokespecial 11, 3, [], 50, 0, 1, 241, 0),
  (12, .putfield 12, 3, [], 0, 0, 0, 242, 0),
  (15, .aload_n 0, 1, [], 0, 0, 0, 0, 0),
  (16, .new 9, 3, [], 5, 0, 0, 240, 0),
  (19, .dup, 1, [], 0, 0, 0, 0, 0),
  (20, .invokespecial 11, 3, [], 50, 0, 1, 241, 0),
  (23, .putfield 18, 3, [], 0, 1, 0, 245, 0),
  (26, .return_, 1, [], 0, 0, 0, 0, 0)]
def mX0_init : xMe := (yX0_init, cX0_init, 1, none, RX0, 2, pX0_init)
set_option maxRecDepth 20000 in
def pX0_startVerb : List xI := [(0, .aload_n 0, 1, [], 0, 0, 0, 0, 0),
  (1, .iload_n 1, 1, [], 0, 0, 0, 0, 0),
  (2, .putfield 21, 3, [], 0, 3, 0, 251, 0),
  (5, .aload_n 0, 1, [], 0, 0, 0, 0, 0),
  (6, .bipush (-4), 2, [], 0, 0, 0, 0, 0),
  (8, .putfield 25, 3, [], 0, 4, 0, 253, 0),
  (11, .aload_n 0, 1, [], 0, 0, 0, 0, 0),
  (12, .getfield 12, 3, [], 0, 0, 0, 242, 0),
  (15, .invokevirtual 28, 3, [5], 54, 0, 0, 726, 0),
  (18, .aload_n 0, 1, [], 0, 0, 0, 0, 0),
  (19, .getfield 18, 3, [], 0, 1, 0, 245, 0),
  (22, .invokevirtual 28, 3, [5], 54, 0, 0, 726, 0),
  (25, .return_, 1, [], 0, 0, 0, 0, 0)]
def mX0_startVerb : xMe := (yX0_startVerb, cX0_startVerb, 2, none, RX0, 1, pX0_startVerb)
set_option maxRecDepth 20000 in
def pX0_copyFrom : List xI := [(0, .aload_n 0, 1, [], 0, 0, 0, 0, 0),
  (1, .aload_n 1, 1, [], 0, 0, 0, 0, 0),
  (2, .getfield 31, 3, [], 0, 2, 0, 248, 0),
  (5, .putfield 31, 3, [], 0, 2, 0, 248, 0),
  (8, .aload_n 0, 1, [], 0, 0, 0, 0, 0),
  (9, .aload_n 1, 1, [], 0, 0, 0, 0, 0),
  (10, .getfield 21, 3, [], 0, 3, 0, 251, 0),
  (13, .putfield 21, 3, [], 0, 3, 0, 251, 0),
  (16, .aload_n 0, 1, [], 0, 0, 0, 0, 0),
  (17, .aload_n 1, 1, [], 0, 0, 0, 0, 0),
  (18, .getfield 25, 3, [], 0, 4, 0, 253, 0),
  (21, .putfield 25, 3, [], 0, 4, 0, 253, 0),
  (24, .aload_n 0, 1, [], 0, 0, 0, 0, 0),
  (25, .getfield 12, 3, [], 0, 0, 0, 242, 0),
  (28, .aload_n 1, 1, [], 0, 0, 0, 0, 0),
  (29, .getfield 12, 3, [], 0, 0, 0, 242, 0),
  (32, .invokevirtual 34, 3, [5], 57, 1, 0, 630, 0),
  (35, .aload_n 0, 1, [], 0, 0, 0, 0, 0),
  (36, .getfield 18, 3, [], 0, 1, 0, 245, 0),
  (39, .aload_n 1, 1, [], 0, 0, 0, 0, 0),
  (40, .getfield 18, 3, [], 0, 1, 0, 245, 0),
  (43, .invokevirtual 34, 3, [5], 57, 1, 0, 630, 0),
  (46, .return_, 1, [], 0, 0, 0, 0, 0)]
def mX0_copyFrom : xMe := (yX0_copyFrom, cX0_copyFrom, 2, none, RX0, 1, pX0_copyFrom)
set_option maxRecDepth 20000 in
def pX0_members : List xI := [(0, .aload_n 0, 1, [], 0, 0, 0, 0, 0),
  (1, .getfield 31, 3, [], 0, 2, 0, 248, 0),
  (4, .invokestatic 38, 3, [], 114, 1, 1, 601, 0),
  (7, .aload_n 0, 1, [], 0, 0, 0, 0, 0),
  (8, .getfield 12, 3, [], 0, 0, 0, 242, 0),
  (11, .invokevirtual 42, 3, [5], 52, 0, 0, 602, 0),
  (14, .ior, 1, [], 0, 0, 0, 0, 0),
  (15, .aload_n 0, 1, [], 0, 0, 0, 0, 0),
  (16, .getfield 18, 3, [], 0, 1, 0, 245, 0),
  (19, .invokevirtual 42, 3, [5], 52, 0, 0, 602, 0),
  (22, .ior, 1, [], 0, 0, 0, 0, 0),
  (23, .ireturn, 1, [], 0, 0, 0, 0, 0)]
def mX0_members : xMe := (yX0_members, cX0_members, 1, some .int, RX0, 1, pX0_members)
set_option maxRecDepth 20000 in
def pX1_init : List xI := [(0, .aload_n 0, 1, [], 0, 0, 0, 0, 0),
  (1, .invokespecial 3, 3, [], 0, 0, 2, 232, 0),
  (4, .aload_n 0, 1, [], 0, 0, 0, 0, 0),
  (5, .bipush 10, 2, [], 0, 0, 0, 0, 0),
  (7, .anewarray 9, 3, [], 104, 0, 0, 233, 0),
  (10, .putfield 11, 3, [], 1, 0, 0, 267, 0),
  (13, .aload_n 0, 1, [], 0, 0, 0, 0, 0),
  (14, .new 9, 3, [], 0, 0, 0, 233, 0),
  (17, .dup, 1, [], 0, 0, 0, 0, 0),
  (18, .invokespecial 17, 3, [], 0, 0, 1, 236, 0),
  (21, .putfield 18, 3, [], 1, 1, 0, 268, 0),
  (24, .iconst 0, 1, [], 0, 0, 0, 0, 0),
  (25, .istore_n 1, 1, [], 0, 0, 0, 0, 0),
  (26, .iload_n 1, 1, [], 0, 0, 0, 0, 0),
  (27, .bipush 10, 2, [], 0, 0, 0, 0, 0),
  (29, .if_icmp .ge 22, 3, [25], 0, 0, 0, 0, 0),
  (32, .aload_n 0, 1, [], 0, 0, 0, 0, 0),
  (33, .getfield 11, 3, [], 1, 0, 0, 267, 0),
  (36, .iload_n 1, 1, [], 0, 0, 0, 0, 0),
  (37, .new 9, 3, [], 0, 0, 0, 233, 0),
  (40, .dup, 1, [], 0, 0, 0, 0, 0),
  (41, .invokespecial 17, 3, [], 0, 0, 1, 236, 0),
  (44, .aastore, 1, [], 0, 0, 0, 0, 0),
  (45, .iinc 1 1, 3, [], 0, 0, 0, 0, 0),
  (48, .goto (-22), 3, [13], 0, 0, 0, 0, 0),
  (51, .return_, 1, [], 0, 0, 0, 0, 0)]
def mX1_init : xMe := (yX1_init, cX1_init, 2, none, RX1, 2, pX1_init)
set_option maxRecDepth 20000 in
def pX1_size : List xI := [(0, .aload_n 0, 1, [], 0, 0, 0, 0, 0),
  (1, .getfield 22, 3, [], 1, 2, 0, 269, 0),
  (4, .ireturn, 1, [], 0, 0, 0, 0, 0)]
def mX1_size : xMe := (yX1_size, cX1_size, 1, some .int, RX1, 1, pX1_size)
set_option maxRecDepth 20000 in
def pX1_total : List xI := [(0, .aload_n 0, 1, [], 0, 0, 0, 0, 0),
  (1, .getfield 26, 3, [], 1, 3, 0, 270, 0),
  (4, .ireturn, 1, [], 0, 0, 0, 0, 0)]
def mX1_total : xMe := (yX1_total, cX1_total, 1, some .int, RX1, 1, pX1_total)
set_option maxRecDepth 20000 in
def pX1_startLine : List xI := [(0, .aload_n 0, 1, [], 0, 0, 0, 0, 0),
  (1, .iconst 0, 1, [], 0, 0, 0, 0, 0),
  (2, .putfield 22, 3, [], 1, 2, 0, 269, 0),
  (5, .return_, 1, [], 0, 0, 0, 0, 0)]
def mX1_startLine : xMe := (yX1_startLine, cX1_startLine, 1, none, RX1, 1, pX1_startLine)
set_option maxRecDepth 20000 in
def pX1_areFull : List xI := [(0, .aload_n 0, 1, [], 0, 0, 0, 0, 0),
  (1, .getfield 22, 3, [], 1, 2, 0, 269, 0),
  (4, .bipush 10, 2, [], 0, 0, 0, 0, 0),
  (6, .if_icmp .lt 7, 3, [6], 0, 0, 0, 0, 0),
  (9, .iconst 1, 1, [], 0, 0, 0, 0, 0),
  (10, .goto 4, 3, [7], 0, 0, 0, 0, 0),
  (13, .iconst 0, 1, [], 0, 0, 0, 0, 0),
  (14, .ireturn, 1, [], 0, 0, 0, 0, 0)]
def mX1_areFull : xMe := (yX1_areFull, cX1_areFull, 1, some .boolean, RX1, 1, pX1_areFull)
set_option maxRecDepth 20000 in
def pX1_at : List xI := [(0, .iload_n 1, 1, [], 0, 0, 0, 0, 0),
  (1, .ifCond .lt 20, 3, [11], 0, 0, 0, 0, 0),
  (4, .iload_n 1, 1, [], 0, 0, 0, 0, 0),
  (5, .aload_n 0, 1, [], 0, 0, 0, 0, 0),
  (6, .getfield 22, 3, [], 1, 2, 0, 269, 0),
  (9, .if_icmp .ge 12, 3, [11], 0, 0, 0, 0, 0),
  (12, .aload_n 0, 1, [], 0, 0, 0, 0, 0),
  (13, .getfield 11, 3, [], 1, 0, 0, 267, 0),
  (16, .iload_n 1, 1, [], 0, 0, 0, 0, 0),
  (17, .aaload, 1, [], 0, 0, 0, 0, 0),
  (18, .goto 4, 3, [12], 0, 0, 0, 0, 0),
  (21, .aconst_null, 1, [], 0, 0, 0, 0, 0),
  (22, .areturn, 1, [], 0, 0, 0, 0, 0)]
def mX1_at : xMe := (yX1_at, cX1_at, 2, some (.object "PronounOrders$Order"), RX1, 1, pX1_at)
set_option maxRecDepth 20000 in
def pX1_latest : List xI := [(0, .aload_n 0, 1, [], 0, 0, 0, 0, 0),
  (1, .getfield 18, 3, [], 1, 1, 0, 268, 0),
  (4, .areturn, 1, [], 0, 0, 0, 0, 0)]
def mX1_latest : xMe := (yX1_latest, cX1_latest, 1, some (.object "PronounOrders$Order"), RX1, 1, pX1_latest)
set_option maxRecDepth 20000 in
def pX1_keep : List xI := [(0, .aload_n 0, 1, [], 0, 0, 0, 0, 0),
  (1, .getfield 22, 3, [], 1, 2, 0, 269, 0),
  (4, .bipush 10, 2, [], 0, 0, 0, 0, 0),
  (6, .if_icmp .ge 44, 3, [27], 0, 0, 0, 0, 0),
  (9, .aload_n 0, 1, [], 0, 0, 0, 0, 0),
  (10, .getfield 11, 3, [], 1, 0, 0, 267, 0),
  (13, .aload_n 0, 1, [], 0, 0, 0, 0, 0),
  (14, .getfield 22, 3, [], 1, 2, 0, 269, 0),
  (17, .aaload, 1, [], 0, 0, 0, 0, 0),
  (18, .aload_n 1, 1, [], 0, 0, 0, 0, 0),
  (19, .invokevirtual 29, 3, [0], 2, 1, 0, 626, 0),
  (22, .aload_n 0, 1, [], 0, 0, 0, 0, 0),
  (23, .getfield 18, 3, [], 1, 1, 0, 268, 0),
  (26, .aload_n 1, 1, [], 0, 0, 0, 0, 0),
  (27, .invokevirtual 29, 3, [0], 2, 1, 0, 626, 0),
  (30, .aload_n 0, 1, [], 0, 0, 0, 0, 0),
  (31, .dup, 1, [], 0, 0, 0, 0, 0),
  (32, .getfield 22, 3, [], 1, 2, 0, 269, 0),
  (35, .iconst 1, 1, [], 0, 0, 0, 0, 0),
  (36, .iadd, 1, [], 0, 0, 0, 0, 0),
  (37, .putfield 22, 3, [], 1, 2, 0, 269, 0),
  (40, .aload_n 0, 1, [], 0, 0, 0, 0, 0),
  (41, .dup, 1, [], 0, 0, 0, 0, 0),
  (42, .getfield 26, 3, [], 1, 3, 0, 270, 0),
  (45, .iconst 1, 1, [], 0, 0, 0, 0, 0),
  (46, .iadd, 1, [], 0, 0, 0, 0, 0),
  (47, .putfield 26, 3, [], 1, 3, 0, 270, 0),
  (50, .return_, 1, [], 0, 0, 0, 0, 0)]
def mX1_keep : xMe := (yX1_keep, cX1_keep, 2, none, RX1, 1, pX1_keep)
set_option maxRecDepth 20000 in
def pX2_init : List xI := [(0, .aload_n 0, 1, [], 0, 0, 0, 0, 0),
  (1, .invokespecial 3, 3, [], 0, 0, 2, 285, 0),
  (4, .aload_n 0, 1, [], 0, 0, 0, 0, 0),
  (5, .new 9, 3, [], 7, 0, 0, 286, 0),
  (8, .dup, 1, [], 0, 0, 0, 0, 0),
  (9, .invokespecial 11, 3, [], 70, 0, 1, 288, 0),
  (12, .putfield 12, 3, [], 2, 4, 0, 316, 0),
  (15, .aload_n 0, 1, [], 0, 0, 0, 0, 0),
  (16, .new 18, 3, [], 0, 0, 0, 308, 0),
  (19, .dup, 1, [], 0, 0, 0, 0, 0),
  (20, .invokespecial 20, 3, [], 0, 0, 1, 309, 0),
  (23, .putfield 21, 3, [], 2, 5, 0, 317, 0),
  (26, .aload_n 0, 1, [], 0, 0, 0, 0, 0),
  (27, .new 25, 3, [], 5, 0, 0, 310, 0),
  (30, .dup, 1, [], 0, 0, 0, 0, 0),
  (31, .invokespecial 27, 3, [], 50, 0, 1, 311, 0),
  (34, .putfield 28, 3, [], 2, 6, 0, 318, 0),
  (37, .aload_n 0, 1, [], 0, 0, 0, 0, 0),
  (38, .new 25, 3, [], 5, 0, 0, 310, 0),
  (41, .dup, 1, [], 0, 0, 0, 0, 0),
  (42, .invokespecial 27, 3, [], 50, 0, 1, 311, 0),
  (45, .putfield 32, 3, [], 2, 7, 0, 319, 0),
  (48, .aload_n 0, 1, [], 0, 0, 0, 0, 0),
  (49, .aload_n 1, 1, [], 0, 0, 0, 0, 0),
  (50, .putfield 35, 3, [], 2, 0, 0, 312, 0),
  (53, .aload_n 0, 1, [], 0, 0, 0, 0, 0),
  (54, .aload_n 2, 1, [], 0, 0, 0, 0, 0),
  (55, .putfield 39, 3, [], 2, 1, 0, 313, 0),
  (58, .aload_n 0, 1, [], 0, 0, 0, 0, 0),
  (59, .aload_n 3, 1, [], 0, 0, 0, 0, 0),
  (60, .putfield 43, 3, [], 2, 2, 0, 314, 0),
  (63, .aload_n 0, 1, [], 0, 0, 0, 0, 0),
  (64, .aload 4, 2, [], 0, 0, 0, 0, 0),
  (66, .putfield 47, 3, [], 2, 3, 0, 315, 0),
  (69, .return_, 1, [], 0, 0, 0, 0, 0)]
def mX2_init : xMe := (yX2_init, cX2_init, 5, none, RX2, 2, pX2_init)
set_option maxRecDepth 20000 in
def pX2_faultNumber : List xI := [(0, .aload_n 0, 1, [], 0, 0, 0, 0, 0),
  (1, .getfield 51, 3, [], 2, 9, 0, 321, 0),
  (4, .ireturn, 1, [], 0, 0, 0, 0, 0)]
def mX2_faultNumber : xMe := (yX2_faultNumber, cX2_faultNumber, 1, some .int, RX2, 1, pX2_faultNumber)
set_option maxRecDepth 20000 in
def pX2_faultPlace : List xI := [(0, .aload_n 0, 1, [], 0, 0, 0, 0, 0),
  (1, .getfield 12, 3, [], 2, 4, 0, 316, 0),
  (4, .aload_n 0, 1, [], 0, 0, 0, 0, 0),
  (5, .getfield 55, 3, [], 2, 10, 0, 322, 0),
  (8, .invokevirtual 58, 3, [7], 73, 1, 0, 769, 0),
  (11, .ireturn, 1, [], 0, 0, 0, 0, 0)]
def mX2_faultPlace : xMe := (yX2_faultPlace, cX2_faultPlace, 1, some .int, RX2, 1, pX2_faultPlace)
set_option maxRecDepth 20000 in
def pX2_begin : List xI := [(0, .aload_n 0, 1, [], 0, 0, 0, 0, 0),
  (1, .getfield 12, 3, [], 2, 4, 0, 316, 0),
  (4, .aload_n 1, 1, [], 0, 0, 0, 0, 0),
  (5, .aload_n 0, 1, [], 0, 0, 0, 0, 0),
  (6, .getfield 39, 3, [], 2, 1, 0, 313, 0),
  (9, .invokevirtual 62, 3, [7], 74, 2, 0, 535, 0),
  (12, .aload_n 0, 1, [], 0, 0, 0, 0, 0),
  (13, .getfield 47, 3, [], 2, 3, 0, 315, 0),
  (16, .invokevirtual 66, 3, [1], 7, 0, 0, 562, 0),
  (19, .aload_n 0, 1, [], 0, 0, 0, 0, 0),
  (20, .iconst 0, 1, [], 0, 0, 0, 0, 0),
  (21, .putfield 71, 3, [], 2, 8, 0, 320, 0),
  (24, .aload_n 0, 1, [], 0, 0, 0, 0, 0),
  (25, .iconst 0, 1, [], 0, 0, 0, 0, 0),
  (26, .putfield 51, 3, [], 2, 9, 0, 321, 0),
  (29, .aload_n 0, 1, [], 0, 0, 0, 0, 0),
  (30, .iconst 0, 1, [], 0, 0, 0, 0, 0),
  (31, .putfield 55, 3, [], 2, 10, 0, 322, 0),
  (34, .return_, 1, [], 0, 0, 0, 0, 0)]
def mX2_begin : xMe := (yX2_begin, cX2_begin, 2, none, RX2, 1, pX2_begin)
set_option maxRecDepth 20000 in
def pX2_readOrder : List xI := [(0, .aload_n 0, 1, [], 0, 0, 0, 0, 0),
  (1, .invokevirtual 74, 3, [2], 17, 0, 0, 570, 0),
  (4, .aload_n 0, 1, [], 0, 0, 0, 0, 0),
  (5, .getfield 12, 3, [], 2, 4, 0, 316, 0),
  (8, .aload_n 0, 1, [], 0, 0, 0, 0, 0),
  (9, .getfield 71, 3, [], 2, 8, 0, 320, 0),
  (12, .invokevirtual 77, 3, [7], 71, 1, 0, 574, 0),
  (15, .istore_n 1, 1, [], 0, 0, 0, 0, 0),
  (16, .iload_n 1, 1, [], 0, 0, 0, 0, 0),
  (17, .bipush 28, 2, [], 0, 0, 0, 0, 0),
  (19, .if_icmp .ne 5, 3, [13], 0, 0, 0, 0, 0),
  (22, .iconst 0, 1, [], 0, 0, 0, 0, 0),
  (23, .ireturn, 1, [], 0, 0, 0, 0, 0),
  (24, .iload_n 1, 1, [], 0, 0, 0, 0, 0),
  (25, .bipush 7, 2, [], 0, 0, 0, 0, 0),
  (27, .if_icmp .ne 8, 3, [19], 0, 0, 0, 0, 0),
  (30, .aload_n 0, 1, [], 0, 0, 0, 0, 0),
  (31, .invokevirtual 80, 3, [2], 21, 0, 0, 581, 0),
  (34, .ireturn, 1, [], 0, 0, 0, 0, 0),
  (35, .aload_n 0, 1, [], 0, 0, 0, 0, 0),
  (36, .getfield 21, 3, [], 2, 5, 0, 317, 0),
  (39, .iconst 0, 1, [], 0, 0, 0, 0, 0),
  (40, .putfield 84, 3, [], 0, 2, 0, 249, 0),
  (43, .aload_n 0, 1, [], 0, 0, 0, 0, 0),
  (44, .getfield 32, 3, [], 2, 7, 0, 319, 0),
  (47, .invokevirtual 87, 3, [5], 54, 0, 0, 634, 0),
  (50, .iload_n 1, 1, [], 0, 0, 0, 0, 0),
  (51, .bipush 24, 2, [], 0, 0, 0, 0, 0),
  (53, .if_icmp .eq 12, 3, [34], 0, 0, 0, 0, 0),
  (56, .aload_n 0, 1, [], 0, 0, 0, 0, 0),
  (57, .invokevirtual 90, 3, [2], 22, 0, 0, 638, 0),
  (60, .ifCond .ne 5, 3, [34], 0, 0, 0, 0, 0),
  (63, .iconst 0, 1, [], 0, 0, 0, 0, 0),
  (64, .ireturn, 1, [], 0, 0, 0, 0, 0),
  (65, .iconst 0, 1, [], 0, 0, 0, 0, 0),
  (66, .istore_n 2, 1, [], 0, 0, 0, 0, 0),
  (67, .iload_n 2, 1, [], 0, 0, 0, 0, 0),
  (68, .bipush 10, 2, [], 0, 0, 0, 0, 0),
  (70, .if_icmp .gt 59, 3, [69], 0, 0, 0, 0, 0),
  (73, .aload_n 0, 1, [], 0, 0, 0, 0, 0),
  (74, .invokevirtual 93, 3, [2], 23, 0, 0, 717, 0),
  (77, .ifCond .ne 5, 3, [44], 0, 0, 0, 0, 0),
  (80, .iconst 0, 1, [], 0, 0, 0, 0, 0),
  (81, .ireturn, 1, [], 0, 0, 0, 0, 0),
  (82, .aload_n 0, 1, [], 0, 0, 0, 0, 0),
  (83, .invokevirtual 96, 3, [2], 20, 0, 0, 740, 0),
  (86, .istore_n 3, 1, [], 0, 0, 0, 0, 0),
  (87, .iload_n 3, 1, [], 0, 0, 0, 0, 0),
  (88, .ifCond .ne 15, 3, [55], 0, 0, 0, 0, 0),
  (91, .aload_n 0, 1, [], 0, 0, 0, 0, 0),
  (92, .invokevirtual 99, 3, [2], 19, 0, 0, 614, 0),
  (95, .ifCond .ne 8, 3, [55], 0, 0, 0, 0, 0),
  (98, .aload_n 0, 1, [], 0, 0, 0, 0, 0),
  (99, .invokevirtual 102, 3, [2], 37, 0, 0, 618, 0),
  (102, .ireturn, 1, [], 0, 0, 0, 0, 0),
  (103, .aload_n 0, 1, [], 0, 0, 0, 0, 0),
  (104, .invokevirtual 105, 3, [2], 24, 0, 0, 744, 0),
  (107, .iload_n 3, 1, [], 0, 0, 0, 0, 0),
  (108, .ifCond .ne 5, 3, [61], 0, 0, 0, 0, 0),
  (111, .iconst 1, 1, [], 0, 0, 0, 0, 0),
  (112, .ireturn, 1, [], 0, 0, 0, 0, 0),
  (113, .aload_n 0, 1, [], 0, 0, 0, 0, 0),
  (114, .dup, 1, [], 0, 0, 0, 0, 0),
  (115, .getfield 71, 3, [], 2, 8, 0, 320, 0),
  (118, .iconst 1, 1, [], 0, 0, 0, 0, 0),
  (119, .iadd, 1, [], 0, 0, 0, 0, 0),
  (120, .putfield 71, 3, [], 2, 8, 0, 320, 0),
  (123, .iinc 2 1, 3, [], 0, 0, 0, 0, 0),
  (126, .goto (-59), 3, [36], 0, 0, 0, 0, 0),
  (129, .iconst 0, 1, [], 0, 0, 0, 0, 0),
  (130, .ireturn, 1, [], 0, 0, 0, 0, 0)]
def mX2_readOrder : xMe := (yX2_readOrder, cX2_readOrder, 4, some .boolean, RX2, 1, pX2_readOrder)
set_option maxRecDepth 20000 in
def pX2_skipStops : List xI := [(0, .iconst 0, 1, [], 0, 0, 0, 0, 0),
  (1, .istore_n 1, 1, [], 0, 0, 0, 0, 0),
  (2, .iload_n 1, 1, [], 0, 0, 0, 0, 0),
  (3, .sipush 200, 3, [], 0, 0, 0, 0, 0),
  (6, .if_icmp .ge 36, 3, [20], 0, 0, 0, 0, 0),
  (9, .aload_n 0, 1, [], 0, 0, 0, 0, 0),
  (10, .getfield 12, 3, [], 2, 4, 0, 316, 0),
  (13, .aload_n 0, 1, [], 0, 0, 0, 0, 0),
  (14, .getfield 71, 3, [], 2, 8, 0, 320, 0),
  (17, .invokevirtual 77, 3, [7], 71, 1, 0, 574, 0),
  (20, .invokestatic 108, 3, [], 18, 1, 0, 578, 0),
  (23, .ifCond .eq 19, 3, [20], 0, 0, 0, 0, 0),
  (26, .aload_n 0, 1, [], 0, 0, 0, 0, 0),
  (27, .dup, 1, [], 0, 0, 0, 0, 0),
  (28, .getfield 71, 3, [], 2, 8, 0, 320, 0),
  (31, .iconst 1, 1, [], 0, 0, 0, 0, 0),
  (32, .iadd, 1, [], 0, 0, 0, 0, 0),
  (33, .putfield 71, 3, [], 2, 8, 0, 320, 0),
  (36, .iinc 1 1, 3, [], 0, 0, 0, 0, 0),
  (39, .goto (-37), 3, [2], 0, 0, 0, 0, 0),
  (42, .return_, 1, [], 0, 0, 0, 0, 0)]
def mX2_skipStops : xMe := (yX2_skipStops, cX2_skipStops, 2, none, RX2, 1, pX2_skipStops)
set_option maxRecDepth 20000 in
def pX2_isStop : List xI := [(0, .iload_n 0, 1, [], 0, 0, 0, 0, 0),
  (1, .bipush 22, 2, [], 0, 0, 0, 0, 0),
  (3, .if_icmp .eq 8, 3, [6], 0, 0, 0, 0, 0),
  (6, .iload_n 0, 1, [], 0, 0, 0, 0, 0),
  (7, .iconst 4, 1, [], 0, 0, 0, 0, 0),
  (8, .if_icmp .ne 7, 3, [8], 0, 0, 0, 0, 0),
  (11, .iconst 1, 1, [], 0, 0, 0, 0, 0),
  (12, .goto 4, 3, [9], 0, 0, 0, 0, 0),
  (15, .iconst 0, 1, [], 0, 0, 0, 0, 0),
  (16, .ireturn, 1, [], 0, 0, 0, 0, 0)]
def mX2_isStop : xMe := (yX2_isStop, cX2_isStop, 1, some .boolean, RX2, 0, pX2_isStop)
set_option maxRecDepth 20000 in
def pX2_isOrderEnd : List xI := [(0, .aload_n 0, 1, [], 0, 0, 0, 0, 0),
  (1, .getfield 12, 3, [], 2, 4, 0, 316, 0),
  (4, .aload_n 0, 1, [], 0, 0, 0, 0, 0),
  (5, .getfield 71, 3, [], 2, 8, 0, 320, 0),
  (8, .invokevirtual 77, 3, [7], 71, 1, 0, 574, 0),
  (11, .istore_n 1, 1, [], 0, 0, 0, 0, 0),
  (12, .iload_n 1, 1, [], 0, 0, 0, 0, 0),
  (13, .bipush 28, 2, [], 0, 0, 0, 0, 0),
  (15, .if_icmp .eq 10, 3, [12], 0, 0, 0, 0, 0),
  (18, .iload_n 1, 1, [], 0, 0, 0, 0, 0),
  (19, .invokestatic 108, 3, [], 18, 1, 0, 578, 0),
  (22, .ifCond .eq 7, 3, [14], 0, 0, 0, 0, 0),
  (25, .iconst 1, 1, [], 0, 0, 0, 0, 0),
  (26, .goto 4, 3, [15], 0, 0, 0, 0, 0),
  (29, .iconst 0, 1, [], 0, 0, 0, 0, 0),
  (30, .ireturn, 1, [], 0, 0, 0, 0, 0)]
def mX2_isOrderEnd : xMe := (yX2_isOrderEnd, cX2_isOrderEnd, 2, some .boolean, RX2, 1, pX2_isOrderEnd)
set_option maxRecDepth 20000 in
def pX2_isCommandAnd : List xI := [(0, .aload_n 0, 1, [], 0, 0, 0, 0, 0),
  (1, .getfield 12, 3, [], 2, 4, 0, 316, 0),
  (4, .aload_n 0, 1, [], 0, 0, 0, 0, 0),
  (5, .getfield 71, 3, [], 2, 8, 0, 320, 0),
  (8, .invokevirtual 77, 3, [7], 71, 1, 0, 574, 0),
  (11, .iconst 3, 1, [], 0, 0, 0, 0, 0),
  (12, .if_icmp .ne 25, 3, [18], 0, 0, 0, 0, 0),
  (15, .aload_n 0, 1, [], 0, 0, 0, 0, 0),
  (16, .getfield 12, 3, [], 2, 4, 0, 316, 0),
  (19, .aload_n 0, 1, [], 0, 0, 0, 0, 0),
  (20, .getfield 71, 3, [], 2, 8, 0, 320, 0),
  (23, .iconst 1, 1, [], 0, 0, 0, 0, 0),
  (24, .iadd, 1, [], 0, 0, 0, 0, 0),
  (25, .invokevirtual 77, 3, [7], 71, 1, 0, 574, 0),
  (28, .bipush 24, 2, [], 0, 0, 0, 0, 0),
  (30, .if_icmp .ne 7, 3, [18], 0, 0, 0, 0, 0),
  (33, .iconst 1, 1, [], 0, 0, 0, 0, 0),
  (34, .goto 4, 3, [19], 0, 0, 0, 0, 0),
  (37, .iconst 0, 1, [], 0, 0, 0, 0, 0),
  (38, .ireturn, 1, [], 0, 0, 0, 0, 0)]
def mX2_isCommandAnd : xMe := (yX2_isCommandAnd, cX2_isCommandAnd, 1, some .boolean, RX2, 1, pX2_isCommandAnd)
set_option maxRecDepth 20000 in
def pX2_readAgain : List xI := [(0, .aload_n 0, 1, [], 0, 0, 0, 0, 0),
  (1, .getfield 47, 3, [], 2, 3, 0, 315, 0),
  (4, .invokevirtual 112, 3, [1], 6, 0, 0, 585, 0),
  (7, .ifCond .ne 14, 3, [10], 0, 0, 0, 0, 0),
  (10, .aload_n 0, 1, [], 0, 0, 0, 0, 0),
  (11, .bipush 6, 2, [], 0, 0, 0, 0, 0),
  (13, .aload_n 0, 1, [], 0, 0, 0, 0, 0),
  (14, .getfield 71, 3, [], 2, 8, 0, 320, 0),
  (17, .invokevirtual 116, 3, [2], 38, 2, 0, 589, 0),
  (20, .ireturn, 1, [], 0, 0, 0, 0, 0),
  (21, .aload_n 0, 1, [], 0, 0, 0, 0, 0),
  (22, .getfield 47, 3, [], 2, 3, 0, 315, 0),
  (25, .invokevirtual 120, 3, [1], 10, 0, 0, 593, 0),
  (28, .invokevirtual 124, 3, [0], 3, 0, 0, 597, 0),
  (31, .aload_n 0, 1, [], 0, 0, 0, 0, 0),
  (32, .getfield 35, 3, [], 2, 0, 0, 312, 0),
  (35, .invokevirtual 127, 3, [6], 63, 0, 0, 606, 0),
  (38, .iconst (-1), 1, [], 0, 0, 0, 0, 0),
  (39, .ixor, 1, [], 0, 0, 0, 0, 0),
  (40, .iand, 1, [], 0, 0, 0, 0, 0),
  (41, .ifCond .eq 14, 3, [27], 0, 0, 0, 0, 0),
  (44, .aload_n 0, 1, [], 0, 0, 0, 0, 0),
  (45, .bipush 7, 2, [], 0, 0, 0, 0, 0),
  (47, .aload_n 0, 1, [], 0, 0, 0, 0, 0),
  (48, .getfield 71, 3, [], 2, 8, 0, 320, 0),
  (51, .invokevirtual 116, 3, [2], 38, 2, 0, 589, 0),
  (54, .ireturn, 1, [], 0, 0, 0, 0, 0),
  (55, .aload_n 0, 1, [], 0, 0, 0, 0, 0),
  (56, .getfield 47, 3, [], 2, 3, 0, 315, 0),
  (59, .invokevirtual 132, 3, [1], 8, 0, 0, 610, 0),
  (62, .ifCond .eq 14, 3, [37], 0, 0, 0, 0, 0),
  (65, .aload_n 0, 1, [], 0, 0, 0, 0, 0),
  (66, .bipush 9, 2, [], 0, 0, 0, 0, 0),
  (68, .aload_n 0, 1, [], 0, 0, 0, 0, 0),
  (69, .getfield 71, 3, [], 2, 8, 0, 320, 0),
  (72, .invokevirtual 116, 3, [2], 38, 2, 0, 589, 0),
  (75, .ireturn, 1, [], 0, 0, 0, 0, 0),
  (76, .aload_n 0, 1, [], 0, 0, 0, 0, 0),
  (77, .dup, 1, [], 0, 0, 0, 0, 0),
  (78, .getfield 71, 3, [], 2, 8, 0, 320, 0),
  (81, .iconst 1, 1, [], 0, 0, 0, 0, 0),
  (82, .iadd, 1, [], 0, 0, 0, 0, 0),
  (83, .putfield 71, 3, [], 2, 8, 0, 320, 0),
  (86, .aload_n 0, 1, [], 0, 0, 0, 0, 0),
  (87, .invokevirtual 99, 3, [2], 19, 0, 0, 614, 0),
  (90, .ifCond .ne 8, 3, [49], 0, 0, 0, 0, 0),
  (93, .aload_n 0, 1, [], 0, 0, 0, 0, 0),
  (94, .invokevirtual 102, 3, [2], 37, 0, 0, 618, 0),
  (97, .ireturn, 1, [], 0, 0, 0, 0, 0),
  (98, .aload_n 0, 1, [], 0, 0, 0, 0, 0),
  (99, .getfield 47, 3, [], 2, 3, 0, 315, 0),
  (102, .aload_n 0, 1, [], 0, 0, 0, 0, 0),
  (103, .getfield 47, 3, [], 2, 3, 0, 315, 0),
  (106, .invokevirtual 120, 3, [1], 10, 0, 0, 593, 0),
  (109, .invokevirtual 135, 3, [1], 11, 1, 0, 622, 0),
  (112, .iconst 1, 1, [], 0, 0, 0, 0, 0),
  (113, .ireturn, 1, [], 0, 0, 0, 0, 0)]
def mX2_readAgain : xMe := (yX2_readAgain, cX2_readAgain, 1, some .boolean, RX2, 1, pX2_readAgain)
set_option maxRecDepth 20000 in
def pX2_readActor : List xI := [(0, .aload_n 0, 1, [], 0, 0, 0, 0, 0),
  (1, .getfield 12, 3, [], 2, 4, 0, 316, 0),
  (4, .aload_n 0, 1, [], 0, 0, 0, 0, 0),
  (5, .getfield 71, 3, [], 2, 8, 0, 320, 0),
  (8, .invokevirtual 77, 3, [7], 71, 1, 0, 574, 0),
  (11, .iconst 5, 1, [], 0, 0, 0, 0, 0),
  (12, .if_icmp .ne 7, 3, [9], 0, 0, 0, 0, 0),
  (15, .iconst 1, 1, [], 0, 0, 0, 0, 0),
  (16, .goto 4, 3, [10], 0, 0, 0, 0, 0),
  (19, .iconst 0, 1, [], 0, 0, 0, 0, 0),
  (20, .istore_n 1, 1, [], 0, 0, 0, 0, 0),
  (21, .iload_n 1, 1, [], 0, 0, 0, 0, 0),
  (22, .ifCond .eq 13, 3, [19], 0, 0, 0, 0, 0),
  (25, .aload_n 0, 1, [], 0, 0, 0, 0, 0),
  (26, .dup, 1, [], 0, 0, 0, 0, 0),
  (27, .getfield 71, 3, [], 2, 8, 0, 320, 0),
  (30, .iconst 1, 1, [], 0, 0, 0, 0, 0),
  (31, .iadd, 1, [], 0, 0, 0, 0, 0),
  (32, .putfield 71, 3, [], 2, 8, 0, 320, 0),
  (35, .aload_n 0, 1, [], 0, 0, 0, 0, 0),
  (36, .getfield 71, 3, [], 2, 8, 0, 320, 0),
  (39, .istore_n 2, 1, [], 0, 0, 0, 0, 0),
  (40, .aload_n 0, 1, [], 0, 0, 0, 0, 0),
  (41, .aload_n 0, 1, [], 0, 0, 0, 0, 0),
  (42, .getfield 32, 3, [], 2, 7, 0, 319, 0),
  (45, .invokevirtual 139, 3, [2], 27, 1, 0, 642, 0),
  (48, .ifCond .ne 5, 3, [29], 0, 0, 0, 0, 0),
  (51, .iconst 0, 1, [], 0, 0, 0, 0, 0),
  (52, .ireturn, 1, [], 0, 0, 0, 0, 0),
  (53, .aload_n 0, 1, [], 0, 0, 0, 0, 0),
  (54, .getfield 32, 3, [], 2, 7, 0, 319, 0),
  (57, .iconst 0, 1, [], 0, 0, 0, 0, 0),
  (58, .invokevirtual 143, 3, [5], 53, 1, 0, 692, 0),
  (61, .istore_n 3, 1, [], 0, 0, 0, 0, 0),
  (62, .aload_n 0, 1, [], 0, 0, 0, 0, 0),
  (63, .getfield 32, 3, [], 2, 7, 0, 319, 0),
  (66, .invokevirtual 145, 3, [5], 51, 0, 0, 660, 0),
  (69, .iconst 1, 1, [], 0, 0, 0, 0, 0),
  (70, .if_icmp .ne 18, 3, [46], 0, 0, 0, 0, 0),
  (73, .iload_n 3, 1, [], 0, 0, 0, 0, 0),
  (74, .ifCond .eq 14, 3, [46], 0, 0, 0, 0, 0),
  (77, .aload_n 0, 1, [], 0, 0, 0, 0, 0),
  (78, .getfield 35, 3, [], 2, 0, 0, 312, 0),
  (81, .iload_n 3, 1, [], 0, 0, 0, 0, 0),
  (82, .invokevirtual 148, 3, [6], 67, 1, 0, 674, 0),
  (85, .ifCond .ne 11, 3, [51], 0, 0, 0, 0, 0),
  (88, .aload_n 0, 1, [], 0, 0, 0, 0, 0),
  (89, .bipush 8, 2, [], 0, 0, 0, 0, 0),
  (91, .iload_n 2, 1, [], 0, 0, 0, 0, 0),
  (92, .invokevirtual 116, 3, [2], 38, 2, 0, 589, 0),
  (95, .ireturn, 1, [], 0, 0, 0, 0, 0),
  (96, .aload_n 0, 1, [], 0, 0, 0, 0, 0),
  (97, .getfield 12, 3, [], 2, 4, 0, 316, 0),
  (100, .aload_n 0, 1, [], 0, 0, 0, 0, 0),
  (101, .getfield 71, 3, [], 2, 8, 0, 320, 0),
  (104, .invokevirtual 77, 3, [7], 71, 1, 0, 574, 0),
  (107, .iload_n 1, 1, [], 0, 0, 0, 0, 0),
  (108, .ifCond .eq 8, 3, [60], 0, 0, 0, 0, 0),
  (111, .bipush 6, 2, [], 0, 0, 0, 0, 0),
  (113, .goto 5, 3, [61], 0, 0, 0, 0, 0),
  (116, .bipush 21, 2, [], 0, 0, 0, 0, 0),
  (118, .if_icmp .eq 8, 3, [65], 0, 0, 0, 0, 0),
  (121, .aload_n 0, 1, [], 0, 0, 0, 0, 0),
  (122, .invokevirtual 102, 3, [2], 37, 0, 0, 618, 0),
  (125, .ireturn, 1, [], 0, 0, 0, 0, 0),
  (126, .aload_n 0, 1, [], 0, 0, 0, 0, 0),
  (127, .dup, 1, [], 0, 0, 0, 0, 0),
  (128, .getfield 71, 3, [], 2, 8, 0, 320, 0),
  (131, .iconst 1, 1, [], 0, 0, 0, 0, 0),
  (132, .iadd, 1, [], 0, 0, 0, 0, 0),
  (133, .putfield 71, 3, [], 2, 8, 0, 320, 0),
  (136, .aload_n 0, 1, [], 0, 0, 0, 0, 0),
  (137, .getfield 21, 3, [], 2, 5, 0, 317, 0),
  (140, .iload_n 3, 1, [], 0, 0, 0, 0, 0),
  (141, .putfield 84, 3, [], 0, 2, 0, 249, 0),
  (144, .iconst 1, 1, [], 0, 0, 0, 0, 0),
  (145, .ireturn, 1, [], 0, 0, 0, 0, 0)]
def mX2_readActor : xMe := (yX2_readActor, cX2_readActor, 4, some .boolean, RX2, 1, pX2_readActor)
set_option maxRecDepth 20000 in
def pX2_readCommand : List xI := [(0, .aload_n 0, 1, [], 0, 0, 0, 0, 0),
  (1, .getfield 12, 3, [], 2, 4, 0, 316, 0),
  (4, .aload_n 0, 1, [], 0, 0, 0, 0, 0),
  (5, .getfield 71, 3, [], 2, 8, 0, 320, 0),
  (8, .invokevirtual 77, 3, [7], 71, 1, 0, 574, 0),
  (11, .bipush 24, 2, [], 0, 0, 0, 0, 0),
  (13, .if_icmp .eq 8, 3, [10], 0, 0, 0, 0, 0),
  (16, .aload_n 0, 1, [], 0, 0, 0, 0, 0),
  (17, .invokevirtual 102, 3, [2], 37, 0, 0, 618, 0),
  (20, .ireturn, 1, [], 0, 0, 0, 0, 0),
  (21, .aload_n 0, 1, [], 0, 0, 0, 0, 0),
  (22, .getfield 47, 3, [], 2, 3, 0, 315, 0),
  (25, .invokevirtual 132, 3, [1], 8, 0, 0, 610, 0),
  (28, .ifCond .eq 14, 3, [20], 0, 0, 0, 0, 0),
  (31, .aload_n 0, 1, [], 0, 0, 0, 0, 0),
  (32, .bipush 9, 2, [], 0, 0, 0, 0, 0),
  (34, .aload_n 0, 1, [], 0, 0, 0, 0, 0),
  (35, .getfield 71, 3, [], 2, 8, 0, 320, 0),
  (38, .invokevirtual 116, 3, [2], 38, 2, 0, 589, 0),
  (41, .ireturn, 1, [], 0, 0, 0, 0, 0),
  (42, .aload_n 0, 1, [], 0, 0, 0, 0, 0),
  (43, .getfield 39, 3, [], 2, 1, 0, 313, 0),
  (46, .aload_n 0, 1, [], 0, 0, 0, 0, 0),
  (47, .getfield 12, 3, [], 2, 4, 0, 316, 0),
  (50, .aload_n 0, 1, [], 0, 0, 0, 0, 0),
  (51, .getfield 71, 3, [], 2, 8, 0, 320, 0),
  (54, .invokevirtual 151, 3, [7], 72, 1, 0, 710, 0),
  (57, .invokevirtual 154, 3, [8], 91, 1, 0, 721, 0),
  (60, .istore_n 1, 1, [], 0, 0, 0, 0, 0),
  (61, .aload_n 0, 1, [], 0, 0, 0, 0, 0),
  (62, .getfield 21, 3, [], 2, 5, 0, 317, 0),
  (65, .aload_n 0, 1, [], 0, 0, 0, 0, 0),
  (66, .getfield 12, 3, [], 2, 4, 0, 316, 0),
  (69, .aload_n 0, 1, [], 0, 0, 0, 0, 0),
  (70, .getfield 71, 3, [], 2, 8, 0, 320, 0),
  (73, .invokevirtual 151, 3, [7], 72, 1, 0, 710, 0),
  (76, .invokevirtual 159, 3, [0], 1, 1, 0, 722, 0),
  (79, .aload_n 0, 1, [], 0, 0, 0, 0, 0),
  (80, .dup, 1, [], 0, 0, 0, 0, 0),
  (81, .getfield 71, 3, [], 2, 8, 0, 320, 0),
  (84, .iconst 1, 1, [], 0, 0, 0, 0, 0),
  (85, .iadd, 1, [], 0, 0, 0, 0, 0),
  (86, .putfield 71, 3, [], 2, 8, 0, 320, 0),
  (89, .iload_n 1, 1, [], 0, 0, 0, 0, 0),
  (90, .ifCond .ne 5, 3, [47], 0, 0, 0, 0, 0),
  (93, .iconst 1, 1, [], 0, 0, 0, 0, 0),
  (94, .ireturn, 1, [], 0, 0, 0, 0, 0),
  (95, .aload_n 0, 1, [], 0, 0, 0, 0, 0),
  (96, .aload_n 0, 1, [], 0, 0, 0, 0, 0),
  (97, .getfield 21, 3, [], 2, 5, 0, 317, 0),
  (100, .getfield 163, 3, [], 0, 0, 0, 243, 0),
  (103, .invokevirtual 166, 3, [2], 25, 1, 0, 727, 0),
  (106, .ifCond .ne 5, 3, [55], 0, 0, 0, 0, 0),
  (109, .iconst 0, 1, [], 0, 0, 0, 0, 0),
  (110, .ireturn, 1, [], 0, 0, 0, 0, 0),
  (111, .aload_n 0, 1, [], 0, 0, 0, 0, 0),
  (112, .getfield 12, 3, [], 2, 4, 0, 316, 0),
  (115, .aload_n 0, 1, [], 0, 0, 0, 0, 0),
  (116, .getfield 71, 3, [], 2, 8, 0, 320, 0),
  (119, .invokevirtual 77, 3, [7], 71, 1, 0, 574, 0),
  (122, .bipush 25, 2, [], 0, 0, 0, 0, 0),
  (124, .if_icmp .ne 7, 3, [64], 0, 0, 0, 0, 0),
  (127, .iconst 1, 1, [], 0, 0, 0, 0, 0),
  (128, .goto 4, 3, [65], 0, 0, 0, 0, 0),
  (131, .iconst 0, 1, [], 0, 0, 0, 0, 0),
  (132, .istore_n 2, 1, [], 0, 0, 0, 0, 0),
  (133, .iload_n 1, 1, [], 0, 0, 0, 0, 0),
  (134, .iconst 1, 1, [], 0, 0, 0, 0, 0),
  (135, .if_icmp .eq 12, 3, [74], 0, 0, 0, 0, 0),
  (138, .iload_n 1, 1, [], 0, 0, 0, 0, 0),
  (139, .iconst 3, 1, [], 0, 0, 0, 0, 0),
  (140, .if_icmp .ne 9, 3, [76], 0, 0, 0, 0, 0),
  (143, .iload_n 2, 1, [], 0, 0, 0, 0, 0),
  (144, .ifCond .ne 5, 3, [76], 0, 0, 0, 0, 0),
  (147, .iconst 1, 1, [], 0, 0, 0, 0, 0),
  (148, .ireturn, 1, [], 0, 0, 0, 0, 0),
  (149, .iload_n 2, 1, [], 0, 0, 0, 0, 0),
  (150, .ifCond .ne 8, 3, [81], 0, 0, 0, 0, 0),
  (153, .aload_n 0, 1, [], 0, 0, 0, 0, 0),
  (154, .invokevirtual 102, 3, [2], 37, 0, 0, 618, 0),
  (157, .ireturn, 1, [], 0, 0, 0, 0, 0),
  (158, .aload_n 0, 1, [], 0, 0, 0, 0, 0),
  (159, .getfield 21, 3, [], 2, 5, 0, 317, 0),
  (162, .aload_n 0, 1, [], 0, 0, 0, 0, 0),
  (163, .getfield 12, 3, [], 2, 4, 0, 316, 0),
  (166, .aload_n 0, 1, [], 0, 0, 0, 0, 0),
  (167, .getfield 71, 3, [], 2, 8, 0, 320, 0),
  (170, .invokevirtual 151, 3, [7], 72, 1, 0, 710, 0),
  (173, .putfield 169, 3, [], 0, 4, 0, 254, 0),
  (176, .aload_n 0, 1, [], 0, 0, 0, 0, 0),
  (177, .dup, 1, [], 0, 0, 0, 0, 0),
  (178, .getfield 71, 3, [], 2, 8, 0, 320, 0),
  (181, .iconst 1, 1, [], 0, 0, 0, 0, 0),
  (182, .iadd, 1, [], 0, 0, 0, 0, 0),
  (183, .putfield 71, 3, [], 2, 8, 0, 320, 0),
  (186, .aload_n 0, 1, [], 0, 0, 0, 0, 0),
  (187, .aload_n 0, 1, [], 0, 0, 0, 0, 0),
  (188, .getfield 21, 3, [], 2, 5, 0, 317, 0),
  (191, .getfield 172, 3, [], 0, 1, 0, 246, 0),
  (194, .invokevirtual 166, 3, [2], 25, 1, 0, 727, 0),
  (197, .ireturn, 1, [], 0, 0, 0, 0, 0)]
def mX2_readCommand : xMe := (yX2_readCommand, cX2_readCommand, 3, some .boolean, RX2, 1, pX2_readCommand)
set_option maxRecDepth 20000 in
def pX2_keepDraft : List xI := [(0, .aload_n 0, 1, [], 0, 0, 0, 0, 0),
  (1, .getfield 47, 3, [], 2, 3, 0, 315, 0),
  (4, .aload_n 0, 1, [], 0, 0, 0, 0, 0),
  (5, .getfield 21, 3, [], 2, 5, 0, 317, 0),
  (8, .invokevirtual 135, 3, [1], 11, 1, 0, 622, 0),
  (11, .aload_n 0, 1, [], 0, 0, 0, 0, 0),
  (12, .getfield 43, 3, [], 2, 2, 0, 314, 0),
  (15, .aload_n 0, 1, [], 0, 0, 0, 0, 0),
  (16, .getfield 32, 3, [], 2, 7, 0, 319, 0),
  (19, .aload_n 0, 1, [], 0, 0, 0, 0, 0),
  (20, .getfield 35, 3, [], 2, 0, 0, 312, 0),
  (23, .invokevirtual 175, 3, [3], 41, 2, 0, 748, 0),
  (26, .aload_n 0, 1, [], 0, 0, 0, 0, 0),
  (27, .getfield 32, 3, [], 2, 7, 0, 319, 0),
  (30, .invokevirtual 87, 3, [5], 54, 0, 0, 634, 0),
  (33, .aload_n 0, 1, [], 0, 0, 0, 0, 0),
  (34, .getfield 43, 3, [], 2, 2, 0, 314, 0),
  (37, .aload_n 0, 1, [], 0, 0, 0, 0, 0),
  (38, .getfield 21, 3, [], 2, 5, 0, 317, 0),
  (41, .getfield 163, 3, [], 0, 0, 0, 243, 0),
  (44, .aload_n 0, 1, [], 0, 0, 0, 0, 0),
  (45, .getfield 35, 3, [], 2, 0, 0, 312, 0),
  (48, .invokevirtual 175, 3, [3], 41, 2, 0, 748, 0),
  (51, .aload_n 0, 1, [], 0, 0, 0, 0, 0),
  (52, .getfield 43, 3, [], 2, 2, 0, 314, 0),
  (55, .aload_n 0, 1, [], 0, 0, 0, 0, 0),
  (56, .getfield 21, 3, [], 2, 5, 0, 317, 0),
  (59, .getfield 172, 3, [], 0, 1, 0, 246, 0),
  (62, .aload_n 0, 1, [], 0, 0, 0, 0, 0),
  (63, .getfield 35, 3, [], 2, 0, 0, 312, 0),
  (66, .invokevirtual 175, 3, [3], 41, 2, 0, 748, 0),
  (69, .return_, 1, [], 0, 0, 0, 0, 0)]
def mX2_keepDraft : xMe := (yX2_keepDraft, cX2_keepDraft, 1, none, RX2, 1, pX2_keepDraft)
set_option maxRecDepth 20000 in
def pX2_readList : List xI := [(0, .aload_n 1, 1, [], 0, 0, 0, 0, 0),
  (1, .astore_n 2, 1, [], 0, 0, 0, 0, 0),
  (2, .bipush (-4), 2, [], 0, 0, 0, 0, 0),
  (4, .istore_n 3, 1, [], 0, 0, 0, 0, 0),
  (5, .aload_n 0, 1, [], 0, 0, 0, 0, 0),
  (6, .getfield 28, 3, [], 2, 6, 0, 318, 0),
  (9, .invokevirtual 87, 3, [5], 54, 0, 0, 634, 0),
  (12, .iconst 0, 1, [], 0, 0, 0, 0, 0),
  (13, .istore 4, 2, [], 0, 0, 0, 0, 0),
  (15, .iload 4, 2, [], 0, 0, 0, 0, 0),
  (17, .sipush 200, 3, [], 0, 0, 0, 0, 0),
  (20, .if_icmp .ge 74, 3, [47], 0, 0, 0, 0, 0),
  (23, .aload_n 0, 1, [], 0, 0, 0, 0, 0),
  (24, .aload_n 2, 1, [], 0, 0, 0, 0, 0),
  (25, .invokevirtual 139, 3, [2], 27, 1, 0, 642, 0),
  (28, .ifCond .ne 5, 3, [18], 0, 0, 0, 0, 0),
  (31, .iconst 0, 1, [], 0, 0, 0, 0, 0),
  (32, .ireturn, 1, [], 0, 0, 0, 0, 0),
  (33, .aload_n 0, 1, [], 0, 0, 0, 0, 0),
  (34, .invokevirtual 181, 3, [2], 26, 0, 0, 731, 0),
  (37, .ifCond .eq 6, 3, [22], 0, 0, 0, 0, 0),
  (40, .goto 48, 3, [45], 0, 0, 0, 0, 0),
  (43, .aload_n 0, 1, [], 0, 0, 0, 0, 0),
  (44, .getfield 12, 3, [], 2, 4, 0, 316, 0),
  (47, .aload_n 0, 1, [], 0, 0, 0, 0, 0),
  (48, .getfield 71, 3, [], 2, 8, 0, 320, 0),
  (51, .invokevirtual 77, 3, [7], 71, 1, 0, 574, 0),
  (54, .bipush 20, 2, [], 0, 0, 0, 0, 0),
  (56, .if_icmp .ne 38, 3, [47], 0, 0, 0, 0, 0),
  (59, .iload_n 3, 1, [], 0, 0, 0, 0, 0),
  (60, .bipush (-4), 2, [], 0, 0, 0, 0, 0),
  (62, .if_icmp .eq 6, 3, [33], 0, 0, 0, 0, 0),
  (65, .goto 29, 3, [47], 0, 0, 0, 0, 0),
  (68, .aload_n 0, 1, [], 0, 0, 0, 0, 0),
  (69, .getfield 71, 3, [], 2, 8, 0, 320, 0),
  (72, .istore_n 3, 1, [], 0, 0, 0, 0, 0),
  (73, .aload_n 0, 1, [], 0, 0, 0, 0, 0),
  (74, .dup, 1, [], 0, 0, 0, 0, 0),
  (75, .getfield 71, 3, [], 2, 8, 0, 320, 0),
  (78, .iconst 1, 1, [], 0, 0, 0, 0, 0),
  (79, .iadd, 1, [], 0, 0, 0, 0, 0),
  (80, .putfield 71, 3, [], 2, 8, 0, 320, 0),
  (83, .aload_n 0, 1, [], 0, 0, 0, 0, 0),
  (84, .getfield 28, 3, [], 2, 6, 0, 318, 0),
  (87, .astore_n 2, 1, [], 0, 0, 0, 0, 0),
  (88, .iinc 4 1, 3, [], 0, 0, 0, 0, 0),
  (91, .goto (-76), 3, [9], 0, 0, 0, 0, 0),
  (94, .aload_n 1, 1, [], 0, 0, 0, 0, 0),
  (95, .aload_n 0, 1, [], 0, 0, 0, 0, 0),
  (96, .getfield 28, 3, [], 2, 6, 0, 318, 0),
  (99, .invokevirtual 184, 3, [5], 52, 0, 0, 664, 0),
  (102, .invokevirtual 185, 3, [5], 56, 1, 0, 735, 0),
  (105, .aload_n 1, 1, [], 0, 0, 0, 0, 0),
  (106, .invokevirtual 145, 3, [5], 51, 0, 0, 660, 0),
  (109, .ifCond .gt 12, 3, [60], 0, 0, 0, 0, 0),
  (112, .aload_n 0, 1, [], 0, 0, 0, 0, 0),
  (113, .iconst 4, 1, [], 0, 0, 0, 0, 0),
  (114, .iload_n 3, 1, [], 0, 0, 0, 0, 0),
  (115, .invokevirtual 116, 3, [2], 38, 2, 0, 589, 0),
  (118, .ifCond .eq 7, 3, [62], 0, 0, 0, 0, 0),
  (121, .iconst 1, 1, [], 0, 0, 0, 0, 0),
  (122, .goto 4, 3, [63], 0, 0, 0, 0, 0),
  (125, .iconst 0, 1, [], 0, 0, 0, 0, 0),
  (126, .ireturn, 1, [], 0, 0, 0, 0, 0)]
def mX2_readList : xMe := (yX2_readList, cX2_readList, 5, some .boolean, RX2, 1, pX2_readList)
set_option maxRecDepth 20000 in
def pX2_skipSeparator : List xI := [(0, .aload_n 0, 1, [], 0, 0, 0, 0, 0),
  (1, .getfield 71, 3, [], 2, 8, 0, 320, 0),
  (4, .istore_n 1, 1, [], 0, 0, 0, 0, 0),
  (5, .aload_n 0, 1, [], 0, 0, 0, 0, 0),
  (6, .getfield 12, 3, [], 2, 4, 0, 316, 0),
  (9, .aload_n 0, 1, [], 0, 0, 0, 0, 0),
  (10, .getfield 71, 3, [], 2, 8, 0, 320, 0),
  (13, .invokevirtual 77, 3, [7], 71, 1, 0, 574, 0),
  (16, .bipush 21, 2, [], 0, 0, 0, 0, 0),
  (18, .if_icmp .ne 13, 3, [16], 0, 0, 0, 0, 0),
  (21, .aload_n 0, 1, [], 0, 0, 0, 0, 0),
  (22, .dup, 1, [], 0, 0, 0, 0, 0),
  (23, .getfield 71, 3, [], 2, 8, 0, 320, 0),
  (26, .iconst 1, 1, [], 0, 0, 0, 0, 0),
  (27, .iadd, 1, [], 0, 0, 0, 0, 0),
  (28, .putfield 71, 3, [], 2, 8, 0, 320, 0),
  (31, .aload_n 0, 1, [], 0, 0, 0, 0, 0),
  (32, .getfield 12, 3, [], 2, 4, 0, 316, 0),
  (35, .aload_n 0, 1, [], 0, 0, 0, 0, 0),
  (36, .getfield 71, 3, [], 2, 8, 0, 320, 0),
  (39, .invokevirtual 77, 3, [7], 71, 1, 0, 574, 0),
  (42, .iconst 3, 1, [], 0, 0, 0, 0, 0),
  (43, .if_icmp .ne 31, 3, [38], 0, 0, 0, 0, 0),
  (46, .aload_n 0, 1, [], 0, 0, 0, 0, 0),
  (47, .getfield 12, 3, [], 2, 4, 0, 316, 0),
  (50, .aload_n 0, 1, [], 0, 0, 0, 0, 0),
  (51, .getfield 71, 3, [], 2, 8, 0, 320, 0),
  (54, .iconst 1, 1, [], 0, 0, 0, 0, 0),
  (55, .iadd, 1, [], 0, 0, 0, 0, 0),
  (56, .invokevirtual 77, 3, [7], 71, 1, 0, 574, 0),
  (59, .bipush 24, 2, [], 0, 0, 0, 0, 0),
  (61, .if_icmp .eq 13, 3, [38], 0, 0, 0, 0, 0),
  (64, .aload_n 0, 1, [], 0, 0, 0, 0, 0),
  (65, .dup, 1, [], 0, 0, 0, 0, 0),
  (66, .getfield 71, 3, [], 2, 8, 0, 320, 0),
  (69, .iconst 1, 1, [], 0, 0, 0, 0, 0),
  (70, .iadd, 1, [], 0, 0, 0, 0, 0),
  (71, .putfield 71, 3, [], 2, 8, 0, 320, 0),
  (74, .aload_n 0, 1, [], 0, 0, 0, 0, 0),
  (75, .getfield 71, 3, [], 2, 8, 0, 320, 0),
  (78, .iload_n 1, 1, [], 0, 0, 0, 0, 0),
  (79, .if_icmp .le 7, 3, [44], 0, 0, 0, 0, 0),
  (82, .iconst 1, 1, [], 0, 0, 0, 0, 0),
  (83, .goto 4, 3, [45], 0, 0, 0, 0, 0),
  (86, .iconst 0, 1, [], 0, 0, 0, 0, 0),
  (87, .ireturn, 1, [], 0, 0, 0, 0, 0)]
def mX2_skipSeparator : xMe := (yX2_skipSeparator, cX2_skipSeparator, 2, some .boolean, RX2, 1, pX2_skipSeparator)
set_option maxRecDepth 20000 in
def pX2_readItem : List xI := [(0, .aload_n 0, 1, [], 0, 0, 0, 0, 0),
  (1, .getfield 12, 3, [], 2, 4, 0, 316, 0),
  (4, .aload_n 0, 1, [], 0, 0, 0, 0, 0),
  (5, .getfield 71, 3, [], 2, 8, 0, 320, 0),
  (8, .invokevirtual 77, 3, [7], 71, 1, 0, 574, 0),
  (11, .istore_n 2, 1, [], 0, 0, 0, 0, 0),
  (12, .iload_n 2, 1, [], 0, 0, 0, 0, 0),
  (13, .invokestatic 188, 3, [], 30, 1, 0, 646, 0),
  (16, .ifCond .eq 16, 3, [16], 0, 0, 0, 0, 0),
  (19, .aload_n 0, 1, [], 0, 0, 0, 0, 0),
  (20, .iload_n 2, 1, [], 0, 0, 0, 0, 0),
  (21, .invokestatic 191, 3, [], 31, 1, 0, 649, 0),
  (24, .invokevirtual 194, 3, [2], 32, 1, 0, 652, 0),
  (27, .ifCond .ne 5, 3, [16], 0, 0, 0, 0, 0),
  (30, .iconst 0, 1, [], 0, 0, 0, 0, 0),
  (31, .ireturn, 1, [], 0, 0, 0, 0, 0),
  (32, .iload_n 2, 1, [], 0, 0, 0, 0, 0),
  (33, .bipush 19, 2, [], 0, 0, 0, 0, 0),
  (35, .if_icmp .ne 9, 3, [23], 0, 0, 0, 0, 0),
  (38, .aload_n 0, 1, [], 0, 0, 0, 0, 0),
  (39, .aload_n 1, 1, [], 0, 0, 0, 0, 0),
  (40, .invokevirtual 197, 3, [2], 34, 1, 0, 665, 0),
  (43, .ireturn, 1, [], 0, 0, 0, 0, 0),
  (44, .iload_n 2, 1, [], 0, 0, 0, 0, 0),
  (45, .invokestatic 200, 3, [], 29, 1, 0, 682, 0),
  (48, .ifCond .ne 27, 3, [38], 0, 0, 0, 0, 0),
  (51, .iload_n 2, 1, [], 0, 0, 0, 0, 0),
  (52, .bipush 10, 2, [], 0, 0, 0, 0, 0),
  (54, .if_icmp .ne 25, 3, [40], 0, 0, 0, 0, 0),
  (57, .aload_n 0, 1, [], 0, 0, 0, 0, 0),
  (58, .getfield 12, 3, [], 2, 4, 0, 316, 0),
  (61, .aload_n 0, 1, [], 0, 0, 0, 0, 0),
  (62, .getfield 71, 3, [], 2, 8, 0, 320, 0),
  (65, .iconst 1, 1, [], 0, 0, 0, 0, 0),
  (66, .iadd, 1, [], 0, 0, 0, 0, 0),
  (67, .invokevirtual 77, 3, [7], 71, 1, 0, 574, 0),
  (70, .bipush 23, 2, [], 0, 0, 0, 0, 0),
  (72, .if_icmp .ne 7, 3, [40], 0, 0, 0, 0, 0),
  (75, .iconst 1, 1, [], 0, 0, 0, 0, 0),
  (76, .goto 4, 3, [41], 0, 0, 0, 0, 0),
  (79, .iconst 0, 1, [], 0, 0, 0, 0, 0),
  (80, .istore_n 3, 1, [], 0, 0, 0, 0, 0),
  (81, .iload_n 3, 1, [], 0, 0, 0, 0, 0),
  (82, .ifCond .ne 18, 3, [53], 0, 0, 0, 0, 0),
  (85, .iload_n 2, 1, [], 0, 0, 0, 0, 0),
  (86, .invokestatic 203, 3, [], 28, 1, 0, 685, 0),
  (89, .ifCond .eq 11, 3, [53], 0, 0, 0, 0, 0),
  (92, .aload_n 0, 1, [], 0, 0, 0, 0, 0),
  (93, .iload_n 2, 1, [], 0, 0, 0, 0, 0),
  (94, .aload_n 1, 1, [], 0, 0, 0, 0, 0),
  (95, .invokevirtual 206, 3, [2], 35, 2, 0, 688, 0),
  (98, .iconst 1, 1, [], 0, 0, 0, 0, 0),
  (99, .ireturn, 1, [], 0, 0, 0, 0, 0),
  (100, .aload_n 0, 1, [], 0, 0, 0, 0, 0),
  (101, .getfield 35, 3, [], 2, 0, 0, 312, 0),
  (104, .invokevirtual 127, 3, [6], 63, 0, 0, 606, 0),
  (107, .istore 4, 2, [], 0, 0, 0, 0, 0),
  (109, .iload_n 3, 1, [], 0, 0, 0, 0, 0),
  (110, .ifCond .eq 20, 3, [68], 0, 0, 0, 0, 0),
  (113, .iload 4, 2, [], 0, 0, 0, 0, 0),
  (115, .aload_n 0, 1, [], 0, 0, 0, 0, 0),
  (116, .getfield 35, 3, [], 2, 0, 0, 312, 0),
  (119, .aload_n 0, 1, [], 0, 0, 0, 0, 0),
  (120, .iload_n 2, 1, [], 0, 0, 0, 0, 0),
  (121, .invokevirtual 210, 3, [2], 33, 1, 0, 696, 0),
  (124, .invokevirtual 213, 3, [6], 69, 1, 0, 701, 0),
  (127, .iand, 1, [], 0, 0, 0, 0, 0),
  (128, .istore 4, 2, [], 0, 0, 0, 0, 0),
  (130, .iload_n 3, 1, [], 0, 0, 0, 0, 0),
  (131, .ifCond .ne 17, 3, [78], 0, 0, 0, 0, 0),
  (134, .iload_n 2, 1, [], 0, 0, 0, 0, 0),
  (135, .ifCond .eq 13, 3, [78], 0, 0, 0, 0, 0),
  (138, .iload_n 2, 1, [], 0, 0, 0, 0, 0),
  (139, .iconst 1, 1, [], 0, 0, 0, 0, 0),
  (140, .if_icmp .eq 8, 3, [78], 0, 0, 0, 0, 0),
  (143, .iload_n 2, 1, [], 0, 0, 0, 0, 0),
  (144, .iconst 2, 1, [], 0, 0, 0, 0, 0),
  (145, .if_icmp .ne 13, 3, [84], 0, 0, 0, 0, 0),
  (148, .aload_n 0, 1, [], 0, 0, 0, 0, 0),
  (149, .dup, 1, [], 0, 0, 0, 0, 0),
  (150, .getfield 71, 3, [], 2, 8, 0, 320, 0),
  (153, .iconst 1, 1, [], 0, 0, 0, 0, 0),
  (154, .iadd, 1, [], 0, 0, 0, 0, 0),
  (155, .putfield 71, 3, [], 2, 8, 0, 320, 0),
  (158, .aload_n 0, 1, [], 0, 0, 0, 0, 0),
  (159, .getfield 12, 3, [], 2, 4, 0, 316, 0),
  (162, .aload_n 0, 1, [], 0, 0, 0, 0, 0),
  (163, .getfield 71, 3, [], 2, 8, 0, 320, 0),
  (166, .invokevirtual 77, 3, [7], 71, 1, 0, 574, 0),
  (169, .bipush 23, 2, [], 0, 0, 0, 0, 0),
  (171, .if_icmp .ne 13, 3, [96], 0, 0, 0, 0, 0),
  (174, .aload_n 0, 1, [], 0, 0, 0, 0, 0),
  (175, .aload_n 1, 1, [], 0, 0, 0, 0, 0),
  (176, .iload 4, 2, [], 0, 0, 0, 0, 0),
  (178, .invokevirtual 216, 3, [2], 36, 2, 0, 706, 0),
  (181, .goto 7, 3, [98], 0, 0, 0, 0, 0),
  (184, .aload_n 0, 1, [], 0, 0, 0, 0, 0),
  (185, .invokevirtual 102, 3, [2], 37, 0, 0, 618, 0),
  (188, .ireturn, 1, [], 0, 0, 0, 0, 0)]
def mX2_readItem : xMe := (yX2_readItem, cX2_readItem, 5, some .boolean, RX2, 1, pX2_readItem)
set_option maxRecDepth 20000 in
def pX2_isPronoun : List xI := [(0, .iload_n 0, 1, [], 0, 0, 0, 0, 0),
  (1, .bipush 8, 2, [], 0, 0, 0, 0, 0),
  (3, .if_icmp .lt 13, 3, [8], 0, 0, 0, 0, 0),
  (6, .iload_n 0, 1, [], 0, 0, 0, 0, 0),
  (7, .bipush 14, 2, [], 0, 0, 0, 0, 0),
  (9, .if_icmp .gt 7, 3, [8], 0, 0, 0, 0, 0),
  (12, .iconst 1, 1, [], 0, 0, 0, 0, 0),
  (13, .goto 4, 3, [9], 0, 0, 0, 0, 0),
  (16, .iconst 0, 1, [], 0, 0, 0, 0, 0),
  (17, .ireturn, 1, [], 0, 0, 0, 0, 0)]
def mX2_isPronoun : xMe := (yX2_isPronoun, cX2_isPronoun, 1, some .boolean, RX2, 0, pX2_isPronoun)
set_option maxRecDepth 20000 in
def pX2_isWhose : List xI := [(0, .iload_n 0, 1, [], 0, 0, 0, 0, 0),
  (1, .bipush 15, 2, [], 0, 0, 0, 0, 0),
  (3, .if_icmp .lt 13, 3, [8], 0, 0, 0, 0, 0),
  (6, .iload_n 0, 1, [], 0, 0, 0, 0, 0),
  (7, .bipush 18, 2, [], 0, 0, 0, 0, 0),
  (9, .if_icmp .gt 7, 3, [8], 0, 0, 0, 0, 0),
  (12, .iconst 1, 1, [], 0, 0, 0, 0, 0),
  (13, .goto 4, 3, [9], 0, 0, 0, 0, 0),
  (16, .iconst 0, 1, [], 0, 0, 0, 0, 0),
  (17, .ireturn, 1, [], 0, 0, 0, 0, 0)]
def mX2_isWhose : xMe := (yX2_isWhose, cX2_isWhose, 1, some .boolean, RX2, 0, pX2_isWhose)
set_option maxRecDepth 20000 in
def pX2_isFromTable : List xI := [(0, .iload_n 0, 1, [], 0, 0, 0, 0, 0),
  (1, .bipush 8, 2, [], 0, 0, 0, 0, 0),
  (3, .if_icmp .lt 9, 3, [6], 0, 0, 0, 0, 0),
  (6, .iload_n 0, 1, [], 0, 0, 0, 0, 0),
  (7, .bipush 11, 2, [], 0, 0, 0, 0, 0),
  (9, .if_icmp .le 15, 3, [12], 0, 0, 0, 0, 0),
  (12, .iload_n 0, 1, [], 0, 0, 0, 0, 0),
  (13, .bipush 15, 2, [], 0, 0, 0, 0, 0),
  (15, .if_icmp .lt 13, 3, [14], 0, 0, 0, 0, 0),
  (18, .iload_n 0, 1, [], 0, 0, 0, 0, 0),
  (19, .bipush 17, 2, [], 0, 0, 0, 0, 0),
  (21, .if_icmp .gt 7, 3, [14], 0, 0, 0, 0, 0),
  (24, .iconst 1, 1, [], 0, 0, 0, 0, 0),
  (25, .goto 4, 3, [15], 0, 0, 0, 0, 0),
  (28, .iconst 0, 1, [], 0, 0, 0, 0, 0),
  (29, .ireturn, 1, [], 0, 0, 0, 0, 0)]
def mX2_isFromTable : xMe := (yX2_isFromTable, cX2_isFromTable, 1, some .boolean, RX2, 0, pX2_isFromTable)
set_option maxRecDepth 20000 in
def pX2_pronounOf : List xI := [(0, .iload_n 0, 1, [], 0, 0, 0, 0, 0),
  (1, .tableswitch 57 8 16 #[51, 53, 55, 57, 57, 57, 57, 53, 51], 51, [8, 2, 4, 6, 8, 8, 8, 8, 4, 2], 0, 0, 0, 0, 0),
  (52, .iconst 0, 1, [], 0, 0, 0, 0, 0),
  (53, .ireturn, 1, [], 0, 0, 0, 0, 0),
  (54, .iconst 1, 1, [], 0, 0, 0, 0, 0),
  (55, .ireturn, 1, [], 0, 0, 0, 0, 0),
  (56, .iconst 2, 1, [], 0, 0, 0, 0, 0),
  (57, .ireturn, 1, [], 0, 0, 0, 0, 0),
  (58, .iconst 3, 1, [], 0, 0, 0, 0, 0),
  (59, .ireturn, 1, [], 0, 0, 0, 0, 0)]
def mX2_pronounOf : xMe := (yX2_pronounOf, cX2_pronounOf, 1, some .int, RX2, 0, pX2_pronounOf)
set_option maxRecDepth 20000 in
def pX2_isTableReady : List xI := [(0, .aload_n 0, 1, [], 0, 0, 0, 0, 0),
  (1, .getfield 43, 3, [], 2, 2, 0, 314, 0),
  (4, .iload_n 1, 1, [], 0, 0, 0, 0, 0),
  (5, .invokevirtual 220, 3, [3], 40, 1, 0, 656, 0),
  (8, .astore_n 2, 1, [], 0, 0, 0, 0, 0),
  (9, .aload_n 2, 1, [], 0, 0, 0, 0, 0),
  (10, .invokevirtual 145, 3, [5], 51, 0, 0, 660, 0),
  (13, .ifCond .ne 14, 3, [14], 0, 0, 0, 0, 0),
  (16, .aload_n 0, 1, [], 0, 0, 0, 0, 0),
  (17, .bipush 6, 2, [], 0, 0, 0, 0, 0),
  (19, .aload_n 0, 1, [], 0, 0, 0, 0, 0),
  (20, .getfield 71, 3, [], 2, 8, 0, 320, 0),
  (23, .invokevirtual 116, 3, [2], 38, 2, 0, 589, 0),
  (26, .ireturn, 1, [], 0, 0, 0, 0, 0),
  (27, .aload_n 2, 1, [], 0, 0, 0, 0, 0),
  (28, .invokevirtual 184, 3, [5], 52, 0, 0, 664, 0),
  (31, .aload_n 0, 1, [], 0, 0, 0, 0, 0),
  (32, .getfield 35, 3, [], 2, 0, 0, 312, 0),
  (35, .invokevirtual 127, 3, [6], 63, 0, 0, 606, 0),
  (38, .iconst (-1), 1, [], 0, 0, 0, 0, 0),
  (39, .ixor, 1, [], 0, 0, 0, 0, 0),
  (40, .iand, 1, [], 0, 0, 0, 0, 0),
  (41, .ifCond .ne 7, 3, [25], 0, 0, 0, 0, 0),
  (44, .iconst 1, 1, [], 0, 0, 0, 0, 0),
  (45, .goto 4, 3, [26], 0, 0, 0, 0, 0),
  (48, .iconst 0, 1, [], 0, 0, 0, 0, 0),
  (49, .istore_n 3, 1, [], 0, 0, 0, 0, 0),
  (50, .iload_n 3, 1, [], 0, 0, 0, 0, 0),
  (51, .ifCond .ne 16, 3, [35], 0, 0, 0, 0, 0),
  (54, .aload_n 0, 1, [], 0, 0, 0, 0, 0),
  (55, .bipush 7, 2, [], 0, 0, 0, 0, 0),
  (57, .aload_n 0, 1, [], 0, 0, 0, 0, 0),
  (58, .getfield 71, 3, [], 2, 8, 0, 320, 0),
  (61, .invokevirtual 116, 3, [2], 38, 2, 0, 589, 0),
  (64, .ifCond .eq 7, 3, [37], 0, 0, 0, 0, 0),
  (67, .iconst 1, 1, [], 0, 0, 0, 0, 0),
  (68, .goto 4, 3, [38], 0, 0, 0, 0, 0),
  (71, .iconst 0, 1, [], 0, 0, 0, 0, 0),
  (72, .ireturn, 1, [], 0, 0, 0, 0, 0)]
def mX2_isTableReady : xMe := (yX2_isTableReady, cX2_isTableReady, 4, some .boolean, RX2, 1, pX2_isTableReady)
set_option maxRecDepth 20000 in
def pX2_ownersFor : List xI := [(0, .iload_n 1, 1, [], 0, 0, 0, 0, 0),
  (1, .bipush 18, 2, [], 0, 0, 0, 0, 0),
  (3, .if_icmp .ne 10, 3, [6], 0, 0, 0, 0, 0),
  (6, .iconst 0, 1, [], 0, 0, 0, 0, 0),
  (7, .invokestatic 224, 3, [], 114, 1, 1, 700, 0),
  (10, .goto 17, 3, [12], 0, 0, 0, 0, 0),
  (13, .aload_n 0, 1, [], 0, 0, 0, 0, 0),
  (14, .getfield 43, 3, [], 2, 2, 0, 314, 0),
  (17, .iload_n 1, 1, [], 0, 0, 0, 0, 0),
  (18, .invokestatic 191, 3, [], 31, 1, 0, 649, 0),
  (21, .invokevirtual 220, 3, [3], 40, 1, 0, 656, 0),
  (24, .invokevirtual 184, 3, [5], 52, 0, 0, 664, 0),
  (27, .ireturn, 1, [], 0, 0, 0, 0, 0)]
def mX2_ownersFor : xMe := (yX2_ownersFor, cX2_ownersFor, 2, some .int, RX2, 1, pX2_ownersFor)
set_option maxRecDepth 20000 in
def pX2_readAll : List xI := [(0, .aload_n 0, 1, [], 0, 0, 0, 0, 0),
  (1, .getfield 71, 3, [], 2, 8, 0, 320, 0),
  (4, .istore_n 2, 1, [], 0, 0, 0, 0, 0),
  (5, .iconst 0, 1, [], 0, 0, 0, 0, 0),
  (6, .istore_n 3, 1, [], 0, 0, 0, 0, 0),
  (7, .aload_n 0, 1, [], 0, 0, 0, 0, 0),
  (8, .dup, 1, [], 0, 0, 0, 0, 0),
  (9, .getfield 71, 3, [], 2, 8, 0, 320, 0),
  (12, .iconst 1, 1, [], 0, 0, 0, 0, 0),
  (13, .iadd, 1, [], 0, 0, 0, 0, 0),
  (14, .putfield 71, 3, [], 2, 8, 0, 320, 0),
  (17, .iconst 0, 1, [], 0, 0, 0, 0, 0),
  (18, .istore 4, 2, [], 0, 0, 0, 0, 0),
  (20, .iload 4, 2, [], 0, 0, 0, 0, 0),
  (22, .aload_n 0, 1, [], 0, 0, 0, 0, 0),
  (23, .getfield 35, 3, [], 2, 0, 0, 312, 0),
  (26, .invokevirtual 227, 3, [6], 59, 0, 0, 669, 0),
  (29, .if_icmp .ge 42, 3, [34], 0, 0, 0, 0, 0),
  (32, .aload_n 0, 1, [], 0, 0, 0, 0, 0),
  (33, .getfield 35, 3, [], 2, 0, 0, 312, 0),
  (36, .iload 4, 2, [], 0, 0, 0, 0, 0),
  (38, .invokevirtual 228, 3, [6], 62, 1, 0, 673, 0),
  (41, .ifCond .eq 24, 3, [32], 0, 0, 0, 0, 0),
  (44, .aload_n 0, 1, [], 0, 0, 0, 0, 0),
  (45, .getfield 35, 3, [], 2, 0, 0, 312, 0),
  (48, .iload 4, 2, [], 0, 0, 0, 0, 0),
  (50, .invokevirtual 148, 3, [6], 67, 1, 0, 674, 0),
  (53, .ifCond .ne 12, 3, [32], 0, 0, 0, 0, 0),
  (56, .aload_n 1, 1, [], 0, 0, 0, 0, 0),
  (57, .iload 4, 2, [], 0, 0, 0, 0, 0),
  (59, .invokevirtual 231, 3, [5], 55, 1, 0, 678, 0),
  (62, .iinc 3 1, 3, [], 0, 0, 0, 0, 0),
  (65, .iinc 4 1, 3, [], 0, 0, 0, 0, 0),
  (68, .goto (-48), 3, [13], 0, 0, 0, 0, 0),
  (71, .iload_n 3, 1, [], 0, 0, 0, 0, 0),
  (72, .ifCond .gt 12, 3, [41], 0, 0, 0, 0, 0),
  (75, .aload_n 0, 1, [], 0, 0, 0, 0, 0),
  (76, .iconst 4, 1, [], 0, 0, 0, 0, 0),
  (77, .iload_n 2, 1, [], 0, 0, 0, 0, 0),
  (78, .invokevirtual 116, 3, [2], 38, 2, 0, 589, 0),
  (81, .ifCond .eq 7, 3, [43], 0, 0, 0, 0, 0),
  (84, .iconst 1, 1, [], 0, 0, 0, 0, 0),
  (85, .goto 4, 3, [44], 0, 0, 0, 0, 0),
  (88, .iconst 0, 1, [], 0, 0, 0, 0, 0),
  (89, .ireturn, 1, [], 0, 0, 0, 0, 0)]
def mX2_readAll : xMe := (yX2_readAll, cX2_readAll, 5, some .boolean, RX2, 1, pX2_readAll)
set_option maxRecDepth 20000 in
def pX2_readPronoun : List xI := [(0, .aload_n 0, 1, [], 0, 0, 0, 0, 0),
  (1, .dup, 1, [], 0, 0, 0, 0, 0),
  (2, .getfield 71, 3, [], 2, 8, 0, 320, 0),
  (5, .iconst 1, 1, [], 0, 0, 0, 0, 0),
  (6, .iadd, 1, [], 0, 0, 0, 0, 0),
  (7, .putfield 71, 3, [], 2, 8, 0, 320, 0),
  (10, .iload_n 1, 1, [], 0, 0, 0, 0, 0),
  (11, .bipush 12, 2, [], 0, 0, 0, 0, 0),
  (13, .if_icmp .eq 9, 3, [12], 0, 0, 0, 0, 0),
  (16, .iload_n 1, 1, [], 0, 0, 0, 0, 0),
  (17, .bipush 13, 2, [], 0, 0, 0, 0, 0),
  (19, .if_icmp .ne 11, 3, [16], 0, 0, 0, 0, 0),
  (22, .aload_n 2, 1, [], 0, 0, 0, 0, 0),
  (23, .iconst 0, 1, [], 0, 0, 0, 0, 0),
  (24, .invokevirtual 231, 3, [5], 55, 1, 0, 678, 0),
  (27, .goto 63, 3, [44], 0, 0, 0, 0, 0),
  (30, .iload_n 1, 1, [], 0, 0, 0, 0, 0),
  (31, .bipush 14, 2, [], 0, 0, 0, 0, 0),
  (33, .if_icmp .ne 17, 3, [25], 0, 0, 0, 0, 0),
  (36, .aload_n 2, 1, [], 0, 0, 0, 0, 0),
  (37, .aload_n 0, 1, [], 0, 0, 0, 0, 0),
  (38, .getfield 21, 3, [], 2, 5, 0, 317, 0),
  (41, .getfield 84, 3, [], 0, 2, 0, 249, 0),
  (44, .invokevirtual 231, 3, [5], 55, 1, 0, 678, 0),
  (47, .goto 43, 3, [44], 0, 0, 0, 0, 0),
  (50, .aload_n 0, 1, [], 0, 0, 0, 0, 0),
  (51, .getfield 43, 3, [], 2, 2, 0, 314, 0),
  (54, .iload_n 1, 1, [], 0, 0, 0, 0, 0),
  (55, .invokestatic 191, 3, [], 31, 1, 0, 649, 0),
  (58, .invokevirtual 220, 3, [3], 40, 1, 0, 656, 0),
  (61, .astore_n 3, 1, [], 0, 0, 0, 0, 0),
  (62, .iconst 0, 1, [], 0, 0, 0, 0, 0),
  (63, .istore 4, 2, [], 0, 0, 0, 0, 0),
  (65, .iload 4, 2, [], 0, 0, 0, 0, 0),
  (67, .aload_n 3, 1, [], 0, 0, 0, 0, 0),
  (68, .invokevirtual 145, 3, [5], 51, 0, 0, 660, 0),
  (71, .if_icmp .ge 19, 3, [44], 0, 0, 0, 0, 0),
  (74, .aload_n 2, 1, [], 0, 0, 0, 0, 0),
  (75, .aload_n 3, 1, [], 0, 0, 0, 0, 0),
  (76, .iload 4, 2, [], 0, 0, 0, 0, 0),
  (78, .invokevirtual 143, 3, [5], 53, 1, 0, 692, 0),
  (81, .invokevirtual 231, 3, [5], 55, 1, 0, 678, 0),
  (84, .iinc 4 1, 3, [], 0, 0, 0, 0, 0),
  (87, .goto (-22), 3, [33], 0, 0, 0, 0, 0),
  (90, .return_, 1, [], 0, 0, 0, 0, 0)]
def mX2_readPronoun : xMe := (yX2_readPronoun, cX2_readPronoun, 5, none, RX2, 1, pX2_readPronoun)
set_option maxRecDepth 20000 in
def pX2_readNames : List xI := [(0, .aload_n 0, 1, [], 0, 0, 0, 0, 0),
  (1, .getfield 71, 3, [], 2, 8, 0, 320, 0),
  (4, .istore_n 3, 1, [], 0, 0, 0, 0, 0),
  (5, .iload_n 2, 1, [], 0, 0, 0, 0, 0),
  (6, .istore 4, 2, [], 0, 0, 0, 0, 0),
  (8, .iconst 0, 1, [], 0, 0, 0, 0, 0),
  (9, .istore 5, 2, [], 0, 0, 0, 0, 0),
  (11, .iload 5, 2, [], 0, 0, 0, 0, 0),
  (13, .sipush 200, 3, [], 0, 0, 0, 0, 0),
  (16, .if_icmp .ge 104, 3, [58], 0, 0, 0, 0, 0),
  (19, .aload_n 0, 1, [], 0, 0, 0, 0, 0),
  (20, .getfield 12, 3, [], 2, 4, 0, 316, 0),
  (23, .aload_n 0, 1, [], 0, 0, 0, 0, 0),
  (24, .getfield 71, 3, [], 2, 8, 0, 320, 0),
  (27, .invokevirtual 77, 3, [7], 71, 1, 0, 574, 0),
  (30, .bipush 23, 2, [], 0, 0, 0, 0, 0),
  (32, .if_icmp .ne 88, 3, [58], 0, 0, 0, 0, 0),
  (35, .aload_n 0, 1, [], 0, 0, 0, 0, 0),
  (36, .getfield 12, 3, [], 2, 4, 0, 316, 0),
  (39, .aload_n 0, 1, [], 0, 0, 0, 0, 0),
  (40, .getfield 71, 3, [], 2, 8, 0, 320, 0),
  (43, .invokevirtual 151, 3, [7], 72, 1, 0, 710, 0),
  (46, .istore 6, 2, [], 0, 0, 0, 0, 0),
  (48, .aload_n 0, 1, [], 0, 0, 0, 0, 0),
  (49, .dup, 1, [], 0, 0, 0, 0, 0),
  (50, .getfield 71, 3, [], 2, 8, 0, 320, 0),
  (53, .iconst 1, 1, [], 0, 0, 0, 0, 0),
  (54, .iadd, 1, [], 0, 0, 0, 0, 0),
  (55, .putfield 71, 3, [], 2, 8, 0, 320, 0),
  (58, .aload_n 0, 1, [], 0, 0, 0, 0, 0),
  (59, .getfield 12, 3, [], 2, 4, 0, 316, 0),
  (62, .aload_n 0, 1, [], 0, 0, 0, 0, 0),
  (63, .getfield 71, 3, [], 2, 8, 0, 320, 0),
  (66, .invokevirtual 77, 3, [7], 71, 1, 0, 574, 0),
  (69, .bipush 23, 2, [], 0, 0, 0, 0, 0),
  (71, .if_icmp .eq 7, 3, [38], 0, 0, 0, 0, 0),
  (74, .iconst 1, 1, [], 0, 0, 0, 0, 0),
  (75, .goto 4, 3, [39], 0, 0, 0, 0, 0),
  (78, .iconst 0, 1, [], 0, 0, 0, 0, 0),
  (79, .istore 7, 2, [], 0, 0, 0, 0, 0),
  (81, .iload 4, 2, [], 0, 0, 0, 0, 0),
  (83, .aload_n 0, 1, [], 0, 0, 0, 0, 0),
  (84, .getfield 39, 3, [], 2, 1, 0, 313, 0),
  (87, .iload 6, 2, [], 0, 0, 0, 0, 0),
  (89, .invokevirtual 234, 3, [8], 93, 1, 0, 714, 0),
  (92, .iload 7, 2, [], 0, 0, 0, 0, 0),
  (94, .ifCond .eq 7, 3, [49], 0, 0, 0, 0, 0),
  (97, .iconst 0, 1, [], 0, 0, 0, 0, 0),
  (98, .goto 12, 3, [53], 0, 0, 0, 0, 0),
  (101, .aload_n 0, 1, [], 0, 0, 0, 0, 0),
  (102, .getfield 39, 3, [], 2, 1, 0, 313, 0),
  (105, .iload 6, 2, [], 0, 0, 0, 0, 0),
  (107, .invokevirtual 237, 3, [8], 94, 1, 0, 715, 0),
  (110, .ior, 1, [], 0, 0, 0, 0, 0),
  (111, .iand, 1, [], 0, 0, 0, 0, 0),
  (112, .istore 4, 2, [], 0, 0, 0, 0, 0),
  (114, .iinc 5 1, 3, [], 0, 0, 0, 0, 0),
  (117, .goto (-106), 3, [7], 0, 0, 0, 0, 0),
  (120, .bipush (-4), 2, [], 0, 0, 0, 0, 0),
  (122, .istore 5, 2, [], 0, 0, 0, 0, 0),
  (124, .iconst 0, 1, [], 0, 0, 0, 0, 0),
  (125, .istore 6, 2, [], 0, 0, 0, 0, 0),
  (127, .iload 6, 2, [], 0, 0, 0, 0, 0),
  (129, .aload_n 0, 1, [], 0, 0, 0, 0, 0),
  (130, .getfield 35, 3, [], 2, 0, 0, 312, 0),
  (133, .invokevirtual 227, 3, [6], 59, 0, 0, 669, 0),
  (136, .if_icmp .ge 37, 3, [83], 0, 0, 0, 0, 0),
  (139, .iload 4, 2, [], 0, 0, 0, 0, 0),
  (141, .iload 6, 2, [], 0, 0, 0, 0, 0),
  (143, .invokestatic 240, 3, [], 113, 2, 1, 716, 0),
  (146, .ifCond .eq 21, 3, [81], 0, 0, 0, 0, 0),
  (149, .iload 5, 2, [], 0, 0, 0, 0, 0),
  (151, .bipush (-4), 2, [], 0, 0, 0, 0, 0),
  (153, .if_icmp .eq 10, 3, [79], 0, 0, 0, 0, 0),
  (156, .aload_n 0, 1, [], 0, 0, 0, 0, 0),
  (157, .iconst 5, 1, [], 0, 0, 0, 0, 0),
  (158, .iload_n 3, 1, [], 0, 0, 0, 0, 0),
  (159, .invokevirtual 116, 3, [2], 38, 2, 0, 589, 0),
  (162, .ireturn, 1, [], 0, 0, 0, 0, 0),
  (163, .iload 6, 2, [], 0, 0, 0, 0, 0),
  (165, .istore 5, 2, [], 0, 0, 0, 0, 0),
  (167, .iinc 6 1, 3, [], 0, 0, 0, 0, 0),
  (170, .goto (-43), 3, [62], 0, 0, 0, 0, 0),
  (173, .aload_n 1, 1, [], 0, 0, 0, 0, 0),
  (174, .iload 5, 2, [], 0, 0, 0, 0, 0),
  (176, .invokevirtual 231, 3, [5], 55, 1, 0, 678, 0),
  (179, .iload 5, 2, [], 0, 0, 0, 0, 0),
  (181, .bipush (-4), 2, [], 0, 0, 0, 0, 0),
  (183, .if_icmp .ne 12, 3, [94], 0, 0, 0, 0, 0),
  (186, .aload_n 0, 1, [], 0, 0, 0, 0, 0),
  (187, .iconst 4, 1, [], 0, 0, 0, 0, 0),
  (188, .iload_n 3, 1, [], 0, 0, 0, 0, 0),
  (189, .invokevirtual 116, 3, [2], 38, 2, 0, 589, 0),
  (192, .ifCond .eq 7, 3, [96], 0, 0, 0, 0, 0),
  (195, .iconst 1, 1, [], 0, 0, 0, 0, 0),
  (196, .goto 4, 3, [97], 0, 0, 0, 0, 0),
  (199, .iconst 0, 1, [], 0, 0, 0, 0, 0),
  (200, .ireturn, 1, [], 0, 0, 0, 0, 0)]
def mX2_readNames : xMe := (yX2_readNames, cX2_readNames, 8, some .boolean, RX2, 1, pX2_readNames)
set_option maxRecDepth 20000 in
def pX2_failMisplaced : List xI := [(0, .aload_n 0, 1, [], 0, 0, 0, 0, 0),
  (1, .getfield 12, 3, [], 2, 4, 0, 316, 0),
  (4, .aload_n 0, 1, [], 0, 0, 0, 0, 0),
  (5, .getfield 71, 3, [], 2, 8, 0, 320, 0),
  (8, .invokevirtual 77, 3, [7], 71, 1, 0, 574, 0),
  (11, .lookupswitch 45 #[(26, 35), (27, 25)], 25, [18, 12, 6], 0, 0, 0, 0, 0),
  (36, .aload_n 0, 1, [], 0, 0, 0, 0, 0),
  (37, .iconst 1, 1, [], 0, 0, 0, 0, 0),
  (38, .aload_n 0, 1, [], 0, 0, 0, 0, 0),
  (39, .getfield 71, 3, [], 2, 8, 0, 320, 0),
  (42, .invokevirtual 116, 3, [2], 38, 2, 0, 589, 0),
  (45, .ireturn, 1, [], 0, 0, 0, 0, 0),
  (46, .aload_n 0, 1, [], 0, 0, 0, 0, 0),
  (47, .iconst 2, 1, [], 0, 0, 0, 0, 0),
  (48, .aload_n 0, 1, [], 0, 0, 0, 0, 0),
  (49, .getfield 71, 3, [], 2, 8, 0, 320, 0),
  (52, .invokevirtual 116, 3, [2], 38, 2, 0, 589, 0),
  (55, .ireturn, 1, [], 0, 0, 0, 0, 0),
  (56, .aload_n 0, 1, [], 0, 0, 0, 0, 0),
  (57, .iconst 3, 1, [], 0, 0, 0, 0, 0),
  (58, .aload_n 0, 1, [], 0, 0, 0, 0, 0),
  (59, .getfield 71, 3, [], 2, 8, 0, 320, 0),
  (62, .invokevirtual 116, 3, [2], 38, 2, 0, 589, 0),
  (65, .ireturn, 1, [], 0, 0, 0, 0, 0)]
def mX2_failMisplaced : xMe := (yX2_failMisplaced, cX2_failMisplaced, 1, some .boolean, RX2, 1, pX2_failMisplaced)
set_option maxRecDepth 20000 in
def pX2_fail : List xI := [(0, .aload_n 0, 1, [], 0, 0, 0, 0, 0),
  (1, .iload_n 1, 1, [], 0, 0, 0, 0, 0),
  (2, .putfield 51, 3, [], 2, 9, 0, 321, 0),
  (5, .aload_n 0, 1, [], 0, 0, 0, 0, 0),
  (6, .iload_n 2, 1, [], 0, 0, 0, 0, 0),
  (7, .putfield 55, 3, [], 2, 10, 0, 322, 0),
  (10, .iconst 0, 1, [], 0, 0, 0, 0, 0),
  (11, .ireturn, 1, [], 0, 0, 0, 0, 0)]
def mX2_fail : xMe := (yX2_fail, cX2_fail, 3, some .boolean, RX2, 1, pX2_fail)
set_option maxRecDepth 20000 in
def pX3_init : List xI := [(0, .aload_n 0, 1, [], 0, 0, 0, 0, 0),
  (1, .invokespecial 3, 3, [], 0, 0, 2, 197, 0),
  (4, .aload_n 0, 1, [], 0, 0, 0, 0, 0),
  (5, .new 9, 3, [], 5, 0, 0, 198, 0),
  (8, .dup, 1, [], 0, 0, 0, 0, 0),
  (9, .invokespecial 11, 3, [], 50, 0, 1, 200, 0),
  (12, .putfield 12, 3, [], 3, 0, 0, 214, 0),
  (15, .aload_n 0, 1, [], 0, 0, 0, 0, 0),
  (16, .new 9, 3, [], 5, 0, 0, 198, 0),
  (19, .dup, 1, [], 0, 0, 0, 0, 0),
  (20, .invokespecial 11, 3, [], 50, 0, 1, 200, 0),
  (23, .putfield 18, 3, [], 3, 1, 0, 215, 0),
  (26, .aload_n 0, 1, [], 0, 0, 0, 0, 0),
  (27, .new 9, 3, [], 5, 0, 0, 198, 0),
  (30, .dup, 1, [], 0, 0, 0, 0, 0),
  (31, .invokespecial 11, 3, [], 50, 0, 1, 200, 0),
  (34, .putfield 21, 3, [], 3, 2, 0, 216, 0),
  (37, .aload_n 0, 1, [], 0, 0, 0, 0, 0),
  (38, .new 9, 3, [], 5, 0, 0, 198, 0),
  (41, .dup, 1, [], 0, 0, 0, 0, 0),
  (42, .invokespecial 11, 3, [], 50, 0, 1, 200, 0),
  (45, .putfield 24, 3, [], 3, 3, 0, 217, 0),
  (48, .return_, 1, [], 0, 0, 0, 0, 0)]
def mX3_init : xMe := (yX3_init, cX3_init, 1, none, RX3, 2, pX3_init)
set_option maxRecDepth 20000 in
def pX3_meantBy : List xI := [(0, .iload_n 1, 1, [], 0, 0, 0, 0, 0),
  (1, .tableswitch 42 0 2 #[27, 32, 37], 27, [11, 2, 5, 8], 0, 0, 0, 0, 0),
  (28, .aload_n 0, 1, [], 0, 0, 0, 0, 0),
  (29, .getfield 12, 3, [], 3, 0, 0, 214, 0),
  (32, .areturn, 1, [], 0, 0, 0, 0, 0),
  (33, .aload_n 0, 1, [], 0, 0, 0, 0, 0),
  (34, .getfield 18, 3, [], 3, 1, 0, 215, 0),
  (37, .areturn, 1, [], 0, 0, 0, 0, 0),
  (38, .aload_n 0, 1, [], 0, 0, 0, 0, 0),
  (39, .getfield 21, 3, [], 3, 2, 0, 216, 0),
  (42, .areturn, 1, [], 0, 0, 0, 0, 0),
  (43, .aload_n 0, 1, [], 0, 0, 0, 0, 0),
  (44, .getfield 24, 3, [], 3, 3, 0, 217, 0),
  (47, .areturn, 1, [], 0, 0, 0, 0, 0)]
def mX3_meantBy : xMe := (yX3_meantBy, cX3_meantBy, 2, some (.object "PronounOrders$ThingList"), RX3, 1, pX3_meantBy)
set_option maxRecDepth 20000 in
def pX3_learn : List xI := [(0, .aload_n 1, 1, [], 0, 0, 0, 0, 0),
  (1, .invokevirtual 27, 3, [5], 51, 0, 0, 752, 0),
  (4, .iconst 1, 1, [], 0, 0, 0, 0, 0),
  (5, .if_icmp .le 14, 3, [9], 0, 0, 0, 0, 0),
  (8, .aload_n 0, 1, [], 0, 0, 0, 0, 0),
  (9, .getfield 24, 3, [], 3, 3, 0, 217, 0),
  (12, .aload_n 1, 1, [], 0, 0, 0, 0, 0),
  (13, .invokevirtual 31, 3, [5], 57, 1, 0, 753, 0),
  (16, .goto 36, 3, [26], 0, 0, 0, 0, 0),
  (19, .aload_n 1, 1, [], 0, 0, 0, 0, 0),
  (20, .invokevirtual 27, 3, [5], 51, 0, 0, 752, 0),
  (23, .iconst 1, 1, [], 0, 0, 0, 0, 0),
  (24, .if_icmp .ne 28, 3, [26], 0, 0, 0, 0, 0),
  (27, .aload_n 1, 1, [], 0, 0, 0, 0, 0),
  (28, .iconst 0, 1, [], 0, 0, 0, 0, 0),
  (29, .invokevirtual 35, 3, [5], 53, 1, 0, 754, 0),
  (32, .ifCond .eq 20, 3, [26], 0, 0, 0, 0, 0),
  (35, .aload_n 0, 1, [], 0, 0, 0, 0, 0),
  (36, .aload_n 2, 1, [], 0, 0, 0, 0, 0),
  (37, .aload_n 1, 1, [], 0, 0, 0, 0, 0),
  (38, .iconst 0, 1, [], 0, 0, 0, 0, 0),
  (39, .invokevirtual 35, 3, [5], 53, 1, 0, 754, 0),
  (42, .invokevirtual 39, 3, [6], 65, 1, 0, 755, 0),
  (45, .invokevirtual 44, 3, [3], 40, 1, 0, 756, 0),
  (48, .aload_n 1, 1, [], 0, 0, 0, 0, 0),
  (49, .invokevirtual 31, 3, [5], 57, 1, 0, 753, 0),
  (52, .return_, 1, [], 0, 0, 0, 0, 0)]
def mX3_learn : xMe := (yX3_learn, cX3_learn, 3, none, RX3, 1, pX3_learn)
set_option maxRecDepth 20000 in
def pX4_init : List xI := [(0, .aload_n 0, 1, [], 0, 0, 0, 0, 0),
  (1, .invokespecial 3, 3, [], 0, 0, 2, 184, 0),
  (4, .aload_n 0, 1, [], 0, 0, 0, 0, 0),
  (5, .sipush 200, 3, [], 0, 0, 0, 0, 0),
  (8, .newarray .int, 2, [], 100, 0, 0, 0, 0),
  (10, .putfield 9, 3, [], 4, 0, 0, 185, 0),
  (13, .return_, 1, [], 0, 0, 0, 0, 0)]
def mX4_init : xMe := (yX4_init, cX4_init, 1, none, RX4, 2, pX4_init)
set_option maxRecDepth 20000 in
def pX4_size : List xI := [(0, .aload_n 0, 1, [], 0, 0, 0, 0, 0),
  (1, .getfield 15, 3, [], 4, 1, 0, 186, 0),
  (4, .ireturn, 1, [], 0, 0, 0, 0, 0)]
def mX4_size : xMe := (yX4_size, cX4_size, 1, some .int, RX4, 1, pX4_size)
set_option maxRecDepth 20000 in
def pX4_clear : List xI := [(0, .aload_n 0, 1, [], 0, 0, 0, 0, 0),
  (1, .iconst 0, 1, [], 0, 0, 0, 0, 0),
  (2, .putfield 15, 3, [], 4, 1, 0, 186, 0),
  (5, .return_, 1, [], 0, 0, 0, 0, 0)]
def mX4_clear : xMe := (yX4_clear, cX4_clear, 1, none, RX4, 1, pX4_clear)
set_option maxRecDepth 20000 in
def pX4_append : List xI := [(0, .iload_n 1, 1, [], 0, 0, 0, 0, 0),
  (1, .sipush 200, 3, [], 0, 0, 0, 0, 0),
  (4, .aload_n 0, 1, [], 0, 0, 0, 0, 0),
  (5, .getfield 15, 3, [], 4, 1, 0, 186, 0),
  (8, .isub, 1, [], 0, 0, 0, 0, 0),
  (9, .if_icmp .le 5, 3, [8], 0, 0, 0, 0, 0),
  (12, .iconst 0, 1, [], 0, 0, 0, 0, 0),
  (13, .ireturn, 1, [], 0, 0, 0, 0, 0),
  (14, .iconst 0, 1, [], 0, 0, 0, 0, 0),
  (15, .istore 4, 2, [], 0, 0, 0, 0, 0),
  (17, .iload 4, 2, [], 0, 0, 0, 0, 0),
  (19, .iload_n 1, 1, [], 0, 0, 0, 0, 0),
  (20, .if_icmp .ge 40, 3, [34], 0, 0, 0, 0, 0),
  (23, .aload_n 0, 1, [], 0, 0, 0, 0, 0),
  (24, .getfield 9, 3, [], 4, 0, 0, 185, 0),
  (27, .aload_n 0, 1, [], 0, 0, 0, 0, 0),
  (28, .getfield 15, 3, [], 4, 1, 0, 186, 0),
  (31, .lload_n 2, 1, [], 0, 0, 0, 0, 0),
  (32, .bipush 8, 2, [], 0, 0, 0, 0, 0),
  (34, .iload 4, 2, [], 0, 0, 0, 0, 0),
  (36, .imul, 1, [], 0, 0, 0, 0, 0),
  (37, .lshr, 1, [], 0, 0, 0, 0, 0),
  (38, .ldc2_w 19, 3, [], 0, 0, 0, 420, 255),
  (41, .land, 1, [], 0, 0, 0, 0, 0),
  (42, .l2i, 1, [], 0, 0, 0, 0, 0),
  (43, .iastore, 1, [], 0, 0, 0, 0, 0),
  (44, .aload_n 0, 1, [], 0, 0, 0, 0, 0),
  (45, .dup, 1, [], 0, 0, 0, 0, 0),
  (46, .getfield 15, 3, [], 4, 1, 0, 186, 0),
  (49, .iconst 1, 1, [], 0, 0, 0, 0, 0),
  (50, .iadd, 1, [], 0, 0, 0, 0, 0),
  (51, .putfield 15, 3, [], 4, 1, 0, 186, 0),
  (54, .iinc 4 1, 3, [], 0, 0, 0, 0, 0),
  (57, .goto (-40), 3, [10], 0, 0, 0, 0, 0),
  (60, .iconst 1, 1, [], 0, 0, 0, 0, 0),
  (61, .ireturn, 1, [], 0, 0, 0, 0, 0)]
def mX4_append : xMe := (yX4_append, cX4_append, 5, some .boolean, RX4, 1, pX4_append)
set_option maxRecDepth 20000 in
def pX4_at : List xI := [(0, .iload_n 1, 1, [], 0, 0, 0, 0, 0),
  (1, .ifCond .lt 20, 3, [11], 0, 0, 0, 0, 0),
  (4, .iload_n 1, 1, [], 0, 0, 0, 0, 0),
  (5, .aload_n 0, 1, [], 0, 0, 0, 0, 0),
  (6, .getfield 15, 3, [], 4, 1, 0, 186, 0),
  (9, .if_icmp .ge 12, 3, [11], 0, 0, 0, 0, 0),
  (12, .aload_n 0, 1, [], 0, 0, 0, 0, 0),
  (13, .getfield 9, 3, [], 4, 0, 0, 185, 0),
  (16, .iload_n 1, 1, [], 0, 0, 0, 0, 0),
  (17, .iaload, 1, [], 0, 0, 0, 0, 0),
  (18, .goto 5, 3, [12], 0, 0, 0, 0, 0),
  (21, .bipush (-4), 2, [], 0, 0, 0, 0, 0),
  (23, .ireturn, 1, [], 0, 0, 0, 0, 0)]
def mX4_at : xMe := (yX4_at, cX4_at, 2, some .int, RX4, 1, pX4_at)
set_option maxRecDepth 20000 in
def pX4_letterAt : List xI := [(0, .aload_n 0, 1, [], 0, 0, 0, 0, 0),
  (1, .iload_n 1, 1, [], 0, 0, 0, 0, 0),
  (2, .invokevirtual 21, 3, [4], 46, 1, 0, 441, 0),
  (5, .istore_n 2, 1, [], 0, 0, 0, 0, 0),
  (6, .iload_n 2, 1, [], 0, 0, 0, 0, 0),
  (7, .bipush 97, 2, [], 0, 0, 0, 0, 0),
  (9, .if_icmp .lt 16, 3, [16], 0, 0, 0, 0, 0),
  (12, .iload_n 2, 1, [], 0, 0, 0, 0, 0),
  (13, .bipush 122, 2, [], 0, 0, 0, 0, 0),
  (15, .if_icmp .gt 10, 3, [16], 0, 0, 0, 0, 0),
  (18, .iload_n 2, 1, [], 0, 0, 0, 0, 0),
  (19, .bipush 97, 2, [], 0, 0, 0, 0, 0),
  (21, .isub, 1, [], 0, 0, 0, 0, 0),
  (22, .iconst 1, 1, [], 0, 0, 0, 0, 0),
  (23, .iadd, 1, [], 0, 0, 0, 0, 0),
  (24, .ireturn, 1, [], 0, 0, 0, 0, 0),
  (25, .iload_n 2, 1, [], 0, 0, 0, 0, 0),
  (26, .bipush 65, 2, [], 0, 0, 0, 0, 0),
  (28, .if_icmp .lt 18, 3, [28], 0, 0, 0, 0, 0),
  (31, .iload_n 2, 1, [], 0, 0, 0, 0, 0),
  (32, .bipush 90, 2, [], 0, 0, 0, 0, 0),
  (34, .if_icmp .gt 12, 3, [28], 0, 0, 0, 0, 0),
  (37, .iload_n 2, 1, [], 0, 0, 0, 0, 0),
  (38, .bipush 65, 2, [], 0, 0, 0, 0, 0),
  (40, .isub, 1, [], 0, 0, 0, 0, 0),
  (41, .iconst 1, 1, [], 0, 0, 0, 0, 0),
  (42, .iadd, 1, [], 0, 0, 0, 0, 0),
  (43, .goto 4, 3, [29], 0, 0, 0, 0, 0),
  (46, .iconst 0, 1, [], 0, 0, 0, 0, 0),
  (47, .ireturn, 1, [], 0, 0, 0, 0, 0)]
def mX4_letterAt : xMe := (yX4_letterAt, cX4_letterAt, 3, some .int, RX4, 1, pX4_letterAt)
set_option maxRecDepth 20000 in
def pX4_keyAt : List xI := [(0, .lconst 0, 1, [], 0, 0, 0, 0, 0),
  (1, .lstore_n 2, 1, [], 0, 0, 0, 0, 0),
  (2, .iconst 0, 1, [], 0, 0, 0, 0, 0),
  (3, .istore 4, 2, [], 0, 0, 0, 0, 0),
  (5, .iload 4, 2, [], 0, 0, 0, 0, 0),
  (7, .bipush 8, 2, [], 0, 0, 0, 0, 0),
  (9, .if_icmp .ge 37, 3, [25], 0, 0, 0, 0, 0),
  (12, .aload_n 0, 1, [], 0, 0, 0, 0, 0),
  (13, .iload_n 1, 1, [], 0, 0, 0, 0, 0),
  (14, .iload 4, 2, [], 0, 0, 0, 0, 0),
  (16, .iadd, 1, [], 0, 0, 0, 0, 0),
  (17, .invokevirtual 25, 3, [4], 47, 1, 0, 437, 0),
  (20, .istore 5, 2, [], 0, 0, 0, 0, 0),
  (22, .iload 5, 2, [], 0, 0, 0, 0, 0),
  (24, .ifCond .ne 6, 3, [16], 0, 0, 0, 0, 0),
  (27, .goto 19, 3, [25], 0, 0, 0, 0, 0),
  (30, .lload_n 2, 1, [], 0, 0, 0, 0, 0),
  (31, .ldc2_w 28, 3, [], 0, 0, 0, 445, 27),
  (34, .lmul, 1, [], 0, 0, 0, 0, 0),
  (35, .iload 5, 2, [], 0, 0, 0, 0, 0),
  (37, .i2l, 1, [], 0, 0, 0, 0, 0),
  (38, .ladd, 1, [], 0, 0, 0, 0, 0),
  (39, .lstore_n 2, 1, [], 0, 0, 0, 0, 0),
  (40, .iinc 4 1, 3, [], 0, 0, 0, 0, 0),
  (43, .goto (-38), 3, [4], 0, 0, 0, 0, 0),
  (46, .lload_n 2, 1, [], 0, 0, 0, 0, 0),
  (47, .lreturn, 1, [], 0, 0, 0, 0, 0)]
def mX4_keyAt : xMe := (yX4_keyAt, cX4_keyAt, 6, some .long, RX4, 1, pX4_keyAt)
set_option maxRecDepth 20000 in
def pX4_isPlainWord : List xI := [(0, .iconst 0, 1, [], 0, 0, 0, 0, 0),
  (1, .istore_n 1, 1, [], 0, 0, 0, 0, 0),
  (2, .iload_n 1, 1, [], 0, 0, 0, 0, 0),
  (3, .aload_n 0, 1, [], 0, 0, 0, 0, 0),
  (4, .getfield 15, 3, [], 4, 1, 0, 186, 0),
  (7, .if_icmp .ge 33, 3, [22], 0, 0, 0, 0, 0),
  (10, .aload_n 0, 1, [], 0, 0, 0, 0, 0),
  (11, .getfield 9, 3, [], 4, 0, 0, 185, 0),
  (14, .iload_n 1, 1, [], 0, 0, 0, 0, 0),
  (15, .iaload, 1, [], 0, 0, 0, 0, 0),
  (16, .bipush 97, 2, [], 0, 0, 0, 0, 0),
  (18, .if_icmp .lt 14, 3, [18], 0, 0, 0, 0, 0),
  (21, .aload_n 0, 1, [], 0, 0, 0, 0, 0),
  (22, .getfield 9, 3, [], 4, 0, 0, 185, 0),
  (25, .iload_n 1, 1, [], 0, 0, 0, 0, 0),
  (26, .iaload, 1, [], 0, 0, 0, 0, 0),
  (27, .bipush 122, 2, [], 0, 0, 0, 0, 0),
  (29, .if_icmp .le 5, 3, [20], 0, 0, 0, 0, 0),
  (32, .iconst 0, 1, [], 0, 0, 0, 0, 0),
  (33, .ireturn, 1, [], 0, 0, 0, 0, 0),
  (34, .iinc 1 1, 3, [], 0, 0, 0, 0, 0),
  (37, .goto (-35), 3, [2], 0, 0, 0, 0, 0),
  (40, .aload_n 0, 1, [], 0, 0, 0, 0, 0),
  (41, .getfield 15, 3, [], 4, 1, 0, 186, 0),
  (44, .iconst 1, 1, [], 0, 0, 0, 0, 0),
  (45, .if_icmp .lt 16, 3, [32], 0, 0, 0, 0, 0),
  (48, .aload_n 0, 1, [], 0, 0, 0, 0, 0),
  (49, .getfield 15, 3, [], 4, 1, 0, 186, 0),
  (52, .bipush 8, 2, [], 0, 0, 0, 0, 0),
  (54, .if_icmp .gt 7, 3, [32], 0, 0, 0, 0, 0),
  (57, .iconst 1, 1, [], 0, 0, 0, 0, 0),
  (58, .goto 4, 3, [33], 0, 0, 0, 0, 0),
  (61, .iconst 0, 1, [], 0, 0, 0, 0, 0),
  (62, .ireturn, 1, [], 0, 0, 0, 0, 0)]
def mX4_isPlainWord : xMe := (yX4_isPlainWord, cX4_isPlainWord, 2, some .boolean, RX4, 1, pX4_isPlainWord)
set_option maxRecDepth 20000 in
def pX5_init : List xI := [(0, .aload_n 0, 1, [], 0, 0, 0, 0, 0),
  (1, .invokespecial 3, 3, [], 0, 0, 2, 203, 0),
  (4, .aload_n 0, 1, [], 0, 0, 0, 0, 0),
  (5, .bipush 24, 2, [], 0, 0, 0, 0, 0),
  (7, .newarray .int, 2, [], 100, 0, 0, 0, 0),
  (9, .putfield 9, 3, [], 5, 0, 0, 204, 0),
  (12, .return_, 1, [], 0, 0, 0, 0, 0)]
def mX5_init : xMe := (yX5_init, cX5_init, 1, none, RX5, 2, pX5_init)
set_option maxRecDepth 20000 in
def pX5_size : List xI := [(0, .aload_n 0, 1, [], 0, 0, 0, 0, 0),
  (1, .getfield 15, 3, [], 5, 1, 0, 205, 0),
  (4, .ireturn, 1, [], 0, 0, 0, 0, 0)]
def mX5_size : xMe := (yX5_size, cX5_size, 1, some .int, RX5, 1, pX5_size)
set_option maxRecDepth 20000 in
def pX5_members : List xI := [(0, .aload_n 0, 1, [], 0, 0, 0, 0, 0),
  (1, .getfield 19, 3, [], 5, 2, 0, 206, 0),
  (4, .ireturn, 1, [], 0, 0, 0, 0, 0)]
def mX5_members : xMe := (yX5_members, cX5_members, 1, some .int, RX5, 1, pX5_members)
set_option maxRecDepth 20000 in
def pX5_at : List xI := [(0, .iload_n 1, 1, [], 0, 0, 0, 0, 0),
  (1, .ifCond .lt 20, 3, [11], 0, 0, 0, 0, 0),
  (4, .iload_n 1, 1, [], 0, 0, 0, 0, 0),
  (5, .aload_n 0, 1, [], 0, 0, 0, 0, 0),
  (6, .getfield 15, 3, [], 5, 1, 0, 205, 0),
  (9, .if_icmp .ge 12, 3, [11], 0, 0, 0, 0, 0),
  (12, .aload_n 0, 1, [], 0, 0, 0, 0, 0),
  (13, .getfield 9, 3, [], 5, 0, 0, 204, 0),
  (16, .iload_n 1, 1, [], 0, 0, 0, 0, 0),
  (17, .iaload, 1, [], 0, 0, 0, 0, 0),
  (18, .goto 5, 3, [12], 0, 0, 0, 0, 0),
  (21, .bipush (-4), 2, [], 0, 0, 0, 0, 0),
  (23, .ireturn, 1, [], 0, 0, 0, 0, 0)]
def mX5_at : xMe := (yX5_at, cX5_at, 2, some .int, RX5, 1, pX5_at)
set_option maxRecDepth 20000 in
def pX5_clear : List xI := [(0, .aload_n 0, 1, [], 0, 0, 0, 0, 0),
  (1, .iconst 0, 1, [], 0, 0, 0, 0, 0),
  (2, .putfield 15, 3, [], 5, 1, 0, 205, 0),
  (5, .aload_n 0, 1, [], 0, 0, 0, 0, 0),
  (6, .iconst 0, 1, [], 0, 0, 0, 0, 0),
  (7, .putfield 19, 3, [], 5, 2, 0, 206, 0),
  (10, .return_, 1, [], 0, 0, 0, 0, 0)]
def mX5_clear : xMe := (yX5_clear, cX5_clear, 1, none, RX5, 1, pX5_clear)
set_option maxRecDepth 20000 in
def pX5_add : List xI := [(0, .iload_n 1, 1, [], 0, 0, 0, 0, 0),
  (1, .ifCond .lt 18, 3, [9], 0, 0, 0, 0, 0),
  (4, .iload_n 1, 1, [], 0, 0, 0, 0, 0),
  (5, .bipush 24, 2, [], 0, 0, 0, 0, 0),
  (7, .if_icmp .ge 12, 3, [9], 0, 0, 0, 0, 0),
  (10, .aload_n 0, 1, [], 0, 0, 0, 0, 0),
  (11, .getfield 15, 3, [], 5, 1, 0, 205, 0),
  (14, .bipush 24, 2, [], 0, 0, 0, 0, 0),
  (16, .if_icmp .lt 4, 3, [10], 0, 0, 0, 0, 0),
  (19, .return_, 1, [], 0, 0, 0, 0, 0),
  (20, .iconst 1, 1, [], 0, 0, 0, 0, 0),
  (21, .iload_n 1, 1, [], 0, 0, 0, 0, 0),
  (22, .ishl, 1, [], 0, 0, 0, 0, 0),
  (23, .istore_n 2, 1, [], 0, 0, 0, 0, 0),
  (24, .aload_n 0, 1, [], 0, 0, 0, 0, 0),
  (25, .getfield 19, 3, [], 5, 2, 0, 206, 0),
  (28, .iload_n 2, 1, [], 0, 0, 0, 0, 0),
  (29, .iand, 1, [], 0, 0, 0, 0, 0),
  (30, .ifCond .ne 33, 3, [37], 0, 0, 0, 0, 0),
  (33, .aload_n 0, 1, [], 0, 0, 0, 0, 0),
  (34, .getfield 9, 3, [], 5, 0, 0, 204, 0),
  (37, .aload_n 0, 1, [], 0, 0, 0, 0, 0),
  (38, .getfield 15, 3, [], 5, 1, 0, 205, 0),
  (41, .iload_n 1, 1, [], 0, 0, 0, 0, 0),
  (42, .iastore, 1, [], 0, 0, 0, 0, 0),
  (43, .aload_n 0, 1, [], 0, 0, 0, 0, 0),
  (44, .dup, 1, [], 0, 0, 0, 0, 0),
  (45, .getfield 15, 3, [], 5, 1, 0, 205, 0),
  (48, .iconst 1, 1, [], 0, 0, 0, 0, 0),
  (49, .iadd, 1, [], 0, 0, 0, 0, 0),
  (50, .putfield 15, 3, [], 5, 1, 0, 205, 0),
  (53, .aload_n 0, 1, [], 0, 0, 0, 0, 0),
  (54, .dup, 1, [], 0, 0, 0, 0, 0),
  (55, .getfield 19, 3, [], 5, 2, 0, 206, 0),
  (58, .iload_n 2, 1, [], 0, 0, 0, 0, 0),
  (59, .ior, 1, [], 0, 0, 0, 0, 0),
  (60, .putfield 19, 3, [], 5, 2, 0, 206, 0),
  (63, .return_, 1, [], 0, 0, 0, 0, 0)]
def mX5_add : xMe := (yX5_add, cX5_add, 3, none, RX5, 1, pX5_add)
set_option maxRecDepth 20000 in
def pX5_remove : List xI := [(0, .iconst 0, 1, [], 0, 0, 0, 0, 0),
  (1, .istore_n 2, 1, [], 0, 0, 0, 0, 0),
  (2, .iconst 0, 1, [], 0, 0, 0, 0, 0),
  (3, .istore_n 3, 1, [], 0, 0, 0, 0, 0),
  (4, .iload_n 3, 1, [], 0, 0, 0, 0, 0),
  (5, .aload_n 0, 1, [], 0, 0, 0, 0, 0),
  (6, .getfield 15, 3, [], 5, 1, 0, 205, 0),
  (9, .if_icmp .ge 37, 3, [26], 0, 0, 0, 0, 0),
  (12, .iload_n 1, 1, [], 0, 0, 0, 0, 0),
  (13, .aload_n 0, 1, [], 0, 0, 0, 0, 0),
  (14, .getfield 9, 3, [], 5, 0, 0, 204, 0),
  (17, .iload_n 3, 1, [], 0, 0, 0, 0, 0),
  (18, .iaload, 1, [], 0, 0, 0, 0, 0),
  (19, .invokestatic 22, 3, [], 113, 2, 1, 739, 0),
  (22, .ifCond .ne 18, 3, [24], 0, 0, 0, 0, 0),
  (25, .aload_n 0, 1, [], 0, 0, 0, 0, 0),
  (26, .getfield 9, 3, [], 5, 0, 0, 204, 0),
  (29, .iload_n 2, 1, [], 0, 0, 0, 0, 0),
  (30, .aload_n 0, 1, [], 0, 0, 0, 0, 0),
  (31, .getfield 9, 3, [], 5, 0, 0, 204, 0),
  (34, .iload_n 3, 1, [], 0, 0, 0, 0, 0),
  (35, .iaload, 1, [], 0, 0, 0, 0, 0),
  (36, .iastore, 1, [], 0, 0, 0, 0, 0),
  (37, .iinc 2 1, 3, [], 0, 0, 0, 0, 0),
  (40, .iinc 3 1, 3, [], 0, 0, 0, 0, 0),
  (43, .goto (-39), 3, [4], 0, 0, 0, 0, 0),
  (46, .aload_n 0, 1, [], 0, 0, 0, 0, 0),
  (47, .iload_n 2, 1, [], 0, 0, 0, 0, 0),
  (48, .putfield 15, 3, [], 5, 1, 0, 205, 0),
  (51, .aload_n 0, 1, [], 0, 0, 0, 0, 0),
  (52, .dup, 1, [], 0, 0, 0, 0, 0),
  (53, .getfield 19, 3, [], 5, 2, 0, 206, 0),
  (56, .iload_n 1, 1, [], 0, 0, 0, 0, 0),
  (57, .iconst (-1), 1, [], 0, 0, 0, 0, 0),
  (58, .ixor, 1, [], 0, 0, 0, 0, 0),
  (59, .iand, 1, [], 0, 0, 0, 0, 0),
  (60, .putfield 19, 3, [], 5, 2, 0, 206, 0),
  (63, .return_, 1, [], 0, 0, 0, 0, 0)]
def mX5_remove : xMe := (yX5_remove, cX5_remove, 4, none, RX5, 1, pX5_remove)
set_option maxRecDepth 20000 in
def pX5_copyFrom : List xI := [(0, .iconst 0, 1, [], 0, 0, 0, 0, 0),
  (1, .istore_n 2, 1, [], 0, 0, 0, 0, 0),
  (2, .iload_n 2, 1, [], 0, 0, 0, 0, 0),
  (3, .aload_n 1, 1, [], 0, 0, 0, 0, 0),
  (4, .getfield 15, 3, [], 5, 1, 0, 205, 0),
  (7, .if_icmp .ge 21, 3, [16], 0, 0, 0, 0, 0),
  (10, .aload_n 0, 1, [], 0, 0, 0, 0, 0),
  (11, .getfield 9, 3, [], 5, 0, 0, 204, 0),
  (14, .iload_n 2, 1, [], 0, 0, 0, 0, 0),
  (15, .aload_n 1, 1, [], 0, 0, 0, 0, 0),
  (16, .getfield 9, 3, [], 5, 0, 0, 204, 0),
  (19, .iload_n 2, 1, [], 0, 0, 0, 0, 0),
  (20, .iaload, 1, [], 0, 0, 0, 0, 0),
  (21, .iastore, 1, [], 0, 0, 0, 0, 0),
  (22, .iinc 2 1, 3, [], 0, 0, 0, 0, 0),
  (25, .goto (-23), 3, [2], 0, 0, 0, 0, 0),
  (28, .aload_n 0, 1, [], 0, 0, 0, 0, 0),
  (29, .aload_n 1, 1, [], 0, 0, 0, 0, 0),
  (30, .getfield 15, 3, [], 5, 1, 0, 205, 0),
  (33, .putfield 15, 3, [], 5, 1, 0, 205, 0),
  (36, .aload_n 0, 1, [], 0, 0, 0, 0, 0),
  (37, .aload_n 1, 1, [], 0, 0, 0, 0, 0),
  (38, .getfield 19, 3, [], 5, 2, 0, 206, 0),
  (41, .putfield 19, 3, [], 5, 2, 0, 206, 0),
  (44, .return_, 1, [], 0, 0, 0, 0, 0)]
def mX5_copyFrom : xMe := (yX5_copyFrom, cX5_copyFrom, 3, none, RX5, 1, pX5_copyFrom)
set_option maxRecDepth 20000 in
def pX6_init : List xI := [(0, .aload_n 0, 1, [], 0, 0, 0, 0, 0),
  (1, .invokespecial 3, 3, [], 0, 0, 2, 75, 0),
  (4, .aload_n 0, 1, [], 0, 0, 0, 0, 0),
  (5, .bipush 24, 2, [], 0, 0, 0, 0, 0),
  (7, .newarray .int, 2, [], 100, 0, 0, 0, 0),
  (9, .putfield 9, 3, [], 6, 0, 0, 82, 0),
  (12, .aload_n 0, 1, [], 0, 0, 0, 0, 0),
  (13, .bipush 24, 2, [], 0, 0, 0, 0, 0),
  (15, .newarray .int, 2, [], 100, 0, 0, 0, 0),
  (17, .putfield 15, 3, [], 6, 1, 0, 83, 0),
  (20, .aload_n 0, 1, [], 0, 0, 0, 0, 0),
  (21, .getfield 15, 3, [], 6, 1, 0, 83, 0),
  (24, .bipush (-4), 2, [], 0, 0, 0, 0, 0),
  (26, .invokestatic 18, 3, [], 158, 2, 0, 76, 0),
  (29, .aload_n 0, 1, [], 0, 0, 0, 0, 0),
  (30, .getfield 9, 3, [], 6, 0, 0, 82, 0),
  (33, .iconst 0, 1, [], 0, 0, 0, 0, 0),
  (34, .iconst 1, 1, [], 0, 0, 0, 0, 0),
  (35, .iastore, 1, [], 0, 0, 0, 0, 0),
  (36, .aload_n 0, 1, [], 0, 0, 0, 0, 0),
  (37, .iconst 0, 1, [], 0, 0, 0, 0, 0),
  (38, .invokestatic 24, 3, [], 114, 1, 1, 79, 0),
  (41, .putfield 28, 3, [], 6, 2, 0, 84, 0),
  (44, .aload_n 0, 1, [], 0, 0, 0, 0, 0),
  (45, .iconst 1, 1, [], 0, 0, 0, 0, 0),
  (46, .putfield 32, 3, [], 6, 3, 0, 85, 0),
  (49, .return_, 1, [], 0, 0, 0, 0, 0)]
def mX6_init : xMe := (yX6_init, cX6_init, 1, none, RX6, 2, pX6_init)
set_option maxRecDepth 20000 in
def pX6_size : List xI := [(0, .aload_n 0, 1, [], 0, 0, 0, 0, 0),
  (1, .getfield 32, 3, [], 6, 3, 0, 85, 0),
  (4, .ireturn, 1, [], 0, 0, 0, 0, 0)]
def mX6_size : xMe := (yX6_size, cX6_size, 1, some .int, RX6, 1, pX6_size)
set_option maxRecDepth 20000 in
def pX6_has : List xI := [(0, .iload_n 1, 1, [], 0, 0, 0, 0, 0),
  (1, .ifCond .lt 15, 3, [8], 0, 0, 0, 0, 0),
  (4, .iload_n 1, 1, [], 0, 0, 0, 0, 0),
  (5, .aload_n 0, 1, [], 0, 0, 0, 0, 0),
  (6, .getfield 32, 3, [], 6, 3, 0, 85, 0),
  (9, .if_icmp .ge 7, 3, [8], 0, 0, 0, 0, 0),
  (12, .iconst 1, 1, [], 0, 0, 0, 0, 0),
  (13, .goto 4, 3, [9], 0, 0, 0, 0, 0),
  (16, .iconst 0, 1, [], 0, 0, 0, 0, 0),
  (17, .ireturn, 1, [], 0, 0, 0, 0, 0)]
def mX6_has : xMe := (yX6_has, cX6_has, 2, some .boolean, RX6, 1, pX6_has)
set_option maxRecDepth 20000 in
def pX6_add : List xI := [(0, .aload_n 0, 1, [], 0, 0, 0, 0, 0),
  (1, .getfield 32, 3, [], 6, 3, 0, 85, 0),
  (4, .bipush 24, 2, [], 0, 0, 0, 0, 0),
  (6, .if_icmp .lt 6, 3, [6], 0, 0, 0, 0, 0),
  (9, .bipush (-3), 2, [], 0, 0, 0, 0, 0),
  (11, .ireturn, 1, [], 0, 0, 0, 0, 0),
  (12, .aload_n 0, 1, [], 0, 0, 0, 0, 0),
  (13, .getfield 9, 3, [], 6, 0, 0, 82, 0),
  (16, .aload_n 0, 1, [], 0, 0, 0, 0, 0),
  (17, .getfield 32, 3, [], 6, 3, 0, 85, 0),
  (20, .iload_n 1, 1, [], 0, 0, 0, 0, 0),
  (21, .iastore, 1, [], 0, 0, 0, 0, 0),
  (22, .aload_n 0, 1, [], 0, 0, 0, 0, 0),
  (23, .dup, 1, [], 0, 0, 0, 0, 0),
  (24, .getfield 28, 3, [], 6, 2, 0, 84, 0),
  (27, .aload_n 0, 1, [], 0, 0, 0, 0, 0),
  (28, .getfield 32, 3, [], 6, 3, 0, 85, 0),
  (31, .invokestatic 24, 3, [], 114, 1, 1, 79, 0),
  (34, .ior, 1, [], 0, 0, 0, 0, 0),
  (35, .putfield 28, 3, [], 6, 2, 0, 84, 0),
  (38, .aload_n 0, 1, [], 0, 0, 0, 0, 0),
  (39, .dup, 1, [], 0, 0, 0, 0, 0),
  (40, .getfield 32, 3, [], 6, 3, 0, 85, 0),
  (43, .iconst 1, 1, [], 0, 0, 0, 0, 0),
  (44, .iadd, 1, [], 0, 0, 0, 0, 0),
  (45, .putfield 32, 3, [], 6, 3, 0, 85, 0),
  (48, .aload_n 0, 1, [], 0, 0, 0, 0, 0),
  (49, .getfield 32, 3, [], 6, 3, 0, 85, 0),
  (52, .iconst 1, 1, [], 0, 0, 0, 0, 0),
  (53, .isub, 1, [], 0, 0, 0, 0, 0),
  (54, .ireturn, 1, [], 0, 0, 0, 0, 0)]
def mX6_add : xMe := (yX6_add, cX6_add, 2, some .int, RX6, 1, pX6_add)
set_option maxRecDepth 20000 in
def pX6_isSeen : List xI := [(0, .iload_n 1, 1, [], 0, 0, 0, 0, 0),
  (1, .ifCond .lt 26, 3, [15], 0, 0, 0, 0, 0),
  (4, .iload_n 1, 1, [], 0, 0, 0, 0, 0),
  (5, .aload_n 0, 1, [], 0, 0, 0, 0, 0),
  (6, .getfield 32, 3, [], 6, 3, 0, 85, 0),
  (9, .if_icmp .ge 18, 3, [15], 0, 0, 0, 0, 0),
  (12, .aload_n 0, 1, [], 0, 0, 0, 0, 0),
  (13, .getfield 28, 3, [], 6, 2, 0, 84, 0),
  (16, .iload_n 1, 1, [], 0, 0, 0, 0, 0),
  (17, .ishr, 1, [], 0, 0, 0, 0, 0),
  (18, .iconst 1, 1, [], 0, 0, 0, 0, 0),
  (19, .iand, 1, [], 0, 0, 0, 0, 0),
  (20, .ifCond .eq 7, 3, [15], 0, 0, 0, 0, 0),
  (23, .iconst 1, 1, [], 0, 0, 0, 0, 0),
  (24, .goto 4, 3, [16], 0, 0, 0, 0, 0),
  (27, .iconst 0, 1, [], 0, 0, 0, 0, 0),
  (28, .ireturn, 1, [], 0, 0, 0, 0, 0)]
def mX6_isSeen : xMe := (yX6_isSeen, cX6_isSeen, 2, some .boolean, RX6, 1, pX6_isSeen)
set_option maxRecDepth 20000 in
def pX6_seenOnes : List xI := [(0, .aload_n 0, 1, [], 0, 0, 0, 0, 0),
  (1, .getfield 28, 3, [], 6, 2, 0, 84, 0),
  (4, .ireturn, 1, [], 0, 0, 0, 0, 0)]
def mX6_seenOnes : xMe := (yX6_seenOnes, cX6_seenOnes, 1, some .int, RX6, 1, pX6_seenOnes)
set_option maxRecDepth 20000 in
def pX6_setSeen : List xI := [(0, .aload_n 0, 1, [], 0, 0, 0, 0, 0),
  (1, .iload_n 2, 1, [], 0, 0, 0, 0, 0),
  (2, .ifCond .eq 15, 3, [9], 0, 0, 0, 0, 0),
  (5, .aload_n 0, 1, [], 0, 0, 0, 0, 0),
  (6, .getfield 28, 3, [], 6, 2, 0, 84, 0),
  (9, .iload_n 1, 1, [], 0, 0, 0, 0, 0),
  (10, .invokestatic 24, 3, [], 114, 1, 1, 79, 0),
  (13, .ior, 1, [], 0, 0, 0, 0, 0),
  (14, .goto 14, 3, [16], 0, 0, 0, 0, 0),
  (17, .aload_n 0, 1, [], 0, 0, 0, 0, 0),
  (18, .getfield 28, 3, [], 6, 2, 0, 84, 0),
  (21, .iload_n 1, 1, [], 0, 0, 0, 0, 0),
  (22, .invokestatic 24, 3, [], 114, 1, 1, 79, 0),
  (25, .iconst (-1), 1, [], 0, 0, 0, 0, 0),
  (26, .ixor, 1, [], 0, 0, 0, 0, 0),
  (27, .iand, 1, [], 0, 0, 0, 0, 0),
  (28, .putfield 28, 3, [], 6, 2, 0, 84, 0),
  (31, .return_, 1, [], 0, 0, 0, 0, 0)]
def mX6_setSeen : xMe := (yX6_setSeen, cX6_setSeen, 3, none, RX6, 1, pX6_setSeen)
set_option maxRecDepth 20000 in
def pX6_kindOf : List xI := [(0, .iload_n 1, 1, [], 0, 0, 0, 0, 0),
  (1, .ifCond .lt 20, 3, [11], 0, 0, 0, 0, 0),
  (4, .iload_n 1, 1, [], 0, 0, 0, 0, 0),
  (5, .aload_n 0, 1, [], 0, 0, 0, 0, 0),
  (6, .getfield 32, 3, [], 6, 3, 0, 85, 0),
  (9, .if_icmp .ge 12, 3, [11], 0, 0, 0, 0, 0),
  (12, .aload_n 0, 1, [], 0, 0, 0, 0, 0),
  (13, .getfield 9, 3, [], 6, 0, 0, 82, 0),
  (16, .iload_n 1, 1, [], 0, 0, 0, 0, 0),
  (17, .iaload, 1, [], 0, 0, 0, 0, 0),
  (18, .goto 5, 3, [12], 0, 0, 0, 0, 0),
  (21, .bipush (-4), 2, [], 0, 0, 0, 0, 0),
  (23, .ireturn, 1, [], 0, 0, 0, 0, 0)]
def mX6_kindOf : xMe := (yX6_kindOf, cX6_kindOf, 2, some .int, RX6, 1, pX6_kindOf)
set_option maxRecDepth 20000 in
def pX6_setKind : List xI := [(0, .iload_n 1, 1, [], 0, 0, 0, 0, 0),
  (1, .ifCond .lt 18, 3, [11], 0, 0, 0, 0, 0),
  (4, .iload_n 1, 1, [], 0, 0, 0, 0, 0),
  (5, .aload_n 0, 1, [], 0, 0, 0, 0, 0),
  (6, .getfield 32, 3, [], 6, 3, 0, 85, 0),
  (9, .if_icmp .ge 10, 3, [11], 0, 0, 0, 0, 0),
  (12, .aload_n 0, 1, [], 0, 0, 0, 0, 0),
  (13, .getfield 9, 3, [], 6, 0, 0, 82, 0),
  (16, .iload_n 1, 1, [], 0, 0, 0, 0, 0),
  (17, .iload_n 2, 1, [], 0, 0, 0, 0, 0),
  (18, .iastore, 1, [], 0, 0, 0, 0, 0),
  (19, .return_, 1, [], 0, 0, 0, 0, 0)]
def mX6_setKind : xMe := (yX6_setKind, cX6_setKind, 3, none, RX6, 1, pX6_setKind)
set_option maxRecDepth 20000 in
def pX6_isPerson : List xI := [(0, .iload_n 1, 1, [], 0, 0, 0, 0, 0),
  (1, .ifCond .lt 35, 3, [20], 0, 0, 0, 0, 0),
  (4, .iload_n 1, 1, [], 0, 0, 0, 0, 0),
  (5, .aload_n 0, 1, [], 0, 0, 0, 0, 0),
  (6, .getfield 32, 3, [], 6, 3, 0, 85, 0),
  (9, .if_icmp .ge 27, 3, [20], 0, 0, 0, 0, 0),
  (12, .aload_n 0, 1, [], 0, 0, 0, 0, 0),
  (13, .getfield 9, 3, [], 6, 0, 0, 82, 0),
  (16, .iload_n 1, 1, [], 0, 0, 0, 0, 0),
  (17, .iaload, 1, [], 0, 0, 0, 0, 0),
  (18, .iconst 1, 1, [], 0, 0, 0, 0, 0),
  (19, .if_icmp .eq 13, 3, [18], 0, 0, 0, 0, 0),
  (22, .aload_n 0, 1, [], 0, 0, 0, 0, 0),
  (23, .getfield 9, 3, [], 6, 0, 0, 82, 0),
  (26, .iload_n 1, 1, [], 0, 0, 0, 0, 0),
  (27, .iaload, 1, [], 0, 0, 0, 0, 0),
  (28, .iconst 2, 1, [], 0, 0, 0, 0, 0),
  (29, .if_icmp .ne 7, 3, [20], 0, 0, 0, 0, 0),
  (32, .iconst 1, 1, [], 0, 0, 0, 0, 0),
  (33, .goto 4, 3, [21], 0, 0, 0, 0, 0),
  (36, .iconst 0, 1, [], 0, 0, 0, 0, 0),
  (37, .ireturn, 1, [], 0, 0, 0, 0, 0)]
def mX6_isPerson : xMe := (yX6_isPerson, cX6_isPerson, 2, some .boolean, RX6, 1, pX6_isPerson)
set_option maxRecDepth 20000 in
def pX6_setOwner : List xI := [(0, .iload_n 1, 1, [], 0, 0, 0, 0, 0),
  (1, .ifCond .lt 18, 3, [11], 0, 0, 0, 0, 0),
  (4, .iload_n 1, 1, [], 0, 0, 0, 0, 0),
  (5, .aload_n 0, 1, [], 0, 0, 0, 0, 0),
  (6, .getfield 32, 3, [], 6, 3, 0, 85, 0),
  (9, .if_icmp .ge 10, 3, [11], 0, 0, 0, 0, 0),
  (12, .aload_n 0, 1, [], 0, 0, 0, 0, 0),
  (13, .getfield 15, 3, [], 6, 1, 0, 83, 0),
  (16, .iload_n 1, 1, [], 0, 0, 0, 0, 0),
  (17, .iload_n 2, 1, [], 0, 0, 0, 0, 0),
  (18, .iastore, 1, [], 0, 0, 0, 0, 0),
  (19, .return_, 1, [], 0, 0, 0, 0, 0)]
def mX6_setOwner : xMe := (yX6_setOwner, cX6_setOwner, 3, none, RX6, 1, pX6_setOwner)
set_option maxRecDepth 20000 in
def pX6_ownedBy : List xI := [(0, .iconst 0, 1, [], 0, 0, 0, 0, 0),
  (1, .istore_n 2, 1, [], 0, 0, 0, 0, 0),
  (2, .iconst 0, 1, [], 0, 0, 0, 0, 0),
  (3, .istore_n 3, 1, [], 0, 0, 0, 0, 0),
  (4, .iload_n 3, 1, [], 0, 0, 0, 0, 0),
  (5, .aload_n 0, 1, [], 0, 0, 0, 0, 0),
  (6, .getfield 32, 3, [], 6, 3, 0, 85, 0),
  (9, .if_icmp .ge 29, 3, [22], 0, 0, 0, 0, 0),
  (12, .iload_n 1, 1, [], 0, 0, 0, 0, 0),
  (13, .aload_n 0, 1, [], 0, 0, 0, 0, 0),
  (14, .getfield 15, 3, [], 6, 1, 0, 83, 0),
  (17, .iload_n 3, 1, [], 0, 0, 0, 0, 0),
  (18, .iaload, 1, [], 0, 0, 0, 0, 0),
  (19, .invokestatic 35, 3, [], 113, 2, 1, 705, 0),
  (22, .ifCond .eq 10, 3, [20], 0, 0, 0, 0, 0),
  (25, .iload_n 2, 1, [], 0, 0, 0, 0, 0),
  (26, .iload_n 3, 1, [], 0, 0, 0, 0, 0),
  (27, .invokestatic 24, 3, [], 114, 1, 1, 79, 0),
  (30, .ior, 1, [], 0, 0, 0, 0, 0),
  (31, .istore_n 2, 1, [], 0, 0, 0, 0, 0),
  (32, .iinc 3 1, 3, [], 0, 0, 0, 0, 0),
  (35, .goto (-31), 3, [4], 0, 0, 0, 0, 0),
  (38, .iload_n 2, 1, [], 0, 0, 0, 0, 0),
  (39, .ireturn, 1, [], 0, 0, 0, 0, 0)]
def mX6_ownedBy : xMe := (yX6_ownedBy, cX6_ownedBy, 4, some .int, RX6, 1, pX6_ownedBy)
set_option maxRecDepth 20000 in
def pX7_init : List xI := [(0, .aload_n 0, 1, [], 0, 0, 0, 0, 0),
  (1, .invokespecial 3, 3, [], 0, 0, 2, 291, 0),
  (4, .aload_n 0, 1, [], 0, 0, 0, 0, 0),
  (5, .sipush 200, 3, [], 0, 0, 0, 0, 0),
  (8, .newarray .int, 2, [], 100, 0, 0, 0, 0),
  (10, .putfield 9, 3, [], 7, 0, 0, 292, 0),
  (13, .aload_n 0, 1, [], 0, 0, 0, 0, 0),
  (14, .sipush 200, 3, [], 0, 0, 0, 0, 0),
  (17, .newarray .int, 2, [], 100, 0, 0, 0, 0),
  (19, .putfield 15, 3, [], 7, 1, 0, 293, 0),
  (22, .aload_n 0, 1, [], 0, 0, 0, 0, 0),
  (23, .sipush 200, 3, [], 0, 0, 0, 0, 0),
  (26, .newarray .int, 2, [], 100, 0, 0, 0, 0),
  (28, .putfield 18, 3, [], 7, 2, 0, 294, 0),
  (31, .return_, 1, [], 0, 0, 0, 0, 0)]
def mX7_init : xMe := (yX7_init, cX7_init, 1, none, RX7, 2, pX7_init)
set_option maxRecDepth 20000 in
def pX7_kindAt : List xI := [(0, .iload_n 1, 1, [], 0, 0, 0, 0, 0),
  (1, .ifCond .lt 20, 3, [11], 0, 0, 0, 0, 0),
  (4, .iload_n 1, 1, [], 0, 0, 0, 0, 0),
  (5, .aload_n 0, 1, [], 0, 0, 0, 0, 0),
  (6, .getfield 21, 3, [], 7, 3, 0, 295, 0),
  (9, .if_icmp .ge 12, 3, [11], 0, 0, 0, 0, 0),
  (12, .aload_n 0, 1, [], 0, 0, 0, 0, 0),
  (13, .getfield 9, 3, [], 7, 0, 0, 292, 0),
  (16, .iload_n 1, 1, [], 0, 0, 0, 0, 0),
  (17, .iaload, 1, [], 0, 0, 0, 0, 0),
  (18, .goto 5, 3, [12], 0, 0, 0, 0, 0),
  (21, .bipush 28, 2, [], 0, 0, 0, 0, 0),
  (23, .ireturn, 1, [], 0, 0, 0, 0, 0)]
def mX7_kindAt : xMe := (yX7_kindAt, cX7_kindAt, 2, some .int, RX7, 1, pX7_kindAt)
set_option maxRecDepth 20000 in
def pX7_wordAt : List xI := [(0, .iload_n 1, 1, [], 0, 0, 0, 0, 0),
  (1, .ifCond .lt 20, 3, [11], 0, 0, 0, 0, 0),
  (4, .iload_n 1, 1, [], 0, 0, 0, 0, 0),
  (5, .aload_n 0, 1, [], 0, 0, 0, 0, 0),
  (6, .getfield 21, 3, [], 7, 3, 0, 295, 0),
  (9, .if_icmp .ge 12, 3, [11], 0, 0, 0, 0, 0),
  (12, .aload_n 0, 1, [], 0, 0, 0, 0, 0),
  (13, .getfield 15, 3, [], 7, 1, 0, 293, 0),
  (16, .iload_n 1, 1, [], 0, 0, 0, 0, 0),
  (17, .iaload, 1, [], 0, 0, 0, 0, 0),
  (18, .goto 5, 3, [12], 0, 0, 0, 0, 0),
  (21, .bipush (-4), 2, [], 0, 0, 0, 0, 0),
  (23, .ireturn, 1, [], 0, 0, 0, 0, 0)]
def mX7_wordAt : xMe := (yX7_wordAt, cX7_wordAt, 2, some .int, RX7, 1, pX7_wordAt)
set_option maxRecDepth 20000 in
def pX7_placeAt : List xI := [(0, .iload_n 1, 1, [], 0, 0, 0, 0, 0),
  (1, .ifCond .lt 20, 3, [11], 0, 0, 0, 0, 0),
  (4, .iload_n 1, 1, [], 0, 0, 0, 0, 0),
  (5, .aload_n 0, 1, [], 0, 0, 0, 0, 0),
  (6, .getfield 21, 3, [], 7, 3, 0, 295, 0),
  (9, .if_icmp .ge 12, 3, [11], 0, 0, 0, 0, 0),
  (12, .aload_n 0, 1, [], 0, 0, 0, 0, 0),
  (13, .getfield 18, 3, [], 7, 2, 0, 294, 0),
  (16, .iload_n 1, 1, [], 0, 0, 0, 0, 0),
  (17, .iaload, 1, [], 0, 0, 0, 0, 0),
  (18, .goto 7, 3, [13], 0, 0, 0, 0, 0),
  (21, .aload_n 0, 1, [], 0, 0, 0, 0, 0),
  (22, .getfield 25, 3, [], 7, 4, 0, 296, 0),
  (25, .ireturn, 1, [], 0, 0, 0, 0, 0)]
def mX7_placeAt : xMe := (yX7_placeAt, cX7_placeAt, 2, some .int, RX7, 1, pX7_placeAt)
set_option maxRecDepth 20000 in
def pX7_split : List xI := [(0, .aload_n 0, 1, [], 0, 0, 0, 0, 0),
  (1, .iconst 0, 1, [], 0, 0, 0, 0, 0),
  (2, .putfield 21, 3, [], 7, 3, 0, 295, 0),
  (5, .aload_n 0, 1, [], 0, 0, 0, 0, 0),
  (6, .aload_n 1, 1, [], 0, 0, 0, 0, 0),
  (7, .invokevirtual 28, 3, [4], 43, 0, 0, 539, 0),
  (10, .putfield 25, 3, [], 7, 4, 0, 296, 0),
  (13, .iconst 0, 1, [], 0, 0, 0, 0, 0),
  (14, .istore_n 3, 1, [], 0, 0, 0, 0, 0),
  (15, .iload_n 3, 1, [], 0, 0, 0, 0, 0),
  (16, .aload_n 0, 1, [], 0, 0, 0, 0, 0),
  (17, .getfield 25, 3, [], 7, 4, 0, 296, 0),
  (20, .if_icmp .ge 99, 3, [62], 0, 0, 0, 0, 0),
  (23, .aload_n 1, 1, [], 0, 0, 0, 0, 0),
  (24, .iload_n 3, 1, [], 0, 0, 0, 0, 0),
  (25, .invokevirtual 33, 3, [4], 46, 1, 0, 540, 0),
  (28, .istore 4, 2, [], 0, 0, 0, 0, 0),
  (30, .aload_n 1, 1, [], 0, 0, 0, 0, 0),
  (31, .iload_n 3, 1, [], 0, 0, 0, 0, 0),
  (32, .invokevirtual 37, 3, [4], 47, 1, 0, 541, 0),
  (35, .ifCond .eq 27, 3, [35], 0, 0, 0, 0, 0),
  (38, .aload_n 1, 1, [], 0, 0, 0, 0, 0),
  (39, .iload_n 3, 1, [], 0, 0, 0, 0, 0),
  (40, .iconst 1, 1, [], 0, 0, 0, 0, 0),
  (41, .isub, 1, [], 0, 0, 0, 0, 0),
  (42, .invokevirtual 37, 3, [4], 47, 1, 0, 541, 0),
  (45, .ifCond .ne 68, 3, [60], 0, 0, 0, 0, 0),
  (48, .aload_n 0, 1, [], 0, 0, 0, 0, 0),
  (49, .aload_n 1, 1, [], 0, 0, 0, 0, 0),
  (50, .iload_n 3, 1, [], 0, 0, 0, 0, 0),
  (51, .invokevirtual 40, 3, [4], 48, 1, 0, 542, 0),
  (54, .iload_n 3, 1, [], 0, 0, 0, 0, 0),
  (55, .aload_n 2, 1, [], 0, 0, 0, 0, 0),
  (56, .invokevirtual 44, 3, [7], 76, 3, 0, 543, 0),
  (59, .goto 54, 3, [60], 0, 0, 0, 0, 0),
  (62, .iload 4, 2, [], 0, 0, 0, 0, 0),
  (64, .bipush 44, 2, [], 0, 0, 0, 0, 0),
  (66, .if_icmp .ne 15, 3, [44], 0, 0, 0, 0, 0),
  (69, .aload_n 0, 1, [], 0, 0, 0, 0, 0),
  (70, .bipush 21, 2, [], 0, 0, 0, 0, 0),
  (72, .bipush (-4), 2, [], 0, 0, 0, 0, 0),
  (74, .iload_n 3, 1, [], 0, 0, 0, 0, 0),
  (75, .invokevirtual 48, 3, [7], 78, 3, 0, 548, 0),
  (78, .goto 35, 3, [60], 0, 0, 0, 0, 0),
  (81, .iload 4, 2, [], 0, 0, 0, 0, 0),
  (83, .bipush 46, 2, [], 0, 0, 0, 0, 0),
  (85, .if_icmp .ne 15, 3, [53], 0, 0, 0, 0, 0),
  (88, .aload_n 0, 1, [], 0, 0, 0, 0, 0),
  (89, .bipush 22, 2, [], 0, 0, 0, 0, 0),
  (91, .bipush (-4), 2, [], 0, 0, 0, 0, 0),
  (93, .iload_n 3, 1, [], 0, 0, 0, 0, 0),
  (94, .invokevirtual 48, 3, [7], 78, 3, 0, 548, 0),
  (97, .goto 16, 3, [60], 0, 0, 0, 0, 0),
  (100, .iload 4, 2, [], 0, 0, 0, 0, 0),
  (102, .bipush 32, 2, [], 0, 0, 0, 0, 0),
  (104, .if_icmp .eq 9, 3, [60], 0, 0, 0, 0, 0),
  (107, .aload_n 0, 1, [], 0, 0, 0, 0, 0),
  (108, .iload_n 3, 1, [], 0, 0, 0, 0, 0),
  (109, .invokevirtual 52, 3, [7], 75, 1, 0, 558, 0),
  (112, .return_, 1, [], 0, 0, 0, 0, 0),
  (113, .iinc 3 1, 3, [], 0, 0, 0, 0, 0),
  (116, .goto (-101), 3, [9], 0, 0, 0, 0, 0),
  (119, .return_, 1, [], 0, 0, 0, 0, 0)]
def mX7_split : xMe := (yX7_split, cX7_split, 5, none, RX7, 1, pX7_split)
set_option maxRecDepth 20000 in
def pX7_leaveOnlyStrangeByte : List xI := [(0, .aload_n 0, 1, [], 0, 0, 0, 0, 0),
  (1, .iconst 0, 1, [], 0, 0, 0, 0, 0),
  (2, .putfield 21, 3, [], 7, 3, 0, 295, 0),
  (5, .aload_n 0, 1, [], 0, 0, 0, 0, 0),
  (6, .bipush 27, 2, [], 0, 0, 0, 0, 0),
  (8, .bipush (-4), 2, [], 0, 0, 0, 0, 0),
  (10, .iload_n 1, 1, [], 0, 0, 0, 0, 0),
  (11, .invokevirtual 48, 3, [7], 78, 3, 0, 548, 0),
  (14, .return_, 1, [], 0, 0, 0, 0, 0)]
def mX7_leaveOnlyStrangeByte : xMe := (yX7_leaveOnlyStrangeByte, cX7_leaveOnlyStrangeByte, 2, none, RX7, 1, pX7_leaveOnlyStrangeByte)
set_option maxRecDepth 20000 in
def pX7_addRow : List xI := [(0, .aload 4, 2, [], 0, 0, 0, 0, 0),
  (2, .lload_n 1, 1, [], 0, 0, 0, 0, 0),
  (3, .invokevirtual 56, 3, [8], 82, 1, 0, 547, 0),
  (6, .istore 5, 2, [], 0, 0, 0, 0, 0),
  (8, .iload 5, 2, [], 0, 0, 0, 0, 0),
  (10, .bipush (-4), 2, [], 0, 0, 0, 0, 0),
  (12, .if_icmp .eq 13, 3, [13], 0, 0, 0, 0, 0),
  (15, .aload_n 0, 1, [], 0, 0, 0, 0, 0),
  (16, .iload 5, 2, [], 0, 0, 0, 0, 0),
  (18, .bipush (-4), 2, [], 0, 0, 0, 0, 0),
  (20, .iload_n 3, 1, [], 0, 0, 0, 0, 0),
  (21, .invokevirtual 48, 3, [7], 78, 3, 0, 548, 0),
  (24, .return_, 1, [], 0, 0, 0, 0, 0),
  (25, .aload 4, 2, [], 0, 0, 0, 0, 0),
  (27, .aload 4, 2, [], 0, 0, 0, 0, 0),
  (29, .lload_n 1, 1, [], 0, 0, 0, 0, 0),
  (30, .invokevirtual 62, 3, [8], 83, 1, 0, 552, 0),
  (33, .invokevirtual 65, 3, [8], 86, 1, 0, 553, 0),
  (36, .istore 6, 2, [], 0, 0, 0, 0, 0),
  (38, .aload 4, 2, [], 0, 0, 0, 0, 0),
  (40, .iload 6, 2, [], 0, 0, 0, 0, 0),
  (42, .invokevirtual 68, 3, [8], 85, 1, 0, 554, 0),
  (45, .istore 7, 2, [], 0, 0, 0, 0, 0),
  (47, .iload 7, 2, [], 0, 0, 0, 0, 0),
  (49, .iconst 3, 1, [], 0, 0, 0, 0, 0),
  (50, .if_icmp .eq 15, 3, [32], 0, 0, 0, 0, 0),
  (53, .aload_n 0, 1, [], 0, 0, 0, 0, 0),
  (54, .iload 7, 2, [], 0, 0, 0, 0, 0),
  (56, .invokestatic 71, 3, [], 77, 1, 0, 555, 0),
  (59, .iload 6, 2, [], 0, 0, 0, 0, 0),
  (61, .iload_n 3, 1, [], 0, 0, 0, 0, 0),
  (62, .invokevirtual 48, 3, [7], 78, 3, 0, 548, 0),
  (65, .return_, 1, [], 0, 0, 0, 0, 0)]
def mX7_addRow : xMe := (yX7_addRow, cX7_addRow, 8, none, RX7, 1, pX7_addRow)
set_option maxRecDepth 20000 in
def pX7_kindOfSort : List xI := [(0, .iload_n 0, 1, [], 0, 0, 0, 0, 0),
  (1, .tableswitch 36 0 2 #[27, 30, 33], 27, [8, 2, 4, 6], 0, 0, 0, 0, 0),
  (28, .bipush 23, 2, [], 0, 0, 0, 0, 0),
  (30, .ireturn, 1, [], 0, 0, 0, 0, 0),
  (31, .bipush 24, 2, [], 0, 0, 0, 0, 0),
  (33, .ireturn, 1, [], 0, 0, 0, 0, 0),
  (34, .bipush 25, 2, [], 0, 0, 0, 0, 0),
  (36, .ireturn, 1, [], 0, 0, 0, 0, 0),
  (37, .bipush 26, 2, [], 0, 0, 0, 0, 0),
  (39, .ireturn, 1, [], 0, 0, 0, 0, 0)]
def mX7_kindOfSort : xMe := (yX7_kindOfSort, cX7_kindOfSort, 1, some .int, RX7, 0, pX7_kindOfSort)
set_option maxRecDepth 20000 in
def pX7_add : List xI := [(0, .aload_n 0, 1, [], 0, 0, 0, 0, 0),
  (1, .getfield 21, 3, [], 7, 3, 0, 295, 0),
  (4, .sipush 200, 3, [], 0, 0, 0, 0, 0),
  (7, .if_icmp .ge 43, 3, [28], 0, 0, 0, 0, 0),
  (10, .aload_n 0, 1, [], 0, 0, 0, 0, 0),
  (11, .getfield 9, 3, [], 7, 0, 0, 292, 0),
  (14, .aload_n 0, 1, [], 0, 0, 0, 0, 0),
  (15, .getfield 21, 3, [], 7, 3, 0, 295, 0),
  (18, .iload_n 1, 1, [], 0, 0, 0, 0, 0),
  (19, .iastore, 1, [], 0, 0, 0, 0, 0),
  (20, .aload_n 0, 1, [], 0, 0, 0, 0, 0),
  (21, .getfield 15, 3, [], 7, 1, 0, 293, 0),
  (24, .aload_n 0, 1, [], 0, 0, 0, 0, 0),
  (25, .getfield 21, 3, [], 7, 3, 0, 295, 0),
  (28, .iload_n 2, 1, [], 0, 0, 0, 0, 0),
  (29, .iastore, 1, [], 0, 0, 0, 0, 0),
  (30, .aload_n 0, 1, [], 0, 0, 0, 0, 0),
  (31, .getfield 18, 3, [], 7, 2, 0, 294, 0),
  (34, .aload_n 0, 1, [], 0, 0, 0, 0, 0),
  (35, .getfield 21, 3, [], 7, 3, 0, 295, 0),
  (38, .iload_n 3, 1, [], 0, 0, 0, 0, 0),
  (39, .iastore, 1, [], 0, 0, 0, 0, 0),
  (40, .aload_n 0, 1, [], 0, 0, 0, 0, 0),
  (41, .dup, 1, [], 0, 0, 0, 0, 0),
  (42, .getfield 21, 3, [], 7, 3, 0, 295, 0),
  (45, .iconst 1, 1, [], 0, 0, 0, 0, 0),
  (46, .iadd, 1, [], 0, 0, 0, 0, 0),
  (47, .putfield 21, 3, [], 7, 3, 0, 295, 0),
  (50, .return_, 1, [], 0, 0, 0, 0, 0)]
def mX7_add : xMe := (yX7_add, cX7_add, 4, none, RX7, 1, pX7_add)
set_option maxRecDepth 20000 in
def pX8_init : List xI := [(0, .aload_n 0, 1, [], 0, 0, 0, 0, 0),
  (1, .invokespecial 3, 3, [], 0, 0, 2, 101, 0),
  (4, .aload_n 0, 1, [], 0, 0, 0, 0, 0),
  (5, .bipush 21, 2, [], 0, 0, 0, 0, 0),
  (7, .newarray .long, 2, [], 101, 0, 0, 0, 0),
  (9, .putfield 9, 3, [], 8, 0, 0, 152, 0),
  (12, .aload_n 0, 1, [], 0, 0, 0, 0, 0),
  (13, .bipush 60, 2, [], 0, 0, 0, 0, 0),
  (15, .newarray .long, 2, [], 101, 0, 0, 0, 0),
  (17, .putfield 15, 3, [], 8, 1, 0, 153, 0),
  (20, .aload_n 0, 1, [], 0, 0, 0, 0, 0),
  (21, .bipush 60, 2, [], 0, 0, 0, 0, 0),
  (23, .newarray .int, 2, [], 100, 0, 0, 0, 0),
  (25, .putfield 18, 3, [], 8, 2, 0, 154, 0),
  (28, .aload_n 0, 1, [], 0, 0, 0, 0, 0),
  (29, .bipush 60, 2, [], 0, 0, 0, 0, 0),
  (31, .newarray .int, 2, [], 100, 0, 0, 0, 0),
  (33, .putfield 22, 3, [], 8, 3, 0, 155, 0),
  (36, .aload_n 0, 1, [], 0, 0, 0, 0, 0),
  (37, .bipush 60, 2, [], 0, 0, 0, 0, 0),
  (39, .newarray .int, 2, [], 100, 0, 0, 0, 0),
  (41, .putfield 25, 3, [], 8, 4, 0, 156, 0),
  (44, .aload_n 0, 1, [], 0, 0, 0, 0, 0),
  (45, .bipush 60, 2, [], 0, 0, 0, 0, 0),
  (47, .newarray .int, 2, [], 100, 0, 0, 0, 0),
  (49, .putfield 28, 3, [], 8, 5, 0, 157, 0),
  (52, .aload_n 0, 1, [], 0, 0, 0, 0, 0),
  (53, .bipush 60, 2, [], 0, 0, 0, 0, 0),
  (55, .newarray .int, 2, [], 100, 0, 0, 0, 0),
  (57, .putfield 31, 3, [], 8, 6, 0, 158, 0),
  (60, .iconst 0, 1, [], 0, 0, 0, 0, 0),
  (61, .istore_n 1, 1, [], 0, 0, 0, 0, 0),
  (62, .iconst 0, 1, [], 0, 0, 0, 0, 0),
  (63, .istore_n 2, 1, [], 0, 0, 0, 0, 0),
  (64, .iload_n 2, 1, [], 0, 0, 0, 0, 0),
  (65, .ldc 34, 2, [], 0, 0, 0, 102, 0),
  (67, .invokevirtual 36, 3, [], 0, 0, 3, 103, 0),
  (70, .if_icmp .ge 58, 3, [69], 0, 0, 0, 0, 0),
  (73, .iload_n 1, 1, [], 0, 0, 0, 0, 0),
  (74, .bipush 21, 2, [], 0, 0, 0, 0, 0),
  (76, .if_icmp .ge 52, 3, [69], 0, 0, 0, 0, 0),
  (79, .ldc 34, 2, [], 0, 0, 0, 102, 0),
  (81, .iload_n 2, 1, [], 0, 0, 0, 0, 0),
  (82, .invokevirtual 42, 3, [], 0, 1, 4, 113, 0),
  (85, .istore_n 3, 1, [], 0, 0, 0, 0, 0),
  (86, .iload_n 3, 1, [], 0, 0, 0, 0, 0),
  (87, .bipush 32, 2, [], 0, 0, 0, 0, 0),
  (89, .if_icmp .ne 9, 3, [50], 0, 0, 0, 0, 0),
  (92, .iinc 1 1, 3, [], 0, 0, 0, 0, 0),
  (95, .goto 27, 3, [67], 0, 0, 0, 0, 0),
  (98, .aload_n 0, 1, [], 0, 0, 0, 0, 0),
  (99, .getfield 9, 3, [], 8, 0, 0, 152, 0),
  (102, .iload_n 1, 1, [], 0, 0, 0, 0, 0),
  (103, .aload_n 0, 1, [], 0, 0, 0, 0, 0),
  (104, .getfield 9, 3, [], 8, 0, 0, 152, 0),
  (107, .iload_n 1, 1, [], 0, 0, 0, 0, 0),
  (108, .laload, 1, [], 0, 0, 0, 0, 0),
  (109, .ldc2_w 46, 3, [], 0, 0, 0, 151, 27),
  (112, .lmul, 1, [], 0, 0, 0, 0, 0),
  (113, .iload_n 3, 1, [], 0, 0, 0, 0, 0),
  (114, .bipush 97, 2, [], 0, 0, 0, 0, 0),
  (116, .isub, 1, [], 0, 0, 0, 0, 0),
  (117, .iconst 1, 1, [], 0, 0, 0, 0, 0),
  (118, .iadd, 1, [], 0, 0, 0, 0, 0),
  (119, .i2l, 1, [], 0, 0, 0, 0, 0),
  (120, .ladd, 1, [], 0, 0, 0, 0, 0),
  (121, .lastore, 1, [], 0, 0, 0, 0, 0),
  (122, .iinc 2 1, 3, [], 0, 0, 0, 0, 0),
  (125, .goto (-61), 3, [34], 0, 0, 0, 0, 0),
  (128, .return_, 1, [], 0, 0, 0, 0, 0)]
def mX8_init : xMe := (yX8_init, cX8_init, 4, none, RX8, 2, pX8_init)
set_option maxRecDepth 20000 in
def pX8_size : List xI := [(0, .aload_n 0, 1, [], 0, 0, 0, 0, 0),
  (1, .getfield 48, 3, [], 8, 7, 0, 159, 0),
  (4, .ireturn, 1, [], 0, 0, 0, 0, 0)]
def mX8_size : xMe := (yX8_size, cX8_size, 1, some .int, RX8, 1, pX8_size)
set_option maxRecDepth 20000 in
def pX8_has : List xI := [(0, .iload_n 1, 1, [], 0, 0, 0, 0, 0),
  (1, .ifCond .lt 15, 3, [8], 0, 0, 0, 0, 0),
  (4, .iload_n 1, 1, [], 0, 0, 0, 0, 0),
  (5, .aload_n 0, 1, [], 0, 0, 0, 0, 0),
  (6, .getfield 48, 3, [], 8, 7, 0, 159, 0),
  (9, .if_icmp .ge 7, 3, [8], 0, 0, 0, 0, 0),
  (12, .iconst 1, 1, [], 0, 0, 0, 0, 0),
  (13, .goto 4, 3, [9], 0, 0, 0, 0, 0),
  (16, .iconst 0, 1, [], 0, 0, 0, 0, 0),
  (17, .ireturn, 1, [], 0, 0, 0, 0, 0)]
def mX8_has : xMe := (yX8_has, cX8_has, 2, some .boolean, RX8, 1, pX8_has)
set_option maxRecDepth 20000 in
def pX8_fixedNumber : List xI := [(0, .iconst 0, 1, [], 0, 0, 0, 0, 0),
  (1, .istore_n 3, 1, [], 0, 0, 0, 0, 0),
  (2, .iload_n 3, 1, [], 0, 0, 0, 0, 0),
  (3, .bipush 21, 2, [], 0, 0, 0, 0, 0),
  (5, .if_icmp .ge 22, 3, [16], 0, 0, 0, 0, 0),
  (8, .aload_n 0, 1, [], 0, 0, 0, 0, 0),
  (9, .getfield 9, 3, [], 8, 0, 0, 152, 0),
  (12, .iload_n 3, 1, [], 0, 0, 0, 0, 0),
  (13, .laload, 1, [], 0, 0, 0, 0, 0),
  (14, .lload_n 1, 1, [], 0, 0, 0, 0, 0),
  (15, .lcmp, 1, [], 0, 0, 0, 0, 0),
  (16, .ifCond .ne 5, 3, [14], 0, 0, 0, 0, 0),
  (19, .iload_n 3, 1, [], 0, 0, 0, 0, 0),
  (20, .ireturn, 1, [], 0, 0, 0, 0, 0),
  (21, .iinc 3 1, 3, [], 0, 0, 0, 0, 0),
  (24, .goto (-22), 3, [2], 0, 0, 0, 0, 0),
  (27, .bipush (-4), 2, [], 0, 0, 0, 0, 0),
  (29, .ireturn, 1, [], 0, 0, 0, 0, 0)]
def mX8_fixedNumber : xMe := (yX8_fixedNumber, cX8_fixedNumber, 4, some .int, RX8, 1, pX8_fixedNumber)
set_option maxRecDepth 20000 in
def pX8_find : List xI := [(0, .iconst 0, 1, [], 0, 0, 0, 0, 0),
  (1, .istore_n 3, 1, [], 0, 0, 0, 0, 0),
  (2, .iload_n 3, 1, [], 0, 0, 0, 0, 0),
  (3, .aload_n 0, 1, [], 0, 0, 0, 0, 0),
  (4, .getfield 48, 3, [], 8, 7, 0, 159, 0),
  (7, .if_icmp .ge 22, 3, [17], 0, 0, 0, 0, 0),
  (10, .aload_n 0, 1, [], 0, 0, 0, 0, 0),
  (11, .getfield 15, 3, [], 8, 1, 0, 153, 0),
  (14, .iload_n 3, 1, [], 0, 0, 0, 0, 0),
  (15, .laload, 1, [], 0, 0, 0, 0, 0),
  (16, .lload_n 1, 1, [], 0, 0, 0, 0, 0),
  (17, .lcmp, 1, [], 0, 0, 0, 0, 0),
  (18, .ifCond .ne 5, 3, [15], 0, 0, 0, 0, 0),
  (21, .iload_n 3, 1, [], 0, 0, 0, 0, 0),
  (22, .ireturn, 1, [], 0, 0, 0, 0, 0),
  (23, .iinc 3 1, 3, [], 0, 0, 0, 0, 0),
  (26, .goto (-24), 3, [2], 0, 0, 0, 0, 0),
  (29, .bipush (-4), 2, [], 0, 0, 0, 0, 0),
  (31, .ireturn, 1, [], 0, 0, 0, 0, 0)]
def mX8_find : xMe := (yX8_find, cX8_find, 4, some .int, RX8, 1, pX8_find)
set_option maxRecDepth 20000 in
def pX8_add : List xI := [(0, .aload_n 0, 1, [], 0, 0, 0, 0, 0),
  (1, .getfield 48, 3, [], 8, 7, 0, 159, 0),
  (4, .bipush 60, 2, [], 0, 0, 0, 0, 0),
  (6, .if_icmp .lt 6, 3, [6], 0, 0, 0, 0, 0),
  (9, .bipush (-3), 2, [], 0, 0, 0, 0, 0),
  (11, .ireturn, 1, [], 0, 0, 0, 0, 0),
  (12, .aload_n 0, 1, [], 0, 0, 0, 0, 0),
  (13, .getfield 15, 3, [], 8, 1, 0, 153, 0),
  (16, .aload_n 0, 1, [], 0, 0, 0, 0, 0),
  (17, .getfield 48, 3, [], 8, 7, 0, 159, 0),
  (20, .lload_n 1, 1, [], 0, 0, 0, 0, 0),
  (21, .lastore, 1, [], 0, 0, 0, 0, 0),
  (22, .aload_n 0, 1, [], 0, 0, 0, 0, 0),
  (23, .getfield 18, 3, [], 8, 2, 0, 154, 0),
  (26, .aload_n 0, 1, [], 0, 0, 0, 0, 0),
  (27, .getfield 48, 3, [], 8, 7, 0, 159, 0),
  (30, .iload_n 3, 1, [], 0, 0, 0, 0, 0),
  (31, .iastore, 1, [], 0, 0, 0, 0, 0),
  (32, .aload_n 0, 1, [], 0, 0, 0, 0, 0),
  (33, .getfield 31, 3, [], 8, 6, 0, 158, 0),
  (36, .aload_n 0, 1, [], 0, 0, 0, 0, 0),
  (37, .getfield 48, 3, [], 8, 7, 0, 159, 0),
  (40, .aload_n 0, 1, [], 0, 0, 0, 0, 0),
  (41, .getfield 48, 3, [], 8, 7, 0, 159, 0),
  (44, .iastore, 1, [], 0, 0, 0, 0, 0),
  (45, .aload_n 0, 1, [], 0, 0, 0, 0, 0),
  (46, .dup, 1, [], 0, 0, 0, 0, 0),
  (47, .getfield 48, 3, [], 8, 7, 0, 159, 0),
  (50, .iconst 1, 1, [], 0, 0, 0, 0, 0),
  (51, .iadd, 1, [], 0, 0, 0, 0, 0),
  (52, .putfield 48, 3, [], 8, 7, 0, 159, 0),
  (55, .aload_n 0, 1, [], 0, 0, 0, 0, 0),
  (56, .getfield 48, 3, [], 8, 7, 0, 159, 0),
  (59, .iconst 1, 1, [], 0, 0, 0, 0, 0),
  (60, .isub, 1, [], 0, 0, 0, 0, 0),
  (61, .ireturn, 1, [], 0, 0, 0, 0, 0)]
def mX8_add : xMe := (yX8_add, cX8_add, 4, some .int, RX8, 1, pX8_add)
set_option maxRecDepth 20000 in
def pX8_sortOf : List xI := [(0, .iload_n 1, 1, [], 0, 0, 0, 0, 0),
  (1, .ifCond .lt 20, 3, [11], 0, 0, 0, 0, 0),
  (4, .iload_n 1, 1, [], 0, 0, 0, 0, 0),
  (5, .aload_n 0, 1, [], 0, 0, 0, 0, 0),
  (6, .getfield 48, 3, [], 8, 7, 0, 159, 0),
  (9, .if_icmp .ge 12, 3, [11], 0, 0, 0, 0, 0),
  (12, .aload_n 0, 1, [], 0, 0, 0, 0, 0),
  (13, .getfield 18, 3, [], 8, 2, 0, 154, 0),
  (16, .iload_n 1, 1, [], 0, 0, 0, 0, 0),
  (17, .iaload, 1, [], 0, 0, 0, 0, 0),
  (18, .goto 5, 3, [12], 0, 0, 0, 0, 0),
  (21, .bipush (-4), 2, [], 0, 0, 0, 0, 0),
  (23, .ireturn, 1, [], 0, 0, 0, 0, 0)]
def mX8_sortOf : xMe := (yX8_sortOf, cX8_sortOf, 2, some .int, RX8, 1, pX8_sortOf)
set_option maxRecDepth 20000 in
def pX8_rootOf : List xI := [(0, .iload_n 1, 1, [], 0, 0, 0, 0, 0),
  (1, .ifCond .lt 20, 3, [11], 0, 0, 0, 0, 0),
  (4, .iload_n 1, 1, [], 0, 0, 0, 0, 0),
  (5, .aload_n 0, 1, [], 0, 0, 0, 0, 0),
  (6, .getfield 48, 3, [], 8, 7, 0, 159, 0),
  (9, .if_icmp .ge 12, 3, [11], 0, 0, 0, 0, 0),
  (12, .aload_n 0, 1, [], 0, 0, 0, 0, 0),
  (13, .getfield 31, 3, [], 8, 6, 0, 158, 0),
  (16, .iload_n 1, 1, [], 0, 0, 0, 0, 0),
  (17, .iaload, 1, [], 0, 0, 0, 0, 0),
  (18, .goto 5, 3, [12], 0, 0, 0, 0, 0),
  (21, .bipush (-4), 2, [], 0, 0, 0, 0, 0),
  (23, .ireturn, 1, [], 0, 0, 0, 0, 0)]
def mX8_rootOf : xMe := (yX8_rootOf, cX8_rootOf, 2, some .int, RX8, 1, pX8_rootOf)
set_option maxRecDepth 20000 in
def pX8_setRoot : List xI := [(0, .iload_n 1, 1, [], 0, 0, 0, 0, 0),
  (1, .ifCond .lt 18, 3, [11], 0, 0, 0, 0, 0),
  (4, .iload_n 1, 1, [], 0, 0, 0, 0, 0),
  (5, .aload_n 0, 1, [], 0, 0, 0, 0, 0),
  (6, .getfield 48, 3, [], 8, 7, 0, 159, 0),
  (9, .if_icmp .ge 10, 3, [11], 0, 0, 0, 0, 0),
  (12, .aload_n 0, 1, [], 0, 0, 0, 0, 0),
  (13, .getfield 31, 3, [], 8, 6, 0, 158, 0),
  (16, .iload_n 1, 1, [], 0, 0, 0, 0, 0),
  (17, .iload_n 2, 1, [], 0, 0, 0, 0, 0),
  (18, .iastore, 1, [], 0, 0, 0, 0, 0),
  (19, .return_, 1, [], 0, 0, 0, 0, 0)]
def mX8_setRoot : xMe := (yX8_setRoot, cX8_setRoot, 3, none, RX8, 1, pX8_setRoot)
set_option maxRecDepth 20000 in
def pX8_isOwn : List xI := [(0, .iload_n 1, 1, [], 0, 0, 0, 0, 0),
  (1, .ifCond .lt 35, 3, [20], 0, 0, 0, 0, 0),
  (4, .iload_n 1, 1, [], 0, 0, 0, 0, 0),
  (5, .aload_n 0, 1, [], 0, 0, 0, 0, 0),
  (6, .getfield 48, 3, [], 8, 7, 0, 159, 0),
  (9, .if_icmp .ge 27, 3, [20], 0, 0, 0, 0, 0),
  (12, .aload_n 0, 1, [], 0, 0, 0, 0, 0),
  (13, .getfield 18, 3, [], 8, 2, 0, 154, 0),
  (16, .iload_n 1, 1, [], 0, 0, 0, 0, 0),
  (17, .iaload, 1, [], 0, 0, 0, 0, 0),
  (18, .iload_n 2, 1, [], 0, 0, 0, 0, 0),
  (19, .if_icmp .ne 17, 3, [20], 0, 0, 0, 0, 0),
  (22, .aload_n 0, 1, [], 0, 0, 0, 0, 0),
  (23, .getfield 31, 3, [], 8, 6, 0, 158, 0),
  (26, .iload_n 1, 1, [], 0, 0, 0, 0, 0),
  (27, .iaload, 1, [], 0, 0, 0, 0, 0),
  (28, .iload_n 1, 1, [], 0, 0, 0, 0, 0),
  (29, .if_icmp .ne 7, 3, [20], 0, 0, 0, 0, 0),
  (32, .iconst 1, 1, [], 0, 0, 0, 0, 0),
  (33, .goto 4, 3, [21], 0, 0, 0, 0, 0),
  (36, .iconst 0, 1, [], 0, 0, 0, 0, 0),
  (37, .ireturn, 1, [], 0, 0, 0, 0, 0)]
def mX8_isOwn : xMe := (yX8_isOwn, cX8_isOwn, 3, some .boolean, RX8, 1, pX8_isOwn)
set_option maxRecDepth 20000 in
def pX8_isRootOfOthers : List xI := [(0, .iconst 0, 1, [], 0, 0, 0, 0, 0),
  (1, .istore_n 2, 1, [], 0, 0, 0, 0, 0),
  (2, .iload_n 2, 1, [], 0, 0, 0, 0, 0),
  (3, .aload_n 0, 1, [], 0, 0, 0, 0, 0),
  (4, .getfield 48, 3, [], 8, 7, 0, 159, 0),
  (7, .if_icmp .ge 26, 3, [19], 0, 0, 0, 0, 0),
  (10, .iload_n 2, 1, [], 0, 0, 0, 0, 0),
  (11, .iload_n 1, 1, [], 0, 0, 0, 0, 0),
  (12, .if_icmp .eq 15, 3, [17], 0, 0, 0, 0, 0),
  (15, .aload_n 0, 1, [], 0, 0, 0, 0, 0),
  (16, .getfield 31, 3, [], 8, 6, 0, 158, 0),
  (19, .iload_n 2, 1, [], 0, 0, 0, 0, 0),
  (20, .iaload, 1, [], 0, 0, 0, 0, 0),
  (21, .iload_n 1, 1, [], 0, 0, 0, 0, 0),
  (22, .if_icmp .ne 5, 3, [17], 0, 0, 0, 0, 0),
  (25, .iconst 1, 1, [], 0, 0, 0, 0, 0),
  (26, .ireturn, 1, [], 0, 0, 0, 0, 0),
  (27, .iinc 2 1, 3, [], 0, 0, 0, 0, 0),
  (30, .goto (-28), 3, [2], 0, 0, 0, 0, 0),
  (33, .iconst 0, 1, [], 0, 0, 0, 0, 0),
  (34, .ireturn, 1, [], 0, 0, 0, 0, 0)]
def mX8_isRootOfOthers : xMe := (yX8_isRootOfOthers, cX8_isRootOfOthers, 3, some .boolean, RX8, 1, pX8_isRootOfOthers)
set_option maxRecDepth 20000 in
def pX8_isInUse : List xI := [(0, .aload_n 0, 1, [], 0, 0, 0, 0, 0),
  (1, .iload_n 1, 1, [], 0, 0, 0, 0, 0),
  (2, .invokevirtual 52, 3, [8], 93, 1, 0, 474, 0),
  (5, .ifCond .ne 19, 3, [12], 0, 0, 0, 0, 0),
  (8, .aload_n 0, 1, [], 0, 0, 0, 0, 0),
  (9, .iload_n 1, 1, [], 0, 0, 0, 0, 0),
  (10, .invokevirtual 56, 3, [8], 94, 1, 0, 478, 0),
  (13, .ifCond .ne 11, 3, [12], 0, 0, 0, 0, 0),
  (16, .aload_n 0, 1, [], 0, 0, 0, 0, 0),
  (17, .iload_n 1, 1, [], 0, 0, 0, 0, 0),
  (18, .invokevirtual 59, 3, [8], 91, 1, 0, 522, 0),
  (21, .ifCond .le 7, 3, [14], 0, 0, 0, 0, 0),
  (24, .iconst 1, 1, [], 0, 0, 0, 0, 0),
  (25, .goto 4, 3, [15], 0, 0, 0, 0, 0),
  (28, .iconst 0, 1, [], 0, 0, 0, 0, 0),
  (29, .ireturn, 1, [], 0, 0, 0, 0, 0)]
def mX8_isInUse : xMe := (yX8_isInUse, cX8_isInUse, 2, some .boolean, RX8, 1, pX8_isInUse)
set_option maxRecDepth 20000 in
def pX8_formOf : List xI := [(0, .iload_n 1, 1, [], 0, 0, 0, 0, 0),
  (1, .ifCond .lt 20, 3, [11], 0, 0, 0, 0, 0),
  (4, .iload_n 1, 1, [], 0, 0, 0, 0, 0),
  (5, .aload_n 0, 1, [], 0, 0, 0, 0, 0),
  (6, .getfield 48, 3, [], 8, 7, 0, 159, 0),
  (9, .if_icmp .ge 12, 3, [11], 0, 0, 0, 0, 0),
  (12, .aload_n 0, 1, [], 0, 0, 0, 0, 0),
  (13, .getfield 22, 3, [], 8, 3, 0, 155, 0),
  (16, .iload_n 1, 1, [], 0, 0, 0, 0, 0),
  (17, .iaload, 1, [], 0, 0, 0, 0, 0),
  (18, .goto 4, 3, [12], 0, 0, 0, 0, 0),
  (21, .iconst 0, 1, [], 0, 0, 0, 0, 0),
  (22, .ireturn, 1, [], 0, 0, 0, 0, 0)]
def mX8_formOf : xMe := (yX8_formOf, cX8_formOf, 2, some .int, RX8, 1, pX8_formOf)
set_option maxRecDepth 20000 in
def pX8_setForm : List xI := [(0, .iload_n 1, 1, [], 0, 0, 0, 0, 0),
  (1, .ifCond .lt 18, 3, [11], 0, 0, 0, 0, 0),
  (4, .iload_n 1, 1, [], 0, 0, 0, 0, 0),
  (5, .aload_n 0, 1, [], 0, 0, 0, 0, 0),
  (6, .getfield 48, 3, [], 8, 7, 0, 159, 0),
  (9, .if_icmp .ge 10, 3, [11], 0, 0, 0, 0, 0),
  (12, .aload_n 0, 1, [], 0, 0, 0, 0, 0),
  (13, .getfield 22, 3, [], 8, 3, 0, 155, 0),
  (16, .iload_n 1, 1, [], 0, 0, 0, 0, 0),
  (17, .iload_n 2, 1, [], 0, 0, 0, 0, 0),
  (18, .iastore, 1, [], 0, 0, 0, 0, 0),
  (19, .return_, 1, [], 0, 0, 0, 0, 0)]
def mX8_setForm : xMe := (yX8_setForm, cX8_setForm, 3, none, RX8, 1, pX8_setForm)
set_option maxRecDepth 20000 in
def pX8_nounsOf : List xI := [(0, .iload_n 1, 1, [], 0, 0, 0, 0, 0),
  (1, .ifCond .lt 20, 3, [11], 0, 0, 0, 0, 0),
  (4, .iload_n 1, 1, [], 0, 0, 0, 0, 0),
  (5, .aload_n 0, 1, [], 0, 0, 0, 0, 0),
  (6, .getfield 48, 3, [], 8, 7, 0, 159, 0),
  (9, .if_icmp .ge 12, 3, [11], 0, 0, 0, 0, 0),
  (12, .aload_n 0, 1, [], 0, 0, 0, 0, 0),
  (13, .getfield 25, 3, [], 8, 4, 0, 156, 0),
  (16, .iload_n 1, 1, [], 0, 0, 0, 0, 0),
  (17, .iaload, 1, [], 0, 0, 0, 0, 0),
  (18, .goto 4, 3, [12], 0, 0, 0, 0, 0),
  (21, .iconst 0, 1, [], 0, 0, 0, 0, 0),
  (22, .ireturn, 1, [], 0, 0, 0, 0, 0)]
def mX8_nounsOf : xMe := (yX8_nounsOf, cX8_nounsOf, 2, some .int, RX8, 1, pX8_nounsOf)
set_option maxRecDepth 20000 in
def pX8_adjectivesOf : List xI := [(0, .iload_n 1, 1, [], 0, 0, 0, 0, 0),
  (1, .ifCond .lt 20, 3, [11], 0, 0, 0, 0, 0),
  (4, .iload_n 1, 1, [], 0, 0, 0, 0, 0),
  (5, .aload_n 0, 1, [], 0, 0, 0, 0, 0),
  (6, .getfield 48, 3, [], 8, 7, 0, 159, 0),
  (9, .if_icmp .ge 12, 3, [11], 0, 0, 0, 0, 0),
  (12, .aload_n 0, 1, [], 0, 0, 0, 0, 0),
  (13, .getfield 28, 3, [], 8, 5, 0, 157, 0),
  (16, .iload_n 1, 1, [], 0, 0, 0, 0, 0),
  (17, .iaload, 1, [], 0, 0, 0, 0, 0),
  (18, .goto 4, 3, [12], 0, 0, 0, 0, 0),
  (21, .iconst 0, 1, [], 0, 0, 0, 0, 0),
  (22, .ireturn, 1, [], 0, 0, 0, 0, 0)]
def mX8_adjectivesOf : xMe := (yX8_adjectivesOf, cX8_adjectivesOf, 2, some .int, RX8, 1, pX8_adjectivesOf)
set_option maxRecDepth 20000 in
def pX8_addNamed : List xI := [(0, .iload_n 3, 1, [], 0, 0, 0, 0, 0),
  (1, .ifCond .eq 11, 3, [6], 0, 0, 0, 0, 0),
  (4, .aload_n 0, 1, [], 0, 0, 0, 0, 0),
  (5, .iload_n 1, 1, [], 0, 0, 0, 0, 0),
  (6, .invokevirtual 52, 3, [8], 93, 1, 0, 474, 0),
  (9, .goto 8, 3, [9], 0, 0, 0, 0, 0),
  (12, .aload_n 0, 1, [], 0, 0, 0, 0, 0),
  (13, .iload_n 1, 1, [], 0, 0, 0, 0, 0),
  (14, .invokevirtual 56, 3, [8], 94, 1, 0, 478, 0),
  (17, .istore 4, 2, [], 0, 0, 0, 0, 0),
  (19, .iload_n 1, 1, [], 0, 0, 0, 0, 0),
  (20, .ifCond .lt 20, 3, [20], 0, 0, 0, 0, 0),
  (23, .iload_n 1, 1, [], 0, 0, 0, 0, 0),
  (24, .aload_n 0, 1, [], 0, 0, 0, 0, 0),
  (25, .getfield 48, 3, [], 8, 7, 0, 159, 0),
  (28, .if_icmp .ge 12, 3, [20], 0, 0, 0, 0, 0),
  (31, .iload 4, 2, [], 0, 0, 0, 0, 0),
  (33, .iload_n 2, 1, [], 0, 0, 0, 0, 0),
  (34, .invokestatic 62, 3, [], 113, 2, 1, 482, 0),
  (37, .ifCond .eq 5, 3, [22], 0, 0, 0, 0, 0),
  (40, .iconst 0, 1, [], 0, 0, 0, 0, 0),
  (41, .ireturn, 1, [], 0, 0, 0, 0, 0),
  (42, .iload_n 3, 1, [], 0, 0, 0, 0, 0),
  (43, .ifCond .eq 19, 3, [33], 0, 0, 0, 0, 0),
  (46, .aload_n 0, 1, [], 0, 0, 0, 0, 0),
  (47, .getfield 25, 3, [], 8, 4, 0, 156, 0),
  (50, .iload_n 1, 1, [], 0, 0, 0, 0, 0),
  (51, .iload 4, 2, [], 0, 0, 0, 0, 0),
  (53, .iload_n 2, 1, [], 0, 0, 0, 0, 0),
  (54, .invokestatic 66, 3, [], 114, 1, 1, 485, 0),
  (57, .ior, 1, [], 0, 0, 0, 0, 0),
  (58, .iastore, 1, [], 0, 0, 0, 0, 0),
  (59, .goto 16, 3, [41], 0, 0, 0, 0, 0),
  (62, .aload_n 0, 1, [], 0, 0, 0, 0, 0),
  (63, .getfield 28, 3, [], 8, 5, 0, 157, 0),
  (66, .iload_n 1, 1, [], 0, 0, 0, 0, 0),
  (67, .iload 4, 2, [], 0, 0, 0, 0, 0),
  (69, .iload_n 2, 1, [], 0, 0, 0, 0, 0),
  (70, .invokestatic 66, 3, [], 114, 1, 1, 485, 0),
  (73, .ior, 1, [], 0, 0, 0, 0, 0),
  (74, .iastore, 1, [], 0, 0, 0, 0, 0),
  (75, .iconst 1, 1, [], 0, 0, 0, 0, 0),
  (76, .ireturn, 1, [], 0, 0, 0, 0, 0)]
def mX8_addNamed : xMe := (yX8_addNamed, cX8_addNamed, 5, some .boolean, RX8, 1, pX8_addNamed)
set_option maxRecDepth 20000 in
def pX9_init : List xI := [(0, .aload_n 0, 1, [], 0, 0, 0, 0, 0),
  (1, .invokespecial 1, 3, [], 0, 0, 2, 67, 0),
  (4, .aload_n 0, 1, [], 0, 0, 0, 0, 0),
  (5, .new 7, 3, [], 6, 0, 0, 70, 0),
  (8, .dup, 1, [], 0, 0, 0, 0, 0),
  (9, .invokespecial 9, 3, [], 58, 0, 0, 72, 0),
  (12, .putfield 10, 3, [], 9, 0, 0, 346, 0),
  (15, .aload_n 0, 1, [], 0, 0, 0, 0, 0),
  (16, .new 16, 3, [], 8, 0, 0, 96, 0),
  (19, .dup, 1, [], 0, 0, 0, 0, 0),
  (20, .invokespecial 18, 3, [], 79, 0, 0, 98, 0),
  (23, .putfield 19, 3, [], 9, 1, 0, 347, 0),
  (26, .aload_n 0, 1, [], 0, 0, 0, 0, 0),
  (27, .new 23, 3, [], 4, 0, 0, 179, 0),
  (30, .dup, 1, [], 0, 0, 0, 0, 0),
  (31, .invokespecial 25, 3, [], 42, 0, 1, 181, 0),
  (34, .putfield 26, 3, [], 9, 2, 0, 348, 0),
  (37, .aload_n 0, 1, [], 0, 0, 0, 0, 0),
  (38, .new 30, 3, [], 3, 0, 0, 192, 0),
  (41, .dup, 1, [], 0, 0, 0, 0, 0),
  (42, .invokespecial 32, 3, [], 39, 0, 1, 194, 0),
  (45, .putfield 33, 3, [], 9, 3, 0, 349, 0),
  (48, .aload_n 0, 1, [], 0, 0, 0, 0, 0),
  (49, .new 37, 3, [], 1, 0, 0, 227, 0),
  (52, .dup, 1, [], 0, 0, 0, 0, 0),
  (53, .invokespecial 39, 3, [], 4, 0, 0, 229, 0),
  (56, .putfield 40, 3, [], 9, 4, 0, 350, 0),
  (59, .aload_n 0, 1, [], 0, 0, 0, 0, 0),
  (60, .new 44, 3, [], 2, 0, 0, 280, 0),
  (63, .dup, 1, [], 0, 0, 0, 0, 0),
  (64, .aload_n 0, 1, [], 0, 0, 0, 0, 0),
  (65, .getfield 10, 3, [], 9, 0, 0, 346, 0),
  (68, .aload_n 0, 1, [], 0, 0, 0, 0, 0),
  (69, .getfield 19, 3, [], 9, 1, 0, 347, 0),
  (72, .aload_n 0, 1, [], 0, 0, 0, 0, 0),
  (73, .getfield 33, 3, [], 9, 3, 0, 349, 0),
  (76, .aload_n 0, 1, [], 0, 0, 0, 0, 0),
  (77, .getfield 40, 3, [], 9, 4, 0, 350, 0),
  (80, .invokespecial 46, 3, [], 12, 4, 0, 282, 0),
  (83, .putfield 49, 3, [], 9, 5, 0, 351, 0),
  (86, .return_, 1, [], 0, 0, 0, 0, 0)]
def mX9_init : xMe := (yX9_init, cX9_init, 1, none, RX9, 2, pX9_init)
set_option maxRecDepth 20000 in
def pX9_thing : List xI := [(0, .iload_n 1, 1, [], 0, 0, 0, 0, 0),
  (1, .iconst 4, 1, [], 0, 0, 0, 0, 0),
  (2, .invokestatic 53, 3, [], 112, 2, 0, 369, 0),
  (5, .ifCond .eq 14, 3, [9], 0, 0, 0, 0, 0),
  (8, .aload_n 0, 1, [], 0, 0, 0, 0, 0),
  (9, .getfield 10, 3, [], 9, 0, 0, 346, 0),
  (12, .iload_n 1, 1, [], 0, 0, 0, 0, 0),
  (13, .invokevirtual 57, 3, [6], 61, 1, 0, 372, 0),
  (16, .goto 4, 3, [10], 0, 0, 0, 0, 0),
  (19, .iconst (-1), 1, [], 0, 0, 0, 0, 0),
  (20, .ireturn, 1, [], 0, 0, 0, 0, 0)]
def mX9_thing : xMe := (yX9_thing, cX9_thing, 2, some .int, RX9, 1, pX9_thing)
set_option maxRecDepth 20000 in
def pX9_see : List xI := [(0, .aload_n 0, 1, [], 0, 0, 0, 0, 0),
  (1, .getfield 10, 3, [], 9, 0, 0, 346, 0),
  (4, .iload_n 1, 1, [], 0, 0, 0, 0, 0),
  (5, .invokevirtual 61, 3, [6], 60, 1, 0, 380, 0),
  (8, .ifCond .eq 7, 3, [7], 0, 0, 0, 0, 0),
  (11, .iload_n 1, 1, [], 0, 0, 0, 0, 0),
  (12, .ifCond .ne 5, 3, [9], 0, 0, 0, 0, 0),
  (15, .iconst (-1), 1, [], 0, 0, 0, 0, 0),
  (16, .ireturn, 1, [], 0, 0, 0, 0, 0),
  (17, .aload_n 0, 1, [], 0, 0, 0, 0, 0),
  (18, .getfield 10, 3, [], 9, 0, 0, 346, 0),
  (21, .iload_n 1, 1, [], 0, 0, 0, 0, 0),
  (22, .invokevirtual 65, 3, [6], 62, 1, 0, 384, 0),
  (25, .ifCond .eq 7, 3, [16], 0, 0, 0, 0, 0),
  (28, .iconst 1, 1, [], 0, 0, 0, 0, 0),
  (29, .goto 4, 3, [17], 0, 0, 0, 0, 0),
  (32, .iconst 0, 1, [], 0, 0, 0, 0, 0),
  (33, .istore_n 3, 1, [], 0, 0, 0, 0, 0),
  (34, .aload_n 0, 1, [], 0, 0, 0, 0, 0),
  (35, .getfield 10, 3, [], 9, 0, 0, 346, 0),
  (38, .iload_n 1, 1, [], 0, 0, 0, 0, 0),
  (39, .iload_n 2, 1, [], 0, 0, 0, 0, 0),
  (40, .invokevirtual 68, 3, [6], 64, 2, 0, 388, 0),
  (43, .iload_n 3, 1, [], 0, 0, 0, 0, 0),
  (44, .ireturn, 1, [], 0, 0, 0, 0, 0)]
def mX9_see : xMe := (yX9_see, cX9_see, 4, some .int, RX9, 1, pX9_see)
set_option maxRecDepth 20000 in
def pX9_own : List xI := [(0, .iload_n 2, 1, [], 0, 0, 0, 0, 0),
  (1, .bipush (-4), 2, [], 0, 0, 0, 0, 0),
  (3, .if_icmp .eq 14, 3, [8], 0, 0, 0, 0, 0),
  (6, .aload_n 0, 1, [], 0, 0, 0, 0, 0),
  (7, .getfield 10, 3, [], 9, 0, 0, 346, 0),
  (10, .iload_n 2, 1, [], 0, 0, 0, 0, 0),
  (11, .invokevirtual 61, 3, [6], 60, 1, 0, 380, 0),
  (14, .ifCond .eq 7, 3, [10], 0, 0, 0, 0, 0),
  (17, .iconst 1, 1, [], 0, 0, 0, 0, 0),
  (18, .goto 4, 3, [11], 0, 0, 0, 0, 0),
  (21, .iconst 0, 1, [], 0, 0, 0, 0, 0),
  (22, .istore_n 3, 1, [], 0, 0, 0, 0, 0),
  (23, .aload_n 0, 1, [], 0, 0, 0, 0, 0),
  (24, .getfield 10, 3, [], 9, 0, 0, 346, 0),
  (27, .iload_n 1, 1, [], 0, 0, 0, 0, 0),
  (28, .invokevirtual 61, 3, [6], 60, 1, 0, 380, 0),
  (31, .ifCond .eq 12, 3, [22], 0, 0, 0, 0, 0),
  (34, .iload_n 3, 1, [], 0, 0, 0, 0, 0),
  (35, .ifCond .eq 8, 3, [22], 0, 0, 0, 0, 0),
  (38, .iload_n 1, 1, [], 0, 0, 0, 0, 0),
  (39, .iload_n 2, 1, [], 0, 0, 0, 0, 0),
  (40, .if_icmp .ne 5, 3, [24], 0, 0, 0, 0, 0),
  (43, .iconst (-1), 1, [], 0, 0, 0, 0, 0),
  (44, .ireturn, 1, [], 0, 0, 0, 0, 0),
  (45, .aload_n 0, 1, [], 0, 0, 0, 0, 0),
  (46, .getfield 10, 3, [], 9, 0, 0, 346, 0),
  (49, .iload_n 1, 1, [], 0, 0, 0, 0, 0),
  (50, .iload_n 2, 1, [], 0, 0, 0, 0, 0),
  (51, .invokevirtual 72, 3, [6], 68, 2, 0, 396, 0),
  (54, .iconst 0, 1, [], 0, 0, 0, 0, 0),
  (55, .ireturn, 1, [], 0, 0, 0, 0, 0)]
def mX9_own : xMe := (yX9_own, cX9_own, 4, some .int, RX9, 1, pX9_own)
set_option maxRecDepth 20000 in
def pX9_turn : List xI := [(0, .aload_n 0, 1, [], 0, 0, 0, 0, 0),
  (1, .getfield 10, 3, [], 9, 0, 0, 346, 0),
  (4, .iload_n 1, 1, [], 0, 0, 0, 0, 0),
  (5, .invokevirtual 61, 3, [6], 60, 1, 0, 380, 0),
  (8, .ifCond .eq 15, 3, [11], 0, 0, 0, 0, 0),
  (11, .iload_n 1, 1, [], 0, 0, 0, 0, 0),
  (12, .ifCond .eq 11, 3, [11], 0, 0, 0, 0, 0),
  (15, .iload_n 2, 1, [], 0, 0, 0, 0, 0),
  (16, .iconst 4, 1, [], 0, 0, 0, 0, 0),
  (17, .invokestatic 53, 3, [], 112, 2, 0, 369, 0),
  (20, .ifCond .ne 5, 3, [13], 0, 0, 0, 0, 0),
  (23, .iconst (-1), 1, [], 0, 0, 0, 0, 0),
  (24, .ireturn, 1, [], 0, 0, 0, 0, 0),
  (25, .aload_n 0, 1, [], 0, 0, 0, 0, 0),
  (26, .getfield 10, 3, [], 9, 0, 0, 346, 0),
  (29, .iload_n 1, 1, [], 0, 0, 0, 0, 0),
  (30, .invokevirtual 76, 3, [6], 65, 1, 0, 404, 0),
  (33, .istore_n 3, 1, [], 0, 0, 0, 0, 0),
  (34, .aload_n 0, 1, [], 0, 0, 0, 0, 0),
  (35, .getfield 10, 3, [], 9, 0, 0, 346, 0),
  (38, .iload_n 1, 1, [], 0, 0, 0, 0, 0),
  (39, .iload_n 2, 1, [], 0, 0, 0, 0, 0),
  (40, .invokevirtual 79, 3, [6], 66, 2, 0, 408, 0),
  (43, .iload_n 3, 1, [], 0, 0, 0, 0, 0),
  (44, .ireturn, 1, [], 0, 0, 0, 0, 0)]
def mX9_turn : xMe := (yX9_turn, cX9_turn, 4, some .int, RX9, 1, pX9_turn)
set_option maxRecDepth 20000 in
def pX9_feed : List xI := [(0, .iload_n 1, 1, [], 0, 0, 0, 0, 0),
  (1, .iconst 1, 1, [], 0, 0, 0, 0, 0),
  (2, .if_icmp .lt 9, 3, [6], 0, 0, 0, 0, 0),
  (5, .iload_n 1, 1, [], 0, 0, 0, 0, 0),
  (6, .bipush 8, 2, [], 0, 0, 0, 0, 0),
  (8, .if_icmp .le 5, 3, [8], 0, 0, 0, 0, 0),
  (11, .iconst (-1), 1, [], 0, 0, 0, 0, 0),
  (12, .ireturn, 1, [], 0, 0, 0, 0, 0),
  (13, .aload_n 0, 1, [], 0, 0, 0, 0, 0),
  (14, .getfield 26, 3, [], 9, 2, 0, 348, 0),
  (17, .iload_n 1, 1, [], 0, 0, 0, 0, 0),
  (18, .lload_n 2, 1, [], 0, 0, 0, 0, 0),
  (19, .invokevirtual 82, 3, [4], 45, 2, 0, 416, 0),
  (22, .ifCond .eq 13, 3, [18], 0, 0, 0, 0, 0),
  (25, .aload_n 0, 1, [], 0, 0, 0, 0, 0),
  (26, .getfield 26, 3, [], 9, 2, 0, 348, 0),
  (29, .invokevirtual 86, 3, [4], 43, 0, 0, 421, 0),
  (32, .goto 5, 3, [19], 0, 0, 0, 0, 0),
  (35, .bipush (-3), 2, [], 0, 0, 0, 0, 0),
  (37, .ireturn, 1, [], 0, 0, 0, 0, 0)]
def mX9_feed : xMe := (yX9_feed, cX9_feed, 4, some .int, RX9, 1, pX9_feed)
set_option maxRecDepth 20000 in
def pX9_word : List xI := [(0, .aload_n 0, 1, [], 0, 0, 0, 0, 0),
  (1, .getfield 26, 3, [], 9, 2, 0, 348, 0),
  (4, .invokevirtual 90, 3, [4], 49, 0, 0, 429, 0),
  (7, .istore_n 2, 1, [], 0, 0, 0, 0, 0),
  (8, .aload_n 0, 1, [], 0, 0, 0, 0, 0),
  (9, .getfield 26, 3, [], 9, 2, 0, 348, 0),
  (12, .iconst 0, 1, [], 0, 0, 0, 0, 0),
  (13, .invokevirtual 94, 3, [4], 48, 1, 0, 433, 0),
  (16, .lstore_n 3, 1, [], 0, 0, 0, 0, 0),
  (17, .aload_n 0, 1, [], 0, 0, 0, 0, 0),
  (18, .getfield 26, 3, [], 9, 2, 0, 348, 0),
  (21, .invokevirtual 98, 3, [4], 44, 0, 0, 446, 0),
  (24, .iload_n 1, 1, [], 0, 0, 0, 0, 0),
  (25, .iconst 4, 1, [], 0, 0, 0, 0, 0),
  (26, .invokestatic 53, 3, [], 112, 2, 0, 369, 0),
  (29, .ifCond .eq 20, 3, [24], 0, 0, 0, 0, 0),
  (32, .iload_n 2, 1, [], 0, 0, 0, 0, 0),
  (33, .ifCond .eq 16, 3, [24], 0, 0, 0, 0, 0),
  (36, .aload_n 0, 1, [], 0, 0, 0, 0, 0),
  (37, .getfield 19, 3, [], 9, 1, 0, 347, 0),
  (40, .lload_n 3, 1, [], 0, 0, 0, 0, 0),
  (41, .invokevirtual 101, 3, [8], 82, 1, 0, 450, 0),
  (44, .bipush (-4), 2, [], 0, 0, 0, 0, 0),
  (46, .if_icmp .eq 5, 3, [26], 0, 0, 0, 0, 0),
  (49, .iconst (-1), 1, [], 0, 0, 0, 0, 0),
  (50, .ireturn, 1, [], 0, 0, 0, 0, 0),
  (51, .aload_n 0, 1, [], 0, 0, 0, 0, 0),
  (52, .getfield 19, 3, [], 9, 1, 0, 347, 0),
  (55, .lload_n 3, 1, [], 0, 0, 0, 0, 0),
  (56, .invokevirtual 105, 3, [8], 83, 1, 0, 454, 0),
  (59, .bipush (-4), 2, [], 0, 0, 0, 0, 0),
  (61, .if_icmp .ne 15, 3, [38], 0, 0, 0, 0, 0),
  (64, .aload_n 0, 1, [], 0, 0, 0, 0, 0),
  (65, .getfield 19, 3, [], 9, 1, 0, 347, 0),
  (68, .lload_n 3, 1, [], 0, 0, 0, 0, 0),
  (69, .iload_n 1, 1, [], 0, 0, 0, 0, 0),
  (70, .invokevirtual 108, 3, [8], 84, 2, 0, 458, 0),
  (73, .goto 5, 3, [39], 0, 0, 0, 0, 0),
  (76, .bipush (-2), 2, [], 0, 0, 0, 0, 0),
  (78, .ireturn, 1, [], 0, 0, 0, 0, 0)]
def mX9_word : xMe := (yX9_word, cX9_word, 5, some .int, RX9, 1, pX9_word)
set_option maxRecDepth 20000 in
def pX9_name : List xI := [(0, .iload_n 3, 1, [], 0, 0, 0, 0, 0),
  (1, .ifCond .eq 8, 3, [5], 0, 0, 0, 0, 0),
  (4, .iload_n 3, 1, [], 0, 0, 0, 0, 0),
  (5, .iconst 1, 1, [], 0, 0, 0, 0, 0),
  (6, .if_icmp .ne 7, 3, [7], 0, 0, 0, 0, 0),
  (9, .iconst 1, 1, [], 0, 0, 0, 0, 0),
  (10, .goto 4, 3, [8], 0, 0, 0, 0, 0),
  (13, .iconst 0, 1, [], 0, 0, 0, 0, 0),
  (14, .istore 4, 2, [], 0, 0, 0, 0, 0),
  (16, .aload_n 0, 1, [], 0, 0, 0, 0, 0),
  (17, .getfield 19, 3, [], 9, 1, 0, 347, 0),
  (20, .iload_n 1, 1, [], 0, 0, 0, 0, 0),
  (21, .iconst 0, 1, [], 0, 0, 0, 0, 0),
  (22, .invokevirtual 111, 3, [8], 88, 2, 0, 466, 0),
  (25, .ifCond .eq 19, 3, [22], 0, 0, 0, 0, 0),
  (28, .aload_n 0, 1, [], 0, 0, 0, 0, 0),
  (29, .getfield 10, 3, [], 9, 0, 0, 346, 0),
  (32, .iload_n 2, 1, [], 0, 0, 0, 0, 0),
  (33, .invokevirtual 61, 3, [6], 60, 1, 0, 380, 0),
  (36, .ifCond .eq 8, 3, [22], 0, 0, 0, 0, 0),
  (39, .iload 4, 2, [], 0, 0, 0, 0, 0),
  (41, .ifCond .ne 5, 3, [24], 0, 0, 0, 0, 0),
  (44, .iconst (-1), 1, [], 0, 0, 0, 0, 0),
  (45, .ireturn, 1, [], 0, 0, 0, 0, 0),
  (46, .aload_n 0, 1, [], 0, 0, 0, 0, 0),
  (47, .getfield 19, 3, [], 9, 1, 0, 347, 0),
  (50, .iload_n 1, 1, [], 0, 0, 0, 0, 0),
  (51, .iload_n 2, 1, [], 0, 0, 0, 0, 0),
  (52, .iload_n 3, 1, [], 0, 0, 0, 0, 0),
  (53, .ifCond .ne 7, 3, [32], 0, 0, 0, 0, 0),
  (56, .iconst 1, 1, [], 0, 0, 0, 0, 0),
  (57, .goto 4, 3, [33], 0, 0, 0, 0, 0),
  (60, .iconst 0, 1, [], 0, 0, 0, 0, 0),
  (61, .invokevirtual 114, 3, [8], 95, 3, 0, 470, 0),
  (64, .ifCond .eq 7, 3, [37], 0, 0, 0, 0, 0),
  (67, .iconst 0, 1, [], 0, 0, 0, 0, 0),
  (68, .goto 5, 3, [38], 0, 0, 0, 0, 0),
  (71, .bipush (-2), 2, [], 0, 0, 0, 0, 0),
  (73, .ireturn, 1, [], 0, 0, 0, 0, 0)]
def mX9_name : xMe := (yX9_name, cX9_name, 5, some .int, RX9, 1, pX9_name)
set_option maxRecDepth 20000 in
def pX9_form : List xI := [(0, .aload_n 0, 1, [], 0, 0, 0, 0, 0),
  (1, .getfield 19, 3, [], 9, 1, 0, 347, 0),
  (4, .iload_n 1, 1, [], 0, 0, 0, 0, 0),
  (5, .iconst 1, 1, [], 0, 0, 0, 0, 0),
  (6, .invokevirtual 111, 3, [8], 88, 2, 0, 466, 0),
  (9, .ifCond .eq 11, 3, [10], 0, 0, 0, 0, 0),
  (12, .iload_n 2, 1, [], 0, 0, 0, 0, 0),
  (13, .iconst 4, 1, [], 0, 0, 0, 0, 0),
  (14, .invokestatic 53, 3, [], 112, 2, 0, 369, 0),
  (17, .ifCond .ne 5, 3, [12], 0, 0, 0, 0, 0),
  (20, .iconst (-1), 1, [], 0, 0, 0, 0, 0),
  (21, .ireturn, 1, [], 0, 0, 0, 0, 0),
  (22, .aload_n 0, 1, [], 0, 0, 0, 0, 0),
  (23, .getfield 19, 3, [], 9, 1, 0, 347, 0),
  (26, .iload_n 1, 1, [], 0, 0, 0, 0, 0),
  (27, .invokevirtual 118, 3, [8], 91, 1, 0, 490, 0),
  (30, .istore_n 3, 1, [], 0, 0, 0, 0, 0),
  (31, .aload_n 0, 1, [], 0, 0, 0, 0, 0),
  (32, .getfield 19, 3, [], 9, 1, 0, 347, 0),
  (35, .iload_n 1, 1, [], 0, 0, 0, 0, 0),
  (36, .iload_n 2, 1, [], 0, 0, 0, 0, 0),
  (37, .invokevirtual 121, 3, [8], 92, 2, 0, 494, 0),
  (40, .iload_n 3, 1, [], 0, 0, 0, 0, 0),
  (41, .ireturn, 1, [], 0, 0, 0, 0, 0)]
def mX9_form : xMe := (yX9_form, cX9_form, 4, some .int, RX9, 1, pX9_form)
set_option maxRecDepth 20000 in
def pX9_same : List xI := [(0, .aload_n 0, 1, [], 0, 0, 0, 0, 0),
  (1, .getfield 19, 3, [], 9, 1, 0, 347, 0),
  (4, .iload_n 1, 1, [], 0, 0, 0, 0, 0),
  (5, .invokevirtual 124, 3, [8], 81, 1, 0, 502, 0),
  (8, .ifCond .eq 19, 3, [13], 0, 0, 0, 0, 0),
  (11, .aload_n 0, 1, [], 0, 0, 0, 0, 0),
  (12, .getfield 19, 3, [], 9, 1, 0, 347, 0),
  (15, .iload_n 2, 1, [], 0, 0, 0, 0, 0),
  (16, .invokevirtual 124, 3, [8], 81, 1, 0, 502, 0),
  (19, .ifCond .eq 8, 3, [13], 0, 0, 0, 0, 0),
  (22, .iload_n 2, 1, [], 0, 0, 0, 0, 0),
  (23, .iload_n 1, 1, [], 0, 0, 0, 0, 0),
  (24, .if_icmp .lt 5, 3, [15], 0, 0, 0, 0, 0),
  (27, .iconst (-1), 1, [], 0, 0, 0, 0, 0),
  (28, .ireturn, 1, [], 0, 0, 0, 0, 0),
  (29, .aload_n 0, 1, [], 0, 0, 0, 0, 0),
  (30, .getfield 19, 3, [], 9, 1, 0, 347, 0),
  (33, .iload_n 1, 1, [], 0, 0, 0, 0, 0),
  (34, .invokevirtual 125, 3, [8], 85, 1, 0, 506, 0),
  (37, .aload_n 0, 1, [], 0, 0, 0, 0, 0),
  (38, .getfield 19, 3, [], 9, 1, 0, 347, 0),
  (41, .iload_n 2, 1, [], 0, 0, 0, 0, 0),
  (42, .invokevirtual 125, 3, [8], 85, 1, 0, 506, 0),
  (45, .if_icmp .ne 15, 3, [30], 0, 0, 0, 0, 0),
  (48, .aload_n 0, 1, [], 0, 0, 0, 0, 0),
  (49, .getfield 19, 3, [], 9, 1, 0, 347, 0),
  (52, .iload_n 2, 1, [], 0, 0, 0, 0, 0),
  (53, .invokevirtual 128, 3, [8], 86, 1, 0, 510, 0),
  (56, .iload_n 2, 1, [], 0, 0, 0, 0, 0),
  (57, .if_icmp .eq 5, 3, [32], 0, 0, 0, 0, 0),
  (60, .iconst (-1), 1, [], 0, 0, 0, 0, 0),
  (61, .ireturn, 1, [], 0, 0, 0, 0, 0),
  (62, .aload_n 0, 1, [], 0, 0, 0, 0, 0),
  (63, .getfield 19, 3, [], 9, 1, 0, 347, 0),
  (66, .iload_n 1, 1, [], 0, 0, 0, 0, 0),
  (67, .invokevirtual 128, 3, [8], 86, 1, 0, 510, 0),
  (70, .iload_n 1, 1, [], 0, 0, 0, 0, 0),
  (71, .if_icmp .ne 25, 3, [48], 0, 0, 0, 0, 0),
  (74, .aload_n 0, 1, [], 0, 0, 0, 0, 0),
  (75, .getfield 19, 3, [], 9, 1, 0, 347, 0),
  (78, .iload_n 1, 1, [], 0, 0, 0, 0, 0),
  (79, .invokevirtual 131, 3, [8], 89, 1, 0, 514, 0),
  (82, .ifCond .ne 14, 3, [48], 0, 0, 0, 0, 0),
  (85, .aload_n 0, 1, [], 0, 0, 0, 0, 0),
  (86, .getfield 19, 3, [], 9, 1, 0, 347, 0),
  (89, .iload_n 1, 1, [], 0, 0, 0, 0, 0),
  (90, .invokevirtual 134, 3, [8], 90, 1, 0, 518, 0),
  (93, .ifCond .eq 6, 3, [50], 0, 0, 0, 0, 0),
  (96, .bipush (-2), 2, [], 0, 0, 0, 0, 0),
  (98, .ireturn, 1, [], 0, 0, 0, 0, 0),
  (99, .aload_n 0, 1, [], 0, 0, 0, 0, 0),
  (100, .getfield 19, 3, [], 9, 1, 0, 347, 0),
  (103, .iload_n 1, 1, [], 0, 0, 0, 0, 0),
  (104, .iload_n 2, 1, [], 0, 0, 0, 0, 0),
  (105, .invokevirtual 137, 3, [8], 87, 2, 0, 523, 0),
  (108, .iconst 0, 1, [], 0, 0, 0, 0, 0),
  (109, .ireturn, 1, [], 0, 0, 0, 0, 0)]
def mX9_same : xMe := (yX9_same, cX9_same, 3, some .int, RX9, 1, pX9_same)
set_option maxRecDepth 20000 in
def pX9_line : List xI := [(0, .aload_n 0, 1, [], 0, 0, 0, 0, 0),
  (1, .getfield 49, 3, [], 9, 5, 0, 351, 0),
  (4, .aload_n 0, 1, [], 0, 0, 0, 0, 0),
  (5, .getfield 26, 3, [], 9, 2, 0, 348, 0),
  (8, .invokevirtual 140, 3, [2], 15, 1, 0, 531, 0),
  (11, .aload_n 0, 1, [], 0, 0, 0, 0, 0),
  (12, .getfield 26, 3, [], 9, 2, 0, 348, 0),
  (15, .invokevirtual 98, 3, [4], 44, 0, 0, 446, 0),
  (18, .iconst 1, 1, [], 0, 0, 0, 0, 0),
  (19, .istore_n 1, 1, [], 0, 0, 0, 0, 0),
  (20, .iconst 0, 1, [], 0, 0, 0, 0, 0),
  (21, .istore_n 2, 1, [], 0, 0, 0, 0, 0),
  (22, .iload_n 1, 1, [], 0, 0, 0, 0, 0),
  (23, .ifCond .eq 24, 3, [23], 0, 0, 0, 0, 0),
  (26, .iload_n 2, 1, [], 0, 0, 0, 0, 0),
  (27, .sipush 200, 3, [], 0, 0, 0, 0, 0),
  (30, .if_icmp .gt 17, 3, [23], 0, 0, 0, 0, 0),
  (33, .aload_n 0, 1, [], 0, 0, 0, 0, 0),
  (34, .getfield 49, 3, [], 9, 5, 0, 351, 0),
  (37, .invokevirtual 144, 3, [2], 16, 0, 0, 566, 0),
  (40, .istore_n 1, 1, [], 0, 0, 0, 0, 0),
  (41, .iinc 2 1, 3, [], 0, 0, 0, 0, 0),
  (44, .goto (-22), 3, [12], 0, 0, 0, 0, 0),
  (47, .aload_n 0, 1, [], 0, 0, 0, 0, 0),
  (48, .getfield 49, 3, [], 9, 5, 0, 351, 0),
  (51, .invokevirtual 147, 3, [2], 13, 0, 0, 757, 0),
  (54, .ifCond .ne 13, 3, [31], 0, 0, 0, 0, 0),
  (57, .aload_n 0, 1, [], 0, 0, 0, 0, 0),
  (58, .getfield 40, 3, [], 9, 4, 0, 350, 0),
  (61, .invokevirtual 150, 3, [1], 5, 0, 0, 761, 0),
  (64, .goto 13, 3, [36], 0, 0, 0, 0, 0),
  (67, .bipush (-10), 2, [], 0, 0, 0, 0, 0),
  (69, .aload_n 0, 1, [], 0, 0, 0, 0, 0),
  (70, .getfield 49, 3, [], 9, 5, 0, 351, 0),
  (73, .invokevirtual 151, 3, [2], 14, 0, 0, 765, 0),
  (76, .isub, 1, [], 0, 0, 0, 0, 0),
  (77, .ireturn, 1, [], 0, 0, 0, 0, 0)]
def mX9_line : xMe := (yX9_line, cX9_line, 3, some .int, RX9, 1, pX9_line)
set_option maxRecDepth 20000 in
def pX9_fault : List xI := [(0, .aload_n 0, 1, [], 0, 0, 0, 0, 0),
  (1, .getfield 49, 3, [], 9, 5, 0, 351, 0),
  (4, .invokevirtual 147, 3, [2], 13, 0, 0, 757, 0),
  (7, .ireturn, 1, [], 0, 0, 0, 0, 0)]
def mX9_fault : xMe := (yX9_fault, cX9_fault, 1, some .int, RX9, 1, pX9_fault)
set_option maxRecDepth 20000 in
def pX9_order : List xI := [(0, .aload_n 0, 1, [], 0, 0, 0, 0, 0),
  (1, .getfield 40, 3, [], 9, 4, 0, 350, 0),
  (4, .iload_n 1, 1, [], 0, 0, 0, 0, 0),
  (5, .invokevirtual 154, 3, [1], 9, 1, 0, 781, 0),
  (8, .astore_n 3, 1, [], 0, 0, 0, 0, 0),
  (9, .aload_n 3, 1, [], 0, 0, 0, 0, 0),
  (10, .ifnonnull 5, 3, [9], 0, 0, 0, 0, 0),
  (13, .iconst (-1), 1, [], 0, 0, 0, 0, 0),
  (14, .ireturn, 1, [], 0, 0, 0, 0, 0),
  (15, .iload_n 2, 1, [], 0, 0, 0, 0, 0),
  (16, .tableswitch 67 0 4 #[36, 41, 46, 51, 59], 36, [28, 11, 14, 17, 20, 24], 0, 0, 0, 0, 0),
  (52, .aload_n 3, 1, [], 0, 0, 0, 0, 0),
  (53, .getfield 158, 3, [], 0, 2, 0, 250, 0),
  (56, .ireturn, 1, [], 0, 0, 0, 0, 0),
  (57, .aload_n 3, 1, [], 0, 0, 0, 0, 0),
  (58, .getfield 164, 3, [], 0, 3, 0, 252, 0),
  (61, .ireturn, 1, [], 0, 0, 0, 0, 0),
  (62, .aload_n 3, 1, [], 0, 0, 0, 0, 0),
  (63, .getfield 167, 3, [], 0, 4, 0, 255, 0),
  (66, .ireturn, 1, [], 0, 0, 0, 0, 0),
  (67, .aload_n 3, 1, [], 0, 0, 0, 0, 0),
  (68, .getfield 170, 3, [], 0, 0, 0, 244, 0),
  (71, .invokevirtual 174, 3, [5], 51, 0, 0, 785, 0),
  (74, .ireturn, 1, [], 0, 0, 0, 0, 0),
  (75, .aload_n 3, 1, [], 0, 0, 0, 0, 0),
  (76, .getfield 177, 3, [], 0, 1, 0, 247, 0),
  (79, .invokevirtual 174, 3, [5], 51, 0, 0, 785, 0),
  (82, .ireturn, 1, [], 0, 0, 0, 0, 0),
  (83, .iconst (-1), 1, [], 0, 0, 0, 0, 0),
  (84, .ireturn, 1, [], 0, 0, 0, 0, 0)]
def mX9_order : xMe := (yX9_order, cX9_order, 4, some .int, RX9, 1, pX9_order)
set_option maxRecDepth 20000 in
def pX9_given : List xI := [(0, .aload_n 0, 1, [], 0, 0, 0, 0, 0),
  (1, .getfield 40, 3, [], 9, 4, 0, 350, 0),
  (4, .iload_n 1, 1, [], 0, 0, 0, 0, 0),
  (5, .invokevirtual 154, 3, [1], 9, 1, 0, 781, 0),
  (8, .astore 4, 2, [], 0, 0, 0, 0, 0),
  (10, .aload 4, 2, [], 0, 0, 0, 0, 0),
  (12, .ifnull 12, 3, [12], 0, 0, 0, 0, 0),
  (15, .iload_n 2, 1, [], 0, 0, 0, 0, 0),
  (16, .ifCond .lt 8, 3, [12], 0, 0, 0, 0, 0),
  (19, .iload_n 2, 1, [], 0, 0, 0, 0, 0),
  (20, .iconst 1, 1, [], 0, 0, 0, 0, 0),
  (21, .if_icmp .le 5, 3, [14], 0, 0, 0, 0, 0),
  (24, .iconst (-1), 1, [], 0, 0, 0, 0, 0),
  (25, .ireturn, 1, [], 0, 0, 0, 0, 0),
  (26, .iload_n 2, 1, [], 0, 0, 0, 0, 0),
  (27, .ifCond .ne 15, 3, [21], 0, 0, 0, 0, 0),
  (30, .aload 4, 2, [], 0, 0, 0, 0, 0),
  (32, .getfield 170, 3, [], 0, 0, 0, 244, 0),
  (35, .iload_n 3, 1, [], 0, 0, 0, 0, 0),
  (36, .invokevirtual 180, 3, [5], 53, 1, 0, 790, 0),
  (39, .goto 12, 3, [25], 0, 0, 0, 0, 0),
  (42, .aload 4, 2, [], 0, 0, 0, 0, 0),
  (44, .getfield 177, 3, [], 0, 1, 0, 247, 0),
  (47, .iload_n 3, 1, [], 0, 0, 0, 0, 0),
  (48, .invokevirtual 180, 3, [5], 53, 1, 0, 790, 0),
  (51, .istore 5, 2, [], 0, 0, 0, 0, 0),
  (53, .iload 5, 2, [], 0, 0, 0, 0, 0),
  (55, .bipush (-4), 2, [], 0, 0, 0, 0, 0),
  (57, .if_icmp .ne 7, 3, [31], 0, 0, 0, 0, 0),
  (60, .iconst (-1), 1, [], 0, 0, 0, 0, 0),
  (61, .goto 5, 3, [32], 0, 0, 0, 0, 0),
  (64, .iload 5, 2, [], 0, 0, 0, 0, 0),
  (66, .ireturn, 1, [], 0, 0, 0, 0, 0)]
def mX9_given : xMe := (yX9_given, cX9_given, 6, some .int, RX9, 1, pX9_given)
set_option maxRecDepth 20000 in
def pX9_table : List xI := [(0, .iload_n 1, 1, [], 0, 0, 0, 0, 0),
  (1, .iconst 4, 1, [], 0, 0, 0, 0, 0),
  (2, .invokestatic 53, 3, [], 112, 2, 0, 369, 0),
  (5, .ifCond .eq 18, 3, [11], 0, 0, 0, 0, 0),
  (8, .aload_n 0, 1, [], 0, 0, 0, 0, 0),
  (9, .getfield 33, 3, [], 9, 3, 0, 349, 0),
  (12, .iload_n 1, 1, [], 0, 0, 0, 0, 0),
  (13, .invokevirtual 182, 3, [3], 40, 1, 0, 795, 0),
  (16, .iload_n 2, 1, [], 0, 0, 0, 0, 0),
  (17, .invokevirtual 180, 3, [5], 53, 1, 0, 790, 0),
  (20, .goto 4, 3, [12], 0, 0, 0, 0, 0),
  (23, .iconst (-1), 1, [], 0, 0, 0, 0, 0),
  (24, .ireturn, 1, [], 0, 0, 0, 0, 0)]
def mX9_table : xMe := (yX9_table, cX9_table, 3, some .int, RX9, 1, pX9_table)
set_option maxRecDepth 20000 in
def pX9_count : List xI := [(0, .iload_n 1, 1, [], 0, 0, 0, 0, 0),
  (1, .tableswitch 75 0 4 #[35, 43, 51, 59, 67], 35, [22, 2, 6, 10, 14, 18], 0, 0, 0, 0, 0),
  (36, .aload_n 0, 1, [], 0, 0, 0, 0, 0),
  (37, .getfield 10, 3, [], 9, 0, 0, 346, 0),
  (40, .invokevirtual 186, 3, [6], 59, 0, 0, 800, 0),
  (43, .ireturn, 1, [], 0, 0, 0, 0, 0),
  (44, .aload_n 0, 1, [], 0, 0, 0, 0, 0),
  (45, .getfield 19, 3, [], 9, 1, 0, 347, 0),
  (48, .invokevirtual 187, 3, [8], 80, 0, 0, 801, 0),
  (51, .ireturn, 1, [], 0, 0, 0, 0, 0),
  (52, .aload_n 0, 1, [], 0, 0, 0, 0, 0),
  (53, .getfield 26, 3, [], 9, 2, 0, 348, 0),
  (56, .invokevirtual 86, 3, [4], 43, 0, 0, 421, 0),
  (59, .ireturn, 1, [], 0, 0, 0, 0, 0),
  (60, .aload_n 0, 1, [], 0, 0, 0, 0, 0),
  (61, .getfield 40, 3, [], 9, 4, 0, 350, 0),
  (64, .invokevirtual 150, 3, [1], 5, 0, 0, 761, 0),
  (67, .ireturn, 1, [], 0, 0, 0, 0, 0),
  (68, .aload_n 0, 1, [], 0, 0, 0, 0, 0),
  (69, .getfield 40, 3, [], 9, 4, 0, 350, 0),
  (72, .invokevirtual 188, 3, [1], 6, 0, 0, 805, 0),
  (75, .ireturn, 1, [], 0, 0, 0, 0, 0),
  (76, .iconst (-1), 1, [], 0, 0, 0, 0, 0),
  (77, .ireturn, 1, [], 0, 0, 0, 0, 0)]
def mX9_count : xMe := (yX9_count, cX9_count, 2, some .int, RX9, 1, pX9_count)
set_option maxRecDepth 20000 in
def pX9_isBelow : List xI := [(0, .iload_n 0, 1, [], 0, 0, 0, 0, 0),
  (1, .ifCond .lt 12, 3, [7], 0, 0, 0, 0, 0),
  (4, .iload_n 0, 1, [], 0, 0, 0, 0, 0),
  (5, .iload_n 1, 1, [], 0, 0, 0, 0, 0),
  (6, .if_icmp .ge 7, 3, [7], 0, 0, 0, 0, 0),
  (9, .iconst 1, 1, [], 0, 0, 0, 0, 0),
  (10, .goto 4, 3, [8], 0, 0, 0, 0, 0),
  (13, .iconst 0, 1, [], 0, 0, 0, 0, 0),
  (14, .ireturn, 1, [], 0, 0, 0, 0, 0)]
def mX9_isBelow : xMe := (yX9_isBelow, cX9_isBelow, 2, some .boolean, RX9, 0, pX9_isBelow)
set_option maxRecDepth 20000 in
def pX9_isIn : List xI := [(0, .iload_n 1, 1, [], 0, 0, 0, 0, 0),
  (1, .ifCond .lt 21, 3, [13], 0, 0, 0, 0, 0),
  (4, .iload_n 1, 1, [], 0, 0, 0, 0, 0),
  (5, .bipush 24, 2, [], 0, 0, 0, 0, 0),
  (7, .if_icmp .ge 15, 3, [13], 0, 0, 0, 0, 0),
  (10, .iload_n 0, 1, [], 0, 0, 0, 0, 0),
  (11, .iload_n 1, 1, [], 0, 0, 0, 0, 0),
  (12, .ishr, 1, [], 0, 0, 0, 0, 0),
  (13, .iconst 1, 1, [], 0, 0, 0, 0, 0),
  (14, .iand, 1, [], 0, 0, 0, 0, 0),
  (15, .ifCond .eq 7, 3, [13], 0, 0, 0, 0, 0),
  (18, .iconst 1, 1, [], 0, 0, 0, 0, 0),
  (19, .goto 4, 3, [14], 0, 0, 0, 0, 0),
  (22, .iconst 0, 1, [], 0, 0, 0, 0, 0),
  (23, .ireturn, 1, [], 0, 0, 0, 0, 0)]
def mX9_isIn : xMe := (yX9_isIn, cX9_isIn, 2, some .boolean, RX9, 0, pX9_isIn)
set_option maxRecDepth 20000 in
def pX9_bitOf : List xI := [(0, .iload_n 0, 1, [], 0, 0, 0, 0, 0),
  (1, .ifCond .lt 15, 3, [9], 0, 0, 0, 0, 0),
  (4, .iload_n 0, 1, [], 0, 0, 0, 0, 0),
  (5, .bipush 24, 2, [], 0, 0, 0, 0, 0),
  (7, .if_icmp .ge 9, 3, [9], 0, 0, 0, 0, 0),
  (10, .iconst 1, 1, [], 0, 0, 0, 0, 0),
  (11, .iload_n 0, 1, [], 0, 0, 0, 0, 0),
  (12, .ishl, 1, [], 0, 0, 0, 0, 0),
  (13, .goto 4, 3, [10], 0, 0, 0, 0, 0),
  (16, .iconst 0, 1, [], 0, 0, 0, 0, 0),
  (17, .ireturn, 1, [], 0, 0, 0, 0, 0)]
def mX9_bitOf : xMe := (yX9_bitOf, cX9_bitOf, 1, some .int, RX9, 0, pX9_bitOf)
set_option maxRecDepth 20000 in
def pX10_init : List xI := [(0, .aload_n 0, 1, [], 0, 0, 0, 0, 0),
  (1, .invokespecial 1, 3, [], 0, 0, 2, 811, 0),
  (4, .aload_n 0, 1, [], 0, 0, 0, 0, 0),
  (5, .bipush 21, 2, [], 0, 0, 0, 0, 0),
  (7, .newarray .long, 2, [], 101, 0, 0, 0, 0),
  (9, .dup, 1, [], 0, 0, 0, 0, 0),
  (10, .iconst 0, 1, [], 0, 0, 0, 0, 0),
  (11, .ldc2_w 7, 3, [], 0, 0, 0, 812, 7628901),
  (14, .lastore, 1, [], 0, 0, 0, 0, 0),
  (15, .dup, 1, [], 0, 0, 0, 0, 0),
  (16, .iconst 1, 1, [], 0, 0, 0, 0, 0),
  (17, .ldc2_w 9, 3, [], 0, 0, 0, 813, 97),
  (20, .lastore, 1, [], 0, 0, 0, 0, 0),
  (21, .dup, 1, [], 0, 0, 0, 0, 0),
  (22, .iconst 2, 1, [], 0, 0, 0, 0, 0),
  (23, .ldc2_w 11, 3, [], 0, 0, 0, 814, 24942),
  (26, .lastore, 1, [], 0, 0, 0, 0, 0),
  (27, .dup, 1, [], 0, 0, 0, 0, 0),
  (28, .iconst 3, 1, [], 0, 0, 0, 0, 0),
  (29, .ldc2_w 13, 3, [], 0, 0, 0, 815, 6385252),
  (32, .lastore, 1, [], 0, 0, 0, 0, 0),
  (33, .dup, 1, [], 0, 0, 0, 0, 0),
  (34, .iconst 4, 1, [], 0, 0, 0, 0, 0),
  (35, .ldc2_w 15, 3, [], 0, 0, 0, 816, 1952998766),
  (38, .lastore, 1, [], 0, 0, 0, 0, 0),
  (39, .dup, 1, [], 0, 0, 0, 0, 0),
  (40, .iconst 5, 1, [], 0, 0, 0, 0, 0),
  (41, .ldc2_w 17, 3, [], 0, 0, 0, 817, 1952803948),
  (44, .lastore, 1, [], 0, 0, 0, 0, 0),
  (45, .dup, 1, [], 0, 0, 0, 0, 0),
  (46, .bipush 6, 2, [], 0, 0, 0, 0, 0),
  (48, .ldc2_w 19, 3, [], 0, 0, 0, 818, 29807),
  (51, .lastore, 1, [], 0, 0, 0, 0, 0),
  (52, .dup, 1, [], 0, 0, 0, 0, 0),
  (53, .bipush 7, 2, [], 0, 0, 0, 0, 0),
  (55, .ldc2_w 21, 3, [], 0, 0, 0, 819, 418346264942),
  (58, .lastore, 1, [], 0, 0, 0, 0, 0),
  (59, .dup, 1, [], 0, 0, 0, 0, 0),
  (60, .bipush 8, 2, [], 0, 0, 0, 0, 0),
  (62, .ldc2_w 23, 3, [], 0, 0, 0, 820, 26996),
  (65, .lastore, 1, [], 0, 0, 0, 0, 0),
  (66, .dup, 1, [], 0, 0, 0, 0, 0),
  (67, .bipush 9, 2, [], 0, 0, 0, 0, 0),
  (69, .ldc2_w 25, 3, [], 0, 0, 0, 821, 6842733),
  (72, .lastore, 1, [], 0, 0, 0, 0, 0),
  (73, .dup, 1, [], 0, 0, 0, 0, 0),
  (74, .bipush 10, 2, [], 0, 0, 0, 0, 0),
  (76, .ldc2_w 27, 3, [], 0, 0, 0, 822, 6841714),
  (79, .lastore, 1, [], 0, 0, 0, 0, 0),
  (80, .dup, 1, [], 0, 0, 0, 0, 0),
  (81, .bipush 11, 2, [], 0, 0, 0, 0, 0),
  (83, .ldc2_w 29, 3, [], 0, 0, 0, 823, 1952998765),
  (86, .lastore, 1, [], 0, 0, 0, 0, 0),
  (87, .dup, 1, [], 0, 0, 0, 0, 0),
  (88, .bipush 12, 2, [], 0, 0, 0, 0, 0),
  (90, .ldc2_w 31, 3, [], 0, 0, 0, 824, 28005),
  (93, .lastore, 1, [], 0, 0, 0, 0, 0),
  (94, .dup, 1, [], 0, 0, 0, 0, 0),
  (95, .bipush 13, 2, [], 0, 0, 0, 0, 0),
  (97, .ldc2_w 33, 3, [], 0, 0, 0, 825, 120368394497126),
  (100, .lastore, 1, [], 0, 0, 0, 0, 0),
  (101, .dup, 1, [], 0, 0, 0, 0, 0),
  (102, .bipush 14, 2, [], 0, 0, 0, 0, 0),
  (104, .ldc2_w 35, 3, [], 0, 0, 0, 826, 8750341735426911334),
  (107, .lastore, 1, [], 0, 0, 0, 0, 0),
  (108, .dup, 1, [], 0, 0, 0, 0, 0),
  (109, .bipush 15, 2, [], 0, 0, 0, 0, 0),
  (111, .ldc2_w 37, 3, [], 0, 0, 0, 827, 6842739),
  (114, .lastore, 1, [], 0, 0, 0, 0, 0),
  (115, .dup, 1, [], 0, 0, 0, 0, 0),
  (116, .bipush 16, 2, [], 0, 0, 0, 0, 0),
  (118, .ldc2_w 39, 3, [], 0, 0, 0, 828, 6911091),
  (121, .lastore, 1, [], 0, 0, 0, 0, 0),
  (122, .dup, 1, [], 0, 0, 0, 0, 0),
  (123, .bipush 17, 2, [], 0, 0, 0, 0, 0),
  (125, .ldc2_w 41, 3, [], 0, 0, 0, 829, 499967682930),
  (128, .lastore, 1, [], 0, 0, 0, 0, 0),
  (129, .dup, 1, [], 0, 0, 0, 0, 0),
  (130, .bipush 18, 2, [], 0, 0, 0, 0, 0),
  (132, .ldc2_w 43, 3, [], 0, 0, 0, 830, 28025),
  (135, .lastore, 1, [], 0, 0, 0, 0, 0),
  (136, .dup, 1, [], 0, 0, 0, 0, 0),
  (137, .bipush 19, 2, [], 0, 0, 0, 0, 0),
  (139, .ldc2_w 45, 3, [], 0, 0, 0, 831, 6384748),
  (142, .lastore, 1, [], 0, 0, 0, 0, 0),
  (143, .dup, 1, [], 0, 0, 0, 0, 0),
  (144, .bipush 20, 2, [], 0, 0, 0, 0, 0),
  (146, .ldc2_w 47, 3, [], 0, 0, 0, 832, 6452596),
  (149, .lastore, 1, [], 0, 0, 0, 0, 0),
  (150, .putfield 49, 3, [], 10, 0, 0, 833, 0),
  (153, .aload_n 0, 1, [], 0, 0, 0, 0, 0),
  (154, .bipush 24, 2, [], 0, 0, 0, 0, 0),
  (156, .newarray .int, 2, [], 100, 0, 0, 0, 0),
  (158, .putfield 55, 3, [], 10, 2, 0, 835, 0),
  (161, .aload_n 0, 1, [], 0, 0, 0, 0, 0),
  (162, .bipush 24, 2, [], 0, 0, 0, 0, 0),
  (164, .newarray .boolean, 2, [], 102, 0, 0, 0, 0),
  (166, .putfield 59, 3, [], 10, 3, 0, 836, 0),
  (169, .aload_n 0, 1, [], 0, 0, 0, 0, 0),
  (170, .bipush 24, 2, [], 0, 0, 0, 0, 0),
  (172, .newarray .int, 2, [], 100, 0, 0, 0, 0),
  (174, .putfield 63, 3, [], 10, 4, 0, 837, 0),
  (177, .aload_n 0, 1, [], 0, 0, 0, 0, 0),
  (178, .bipush 60, 2, [], 0, 0, 0, 0, 0),
  (180, .newarray .long, 2, [], 101, 0, 0, 0, 0),
  (182, .putfield 66, 3, [], 10, 6, 0, 839, 0),
  (185, .aload_n 0, 1, [], 0, 0, 0, 0, 0),
  (186, .bipush 60, 2, [], 0, 0, 0, 0, 0),
  (188, .newarray .int, 2, [], 100, 0, 0, 0, 0),
  (190, .putfield 69, 3, [], 10, 7, 0, 840, 0),
  (193, .aload_n 0, 1, [], 0, 0, 0, 0, 0),
  (194, .bipush 60, 2, [], 0, 0, 0, 0, 0),
  (196, .newarray .int, 2, [], 100, 0, 0, 0, 0),
  (198, .putfield 72, 3, [], 10, 8, 0, 841, 0),
  (201, .aload_n 0, 1, [], 0, 0, 0, 0, 0),
  (202, .bipush 60, 2, [], 0, 0, 0, 0, 0),
  (204, .newarray .int, 2, [], 100, 0, 0, 0, 0),
  (206, .putfield 75, 3, [], 10, 9, 0, 842, 0),
  (209, .aload_n 0, 1, [], 0, 0, 0, 0, 0),
  (210, .sipush 1440, 3, [], 0, 0, 0, 0, 0),
  (213, .newarray .int, 2, [], 100, 0, 0, 0, 0),
  (215, .putfield 78, 3, [], 10, 10, 0, 843, 0),
  (218, .aload_n 0, 1, [], 0, 0, 0, 0, 0),
  (219, .sipush 200, 3, [], 0, 0, 0, 0, 0),
  (222, .newarray .byte, 2, [], 103, 0, 0, 0, 0),
  (224, .putfield 81, 3, [], 10, 11, 0, 844, 0),
  (227, .aload_n 0, 1, [], 0, 0, 0, 0, 0),
  (228, .sipush 201, 3, [], 0, 0, 0, 0, 0),
  (231, .newarray .int, 2, [], 100, 0, 0, 0, 0),
  (233, .putfield 85, 3, [], 10, 13, 0, 846, 0),
  (236, .aload_n 0, 1, [], 0, 0, 0, 0, 0),
  (237, .sipush 201, 3, [], 0, 0, 0, 0, 0),
  (240, .newarray .int, 2, [], 100, 0, 0, 0, 0),
  (242, .putfield 88, 3, [], 10, 14, 0, 847, 0),
  (245, .aload_n 0, 1, [], 0, 0, 0, 0, 0),
  (246, .bipush 10, 2, [], 0, 0, 0, 0, 0),
  (248, .newarray .int, 2, [], 100, 0, 0, 0, 0),
  (250, .putfield 91, 3, [], 10, 19, 0, 852, 0),
  (253, .aload_n 0, 1, [], 0, 0, 0, 0, 0),
  (254, .bipush 10, 2, [], 0, 0, 0, 0, 0),
  (256, .newarray .int, 2, [], 100, 0, 0, 0, 0),
  (258, .putfield 94, 3, [], 10, 20, 0, 853, 0),
  (261, .aload_n 0, 1, [], 0, 0, 0, 0, 0),
  (262, .bipush 10, 2, [], 0, 0, 0, 0, 0),
  (264, .newarray .int, 2, [], 100, 0, 0, 0, 0),
  (266, .putfield 97, 3, [], 10, 21, 0, 854, 0),
  (269, .aload_n 0, 1, [], 0, 0, 0, 0, 0),
  (270, .sipush 480, 3, [], 0, 0, 0, 0, 0),
  (273, .newarray .int, 2, [], 100, 0, 0, 0, 0),
  (275, .putfield 100, 3, [], 10, 22, 0, 855, 0),
  (278, .aload_n 0, 1, [], 0, 0, 0, 0, 0),
  (279, .bipush 20, 2, [], 0, 0, 0, 0, 0),
  (281, .newarray .int, 2, [], 100, 0, 0, 0, 0),
  (283, .putfield 103, 3, [], 10, 23, 0, 856, 0),
  (286, .aload_n 0, 1, [], 0, 0, 0, 0, 0),
  (287, .bipush 48, 2, [], 0, 0, 0, 0, 0),
  (289, .newarray .int, 2, [], 100, 0, 0, 0, 0),
  (291, .putfield 106, 3, [], 10, 29, 0, 862, 0),
  (294, .aload_n 0, 1, [], 0, 0, 0, 0, 0),
  (295, .iconst 2, 1, [], 0, 0, 0, 0, 0),
  (296, .newarray .int, 2, [], 100, 0, 0, 0, 0),
  (298, .putfield 109, 3, [], 10, 30, 0, 863, 0),
  (301, .aload_n 0, 1, [], 0, 0, 0, 0, 0),
  (302, .bipush 96, 2, [], 0, 0, 0, 0, 0),
  (304, .newarray .int, 2, [], 100, 0, 0, 0, 0),
  (306, .putfield 112, 3, [], 10, 31, 0, 864, 0),
  (309, .aload_n 0, 1, [], 0, 0, 0, 0, 0),
  (310, .iconst 4, 1, [], 0, 0, 0, 0, 0),
  (311, .newarray .int, 2, [], 100, 0, 0, 0, 0),
  (313, .putfield 115, 3, [], 10, 32, 0, 865, 0),
  (316, .aload_n 0, 1, [], 0, 0, 0, 0, 0),
  (317, .bipush 24, 2, [], 0, 0, 0, 0, 0),
  (319, .newarray .int, 2, [], 100, 0, 0, 0, 0),
  (321, .putfield 118, 3, [], 10, 33, 0, 866, 0),
  (324, .aload_n 0, 1, [], 0, 0, 0, 0, 0),
  (325, .bipush 24, 2, [], 0, 0, 0, 0, 0),
  (327, .newarray .int, 2, [], 100, 0, 0, 0, 0),
  (329, .putfield 121, 3, [], 10, 35, 0, 868, 0),
  (332, .aload_n 0, 1, [], 0, 0, 0, 0, 0),
  (333, .getfield 55, 3, [], 10, 2, 0, 835, 0),
  (336, .iconst 0, 1, [], 0, 0, 0, 0, 0),
  (337, .iconst 1, 1, [], 0, 0, 0, 0, 0),
  (338, .iastore, 1, [], 0, 0, 0, 0, 0),
  (339, .aload_n 0, 1, [], 0, 0, 0, 0, 0),
  (340, .getfield 59, 3, [], 10, 3, 0, 836, 0),
  (343, .iconst 0, 1, [], 0, 0, 0, 0, 0),
  (344, .iconst 1, 1, [], 0, 0, 0, 0, 0),
  (345, .bastore, 1, [], 0, 0, 0, 0, 0),
  (346, .aload_n 0, 1, [], 0, 0, 0, 0, 0),
  (347, .getfield 63, 3, [], 10, 4, 0, 837, 0),
  (350, .iconst 0, 1, [], 0, 0, 0, 0, 0),
  (351, .bipush (-4), 2, [], 0, 0, 0, 0, 0),
  (353, .iastore, 1, [], 0, 0, 0, 0, 0),
  (354, .aload_n 0, 1, [], 0, 0, 0, 0, 0),
  (355, .iconst 1, 1, [], 0, 0, 0, 0, 0),
  (356, .putfield 124, 3, [], 10, 1, 0, 834, 0),
  (359, .return_, 1, [], 0, 0, 0, 0, 0)]
def mX10_init : xMe := (yX10_init, cX10_init, 1, none, RX10, 2, pX10_init)
set_option maxRecDepth 20000 in
def pX10_isIn : List xI := [(0, .iload_n 0, 1, [], 0, 0, 0, 0, 0),
  (1, .iload_n 1, 1, [], 0, 0, 0, 0, 0),
  (2, .if_icmp .lt 12, 3, [8], 0, 0, 0, 0, 0),
  (5, .iload_n 0, 1, [], 0, 0, 0, 0, 0),
  (6, .iload_n 2, 1, [], 0, 0, 0, 0, 0),
  (7, .if_icmp .gt 7, 3, [8], 0, 0, 0, 0, 0),
  (10, .iconst 1, 1, [], 0, 0, 0, 0, 0),
  (11, .goto 4, 3, [9], 0, 0, 0, 0, 0),
  (14, .iconst 0, 1, [], 0, 0, 0, 0, 0),
  (15, .ireturn, 1, [], 0, 0, 0, 0, 0)]
def mX10_isIn : xMe := (yX10_isIn, cX10_isIn, 3, some .boolean, RX10, 0, pX10_isIn)
set_option maxRecDepth 20000 in
def pX10_isThing : List xI := [(0, .iload_n 1, 1, [], 0, 0, 0, 0, 0),
  (1, .iconst 0, 1, [], 0, 0, 0, 0, 0),
  (2, .aload_n 0, 1, [], 0, 0, 0, 0, 0),
  (3, .getfield 124, 3, [], 10, 1, 0, 834, 0),
  (6, .iconst 1, 1, [], 0, 0, 0, 0, 0),
  (7, .isub, 1, [], 0, 0, 0, 0, 0),
  (8, .invokestatic 128, 3, [], 116, 3, 0, 950, 0),
  (11, .ireturn, 1, [], 0, 0, 0, 0, 0)]
def mX10_isThing : xMe := (yX10_isThing, cX10_isThing, 2, some .boolean, RX10, 1, pX10_isThing)
set_option maxRecDepth 20000 in
def pX10_isWord : List xI := [(0, .iload_n 1, 1, [], 0, 0, 0, 0, 0),
  (1, .iconst 0, 1, [], 0, 0, 0, 0, 0),
  (2, .aload_n 0, 1, [], 0, 0, 0, 0, 0),
  (3, .getfield 132, 3, [], 10, 5, 0, 838, 0),
  (6, .iconst 1, 1, [], 0, 0, 0, 0, 0),
  (7, .isub, 1, [], 0, 0, 0, 0, 0),
  (8, .invokestatic 128, 3, [], 116, 3, 0, 950, 0),
  (11, .ireturn, 1, [], 0, 0, 0, 0, 0)]
def mX10_isWord : xMe := (yX10_isWord, cX10_isWord, 2, some .boolean, RX10, 1, pX10_isWord)
set_option maxRecDepth 20000 in
def pX10_thing : List xI := [(0, .iload_n 1, 1, [], 0, 0, 0, 0, 0),
  (1, .iconst 0, 1, [], 0, 0, 0, 0, 0),
  (2, .iconst 3, 1, [], 0, 0, 0, 0, 0),
  (3, .invokestatic 128, 3, [], 116, 3, 0, 950, 0),
  (6, .ifCond .ne 5, 3, [7], 0, 0, 0, 0, 0),
  (9, .iconst (-1), 1, [], 0, 0, 0, 0, 0),
  (10, .ireturn, 1, [], 0, 0, 0, 0, 0),
  (11, .aload_n 0, 1, [], 0, 0, 0, 0, 0),
  (12, .getfield 124, 3, [], 10, 1, 0, 834, 0),
  (15, .bipush 24, 2, [], 0, 0, 0, 0, 0),
  (17, .if_icmp .ne 6, 3, [13], 0, 0, 0, 0, 0),
  (20, .bipush (-3), 2, [], 0, 0, 0, 0, 0),
  (22, .ireturn, 1, [], 0, 0, 0, 0, 0),
  (23, .aload_n 0, 1, [], 0, 0, 0, 0, 0),
  (24, .getfield 55, 3, [], 10, 2, 0, 835, 0),
  (27, .aload_n 0, 1, [], 0, 0, 0, 0, 0),
  (28, .getfield 124, 3, [], 10, 1, 0, 834, 0),
  (31, .iload_n 1, 1, [], 0, 0, 0, 0, 0),
  (32, .iastore, 1, [], 0, 0, 0, 0, 0),
  (33, .aload_n 0, 1, [], 0, 0, 0, 0, 0),
  (34, .getfield 59, 3, [], 10, 3, 0, 836, 0),
  (37, .aload_n 0, 1, [], 0, 0, 0, 0, 0),
  (38, .getfield 124, 3, [], 10, 1, 0, 834, 0),
  (41, .iconst 1, 1, [], 0, 0, 0, 0, 0),
  (42, .bastore, 1, [], 0, 0, 0, 0, 0),
  (43, .aload_n 0, 1, [], 0, 0, 0, 0, 0),
  (44, .getfield 63, 3, [], 10, 4, 0, 837, 0),
  (47, .aload_n 0, 1, [], 0, 0, 0, 0, 0),
  (48, .getfield 124, 3, [], 10, 1, 0, 834, 0),
  (51, .bipush (-4), 2, [], 0, 0, 0, 0, 0),
  (53, .iastore, 1, [], 0, 0, 0, 0, 0),
  (54, .aload_n 0, 1, [], 0, 0, 0, 0, 0),
  (55, .dup, 1, [], 0, 0, 0, 0, 0),
  (56, .getfield 124, 3, [], 10, 1, 0, 834, 0),
  (59, .iconst 1, 1, [], 0, 0, 0, 0, 0),
  (60, .iadd, 1, [], 0, 0, 0, 0, 0),
  (61, .putfield 124, 3, [], 10, 1, 0, 834, 0),
  (64, .aload_n 0, 1, [], 0, 0, 0, 0, 0),
  (65, .getfield 124, 3, [], 10, 1, 0, 834, 0),
  (68, .iconst 1, 1, [], 0, 0, 0, 0, 0),
  (69, .isub, 1, [], 0, 0, 0, 0, 0),
  (70, .ireturn, 1, [], 0, 0, 0, 0, 0)]
def mX10_thing : xMe := (yX10_thing, cX10_thing, 2, some .int, RX10, 1, pX10_thing)
set_option maxRecDepth 20000 in
def pX10_see : List xI := [(0, .aload_n 0, 1, [], 0, 0, 0, 0, 0),
  (1, .iload_n 1, 1, [], 0, 0, 0, 0, 0),
  (2, .invokevirtual 135, 3, [10], 117, 1, 0, 957, 0),
  (5, .ifCond .eq 7, 3, [6], 0, 0, 0, 0, 0),
  (8, .iload_n 1, 1, [], 0, 0, 0, 0, 0),
  (9, .ifCond .ne 5, 3, [8], 0, 0, 0, 0, 0),
  (12, .iconst (-1), 1, [], 0, 0, 0, 0, 0),
  (13, .ireturn, 1, [], 0, 0, 0, 0, 0),
  (14, .aload_n 0, 1, [], 0, 0, 0, 0, 0),
  (15, .getfield 59, 3, [], 10, 3, 0, 836, 0),
  (18, .iload_n 1, 1, [], 0, 0, 0, 0, 0),
  (19, .baload, 1, [], 0, 0, 0, 0, 0),
  (20, .ifCond .eq 7, 3, [15], 0, 0, 0, 0, 0),
  (23, .iconst 1, 1, [], 0, 0, 0, 0, 0),
  (24, .goto 4, 3, [16], 0, 0, 0, 0, 0),
  (27, .iconst 0, 1, [], 0, 0, 0, 0, 0),
  (28, .istore_n 3, 1, [], 0, 0, 0, 0, 0),
  (29, .aload_n 0, 1, [], 0, 0, 0, 0, 0),
  (30, .getfield 59, 3, [], 10, 3, 0, 836, 0),
  (33, .iload_n 1, 1, [], 0, 0, 0, 0, 0),
  (34, .iload_n 2, 1, [], 0, 0, 0, 0, 0),
  (35, .bastore, 1, [], 0, 0, 0, 0, 0),
  (36, .iload_n 3, 1, [], 0, 0, 0, 0, 0),
  (37, .ireturn, 1, [], 0, 0, 0, 0, 0)]
def mX10_see : xMe := (yX10_see, cX10_see, 4, some .int, RX10, 1, pX10_see)
set_option maxRecDepth 20000 in
def pX10_own : List xI := [(0, .aload_n 0, 1, [], 0, 0, 0, 0, 0),
  (1, .iload_n 1, 1, [], 0, 0, 0, 0, 0),
  (2, .invokevirtual 135, 3, [10], 117, 1, 0, 957, 0),
  (5, .ifCond .eq 22, 3, [14], 0, 0, 0, 0, 0),
  (8, .iload_n 2, 1, [], 0, 0, 0, 0, 0),
  (9, .bipush (-4), 2, [], 0, 0, 0, 0, 0),
  (11, .if_icmp .eq 11, 3, [11], 0, 0, 0, 0, 0),
  (14, .aload_n 0, 1, [], 0, 0, 0, 0, 0),
  (15, .iload_n 2, 1, [], 0, 0, 0, 0, 0),
  (16, .invokevirtual 135, 3, [10], 117, 1, 0, 957, 0),
  (19, .ifCond .eq 8, 3, [14], 0, 0, 0, 0, 0),
  (22, .iload_n 1, 1, [], 0, 0, 0, 0, 0),
  (23, .iload_n 2, 1, [], 0, 0, 0, 0, 0),
  (24, .if_icmp .ne 5, 3, [16], 0, 0, 0, 0, 0),
  (27, .iconst (-1), 1, [], 0, 0, 0, 0, 0),
  (28, .ireturn, 1, [], 0, 0, 0, 0, 0),
  (29, .aload_n 0, 1, [], 0, 0, 0, 0, 0),
  (30, .getfield 63, 3, [], 10, 4, 0, 837, 0),
  (33, .iload_n 1, 1, [], 0, 0, 0, 0, 0),
  (34, .iload_n 2, 1, [], 0, 0, 0, 0, 0),
  (35, .iastore, 1, [], 0, 0, 0, 0, 0),
  (36, .iconst 0, 1, [], 0, 0, 0, 0, 0),
  (37, .ireturn, 1, [], 0, 0, 0, 0, 0)]
def mX10_own : xMe := (yX10_own, cX10_own, 3, some .int, RX10, 1, pX10_own)
set_option maxRecDepth 20000 in
def pX10_turn : List xI := [(0, .aload_n 0, 1, [], 0, 0, 0, 0, 0),
  (1, .iload_n 1, 1, [], 0, 0, 0, 0, 0),
  (2, .invokevirtual 135, 3, [10], 117, 1, 0, 957, 0),
  (5, .ifCond .eq 16, 3, [11], 0, 0, 0, 0, 0),
  (8, .iload_n 1, 1, [], 0, 0, 0, 0, 0),
  (9, .ifCond .eq 12, 3, [11], 0, 0, 0, 0, 0),
  (12, .iload_n 2, 1, [], 0, 0, 0, 0, 0),
  (13, .iconst 0, 1, [], 0, 0, 0, 0, 0),
  (14, .iconst 3, 1, [], 0, 0, 0, 0, 0),
  (15, .invokestatic 128, 3, [], 116, 3, 0, 950, 0),
  (18, .ifCond .ne 5, 3, [13], 0, 0, 0, 0, 0),
  (21, .iconst (-1), 1, [], 0, 0, 0, 0, 0),
  (22, .ireturn, 1, [], 0, 0, 0, 0, 0),
  (23, .aload_n 0, 1, [], 0, 0, 0, 0, 0),
  (24, .getfield 55, 3, [], 10, 2, 0, 835, 0),
  (27, .iload_n 1, 1, [], 0, 0, 0, 0, 0),
  (28, .iaload, 1, [], 0, 0, 0, 0, 0),
  (29, .istore_n 3, 1, [], 0, 0, 0, 0, 0),
  (30, .aload_n 0, 1, [], 0, 0, 0, 0, 0),
  (31, .getfield 55, 3, [], 10, 2, 0, 835, 0),
  (34, .iload_n 1, 1, [], 0, 0, 0, 0, 0),
  (35, .iload_n 2, 1, [], 0, 0, 0, 0, 0),
  (36, .iastore, 1, [], 0, 0, 0, 0, 0),
  (37, .iload_n 3, 1, [], 0, 0, 0, 0, 0),
  (38, .ireturn, 1, [], 0, 0, 0, 0, 0)]
def mX10_turn : xMe := (yX10_turn, cX10_turn, 4, some .int, RX10, 1, pX10_turn)
set_option maxRecDepth 20000 in
def pX10_feed : List xI := [(0, .iload_n 1, 1, [], 0, 0, 0, 0, 0),
  (1, .iconst 1, 1, [], 0, 0, 0, 0, 0),
  (2, .bipush 8, 2, [], 0, 0, 0, 0, 0),
  (4, .invokestatic 128, 3, [], 116, 3, 0, 950, 0),
  (7, .ifCond .ne 5, 3, [7], 0, 0, 0, 0, 0),
  (10, .iconst (-1), 1, [], 0, 0, 0, 0, 0),
  (11, .ireturn, 1, [], 0, 0, 0, 0, 0),
  (12, .aload_n 0, 1, [], 0, 0, 0, 0, 0),
  (13, .getfield 139, 3, [], 10, 12, 0, 845, 0),
  (16, .iload_n 1, 1, [], 0, 0, 0, 0, 0),
  (17, .iadd, 1, [], 0, 0, 0, 0, 0),
  (18, .sipush 200, 3, [], 0, 0, 0, 0, 0),
  (21, .if_icmp .le 6, 3, [15], 0, 0, 0, 0, 0),
  (24, .bipush (-3), 2, [], 0, 0, 0, 0, 0),
  (26, .ireturn, 1, [], 0, 0, 0, 0, 0),
  (27, .iconst 0, 1, [], 0, 0, 0, 0, 0),
  (28, .istore 4, 2, [], 0, 0, 0, 0, 0),
  (30, .iload 4, 2, [], 0, 0, 0, 0, 0),
  (32, .iload_n 1, 1, [], 0, 0, 0, 0, 0),
  (33, .if_icmp .ge 37, 3, [40], 0, 0, 0, 0, 0),
  (36, .aload_n 0, 1, [], 0, 0, 0, 0, 0),
  (37, .getfield 81, 3, [], 10, 11, 0, 844, 0),
  (40, .aload_n 0, 1, [], 0, 0, 0, 0, 0),
  (41, .getfield 139, 3, [], 10, 12, 0, 845, 0),
  (44, .lload_n 2, 1, [], 0, 0, 0, 0, 0),
  (45, .bipush 8, 2, [], 0, 0, 0, 0, 0),
  (47, .iload 4, 2, [], 0, 0, 0, 0, 0),
  (49, .imul, 1, [], 0, 0, 0, 0, 0),
  (50, .lshr, 1, [], 0, 0, 0, 0, 0),
  (51, .l2i, 1, [], 0, 0, 0, 0, 0),
  (52, .i2b, 1, [], 0, 0, 0, 0, 0),
  (53, .bastore, 1, [], 0, 0, 0, 0, 0),
  (54, .aload_n 0, 1, [], 0, 0, 0, 0, 0),
  (55, .dup, 1, [], 0, 0, 0, 0, 0),
  (56, .getfield 139, 3, [], 10, 12, 0, 845, 0),
  (59, .iconst 1, 1, [], 0, 0, 0, 0, 0),
  (60, .iadd, 1, [], 0, 0, 0, 0, 0),
  (61, .putfield 139, 3, [], 10, 12, 0, 845, 0),
  (64, .iinc 4 1, 3, [], 0, 0, 0, 0, 0),
  (67, .goto (-37), 3, [17], 0, 0, 0, 0, 0),
  (70, .aload_n 0, 1, [], 0, 0, 0, 0, 0),
  (71, .getfield 139, 3, [], 10, 12, 0, 845, 0),
  (74, .ireturn, 1, [], 0, 0, 0, 0, 0)]
def mX10_feed : xMe := (yX10_feed, cX10_feed, 5, some .int, RX10, 1, pX10_feed)
set_option maxRecDepth 20000 in
def pX10_fixedOf : List xI := [(0, .iconst 0, 1, [], 0, 0, 0, 0, 0),
  (1, .istore_n 3, 1, [], 0, 0, 0, 0, 0),
  (2, .iload_n 3, 1, [], 0, 0, 0, 0, 0),
  (3, .bipush 21, 2, [], 0, 0, 0, 0, 0),
  (5, .if_icmp .ge 22, 3, [16], 0, 0, 0, 0, 0),
  (8, .aload_n 0, 1, [], 0, 0, 0, 0, 0),
  (9, .getfield 49, 3, [], 10, 0, 0, 833, 0),
  (12, .iload_n 3, 1, [], 0, 0, 0, 0, 0),
  (13, .laload, 1, [], 0, 0, 0, 0, 0),
  (14, .lload_n 1, 1, [], 0, 0, 0, 0, 0),
  (15, .lcmp, 1, [], 0, 0, 0, 0, 0),
  (16, .ifCond .ne 5, 3, [14], 0, 0, 0, 0, 0),
  (19, .iload_n 3, 1, [], 0, 0, 0, 0, 0),
  (20, .ireturn, 1, [], 0, 0, 0, 0, 0),
  (21, .iinc 3 1, 3, [], 0, 0, 0, 0, 0),
  (24, .goto (-22), 3, [2], 0, 0, 0, 0, 0),
  (27, .bipush (-4), 2, [], 0, 0, 0, 0, 0),
  (29, .ireturn, 1, [], 0, 0, 0, 0, 0)]
def mX10_fixedOf : xMe := (yX10_fixedOf, cX10_fixedOf, 4, some .int, RX10, 1, pX10_fixedOf)
set_option maxRecDepth 20000 in
def pX10_wordOf : List xI := [(0, .iconst 0, 1, [], 0, 0, 0, 0, 0),
  (1, .istore_n 3, 1, [], 0, 0, 0, 0, 0),
  (2, .iload_n 3, 1, [], 0, 0, 0, 0, 0),
  (3, .aload_n 0, 1, [], 0, 0, 0, 0, 0),
  (4, .getfield 132, 3, [], 10, 5, 0, 838, 0),
  (7, .if_icmp .ge 22, 3, [17], 0, 0, 0, 0, 0),
  (10, .aload_n 0, 1, [], 0, 0, 0, 0, 0),
  (11, .getfield 66, 3, [], 10, 6, 0, 839, 0),
  (14, .iload_n 3, 1, [], 0, 0, 0, 0, 0),
  (15, .laload, 1, [], 0, 0, 0, 0, 0),
  (16, .lload_n 1, 1, [], 0, 0, 0, 0, 0),
  (17, .lcmp, 1, [], 0, 0, 0, 0, 0),
  (18, .ifCond .ne 5, 3, [15], 0, 0, 0, 0, 0),
  (21, .iload_n 3, 1, [], 0, 0, 0, 0, 0),
  (22, .ireturn, 1, [], 0, 0, 0, 0, 0),
  (23, .iinc 3 1, 3, [], 0, 0, 0, 0, 0),
  (26, .goto (-24), 3, [2], 0, 0, 0, 0, 0),
  (29, .bipush (-4), 2, [], 0, 0, 0, 0, 0),
  (31, .ireturn, 1, [], 0, 0, 0, 0, 0)]
def mX10_wordOf : xMe := (yX10_wordOf, cX10_wordOf, 4, some .int, RX10, 1, pX10_wordOf)
set_option maxRecDepth 20000 in
def pX10_word : List xI := [(0, .aload_n 0, 1, [], 0, 0, 0, 0, 0),
  (1, .getfield 139, 3, [], 10, 12, 0, 845, 0),
  (4, .istore_n 2, 1, [], 0, 0, 0, 0, 0),
  (5, .aload_n 0, 1, [], 0, 0, 0, 0, 0),
  (6, .iconst 0, 1, [], 0, 0, 0, 0, 0),
  (7, .putfield 139, 3, [], 10, 12, 0, 845, 0),
  (10, .lconst 0, 1, [], 0, 0, 0, 0, 0),
  (11, .lstore_n 3, 1, [], 0, 0, 0, 0, 0),
  (12, .iload_n 1, 1, [], 0, 0, 0, 0, 0),
  (13, .iconst 0, 1, [], 0, 0, 0, 0, 0),
  (14, .iconst 3, 1, [], 0, 0, 0, 0, 0),
  (15, .invokestatic 128, 3, [], 116, 3, 0, 950, 0),
  (18, .ifCond .eq 17, 3, [20], 0, 0, 0, 0, 0),
  (21, .iload_n 2, 1, [], 0, 0, 0, 0, 0),
  (22, .iconst 1, 1, [], 0, 0, 0, 0, 0),
  (23, .bipush 8, 2, [], 0, 0, 0, 0, 0),
  (25, .invokestatic 128, 3, [], 116, 3, 0, 950, 0),
  (28, .ifCond .eq 7, 3, [20], 0, 0, 0, 0, 0),
  (31, .iconst 1, 1, [], 0, 0, 0, 0, 0),
  (32, .goto 4, 3, [21], 0, 0, 0, 0, 0),
  (35, .iconst 0, 1, [], 0, 0, 0, 0, 0),
  (36, .istore 5, 2, [], 0, 0, 0, 0, 0),
  (38, .iconst 0, 1, [], 0, 0, 0, 0, 0),
  (39, .istore 6, 2, [], 0, 0, 0, 0, 0),
  (41, .iload 6, 2, [], 0, 0, 0, 0, 0),
  (43, .iload_n 2, 1, [], 0, 0, 0, 0, 0),
  (44, .if_icmp .ge 44, 3, [49], 0, 0, 0, 0, 0),
  (47, .iload 5, 2, [], 0, 0, 0, 0, 0),
  (49, .ifCond .eq 39, 3, [49], 0, 0, 0, 0, 0),
  (52, .aload_n 0, 1, [], 0, 0, 0, 0, 0),
  (53, .getfield 81, 3, [], 10, 11, 0, 844, 0),
  (56, .iload 6, 2, [], 0, 0, 0, 0, 0),
  (58, .baload, 1, [], 0, 0, 0, 0, 0),
  (59, .bipush 97, 2, [], 0, 0, 0, 0, 0),
  (61, .bipush 122, 2, [], 0, 0, 0, 0, 0),
  (63, .invokestatic 128, 3, [], 116, 3, 0, 950, 0),
  (66, .istore 5, 2, [], 0, 0, 0, 0, 0),
  (68, .lload_n 3, 1, [], 0, 0, 0, 0, 0),
  (69, .bipush 8, 2, [], 0, 0, 0, 0, 0),
  (71, .lshl, 1, [], 0, 0, 0, 0, 0),
  (72, .aload_n 0, 1, [], 0, 0, 0, 0, 0),
  (73, .getfield 81, 3, [], 10, 11, 0, 844, 0),
  (76, .iload 6, 2, [], 0, 0, 0, 0, 0),
  (78, .baload, 1, [], 0, 0, 0, 0, 0),
  (79, .i2l, 1, [], 0, 0, 0, 0, 0),
  (80, .lor, 1, [], 0, 0, 0, 0, 0),
  (81, .lstore_n 3, 1, [], 0, 0, 0, 0, 0),
  (82, .iinc 6 1, 3, [], 0, 0, 0, 0, 0),
  (85, .goto (-44), 3, [24], 0, 0, 0, 0, 0),
  (88, .iload 5, 2, [], 0, 0, 0, 0, 0),
  (90, .ifCond .eq 13, 3, [56], 0, 0, 0, 0, 0),
  (93, .aload_n 0, 1, [], 0, 0, 0, 0, 0),
  (94, .lload_n 3, 1, [], 0, 0, 0, 0, 0),
  (95, .invokevirtual 142, 3, [10], 124, 1, 0, 977, 0),
  (98, .bipush (-4), 2, [], 0, 0, 0, 0, 0),
  (100, .if_icmp .eq 5, 3, [58], 0, 0, 0, 0, 0),
  (103, .iconst (-1), 1, [], 0, 0, 0, 0, 0),
  (104, .ireturn, 1, [], 0, 0, 0, 0, 0),
  (105, .aload_n 0, 1, [], 0, 0, 0, 0, 0),
  (106, .lload_n 3, 1, [], 0, 0, 0, 0, 0),
  (107, .invokevirtual 146, 3, [10], 125, 1, 0, 981, 0),
  (110, .bipush (-4), 2, [], 0, 0, 0, 0, 0),
  (112, .if_icmp .eq 6, 3, [65], 0, 0, 0, 0, 0),
  (115, .bipush (-2), 2, [], 0, 0, 0, 0, 0),
  (117, .ireturn, 1, [], 0, 0, 0, 0, 0),
  (118, .aload_n 0, 1, [], 0, 0, 0, 0, 0),
  (119, .getfield 132, 3, [], 10, 5, 0, 838, 0),
  (122, .bipush 60, 2, [], 0, 0, 0, 0, 0),
  (124, .if_icmp .ne 6, 3, [71], 0, 0, 0, 0, 0),
  (127, .bipush (-3), 2, [], 0, 0, 0, 0, 0),
  (129, .ireturn, 1, [], 0, 0, 0, 0, 0),
  (130, .aload_n 0, 1, [], 0, 0, 0, 0, 0),
  (131, .getfield 66, 3, [], 10, 6, 0, 839, 0),
  (134, .aload_n 0, 1, [], 0, 0, 0, 0, 0),
  (135, .getfield 132, 3, [], 10, 5, 0, 838, 0),
  (138, .lload_n 3, 1, [], 0, 0, 0, 0, 0),
  (139, .lastore, 1, [], 0, 0, 0, 0, 0),
  (140, .aload_n 0, 1, [], 0, 0, 0, 0, 0),
  (141, .getfield 69, 3, [], 10, 7, 0, 840, 0),
  (144, .aload_n 0, 1, [], 0, 0, 0, 0, 0),
  (145, .getfield 132, 3, [], 10, 5, 0, 838, 0),
  (148, .iload_n 1, 1, [], 0, 0, 0, 0, 0),
  (149, .iastore, 1, [], 0, 0, 0, 0, 0),
  (150, .aload_n 0, 1, [], 0, 0, 0, 0, 0),
  (151, .getfield 75, 3, [], 10, 9, 0, 842, 0),
  (154, .aload_n 0, 1, [], 0, 0, 0, 0, 0),
  (155, .getfield 132, 3, [], 10, 5, 0, 838, 0),
  (158, .bipush (-4), 2, [], 0, 0, 0, 0, 0),
  (160, .iastore, 1, [], 0, 0, 0, 0, 0),
  (161, .aload_n 0, 1, [], 0, 0, 0, 0, 0),
  (162, .dup, 1, [], 0, 0, 0, 0, 0),
  (163, .getfield 132, 3, [], 10, 5, 0, 838, 0),
  (166, .iconst 1, 1, [], 0, 0, 0, 0, 0),
  (167, .iadd, 1, [], 0, 0, 0, 0, 0),
  (168, .putfield 132, 3, [], 10, 5, 0, 838, 0),
  (171, .aload_n 0, 1, [], 0, 0, 0, 0, 0),
  (172, .getfield 132, 3, [], 10, 5, 0, 838, 0),
  (175, .iconst 1, 1, [], 0, 0, 0, 0, 0),
  (176, .isub, 1, [], 0, 0, 0, 0, 0),
  (177, .ireturn, 1, [], 0, 0, 0, 0, 0)]
def mX10_word : xMe := (yX10_word, cX10_word, 7, some .int, RX10, 1, pX10_word)
set_option maxRecDepth 20000 in
def pX10_name : List xI := [(0, .aload_n 0, 1, [], 0, 0, 0, 0, 0),
  (1, .iload_n 1, 1, [], 0, 0, 0, 0, 0),
  (2, .invokevirtual 149, 3, [10], 118, 1, 0, 989, 0),
  (5, .ifCond .eq 40, 3, [24], 0, 0, 0, 0, 0),
  (8, .aload_n 0, 1, [], 0, 0, 0, 0, 0),
  (9, .getfield 69, 3, [], 10, 7, 0, 840, 0),
  (12, .iload_n 1, 1, [], 0, 0, 0, 0, 0),
  (13, .iaload, 1, [], 0, 0, 0, 0, 0),
  (14, .ifCond .ne 31, 3, [24], 0, 0, 0, 0, 0),
  (17, .aload_n 0, 1, [], 0, 0, 0, 0, 0),
  (18, .getfield 75, 3, [], 10, 9, 0, 842, 0),
  (21, .iload_n 1, 1, [], 0, 0, 0, 0, 0),
  (22, .iaload, 1, [], 0, 0, 0, 0, 0),
  (23, .bipush (-4), 2, [], 0, 0, 0, 0, 0),
  (25, .if_icmp .ne 20, 3, [24], 0, 0, 0, 0, 0),
  (28, .aload_n 0, 1, [], 0, 0, 0, 0, 0),
  (29, .iload_n 2, 1, [], 0, 0, 0, 0, 0),
  (30, .invokevirtual 135, 3, [10], 117, 1, 0, 957, 0),
  (33, .ifCond .eq 12, 3, [24], 0, 0, 0, 0, 0),
  (36, .iload_n 3, 1, [], 0, 0, 0, 0, 0),
  (37, .iconst 0, 1, [], 0, 0, 0, 0, 0),
  (38, .iconst 1, 1, [], 0, 0, 0, 0, 0),
  (39, .invokestatic 128, 3, [], 116, 3, 0, 950, 0),
  (42, .ifCond .ne 5, 3, [26], 0, 0, 0, 0, 0),
  (45, .iconst (-1), 1, [], 0, 0, 0, 0, 0),
  (46, .ireturn, 1, [], 0, 0, 0, 0, 0),
  (47, .bipush 24, 2, [], 0, 0, 0, 0, 0),
  (49, .iload_n 1, 1, [], 0, 0, 0, 0, 0),
  (50, .imul, 1, [], 0, 0, 0, 0, 0),
  (51, .iload_n 2, 1, [], 0, 0, 0, 0, 0),
  (52, .iadd, 1, [], 0, 0, 0, 0, 0),
  (53, .istore 4, 2, [], 0, 0, 0, 0, 0),
  (55, .aload_n 0, 1, [], 0, 0, 0, 0, 0),
  (56, .getfield 78, 3, [], 10, 10, 0, 843, 0),
  (59, .iload 4, 2, [], 0, 0, 0, 0, 0),
  (61, .iaload, 1, [], 0, 0, 0, 0, 0),
  (62, .iload_n 3, 1, [], 0, 0, 0, 0, 0),
  (63, .ishr, 1, [], 0, 0, 0, 0, 0),
  (64, .iconst 1, 1, [], 0, 0, 0, 0, 0),
  (65, .iand, 1, [], 0, 0, 0, 0, 0),
  (66, .iconst 1, 1, [], 0, 0, 0, 0, 0),
  (67, .if_icmp .ne 6, 3, [44], 0, 0, 0, 0, 0),
  (70, .bipush (-2), 2, [], 0, 0, 0, 0, 0),
  (72, .ireturn, 1, [], 0, 0, 0, 0, 0),
  (73, .aload_n 0, 1, [], 0, 0, 0, 0, 0),
  (74, .getfield 78, 3, [], 10, 10, 0, 843, 0),
  (77, .iload 4, 2, [], 0, 0, 0, 0, 0),
  (79, .dup2, 1, [], 0, 0, 0, 0, 0),
  (80, .iaload, 1, [], 0, 0, 0, 0, 0),
  (81, .iconst 1, 1, [], 0, 0, 0, 0, 0),
  (82, .iload_n 3, 1, [], 0, 0, 0, 0, 0),
  (83, .ishl, 1, [], 0, 0, 0, 0, 0),
  (84, .ior, 1, [], 0, 0, 0, 0, 0),
  (85, .iastore, 1, [], 0, 0, 0, 0, 0),
  (86, .iconst 0, 1, [], 0, 0, 0, 0, 0),
  (87, .ireturn, 1, [], 0, 0, 0, 0, 0)]
def mX10_name : xMe := (yX10_name, cX10_name, 5, some .int, RX10, 1, pX10_name)
set_option maxRecDepth 20000 in
def pX10_form : List xI := [(0, .aload_n 0, 1, [], 0, 0, 0, 0, 0),
  (1, .iload_n 1, 1, [], 0, 0, 0, 0, 0),
  (2, .invokevirtual 149, 3, [10], 118, 1, 0, 989, 0),
  (5, .ifCond .eq 33, 3, [21], 0, 0, 0, 0, 0),
  (8, .aload_n 0, 1, [], 0, 0, 0, 0, 0),
  (9, .getfield 69, 3, [], 10, 7, 0, 840, 0),
  (12, .iload_n 1, 1, [], 0, 0, 0, 0, 0),
  (13, .iaload, 1, [], 0, 0, 0, 0, 0),
  (14, .iconst 1, 1, [], 0, 0, 0, 0, 0),
  (15, .if_icmp .ne 23, 3, [21], 0, 0, 0, 0, 0),
  (18, .aload_n 0, 1, [], 0, 0, 0, 0, 0),
  (19, .getfield 75, 3, [], 10, 9, 0, 842, 0),
  (22, .iload_n 1, 1, [], 0, 0, 0, 0, 0),
  (23, .iaload, 1, [], 0, 0, 0, 0, 0),
  (24, .bipush (-4), 2, [], 0, 0, 0, 0, 0),
  (26, .if_icmp .ne 12, 3, [21], 0, 0, 0, 0, 0),
  (29, .iload_n 2, 1, [], 0, 0, 0, 0, 0),
  (30, .iconst 0, 1, [], 0, 0, 0, 0, 0),
  (31, .iconst 3, 1, [], 0, 0, 0, 0, 0),
  (32, .invokestatic 128, 3, [], 116, 3, 0, 950, 0),
  (35, .ifCond .ne 5, 3, [23], 0, 0, 0, 0, 0),
  (38, .iconst (-1), 1, [], 0, 0, 0, 0, 0),
  (39, .ireturn, 1, [], 0, 0, 0, 0, 0),
  (40, .aload_n 0, 1, [], 0, 0, 0, 0, 0),
  (41, .getfield 72, 3, [], 10, 8, 0, 841, 0),
  (44, .iload_n 1, 1, [], 0, 0, 0, 0, 0),
  (45, .iaload, 1, [], 0, 0, 0, 0, 0),
  (46, .istore_n 3, 1, [], 0, 0, 0, 0, 0),
  (47, .aload_n 0, 1, [], 0, 0, 0, 0, 0),
  (48, .getfield 72, 3, [], 10, 8, 0, 841, 0),
  (51, .iload_n 1, 1, [], 0, 0, 0, 0, 0),
  (52, .iload_n 2, 1, [], 0, 0, 0, 0, 0),
  (53, .iastore, 1, [], 0, 0, 0, 0, 0),
  (54, .iload_n 3, 1, [], 0, 0, 0, 0, 0),
  (55, .ireturn, 1, [], 0, 0, 0, 0, 0)]
def mX10_form : xMe := (yX10_form, cX10_form, 4, some .int, RX10, 1, pX10_form)
set_option maxRecDepth 20000 in
def pX10_same : List xI := [(0, .aload_n 0, 1, [], 0, 0, 0, 0, 0),
  (1, .iload_n 1, 1, [], 0, 0, 0, 0, 0),
  (2, .invokevirtual 149, 3, [10], 118, 1, 0, 989, 0),
  (5, .ifCond .eq 42, 3, [26], 0, 0, 0, 0, 0),
  (8, .aload_n 0, 1, [], 0, 0, 0, 0, 0),
  (9, .iload_n 2, 1, [], 0, 0, 0, 0, 0),
  (10, .invokevirtual 149, 3, [10], 118, 1, 0, 989, 0),
  (13, .ifCond .eq 34, 3, [26], 0, 0, 0, 0, 0),
  (16, .iload_n 2, 1, [], 0, 0, 0, 0, 0),
  (17, .iload_n 1, 1, [], 0, 0, 0, 0, 0),
  (18, .if_icmp .ge 29, 3, [26], 0, 0, 0, 0, 0),
  (21, .aload_n 0, 1, [], 0, 0, 0, 0, 0),
  (22, .getfield 69, 3, [], 10, 7, 0, 840, 0),
  (25, .iload_n 1, 1, [], 0, 0, 0, 0, 0),
  (26, .iaload, 1, [], 0, 0, 0, 0, 0),
  (27, .aload_n 0, 1, [], 0, 0, 0, 0, 0),
  (28, .getfield 69, 3, [], 10, 7, 0, 840, 0),
  (31, .iload_n 2, 1, [], 0, 0, 0, 0, 0),
  (32, .iaload, 1, [], 0, 0, 0, 0, 0),
  (33, .if_icmp .ne 14, 3, [26], 0, 0, 0, 0, 0),
  (36, .aload_n 0, 1, [], 0, 0, 0, 0, 0),
  (37, .getfield 75, 3, [], 10, 9, 0, 842, 0),
  (40, .iload_n 2, 1, [], 0, 0, 0, 0, 0),
  (41, .iaload, 1, [], 0, 0, 0, 0, 0),
  (42, .bipush (-4), 2, [], 0, 0, 0, 0, 0),
  (44, .if_icmp .eq 5, 3, [28], 0, 0, 0, 0, 0),
  (47, .iconst (-1), 1, [], 0, 0, 0, 0, 0),
  (48, .ireturn, 1, [], 0, 0, 0, 0, 0),
  (49, .aload_n 0, 1, [], 0, 0, 0, 0, 0),
  (50, .getfield 75, 3, [], 10, 9, 0, 842, 0),
  (53, .iload_n 1, 1, [], 0, 0, 0, 0, 0),
  (54, .iaload, 1, [], 0, 0, 0, 0, 0),
  (55, .bipush (-4), 2, [], 0, 0, 0, 0, 0),
  (57, .if_icmp .ne 12, 3, [39], 0, 0, 0, 0, 0),
  (60, .aload_n 0, 1, [], 0, 0, 0, 0, 0),
  (61, .getfield 72, 3, [], 10, 8, 0, 841, 0),
  (64, .iload_n 1, 1, [], 0, 0, 0, 0, 0),
  (65, .iaload, 1, [], 0, 0, 0, 0, 0),
  (66, .ifCond .le 7, 3, [41], 0, 0, 0, 0, 0),
  (69, .iconst 1, 1, [], 0, 0, 0, 0, 0),
  (70, .goto 4, 3, [42], 0, 0, 0, 0, 0),
  (73, .iconst 0, 1, [], 0, 0, 0, 0, 0),
  (74, .istore_n 3, 1, [], 0, 0, 0, 0, 0),
  (75, .iconst 0, 1, [], 0, 0, 0, 0, 0),
  (76, .istore 4, 2, [], 0, 0, 0, 0, 0),
  (78, .iload 4, 2, [], 0, 0, 0, 0, 0),
  (80, .aload_n 0, 1, [], 0, 0, 0, 0, 0),
  (81, .getfield 132, 3, [], 10, 5, 0, 838, 0),
  (84, .if_icmp .ge 28, 3, [63], 0, 0, 0, 0, 0),
  (87, .iload_n 3, 1, [], 0, 0, 0, 0, 0),
  (88, .aload_n 0, 1, [], 0, 0, 0, 0, 0),
  (89, .getfield 75, 3, [], 10, 9, 0, 842, 0),
  (92, .iload 4, 2, [], 0, 0, 0, 0, 0),
  (94, .iaload, 1, [], 0, 0, 0, 0, 0),
  (95, .iload_n 1, 1, [], 0, 0, 0, 0, 0),
  (96, .if_icmp .ne 7, 3, [58], 0, 0, 0, 0, 0),
  (99, .iconst 1, 1, [], 0, 0, 0, 0, 0),
  (100, .goto 4, 3, [59], 0, 0, 0, 0, 0),
  (103, .iconst 0, 1, [], 0, 0, 0, 0, 0),
  (104, .ior, 1, [], 0, 0, 0, 0, 0),
  (105, .istore_n 3, 1, [], 0, 0, 0, 0, 0),
  (106, .iinc 4 1, 3, [], 0, 0, 0, 0, 0),
  (109, .goto (-31), 3, [45], 0, 0, 0, 0, 0),
  (112, .iconst 0, 1, [], 0, 0, 0, 0, 0),
  (113, .istore 4, 2, [], 0, 0, 0, 0, 0),
  (115, .iload 4, 2, [], 0, 0, 0, 0, 0),
  (117, .bipush 24, 2, [], 0, 0, 0, 0, 0),
  (119, .if_icmp .ge 32, 3, [85], 0, 0, 0, 0, 0),
  (122, .iload_n 3, 1, [], 0, 0, 0, 0, 0),
  (123, .aload_n 0, 1, [], 0, 0, 0, 0, 0),
  (124, .getfield 78, 3, [], 10, 10, 0, 843, 0),
  (127, .bipush 24, 2, [], 0, 0, 0, 0, 0),
  (129, .iload_n 1, 1, [], 0, 0, 0, 0, 0),
  (130, .imul, 1, [], 0, 0, 0, 0, 0),
  (131, .iload 4, 2, [], 0, 0, 0, 0, 0),
  (133, .iadd, 1, [], 0, 0, 0, 0, 0),
  (134, .iaload, 1, [], 0, 0, 0, 0, 0),
  (135, .ifCond .eq 7, 3, [80], 0, 0, 0, 0, 0),
  (138, .iconst 1, 1, [], 0, 0, 0, 0, 0),
  (139, .goto 4, 3, [81], 0, 0, 0, 0, 0),
  (142, .iconst 0, 1, [], 0, 0, 0, 0, 0),
  (143, .ior, 1, [], 0, 0, 0, 0, 0),
  (144, .istore_n 3, 1, [], 0, 0, 0, 0, 0),
  (145, .iinc 4 1, 3, [], 0, 0, 0, 0, 0),
  (148, .goto (-33), 3, [65], 0, 0, 0, 0, 0),
  (151, .iload_n 3, 1, [], 0, 0, 0, 0, 0),
  (152, .ifCond .eq 6, 3, [89], 0, 0, 0, 0, 0),
  (155, .bipush (-2), 2, [], 0, 0, 0, 0, 0),
  (157, .ireturn, 1, [], 0, 0, 0, 0, 0),
  (158, .aload_n 0, 1, [], 0, 0, 0, 0, 0),
  (159, .getfield 75, 3, [], 10, 9, 0, 842, 0),
  (162, .iload_n 1, 1, [], 0, 0, 0, 0, 0),
  (163, .iload_n 2, 1, [], 0, 0, 0, 0, 0),
  (164, .iastore, 1, [], 0, 0, 0, 0, 0),
  (165, .iconst 0, 1, [], 0, 0, 0, 0, 0),
  (166, .ireturn, 1, [], 0, 0, 0, 0, 0)]
def mX10_same : xMe := (yX10_same, cX10_same, 5, some .int, RX10, 1, pX10_same)
set_option maxRecDepth 20000 in
def pX10_isLetter : List xI := [(0, .iload_n 0, 1, [], 0, 0, 0, 0, 0),
  (1, .bipush 97, 2, [], 0, 0, 0, 0, 0),
  (3, .bipush 122, 2, [], 0, 0, 0, 0, 0),
  (5, .invokestatic 128, 3, [], 116, 3, 0, 950, 0),
  (8, .ifCond .ne 14, 3, [10], 0, 0, 0, 0, 0),
  (11, .iload_n 0, 1, [], 0, 0, 0, 0, 0),
  (12, .bipush 65, 2, [], 0, 0, 0, 0, 0),
  (14, .bipush 90, 2, [], 0, 0, 0, 0, 0),
  (16, .invokestatic 128, 3, [], 116, 3, 0, 950, 0),
  (19, .ifCond .eq 7, 3, [12], 0, 0, 0, 0, 0),
  (22, .iconst 1, 1, [], 0, 0, 0, 0, 0),
  (23, .goto 4, 3, [13], 0, 0, 0, 0, 0),
  (26, .iconst 0, 1, [], 0, 0, 0, 0, 0),
  (27, .ireturn, 1, [], 0, 0, 0, 0, 0)]
def mX10_isLetter : xMe := (yX10_isLetter, cX10_isLetter, 1, some .boolean, RX10, 0, pX10_isLetter)
set_option maxRecDepth 20000 in
def pX10_cuts : List xI := [(0, .aload_n 0, 1, [], 0, 0, 0, 0, 0),
  (1, .iconst 0, 1, [], 0, 0, 0, 0, 0),
  (2, .putfield 152, 3, [], 10, 15, 0, 848, 0),
  (5, .iconst 0, 1, [], 0, 0, 0, 0, 0),
  (6, .istore_n 2, 1, [], 0, 0, 0, 0, 0),
  (7, .iload_n 2, 1, [], 0, 0, 0, 0, 0),
  (8, .iload_n 1, 1, [], 0, 0, 0, 0, 0),
  (9, .if_icmp .ge 50, 3, [34], 0, 0, 0, 0, 0),
  (12, .aload_n 0, 1, [], 0, 0, 0, 0, 0),
  (13, .getfield 81, 3, [], 10, 11, 0, 844, 0),
  (16, .iload_n 2, 1, [], 0, 0, 0, 0, 0),
  (17, .baload, 1, [], 0, 0, 0, 0, 0),
  (18, .istore_n 3, 1, [], 0, 0, 0, 0, 0),
  (19, .iload_n 3, 1, [], 0, 0, 0, 0, 0),
  (20, .invokestatic 155, 3, [], 130, 1, 0, 1009, 0),
  (23, .ifCond .ne 30, 3, [32], 0, 0, 0, 0, 0),
  (26, .iload_n 3, 1, [], 0, 0, 0, 0, 0),
  (27, .bipush 44, 2, [], 0, 0, 0, 0, 0),
  (29, .if_icmp .eq 24, 3, [32], 0, 0, 0, 0, 0),
  (32, .iload_n 3, 1, [], 0, 0, 0, 0, 0),
  (33, .bipush 46, 2, [], 0, 0, 0, 0, 0),
  (35, .if_icmp .eq 18, 3, [32], 0, 0, 0, 0, 0),
  (38, .iload_n 3, 1, [], 0, 0, 0, 0, 0),
  (39, .bipush 32, 2, [], 0, 0, 0, 0, 0),
  (41, .if_icmp .eq 12, 3, [32], 0, 0, 0, 0, 0),
  (44, .aload_n 0, 1, [], 0, 0, 0, 0, 0),
  (45, .iconst 1, 1, [], 0, 0, 0, 0, 0),
  (46, .iload_n 2, 1, [], 0, 0, 0, 0, 0),
  (47, .invokevirtual 158, 3, [10], 133, 2, 0, 1012, 0),
  (50, .pop, 1, [], 0, 0, 0, 0, 0),
  (51, .iconst 0, 1, [], 0, 0, 0, 0, 0),
  (52, .ireturn, 1, [], 0, 0, 0, 0, 0),
  (53, .iinc 2 1, 3, [], 0, 0, 0, 0, 0),
  (56, .goto (-49), 3, [5], 0, 0, 0, 0, 0),
  (59, .iconst 0, 1, [], 0, 0, 0, 0, 0),
  (60, .istore_n 2, 1, [], 0, 0, 0, 0, 0),
  (61, .iload_n 2, 1, [], 0, 0, 0, 0, 0),
  (62, .iload_n 1, 1, [], 0, 0, 0, 0, 0),
  (63, .if_icmp .ge 234, 3, [156], 0, 0, 0, 0, 0),
  (66, .iload_n 2, 1, [], 0, 0, 0, 0, 0),
  (67, .istore_n 3, 1, [], 0, 0, 0, 0, 0),
  (68, .aload_n 0, 1, [], 0, 0, 0, 0, 0),
  (69, .getfield 81, 3, [], 10, 11, 0, 844, 0),
  (72, .iload_n 2, 1, [], 0, 0, 0, 0, 0),
  (73, .baload, 1, [], 0, 0, 0, 0, 0),
  (74, .invokestatic 155, 3, [], 130, 1, 0, 1009, 0),
  (77, .ifCond .eq 180, 3, [136], 0, 0, 0, 0, 0),
  (80, .lconst 0, 1, [], 0, 0, 0, 0, 0),
  (81, .lstore 4, 2, [], 0, 0, 0, 0, 0),
  (83, .iload_n 2, 1, [], 0, 0, 0, 0, 0),
  (84, .iload_n 1, 1, [], 0, 0, 0, 0, 0),
  (85, .if_icmp .ge 68, 3, [86], 0, 0, 0, 0, 0),
  (88, .aload_n 0, 1, [], 0, 0, 0, 0, 0),
  (89, .getfield 81, 3, [], 10, 11, 0, 844, 0),
  (92, .iload_n 2, 1, [], 0, 0, 0, 0, 0),
  (93, .baload, 1, [], 0, 0, 0, 0, 0),
  (94, .invokestatic 155, 3, [], 130, 1, 0, 1009, 0),
  (97, .ifCond .eq 56, 3, [86], 0, 0, 0, 0, 0),
  (100, .aload_n 0, 1, [], 0, 0, 0, 0, 0),
  (101, .getfield 81, 3, [], 10, 11, 0, 844, 0),
  (104, .iload_n 2, 1, [], 0, 0, 0, 0, 0),
  (105, .baload, 1, [], 0, 0, 0, 0, 0),
  (106, .istore 6, 2, [], 0, 0, 0, 0, 0),
  (108, .iload_n 2, 1, [], 0, 0, 0, 0, 0),
  (109, .iload_n 3, 1, [], 0, 0, 0, 0, 0),
  (110, .bipush 8, 2, [], 0, 0, 0, 0, 0),
  (112, .iadd, 1, [], 0, 0, 0, 0, 0),
  (113, .if_icmp .ge 30, 3, [82], 0, 0, 0, 0, 0),
  (116, .lload 4, 2, [], 0, 0, 0, 0, 0),
  (118, .bipush 8, 2, [], 0, 0, 0, 0, 0),
  (120, .lshl, 1, [], 0, 0, 0, 0, 0),
  (121, .iload 6, 2, [], 0, 0, 0, 0, 0),
  (123, .bipush 97, 2, [], 0, 0, 0, 0, 0),
  (125, .if_icmp .ge 11, 3, [78], 0, 0, 0, 0, 0),
  (128, .iload 6, 2, [], 0, 0, 0, 0, 0),
  (130, .bipush 32, 2, [], 0, 0, 0, 0, 0),
  (132, .iadd, 1, [], 0, 0, 0, 0, 0),
  (133, .goto 5, 3, [79], 0, 0, 0, 0, 0),
  (136, .iload 6, 2, [], 0, 0, 0, 0, 0),
  (138, .i2l, 1, [], 0, 0, 0, 0, 0),
  (139, .lor, 1, [], 0, 0, 0, 0, 0),
  (140, .goto 5, 3, [83], 0, 0, 0, 0, 0),
  (143, .lload 4, 2, [], 0, 0, 0, 0, 0),
  (145, .lstore 4, 2, [], 0, 0, 0, 0, 0),
  (147, .iinc 2 1, 3, [], 0, 0, 0, 0, 0),
  (150, .goto (-67), 3, [49], 0, 0, 0, 0, 0),
  (153, .aload_n 0, 1, [], 0, 0, 0, 0, 0),
  (154, .lload 4, 2, [], 0, 0, 0, 0, 0),
  (156, .invokevirtual 142, 3, [10], 124, 1, 0, 977, 0),
  (159, .istore 6, 2, [], 0, 0, 0, 0, 0),
  (161, .aload_n 0, 1, [], 0, 0, 0, 0, 0),
  (162, .lload 4, 2, [], 0, 0, 0, 0, 0),
  (164, .invokevirtual 146, 3, [10], 125, 1, 0, 981, 0),
  (167, .istore 7, 2, [], 0, 0, 0, 0, 0),
  (169, .iload 7, 2, [], 0, 0, 0, 0, 0),
  (171, .bipush (-4), 2, [], 0, 0, 0, 0, 0),
  (173, .if_icmp .eq 25, 3, [108], 0, 0, 0, 0, 0),
  (176, .aload_n 0, 1, [], 0, 0, 0, 0, 0),
  (177, .getfield 75, 3, [], 10, 9, 0, 842, 0),
  (180, .iload 7, 2, [], 0, 0, 0, 0, 0),
  (182, .iaload, 1, [], 0, 0, 0, 0, 0),
  (183, .bipush (-4), 2, [], 0, 0, 0, 0, 0),
  (185, .if_icmp .eq 13, 3, [108], 0, 0, 0, 0, 0),
  (188, .aload_n 0, 1, [], 0, 0, 0, 0, 0),
  (189, .getfield 75, 3, [], 10, 9, 0, 842, 0),
  (192, .iload 7, 2, [], 0, 0, 0, 0, 0),
  (194, .iaload, 1, [], 0, 0, 0, 0, 0),
  (195, .goto 5, 3, [109], 0, 0, 0, 0, 0),
  (198, .iload 7, 2, [], 0, 0, 0, 0, 0),
  (200, .istore 7, 2, [], 0, 0, 0, 0, 0),
  (202, .iload 7, 2, [], 0, 0, 0, 0, 0),
  (204, .bipush (-4), 2, [], 0, 0, 0, 0, 0),
  (206, .if_icmp .eq 14, 3, [119], 0, 0, 0, 0, 0),
  (209, .aload_n 0, 1, [], 0, 0, 0, 0, 0),
  (210, .getfield 69, 3, [], 10, 7, 0, 840, 0),
  (213, .iload 7, 2, [], 0, 0, 0, 0, 0),
  (215, .iaload, 1, [], 0, 0, 0, 0, 0),
  (216, .iconst 3, 1, [], 0, 0, 0, 0, 0),
  (217, .if_icmp .eq 37, 3, [135], 0, 0, 0, 0, 0),
  (220, .aload_n 0, 1, [], 0, 0, 0, 0, 0),
  (221, .iload 6, 2, [], 0, 0, 0, 0, 0),
  (223, .bipush (-4), 2, [], 0, 0, 0, 0, 0),
  (225, .if_icmp .eq 8, 3, [125], 0, 0, 0, 0, 0),
  (228, .iload 6, 2, [], 0, 0, 0, 0, 0),
  (230, .goto 20, 3, [133], 0, 0, 0, 0, 0),
  (233, .iload 7, 2, [], 0, 0, 0, 0, 0),
  (235, .bipush (-4), 2, [], 0, 0, 0, 0, 0),
  (237, .if_icmp .eq 11, 3, [132], 0, 0, 0, 0, 0),
  (240, .bipush 100, 2, [], 0, 0, 0, 0, 0),
  (242, .iload 7, 2, [], 0, 0, 0, 0, 0),
  (244, .iadd, 1, [], 0, 0, 0, 0, 0),
  (245, .goto 5, 3, [133], 0, 0, 0, 0, 0),
  (248, .bipush 32, 2, [], 0, 0, 0, 0, 0),
  (250, .iload_n 3, 1, [], 0, 0, 0, 0, 0),
  (251, .invokevirtual 162, 3, [10], 132, 2, 0, 1016, 0),
  (254, .goto 40, 3, [155], 0, 0, 0, 0, 0),
  (257, .aload_n 0, 1, [], 0, 0, 0, 0, 0),
  (258, .getfield 81, 3, [], 10, 11, 0, 844, 0),
  (261, .iload_n 2, 1, [], 0, 0, 0, 0, 0),
  (262, .baload, 1, [], 0, 0, 0, 0, 0),
  (263, .bipush 32, 2, [], 0, 0, 0, 0, 0),
  (265, .if_icmp .eq 26, 3, [154], 0, 0, 0, 0, 0),
  (268, .aload_n 0, 1, [], 0, 0, 0, 0, 0),
  (269, .aload_n 0, 1, [], 0, 0, 0, 0, 0),
  (270, .getfield 81, 3, [], 10, 11, 0, 844, 0),
  (273, .iload_n 2, 1, [], 0, 0, 0, 0, 0),
  (274, .baload, 1, [], 0, 0, 0, 0, 0),
  (275, .bipush 44, 2, [], 0, 0, 0, 0, 0),
  (277, .if_icmp .ne 8, 3, [151], 0, 0, 0, 0, 0),
  (280, .bipush 30, 2, [], 0, 0, 0, 0, 0),
  (282, .goto 5, 3, [152], 0, 0, 0, 0, 0),
  (285, .bipush 31, 2, [], 0, 0, 0, 0, 0),
  (287, .iload_n 2, 1, [], 0, 0, 0, 0, 0),
  (288, .invokevirtual 162, 3, [10], 132, 2, 0, 1016, 0),
  (291, .iinc 2 1, 3, [], 0, 0, 0, 0, 0),
  (294, .goto (-233), 3, [36], 0, 0, 0, 0, 0),
  (297, .aload_n 0, 1, [], 0, 0, 0, 0, 0),
  (298, .bipush 33, 2, [], 0, 0, 0, 0, 0),
  (300, .iload_n 1, 1, [], 0, 0, 0, 0, 0),
  (301, .invokevirtual 162, 3, [10], 132, 2, 0, 1016, 0),
  (304, .iconst 1, 1, [], 0, 0, 0, 0, 0),
  (305, .ireturn, 1, [], 0, 0, 0, 0, 0)]
def mX10_cuts : xMe := (yX10_cuts, cX10_cuts, 8, some .boolean, RX10, 1, pX10_cuts)
set_option maxRecDepth 20000 in
def pX10_comes : List xI := [(0, .aload_n 0, 1, [], 0, 0, 0, 0, 0),
  (1, .getfield 85, 3, [], 10, 13, 0, 846, 0),
  (4, .aload_n 0, 1, [], 0, 0, 0, 0, 0),
  (5, .getfield 152, 3, [], 10, 15, 0, 848, 0),
  (8, .iload_n 1, 1, [], 0, 0, 0, 0, 0),
  (9, .iastore, 1, [], 0, 0, 0, 0, 0),
  (10, .aload_n 0, 1, [], 0, 0, 0, 0, 0),
  (11, .getfield 88, 3, [], 10, 14, 0, 847, 0),
  (14, .aload_n 0, 1, [], 0, 0, 0, 0, 0),
  (15, .getfield 152, 3, [], 10, 15, 0, 848, 0),
  (18, .iload_n 2, 1, [], 0, 0, 0, 0, 0),
  (19, .iastore, 1, [], 0, 0, 0, 0, 0),
  (20, .aload_n 0, 1, [], 0, 0, 0, 0, 0),
  (21, .dup, 1, [], 0, 0, 0, 0, 0),
  (22, .getfield 152, 3, [], 10, 15, 0, 848, 0),
  (25, .iconst 1, 1, [], 0, 0, 0, 0, 0),
  (26, .iadd, 1, [], 0, 0, 0, 0, 0),
  (27, .putfield 152, 3, [], 10, 15, 0, 848, 0),
  (30, .return_, 1, [], 0, 0, 0, 0, 0)]
def mX10_comes : xMe := (yX10_comes, cX10_comes, 3, none, RX10, 1, pX10_comes)
set_option maxRecDepth 20000 in
def pX10_fails : List xI := [(0, .aload_n 0, 1, [], 0, 0, 0, 0, 0),
  (1, .iload_n 1, 1, [], 0, 0, 0, 0, 0),
  (2, .putfield 166, 3, [], 10, 17, 0, 850, 0),
  (5, .aload_n 0, 1, [], 0, 0, 0, 0, 0),
  (6, .iload_n 2, 1, [], 0, 0, 0, 0, 0),
  (7, .putfield 169, 3, [], 10, 18, 0, 851, 0),
  (10, .iconst 0, 1, [], 0, 0, 0, 0, 0),
  (11, .ireturn, 1, [], 0, 0, 0, 0, 0)]
def mX10_fails : xMe := (yX10_fails, cX10_fails, 3, some .boolean, RX10, 1, pX10_fails)
set_option maxRecDepth 20000 in
def pX10_wrong : List xI := [(0, .aload_n 0, 1, [], 0, 0, 0, 0, 0),
  (1, .aload_n 0, 1, [], 0, 0, 0, 0, 0),
  (2, .getfield 85, 3, [], 10, 13, 0, 846, 0),
  (5, .aload_n 0, 1, [], 0, 0, 0, 0, 0),
  (6, .getfield 172, 3, [], 10, 16, 0, 849, 0),
  (9, .iaload, 1, [], 0, 0, 0, 0, 0),
  (10, .bipush 32, 2, [], 0, 0, 0, 0, 0),
  (12, .if_icmp .ne 7, 3, [10], 0, 0, 0, 0, 0),
  (15, .iconst 2, 1, [], 0, 0, 0, 0, 0),
  (16, .goto 4, 3, [11], 0, 0, 0, 0, 0),
  (19, .iconst 3, 1, [], 0, 0, 0, 0, 0),
  (20, .aload_n 0, 1, [], 0, 0, 0, 0, 0),
  (21, .getfield 88, 3, [], 10, 14, 0, 847, 0),
  (24, .aload_n 0, 1, [], 0, 0, 0, 0, 0),
  (25, .getfield 172, 3, [], 10, 16, 0, 849, 0),
  (28, .iaload, 1, [], 0, 0, 0, 0, 0),
  (29, .invokevirtual 158, 3, [10], 133, 2, 0, 1012, 0),
  (32, .ireturn, 1, [], 0, 0, 0, 0, 0)]
def mX10_wrong : xMe := (yX10_wrong, cX10_wrong, 1, some .boolean, RX10, 1, pX10_wrong)
set_option maxRecDepth 20000 in
def pX10_isSort : List xI := [(0, .iload_n 1, 1, [], 0, 0, 0, 0, 0),
  (1, .bipush 100, 2, [], 0, 0, 0, 0, 0),
  (3, .if_icmp .lt 20, 3, [13], 0, 0, 0, 0, 0),
  (6, .aload_n 0, 1, [], 0, 0, 0, 0, 0),
  (7, .getfield 69, 3, [], 10, 7, 0, 840, 0),
  (10, .iload_n 1, 1, [], 0, 0, 0, 0, 0),
  (11, .bipush 100, 2, [], 0, 0, 0, 0, 0),
  (13, .isub, 1, [], 0, 0, 0, 0, 0),
  (14, .iaload, 1, [], 0, 0, 0, 0, 0),
  (15, .iload_n 2, 1, [], 0, 0, 0, 0, 0),
  (16, .if_icmp .ne 7, 3, [13], 0, 0, 0, 0, 0),
  (19, .iconst 1, 1, [], 0, 0, 0, 0, 0),
  (20, .goto 4, 3, [14], 0, 0, 0, 0, 0),
  (23, .iconst 0, 1, [], 0, 0, 0, 0, 0),
  (24, .ireturn, 1, [], 0, 0, 0, 0, 0)]
def mX10_isSort : xMe := (yX10_isSort, cX10_isSort, 3, some .boolean, RX10, 1, pX10_isSort)
set_option maxRecDepth 20000 in
def pX10_isVerbBehind : List xI := [(0, .aload_n 0, 1, [], 0, 0, 0, 0, 0),
  (1, .aload_n 0, 1, [], 0, 0, 0, 0, 0),
  (2, .getfield 85, 3, [], 10, 13, 0, 846, 0),
  (5, .aload_n 0, 1, [], 0, 0, 0, 0, 0),
  (6, .getfield 172, 3, [], 10, 16, 0, 849, 0),
  (9, .iconst 1, 1, [], 0, 0, 0, 0, 0),
  (10, .iadd, 1, [], 0, 0, 0, 0, 0),
  (11, .iaload, 1, [], 0, 0, 0, 0, 0),
  (12, .iconst 1, 1, [], 0, 0, 0, 0, 0),
  (13, .invokevirtual 175, 3, [10], 135, 2, 0, 1044, 0),
  (16, .ireturn, 1, [], 0, 0, 0, 0, 0)]
def mX10_isVerbBehind : xMe := (yX10_isVerbBehind, cX10_isVerbBehind, 1, some .boolean, RX10, 1, pX10_isVerbBehind)
set_option maxRecDepth 20000 in
def pX10_tableMeans : List xI := [(0, .aload_n 0, 1, [], 0, 0, 0, 0, 0),
  (1, .getfield 115, 3, [], 10, 32, 0, 865, 0),
  (4, .iload_n 1, 1, [], 0, 0, 0, 0, 0),
  (5, .iaload, 1, [], 0, 0, 0, 0, 0),
  (6, .ifCond .ne 16, 3, [13], 0, 0, 0, 0, 0),
  (9, .aload_n 0, 1, [], 0, 0, 0, 0, 0),
  (10, .bipush 6, 2, [], 0, 0, 0, 0, 0),
  (12, .aload_n 0, 1, [], 0, 0, 0, 0, 0),
  (13, .getfield 88, 3, [], 10, 14, 0, 847, 0),
  (16, .iload_n 2, 1, [], 0, 0, 0, 0, 0),
  (17, .iaload, 1, [], 0, 0, 0, 0, 0),
  (18, .invokevirtual 158, 3, [10], 133, 2, 0, 1012, 0),
  (21, .ireturn, 1, [], 0, 0, 0, 0, 0),
  (22, .aload_n 0, 1, [], 0, 0, 0, 0, 0),
  (23, .iconst 0, 1, [], 0, 0, 0, 0, 0),
  (24, .putfield 178, 3, [], 10, 34, 0, 867, 0),
  (27, .iconst 1, 1, [], 0, 0, 0, 0, 0),
  (28, .istore_n 3, 1, [], 0, 0, 0, 0, 0),
  (29, .iconst 0, 1, [], 0, 0, 0, 0, 0),
  (30, .istore 4, 2, [], 0, 0, 0, 0, 0),
  (32, .iload 4, 2, [], 0, 0, 0, 0, 0),
  (34, .aload_n 0, 1, [], 0, 0, 0, 0, 0),
  (35, .getfield 115, 3, [], 10, 32, 0, 865, 0),
  (38, .iload_n 1, 1, [], 0, 0, 0, 0, 0),
  (39, .iaload, 1, [], 0, 0, 0, 0, 0),
  (40, .if_icmp .ge 54, 3, [56], 0, 0, 0, 0, 0),
  (43, .aload_n 0, 1, [], 0, 0, 0, 0, 0),
  (44, .getfield 112, 3, [], 10, 31, 0, 864, 0),
  (47, .bipush 24, 2, [], 0, 0, 0, 0, 0),
  (49, .iload_n 1, 1, [], 0, 0, 0, 0, 0),
  (50, .imul, 1, [], 0, 0, 0, 0, 0),
  (51, .iload 4, 2, [], 0, 0, 0, 0, 0),
  (53, .iadd, 1, [], 0, 0, 0, 0, 0),
  (54, .iaload, 1, [], 0, 0, 0, 0, 0),
  (55, .istore 5, 2, [], 0, 0, 0, 0, 0),
  (57, .iload_n 3, 1, [], 0, 0, 0, 0, 0),
  (58, .aload_n 0, 1, [], 0, 0, 0, 0, 0),
  (59, .getfield 59, 3, [], 10, 3, 0, 836, 0),
  (62, .iload 5, 2, [], 0, 0, 0, 0, 0),
  (64, .baload, 1, [], 0, 0, 0, 0, 0),
  (65, .iand, 1, [], 0, 0, 0, 0, 0),
  (66, .istore_n 3, 1, [], 0, 0, 0, 0, 0),
  (67, .aload_n 0, 1, [], 0, 0, 0, 0, 0),
  (68, .getfield 118, 3, [], 10, 33, 0, 866, 0),
  (71, .aload_n 0, 1, [], 0, 0, 0, 0, 0),
  (72, .getfield 178, 3, [], 10, 34, 0, 867, 0),
  (75, .iload 5, 2, [], 0, 0, 0, 0, 0),
  (77, .iastore, 1, [], 0, 0, 0, 0, 0),
  (78, .aload_n 0, 1, [], 0, 0, 0, 0, 0),
  (79, .dup, 1, [], 0, 0, 0, 0, 0),
  (80, .getfield 178, 3, [], 10, 34, 0, 867, 0),
  (83, .iconst 1, 1, [], 0, 0, 0, 0, 0),
  (84, .iadd, 1, [], 0, 0, 0, 0, 0),
  (85, .putfield 178, 3, [], 10, 34, 0, 867, 0),
  (88, .iinc 4 1, 3, [], 0, 0, 0, 0, 0),
  (91, .goto (-59), 3, [20], 0, 0, 0, 0, 0),
  (94, .iload_n 3, 1, [], 0, 0, 0, 0, 0),
  (95, .ifCond .ne 18, 3, [66], 0, 0, 0, 0, 0),
  (98, .aload_n 0, 1, [], 0, 0, 0, 0, 0),
  (99, .bipush 7, 2, [], 0, 0, 0, 0, 0),
  (101, .aload_n 0, 1, [], 0, 0, 0, 0, 0),
  (102, .getfield 88, 3, [], 10, 14, 0, 847, 0),
  (105, .iload_n 2, 1, [], 0, 0, 0, 0, 0),
  (106, .iaload, 1, [], 0, 0, 0, 0, 0),
  (107, .invokevirtual 158, 3, [10], 133, 2, 0, 1012, 0),
  (110, .ifCond .eq 7, 3, [68], 0, 0, 0, 0, 0),
  (113, .iconst 1, 1, [], 0, 0, 0, 0, 0),
  (114, .goto 4, 3, [69], 0, 0, 0, 0, 0),
  (117, .iconst 0, 1, [], 0, 0, 0, 0, 0),
  (118, .ireturn, 1, [], 0, 0, 0, 0, 0)]
def mX10_tableMeans : xMe := (yX10_tableMeans, cX10_tableMeans, 6, some .boolean, RX10, 1, pX10_tableMeans)
set_option maxRecDepth 20000 in
def pX10_oneMeans : List xI := [(0, .aload_n 0, 1, [], 0, 0, 0, 0, 0),
  (1, .getfield 118, 3, [], 10, 33, 0, 866, 0),
  (4, .iconst 0, 1, [], 0, 0, 0, 0, 0),
  (5, .iload_n 1, 1, [], 0, 0, 0, 0, 0),
  (6, .iastore, 1, [], 0, 0, 0, 0, 0),
  (7, .aload_n 0, 1, [], 0, 0, 0, 0, 0),
  (8, .iconst 1, 1, [], 0, 0, 0, 0, 0),
  (9, .putfield 178, 3, [], 10, 34, 0, 867, 0),
  (12, .iconst 1, 1, [], 0, 0, 0, 0, 0),
  (13, .ireturn, 1, [], 0, 0, 0, 0, 0)]
def mX10_oneMeans : xMe := (yX10_oneMeans, cX10_oneMeans, 2, some .boolean, RX10, 1, pX10_oneMeans)
set_option maxRecDepth 20000 in
def pX10_item : List xI := [(0, .aload_n 0, 1, [], 0, 0, 0, 0, 0),
  (1, .getfield 172, 3, [], 10, 16, 0, 849, 0),
  (4, .istore_n 2, 1, [], 0, 0, 0, 0, 0),
  (5, .aload_n 0, 1, [], 0, 0, 0, 0, 0),
  (6, .getfield 85, 3, [], 10, 13, 0, 846, 0),
  (9, .aload_n 0, 1, [], 0, 0, 0, 0, 0),
  (10, .getfield 172, 3, [], 10, 16, 0, 849, 0),
  (13, .iaload, 1, [], 0, 0, 0, 0, 0),
  (14, .istore_n 3, 1, [], 0, 0, 0, 0, 0),
  (15, .iload_n 3, 1, [], 0, 0, 0, 0, 0),
  (16, .bipush 19, 2, [], 0, 0, 0, 0, 0),
  (18, .if_icmp .ne 122, 3, [76], 0, 0, 0, 0, 0),
  (21, .aload_n 0, 1, [], 0, 0, 0, 0, 0),
  (22, .dup, 1, [], 0, 0, 0, 0, 0),
  (23, .getfield 172, 3, [], 10, 16, 0, 849, 0),
  (26, .iconst 1, 1, [], 0, 0, 0, 0, 0),
  (27, .iadd, 1, [], 0, 0, 0, 0, 0),
  (28, .putfield 172, 3, [], 10, 16, 0, 849, 0),
  (31, .aload_n 0, 1, [], 0, 0, 0, 0, 0),
  (32, .iconst 0, 1, [], 0, 0, 0, 0, 0),
  (33, .putfield 178, 3, [], 10, 34, 0, 867, 0),
  (36, .iconst 1, 1, [], 0, 0, 0, 0, 0),
  (37, .istore 4, 2, [], 0, 0, 0, 0, 0),
  (39, .iload 4, 2, [], 0, 0, 0, 0, 0),
  (41, .aload_n 0, 1, [], 0, 0, 0, 0, 0),
  (42, .getfield 124, 3, [], 10, 1, 0, 834, 0),
  (45, .if_icmp .ge 68, 3, [61], 0, 0, 0, 0, 0),
  (48, .aload_n 0, 1, [], 0, 0, 0, 0, 0),
  (49, .getfield 59, 3, [], 10, 3, 0, 836, 0),
  (52, .iload 4, 2, [], 0, 0, 0, 0, 0),
  (54, .baload, 1, [], 0, 0, 0, 0, 0),
  (55, .ifCond .eq 52, 3, [59], 0, 0, 0, 0, 0),
  (58, .iload 4, 2, [], 0, 0, 0, 0, 0),
  (60, .iload_n 1, 1, [], 0, 0, 0, 0, 0),
  (61, .if_icmp .eq 46, 3, [59], 0, 0, 0, 0, 0),
  (64, .aload_n 0, 1, [], 0, 0, 0, 0, 0),
  (65, .getfield 55, 3, [], 10, 2, 0, 835, 0),
  (68, .iload 4, 2, [], 0, 0, 0, 0, 0),
  (70, .iaload, 1, [], 0, 0, 0, 0, 0),
  (71, .iconst 1, 1, [], 0, 0, 0, 0, 0),
  (72, .if_icmp .eq 35, 3, [59], 0, 0, 0, 0, 0),
  (75, .aload_n 0, 1, [], 0, 0, 0, 0, 0),
  (76, .getfield 55, 3, [], 10, 2, 0, 835, 0),
  (79, .iload 4, 2, [], 0, 0, 0, 0, 0),
  (81, .iaload, 1, [], 0, 0, 0, 0, 0),
  (82, .iconst 2, 1, [], 0, 0, 0, 0, 0),
  (83, .if_icmp .eq 24, 3, [59], 0, 0, 0, 0, 0),
  (86, .aload_n 0, 1, [], 0, 0, 0, 0, 0),
  (87, .getfield 118, 3, [], 10, 33, 0, 866, 0),
  (90, .aload_n 0, 1, [], 0, 0, 0, 0, 0),
  (91, .getfield 178, 3, [], 10, 34, 0, 867, 0),
  (94, .iload 4, 2, [], 0, 0, 0, 0, 0),
  (96, .iastore, 1, [], 0, 0, 0, 0, 0),
  (97, .aload_n 0, 1, [], 0, 0, 0, 0, 0),
  (98, .dup, 1, [], 0, 0, 0, 0, 0),
  (99, .getfield 178, 3, [], 10, 34, 0, 867, 0),
  (102, .iconst 1, 1, [], 0, 0, 0, 0, 0),
  (103, .iadd, 1, [], 0, 0, 0, 0, 0),
  (104, .putfield 178, 3, [], 10, 34, 0, 867, 0),
  (107, .iinc 4 1, 3, [], 0, 0, 0, 0, 0),
  (110, .goto (-71), 3, [23], 0, 0, 0, 0, 0),
  (113, .aload_n 0, 1, [], 0, 0, 0, 0, 0),
  (114, .getfield 178, 3, [], 10, 34, 0, 867, 0),
  (117, .ifCond .gt 17, 3, [72], 0, 0, 0, 0, 0),
  (120, .aload_n 0, 1, [], 0, 0, 0, 0, 0),
  (121, .iconst 4, 1, [], 0, 0, 0, 0, 0),
  (122, .aload_n 0, 1, [], 0, 0, 0, 0, 0),
  (123, .getfield 88, 3, [], 10, 14, 0, 847, 0),
  (126, .iload_n 2, 1, [], 0, 0, 0, 0, 0),
  (127, .iaload, 1, [], 0, 0, 0, 0, 0),
  (128, .invokevirtual 158, 3, [10], 133, 2, 0, 1012, 0),
  (131, .ifCond .eq 7, 3, [74], 0, 0, 0, 0, 0),
  (134, .iconst 1, 1, [], 0, 0, 0, 0, 0),
  (135, .goto 4, 3, [75], 0, 0, 0, 0, 0),
  (138, .iconst 0, 1, [], 0, 0, 0, 0, 0),
  (139, .ireturn, 1, [], 0, 0, 0, 0, 0),
  (140, .iload_n 3, 1, [], 0, 0, 0, 0, 0),
  (141, .bipush 33, 2, [], 0, 0, 0, 0, 0),
  (143, .if_icmp .eq 26, 3, [92], 0, 0, 0, 0, 0),
  (146, .aload_n 0, 1, [], 0, 0, 0, 0, 0),
  (147, .aload_n 0, 1, [], 0, 0, 0, 0, 0),
  (148, .getfield 85, 3, [], 10, 13, 0, 846, 0),
  (151, .aload_n 0, 1, [], 0, 0, 0, 0, 0),
  (152, .getfield 172, 3, [], 10, 16, 0, 849, 0),
  (155, .iconst 1, 1, [], 0, 0, 0, 0, 0),
  (156, .iadd, 1, [], 0, 0, 0, 0, 0),
  (157, .iaload, 1, [], 0, 0, 0, 0, 0),
  (158, .iconst 0, 1, [], 0, 0, 0, 0, 0),
  (159, .invokevirtual 175, 3, [10], 135, 2, 0, 1044, 0),
  (162, .ifCond .eq 7, 3, [92], 0, 0, 0, 0, 0),
  (165, .iconst 1, 1, [], 0, 0, 0, 0, 0),
  (166, .goto 4, 3, [93], 0, 0, 0, 0, 0),
  (169, .iconst 0, 1, [], 0, 0, 0, 0, 0),
  (170, .istore 4, 2, [], 0, 0, 0, 0, 0),
  (172, .iload_n 3, 1, [], 0, 0, 0, 0, 0),
  (173, .bipush 8, 2, [], 0, 0, 0, 0, 0),
  (175, .bipush 11, 2, [], 0, 0, 0, 0, 0),
  (177, .invokestatic 128, 3, [], 116, 3, 0, 950, 0),
  (180, .ifCond .eq 34, 3, [117], 0, 0, 0, 0, 0),
  (183, .iload_n 3, 1, [], 0, 0, 0, 0, 0),
  (184, .bipush 10, 2, [], 0, 0, 0, 0, 0),
  (186, .if_icmp .ne 8, 3, [104], 0, 0, 0, 0, 0),
  (189, .iload 4, 2, [], 0, 0, 0, 0, 0),
  (191, .ifCond .ne 23, 3, [117], 0, 0, 0, 0, 0),
  (194, .aload_n 0, 1, [], 0, 0, 0, 0, 0),
  (195, .dup, 1, [], 0, 0, 0, 0, 0),
  (196, .getfield 172, 3, [], 10, 16, 0, 849, 0),
  (199, .iconst 1, 1, [], 0, 0, 0, 0, 0),
  (200, .iadd, 1, [], 0, 0, 0, 0, 0),
  (201, .putfield 172, 3, [], 10, 16, 0, 849, 0),
  (204, .aload_n 0, 1, [], 0, 0, 0, 0, 0),
  (205, .iload_n 3, 1, [], 0, 0, 0, 0, 0),
  (206, .bipush 8, 2, [], 0, 0, 0, 0, 0),
  (208, .isub, 1, [], 0, 0, 0, 0, 0),
  (209, .iload_n 2, 1, [], 0, 0, 0, 0, 0),
  (210, .invokevirtual 181, 3, [10], 137, 2, 0, 1048, 0),
  (213, .ireturn, 1, [], 0, 0, 0, 0, 0),
  (214, .iload_n 3, 1, [], 0, 0, 0, 0, 0),
  (215, .bipush 12, 2, [], 0, 0, 0, 0, 0),
  (217, .bipush 14, 2, [], 0, 0, 0, 0, 0),
  (219, .invokestatic 128, 3, [], 116, 3, 0, 950, 0),
  (222, .ifCond .eq 29, 3, [137], 0, 0, 0, 0, 0),
  (225, .aload_n 0, 1, [], 0, 0, 0, 0, 0),
  (226, .dup, 1, [], 0, 0, 0, 0, 0),
  (227, .getfield 172, 3, [], 10, 16, 0, 849, 0),
  (230, .iconst 1, 1, [], 0, 0, 0, 0, 0),
  (231, .iadd, 1, [], 0, 0, 0, 0, 0),
  (232, .putfield 172, 3, [], 10, 16, 0, 849, 0),
  (235, .aload_n 0, 1, [], 0, 0, 0, 0, 0),
  (236, .iload_n 3, 1, [], 0, 0, 0, 0, 0),
  (237, .bipush 14, 2, [], 0, 0, 0, 0, 0),
  (239, .if_icmp .ne 7, 3, [134], 0, 0, 0, 0, 0),
  (242, .iload_n 1, 1, [], 0, 0, 0, 0, 0),
  (243, .goto 4, 3, [135], 0, 0, 0, 0, 0),
  (246, .iconst 0, 1, [], 0, 0, 0, 0, 0),
  (247, .invokevirtual 184, 3, [10], 138, 1, 0, 1052, 0),
  (250, .ireturn, 1, [], 0, 0, 0, 0, 0),
  (251, .iload_n 3, 1, [], 0, 0, 0, 0, 0),
  (252, .bipush 10, 2, [], 0, 0, 0, 0, 0),
  (254, .if_icmp .eq 14, 3, [145], 0, 0, 0, 0, 0),
  (257, .iload_n 3, 1, [], 0, 0, 0, 0, 0),
  (258, .bipush 15, 2, [], 0, 0, 0, 0, 0),
  (260, .bipush 18, 2, [], 0, 0, 0, 0, 0),
  (262, .invokestatic 128, 3, [], 116, 3, 0, 950, 0),
  (265, .ifCond .eq 7, 3, [147], 0, 0, 0, 0, 0),
  (268, .iconst 1, 1, [], 0, 0, 0, 0, 0),
  (269, .goto 4, 3, [148], 0, 0, 0, 0, 0),
  (272, .iconst 0, 1, [], 0, 0, 0, 0, 0),
  (273, .istore 5, 2, [], 0, 0, 0, 0, 0),
  (275, .iload_n 3, 1, [], 0, 0, 0, 0, 0),
  (276, .bipush 18, 2, [], 0, 0, 0, 0, 0),
  (278, .if_icmp .ne 7, 3, [154], 0, 0, 0, 0, 0),
  (281, .iconst 1, 1, [], 0, 0, 0, 0, 0),
  (282, .goto 4, 3, [155], 0, 0, 0, 0, 0),
  (285, .iconst 0, 1, [], 0, 0, 0, 0, 0),
  (286, .istore 6, 2, [], 0, 0, 0, 0, 0),
  (288, .iload 5, 2, [], 0, 0, 0, 0, 0),
  (290, .ifCond .eq 49, 3, [182], 0, 0, 0, 0, 0),
  (293, .iload 6, 2, [], 0, 0, 0, 0, 0),
  (295, .ifCond .ne 44, 3, [182], 0, 0, 0, 0, 0),
  (298, .aload_n 0, 1, [], 0, 0, 0, 0, 0),
  (299, .iload_n 3, 1, [], 0, 0, 0, 0, 0),
  (300, .bipush 15, 2, [], 0, 0, 0, 0, 0),
  (302, .if_icmp .ne 7, 3, [166], 0, 0, 0, 0, 0),
  (305, .iconst 1, 1, [], 0, 0, 0, 0, 0),
  (306, .goto 24, 3, [177], 0, 0, 0, 0, 0),
  (309, .iload_n 3, 1, [], 0, 0, 0, 0, 0),
  (310, .bipush 10, 2, [], 0, 0, 0, 0, 0),
  (312, .if_icmp .ne 7, 3, [171], 0, 0, 0, 0, 0),
  (315, .iconst 2, 1, [], 0, 0, 0, 0, 0),
  (316, .goto 14, 3, [177], 0, 0, 0, 0, 0),
  (319, .iload_n 3, 1, [], 0, 0, 0, 0, 0),
  (320, .bipush 16, 2, [], 0, 0, 0, 0, 0),
  (322, .if_icmp .ne 7, 3, [176], 0, 0, 0, 0, 0),
  (325, .iconst 0, 1, [], 0, 0, 0, 0, 0),
  (326, .goto 4, 3, [177], 0, 0, 0, 0, 0),
  (329, .iconst 3, 1, [], 0, 0, 0, 0, 0),
  (330, .iload_n 2, 1, [], 0, 0, 0, 0, 0),
  (331, .invokevirtual 181, 3, [10], 137, 2, 0, 1048, 0),
  (334, .ifCond .ne 5, 3, [182], 0, 0, 0, 0, 0),
  (337, .iconst 0, 1, [], 0, 0, 0, 0, 0),
  (338, .ireturn, 1, [], 0, 0, 0, 0, 0),
  (339, .iload 5, 2, [], 0, 0, 0, 0, 0),
  (341, .ifCond .ne 12, 3, [189], 0, 0, 0, 0, 0),
  (344, .iload_n 3, 1, [], 0, 0, 0, 0, 0),
  (345, .iconst 0, 1, [], 0, 0, 0, 0, 0),
  (346, .iconst 2, 1, [], 0, 0, 0, 0, 0),
  (347, .invokestatic 128, 3, [], 116, 3, 0, 950, 0),
  (350, .ifCond .eq 13, 3, [195], 0, 0, 0, 0, 0),
  (353, .aload_n 0, 1, [], 0, 0, 0, 0, 0),
  (354, .dup, 1, [], 0, 0, 0, 0, 0),
  (355, .getfield 172, 3, [], 10, 16, 0, 849, 0),
  (358, .iconst 1, 1, [], 0, 0, 0, 0, 0),
  (359, .iadd, 1, [], 0, 0, 0, 0, 0),
  (360, .putfield 172, 3, [], 10, 16, 0, 849, 0),
  (363, .aload_n 0, 1, [], 0, 0, 0, 0, 0),
  (364, .aload_n 0, 1, [], 0, 0, 0, 0, 0),
  (365, .getfield 85, 3, [], 10, 13, 0, 846, 0),
  (368, .aload_n 0, 1, [], 0, 0, 0, 0, 0),
  (369, .getfield 172, 3, [], 10, 16, 0, 849, 0),
  (372, .iaload, 1, [], 0, 0, 0, 0, 0),
  (373, .iconst 0, 1, [], 0, 0, 0, 0, 0),
  (374, .invokevirtual 175, 3, [10], 135, 2, 0, 1044, 0),
  (377, .ifCond .ne 8, 3, [207], 0, 0, 0, 0, 0),
  (380, .aload_n 0, 1, [], 0, 0, 0, 0, 0),
  (381, .invokevirtual 187, 3, [10], 134, 0, 0, 1032, 0),
  (384, .ireturn, 1, [], 0, 0, 0, 0, 0),
  (385, .aload_n 0, 1, [], 0, 0, 0, 0, 0),
  (386, .getfield 172, 3, [], 10, 16, 0, 849, 0),
  (389, .istore 7, 2, [], 0, 0, 0, 0, 0),
  (391, .aload_n 0, 1, [], 0, 0, 0, 0, 0),
  (392, .aload_n 0, 1, [], 0, 0, 0, 0, 0),
  (393, .getfield 85, 3, [], 10, 13, 0, 846, 0),
  (396, .aload_n 0, 1, [], 0, 0, 0, 0, 0),
  (397, .getfield 172, 3, [], 10, 16, 0, 849, 0),
  (400, .iaload, 1, [], 0, 0, 0, 0, 0),
  (401, .iconst 0, 1, [], 0, 0, 0, 0, 0),
  (402, .invokevirtual 175, 3, [10], 135, 2, 0, 1044, 0),
  (405, .ifCond .eq 16, 3, [226], 0, 0, 0, 0, 0),
  (408, .aload_n 0, 1, [], 0, 0, 0, 0, 0),
  (409, .dup, 1, [], 0, 0, 0, 0, 0),
  (410, .getfield 172, 3, [], 10, 16, 0, 849, 0),
  (413, .iconst 1, 1, [], 0, 0, 0, 0, 0),
  (414, .iadd, 1, [], 0, 0, 0, 0, 0),
  (415, .putfield 172, 3, [], 10, 16, 0, 849, 0),
  (418, .goto (-27), 3, [210], 0, 0, 0, 0, 0),
  (421, .iconst 0, 1, [], 0, 0, 0, 0, 0),
  (422, .istore 8, 2, [], 0, 0, 0, 0, 0),
  (424, .iconst 0, 1, [], 0, 0, 0, 0, 0),
  (425, .istore 9, 2, [], 0, 0, 0, 0, 0),
  (427, .iload 9, 2, [], 0, 0, 0, 0, 0),
  (429, .aload_n 0, 1, [], 0, 0, 0, 0, 0),
  (430, .getfield 178, 3, [], 10, 34, 0, 867, 0),
  (433, .if_icmp .ge 33, 3, [249], 0, 0, 0, 0, 0),
  (436, .iload 5, 2, [], 0, 0, 0, 0, 0),
  (438, .ifCond .eq 28, 3, [249], 0, 0, 0, 0, 0),
  (441, .iload 6, 2, [], 0, 0, 0, 0, 0),
  (443, .ifCond .ne 23, 3, [249], 0, 0, 0, 0, 0),
  (446, .iload 8, 2, [], 0, 0, 0, 0, 0),
  (448, .iconst 1, 1, [], 0, 0, 0, 0, 0),
  (449, .aload_n 0, 1, [], 0, 0, 0, 0, 0),
  (450, .getfield 118, 3, [], 10, 33, 0, 866, 0),
  (453, .iload 9, 2, [], 0, 0, 0, 0, 0),
  (455, .iaload, 1, [], 0, 0, 0, 0, 0),
  (456, .ishl, 1, [], 0, 0, 0, 0, 0),
  (457, .ior, 1, [], 0, 0, 0, 0, 0),
  (458, .istore 8, 2, [], 0, 0, 0, 0, 0),
  (460, .iinc 9 1, 3, [], 0, 0, 0, 0, 0),
  (463, .goto (-36), 3, [230], 0, 0, 0, 0, 0),
  (466, .iload 6, 2, [], 0, 0, 0, 0, 0),
  (468, .ifCond .eq 7, 3, [253], 0, 0, 0, 0, 0),
  (471, .iconst 1, 1, [], 0, 0, 0, 0, 0),
  (472, .goto 5, 3, [254], 0, 0, 0, 0, 0),
  (475, .iload 8, 2, [], 0, 0, 0, 0, 0),
  (477, .istore 8, 2, [], 0, 0, 0, 0, 0),
  (479, .aload_n 0, 1, [], 0, 0, 0, 0, 0),
  (480, .iconst 0, 1, [], 0, 0, 0, 0, 0),
  (481, .putfield 178, 3, [], 10, 34, 0, 867, 0),
  (484, .iconst 0, 1, [], 0, 0, 0, 0, 0),
  (485, .istore 9, 2, [], 0, 0, 0, 0, 0),
  (487, .iload 9, 2, [], 0, 0, 0, 0, 0),
  (489, .aload_n 0, 1, [], 0, 0, 0, 0, 0),
  (490, .getfield 124, 3, [], 10, 1, 0, 834, 0),
  (493, .if_icmp .ge 171, 3, [352], 0, 0, 0, 0, 0),
  (496, .aload_n 0, 1, [], 0, 0, 0, 0, 0),
  (497, .getfield 59, 3, [], 10, 3, 0, 836, 0),
  (500, .iload 9, 2, [], 0, 0, 0, 0, 0),
  (502, .baload, 1, [], 0, 0, 0, 0, 0),
  (503, .ifCond .eq 40, 3, [289], 0, 0, 0, 0, 0),
  (506, .iload 5, 2, [], 0, 0, 0, 0, 0),
  (508, .ifCond .eq 31, 3, [287], 0, 0, 0, 0, 0),
  (511, .aload_n 0, 1, [], 0, 0, 0, 0, 0),
  (512, .getfield 63, 3, [], 10, 4, 0, 837, 0),
  (515, .iload 9, 2, [], 0, 0, 0, 0, 0),
  (517, .iaload, 1, [], 0, 0, 0, 0, 0),
  (518, .bipush (-4), 2, [], 0, 0, 0, 0, 0),
  (520, .if_icmp .eq 23, 3, [289], 0, 0, 0, 0, 0),
  (523, .iload 8, 2, [], 0, 0, 0, 0, 0),
  (525, .aload_n 0, 1, [], 0, 0, 0, 0, 0),
  (526, .getfield 63, 3, [], 10, 4, 0, 837, 0),
  (529, .iload 9, 2, [], 0, 0, 0, 0, 0),
  (531, .iaload, 1, [], 0, 0, 0, 0, 0),
  (532, .ishr, 1, [], 0, 0, 0, 0, 0),
  (533, .iconst 1, 1, [], 0, 0, 0, 0, 0),
  (534, .iand, 1, [], 0, 0, 0, 0, 0),
  (535, .iconst 1, 1, [], 0, 0, 0, 0, 0),
  (536, .if_icmp .ne 7, 3, [289], 0, 0, 0, 0, 0),
  (539, .iconst 1, 1, [], 0, 0, 0, 0, 0),
  (540, .goto 4, 3, [290], 0, 0, 0, 0, 0),
  (543, .iconst 0, 1, [], 0, 0, 0, 0, 0),
  (544, .istore 10, 2, [], 0, 0, 0, 0, 0),
  (546, .iload 7, 2, [], 0, 0, 0, 0, 0),
  (548, .istore 11, 2, [], 0, 0, 0, 0, 0),
  (550, .iload 11, 2, [], 0, 0, 0, 0, 0),
  (552, .aload_n 0, 1, [], 0, 0, 0, 0, 0),
  (553, .getfield 172, 3, [], 10, 16, 0, 849, 0),
  (556, .if_icmp .ge 76, 3, [336], 0, 0, 0, 0, 0),
  (559, .iload 10, 2, [], 0, 0, 0, 0, 0),
  (561, .ifCond .eq 71, 3, [336], 0, 0, 0, 0, 0),
  (564, .aload_n 0, 1, [], 0, 0, 0, 0, 0),
  (565, .getfield 78, 3, [], 10, 10, 0, 843, 0),
  (568, .bipush 24, 2, [], 0, 0, 0, 0, 0),
  (570, .aload_n 0, 1, [], 0, 0, 0, 0, 0),
  (571, .getfield 85, 3, [], 10, 13, 0, 846, 0),
  (574, .iload 11, 2, [], 0, 0, 0, 0, 0),
  (576, .iaload, 1, [], 0, 0, 0, 0, 0),
  (577, .bipush 100, 2, [], 0, 0, 0, 0, 0),
  (579, .isub, 1, [], 0, 0, 0, 0, 0),
  (580, .imul, 1, [], 0, 0, 0, 0, 0),
  (581, .iload 9, 2, [], 0, 0, 0, 0, 0),
  (583, .iadd, 1, [], 0, 0, 0, 0, 0),
  (584, .iaload, 1, [], 0, 0, 0, 0, 0),
  (585, .istore 12, 2, [], 0, 0, 0, 0, 0),
  (587, .iload 11, 2, [], 0, 0, 0, 0, 0),
  (589, .aload_n 0, 1, [], 0, 0, 0, 0, 0),
  (590, .getfield 172, 3, [], 10, 16, 0, 849, 0),
  (593, .iconst 1, 1, [], 0, 0, 0, 0, 0),
  (594, .isub, 1, [], 0, 0, 0, 0, 0),
  (595, .if_icmp .ne 19, 3, [328], 0, 0, 0, 0, 0),
  (598, .iload 12, 2, [], 0, 0, 0, 0, 0),
  (600, .iconst 1, 1, [], 0, 0, 0, 0, 0),
  (601, .iand, 1, [], 0, 0, 0, 0, 0),
  (602, .iconst 1, 1, [], 0, 0, 0, 0, 0),
  (603, .if_icmp .ne 7, 3, [326], 0, 0, 0, 0, 0),
  (606, .iconst 1, 1, [], 0, 0, 0, 0, 0),
  (607, .goto 17, 3, [333], 0, 0, 0, 0, 0),
  (610, .iconst 0, 1, [], 0, 0, 0, 0, 0),
  (611, .goto 13, 3, [333], 0, 0, 0, 0, 0),
  (614, .iload 12, 2, [], 0, 0, 0, 0, 0),
  (616, .ifCond .eq 7, 3, [332], 0, 0, 0, 0, 0),
  (619, .iconst 1, 1, [], 0, 0, 0, 0, 0),
  (620, .goto 4, 3, [333], 0, 0, 0, 0, 0),
  (623, .iconst 0, 1, [], 0, 0, 0, 0, 0),
  (624, .istore 10, 2, [], 0, 0, 0, 0, 0),
  (626, .iinc 11 1, 3, [], 0, 0, 0, 0, 0),
  (629, .goto (-79), 3, [293], 0, 0, 0, 0, 0),
  (632, .iload 10, 2, [], 0, 0, 0, 0, 0),
  (634, .ifCond .eq 24, 3, [350], 0, 0, 0, 0, 0),
  (637, .aload_n 0, 1, [], 0, 0, 0, 0, 0),
  (638, .getfield 118, 3, [], 10, 33, 0, 866, 0),
  (641, .aload_n 0, 1, [], 0, 0, 0, 0, 0),
  (642, .getfield 178, 3, [], 10, 34, 0, 867, 0),
  (645, .iload 9, 2, [], 0, 0, 0, 0, 0),
  (647, .iastore, 1, [], 0, 0, 0, 0, 0),
  (648, .aload_n 0, 1, [], 0, 0, 0, 0, 0),
  (649, .dup, 1, [], 0, 0, 0, 0, 0),
  (650, .getfield 178, 3, [], 10, 34, 0, 867, 0),
  (653, .iconst 1, 1, [], 0, 0, 0, 0, 0),
  (654, .iadd, 1, [], 0, 0, 0, 0, 0),
  (655, .putfield 178, 3, [], 10, 34, 0, 867, 0),
  (658, .iinc 9 1, 3, [], 0, 0, 0, 0, 0),
  (661, .goto (-174), 3, [260], 0, 0, 0, 0, 0),
  (664, .aload_n 0, 1, [], 0, 0, 0, 0, 0),
  (665, .getfield 178, 3, [], 10, 34, 0, 867, 0),
  (668, .iconst 1, 1, [], 0, 0, 0, 0, 0),
  (669, .if_icmp .eq 29, 3, [369], 0, 0, 0, 0, 0),
  (672, .aload_n 0, 1, [], 0, 0, 0, 0, 0),
  (673, .aload_n 0, 1, [], 0, 0, 0, 0, 0),
  (674, .getfield 178, 3, [], 10, 34, 0, 867, 0),
  (677, .ifCond .ne 7, 3, [362], 0, 0, 0, 0, 0),
  (680, .iconst 4, 1, [], 0, 0, 0, 0, 0),
  (681, .goto 4, 3, [363], 0, 0, 0, 0, 0),
  (684, .iconst 5, 1, [], 0, 0, 0, 0, 0),
  (685, .aload_n 0, 1, [], 0, 0, 0, 0, 0),
  (686, .getfield 88, 3, [], 10, 14, 0, 847, 0),
  (689, .iload 7, 2, [], 0, 0, 0, 0, 0),
  (691, .iaload, 1, [], 0, 0, 0, 0, 0),
  (692, .invokevirtual 158, 3, [10], 133, 2, 0, 1012, 0),
  (695, .ifCond .eq 7, 3, [371], 0, 0, 0, 0, 0),
  (698, .iconst 1, 1, [], 0, 0, 0, 0, 0),
  (699, .goto 4, 3, [372], 0, 0, 0, 0, 0),
  (702, .iconst 0, 1, [], 0, 0, 0, 0, 0),
  (703, .ireturn, 1, [], 0, 0, 0, 0, 0)]
def mX10_item : xMe := (yX10_item, cX10_item, 13, some .boolean, RX10, 1, pX10_item)
set_option maxRecDepth 20000 in
def pX10_placeIn : List xI := [(0, .iconst 0, 1, [], 0, 0, 0, 0, 0),
  (1, .istore_n 2, 1, [], 0, 0, 0, 0, 0),
  (2, .iload_n 2, 1, [], 0, 0, 0, 0, 0),
  (3, .aload_n 0, 1, [], 0, 0, 0, 0, 0),
  (4, .getfield 191, 3, [], 10, 36, 0, 869, 0),
  (7, .if_icmp .ge 21, 3, [16], 0, 0, 0, 0, 0),
  (10, .aload_n 0, 1, [], 0, 0, 0, 0, 0),
  (11, .getfield 121, 3, [], 10, 35, 0, 868, 0),
  (14, .iload_n 2, 1, [], 0, 0, 0, 0, 0),
  (15, .iaload, 1, [], 0, 0, 0, 0, 0),
  (16, .iload_n 1, 1, [], 0, 0, 0, 0, 0),
  (17, .if_icmp .ne 5, 3, [14], 0, 0, 0, 0, 0),
  (20, .iload_n 2, 1, [], 0, 0, 0, 0, 0),
  (21, .ireturn, 1, [], 0, 0, 0, 0, 0),
  (22, .iinc 2 1, 3, [], 0, 0, 0, 0, 0),
  (25, .goto (-23), 3, [2], 0, 0, 0, 0, 0),
  (28, .bipush (-4), 2, [], 0, 0, 0, 0, 0),
  (30, .ireturn, 1, [], 0, 0, 0, 0, 0)]
def mX10_placeIn : xMe := (yX10_placeIn, cX10_placeIn, 3, some .int, RX10, 1, pX10_placeIn)
set_option maxRecDepth 20000 in
def pX10_items : List xI := [(0, .iconst 1, 1, [], 0, 0, 0, 0, 0),
  (1, .istore_n 3, 1, [], 0, 0, 0, 0, 0),
  (2, .iload_n 3, 1, [], 0, 0, 0, 0, 0),
  (3, .ifCond .eq 253, 3, [134], 0, 0, 0, 0, 0),
  (6, .aload_n 0, 1, [], 0, 0, 0, 0, 0),
  (7, .iload_n 1, 1, [], 0, 0, 0, 0, 0),
  (8, .invokevirtual 194, 3, [10], 139, 1, 0, 1040, 0),
  (11, .ifCond .ne 5, 3, [10], 0, 0, 0, 0, 0),
  (14, .iconst 0, 1, [], 0, 0, 0, 0, 0),
  (15, .ireturn, 1, [], 0, 0, 0, 0, 0),
  (16, .iconst 0, 1, [], 0, 0, 0, 0, 0),
  (17, .istore 4, 2, [], 0, 0, 0, 0, 0),
  (19, .iload 4, 2, [], 0, 0, 0, 0, 0),
  (21, .aload_n 0, 1, [], 0, 0, 0, 0, 0),
  (22, .getfield 178, 3, [], 10, 34, 0, 867, 0),
  (25, .if_icmp .ge 118, 3, [75], 0, 0, 0, 0, 0),
  (28, .aload_n 0, 1, [], 0, 0, 0, 0, 0),
  (29, .aload_n 0, 1, [], 0, 0, 0, 0, 0),
  (30, .getfield 118, 3, [], 10, 33, 0, 866, 0),
  (33, .iload 4, 2, [], 0, 0, 0, 0, 0),
  (35, .iaload, 1, [], 0, 0, 0, 0, 0),
  (36, .invokevirtual 197, 3, [10], 140, 1, 0, 1072, 0),
  (39, .istore 5, 2, [], 0, 0, 0, 0, 0),
  (41, .iload_n 2, 1, [], 0, 0, 0, 0, 0),
  (42, .ifCond .eq 58, 3, [53], 0, 0, 0, 0, 0),
  (45, .iload 5, 2, [], 0, 0, 0, 0, 0),
  (47, .bipush (-4), 2, [], 0, 0, 0, 0, 0),
  (49, .if_icmp .eq 51, 3, [53], 0, 0, 0, 0, 0),
  (52, .aload_n 0, 1, [], 0, 0, 0, 0, 0),
  (53, .dup, 1, [], 0, 0, 0, 0, 0),
  (54, .getfield 191, 3, [], 10, 36, 0, 869, 0),
  (57, .iconst 1, 1, [], 0, 0, 0, 0, 0),
  (58, .isub, 1, [], 0, 0, 0, 0, 0),
  (59, .putfield 191, 3, [], 10, 36, 0, 869, 0),
  (62, .iload 5, 2, [], 0, 0, 0, 0, 0),
  (64, .istore 6, 2, [], 0, 0, 0, 0, 0),
  (66, .iload 6, 2, [], 0, 0, 0, 0, 0),
  (68, .aload_n 0, 1, [], 0, 0, 0, 0, 0),
  (69, .getfield 191, 3, [], 10, 36, 0, 869, 0),
  (72, .if_icmp .ge 25, 3, [52], 0, 0, 0, 0, 0),
  (75, .aload_n 0, 1, [], 0, 0, 0, 0, 0),
  (76, .getfield 121, 3, [], 10, 35, 0, 868, 0),
  (79, .iload 6, 2, [], 0, 0, 0, 0, 0),
  (81, .aload_n 0, 1, [], 0, 0, 0, 0, 0),
  (82, .getfield 121, 3, [], 10, 35, 0, 868, 0),
  (85, .iload 6, 2, [], 0, 0, 0, 0, 0),
  (87, .iconst 1, 1, [], 0, 0, 0, 0, 0),
  (88, .iadd, 1, [], 0, 0, 0, 0, 0),
  (89, .iaload, 1, [], 0, 0, 0, 0, 0),
  (90, .iastore, 1, [], 0, 0, 0, 0, 0),
  (91, .iinc 6 1, 3, [], 0, 0, 0, 0, 0),
  (94, .goto (-28), 3, [36], 0, 0, 0, 0, 0),
  (97, .goto 40, 3, [73], 0, 0, 0, 0, 0),
  (100, .iload_n 2, 1, [], 0, 0, 0, 0, 0),
  (101, .ifCond .ne 36, 3, [73], 0, 0, 0, 0, 0),
  (104, .iload 5, 2, [], 0, 0, 0, 0, 0),
  (106, .bipush (-4), 2, [], 0, 0, 0, 0, 0),
  (108, .if_icmp .ne 29, 3, [73], 0, 0, 0, 0, 0),
  (111, .aload_n 0, 1, [], 0, 0, 0, 0, 0),
  (112, .getfield 121, 3, [], 10, 35, 0, 868, 0),
  (115, .aload_n 0, 1, [], 0, 0, 0, 0, 0),
  (116, .getfield 191, 3, [], 10, 36, 0, 869, 0),
  (119, .aload_n 0, 1, [], 0, 0, 0, 0, 0),
  (120, .getfield 118, 3, [], 10, 33, 0, 866, 0),
  (123, .iload 4, 2, [], 0, 0, 0, 0, 0),
  (125, .iaload, 1, [], 0, 0, 0, 0, 0),
  (126, .iastore, 1, [], 0, 0, 0, 0, 0),
  (127, .aload_n 0, 1, [], 0, 0, 0, 0, 0),
  (128, .dup, 1, [], 0, 0, 0, 0, 0),
  (129, .getfield 191, 3, [], 10, 36, 0, 869, 0),
  (132, .iconst 1, 1, [], 0, 0, 0, 0, 0),
  (133, .iadd, 1, [], 0, 0, 0, 0, 0),
  (134, .putfield 191, 3, [], 10, 36, 0, 869, 0),
  (137, .iinc 4 1, 3, [], 0, 0, 0, 0, 0),
  (140, .goto (-121), 3, [12], 0, 0, 0, 0, 0),
  (143, .aload_n 0, 1, [], 0, 0, 0, 0, 0),
  (144, .getfield 85, 3, [], 10, 13, 0, 846, 0),
  (147, .aload_n 0, 1, [], 0, 0, 0, 0, 0),
  (148, .getfield 172, 3, [], 10, 16, 0, 849, 0),
  (151, .iaload, 1, [], 0, 0, 0, 0, 0),
  (152, .bipush 30, 2, [], 0, 0, 0, 0, 0),
  (154, .if_icmp .eq 23, 3, [92], 0, 0, 0, 0, 0),
  (157, .aload_n 0, 1, [], 0, 0, 0, 0, 0),
  (158, .getfield 85, 3, [], 10, 13, 0, 846, 0),
  (161, .aload_n 0, 1, [], 0, 0, 0, 0, 0),
  (162, .getfield 172, 3, [], 10, 16, 0, 849, 0),
  (165, .iaload, 1, [], 0, 0, 0, 0, 0),
  (166, .iconst 3, 1, [], 0, 0, 0, 0, 0),
  (167, .if_icmp .ne 14, 3, [94], 0, 0, 0, 0, 0),
  (170, .aload_n 0, 1, [], 0, 0, 0, 0, 0),
  (171, .invokevirtual 201, 3, [10], 136, 0, 0, 1076, 0),
  (174, .ifCond .ne 7, 3, [94], 0, 0, 0, 0, 0),
  (177, .iconst 1, 1, [], 0, 0, 0, 0, 0),
  (178, .goto 4, 3, [95], 0, 0, 0, 0, 0),
  (181, .iconst 0, 1, [], 0, 0, 0, 0, 0),
  (182, .istore_n 3, 1, [], 0, 0, 0, 0, 0),
  (183, .iload_n 3, 1, [], 0, 0, 0, 0, 0),
  (184, .ifCond .eq (-182), 3, [2], 0, 0, 0, 0, 0),
  (187, .aload_n 0, 1, [], 0, 0, 0, 0, 0),
  (188, .getfield 85, 3, [], 10, 13, 0, 846, 0),
  (191, .aload_n 0, 1, [], 0, 0, 0, 0, 0),
  (192, .getfield 172, 3, [], 10, 16, 0, 849, 0),
  (195, .iaload, 1, [], 0, 0, 0, 0, 0),
  (196, .bipush 30, 2, [], 0, 0, 0, 0, 0),
  (198, .if_icmp .ne 7, 3, [107], 0, 0, 0, 0, 0),
  (201, .iconst 1, 1, [], 0, 0, 0, 0, 0),
  (202, .goto 4, 3, [108], 0, 0, 0, 0, 0),
  (205, .iconst 0, 1, [], 0, 0, 0, 0, 0),
  (206, .istore 4, 2, [], 0, 0, 0, 0, 0),
  (208, .aload_n 0, 1, [], 0, 0, 0, 0, 0),
  (209, .dup, 1, [], 0, 0, 0, 0, 0),
  (210, .getfield 172, 3, [], 10, 16, 0, 849, 0),
  (213, .iconst 1, 1, [], 0, 0, 0, 0, 0),
  (214, .iadd, 1, [], 0, 0, 0, 0, 0),
  (215, .putfield 172, 3, [], 10, 16, 0, 849, 0),
  (218, .iload 4, 2, [], 0, 0, 0, 0, 0),
  (220, .ifCond .eq 33, 3, [133], 0, 0, 0, 0, 0),
  (223, .aload_n 0, 1, [], 0, 0, 0, 0, 0),
  (224, .getfield 85, 3, [], 10, 13, 0, 846, 0),
  (227, .aload_n 0, 1, [], 0, 0, 0, 0, 0),
  (228, .getfield 172, 3, [], 10, 16, 0, 849, 0),
  (231, .iaload, 1, [], 0, 0, 0, 0, 0),
  (232, .iconst 3, 1, [], 0, 0, 0, 0, 0),
  (233, .if_icmp .ne 20, 3, [133], 0, 0, 0, 0, 0),
  (236, .aload_n 0, 1, [], 0, 0, 0, 0, 0),
  (237, .invokevirtual 201, 3, [10], 136, 0, 0, 1076, 0),
  (240, .ifCond .ne 13, 3, [133], 0, 0, 0, 0, 0),
  (243, .aload_n 0, 1, [], 0, 0, 0, 0, 0),
  (244, .dup, 1, [], 0, 0, 0, 0, 0),
  (245, .getfield 172, 3, [], 10, 16, 0, 849, 0),
  (248, .iconst 1, 1, [], 0, 0, 0, 0, 0),
  (249, .iadd, 1, [], 0, 0, 0, 0, 0),
  (250, .putfield 172, 3, [], 10, 16, 0, 849, 0),
  (253, .goto (-251), 3, [2], 0, 0, 0, 0, 0),
  (256, .iconst 1, 1, [], 0, 0, 0, 0, 0),
  (257, .ireturn, 1, [], 0, 0, 0, 0, 0)]
def mX10_items : xMe := (yX10_items, cX10_items, 7, some .boolean, RX10, 1, pX10_items)
set_option maxRecDepth 20000 in
def pX10_list : List xI := [(0, .aload_n 0, 1, [], 0, 0, 0, 0, 0),
  (1, .iconst 0, 1, [], 0, 0, 0, 0, 0),
  (2, .putfield 191, 3, [], 10, 36, 0, 869, 0),
  (5, .aload_n 0, 1, [], 0, 0, 0, 0, 0),
  (6, .iload_n 1, 1, [], 0, 0, 0, 0, 0),
  (7, .iconst 0, 1, [], 0, 0, 0, 0, 0),
  (8, .invokevirtual 204, 3, [10], 141, 2, 0, 1068, 0),
  (11, .ifCond .ne 5, 3, [10], 0, 0, 0, 0, 0),
  (14, .iconst 0, 1, [], 0, 0, 0, 0, 0),
  (15, .ireturn, 1, [], 0, 0, 0, 0, 0),
  (16, .aload_n 0, 1, [], 0, 0, 0, 0, 0),
  (17, .getfield 85, 3, [], 10, 13, 0, 846, 0),
  (20, .aload_n 0, 1, [], 0, 0, 0, 0, 0),
  (21, .getfield 172, 3, [], 10, 16, 0, 849, 0),
  (24, .iaload, 1, [], 0, 0, 0, 0, 0),
  (25, .bipush 20, 2, [], 0, 0, 0, 0, 0),
  (27, .if_icmp .ne 48, 3, [44], 0, 0, 0, 0, 0),
  (30, .aload_n 0, 1, [], 0, 0, 0, 0, 0),
  (31, .getfield 172, 3, [], 10, 16, 0, 849, 0),
  (34, .istore_n 2, 1, [], 0, 0, 0, 0, 0),
  (35, .aload_n 0, 1, [], 0, 0, 0, 0, 0),
  (36, .dup, 1, [], 0, 0, 0, 0, 0),
  (37, .getfield 172, 3, [], 10, 16, 0, 849, 0),
  (40, .iconst 1, 1, [], 0, 0, 0, 0, 0),
  (41, .iadd, 1, [], 0, 0, 0, 0, 0),
  (42, .putfield 172, 3, [], 10, 16, 0, 849, 0),
  (45, .aload_n 0, 1, [], 0, 0, 0, 0, 0),
  (46, .iload_n 1, 1, [], 0, 0, 0, 0, 0),
  (47, .iconst 1, 1, [], 0, 0, 0, 0, 0),
  (48, .invokevirtual 204, 3, [10], 141, 2, 0, 1068, 0),
  (51, .ifCond .ne 5, 3, [33], 0, 0, 0, 0, 0),
  (54, .iconst 0, 1, [], 0, 0, 0, 0, 0),
  (55, .ireturn, 1, [], 0, 0, 0, 0, 0),
  (56, .aload_n 0, 1, [], 0, 0, 0, 0, 0),
  (57, .getfield 191, 3, [], 10, 36, 0, 869, 0),
  (60, .ifCond .ne 15, 3, [44], 0, 0, 0, 0, 0),
  (63, .aload_n 0, 1, [], 0, 0, 0, 0, 0),
  (64, .iconst 4, 1, [], 0, 0, 0, 0, 0),
  (65, .aload_n 0, 1, [], 0, 0, 0, 0, 0),
  (66, .getfield 88, 3, [], 10, 14, 0, 847, 0),
  (69, .iload_n 2, 1, [], 0, 0, 0, 0, 0),
  (70, .iaload, 1, [], 0, 0, 0, 0, 0),
  (71, .invokevirtual 158, 3, [10], 133, 2, 0, 1012, 0),
  (74, .ireturn, 1, [], 0, 0, 0, 0, 0),
  (75, .iconst 1, 1, [], 0, 0, 0, 0, 0),
  (76, .ireturn, 1, [], 0, 0, 0, 0, 0)]
def mX10_list : xMe := (yX10_list, cX10_list, 3, some .boolean, RX10, 1, pX10_list)
set_option maxRecDepth 20000 in
def pX10_keeps : List xI := [(0, .aload_n 0, 1, [], 0, 0, 0, 0, 0),
  (1, .getfield 103, 3, [], 10, 23, 0, 856, 0),
  (4, .iconst 2, 1, [], 0, 0, 0, 0, 0),
  (5, .aload_n 0, 1, [], 0, 0, 0, 0, 0),
  (6, .getfield 208, 3, [], 10, 24, 0, 857, 0),
  (9, .imul, 1, [], 0, 0, 0, 0, 0),
  (10, .iload_n 1, 1, [], 0, 0, 0, 0, 0),
  (11, .iadd, 1, [], 0, 0, 0, 0, 0),
  (12, .aload_n 0, 1, [], 0, 0, 0, 0, 0),
  (13, .getfield 191, 3, [], 10, 36, 0, 869, 0),
  (16, .iastore, 1, [], 0, 0, 0, 0, 0),
  (17, .iconst 0, 1, [], 0, 0, 0, 0, 0),
  (18, .istore_n 2, 1, [], 0, 0, 0, 0, 0),
  (19, .iload_n 2, 1, [], 0, 0, 0, 0, 0),
  (20, .aload_n 0, 1, [], 0, 0, 0, 0, 0),
  (21, .getfield 191, 3, [], 10, 36, 0, 869, 0),
  (24, .if_icmp .ge 34, 3, [36], 0, 0, 0, 0, 0),
  (27, .aload_n 0, 1, [], 0, 0, 0, 0, 0),
  (28, .getfield 100, 3, [], 10, 22, 0, 855, 0),
  (31, .bipush 48, 2, [], 0, 0, 0, 0, 0),
  (33, .aload_n 0, 1, [], 0, 0, 0, 0, 0),
  (34, .getfield 208, 3, [], 10, 24, 0, 857, 0),
  (37, .imul, 1, [], 0, 0, 0, 0, 0),
  (38, .bipush 24, 2, [], 0, 0, 0, 0, 0),
  (40, .iload_n 1, 1, [], 0, 0, 0, 0, 0),
  (41, .imul, 1, [], 0, 0, 0, 0, 0),
  (42, .iadd, 1, [], 0, 0, 0, 0, 0),
  (43, .iload_n 2, 1, [], 0, 0, 0, 0, 0),
  (44, .iadd, 1, [], 0, 0, 0, 0, 0),
  (45, .aload_n 0, 1, [], 0, 0, 0, 0, 0),
  (46, .getfield 121, 3, [], 10, 35, 0, 868, 0),
  (49, .iload_n 2, 1, [], 0, 0, 0, 0, 0),
  (50, .iaload, 1, [], 0, 0, 0, 0, 0),
  (51, .iastore, 1, [], 0, 0, 0, 0, 0),
  (52, .iinc 2 1, 3, [], 0, 0, 0, 0, 0),
  (55, .goto (-36), 3, [13], 0, 0, 0, 0, 0),
  (58, .return_, 1, [], 0, 0, 0, 0, 0)]
def mX10_keeps : xMe := (yX10_keeps, cX10_keeps, 3, none, RX10, 1, pX10_keeps)
set_option maxRecDepth 20000 in
def pX10_sets : List xI := [(0, .aload_n 0, 1, [], 0, 0, 0, 0, 0),
  (1, .getfield 103, 3, [], 10, 23, 0, 856, 0),
  (4, .iconst 2, 1, [], 0, 0, 0, 0, 0),
  (5, .aload_n 0, 1, [], 0, 0, 0, 0, 0),
  (6, .getfield 208, 3, [], 10, 24, 0, 857, 0),
  (9, .imul, 1, [], 0, 0, 0, 0, 0),
  (10, .iload_n 1, 1, [], 0, 0, 0, 0, 0),
  (11, .iadd, 1, [], 0, 0, 0, 0, 0),
  (12, .iaload, 1, [], 0, 0, 0, 0, 0),
  (13, .istore_n 2, 1, [], 0, 0, 0, 0, 0),
  (14, .bipush 48, 2, [], 0, 0, 0, 0, 0),
  (16, .aload_n 0, 1, [], 0, 0, 0, 0, 0),
  (17, .getfield 208, 3, [], 10, 24, 0, 857, 0),
  (20, .imul, 1, [], 0, 0, 0, 0, 0),
  (21, .bipush 24, 2, [], 0, 0, 0, 0, 0),
  (23, .iload_n 1, 1, [], 0, 0, 0, 0, 0),
  (24, .imul, 1, [], 0, 0, 0, 0, 0),
  (25, .iadd, 1, [], 0, 0, 0, 0, 0),
  (26, .istore_n 3, 1, [], 0, 0, 0, 0, 0),
  (27, .iload_n 2, 1, [], 0, 0, 0, 0, 0),
  (28, .ifCond .eq 17, 3, [29], 0, 0, 0, 0, 0),
  (31, .iload_n 2, 1, [], 0, 0, 0, 0, 0),
  (32, .iconst 1, 1, [], 0, 0, 0, 0, 0),
  (33, .if_icmp .ne 13, 3, [30], 0, 0, 0, 0, 0),
  (36, .aload_n 0, 1, [], 0, 0, 0, 0, 0),
  (37, .getfield 100, 3, [], 10, 22, 0, 855, 0),
  (40, .iload_n 3, 1, [], 0, 0, 0, 0, 0),
  (41, .iaload, 1, [], 0, 0, 0, 0, 0),
  (42, .ifCond .ne 4, 3, [30], 0, 0, 0, 0, 0),
  (45, .return_, 1, [], 0, 0, 0, 0, 0),
  (46, .iload_n 2, 1, [], 0, 0, 0, 0, 0),
  (47, .iconst 1, 1, [], 0, 0, 0, 0, 0),
  (48, .if_icmp .ne 17, 3, [41], 0, 0, 0, 0, 0),
  (51, .aload_n 0, 1, [], 0, 0, 0, 0, 0),
  (52, .getfield 55, 3, [], 10, 2, 0, 835, 0),
  (55, .aload_n 0, 1, [], 0, 0, 0, 0, 0),
  (56, .getfield 100, 3, [], 10, 22, 0, 855, 0),
  (59, .iload_n 3, 1, [], 0, 0, 0, 0, 0),
  (60, .iaload, 1, [], 0, 0, 0, 0, 0),
  (61, .iaload, 1, [], 0, 0, 0, 0, 0),
  (62, .goto 4, 3, [42], 0, 0, 0, 0, 0),
  (65, .iconst 3, 1, [], 0, 0, 0, 0, 0),
  (66, .istore 4, 2, [], 0, 0, 0, 0, 0),
  (68, .aload_n 0, 1, [], 0, 0, 0, 0, 0),
  (69, .getfield 115, 3, [], 10, 32, 0, 865, 0),
  (72, .iload 4, 2, [], 0, 0, 0, 0, 0),
  (74, .iload_n 2, 1, [], 0, 0, 0, 0, 0),
  (75, .iastore, 1, [], 0, 0, 0, 0, 0),
  (76, .iconst 0, 1, [], 0, 0, 0, 0, 0),
  (77, .istore 5, 2, [], 0, 0, 0, 0, 0),
  (79, .iload 5, 2, [], 0, 0, 0, 0, 0),
  (81, .iload_n 2, 1, [], 0, 0, 0, 0, 0),
  (82, .if_icmp .ge 31, 3, [69], 0, 0, 0, 0, 0),
  (85, .aload_n 0, 1, [], 0, 0, 0, 0, 0),
  (86, .getfield 112, 3, [], 10, 31, 0, 864, 0),
  (89, .bipush 24, 2, [], 0, 0, 0, 0, 0),
  (91, .iload 4, 2, [], 0, 0, 0, 0, 0),
  (93, .imul, 1, [], 0, 0, 0, 0, 0),
  (94, .iload 5, 2, [], 0, 0, 0, 0, 0),
  (96, .iadd, 1, [], 0, 0, 0, 0, 0),
  (97, .aload_n 0, 1, [], 0, 0, 0, 0, 0),
  (98, .getfield 100, 3, [], 10, 22, 0, 855, 0),
  (101, .iload_n 3, 1, [], 0, 0, 0, 0, 0),
  (102, .iload 5, 2, [], 0, 0, 0, 0, 0),
  (104, .iadd, 1, [], 0, 0, 0, 0, 0),
  (105, .iaload, 1, [], 0, 0, 0, 0, 0),
  (106, .iastore, 1, [], 0, 0, 0, 0, 0),
  (107, .iinc 5 1, 3, [], 0, 0, 0, 0, 0),
  (110, .goto (-31), 3, [50], 0, 0, 0, 0, 0),
  (113, .return_, 1, [], 0, 0, 0, 0, 0)]
def mX10_sets : xMe := (yX10_sets, cX10_sets, 6, none, RX10, 1, pX10_sets)
set_option maxRecDepth 20000 in
def pX10_understood : List xI := [(0, .aload_n 0, 1, [], 0, 0, 0, 0, 0),
  (1, .aload_n 0, 1, [], 0, 0, 0, 0, 0),
  (2, .getfield 91, 3, [], 10, 19, 0, 852, 0),
  (5, .aload_n 0, 1, [], 0, 0, 0, 0, 0),
  (6, .getfield 208, 3, [], 10, 24, 0, 857, 0),
  (9, .iaload, 1, [], 0, 0, 0, 0, 0),
  (10, .putfield 211, 3, [], 10, 26, 0, 859, 0),
  (13, .aload_n 0, 1, [], 0, 0, 0, 0, 0),
  (14, .aload_n 0, 1, [], 0, 0, 0, 0, 0),
  (15, .getfield 94, 3, [], 10, 20, 0, 853, 0),
  (18, .aload_n 0, 1, [], 0, 0, 0, 0, 0),
  (19, .getfield 208, 3, [], 10, 24, 0, 857, 0),
  (22, .iaload, 1, [], 0, 0, 0, 0, 0),
  (23, .putfield 214, 3, [], 10, 27, 0, 860, 0),
  (26, .aload_n 0, 1, [], 0, 0, 0, 0, 0),
  (27, .aload_n 0, 1, [], 0, 0, 0, 0, 0),
  (28, .getfield 97, 3, [], 10, 21, 0, 854, 0),
  (31, .aload_n 0, 1, [], 0, 0, 0, 0, 0),
  (32, .getfield 208, 3, [], 10, 24, 0, 857, 0),
  (35, .iaload, 1, [], 0, 0, 0, 0, 0),
  (36, .putfield 217, 3, [], 10, 28, 0, 861, 0),
  (39, .iconst 0, 1, [], 0, 0, 0, 0, 0),
  (40, .istore_n 1, 1, [], 0, 0, 0, 0, 0),
  (41, .iload_n 1, 1, [], 0, 0, 0, 0, 0),
  (42, .iconst 2, 1, [], 0, 0, 0, 0, 0),
  (43, .if_icmp .ge 76, 3, [72], 0, 0, 0, 0, 0),
  (46, .aload_n 0, 1, [], 0, 0, 0, 0, 0),
  (47, .getfield 109, 3, [], 10, 30, 0, 863, 0),
  (50, .iload_n 1, 1, [], 0, 0, 0, 0, 0),
  (51, .aload_n 0, 1, [], 0, 0, 0, 0, 0),
  (52, .getfield 103, 3, [], 10, 23, 0, 856, 0),
  (55, .iconst 2, 1, [], 0, 0, 0, 0, 0),
  (56, .aload_n 0, 1, [], 0, 0, 0, 0, 0),
  (57, .getfield 208, 3, [], 10, 24, 0, 857, 0),
  (60, .imul, 1, [], 0, 0, 0, 0, 0),
  (61, .iload_n 1, 1, [], 0, 0, 0, 0, 0),
  (62, .iadd, 1, [], 0, 0, 0, 0, 0),
  (63, .iaload, 1, [], 0, 0, 0, 0, 0),
  (64, .iastore, 1, [], 0, 0, 0, 0, 0),
  (65, .iconst 0, 1, [], 0, 0, 0, 0, 0),
  (66, .istore_n 2, 1, [], 0, 0, 0, 0, 0),
  (67, .iload_n 2, 1, [], 0, 0, 0, 0, 0),
  (68, .aload_n 0, 1, [], 0, 0, 0, 0, 0),
  (69, .getfield 109, 3, [], 10, 30, 0, 863, 0),
  (72, .iload_n 1, 1, [], 0, 0, 0, 0, 0),
  (73, .iaload, 1, [], 0, 0, 0, 0, 0),
  (74, .if_icmp .ge 39, 3, [70], 0, 0, 0, 0, 0),
  (77, .aload_n 0, 1, [], 0, 0, 0, 0, 0),
  (78, .getfield 106, 3, [], 10, 29, 0, 862, 0),
  (81, .bipush 24, 2, [], 0, 0, 0, 0, 0),
  (83, .iload_n 1, 1, [], 0, 0, 0, 0, 0),
  (84, .imul, 1, [], 0, 0, 0, 0, 0),
  (85, .iload_n 2, 1, [], 0, 0, 0, 0, 0),
  (86, .iadd, 1, [], 0, 0, 0, 0, 0),
  (87, .aload_n 0, 1, [], 0, 0, 0, 0, 0),
  (88, .getfield 100, 3, [], 10, 22, 0, 855, 0),
  (91, .bipush 48, 2, [], 0, 0, 0, 0, 0),
  (93, .aload_n 0, 1, [], 0, 0, 0, 0, 0),
  (94, .getfield 208, 3, [], 10, 24, 0, 857, 0),
  (97, .imul, 1, [], 0, 0, 0, 0, 0),
  (98, .bipush 24, 2, [], 0, 0, 0, 0, 0),
  (100, .iload_n 1, 1, [], 0, 0, 0, 0, 0),
  (101, .imul, 1, [], 0, 0, 0, 0, 0),
  (102, .iadd, 1, [], 0, 0, 0, 0, 0),
  (103, .iload_n 2, 1, [], 0, 0, 0, 0, 0),
  (104, .iadd, 1, [], 0, 0, 0, 0, 0),
  (105, .iaload, 1, [], 0, 0, 0, 0, 0),
  (106, .iastore, 1, [], 0, 0, 0, 0, 0),
  (107, .iinc 2 1, 3, [], 0, 0, 0, 0, 0),
  (110, .goto (-43), 3, [41], 0, 0, 0, 0, 0),
  (113, .iinc 1 1, 3, [], 0, 0, 0, 0, 0),
  (116, .goto (-75), 3, [23], 0, 0, 0, 0, 0),
  (119, .aload_n 0, 1, [], 0, 0, 0, 0, 0),
  (120, .dup, 1, [], 0, 0, 0, 0, 0),
  (121, .getfield 208, 3, [], 10, 24, 0, 857, 0),
  (124, .iconst 1, 1, [], 0, 0, 0, 0, 0),
  (125, .iadd, 1, [], 0, 0, 0, 0, 0),
  (126, .putfield 208, 3, [], 10, 24, 0, 857, 0),
  (129, .aload_n 0, 1, [], 0, 0, 0, 0, 0),
  (130, .dup, 1, [], 0, 0, 0, 0, 0),
  (131, .getfield 220, 3, [], 10, 25, 0, 858, 0),
  (134, .iconst 1, 1, [], 0, 0, 0, 0, 0),
  (135, .iadd, 1, [], 0, 0, 0, 0, 0),
  (136, .putfield 220, 3, [], 10, 25, 0, 858, 0),
  (139, .return_, 1, [], 0, 0, 0, 0, 0)]
def mX10_understood : xMe := (yX10_understood, cX10_understood, 3, none, RX10, 1, pX10_understood)
set_option maxRecDepth 20000 in
def pX10_command : List xI := [(0, .aload_n 0, 1, [], 0, 0, 0, 0, 0),
  (1, .aload_n 0, 1, [], 0, 0, 0, 0, 0),
  (2, .getfield 85, 3, [], 10, 13, 0, 846, 0),
  (5, .aload_n 0, 1, [], 0, 0, 0, 0, 0),
  (6, .getfield 172, 3, [], 10, 16, 0, 849, 0),
  (9, .iaload, 1, [], 0, 0, 0, 0, 0),
  (10, .iconst 1, 1, [], 0, 0, 0, 0, 0),
  (11, .invokevirtual 175, 3, [10], 135, 2, 0, 1044, 0),
  (14, .ifCond .ne 8, 3, [12], 0, 0, 0, 0, 0),
  (17, .aload_n 0, 1, [], 0, 0, 0, 0, 0),
  (18, .invokevirtual 187, 3, [10], 134, 0, 0, 1032, 0),
  (21, .ireturn, 1, [], 0, 0, 0, 0, 0),
  (22, .aload_n 0, 1, [], 0, 0, 0, 0, 0),
  (23, .getfield 208, 3, [], 10, 24, 0, 857, 0),
  (26, .bipush 10, 2, [], 0, 0, 0, 0, 0),
  (28, .if_icmp .ne 19, 3, [25], 0, 0, 0, 0, 0),
  (31, .aload_n 0, 1, [], 0, 0, 0, 0, 0),
  (32, .bipush 9, 2, [], 0, 0, 0, 0, 0),
  (34, .aload_n 0, 1, [], 0, 0, 0, 0, 0),
  (35, .getfield 88, 3, [], 10, 14, 0, 847, 0),
  (38, .aload_n 0, 1, [], 0, 0, 0, 0, 0),
  (39, .getfield 172, 3, [], 10, 16, 0, 849, 0),
  (42, .iaload, 1, [], 0, 0, 0, 0, 0),
  (43, .invokevirtual 158, 3, [10], 133, 2, 0, 1012, 0),
  (46, .ireturn, 1, [], 0, 0, 0, 0, 0),
  (47, .aload_n 0, 1, [], 0, 0, 0, 0, 0),
  (48, .getfield 85, 3, [], 10, 13, 0, 846, 0),
  (51, .aload_n 0, 1, [], 0, 0, 0, 0, 0),
  (52, .getfield 172, 3, [], 10, 16, 0, 849, 0),
  (55, .iaload, 1, [], 0, 0, 0, 0, 0),
  (56, .bipush 100, 2, [], 0, 0, 0, 0, 0),
  (58, .isub, 1, [], 0, 0, 0, 0, 0),
  (59, .istore_n 3, 1, [], 0, 0, 0, 0, 0),
  (60, .aload_n 0, 1, [], 0, 0, 0, 0, 0),
  (61, .getfield 72, 3, [], 10, 8, 0, 841, 0),
  (64, .iload_n 3, 1, [], 0, 0, 0, 0, 0),
  (65, .iaload, 1, [], 0, 0, 0, 0, 0),
  (66, .istore 4, 2, [], 0, 0, 0, 0, 0),
  (68, .aload_n 0, 1, [], 0, 0, 0, 0, 0),
  (69, .dup, 1, [], 0, 0, 0, 0, 0),
  (70, .getfield 172, 3, [], 10, 16, 0, 849, 0),
  (73, .iconst 1, 1, [], 0, 0, 0, 0, 0),
  (74, .iadd, 1, [], 0, 0, 0, 0, 0),
  (75, .putfield 172, 3, [], 10, 16, 0, 849, 0),
  (78, .aload_n 0, 1, [], 0, 0, 0, 0, 0),
  (79, .getfield 91, 3, [], 10, 19, 0, 852, 0),
  (82, .aload_n 0, 1, [], 0, 0, 0, 0, 0),
  (83, .getfield 208, 3, [], 10, 24, 0, 857, 0),
  (86, .iload_n 1, 1, [], 0, 0, 0, 0, 0),
  (87, .iastore, 1, [], 0, 0, 0, 0, 0),
  (88, .aload_n 0, 1, [], 0, 0, 0, 0, 0),
  (89, .getfield 94, 3, [], 10, 20, 0, 853, 0),
  (92, .aload_n 0, 1, [], 0, 0, 0, 0, 0),
  (93, .getfield 208, 3, [], 10, 24, 0, 857, 0),
  (96, .iload_n 3, 1, [], 0, 0, 0, 0, 0),
  (97, .iastore, 1, [], 0, 0, 0, 0, 0),
  (98, .aload_n 0, 1, [], 0, 0, 0, 0, 0),
  (99, .getfield 97, 3, [], 10, 21, 0, 854, 0),
  (102, .aload_n 0, 1, [], 0, 0, 0, 0, 0),
  (103, .getfield 208, 3, [], 10, 24, 0, 857, 0),
  (106, .bipush (-4), 2, [], 0, 0, 0, 0, 0),
  (108, .iastore, 1, [], 0, 0, 0, 0, 0),
  (109, .aload_n 0, 1, [], 0, 0, 0, 0, 0),
  (110, .getfield 103, 3, [], 10, 23, 0, 856, 0),
  (113, .iconst 2, 1, [], 0, 0, 0, 0, 0),
  (114, .aload_n 0, 1, [], 0, 0, 0, 0, 0),
  (115, .getfield 208, 3, [], 10, 24, 0, 857, 0),
  (118, .imul, 1, [], 0, 0, 0, 0, 0),
  (119, .iconst 0, 1, [], 0, 0, 0, 0, 0),
  (120, .iastore, 1, [], 0, 0, 0, 0, 0),
  (121, .aload_n 0, 1, [], 0, 0, 0, 0, 0),
  (122, .getfield 103, 3, [], 10, 23, 0, 856, 0),
  (125, .iconst 2, 1, [], 0, 0, 0, 0, 0),
  (126, .aload_n 0, 1, [], 0, 0, 0, 0, 0),
  (127, .getfield 208, 3, [], 10, 24, 0, 857, 0),
  (130, .imul, 1, [], 0, 0, 0, 0, 0),
  (131, .iconst 1, 1, [], 0, 0, 0, 0, 0),
  (132, .iadd, 1, [], 0, 0, 0, 0, 0),
  (133, .iconst 0, 1, [], 0, 0, 0, 0, 0),
  (134, .iastore, 1, [], 0, 0, 0, 0, 0),
  (135, .iload 4, 2, [], 0, 0, 0, 0, 0),
  (137, .ifCond .le 107, 3, [140], 0, 0, 0, 0, 0),
  (140, .aload_n 0, 1, [], 0, 0, 0, 0, 0),
  (141, .iload_n 1, 1, [], 0, 0, 0, 0, 0),
  (142, .invokevirtual 223, 3, [10], 142, 1, 0, 1064, 0),
  (145, .ifCond .ne 5, 3, [88], 0, 0, 0, 0, 0),
  (148, .iconst 0, 1, [], 0, 0, 0, 0, 0),
  (149, .ireturn, 1, [], 0, 0, 0, 0, 0),
  (150, .aload_n 0, 1, [], 0, 0, 0, 0, 0),
  (151, .iconst 0, 1, [], 0, 0, 0, 0, 0),
  (152, .invokevirtual 225, 3, [10], 143, 1, 0, 1080, 0),
  (155, .aload_n 0, 1, [], 0, 0, 0, 0, 0),
  (156, .aload_n 0, 1, [], 0, 0, 0, 0, 0),
  (157, .getfield 85, 3, [], 10, 13, 0, 846, 0),
  (160, .aload_n 0, 1, [], 0, 0, 0, 0, 0),
  (161, .getfield 172, 3, [], 10, 16, 0, 849, 0),
  (164, .iaload, 1, [], 0, 0, 0, 0, 0),
  (165, .iconst 2, 1, [], 0, 0, 0, 0, 0),
  (166, .invokevirtual 175, 3, [10], 135, 2, 0, 1044, 0),
  (169, .istore 5, 2, [], 0, 0, 0, 0, 0),
  (171, .iload 4, 2, [], 0, 0, 0, 0, 0),
  (173, .iconst 2, 1, [], 0, 0, 0, 0, 0),
  (174, .if_icmp .ne 13, 3, [108], 0, 0, 0, 0, 0),
  (177, .iload 5, 2, [], 0, 0, 0, 0, 0),
  (179, .ifCond .ne 8, 3, [108], 0, 0, 0, 0, 0),
  (182, .aload_n 0, 1, [], 0, 0, 0, 0, 0),
  (183, .invokevirtual 187, 3, [10], 134, 0, 0, 1032, 0),
  (186, .ireturn, 1, [], 0, 0, 0, 0, 0),
  (187, .iload 4, 2, [], 0, 0, 0, 0, 0),
  (189, .iconst 1, 1, [], 0, 0, 0, 0, 0),
  (190, .if_icmp .le 54, 3, [140], 0, 0, 0, 0, 0),
  (193, .iload 5, 2, [], 0, 0, 0, 0, 0),
  (195, .ifCond .eq 49, 3, [140], 0, 0, 0, 0, 0),
  (198, .aload_n 0, 1, [], 0, 0, 0, 0, 0),
  (199, .getfield 97, 3, [], 10, 21, 0, 854, 0),
  (202, .aload_n 0, 1, [], 0, 0, 0, 0, 0),
  (203, .getfield 208, 3, [], 10, 24, 0, 857, 0),
  (206, .aload_n 0, 1, [], 0, 0, 0, 0, 0),
  (207, .getfield 85, 3, [], 10, 13, 0, 846, 0),
  (210, .aload_n 0, 1, [], 0, 0, 0, 0, 0),
  (211, .getfield 172, 3, [], 10, 16, 0, 849, 0),
  (214, .iaload, 1, [], 0, 0, 0, 0, 0),
  (215, .bipush 100, 2, [], 0, 0, 0, 0, 0),
  (217, .isub, 1, [], 0, 0, 0, 0, 0),
  (218, .iastore, 1, [], 0, 0, 0, 0, 0),
  (219, .aload_n 0, 1, [], 0, 0, 0, 0, 0),
  (220, .dup, 1, [], 0, 0, 0, 0, 0),
  (221, .getfield 172, 3, [], 10, 16, 0, 849, 0),
  (224, .iconst 1, 1, [], 0, 0, 0, 0, 0),
  (225, .iadd, 1, [], 0, 0, 0, 0, 0),
  (226, .putfield 172, 3, [], 10, 16, 0, 849, 0),
  (229, .aload_n 0, 1, [], 0, 0, 0, 0, 0),
  (230, .iload_n 1, 1, [], 0, 0, 0, 0, 0),
  (231, .invokevirtual 223, 3, [10], 142, 1, 0, 1064, 0),
  (234, .ifCond .ne 5, 3, [137], 0, 0, 0, 0, 0),
  (237, .iconst 0, 1, [], 0, 0, 0, 0, 0),
  (238, .ireturn, 1, [], 0, 0, 0, 0, 0),
  (239, .aload_n 0, 1, [], 0, 0, 0, 0, 0),
  (240, .iconst 1, 1, [], 0, 0, 0, 0, 0),
  (241, .invokevirtual 225, 3, [10], 143, 1, 0, 1080, 0),
  (244, .aload_n 0, 1, [], 0, 0, 0, 0, 0),
  (245, .getfield 85, 3, [], 10, 13, 0, 846, 0),
  (248, .aload_n 0, 1, [], 0, 0, 0, 0, 0),
  (249, .getfield 172, 3, [], 10, 16, 0, 849, 0),
  (252, .iaload, 1, [], 0, 0, 0, 0, 0),
  (253, .iconst 3, 1, [], 0, 0, 0, 0, 0),
  (254, .if_icmp .ne 10, 3, [150], 0, 0, 0, 0, 0),
  (257, .aload_n 0, 1, [], 0, 0, 0, 0, 0),
  (258, .invokevirtual 201, 3, [10], 136, 0, 0, 1076, 0),
  (261, .ifCond .ne 29, 3, [163], 0, 0, 0, 0, 0),
  (264, .aload_n 0, 1, [], 0, 0, 0, 0, 0),
  (265, .invokevirtual 229, 3, [10], 151, 0, 0, 1020, 0),
  (268, .ifCond .ne 22, 3, [163], 0, 0, 0, 0, 0),
  (271, .aload_n 0, 1, [], 0, 0, 0, 0, 0),
  (272, .getfield 85, 3, [], 10, 13, 0, 846, 0),
  (275, .aload_n 0, 1, [], 0, 0, 0, 0, 0),
  (276, .getfield 172, 3, [], 10, 16, 0, 849, 0),
  (279, .iaload, 1, [], 0, 0, 0, 0, 0),
  (280, .bipush 33, 2, [], 0, 0, 0, 0, 0),
  (282, .if_icmp .eq 8, 3, [163], 0, 0, 0, 0, 0),
  (285, .aload_n 0, 1, [], 0, 0, 0, 0, 0),
  (286, .invokevirtual 187, 3, [10], 134, 0, 0, 1032, 0),
  (289, .ireturn, 1, [], 0, 0, 0, 0, 0),
  (290, .iload_n 1, 1, [], 0, 0, 0, 0, 0),
  (291, .ifCond .eq 34, 3, [185], 0, 0, 0, 0, 0),
  (294, .iload_n 2, 1, [], 0, 0, 0, 0, 0),
  (295, .ifCond .eq 30, 3, [185], 0, 0, 0, 0, 0),
  (298, .aload_n 0, 1, [], 0, 0, 0, 0, 0),
  (299, .getfield 115, 3, [], 10, 32, 0, 865, 0),
  (302, .aload_n 0, 1, [], 0, 0, 0, 0, 0),
  (303, .getfield 55, 3, [], 10, 2, 0, 835, 0),
  (306, .iload_n 1, 1, [], 0, 0, 0, 0, 0),
  (307, .iaload, 1, [], 0, 0, 0, 0, 0),
  (308, .iconst 1, 1, [], 0, 0, 0, 0, 0),
  (309, .iastore, 1, [], 0, 0, 0, 0, 0),
  (310, .aload_n 0, 1, [], 0, 0, 0, 0, 0),
  (311, .getfield 112, 3, [], 10, 31, 0, 864, 0),
  (314, .bipush 24, 2, [], 0, 0, 0, 0, 0),
  (316, .aload_n 0, 1, [], 0, 0, 0, 0, 0),
  (317, .getfield 55, 3, [], 10, 2, 0, 835, 0),
  (320, .iload_n 1, 1, [], 0, 0, 0, 0, 0),
  (321, .iaload, 1, [], 0, 0, 0, 0, 0),
  (322, .imul, 1, [], 0, 0, 0, 0, 0),
  (323, .iload_n 1, 1, [], 0, 0, 0, 0, 0),
  (324, .iastore, 1, [], 0, 0, 0, 0, 0),
  (325, .aload_n 0, 1, [], 0, 0, 0, 0, 0),
  (326, .iconst 0, 1, [], 0, 0, 0, 0, 0),
  (327, .invokevirtual 232, 3, [10], 144, 1, 0, 1084, 0),
  (330, .aload_n 0, 1, [], 0, 0, 0, 0, 0),
  (331, .iconst 1, 1, [], 0, 0, 0, 0, 0),
  (332, .invokevirtual 232, 3, [10], 144, 1, 0, 1084, 0),
  (335, .aload_n 0, 1, [], 0, 0, 0, 0, 0),
  (336, .invokevirtual 235, 3, [10], 145, 0, 0, 1088, 0),
  (339, .iconst 1, 1, [], 0, 0, 0, 0, 0),
  (340, .ireturn, 1, [], 0, 0, 0, 0, 0)]
def mX10_command : xMe := (yX10_command, cX10_command, 6, some .boolean, RX10, 1, pX10_command)
set_option maxRecDepth 20000 in
def pX10_commands : List xI := [(0, .aload_n 0, 1, [], 0, 0, 0, 0, 0),
  (1, .iload_n 1, 1, [], 0, 0, 0, 0, 0),
  (2, .iconst 1, 1, [], 0, 0, 0, 0, 0),
  (3, .invokevirtual 238, 3, [10], 146, 2, 0, 1060, 0),
  (6, .istore_n 2, 1, [], 0, 0, 0, 0, 0),
  (7, .iload_n 2, 1, [], 0, 0, 0, 0, 0),
  (8, .ifCond .eq 43, 3, [29], 0, 0, 0, 0, 0),
  (11, .aload_n 0, 1, [], 0, 0, 0, 0, 0),
  (12, .getfield 85, 3, [], 10, 13, 0, 846, 0),
  (15, .aload_n 0, 1, [], 0, 0, 0, 0, 0),
  (16, .getfield 172, 3, [], 10, 16, 0, 849, 0),
  (19, .iaload, 1, [], 0, 0, 0, 0, 0),
  (20, .iconst 3, 1, [], 0, 0, 0, 0, 0),
  (21, .if_icmp .ne 30, 3, [29], 0, 0, 0, 0, 0),
  (24, .aload_n 0, 1, [], 0, 0, 0, 0, 0),
  (25, .invokevirtual 201, 3, [10], 136, 0, 0, 1076, 0),
  (28, .ifCond .eq 23, 3, [29], 0, 0, 0, 0, 0),
  (31, .aload_n 0, 1, [], 0, 0, 0, 0, 0),
  (32, .dup, 1, [], 0, 0, 0, 0, 0),
  (33, .getfield 172, 3, [], 10, 16, 0, 849, 0),
  (36, .iconst 1, 1, [], 0, 0, 0, 0, 0),
  (37, .iadd, 1, [], 0, 0, 0, 0, 0),
  (38, .putfield 172, 3, [], 10, 16, 0, 849, 0),
  (41, .aload_n 0, 1, [], 0, 0, 0, 0, 0),
  (42, .iload_n 1, 1, [], 0, 0, 0, 0, 0),
  (43, .iconst 0, 1, [], 0, 0, 0, 0, 0),
  (44, .invokevirtual 238, 3, [10], 146, 2, 0, 1060, 0),
  (47, .istore_n 2, 1, [], 0, 0, 0, 0, 0),
  (48, .goto (-41), 3, [5], 0, 0, 0, 0, 0),
  (51, .iload_n 2, 1, [], 0, 0, 0, 0, 0),
  (52, .ireturn, 1, [], 0, 0, 0, 0, 0)]
def mX10_commands : xMe := (yX10_commands, cX10_commands, 3, some .boolean, RX10, 1, pX10_commands)
set_option maxRecDepth 20000 in
def pX10_again : List xI := [(0, .aload_n 0, 1, [], 0, 0, 0, 0, 0),
  (1, .getfield 220, 3, [], 10, 25, 0, 858, 0),
  (4, .ifCond .ne 19, 3, [12], 0, 0, 0, 0, 0),
  (7, .aload_n 0, 1, [], 0, 0, 0, 0, 0),
  (8, .bipush 6, 2, [], 0, 0, 0, 0, 0),
  (10, .aload_n 0, 1, [], 0, 0, 0, 0, 0),
  (11, .getfield 88, 3, [], 10, 14, 0, 847, 0),
  (14, .aload_n 0, 1, [], 0, 0, 0, 0, 0),
  (15, .getfield 172, 3, [], 10, 16, 0, 849, 0),
  (18, .iaload, 1, [], 0, 0, 0, 0, 0),
  (19, .invokevirtual 158, 3, [10], 133, 2, 0, 1012, 0),
  (22, .ireturn, 1, [], 0, 0, 0, 0, 0),
  (23, .aload_n 0, 1, [], 0, 0, 0, 0, 0),
  (24, .getfield 59, 3, [], 10, 3, 0, 836, 0),
  (27, .aload_n 0, 1, [], 0, 0, 0, 0, 0),
  (28, .getfield 211, 3, [], 10, 26, 0, 859, 0),
  (31, .baload, 1, [], 0, 0, 0, 0, 0),
  (32, .istore_n 1, 1, [], 0, 0, 0, 0, 0),
  (33, .iconst 0, 1, [], 0, 0, 0, 0, 0),
  (34, .istore_n 2, 1, [], 0, 0, 0, 0, 0),
  (35, .iload_n 2, 1, [], 0, 0, 0, 0, 0),
  (36, .iconst 2, 1, [], 0, 0, 0, 0, 0),
  (37, .if_icmp .ge 46, 3, [49], 0, 0, 0, 0, 0),
  (40, .iconst 0, 1, [], 0, 0, 0, 0, 0),
  (41, .istore_n 3, 1, [], 0, 0, 0, 0, 0),
  (42, .iload_n 3, 1, [], 0, 0, 0, 0, 0),
  (43, .aload_n 0, 1, [], 0, 0, 0, 0, 0),
  (44, .getfield 109, 3, [], 10, 30, 0, 863, 0),
  (47, .iload_n 2, 1, [], 0, 0, 0, 0, 0),
  (48, .iaload, 1, [], 0, 0, 0, 0, 0),
  (49, .if_icmp .ge 28, 3, [47], 0, 0, 0, 0, 0),
  (52, .iload_n 1, 1, [], 0, 0, 0, 0, 0),
  (53, .aload_n 0, 1, [], 0, 0, 0, 0, 0),
  (54, .getfield 59, 3, [], 10, 3, 0, 836, 0),
  (57, .aload_n 0, 1, [], 0, 0, 0, 0, 0),
  (58, .getfield 106, 3, [], 10, 29, 0, 862, 0),
  (61, .bipush 24, 2, [], 0, 0, 0, 0, 0),
  (63, .iload_n 2, 1, [], 0, 0, 0, 0, 0),
  (64, .imul, 1, [], 0, 0, 0, 0, 0),
  (65, .iload_n 3, 1, [], 0, 0, 0, 0, 0),
  (66, .iadd, 1, [], 0, 0, 0, 0, 0),
  (67, .iaload, 1, [], 0, 0, 0, 0, 0),
  (68, .baload, 1, [], 0, 0, 0, 0, 0),
  (69, .iand, 1, [], 0, 0, 0, 0, 0),
  (70, .istore_n 1, 1, [], 0, 0, 0, 0, 0),
  (71, .iinc 3 1, 3, [], 0, 0, 0, 0, 0),
  (74, .goto (-32), 3, [25], 0, 0, 0, 0, 0),
  (77, .iinc 2 1, 3, [], 0, 0, 0, 0, 0),
  (80, .goto (-45), 3, [20], 0, 0, 0, 0, 0),
  (83, .iload_n 1, 1, [], 0, 0, 0, 0, 0),
  (84, .ifCond .ne 19, 3, [60], 0, 0, 0, 0, 0),
  (87, .aload_n 0, 1, [], 0, 0, 0, 0, 0),
  (88, .bipush 7, 2, [], 0, 0, 0, 0, 0),
  (90, .aload_n 0, 1, [], 0, 0, 0, 0, 0),
  (91, .getfield 88, 3, [], 10, 14, 0, 847, 0),
  (94, .aload_n 0, 1, [], 0, 0, 0, 0, 0),
  (95, .getfield 172, 3, [], 10, 16, 0, 849, 0),
  (98, .iaload, 1, [], 0, 0, 0, 0, 0),
  (99, .invokevirtual 158, 3, [10], 133, 2, 0, 1012, 0),
  (102, .ireturn, 1, [], 0, 0, 0, 0, 0),
  (103, .aload_n 0, 1, [], 0, 0, 0, 0, 0),
  (104, .getfield 208, 3, [], 10, 24, 0, 857, 0),
  (107, .bipush 10, 2, [], 0, 0, 0, 0, 0),
  (109, .if_icmp .ne 19, 3, [73], 0, 0, 0, 0, 0),
  (112, .aload_n 0, 1, [], 0, 0, 0, 0, 0),
  (113, .bipush 9, 2, [], 0, 0, 0, 0, 0),
  (115, .aload_n 0, 1, [], 0, 0, 0, 0, 0),
  (116, .getfield 88, 3, [], 10, 14, 0, 847, 0),
  (119, .aload_n 0, 1, [], 0, 0, 0, 0, 0),
  (120, .getfield 172, 3, [], 10, 16, 0, 849, 0),
  (123, .iaload, 1, [], 0, 0, 0, 0, 0),
  (124, .invokevirtual 158, 3, [10], 133, 2, 0, 1012, 0),
  (127, .ireturn, 1, [], 0, 0, 0, 0, 0),
  (128, .aload_n 0, 1, [], 0, 0, 0, 0, 0),
  (129, .dup, 1, [], 0, 0, 0, 0, 0),
  (130, .getfield 172, 3, [], 10, 16, 0, 849, 0),
  (133, .iconst 1, 1, [], 0, 0, 0, 0, 0),
  (134, .iadd, 1, [], 0, 0, 0, 0, 0),
  (135, .putfield 172, 3, [], 10, 16, 0, 849, 0),
  (138, .aload_n 0, 1, [], 0, 0, 0, 0, 0),
  (139, .invokevirtual 229, 3, [10], 151, 0, 0, 1020, 0),
  (142, .ifCond .ne 22, 3, [92], 0, 0, 0, 0, 0),
  (145, .aload_n 0, 1, [], 0, 0, 0, 0, 0),
  (146, .getfield 85, 3, [], 10, 13, 0, 846, 0),
  (149, .aload_n 0, 1, [], 0, 0, 0, 0, 0),
  (150, .getfield 172, 3, [], 10, 16, 0, 849, 0),
  (153, .iaload, 1, [], 0, 0, 0, 0, 0),
  (154, .bipush 33, 2, [], 0, 0, 0, 0, 0),
  (156, .if_icmp .eq 8, 3, [92], 0, 0, 0, 0, 0),
  (159, .aload_n 0, 1, [], 0, 0, 0, 0, 0),
  (160, .invokevirtual 187, 3, [10], 134, 0, 0, 1032, 0),
  (163, .ireturn, 1, [], 0, 0, 0, 0, 0),
  (164, .aload_n 0, 1, [], 0, 0, 0, 0, 0),
  (165, .getfield 91, 3, [], 10, 19, 0, 852, 0),
  (168, .aload_n 0, 1, [], 0, 0, 0, 0, 0),
  (169, .getfield 208, 3, [], 10, 24, 0, 857, 0),
  (172, .aload_n 0, 1, [], 0, 0, 0, 0, 0),
  (173, .getfield 211, 3, [], 10, 26, 0, 859, 0),
  (176, .iastore, 1, [], 0, 0, 0, 0, 0),
  (177, .aload_n 0, 1, [], 0, 0, 0, 0, 0),
  (178, .getfield 94, 3, [], 10, 20, 0, 853, 0),
  (181, .aload_n 0, 1, [], 0, 0, 0, 0, 0),
  (182, .getfield 208, 3, [], 10, 24, 0, 857, 0),
  (185, .aload_n 0, 1, [], 0, 0, 0, 0, 0),
  (186, .getfield 214, 3, [], 10, 27, 0, 860, 0),
  (189, .iastore, 1, [], 0, 0, 0, 0, 0),
  (190, .aload_n 0, 1, [], 0, 0, 0, 0, 0),
  (191, .getfield 97, 3, [], 10, 21, 0, 854, 0),
  (194, .aload_n 0, 1, [], 0, 0, 0, 0, 0),
  (195, .getfield 208, 3, [], 10, 24, 0, 857, 0),
  (198, .aload_n 0, 1, [], 0, 0, 0, 0, 0),
  (199, .getfield 217, 3, [], 10, 28, 0, 861, 0),
  (202, .iastore, 1, [], 0, 0, 0, 0, 0),
  (203, .iconst 0, 1, [], 0, 0, 0, 0, 0),
  (204, .istore_n 2, 1, [], 0, 0, 0, 0, 0),
  (205, .iload_n 2, 1, [], 0, 0, 0, 0, 0),
  (206, .iconst 2, 1, [], 0, 0, 0, 0, 0),
  (207, .if_icmp .ge 76, 3, [164], 0, 0, 0, 0, 0),
  (210, .aload_n 0, 1, [], 0, 0, 0, 0, 0),
  (211, .getfield 103, 3, [], 10, 23, 0, 856, 0),
  (214, .iconst 2, 1, [], 0, 0, 0, 0, 0),
  (215, .aload_n 0, 1, [], 0, 0, 0, 0, 0),
  (216, .getfield 208, 3, [], 10, 24, 0, 857, 0),
  (219, .imul, 1, [], 0, 0, 0, 0, 0),
  (220, .iload_n 2, 1, [], 0, 0, 0, 0, 0),
  (221, .iadd, 1, [], 0, 0, 0, 0, 0),
  (222, .aload_n 0, 1, [], 0, 0, 0, 0, 0),
  (223, .getfield 109, 3, [], 10, 30, 0, 863, 0),
  (226, .iload_n 2, 1, [], 0, 0, 0, 0, 0),
  (227, .iaload, 1, [], 0, 0, 0, 0, 0),
  (228, .iastore, 1, [], 0, 0, 0, 0, 0),
  (229, .iconst 0, 1, [], 0, 0, 0, 0, 0),
  (230, .istore_n 3, 1, [], 0, 0, 0, 0, 0),
  (231, .iload_n 3, 1, [], 0, 0, 0, 0, 0),
  (232, .aload_n 0, 1, [], 0, 0, 0, 0, 0),
  (233, .getfield 109, 3, [], 10, 30, 0, 863, 0),
  (236, .iload_n 2, 1, [], 0, 0, 0, 0, 0),
  (237, .iaload, 1, [], 0, 0, 0, 0, 0),
  (238, .if_icmp .ge 39, 3, [162], 0, 0, 0, 0, 0),
  (241, .aload_n 0, 1, [], 0, 0, 0, 0, 0),
  (242, .getfield 100, 3, [], 10, 22, 0, 855, 0),
  (245, .bipush 48, 2, [], 0, 0, 0, 0, 0),
  (247, .aload_n 0, 1, [], 0, 0, 0, 0, 0),
  (248, .getfield 208, 3, [], 10, 24, 0, 857, 0),
  (251, .imul, 1, [], 0, 0, 0, 0, 0),
  (252, .bipush 24, 2, [], 0, 0, 0, 0, 0),
  (254, .iload_n 2, 1, [], 0, 0, 0, 0, 0),
  (255, .imul, 1, [], 0, 0, 0, 0, 0),
  (256, .iadd, 1, [], 0, 0, 0, 0, 0),
  (257, .iload_n 3, 1, [], 0, 0, 0, 0, 0),
  (258, .iadd, 1, [], 0, 0, 0, 0, 0),
  (259, .aload_n 0, 1, [], 0, 0, 0, 0, 0),
  (260, .getfield 106, 3, [], 10, 29, 0, 862, 0),
  (263, .bipush 24, 2, [], 0, 0, 0, 0, 0),
  (265, .iload_n 2, 1, [], 0, 0, 0, 0, 0),
  (266, .imul, 1, [], 0, 0, 0, 0, 0),
  (267, .iload_n 3, 1, [], 0, 0, 0, 0, 0),
  (268, .iadd, 1, [], 0, 0, 0, 0, 0),
  (269, .iaload, 1, [], 0, 0, 0, 0, 0),
  (270, .iastore, 1, [], 0, 0, 0, 0, 0),
  (271, .iinc 3 1, 3, [], 0, 0, 0, 0, 0),
  (274, .goto (-43), 3, [133], 0, 0, 0, 0, 0),
  (277, .iinc 2 1, 3, [], 0, 0, 0, 0, 0),
  (280, .goto (-75), 3, [115], 0, 0, 0, 0, 0),
  (283, .aload_n 0, 1, [], 0, 0, 0, 0, 0),
  (284, .dup, 1, [], 0, 0, 0, 0, 0),
  (285, .getfield 208, 3, [], 10, 24, 0, 857, 0),
  (288, .iconst 1, 1, [], 0, 0, 0, 0, 0),
  (289, .iadd, 1, [], 0, 0, 0, 0, 0),
  (290, .putfield 208, 3, [], 10, 24, 0, 857, 0),
  (293, .aload_n 0, 1, [], 0, 0, 0, 0, 0),
  (294, .dup, 1, [], 0, 0, 0, 0, 0),
  (295, .getfield 220, 3, [], 10, 25, 0, 858, 0),
  (298, .iconst 1, 1, [], 0, 0, 0, 0, 0),
  (299, .iadd, 1, [], 0, 0, 0, 0, 0),
  (300, .putfield 220, 3, [], 10, 25, 0, 858, 0),
  (303, .iconst 1, 1, [], 0, 0, 0, 0, 0),
  (304, .ireturn, 1, [], 0, 0, 0, 0, 0)]
def mX10_again : xMe := (yX10_again, cX10_again, 4, some .boolean, RX10, 1, pX10_again)
set_option maxRecDepth 20000 in
def pX10_someone : List xI := [(0, .aload_n 0, 1, [], 0, 0, 0, 0, 0),
  (1, .getfield 172, 3, [], 10, 16, 0, 849, 0),
  (4, .istore_n 2, 1, [], 0, 0, 0, 0, 0),
  (5, .aload_n 0, 1, [], 0, 0, 0, 0, 0),
  (6, .iconst 0, 1, [], 0, 0, 0, 0, 0),
  (7, .invokevirtual 194, 3, [10], 139, 1, 0, 1040, 0),
  (10, .ifCond .ne 5, 3, [9], 0, 0, 0, 0, 0),
  (13, .iconst 0, 1, [], 0, 0, 0, 0, 0),
  (14, .ireturn, 1, [], 0, 0, 0, 0, 0),
  (15, .aload_n 0, 1, [], 0, 0, 0, 0, 0),
  (16, .getfield 118, 3, [], 10, 33, 0, 866, 0),
  (19, .iconst 0, 1, [], 0, 0, 0, 0, 0),
  (20, .iaload, 1, [], 0, 0, 0, 0, 0),
  (21, .istore_n 3, 1, [], 0, 0, 0, 0, 0),
  (22, .aload_n 0, 1, [], 0, 0, 0, 0, 0),
  (23, .getfield 178, 3, [], 10, 34, 0, 867, 0),
  (26, .iconst 1, 1, [], 0, 0, 0, 0, 0),
  (27, .if_icmp .gt 27, 3, [32], 0, 0, 0, 0, 0),
  (30, .iload_n 3, 1, [], 0, 0, 0, 0, 0),
  (31, .ifCond .eq 23, 3, [32], 0, 0, 0, 0, 0),
  (34, .aload_n 0, 1, [], 0, 0, 0, 0, 0),
  (35, .getfield 55, 3, [], 10, 2, 0, 835, 0),
  (38, .iload_n 3, 1, [], 0, 0, 0, 0, 0),
  (39, .iaload, 1, [], 0, 0, 0, 0, 0),
  (40, .iconst 1, 1, [], 0, 0, 0, 0, 0),
  (41, .if_icmp .eq 26, 3, [40], 0, 0, 0, 0, 0),
  (44, .aload_n 0, 1, [], 0, 0, 0, 0, 0),
  (45, .getfield 55, 3, [], 10, 2, 0, 835, 0),
  (48, .iload_n 3, 1, [], 0, 0, 0, 0, 0),
  (49, .iaload, 1, [], 0, 0, 0, 0, 0),
  (50, .iconst 2, 1, [], 0, 0, 0, 0, 0),
  (51, .if_icmp .eq 16, 3, [40], 0, 0, 0, 0, 0),
  (54, .aload_n 0, 1, [], 0, 0, 0, 0, 0),
  (55, .bipush 8, 2, [], 0, 0, 0, 0, 0),
  (57, .aload_n 0, 1, [], 0, 0, 0, 0, 0),
  (58, .getfield 88, 3, [], 10, 14, 0, 847, 0),
  (61, .iload_n 2, 1, [], 0, 0, 0, 0, 0),
  (62, .iaload, 1, [], 0, 0, 0, 0, 0),
  (63, .invokevirtual 158, 3, [10], 133, 2, 0, 1012, 0),
  (66, .ireturn, 1, [], 0, 0, 0, 0, 0),
  (67, .aload_n 0, 1, [], 0, 0, 0, 0, 0),
  (68, .getfield 85, 3, [], 10, 13, 0, 846, 0),
  (71, .aload_n 0, 1, [], 0, 0, 0, 0, 0),
  (72, .getfield 172, 3, [], 10, 16, 0, 849, 0),
  (75, .iaload, 1, [], 0, 0, 0, 0, 0),
  (76, .iload_n 1, 1, [], 0, 0, 0, 0, 0),
  (77, .if_icmp .eq 8, 3, [50], 0, 0, 0, 0, 0),
  (80, .aload_n 0, 1, [], 0, 0, 0, 0, 0),
  (81, .invokevirtual 187, 3, [10], 134, 0, 0, 1032, 0),
  (84, .ireturn, 1, [], 0, 0, 0, 0, 0),
  (85, .aload_n 0, 1, [], 0, 0, 0, 0, 0),
  (86, .dup, 1, [], 0, 0, 0, 0, 0),
  (87, .getfield 172, 3, [], 10, 16, 0, 849, 0),
  (90, .iconst 1, 1, [], 0, 0, 0, 0, 0),
  (91, .iadd, 1, [], 0, 0, 0, 0, 0),
  (92, .putfield 172, 3, [], 10, 16, 0, 849, 0),
  (95, .aload_n 0, 1, [], 0, 0, 0, 0, 0),
  (96, .iload_n 3, 1, [], 0, 0, 0, 0, 0),
  (97, .invokevirtual 241, 3, [10], 147, 1, 0, 1056, 0),
  (100, .ireturn, 1, [], 0, 0, 0, 0, 0)]
def mX10_someone : xMe := (yX10_someone, cX10_someone, 4, some .boolean, RX10, 1, pX10_someone)
set_option maxRecDepth 20000 in
def pX10_order : List xI := [(0, .aload_n 0, 1, [], 0, 0, 0, 0, 0),
  (1, .getfield 85, 3, [], 10, 13, 0, 846, 0),
  (4, .aload_n 0, 1, [], 0, 0, 0, 0, 0),
  (5, .getfield 172, 3, [], 10, 16, 0, 849, 0),
  (8, .iaload, 1, [], 0, 0, 0, 0, 0),
  (9, .bipush 7, 2, [], 0, 0, 0, 0, 0),
  (11, .if_icmp .ne 8, 3, [10], 0, 0, 0, 0, 0),
  (14, .aload_n 0, 1, [], 0, 0, 0, 0, 0),
  (15, .invokevirtual 244, 3, [10], 148, 0, 0, 1028, 0),
  (18, .ireturn, 1, [], 0, 0, 0, 0, 0),
  (19, .aload_n 0, 1, [], 0, 0, 0, 0, 0),
  (20, .getfield 85, 3, [], 10, 13, 0, 846, 0),
  (23, .aload_n 0, 1, [], 0, 0, 0, 0, 0),
  (24, .getfield 172, 3, [], 10, 16, 0, 849, 0),
  (27, .iaload, 1, [], 0, 0, 0, 0, 0),
  (28, .iconst 5, 1, [], 0, 0, 0, 0, 0),
  (29, .if_icmp .ne 20, 3, [27], 0, 0, 0, 0, 0),
  (32, .aload_n 0, 1, [], 0, 0, 0, 0, 0),
  (33, .dup, 1, [], 0, 0, 0, 0, 0),
  (34, .getfield 172, 3, [], 10, 16, 0, 849, 0),
  (37, .iconst 1, 1, [], 0, 0, 0, 0, 0),
  (38, .iadd, 1, [], 0, 0, 0, 0, 0),
  (39, .putfield 172, 3, [], 10, 16, 0, 849, 0),
  (42, .aload_n 0, 1, [], 0, 0, 0, 0, 0),
  (43, .bipush 6, 2, [], 0, 0, 0, 0, 0),
  (45, .invokevirtual 247, 3, [10], 149, 1, 0, 1036, 0),
  (48, .ireturn, 1, [], 0, 0, 0, 0, 0),
  (49, .aload_n 0, 1, [], 0, 0, 0, 0, 0),
  (50, .aload_n 0, 1, [], 0, 0, 0, 0, 0),
  (51, .getfield 85, 3, [], 10, 13, 0, 846, 0),
  (54, .aload_n 0, 1, [], 0, 0, 0, 0, 0),
  (55, .getfield 172, 3, [], 10, 16, 0, 849, 0),
  (58, .iaload, 1, [], 0, 0, 0, 0, 0),
  (59, .iconst 1, 1, [], 0, 0, 0, 0, 0),
  (60, .invokevirtual 175, 3, [10], 135, 2, 0, 1044, 0),
  (63, .ifCond .eq 11, 3, [40], 0, 0, 0, 0, 0),
  (66, .aload_n 0, 1, [], 0, 0, 0, 0, 0),
  (67, .iconst 0, 1, [], 0, 0, 0, 0, 0),
  (68, .invokevirtual 241, 3, [10], 147, 1, 0, 1056, 0),
  (71, .goto 9, 3, [43], 0, 0, 0, 0, 0),
  (74, .aload_n 0, 1, [], 0, 0, 0, 0, 0),
  (75, .bipush 30, 2, [], 0, 0, 0, 0, 0),
  (77, .invokevirtual 247, 3, [10], 149, 1, 0, 1036, 0),
  (80, .ireturn, 1, [], 0, 0, 0, 0, 0)]
def mX10_order : xMe := (yX10_order, cX10_order, 1, some .boolean, RX10, 1, pX10_order)
set_option maxRecDepth 20000 in
def pX10_isBetween : List xI := [(0, .aload_n 0, 1, [], 0, 0, 0, 0, 0),
  (1, .getfield 85, 3, [], 10, 13, 0, 846, 0),
  (4, .aload_n 0, 1, [], 0, 0, 0, 0, 0),
  (5, .getfield 172, 3, [], 10, 16, 0, 849, 0),
  (8, .iaload, 1, [], 0, 0, 0, 0, 0),
  (9, .bipush 31, 2, [], 0, 0, 0, 0, 0),
  (11, .if_icmp .eq 16, 3, [14], 0, 0, 0, 0, 0),
  (14, .aload_n 0, 1, [], 0, 0, 0, 0, 0),
  (15, .getfield 85, 3, [], 10, 13, 0, 846, 0),
  (18, .aload_n 0, 1, [], 0, 0, 0, 0, 0),
  (19, .getfield 172, 3, [], 10, 16, 0, 849, 0),
  (22, .iaload, 1, [], 0, 0, 0, 0, 0),
  (23, .iconst 4, 1, [], 0, 0, 0, 0, 0),
  (24, .if_icmp .ne 7, 3, [16], 0, 0, 0, 0, 0),
  (27, .iconst 1, 1, [], 0, 0, 0, 0, 0),
  (28, .goto 4, 3, [17], 0, 0, 0, 0, 0),
  (31, .iconst 0, 1, [], 0, 0, 0, 0, 0),
  (32, .ireturn, 1, [], 0, 0, 0, 0, 0)]
def mX10_isBetween : xMe := (yX10_isBetween, cX10_isBetween, 1, some .boolean, RX10, 1, pX10_isBetween)
set_option maxRecDepth 20000 in
def pX10_line : List xI := [(0, .aload_n 0, 1, [], 0, 0, 0, 0, 0),
  (1, .getfield 139, 3, [], 10, 12, 0, 845, 0),
  (4, .istore_n 1, 1, [], 0, 0, 0, 0, 0),
  (5, .aload_n 0, 1, [], 0, 0, 0, 0, 0),
  (6, .iconst 0, 1, [], 0, 0, 0, 0, 0),
  (7, .putfield 139, 3, [], 10, 12, 0, 845, 0),
  (10, .aload_n 0, 1, [], 0, 0, 0, 0, 0),
  (11, .iconst 0, 1, [], 0, 0, 0, 0, 0),
  (12, .putfield 208, 3, [], 10, 24, 0, 857, 0),
  (15, .aload_n 0, 1, [], 0, 0, 0, 0, 0),
  (16, .iconst 0, 1, [], 0, 0, 0, 0, 0),
  (17, .putfield 166, 3, [], 10, 17, 0, 850, 0),
  (20, .aload_n 0, 1, [], 0, 0, 0, 0, 0),
  (21, .iconst 0, 1, [], 0, 0, 0, 0, 0),
  (22, .putfield 172, 3, [], 10, 16, 0, 849, 0),
  (25, .aload_n 0, 1, [], 0, 0, 0, 0, 0),
  (26, .iload_n 1, 1, [], 0, 0, 0, 0, 0),
  (27, .invokevirtual 250, 3, [10], 131, 1, 0, 1005, 0),
  (30, .istore_n 2, 1, [], 0, 0, 0, 0, 0),
  (31, .iload_n 2, 1, [], 0, 0, 0, 0, 0),
  (32, .ifCond .eq 23, 3, [31], 0, 0, 0, 0, 0),
  (35, .aload_n 0, 1, [], 0, 0, 0, 0, 0),
  (36, .invokevirtual 229, 3, [10], 151, 0, 0, 1020, 0),
  (39, .ifCond .eq 16, 3, [31], 0, 0, 0, 0, 0),
  (42, .aload_n 0, 1, [], 0, 0, 0, 0, 0),
  (43, .dup, 1, [], 0, 0, 0, 0, 0),
  (44, .getfield 172, 3, [], 10, 16, 0, 849, 0),
  (47, .iconst 1, 1, [], 0, 0, 0, 0, 0),
  (48, .iadd, 1, [], 0, 0, 0, 0, 0),
  (49, .putfield 172, 3, [], 10, 16, 0, 849, 0),
  (52, .goto (-21), 3, [19], 0, 0, 0, 0, 0),
  (55, .iload_n 2, 1, [], 0, 0, 0, 0, 0),
  (56, .ifCond .eq 76, 3, [70], 0, 0, 0, 0, 0),
  (59, .aload_n 0, 1, [], 0, 0, 0, 0, 0),
  (60, .getfield 85, 3, [], 10, 13, 0, 846, 0),
  (63, .aload_n 0, 1, [], 0, 0, 0, 0, 0),
  (64, .getfield 172, 3, [], 10, 16, 0, 849, 0),
  (67, .iaload, 1, [], 0, 0, 0, 0, 0),
  (68, .bipush 33, 2, [], 0, 0, 0, 0, 0),
  (70, .if_icmp .eq 62, 3, [70], 0, 0, 0, 0, 0),
  (73, .aload_n 0, 1, [], 0, 0, 0, 0, 0),
  (74, .invokevirtual 253, 3, [10], 150, 0, 0, 1024, 0),
  (77, .istore_n 2, 1, [], 0, 0, 0, 0, 0),
  (78, .iload_n 2, 1, [], 0, 0, 0, 0, 0),
  (79, .ifCond .eq 29, 3, [58], 0, 0, 0, 0, 0),
  (82, .aload_n 0, 1, [], 0, 0, 0, 0, 0),
  (83, .getfield 85, 3, [], 10, 13, 0, 846, 0),
  (86, .aload_n 0, 1, [], 0, 0, 0, 0, 0),
  (87, .getfield 172, 3, [], 10, 16, 0, 849, 0),
  (90, .iaload, 1, [], 0, 0, 0, 0, 0),
  (91, .bipush 33, 2, [], 0, 0, 0, 0, 0),
  (93, .if_icmp .eq 15, 3, [58], 0, 0, 0, 0, 0),
  (96, .aload_n 0, 1, [], 0, 0, 0, 0, 0),
  (97, .invokevirtual 229, 3, [10], 151, 0, 0, 1020, 0),
  (100, .ifCond .ne 8, 3, [58], 0, 0, 0, 0, 0),
  (103, .aload_n 0, 1, [], 0, 0, 0, 0, 0),
  (104, .invokevirtual 187, 3, [10], 134, 0, 0, 1032, 0),
  (107, .istore_n 2, 1, [], 0, 0, 0, 0, 0),
  (108, .iload_n 2, 1, [], 0, 0, 0, 0, 0),
  (109, .ifCond .eq (-54), 3, [31], 0, 0, 0, 0, 0),
  (112, .aload_n 0, 1, [], 0, 0, 0, 0, 0),
  (113, .invokevirtual 229, 3, [10], 151, 0, 0, 1020, 0),
  (116, .ifCond .eq (-61), 3, [31], 0, 0, 0, 0, 0),
  (119, .aload_n 0, 1, [], 0, 0, 0, 0, 0),
  (120, .dup, 1, [], 0, 0, 0, 0, 0),
  (121, .getfield 172, 3, [], 10, 16, 0, 849, 0),
  (124, .iconst 1, 1, [], 0, 0, 0, 0, 0),
  (125, .iadd, 1, [], 0, 0, 0, 0, 0),
  (126, .putfield 172, 3, [], 10, 16, 0, 849, 0),
  (129, .goto (-21), 3, [58], 0, 0, 0, 0, 0),
  (132, .aload_n 0, 1, [], 0, 0, 0, 0, 0),
  (133, .getfield 166, 3, [], 10, 17, 0, 850, 0),
  (136, .ifCond .ne 10, 3, [76], 0, 0, 0, 0, 0),
  (139, .aload_n 0, 1, [], 0, 0, 0, 0, 0),
  (140, .getfield 208, 3, [], 10, 24, 0, 857, 0),
  (143, .goto 10, 3, [80], 0, 0, 0, 0, 0),
  (146, .bipush (-10), 2, [], 0, 0, 0, 0, 0),
  (148, .aload_n 0, 1, [], 0, 0, 0, 0, 0),
  (149, .getfield 169, 3, [], 10, 18, 0, 851, 0),
  (152, .isub, 1, [], 0, 0, 0, 0, 0),
  (153, .ireturn, 1, [], 0, 0, 0, 0, 0)]
def mX10_line : xMe := (yX10_line, cX10_line, 3, some .int, RX10, 1, pX10_line)
set_option maxRecDepth 20000 in
def pX10_fault : List xI := [(0, .aload_n 0, 1, [], 0, 0, 0, 0, 0),
  (1, .getfield 166, 3, [], 10, 17, 0, 850, 0),
  (4, .ireturn, 1, [], 0, 0, 0, 0, 0)]
def mX10_fault : xMe := (yX10_fault, cX10_fault, 1, some .int, RX10, 1, pX10_fault)
set_option maxRecDepth 20000 in
def pX10_order_ : List xI := [(0, .iload_n 1, 1, [], 0, 0, 0, 0, 0),
  (1, .iconst 0, 1, [], 0, 0, 0, 0, 0),
  (2, .aload_n 0, 1, [], 0, 0, 0, 0, 0),
  (3, .getfield 208, 3, [], 10, 24, 0, 857, 0),
  (6, .iconst 1, 1, [], 0, 0, 0, 0, 0),
  (7, .isub, 1, [], 0, 0, 0, 0, 0),
  (8, .invokestatic 128, 3, [], 116, 3, 0, 950, 0),
  (11, .ifCond .eq 12, 3, [13], 0, 0, 0, 0, 0),
  (14, .iload_n 2, 1, [], 0, 0, 0, 0, 0),
  (15, .iconst 0, 1, [], 0, 0, 0, 0, 0),
  (16, .iconst 4, 1, [], 0, 0, 0, 0, 0),
  (17, .invokestatic 128, 3, [], 116, 3, 0, 950, 0),
  (20, .ifCond .ne 5, 3, [15], 0, 0, 0, 0, 0),
  (23, .iconst (-1), 1, [], 0, 0, 0, 0, 0),
  (24, .ireturn, 1, [], 0, 0, 0, 0, 0),
  (25, .iload_n 2, 1, [], 0, 0, 0, 0, 0),
  (26, .ifCond .ne 12, 3, [22], 0, 0, 0, 0, 0),
  (29, .aload_n 0, 1, [], 0, 0, 0, 0, 0),
  (30, .getfield 91, 3, [], 10, 19, 0, 852, 0),
  (33, .iload_n 1, 1, [], 0, 0, 0, 0, 0),
  (34, .iaload, 1, [], 0, 0, 0, 0, 0),
  (35, .goto 43, 3, [48], 0, 0, 0, 0, 0),
  (38, .iload_n 2, 1, [], 0, 0, 0, 0, 0),
  (39, .iconst 1, 1, [], 0, 0, 0, 0, 0),
  (40, .if_icmp .ne 12, 3, [30], 0, 0, 0, 0, 0),
  (43, .aload_n 0, 1, [], 0, 0, 0, 0, 0),
  (44, .getfield 94, 3, [], 10, 20, 0, 853, 0),
  (47, .iload_n 1, 1, [], 0, 0, 0, 0, 0),
  (48, .iaload, 1, [], 0, 0, 0, 0, 0),
  (49, .goto 29, 3, [48], 0, 0, 0, 0, 0),
  (52, .iload_n 2, 1, [], 0, 0, 0, 0, 0),
  (53, .iconst 2, 1, [], 0, 0, 0, 0, 0),
  (54, .if_icmp .ne 12, 3, [38], 0, 0, 0, 0, 0),
  (57, .aload_n 0, 1, [], 0, 0, 0, 0, 0),
  (58, .getfield 97, 3, [], 10, 21, 0, 854, 0),
  (61, .iload_n 1, 1, [], 0, 0, 0, 0, 0),
  (62, .iaload, 1, [], 0, 0, 0, 0, 0),
  (63, .goto 15, 3, [48], 0, 0, 0, 0, 0),
  (66, .aload_n 0, 1, [], 0, 0, 0, 0, 0),
  (67, .getfield 103, 3, [], 10, 23, 0, 856, 0),
  (70, .iconst 2, 1, [], 0, 0, 0, 0, 0),
  (71, .iload_n 1, 1, [], 0, 0, 0, 0, 0),
  (72, .imul, 1, [], 0, 0, 0, 0, 0),
  (73, .iload_n 2, 1, [], 0, 0, 0, 0, 0),
  (74, .iadd, 1, [], 0, 0, 0, 0, 0),
  (75, .iconst 3, 1, [], 0, 0, 0, 0, 0),
  (76, .isub, 1, [], 0, 0, 0, 0, 0),
  (77, .iaload, 1, [], 0, 0, 0, 0, 0),
  (78, .ireturn, 1, [], 0, 0, 0, 0, 0)]
def mX10_order_ : xMe := (yX10_order_, cX10_order_, 3, some .int, RX10, 1, pX10_order_)
set_option maxRecDepth 20000 in
def pX10_given : List xI := [(0, .iload_n 1, 1, [], 0, 0, 0, 0, 0),
  (1, .iconst 0, 1, [], 0, 0, 0, 0, 0),
  (2, .aload_n 0, 1, [], 0, 0, 0, 0, 0),
  (3, .getfield 208, 3, [], 10, 24, 0, 857, 0),
  (6, .iconst 1, 1, [], 0, 0, 0, 0, 0),
  (7, .isub, 1, [], 0, 0, 0, 0, 0),
  (8, .invokestatic 128, 3, [], 116, 3, 0, 950, 0),
  (11, .ifCond .eq 51, 3, [40], 0, 0, 0, 0, 0),
  (14, .iload_n 2, 1, [], 0, 0, 0, 0, 0),
  (15, .iconst 0, 1, [], 0, 0, 0, 0, 0),
  (16, .iconst 1, 1, [], 0, 0, 0, 0, 0),
  (17, .invokestatic 128, 3, [], 116, 3, 0, 950, 0),
  (20, .ifCond .eq 42, 3, [40], 0, 0, 0, 0, 0),
  (23, .iload_n 3, 1, [], 0, 0, 0, 0, 0),
  (24, .iconst 0, 1, [], 0, 0, 0, 0, 0),
  (25, .aload_n 0, 1, [], 0, 0, 0, 0, 0),
  (26, .getfield 103, 3, [], 10, 23, 0, 856, 0),
  (29, .iconst 2, 1, [], 0, 0, 0, 0, 0),
  (30, .iload_n 1, 1, [], 0, 0, 0, 0, 0),
  (31, .imul, 1, [], 0, 0, 0, 0, 0),
  (32, .iload_n 2, 1, [], 0, 0, 0, 0, 0),
  (33, .iadd, 1, [], 0, 0, 0, 0, 0),
  (34, .iaload, 1, [], 0, 0, 0, 0, 0),
  (35, .iconst 1, 1, [], 0, 0, 0, 0, 0),
  (36, .isub, 1, [], 0, 0, 0, 0, 0),
  (37, .invokestatic 128, 3, [], 116, 3, 0, 950, 0),
  (40, .ifCond .eq 22, 3, [40], 0, 0, 0, 0, 0),
  (43, .aload_n 0, 1, [], 0, 0, 0, 0, 0),
  (44, .getfield 100, 3, [], 10, 22, 0, 855, 0),
  (47, .bipush 48, 2, [], 0, 0, 0, 0, 0),
  (49, .iload_n 1, 1, [], 0, 0, 0, 0, 0),
  (50, .imul, 1, [], 0, 0, 0, 0, 0),
  (51, .bipush 24, 2, [], 0, 0, 0, 0, 0),
  (53, .iload_n 2, 1, [], 0, 0, 0, 0, 0),
  (54, .imul, 1, [], 0, 0, 0, 0, 0),
  (55, .iadd, 1, [], 0, 0, 0, 0, 0),
  (56, .iload_n 3, 1, [], 0, 0, 0, 0, 0),
  (57, .iadd, 1, [], 0, 0, 0, 0, 0),
  (58, .iaload, 1, [], 0, 0, 0, 0, 0),
  (59, .goto 4, 3, [41], 0, 0, 0, 0, 0),
  (62, .iconst (-1), 1, [], 0, 0, 0, 0, 0),
  (63, .ireturn, 1, [], 0, 0, 0, 0, 0)]
def mX10_given : xMe := (yX10_given, cX10_given, 4, some .int, RX10, 1, pX10_given)
set_option maxRecDepth 20000 in
def pX10_table : List xI := [(0, .iload_n 1, 1, [], 0, 0, 0, 0, 0),
  (1, .iconst 0, 1, [], 0, 0, 0, 0, 0),
  (2, .iconst 3, 1, [], 0, 0, 0, 0, 0),
  (3, .invokestatic 128, 3, [], 116, 3, 0, 950, 0),
  (6, .ifCond .ne 5, 3, [7], 0, 0, 0, 0, 0),
  (9, .iconst (-1), 1, [], 0, 0, 0, 0, 0),
  (10, .ireturn, 1, [], 0, 0, 0, 0, 0),
  (11, .iload_n 2, 1, [], 0, 0, 0, 0, 0),
  (12, .iconst 0, 1, [], 0, 0, 0, 0, 0),
  (13, .aload_n 0, 1, [], 0, 0, 0, 0, 0),
  (14, .getfield 115, 3, [], 10, 32, 0, 865, 0),
  (17, .iload_n 1, 1, [], 0, 0, 0, 0, 0),
  (18, .iaload, 1, [], 0, 0, 0, 0, 0),
  (19, .iconst 1, 1, [], 0, 0, 0, 0, 0),
  (20, .isub, 1, [], 0, 0, 0, 0, 0),
  (21, .invokestatic 128, 3, [], 116, 3, 0, 950, 0),
  (24, .ifCond .eq 17, 3, [26], 0, 0, 0, 0, 0),
  (27, .aload_n 0, 1, [], 0, 0, 0, 0, 0),
  (28, .getfield 112, 3, [], 10, 31, 0, 864, 0),
  (31, .bipush 24, 2, [], 0, 0, 0, 0, 0),
  (33, .iload_n 1, 1, [], 0, 0, 0, 0, 0),
  (34, .imul, 1, [], 0, 0, 0, 0, 0),
  (35, .iload_n 2, 1, [], 0, 0, 0, 0, 0),
  (36, .iadd, 1, [], 0, 0, 0, 0, 0),
  (37, .iaload, 1, [], 0, 0, 0, 0, 0),
  (38, .goto 5, 3, [27], 0, 0, 0, 0, 0),
  (41, .bipush (-4), 2, [], 0, 0, 0, 0, 0),
  (43, .ireturn, 1, [], 0, 0, 0, 0, 0)]
def mX10_table : xMe := (yX10_table, cX10_table, 3, some .int, RX10, 1, pX10_table)
set_option maxRecDepth 20000 in
def pX10_count : List xI := [(0, .iload_n 1, 1, [], 0, 0, 0, 0, 0),
  (1, .tableswitch 60 0 4 #[35, 40, 45, 50, 55], 35, [17, 2, 5, 8, 11, 14], 0, 0, 0, 0, 0),
  (36, .aload_n 0, 1, [], 0, 0, 0, 0, 0),
  (37, .getfield 124, 3, [], 10, 1, 0, 834, 0),
  (40, .ireturn, 1, [], 0, 0, 0, 0, 0),
  (41, .aload_n 0, 1, [], 0, 0, 0, 0, 0),
  (42, .getfield 132, 3, [], 10, 5, 0, 838, 0),
  (45, .ireturn, 1, [], 0, 0, 0, 0, 0),
  (46, .aload_n 0, 1, [], 0, 0, 0, 0, 0),
  (47, .getfield 139, 3, [], 10, 12, 0, 845, 0),
  (50, .ireturn, 1, [], 0, 0, 0, 0, 0),
  (51, .aload_n 0, 1, [], 0, 0, 0, 0, 0),
  (52, .getfield 208, 3, [], 10, 24, 0, 857, 0),
  (55, .ireturn, 1, [], 0, 0, 0, 0, 0),
  (56, .aload_n 0, 1, [], 0, 0, 0, 0, 0),
  (57, .getfield 220, 3, [], 10, 25, 0, 858, 0),
  (60, .ireturn, 1, [], 0, 0, 0, 0, 0),
  (61, .iconst (-1), 1, [], 0, 0, 0, 0, 0),
  (62, .ireturn, 1, [], 0, 0, 0, 0, 0)]
def mX10_count : xMe := (yX10_count, cX10_count, 2, some .int, RX10, 1, pX10_count)
set_option maxRecDepth 20000 in
def pJ7_fill_53178 : List xI := [(0, .iconst 0, 1, [], 0, 0, 0, 0, 0),
  (1, .istore_n 2, 1, [], 0, 0, 0, 0, 0),
  (2, .aload_n 0, 1, [], 0, 0, 0, 0, 0),
  (3, .arraylength, 1, [], 0, 0, 0, 0, 0),
  (4, .istore_n 3, 1, [], 0, 0, 0, 0, 0),
  (5, .iload_n 2, 1, [], 0, 0, 0, 0, 0),
  (6, .iload_n 3, 1, [], 0, 0, 0, 0, 0),
  (7, .if_icmp .ge 13, 3, [14], 0, 0, 0, 0, 0),
  (10, .aload_n 0, 1, [], 0, 0, 0, 0, 0),
  (11, .iload_n 2, 1, [], 0, 0, 0, 0, 0),
  (12, .iload_n 1, 1, [], 0, 0, 0, 0, 0),
  (13, .iastore, 1, [], 0, 0, 0, 0, 0),
  (14, .iinc 2 1, 3, [], 0, 0, 0, 0, 0),
  (17, .goto (-12), 3, [5], 0, 0, 0, 0, 0),
  (20, .return_, 1, [], 0, 0, 0, 0, 0)]
def mJ7_fill_53178 : xMe := (yJ7_fill_53178, cJ7_fill_53178, 4, none, RJ7, 0, pJ7_fill_53178)
def xmt : List xMe := [mX0_init, mX0_startVerb, mX0_copyFrom, mX0_members, mX1_init, mX1_size, mX1_total, mX1_startLine, mX1_areFull, mX1_at, mX1_latest, mX1_keep, mX2_init, mX2_faultNumber, mX2_faultPlace, mX2_begin, mX2_readOrder, mX2_skipStops, mX2_isStop, mX2_isOrderEnd, mX2_isCommandAnd, mX2_readAgain, mX2_readActor, mX2_readCommand, mX2_keepDraft, mX2_readList, mX2_skipSeparator, mX2_readItem, mX2_isPronoun, mX2_isWhose, mX2_isFromTable, mX2_pronounOf, mX2_isTableReady, mX2_ownersFor, mX2_readAll, mX2_readPronoun, mX2_readNames, mX2_failMisplaced, mX2_fail, mX3_init, mX3_meantBy, mX3_learn, mX4_init, mX4_size, mX4_clear, mX4_append, mX4_at, mX4_letterAt, mX4_keyAt, mX4_isPlainWord, mX5_init, mX5_size, mX5_members, mX5_at, mX5_clear, mX5_add, mX5_remove, mX5_copyFrom, mX6_init, mX6_size, mX6_has, mX6_add, mX6_isSeen, mX6_seenOnes, mX6_setSeen, mX6_kindOf, mX6_setKind, mX6_isPerson, mX6_setOwner, mX6_ownedBy, mX7_init, mX7_kindAt, mX7_wordAt, mX7_placeAt, mX7_split, mX7_leaveOnlyStrangeByte, mX7_addRow, mX7_kindOfSort, mX7_add, mX8_init, mX8_size, mX8_has, mX8_fixedNumber, mX8_find, mX8_add, mX8_sortOf, mX8_rootOf, mX8_setRoot, mX8_isOwn, mX8_isRootOfOthers, mX8_isInUse, mX8_formOf, mX8_setForm, mX8_nounsOf, mX8_adjectivesOf, mX8_addNamed, mX9_init, mX9_thing, mX9_see, mX9_own, mX9_turn, mX9_feed, mX9_word, mX9_name, mX9_form, mX9_same, mX9_line, mX9_fault, mX9_order, mX9_given, mX9_table, mX9_count, mX9_isBelow, mX9_isIn, mX9_bitOf, mX10_init, mX10_isIn, mX10_isThing, mX10_isWord, mX10_thing, mX10_see, mX10_own, mX10_turn, mX10_feed, mX10_fixedOf, mX10_wordOf, mX10_word, mX10_name, mX10_form, mX10_same, mX10_isLetter, mX10_cuts, mX10_comes, mX10_fails, mX10_wrong, mX10_isSort, mX10_isVerbBehind, mX10_tableMeans, mX10_oneMeans, mX10_item, mX10_placeIn, mX10_items, mX10_list, mX10_keeps, mX10_sets, mX10_understood, mX10_command, mX10_commands, mX10_again, mX10_someone, mX10_order, mX10_isBetween, mX10_line, mX10_fault, mX10_order_, mX10_given, mX10_table, mX10_count, mJ7_fill_53178]
end
section
/-- which lengths the instructions have (switches: any) -/
def xlenok (ins : Instr) (len : Nat) : Bool := match ins with
  | .iload _ | .lload _ | .aload _ | .istore _ | .lstore _ | .astore _ | .bipush _ | .newarray _ | .ldc _ => len == 2
  | .sipush _ | .ldc2_w _ | .ifCond .. | .if_icmp .. | .goto _ | .ifnull _ | .ifnonnull _ | .getfield _ | .putfield _ | .invokevirtual _ | .invokespecial _ | .invokestatic _ | .new _ | .anewarray _ | .iinc .. => len == 3
  | .tableswitch .. | .lookupswitch .. => true
  | _ => len == 1
def xend (ins : Instr) : Bool := match ins with
  | .ireturn | .lreturn | .areturn | .return_ | .goto _ => true
  | _ => false
/-- the target t of a jump by off from pc -/
def xjmp (P : List xI) (pc t : Nat) (off : Int) : Bool := match P[t]? with
  | some y => decide ((pc : Int) + off = (y.1 : Int))
  | none => false
def xjmps (P : List xI) (pc : Nat) : List Nat → List Int → Bool
  | [], [] => true
  | t :: ts, o :: os => xjmp P pc t o && xjmps P pc ts os
  | _, _ => false
def xW (lk : Nat) (w : Cond) : Bool := decide (lw_tbl[lk]? = some w)
/-- what is asked of a call's target -/
def xokC (own : String) (c lk b idx : Nat) (me : xMe) : Bool :=
  (if c = 0 then xW lk (.methodLink own idx me.1) else xW lk (.methodLinkNest own idx me.1 "PronounOrders")) && decide ((parseMethodDescriptor me.1.desc).map (fun d => d.parameters.length) = some b)
def xokI (own : String) (cc : ByteArray) (name : String) (P : List xI) (i : Nat) (x : xI) : Bool :=
  match x with
  | (pc, ins, len, ts, a, b, c, lk, v) =>
    decide (decode cc pc = .ok (ins, len)) && (xlenok ins len && ((match P[i + 1]? with | some y => decide (y.1 = pc + len) | none => xend ins) &&
    (match ins with
      | .getfield idx => (match vwCl[a]? with | some q => decide (b < q.2.2) && xW lk (.fieldLink own idx (q.2.1 b).1 (q.2.1 b).2.1 (q.2.1 b).2.2.1) | none => false)
      | .putfield idx => (match vwCl[a]? with | some q => decide (b < q.2.2) && (xW lk (.fieldLink own idx (q.2.1 b).1 (q.2.1 b).2.1 (q.2.1 b).2.2.1) && decide ((q.2.1 b).2.2.2 = false ∨ ((q.2.1 b).2.2.2 = true ∧ name = "<init>" ∧ (q.2.1 b).1 = own))) | none => false)
      | .ifCond _ off | .if_icmp _ off | .goto off | .ifnull off | .ifnonnull off => xjmps P pc ts [off]
      | .tableswitch d lo hi offs => xjmps P pc ts (d :: offs.toList) && decide (hi - lo + 1 = (offs.size : Int))
      | .lookupswitch d ps => xjmps P pc ts (d :: ps.toList.map Prod.snd) && (ps.toList.zip (ps.toList.drop 1)).all (fun (a, next) => decide (a.1 < next.1))
      | .new idx => (match vwCl[a]? with | some q => xW lk (.classLink own idx q.1) && (decide (Cond.instantiable q.1 q.2.2 ∈ lw_tbl) && decide (Cond.initialized q.1 ∈ lw_tbl)) | none => false)
      | .newarray ty => decide (Cond.arrayClass (newarray.typeOf ty) ∈ lw_tbl) && decide ((a = 100 ∧ newarray.typeOf ty = .int) ∨ (a = 101 ∧ newarray.typeOf ty = .long) ∨ (a = 102 ∧ newarray.typeOf ty = .boolean) ∨ (a = 103 ∧ newarray.typeOf ty = .byte))
      | .anewarray idx => xW lk (.classLink own idx "PronounOrders$Order")
      | .ldc2_w idx => xW lk (.constantLong own idx v)
      | .ldc idx => xW lk (.stringRef own idx "the a an and then tell to again it him her them me myself yourself his its their my all but")
      | .invokevirtual idx => if c = 3 then xW lk (.methodLink own idx ⟨"java/lang/String", "length", "()I"⟩) else if c = 4 then xW lk (.methodLink own idx ⟨"java/lang/String", "charAt", "(I)C"⟩) else
          (match xmt[a]? with | some me => xokC own c lk b idx me && (decide (c = 0) && (decide (me.2.2.2.2.2.1 = 1) && (match ts with | [t] => (match vwCl[t]? with | some q => decide (q.1 = me.1.cls) | none => false) | _ => false))) | none => false)
      | .invokestatic idx => (match xmt[a]? with | some me => xokC own c lk b idx me && (decide (c ≤ 1) && decide (me.2.2.2.2.2.1 = 0)) | none => false)
      | .invokespecial idx => if c = 2 then xW lk (.methodLink own idx objectInit) else
          (match xmt[a]? with | some me => xokC own c lk b idx me && (decide (c ≤ 1) && decide (me.2.2.2.2.2.1 = 2)) | none => false)
      | _ => true)))
def xokIs (own : String) (cc : ByteArray) (name : String) (P : List xI) : Nat → List xI → Bool
  | _, [] => true
  | i, x :: xs => xokI own cc name P i x && xokIs own cc name P (i + 1) xs
/-- what is asked of a method -/
def xokH (me : xMe) : Bool :=
  decide (Cond.code me.1 me.2.1 me.2.2.1 me.2.2.2.1 ∈ lw_tbl) && (decide (Cond.initialized me.1.cls ∈ lw_tbl) && (plainName me.1.cls && (decide (me.1.cls = me.2.2.2.2.1) && (decide (me.1.cls ≠ "java/lang/invoke/MethodHandle" ∧ me.1.cls ≠ "java/lang/invoke/VarHandle") && (decide (me.2.2.1 ≤ 21) &&
  (if me.2.2.2.2.2.1 = 0 then decide (Cond.static me.1 ∈ lw_tbl) else if me.2.2.2.2.2.1 = 1 then decide (Cond.instanceMethod me.1 ∈ lw_tbl) && decide (Cond.selects me.1.cls me.1 me.1 ∈ lw_tbl) else decide (me.2.2.2.2.2.1 = 2) && (decide (me.1.name = "<init>") && (decide (Cond.instanceMethod me.1 ∈ lw_tbl) && decide (me.2.2.2.1 = none)))))))))
def xokM (me : xMe) : Bool := xokH me && (decide (0 < me.2.2.2.2.2.2.length) && ((match me.2.2.2.2.2.2[0]? with | some y => decide (y.1 = 0) | none => false) && xokIs me.2.2.2.2.1 me.2.1 me.1.name me.2.2.2.2.2.2 0 me.2.2.2.2.2.2))
end
section
/-- the memory: shapes (kind, length, references), ints, longs, by cell and place -/
abbrev xSh : Type := Nat × Nat × List (Option Nat)
abbrev xM : Type := List xSh × (Nat → Nat → Int32) × (Nat → Nat → Int64)
abbrev xL : Type := List (Option Value)
def xup {α : Type} (f : Nat → Nat → α) (c j : Nat) (x : α) : Nat → Nat → α := fun c' j' => if c' = c then (if j' = j then x else f c' j') else f c' j'
def xz {α : Type} (f : Nat → Nat → α) (c : Nat) (x : α) : Nat → Nat → α := fun c' j' => if c' = c then x else f c' j'
def xlong (v : Option Value) : Bool := match v with
  | some (.long _) => true
  | some (.double _) => true
  | _ => false
def xld (L : xL) (i : Nat) : Option Value := L.getD i none
def xst1 (L : xL) (i : Nat) (v : Value) : Option xL := if i < L.length ∧ (i = 0 ∨ xlong (L.getD (i - 1) none) = false) then some (L.set i (some v)) else none
def xst2 (L : xL) (i : Nat) (v : Value) : Option xL := if i + 1 < L.length ∧ (i = 0 ∨ xlong (L.getD (i - 1) none) = false) then some ((L.set i (some v)).set (i + 1) none) else none
abbrev xO : Type := Option (Nat × xL × List Value × xM)
section
variable {α : Type}
def xP1 (st : List Value) (f : Int32 → List Value → Option α) : Option α := match st with
  | .int x :: r => f x r
  | _ => none
def xP2 (st : List Value) (f : Int32 → Int32 → List Value → Option α) : Option α := match st with
  | .int y :: .int x :: r => f x y r
  | _ => none
def xPl (st : List Value) (f : Int64 → List Value → Option α) : Option α := match st with
  | .long x :: r => f x r
  | _ => none
def xPll (st : List Value) (f : Int64 → Int64 → List Value → Option α) : Option α := match st with
  | .long y :: .long x :: r => f x y r
  | _ => none
def xPil (st : List Value) (f : Int64 → Int32 → List Value → Option α) : Option α := match st with
  | .int y :: .long x :: r => f x y r
  | _ => none
def xPr (st : List Value) (f : Nat → List Value → Option α) : Option α := match st with
  | .ref a :: r => f a r
  | _ => none
def xPri (st : List Value) (f : Nat → Int32 → List Value → Option α) : Option α := match st with
  | .int i :: .ref a :: r => f a i r
  | _ => none
def xPrii (st : List Value) (f : Nat → Int32 → Int32 → List Value → Option α) : Option α := match st with
  | .int x :: .int i :: .ref a :: r => f a i x r
  | _ => none
def xPril (st : List Value) (f : Nat → Int32 → Int64 → List Value → Option α) : Option α := match st with
  | .long x :: .int i :: .ref a :: r => f a i x r
  | _ => none
def xPrir (st : List Value) (f : Nat → Int32 → Nat → List Value → Option α) : Option α := match st with
  | .ref x :: .int i :: .ref a :: r => f a i x r
  | _ => none
def xPri' (st : List Value) (f : Nat → Int32 → List Value → Option α) : Option α := match st with
  | .int x :: .ref a :: r => f a x r
  | _ => none
def xPrr (st : List Value) (f : Nat → Nat → List Value → Option α) : Option α := match st with
  | .ref x :: .ref a :: r => f a x r
  | _ => none
def xldI (L : xL) (i : Nat) (f : Int32 → Option α) : Option α := match xld L i with
  | some (.int x) => f x
  | _ => none
def xldL (L : xL) (i : Nat) (f : Int64 → Option α) : Option α := match xld L i with
  | some (.long x) => f x
  | _ => none
def xldR (L : xL) (i : Nat) (f : Value → Option α) : Option α := match xld L i with
  | some (.ref x) => f (.ref x)
  | some .null => f .null
  | _ => none
def xpR (st : List Value) (f : Value → List Value → Option α) : Option α := match st with
  | .ref x :: r => f (.ref x) r
  | .null :: r => f .null r
  | _ => none
def xS (M : xM) (o : Nat) (f : xSh → Option α) : Option α := match M.1[o]? with
  | some s => f s
  | none => none
end
def xVr (r : Option Nat) : Value := match r with
  | some q => .ref q
  | none => .null
def xc (c : ClassFile.Cond) (x y : Int32) : Bool := match c with
  | .eq => decide (x = y)
  | .ne => decide (¬ x = y)
  | .lt => decide (x < y)
  | .ge => decide (y ≤ x)
  | .gt => decide (y < x)
  | .le => decide (x ≤ y)
def xlk : List (Int × Int) → List Nat → Nat → Int → Nat
  | (a, _) :: ps, t :: ts, d, v => if a = v then t else xlk ps ts d v
  | _, _, d, _ => d
/-- one instruction that is no call and no return -/
def xstep (x : xI) (i : Nat) (L : xL) (st : List Value) (M : xM) : xO :=
  match x with
  | (_, ins, _, ts, a, b, _, _, v) =>
  match ins with
  | .iconst n => some (i + 1, L, .int (Int32.ofInt n) :: st, M)
  | .bipush n => some (i + 1, L, .int (Int8.ofInt n).toInt32 :: st, M)
  | .sipush n => some (i + 1, L, .int (Int16.ofInt n).toInt32 :: st, M)
  | .lconst n => some (i + 1, L, .long (Int64.ofNat (n : Nat)) :: st, M)
  | .ldc2_w _ => some (i + 1, L, .long v :: st, M)
  | .aconst_null => some (i + 1, L, .null :: st, M)
  | .iload_n k => xldI L k fun z => some (i + 1, L, .int z :: st, M)
  | .iload k => xldI L k fun z => some (i + 1, L, .int z :: st, M)
  | .lload_n k => xldL L k fun z => some (i + 1, L, .long z :: st, M)
  | .lload k => xldL L k fun z => some (i + 1, L, .long z :: st, M)
  | .aload_n k => xldR L k fun z => some (i + 1, L, z :: st, M)
  | .aload k => xldR L k fun z => some (i + 1, L, z :: st, M)
  | .istore_n k => xP1 st fun z r => (xst1 L k (.int z)).bind fun L' => some (i + 1, L', r, M)
  | .istore k => xP1 st fun z r => (xst1 L k (.int z)).bind fun L' => some (i + 1, L', r, M)
  | .lstore_n k => xPl st fun z r => (xst2 L k (.long z)).bind fun L' => some (i + 1, L', r, M)
  | .lstore k => xPl st fun z r => (xst2 L k (.long z)).bind fun L' => some (i + 1, L', r, M)
  | .astore_n k => xpR st fun z r => (xst1 L k z).bind fun L' => some (i + 1, L', r, M)
  | .astore k => xpR st fun z r => (xst1 L k z).bind fun L' => some (i + 1, L', r, M)
  | .iinc k n => xldI L k fun z => (xst1 L k (.int (z + Int32.ofInt n))).bind fun L' => some (i + 1, L', st, M)
  | .iadd => xP2 st fun x y r => some (i + 1, L, .int (x + y) :: r, M)
  | .isub => xP2 st fun x y r => some (i + 1, L, .int (x - y) :: r, M)
  | .imul => xP2 st fun x y r => some (i + 1, L, .int (x * y) :: r, M)
  | .iand => xP2 st fun x y r => some (i + 1, L, .int (x &&& y) :: r, M)
  | .ior => xP2 st fun x y r => some (i + 1, L, .int (x ||| y) :: r, M)
  | .ixor => xP2 st fun x y r => some (i + 1, L, .int (x ^^^ y) :: r, M)
  | .ishl => xP2 st fun x y r => some (i + 1, L, .int (x <<< (y &&& 31)) :: r, M)
  | .ishr => xP2 st fun x y r => some (i + 1, L, .int (x >>> (y &&& 31)) :: r, M)
  | .ladd => xPll st fun x y r => some (i + 1, L, .long (x + y) :: r, M)
  | .lmul => xPll st fun x y r => some (i + 1, L, .long (x * y) :: r, M)
  | .land => xPll st fun x y r => some (i + 1, L, .long (x &&& y) :: r, M)
  | .lor => xPll st fun x y r => some (i + 1, L, .long (x ||| y) :: r, M)
  | .lcmp => xPll st fun x y r => some (i + 1, L, .int (lg_cmp x y) :: r, M)
  | .lshl => xPil st fun x y r => some (i + 1, L, .long (x <<< (y.toInt64 &&& 63)) :: r, M)
  | .lshr => xPil st fun x y r => some (i + 1, L, .long (x >>> (y.toInt64 &&& 63)) :: r, M)
  | .i2l => xP1 st fun x r => some (i + 1, L, .long x.toInt64 :: r, M)
  | .i2b => xP1 st fun x r => some (i + 1, L, .int x.toInt8.toInt32 :: r, M)
  | .l2i => xPl st fun x r => some (i + 1, L, .int x.toInt32 :: r, M)
  | .dup => (match st with
    | z :: r => if z.category = 1 then some (i + 1, L, z :: z :: r, M) else none
    | [] => none)
  | .dup2 => (match st with
    | y :: z :: r => if y.category = 1 ∧ z.category = 1 then some (i + 1, L, y :: z :: y :: z :: r, M) else none
    | _ => none)
  | .ifCond cnd _ => xP1 st fun z r => some (if xc cnd z 0 then ts.getD 0 0 else i + 1, L, r, M)
  | .if_icmp cnd _ => xP2 st fun x y r => some (if xc cnd x y then ts.getD 0 0 else i + 1, L, r, M)
  | .goto _ => some (ts.getD 0 0, L, st, M)
  | .ifnull _ => (match st with
    | .null :: r => some (ts.getD 0 0, L, r, M)
    | .ref _ :: r => some (i + 1, L, r, M)
    | _ => none)
  | .ifnonnull _ => (match st with
    | .null :: r => some (i + 1, L, r, M)
    | .ref _ :: r => some (ts.getD 0 0, L, r, M)
    | _ => none)
  | .tableswitch _ lo hi _ => xP1 st fun z r => some (if z.toInt < lo ∨ hi < z.toInt then ts.getD 0 0 else ts.getD ((z.toInt - lo).toNat + 1) 0, L, r, M)
  | .lookupswitch _ ps => xP1 st fun z r => some (xlk ps.toList (ts.drop 1) (ts.getD 0 0) z.toInt, L, r, M)
  | .getfield _ => xPr st fun o r => xS M o fun s => if s.1 = a ∧ b < s.2.1 then some (i + 1, L, (if xfr a b then xVr (s.2.2.getD b none) else .int (M.2.1 o b)) :: r, M) else none
  | .putfield _ => if xfr a b then (xPrr st fun o q r => xS M o fun s => if s.1 = a ∧ b < s.2.1 ∧ b < s.2.2.length then some (i + 1, L, r, (M.1.set o (s.1, s.2.1, s.2.2.set b (some q)), M.2.1, M.2.2)) else none)
      else (xPri' st fun o z r => xS M o fun s => if s.1 = a ∧ b < s.2.1 then some (i + 1, L, r, (M.1, xup M.2.1 o b z, M.2.2)) else none)
  | .iaload => xPri st fun o j r => xS M o fun s => if s.1 = 100 ∧ ¬ (j < 0 ∨ s.2.1 ≤ j.toNatClampNeg) then some (i + 1, L, .int (M.2.1 o j.toNatClampNeg) :: r, M) else none
  | .baload => xPri st fun o j r => xS M o fun s => if (s.1 = 102 ∨ s.1 = 103) ∧ ¬ (j < 0 ∨ s.2.1 ≤ j.toNatClampNeg) then some (i + 1, L, .int (M.2.1 o j.toNatClampNeg) :: r, M) else none
  | .laload => xPri st fun o j r => xS M o fun s => if s.1 = 101 ∧ ¬ (j < 0 ∨ s.2.1 ≤ j.toNatClampNeg) then some (i + 1, L, .long (M.2.2 o j.toNatClampNeg) :: r, M) else none
  | .aaload => xPri st fun o j r => xS M o fun s => if s.1 = 104 ∧ ¬ (j < 0 ∨ s.2.1 ≤ j.toNatClampNeg) then some (i + 1, L, xVr (s.2.2.getD j.toNatClampNeg none) :: r, M) else none
  | .iastore => xPrii st fun o j z r => xS M o fun s => if s.1 = 100 ∧ ¬ (j < 0 ∨ s.2.1 ≤ j.toNatClampNeg) then some (i + 1, L, r, (M.1, xup M.2.1 o j.toNatClampNeg z, M.2.2)) else none
  | .bastore => xPrii st fun o j z r => xS M o fun s => if s.1 = 102 ∧ ¬ (j < 0 ∨ s.2.1 ≤ j.toNatClampNeg) then some (i + 1, L, r, (M.1, xup M.2.1 o j.toNatClampNeg (z &&& 1), M.2.2))
      else if s.1 = 103 ∧ ¬ (j < 0 ∨ s.2.1 ≤ j.toNatClampNeg) then some (i + 1, L, r, (M.1, xup M.2.1 o j.toNatClampNeg z.toInt8.toInt32, M.2.2)) else none
  | .lastore => xPril st fun o j z r => xS M o fun s => if s.1 = 101 ∧ ¬ (j < 0 ∨ s.2.1 ≤ j.toNatClampNeg) then some (i + 1, L, r, (M.1, M.2.1, xup M.2.2 o j.toNatClampNeg z)) else none
  | .aastore => xPrir st fun o j q r => xS M o fun s => xS M q fun sq => if s.1 = 104 ∧ sq.1 = 0 ∧ j.toNatClampNeg < s.2.2.length ∧ ¬ (j < 0 ∨ s.2.1 ≤ j.toNatClampNeg) then some (i + 1, L, r, (M.1.set o (s.1, s.2.1, s.2.2.set j.toNatClampNeg (some q)), M.2.1, M.2.2)) else none
  | .arraylength => xPr st fun o r => xS M o fun s => if 100 ≤ s.1 ∧ s.1 ≤ 104 then some (i + 1, L, .int (Int32.ofNat s.2.1) :: r, M) else none
  | .new _ => (match vwCl[a]? with
    | some q => some (i + 1, L, .ref M.1.length :: st, (M.1 ++ [(a, q.2.2, List.replicate q.2.2 none)], xz M.2.1 M.1.length 0, xz M.2.2 M.1.length 0))
    | none => none)
  | .newarray _ => xP1 st fun n r => if ¬ n < 0 ∧ n.toNatClampNeg ≤ 10000 then some (i + 1, L, .ref M.1.length :: r, (M.1 ++ [(a, n.toNatClampNeg, [])], xz M.2.1 M.1.length 0, xz M.2.2 M.1.length 0)) else none
  | .anewarray _ => xP1 st fun n r => if ¬ n < 0 ∧ n.toNatClampNeg ≤ 10000 ∧ a = 104 then some (i + 1, L, .ref M.1.length :: r, (M.1 ++ [(104, n.toNatClampNeg, List.replicate n.toNatClampNeg none)], xz M.2.1 M.1.length 0, xz M.2.2 M.1.length 0)) else none
  | .ldc _ => some (i + 1, L, .retAddr 0 :: st, M)
  | _ => none
/-- the bytes of the one text -/
def xtext : List Int32 := [116, 104, 101, 32, 97, 32, 97, 110, 32, 97, 110, 100, 32, 116, 104, 101, 110, 32, 116, 101, 108, 108, 32, 116, 111, 32, 97, 103, 97, 105, 110, 32, 105, 116, 32, 104, 105, 109, 32, 104, 101, 114, 32, 116, 104, 101, 109, 32, 109, 101, 32, 109, 121, 115, 101, 108, 102, 32, 121, 111, 117, 114, 115, 101, 108, 102, 32, 104, 105, 115, 32, 105, 116, 115, 32, 116, 104, 101, 105, 114, 32, 109, 121, 32, 97, 108, 108, 32, 98, 117, 116]
def xtextLen : Nat := 91
/-- the locals at a method's start -/
def xflat (av : List Value) : xL := av.flatMap fun v => if v.category = 2 then [some v, none] else [some v]
def xentry (mL : Nat) (av : List Value) : xL := xflat av ++ List.replicate (mL - (xflat av).length) none
def xretok (ins : Instr) (ret : Option FieldType) (v : Value) : Bool := match ins, ret, v with
  | .ireturn, some .int, .int _ => true
  | .ireturn, some .boolean, .int z => decide (z = 0 ∨ z = 1)
  | .lreturn, some .long, .long _ => true
  | .areturn, some (.object _), .ref _ => true
  | .areturn, some (.object _), .null => true
  | _, _, _ => false
/-- how many arguments a call takes, the receiver too -/
def xna (b : Nat) (me : xMe) : Nat := if me.2.2.2.2.2.1 = 0 then b else b + 1
/-- the receiver is of the class -/
def xrecv (ts : List Nat) (b : Nat) (me : xMe) (st : List Value) (M : xM) : Bool :=
  if me.2.2.2.2.2.1 = 0 then true else match st[b]? with
    | some (.ref o) => if me.2.2.2.2.2.1 = 2 then true else (match M.1[o]? with | some s => decide (s.1 = ts.getD 0 100) | none => false)
    | _ => false
/-- how an instruction is taken: 0 a step, 1 a return with a value, 2 without, 3 a call -/
def xend2 (ins : Instr) : Nat := match ins with
  | .ireturn => 1
  | .lreturn => 1
  | .areturn => 1
  | .return_ => 2
  | .invokevirtual _ => 3
  | .invokespecial _ => 3
  | .invokestatic _ => 3
  | _ => 0
def xret (ins : Instr) (me : xMe) (st : List Value) (M : xM) : Option (Option Value × xM) := match st with
  | [z] => if xretok ins me.2.2.2.1 z then some (some z, M) else none
  | _ => none
def xvret (me : xMe) (st : List Value) (M : xM) : Option (Option Value × xM) := match st with
  | [] => if me.2.2.2.1 = none then some (none, M) else none
  | _ => none
abbrev xF : Type := Nat → xMe → Nat → xL → List Value → xM → Option (Option Value × xM)
/-- a call of a method of the table, one deeper -/
def xcallm (F : xF) (d : Nat) (me : xMe) (ts : List Nat) (a b i : Nat) (L : xL) (st : List Value) (M : xM) : Option (Option Value × xM) := match d, xmt[a]? with
  | d' + 1, some me' =>
    if xna b me' ≤ st.length ∧ ((st.drop (xna b me')).map fun v => v.category).sum ≤ 8 ∧ (xflat (st.take (xna b me')).reverse).length ≤ me'.2.2.1 ∧ xrecv ts b me' st M = true then
      match F d' me' 0 (xentry me'.2.2.1 (st.take (xna b me')).reverse) [] M with
      | some (r, M') => F d me (i + 1) L (r.toList ++ st.drop (xna b me')) M'
      | none => none
    else none
  | _, _ => none
def xcallf (F : xF) (d : Nat) (me : xMe) (x : xI) (i : Nat) (L : xL) (st : List Value) (M : xM) : Option (Option Value × xM) := match x with
  | (_, _, _, ts, a, b, c, _, _) =>
    if c = 2 then (match st with
      | .ref _ :: r => if (r.map fun v => v.category).sum ≤ 8 then F d me (i + 1) L r M else none
      | _ => none)
    else if c = 3 then (match st with
      | .retAddr _ :: r => if 4 ≤ d ∧ (r.map fun v => v.category).sum ≤ 8 then F d me (i + 1) L (.int (nI xtextLen) :: r) M else none
      | _ => none)
    else if c = 4 then (match st with
      | .int k :: .retAddr _ :: r => if 4 ≤ d ∧ (r.map fun v => v.category).sum ≤ 8 ∧ ¬ (k < 0 ∨ xtextLen ≤ k.toNatClampNeg) then F d me (i + 1) L (.int (xtext.getD k.toNatClampNeg 0) :: r) M else none
      | _ => none)
    else xcallm F d me ts a b i L st M
/-- runs: fuel, depth, method, place, locals, stack, memory -/
def ev : Nat → xF
  | 0, _, _, _, _, _, _ => none
  | n + 1, d, me, i, L, st, M =>
    match me.2.2.2.2.2.2[i]? with
    | none => none
    | some x =>
      match xend2 x.2.1 with
      | 0 => (match xstep x i L st M with
        | some (i', L', st', M') => ev n d me i' L' st' M'
        | none => none)
      | 1 => xret x.2.1 me st M
      | 2 => xvret me st M
      | _ => xcallf (ev n) d me x i L st M
end
section
def xlf (B aS : Nat) (v : Value) : Value := match v with
  | .ref r => .ref (B + r)
  | .retAddr _ => .ref aS
  | v => v
def xcell (B : Nat) (cA : Nat → ClassId) (M : xM) (c : Nat) (s : xSh) : va_E :=
  if s.1 < 50 then .inr (s.1, (List.range s.2.1).map fun j => if xfr s.1 j then va_rf ((s.2.2.getD j none).map (B + ·)) else .int (M.2.1 c j))
  else if s.1 = 101 then .inl (cA 1, s.2.1, .inr (.inl (M.2.2 c)))
  else if s.1 = 104 then .inl (cA 4, s.2.1, .inr (.inr (.inr (.inr fun j => (s.2.2.getD j none).map (B + ·)))))
  else .inl (cA (s.1 - 100), s.2.1, .inl (M.2.1 c))
def xwl (B : Nat) (cA : Nat → ClassId) (M : xM) : va_W := M.1.mapIdx fun c s => (B + c, xcell B cA M c s)
def xtys (cA : Nat → ClassId) : List (ClassId × FieldType) := [(cA 0, .int), (cA 1, .long), (cA 2, .boolean), (cA 3, .byte), (cA 4, .object "PronounOrders$Order")]
/-- how many fields and elements the memory has -/
def xsl (M : xM) : Nat := (M.1.map fun s => s.2.1).sum
section
variable {B aS : Nat} {cA : Nat → ClassId} {M M' : xM} {c : Nat} {s s' : xSh}
theorem xwl_get (h : M.1[c]? = some s) : (xwl B cA M)[c]? = some (B + c, xcell B cA M c s) := by
  simp [xwl, List.getElem?_mapIdx, h]
theorem xwl_inv {k : Nat} {q : Nat × va_E} (h : (xwl B cA M)[k]? = some q) : ∃ s, M.1[k]? = some s ∧ q = (B + k, xcell B cA M k s) := by
  simp only [xwl, List.getElem?_mapIdx, Option.map_eq_some_iff] at h
  obtain ⟨s, h1, h2⟩ := h
  exact ⟨s, h1, h2.symm⟩
theorem xwl_len : (xwl B cA M).length = M.1.length := by simp [xwl]
theorem xwl_D : va_D (fun q => B ≤ q) (xwl B cA M) := by
  refine ⟨fun i j p q hi hj e => ?_, fun k q hk => ?_⟩
  · obtain ⟨s, _, rfl⟩ := xwl_inv hi
    obtain ⟨t, _, rfl⟩ := xwl_inv hj
    have e' : B + i = B + j := e
    omega
  · obtain ⟨s, _, rfl⟩ := xwl_inv hk
    exact Nat.le_add_right B k
theorem xcell_congr (h2 : M'.2.1 c = M.2.1 c) (h3 : M'.2.2 c = M.2.2 c) (s : xSh) : xcell B cA M' c s = xcell B cA M c s := by
  unfold xcell; rw [h2, h3]
theorem xwl_set (h : M.1[c]? = some s) (h1 : M'.1 = M.1.set c s') (h2 : ∀ c', c' ≠ c → M'.2.1 c' = M.2.1 c') (h3 : ∀ c', c' ≠ c → M'.2.2 c' = M.2.2 c') {e : va_E} (he : e = xcell B cA M' c s') : (xwl B cA M).set c (B + c, e) = xwl B cA M' := by
  subst he
  apply List.ext_getElem?
  intro k
  have hl : c < M.1.length := (List.getElem?_eq_some_iff.mp h).1
  by_cases hk : k = c
  · subst hk
    rw [List.getElem?_set_self (by rw [xwl_len]; exact hl)]
    exact (xwl_get (by rw [h1, List.getElem?_set_self hl])).symm
  · rw [List.getElem?_set_ne (Ne.symm hk)]
    simp only [xwl, List.getElem?_mapIdx, h1, List.getElem?_set_ne (Ne.symm hk)]
    cases M.1[k]? with
    | none => rfl
    | some t => simp only [Option.map_some]; rw [xcell_congr (h2 k hk) (h3 k hk)]
theorem xset_self (h : M.1[c]? = some s) : M.1 = M.1.set c s := by
  apply List.ext_getElem?
  intro k
  have hl : c < M.1.length := (List.getElem?_eq_some_iff.mp h).1
  by_cases hk : k = c
  · subst hk; rw [List.getElem?_set_self hl, h]
  · rw [List.getElem?_set_ne (Ne.symm hk)]
theorem xup_ne {α : Type} {f : Nat → Nat → α} {c j : Nat} {x : α} {c' : Nat} (h : c' ≠ c) : xup f c j x c' = f c' := by
  funext j'; simp [xup, h]
theorem xup_at (f : Nat → Nat → Int32) (c j : Nat) (x : Int32) : xup f c j x c = upd (f c) j x := by
  funext j'; simp [xup, upd]
theorem xup_atL (f : Nat → Nat → Int64) (c j : Nat) (x : Int64) : xup f c j x c = vp_updL (f c) j x := by
  funext j'; simp [xup, vp_updL]
/-- a new cell at the end -/
theorem xwl_push (h1 : M'.1 = M.1 ++ [s]) (h2 : ∀ c', c' < M.1.length → M'.2.1 c' = M.2.1 c') (h3 : ∀ c', c' < M.1.length → M'.2.2 c' = M.2.2 c') : xwl B cA M' = xwl B cA M ++ [(B + M.1.length, xcell B cA M' M.1.length s)] := by
  apply List.ext_getElem?
  intro k
  by_cases hk : k < M.1.length
  · rw [List.getElem?_append_left (by rw [xwl_len]; exact hk)]
    simp only [xwl, List.getElem?_mapIdx, h1, List.getElem?_append_left hk]
    cases M.1[k]? with
    | none => rfl
    | some t => simp only [Option.map_some]; rw [xcell_congr (h2 k hk) (h3 k hk)]
  · rw [List.getElem?_append_right (by rw [xwl_len]; omega), xwl_len]
    simp only [xwl, List.getElem?_mapIdx, h1, List.getElem?_append_right (Nat.le_of_not_lt hk)]
    by_cases hk2 : k = M.1.length
    · subst hk2; simp
    · have : ∃ z, k - M.1.length = z + 1 := ⟨k - M.1.length - 1, by omega⟩
      obtain ⟨z, hz⟩ := this
      rw [hz]; simp
theorem xz_ne {α : Type} {f : Nat → Nat → α} {c : Nat} {x : α} {c' : Nat} (h : c' ≠ c) : xz f c x c' = f c' := by
  funext j'; simp [xz, h]
theorem xlf_cat (v : Value) : (xlf B aS v).category = v.category := by cases v <;> rfl
theorem xlf_vr (r : Option Nat) : xlf B aS (xVr r) = va_rf (r.map (B + ·)) := by cases r <;> rfl
theorem xobj (h50 : s.1 < 50) {j : Nat} (hj : j < s.2.1) : ((List.range s.2.1).map fun j => if xfr s.1 j then va_rf ((s.2.2.getD j none).map (B + ·)) else Value.int (M.2.1 c j))[j]? = some (xlf B aS (if xfr s.1 j then xVr (s.2.2.getD j none) else .int (M.2.1 c j))) := by
  rw [List.getElem?_map, List.getElem?_range hj]
  simp only [Option.map_some]
  split
  · rw [xlf_vr]
  · rfl
end
/-- the locals as the memory's words have them -/
def xhas (B aS : Nat) (ls : Array Slot) (nL : Nat) (L : xL) : Prop := ls.size = nL ∧ lv_wf ls ∧ L.length = nL ∧ ∀ (i : Nat) (v : Value), L[i]? = some (some v) → ls[i]? = some (.val (xlf B aS v))
def xas (B aS : Nat) (L : xL) : List (Nat × Value) := (List.range L.length).filterMap fun i => (xld L i).map fun v => (i, xlf B aS v)
section
variable {B aS nL : Nat} {ls ls' : Array Slot} {L L' : xL} {i : Nat} {v : Value}
theorem xld_iff : xld L i = some v ↔ L[i]? = some (some v) := by
  unfold xld
  rw [List.getD_eq_getElem?_getD]
  cases L[i]? with
  | none => simp
  | some o => simp
theorem xhas_at (h : xhas B aS ls nL L) (hv : xld L i = some v) : ls[i]? = some (.val (xlf B aS v)) := h.2.2.2 i v (xld_iff.mp hv)
theorem xas_mem {q : Nat × Value} : q ∈ xas B aS L ↔ ∃ v, L[q.1]? = some (some v) ∧ q.2 = xlf B aS v := by
  unfold xas
  rw [List.mem_filterMap]
  constructor
  · rintro ⟨a, -, h⟩
    obtain ⟨v, h1, h2⟩ := Option.map_eq_some_iff.mp h
    subst h2
    exact ⟨v, xld_iff.mp h1, rfl⟩
  · rintro ⟨v, h1, h2⟩
    obtain ⟨a, b⟩ := q
    exact ⟨a, List.mem_range.mpr (List.getElem?_eq_some_iff.mp h1).1, by
      have h3 : xld L a = some v := xld_iff.mpr h1
      have h4 : b = xlf B aS v := h2
      rw [h3, h4]; rfl⟩
theorem xhas_lv (h : xhas B aS ls nL L) : lv_has ls nL (xas B aS L) := by
  refine ⟨h.1, h.2.1, fun q hq => ?_⟩
  obtain ⟨v, h1, h2⟩ := xas_mem.mp hq
  rw [h2]
  exact h.2.2.2 _ v h1
theorem xlong_cat (h : xlong (some v) = false) : ¬ v.category = 2 := by
  cases v <;> simp [xlong, Value.category] at h ⊢
theorem xst1_back (h0 : xhas B aS ls nL L) (hs : xst1 L i v = some L') (h : lv_has ls' nL ((i, xlf B aS v) :: (xas B aS L).filter (fun q => !(q.1 == i) && !(q.1 + 1 == i && q.2.category == 2)))) : xhas B aS ls' nL L' := by
  unfold xst1 at hs
  split at hs
  case isFalse => cases hs
  case isTrue hc =>
    cases hs
    refine ⟨h.1, h.2.1, by rw [List.length_set]; exact h0.2.2.1, fun j w hj => ?_⟩
    by_cases hji : j = i
    · subst hji
      rw [List.getElem?_set_self hc.1] at hj
      cases hj
      exact h.2.2 _ List.mem_cons_self
    · rw [List.getElem?_set_ne (Ne.symm hji)] at hj
      refine h.2.2 (j, xlf B aS w) (List.mem_cons_of_mem _ (List.mem_filter.mpr ⟨xas_mem.mpr ⟨w, hj, rfl⟩, ?_⟩))
      simp only [Bool.and_eq_true, Bool.not_eq_true', beq_eq_false_iff_ne, ne_eq, Bool.and_eq_false_iff]
      refine ⟨hji, ?_⟩
      by_cases hj1 : j + 1 = i
      · refine Or.inr ?_
        rcases hc.2 with hz | hz
        · omega
        · have hz' : xlong (some w) = false := by
            rw [List.getD_eq_getElem?_getD, show i - 1 = j by omega, hj] at hz
            exact hz
          rw [xlf_cat]
          exact xlong_cat hz'
      · exact Or.inl hj1
theorem xst1_lt (h0 : xhas B aS ls nL L) (hs : xst1 L i v = some L') : i < nL := by
  unfold xst1 at hs
  split at hs
  case isFalse => cases hs
  case isTrue hc => rw [← h0.2.2.1]; exact hc.1
theorem xst2_lt (h0 : xhas B aS ls nL L) (hs : xst2 L i v = some L') : i + 1 < nL := by
  unfold xst2 at hs
  split at hs
  case isFalse => cases hs
  case isTrue hc => rw [← h0.2.2.1]; exact hc.1
theorem xst2_back (h0 : xhas B aS ls nL L) (hs : xst2 L i v = some L') (h : lv_has ls' nL ((i, xlf B aS v) :: (xas B aS L).filter (fun q => !(q.1 == i) && (!(q.1 == i + 1) && !(q.1 + 1 == i && q.2.category == 2))))) : xhas B aS ls' nL L' := by
  unfold xst2 at hs
  split at hs
  case isFalse => cases hs
  case isTrue hc =>
    cases hs
    refine ⟨h.1, h.2.1, by rw [List.length_set, List.length_set]; exact h0.2.2.1, fun j w hj => ?_⟩
    by_cases hji' : j = i + 1
    · subst hji'
      rw [List.getElem?_set_self (by rw [List.length_set]; exact hc.1)] at hj
      cases hj
    · rw [List.getElem?_set_ne (Ne.symm hji')] at hj
      by_cases hji : j = i
      · subst hji
        rw [List.getElem?_set_self (by omega)] at hj
        cases hj
        exact h.2.2 _ List.mem_cons_self
      · rw [List.getElem?_set_ne (Ne.symm hji)] at hj
        refine h.2.2 (j, xlf B aS w) (List.mem_cons_of_mem _ (List.mem_filter.mpr ⟨xas_mem.mpr ⟨w, hj, rfl⟩, ?_⟩))
        simp only [Bool.and_eq_true, Bool.not_eq_true', beq_eq_false_iff_ne, ne_eq, Bool.and_eq_false_iff]
        refine ⟨hji, hji', ?_⟩
        by_cases hj1 : j + 1 = i
        · refine Or.inr ?_
          rcases hc.2 with hz | hz
          · omega
          · have hz' : xlong (some w) = false := by
              rw [List.getD_eq_getElem?_getD, show i - 1 = j by omega, hj] at hz
              exact hz
            rw [xlf_cat]
            exact xlong_cat hz'
        · exact Or.inl hj1
theorem xargs_mem : ∀ (av : List Value) (o j : Nat) (w : Value), (xflat av)[j]? = some (some w) → (o + j, xlf B aS w) ∈ lv_args o (av.map (xlf B aS))
  | [], o, j, w, h => by simp [xflat] at h
  | v :: av, o, j, w, h => by
    have e : xflat (v :: av) = (if v.category = 2 then [some v, none] else [some v]) ++ xflat av := by simp [xflat]
    rw [e] at h
    rw [List.map_cons, lv_args, xlf_cat]
    by_cases hv : v.category = 2
    · rw [if_pos hv] at h
      rw [if_pos hv]
      match j, h with
      | 0, h => cases h; exact List.mem_cons_self
      | 1, h => cases h
      | j + 2, h =>
        have h' : (xflat av)[j]? = some (some w) := by simpa using h
        have := xargs_mem av (o + 2) j w h'
        rw [show o + (j + 2) = o + 2 + j by omega]
        exact List.mem_cons_of_mem _ this
    · rw [if_neg hv] at h
      rw [if_neg hv]
      match j, h with
      | 0, h => cases h; exact List.mem_cons_self
      | j + 1, h =>
        have h' : (xflat av)[j]? = some (some w) := by simpa using h
        have := xargs_mem av (o + 1) j w h'
        rw [show o + (j + 1) = o + 1 + j by omega]
        exact List.mem_cons_of_mem _ this
theorem xflat_len (av : List Value) : (lg_sl (av.map (xlf B aS))).length = (xflat av).length := by
  induction av with
  | nil => rfl
  | cons v av ih =>
    have e : xflat (v :: av) = (if v.category = 2 then [some v, none] else [some v]) ++ xflat av := by simp [xflat]
    have e2 : lg_sl ((v :: av).map (xlf B aS)) = (if (xlf B aS v).category = 2 then [Slot.val (xlf B aS v), Slot.second] else [Slot.val (xlf B aS v)]) ++ lg_sl (av.map (xlf B aS)) := by simp [lg_sl]
    rw [e, e2, List.length_append, List.length_append, ih, xlf_cat]
    by_cases hv : v.category = 2
    · rw [if_pos hv, if_pos hv]; rfl
    · rw [if_neg hv, if_neg hv]; rfl
theorem xentry_has (av : List Value) {mL : Nat} (hl : (xflat av).length ≤ mL) : xhas B aS ((lg_sl (av.map (xlf B aS)) ++ List.replicate (mL - (lg_sl (av.map (xlf B aS))).length) Slot.unset).toArray) mL (xentry mL av) := by
  have h := lv_entry (av.map (xlf B aS)) (n := mL) (by rw [xflat_len]; exact hl)
  refine ⟨h.1, h.2.1, by simp [xentry]; omega, fun j w hj => ?_⟩
  have hj' : (xflat av)[j]? = some (some w) := by
    unfold xentry at hj
    by_cases hlt : j < (xflat av).length
    · rwa [List.getElem?_append_left hlt] at hj
    · rw [List.getElem?_append_right (by omega), List.getElem?_replicate] at hj
      split at hj <;> cases hj
  have := xargs_mem (B := B) (aS := aS) av 0 j w hj'
  rw [Nat.zero_add] at this
  exact h.2.2 _ this
end
def xisR (t : FieldType) : Bool := match t with
  | .object _ => true
  | .array _ => true
  | _ => false
theorem xisR_nf {t : FieldType} (h : xisR t = true) (a : Nat) : narrow t (.ref a) = .ref a ∧ fits t (.ref a) = true := by
  cases t <;> simp [xisR] at h <;> exact ⟨rfl, rfl⟩
/-- what is known of each class -/
theorem xcl : ∀ (ci : Nat) (q : vw_C), vwCl[ci]? = some q → ci < 50 ∧ (∀ w ∈ u_ws q.1 q.2.1 q.2.2, w ∈ lw_tbl) ∧ (∃ ty0 : Nat → FieldType, (∀ k, k < q.2.2 → parseFieldDescriptor (q.2.1 k).2.2.1 = some (ty0 k)) ∧ ∀ j, j < q.2.2 → (xfr ci j = false ∧ ty0 j = .int) ∨ (xfr ci j = true ∧ xisR (ty0 j) = true)) ∧ (∀ a, a < q.2.2 → ∀ b, b < q.2.2 → a ≠ b → (q.2.1 a).2.1 ≠ (q.2.1 b).2.1) := by
  intro ci q h
  match ci, h with
  | 0, h => cases h; exact ⟨by decide, inX0, ⟨tyX0, tyX0_ok, by decide +kernel⟩, nmX0⟩
  | 1, h => cases h; exact ⟨by decide, inX1, ⟨tyX1, tyX1_ok, by decide +kernel⟩, nmX1⟩
  | 2, h => cases h; exact ⟨by decide, inX2, ⟨tyX2, tyX2_ok, by decide +kernel⟩, nmX2⟩
  | 3, h => cases h; exact ⟨by decide, inX3, ⟨tyX3, tyX3_ok, by decide +kernel⟩, nmX3⟩
  | 4, h => cases h; exact ⟨by decide, inX4, ⟨tyX4, tyX4_ok, by decide +kernel⟩, nmX4⟩
  | 5, h => cases h; exact ⟨by decide, inX5, ⟨tyX5, tyX5_ok, by decide +kernel⟩, nmX5⟩
  | 6, h => cases h; exact ⟨by decide, inX6, ⟨tyX6, tyX6_ok, by decide +kernel⟩, nmX6⟩
  | 7, h => cases h; exact ⟨by decide, inX7, ⟨tyX7, tyX7_ok, by decide +kernel⟩, nmX7⟩
  | 8, h => cases h; exact ⟨by decide, inX8, ⟨tyX8, tyX8_ok, by decide +kernel⟩, nmX8⟩
  | 9, h => cases h; exact ⟨by decide, inX9, ⟨tyX9, tyX9_ok, by decide +kernel⟩, nmX9⟩
  | 10, h => cases h; exact ⟨by decide, inX10, ⟨tyX10, tyX10_ok, by decide +kernel⟩, nmX10⟩
  | n + 11, h => simp [vwCl] at h
end
section
/-- the words that hold at every callee too -/
def xg : List Cond := lw_tbl.filter goodWord
def xnest (w : Cond) : Bool := match w with
  | .methodLinkNest .. => true
  | _ => false
/-- what else is known of the tables -/
def xE (U : State) : Prop := va_AO "PronounOrders$Order" U ∧ ∀ w ∈ lw_tbl, xnest w = true → va_Nw w U
theorem xE.warm {s U : State} (hW : s.WarmedH U.vm) (h : xE s) : xE U := by
  refine ⟨h.1.moved hW.alike, fun w hw hn => ?_⟩
  have := h.2 w hw hn
  cases w <;> first | (simp [xnest] at hn; done) | exact va_Nw.warmM hW this
theorem xg_of {w : Cond} (h : w ∈ lw_tbl) (hg : goodWord w = true) : w ∈ xg := List.mem_filter.mpr ⟨h, hg⟩
theorem xg_lk {lk : Nat} {w : Cond} (h : xW lk w = true) (hg : goodWord w = true) : w ∈ xg := xg_of (List.mem_of_getElem? (of_decide_eq_true h)) hg
theorem xg_good : ∀ w ∈ xg, goodWord w = true := fun _ h => (List.mem_filter.mp h).2
theorem xlays_good {C : String} {T : u_T} {N : Nat} {w : Cond} (h : w ∈ u_ws C T N) : goodWord w = true := by
  obtain ⟨k, -, rfl⟩ := List.mem_map.mp h
  unfold u_lay
  split <;> rfl
/-- a method's frame, and what is known there -/
def xCx (p : Program) (s : State) (m : MethodId) (args : Array Value) (meth : Method) (c : Code) (me : xMe) (D : va_G) (B n0 : Nat) (cA : Nat → ClassId) : Prop :=
  p.tables.exec = Jvm.exec ∧ c.code = me.2.1 ∧ c.maxLocals = me.2.2.1 ∧ meth.sig.returnType = me.2.2.2.1 ∧ meth.locks = false ∧ meth.name = me.1.name ∧ s.vm.findClass me.2.2.2.2.1 = some m.cls ∧ (∀ w ∈ xg, w.before args s = true) ∧ va_K D vwCl (xtys cA) s ∧ s.heap.size = B + n0 ∧ xE s ∧ xokM me = true
def xSt (D : va_G) (B : Nat) (cA : Nat → ClassId) (M : xM) (s : State) (H : Heap) (locs : List Loc) : Prop := va_P D vwCl (xwl B cA M) H ∧ va_S (fun q => B ≤ q) s.heap H locs
section
variable {α : Type} {st : List Value} {a : α}

theorem xP1_inv {f : Int32 → List Value → Option α} (h : xP1 st f = some a) : ∃ (x : Int32) (r : List Value), st = .int x :: r ∧ f x r = some a := by
  unfold xP1 at h
  split at h
  · exact ⟨_, _, rfl, h⟩
  · cases h
theorem xP2_inv {f : Int32 → Int32 → List Value → Option α} (h : xP2 st f = some a) : ∃ (x y : Int32) (r : List Value), st = .int y :: .int x :: r ∧ f x y r = some a := by
  unfold xP2 at h
  split at h
  · exact ⟨_, _, _, rfl, h⟩
  · cases h
theorem xPl_inv {f : Int64 → List Value → Option α} (h : xPl st f = some a) : ∃ (x : Int64) (r : List Value), st = .long x :: r ∧ f x r = some a := by
  unfold xPl at h
  split at h
  · exact ⟨_, _, rfl, h⟩
  · cases h
theorem xPll_inv {f : Int64 → Int64 → List Value → Option α} (h : xPll st f = some a) : ∃ (x y : Int64) (r : List Value), st = .long y :: .long x :: r ∧ f x y r = some a := by
  unfold xPll at h
  split at h
  · exact ⟨_, _, _, rfl, h⟩
  · cases h
theorem xPil_inv {f : Int64 → Int32 → List Value → Option α} (h : xPil st f = some a) : ∃ (x : Int64) (y : Int32) (r : List Value), st = .int y :: .long x :: r ∧ f x y r = some a := by
  unfold xPil at h
  split at h
  · exact ⟨_, _, _, rfl, h⟩
  · cases h
theorem xPr_inv {f : Nat → List Value → Option α} (h : xPr st f = some a) : ∃ (x : Nat) (r : List Value), st = .ref x :: r ∧ f x r = some a := by
  unfold xPr at h
  split at h
  · exact ⟨_, _, rfl, h⟩
  · cases h
theorem xPri_inv {f : Nat → Int32 → List Value → Option α} (h : xPri st f = some a) : ∃ (o : Nat) (j : Int32) (r : List Value), st = .int j :: .ref o :: r ∧ f o j r = some a := by
  unfold xPri at h
  split at h
  · exact ⟨_, _, _, rfl, h⟩
  · cases h
theorem xPri'_inv {f : Nat → Int32 → List Value → Option α} (h : xPri' st f = some a) : ∃ (o : Nat) (j : Int32) (r : List Value), st = .int j :: .ref o :: r ∧ f o j r = some a := by
  unfold xPri' at h
  split at h
  · exact ⟨_, _, _, rfl, h⟩
  · cases h
theorem xPrii_inv {f : Nat → Int32 → Int32 → List Value → Option α} (h : xPrii st f = some a) : ∃ (o : Nat) (j z : Int32) (r : List Value), st = .int z :: .int j :: .ref o :: r ∧ f o j z r = some a := by
  unfold xPrii at h
  split at h
  · exact ⟨_, _, _, _, rfl, h⟩
  · cases h
theorem xPril_inv {f : Nat → Int32 → Int64 → List Value → Option α} (h : xPril st f = some a) : ∃ (o : Nat) (j : Int32) (z : Int64) (r : List Value), st = .long z :: .int j :: .ref o :: r ∧ f o j z r = some a := by
  unfold xPril at h
  split at h
  · exact ⟨_, _, _, _, rfl, h⟩
  · cases h
theorem xPrir_inv {f : Nat → Int32 → Nat → List Value → Option α} (h : xPrir st f = some a) : ∃ (o : Nat) (j : Int32) (z : Nat) (r : List Value), st = .ref z :: .int j :: .ref o :: r ∧ f o j z r = some a := by
  unfold xPrir at h
  split at h
  · exact ⟨_, _, _, _, rfl, h⟩
  · cases h
theorem xPrr_inv {f : Nat → Nat → List Value → Option α} (h : xPrr st f = some a) : ∃ (o z : Nat) (r : List Value), st = .ref z :: .ref o :: r ∧ f o z r = some a := by
  unfold xPrr at h
  split at h
  · exact ⟨_, _, _, rfl, h⟩
  · cases h
theorem xpR_inv {f : Value → List Value → Option α} (h : xpR st f = some a) : ∃ (v : Value) (r : List Value), ((∃ x, v = .ref x) ∨ v = .null) ∧ st = v :: r ∧ f v r = some a := by
  unfold xpR at h
  split at h
  · exact ⟨_, _, Or.inl ⟨_, rfl⟩, rfl, h⟩
  · exact ⟨_, _, Or.inr rfl, rfl, h⟩
  · cases h
theorem xldI_inv {L : xL} {i : Nat} {f : Int32 → Option α} (h : xldI L i f = some a) : ∃ x, xld L i = some (.int x) ∧ f x = some a := by
  unfold xldI at h
  split at h
  next x e => exact ⟨x, e, h⟩
  · cases h
theorem xldL_inv {L : xL} {i : Nat} {f : Int64 → Option α} (h : xldL L i f = some a) : ∃ x, xld L i = some (.long x) ∧ f x = some a := by
  unfold xldL at h
  split at h
  next x e => exact ⟨x, e, h⟩
  · cases h
theorem xldR_inv {L : xL} {i : Nat} {f : Value → Option α} (h : xldR L i f = some a) : ∃ v, ((∃ x, v = .ref x) ∨ v = .null) ∧ xld L i = some v ∧ f v = some a := by
  unfold xldR at h
  split at h
  next x e => exact ⟨_, Or.inl ⟨x, rfl⟩, e, h⟩
  next e => exact ⟨_, Or.inr rfl, e, h⟩
  · cases h
theorem xS_inv {M : xM} {o : Nat} {f : xSh → Option α} (h : xS M o f = some a) : ∃ s, M.1[o]? = some s ∧ f s = some a := by
  unfold xS at h
  split at h
  next s e => exact ⟨s, e, h⟩
  · cases h
theorem xbind_inv {β : Type} {x : Option β} {f : β → Option α} (h : x.bind f = some a) : ∃ y, x = some y ∧ f y = some a := Option.bind_eq_some_iff.mp h
theorem xif_inv {P : Prop} [Decidable P] {x : Option α} (h : (if P then x else none) = some a) : P ∧ x = some a := by
  split at h
  next q => exact ⟨q, h⟩
  · cases h
end
theorem xokIs_get {own : String} {cc : ByteArray} {name : String} {P : List xI} : ∀ (xs : List xI) (o j : Nat) (x : xI), xokIs own cc name P o xs = true → xs[j]? = some x → xokI own cc name P (o + j) x = true
  | [], o, j, x, h, hx => by simp at hx
  | y :: xs, o, j, x, h, hx => by
    simp only [xokIs, Bool.and_eq_true] at h
    match j, hx with
    | 0, hx => cases hx; exact h.1
    | j + 1, hx =>
      have := xokIs_get xs (o + 1) j x h.2 (by simpa using hx)
      rwa [show o + (j + 1) = o + 1 + j by omega]
theorem xjmps_at {P : List xI} {pc : Nat} : ∀ (ts : List Nat) (os : List Int) (k : Nat) (o : Int) (y : xI), xjmps P pc ts os = true → os[k]? = some o → P[ts.getD k 0]? = some y → (pc : Int) + o = (y.1 : Int)
  | [], [], k, o, y, h, ho, hy => by simp at ho
  | [], _ :: _, k, o, y, h, ho, hy => by simp [xjmps] at h
  | _ :: _, [], k, o, y, h, ho, hy => by simp at ho
  | t :: ts, q :: os, k, o, y, h, ho, hy => by
    simp only [xjmps, Bool.and_eq_true] at h
    match k, ho, hy with
    | 0, ho, hy =>
      cases ho
      have hy' : P[t]? = some y := hy
      have h1 := h.1
      unfold xjmp at h1
      rw [hy'] at h1
      exact of_decide_eq_true h1
    | k + 1, ho, hy => exact xjmps_at ts os k o y h.2 (by simpa using ho) (by simpa using hy)
theorem xjmps_ex {P : List xI} {pc : Nat} : ∀ (ts : List Nat) (os : List Int) (k : Nat) (o : Int), xjmps P pc ts os = true → os[k]? = some o → ∃ t : Nat, (pc : Int) + o = (t : Int)
  | [], [], k, o, h, ho => by simp at ho
  | [], _ :: _, k, o, h, ho => by simp [xjmps] at h
  | _ :: _, [], k, o, h, ho => by simp at ho
  | t :: ts, q :: os, k, o, h, ho => by
    simp only [xjmps, Bool.and_eq_true] at h
    match k, ho with
    | 0, ho =>
      cases ho
      have h1 := h.1
      unfold xjmp at h1
      split at h1
      next y _ => exact ⟨y.1, of_decide_eq_true h1⟩
      · cases h1
    | k + 1, ho => exact xjmps_ex ts os k o h.2 (by simpa using ho)
theorem xrange_set {n b : Nat} {f g : Nat → Value} {v : Value} (hg : ∀ j, j < n → g j = if j = b then v else f j) : ((List.range n).map f).set b v = (List.range n).map g := by
  apply List.ext_getElem?
  intro k
  by_cases hk : k < n
  · by_cases hb : k = b
    · subst hb
      rw [List.getElem?_set_self (by simpa using hk), List.getElem?_map, List.getElem?_range hk, Option.map_some, hg k hk, if_pos rfl]
    · rw [List.getElem?_set_ne (Ne.symm hb), List.getElem?_map, List.getElem?_map, List.getElem?_range hk, Option.map_some, Option.map_some, hg k hk, if_neg hb]
  · rw [List.getElem?_eq_none (by simpa using hk), List.getElem?_eq_none (by simpa using hk)]
theorem xsl_set {M : xM} {o : Nat} {s s' : xSh} (h : M.1[o]? = some s) (he : s'.2.1 = s.2.1) (a : Nat → Nat → Int32) (b : Nat → Nat → Int64) : xsl (M.1.set o s', a, b) = xsl M := by
  unfold xsl
  have : (M.1.set o s').map (fun s => s.2.1) = M.1.map (fun s => s.2.1) := by
    apply List.ext_getElem?
    intro k
    by_cases hk : k = o
    · subst hk
      rw [List.getElem?_map, List.getElem?_map, List.getElem?_set_self (List.getElem?_eq_some_iff.mp h).1, h, Option.map_some, Option.map_some, he]
    · rw [List.getElem?_map, List.getElem?_map, List.getElem?_set_ne (Ne.symm hk)]
  show ((M.1.set o s').map (fun s => s.2.1)).sum = _
  rw [this]
theorem xlk_off : ∀ (ps : List (Int × Int)) (ts : List Nat) (P : List xI) (pc d : Nat) (dflt : Int) (v : Int) (y : xI), xjmps P pc ts (ps.map Prod.snd) = true → (∀ y, P[d]? = some y → (pc : Int) + dflt = (y.1 : Int)) → P[xlk ps ts d v]? = some y → (pc : Int) + Op.lookupswitch.offset ps dflt v = (y.1 : Int)
  | [], ts, P, pc, d, dflt, v, y, h, hd, hy => by
    have : xlk [] ts d v = d := by cases ts <;> rfl
    rw [this] at hy
    exact hd y hy
  | (a, o) :: ps, [], P, pc, d, dflt, v, y, h, hd, hy => by simp [xjmps] at h
  | (a, o) :: ps, t :: ts, P, pc, d, dflt, v, y, h, hd, hy => by
    simp only [List.map_cons, xjmps, Bool.and_eq_true] at h
    unfold xlk at hy
    rw [Op.lookupswitch.offset_cons]
    by_cases hv : a = v
    · rw [if_pos hv] at hy
      rw [if_pos hv]
      have h1 := h.1
      unfold xjmp at h1
      rw [hy] at h1
      exact of_decide_eq_true h1
    · rw [if_neg hv] at hy
      rw [if_neg hv]
      exact xlk_off ps ts P pc d dflt v y h.2 hd hy

def xLdc (l : Launch) (Z : State → Prop) (D : va_G) (B aS : Nat) (cA : Nat → ClassId) : Prop :=
  ∀ (p : Program) (e : Env) (R : Room) (s : State) (m : MethodId) (args : Array Value) (below : List Frame) (meth : Method) (c : Code) (H : Heap) (locs : List Loc) (cells slots : Nat) (Q : State → Prop) (me : xMe) (n0 : Nat) (ls : Array Slot) (pc idx : Nat) (r : List Value),
    xCx p s m args meth c me D B n0 cA → Z s → decode me.2.1 pc = .ok (.ldc idx, 2) → Cond.stringRef me.2.2.2.2.1 idx "the a an and then tell to again it him her them me myself yourself his its their my all but" ∈ lw_tbl →
    W p l e R s m args below meth c H locs cells slots Q (F0 m (pc + 2) ls (.ref aS :: r)) → W p l e R s m args below meth c H locs cells slots Q (F0 m pc ls r)
end
section
section
variable {p : Program} {l : Launch} {e : Env} {R : Room} {s : State} {m : MethodId} {args : Array Value} {below : List Frame} {meth : Method} {c : Code} {H : Heap} {locs : List Loc} {cells slots : Nat} {Q : State → Prop}
variable {me : xMe} {D : va_G} {B n0 s0 aS : Nat} {cA : Nat → ClassId} {M M1 : xM} {ls : Array Slot} {L L' : xL} {st st' : List Value} {i i' : Nat} {y : xI}
/-- how large the heap is -/
theorem xsize {g : JFrame} (C : xCx p s m args meth c me D B n0 cA) (hSt : xSt D B cA M s H locs) (hc : cells + n0 = M.1.length) (k : H.size = B + M.1.length → W p l e R s m args below meth c H locs cells slots Q g) : W p l e R s m args below meth c H locs cells slots Q g := by
  intro T hT X
  have h1 := X.heapSize
  have h2 : s.heap.size = B + n0 := C.2.2.2.2.2.2.2.2.2.1
  have h3 := hSt.2.1
  refine k ?_ T hT X
  rw [hT] at h1
  have h4 : B + M.1.length ≤ H.size := by
    by_cases hz : M.1.length = 0
    · omega
    · have hlt : M.1.length - 1 < M.1.length := by omega
      have hg : M.1[M.1.length - 1]? = some M.1[M.1.length - 1] := List.getElem?_eq_getElem hlt
      have := (hSt.1 _ _ (xwl_get (B := B) (cA := cA) hg)).lt
      have h5 : B + (M.1.length - 1) < H.size := this
      omega
  omega
theorem xok_at {x : xI} (C : xCx p s m args meth c me D B n0 cA) (hi : me.2.2.2.2.2.2[i]? = some x) : xokI me.2.2.2.2.1 me.2.1 me.1.name me.2.2.2.2.2.2 i x = true := by
  have h := C.2.2.2.2.2.2.2.2.2.2.2
  unfold xokM at h
  simp only [Bool.and_eq_true] at h
  have := xokIs_get _ 0 i x h.2.2.2 hi
  rwa [Nat.zero_add] at this
abbrev xK (p : Program) (l : Launch) (e : Env) (R : Room) (s : State) (m : MethodId) (args : Array Value) (below : List Frame) (meth : Method) (c : Code) (Q : State → Prop) (me : xMe) (D : va_G) (B n0 s0 aS : Nat) (cA : Nat → ClassId) (L' : xL) (st' : List Value) (M1 : xM) (pc : Nat) : Prop :=
  ∀ (ls' : Array Slot) (H' : Heap) (locs' : List Loc) (cells' slots' : Nat), xhas B aS ls' me.2.2.1 L' → xSt D B cA M1 s H' locs' → cells' + n0 = M1.1.length → slots' + s0 = xsl M1 → W p l e R s m args below meth c H' locs' cells' slots' Q (F0 m pc ls' (st'.map (xlf B aS)))
set_option maxHeartbeats 4000000 in
set_option maxRecDepth 100000 in
theorem xstep_W {Z : State → Prop} {x : xI} (hldc : xLdc l Z D B aS cA) (hZs : Z s) (C : xCx p s m args meth c me D B n0 cA) (hi : me.2.2.2.2.2.2[i]? = some x) (h : xstep x i L st M = some (i', L', st', M1)) (hy : me.2.2.2.2.2.2[i']? = some y) (hL : xhas B aS ls me.2.2.1 L) (hSt : xSt D B cA M s H locs) (hc : cells + n0 = M.1.length) (hs : slots + s0 = xsl M) (hm1 : M1.1.length ≤ n0 + R.cells) (hm2 : xsl M1 ≤ s0 + R.slots)
    (kk : xK p l e R s m args below meth c Q me D B n0 s0 aS cA L' st' M1 y.1) : W p l e R s m args below meth c H locs cells slots Q (F0 m x.1 ls (st.map (xlf B aS))) := by
  have hI := xok_at C hi
  obtain ⟨hx, hb, hml, hr, hlocks, hnm, hown, hts, hK, hsz, hE, -⟩ := id C
  obtain ⟨pc, ins, len, ts, a, b, cf, lk, v⟩ := x
  simp only [xokI, Bool.and_eq_true, decide_eq_true_eq] at hI
  obtain ⟨hd, hlen, hn0, hlk⟩ := hI
  have hn : ∀ y : xI, me.2.2.2.2.2.2[i + 1]? = some y → y.1 = pc + len := fun y hy => by rw [hy] at hn0; exact of_decide_eq_true hn0
  clear hn0
  show W p l e R s m args below meth c H locs cells slots Q (F0 m pc ls (st.map (xlf B aS)))
  cases ins with
  | iconst n =>
    have hl : len = 1 := by simpa [xlenok] using hlen
    subst hl
    cases h
    have ey := hn y hy
    have k := kk ls H locs cells slots hL hSt hc hs
    rw [ey] at k
    exact lv_iconst hx hb hd rfl k
  | bipush n =>
    have hl : len = 2 := by simpa [xlenok] using hlen
    subst hl
    cases h
    have ey := hn y hy
    have k := kk ls H locs cells slots hL hSt hc hs
    rw [ey] at k
    exact lv_bipush hx hb hd rfl k
  | sipush n =>
    have hl : len = 3 := by simpa [xlenok] using hlen
    subst hl
    cases h
    have ey := hn y hy
    have k := kk ls H locs cells slots hL hSt hc hs
    rw [ey] at k
    exact lv_sipush hx hb hd rfl k
  | lconst n =>
    have hl : len = 1 := by simpa [xlenok] using hlen
    subst hl
    cases h
    have ey := hn y hy
    have k := kk ls H locs cells slots hL hSt hc hs
    rw [ey] at k
    exact lv_lconst hx hb hd rfl k
  | aconst_null =>
    have hl : len = 1 := by simpa [xlenok] using hlen
    subst hl
    cases h
    have ey := hn y hy
    have k := kk ls H locs cells slots hL hSt hc hs
    rw [ey] at k
    exact lv_null hx hb hd k
  | ldc2_w idx =>
    have hl : len = 3 := by simpa [xlenok] using hlen
    subst hl
    cases h
    have ey := hn y hy
    have k := kk ls H locs cells slots hL hSt hc hs
    rw [ey] at k
    exact lv_ldc2 hx hb hown (hts _ (xg_lk hlk rfl)) hd k
  | iload k =>
    have hl : len = 2 := by simpa [xlenok] using hlen
    subst hl
    obtain ⟨z, hz, h⟩ := xldI_inv h
    cases h
    have ey := hn y hy
    have k := kk ls H locs cells slots hL hSt hc hs
    rw [ey] at k
    exact lv_iload hx hb hd (xhas_at hL hz) k
  | iload_n k =>
    have hl : len = 1 := by simpa [xlenok] using hlen
    subst hl
    obtain ⟨z, hz, h⟩ := xldI_inv h
    cases h
    have ey := hn y hy
    have k := kk ls H locs cells slots hL hSt hc hs
    rw [ey] at k
    exact lv_iload_n hx hb hd rfl (xhas_at hL hz) k
  | lload k =>
    have hl : len = 2 := by simpa [xlenok] using hlen
    subst hl
    obtain ⟨z, hz, h⟩ := xldL_inv h
    cases h
    have ey := hn y hy
    have k := kk ls H locs cells slots hL hSt hc hs
    rw [ey] at k
    exact lv_lload hx hb hd (xhas_at hL hz) k
  | lload_n k =>
    have hl : len = 1 := by simpa [xlenok] using hlen
    subst hl
    obtain ⟨z, hz, h⟩ := xldL_inv h
    cases h
    have ey := hn y hy
    have k := kk ls H locs cells slots hL hSt hc hs
    rw [ey] at k
    exact lv_lload_n hx hb hd rfl (xhas_at hL hz) k
  | aload k =>
    have hl : len = 2 := by simpa [xlenok] using hlen
    subst hl
    simp only [xstep] at h
    obtain ⟨z, hz0, hz, h⟩ := xldR_inv h
    cases h
    have ey := hn y hy
    have k := kk ls H locs cells slots hL hSt hc hs
    rw [ey] at k
    rcases hz0 with ⟨q, rfl⟩ | rfl
    · exact lv_aload hx hb hd (xhas_at hL hz) k
    · exact lv_aloadN hx hb hd (xhas_at hL hz) k
  | aload_n k =>
    have hl : len = 1 := by simpa [xlenok] using hlen
    subst hl
    simp only [xstep] at h
    obtain ⟨z, hz0, hz, h⟩ := xldR_inv h
    cases h
    have ey := hn y hy
    have k := kk ls H locs cells slots hL hSt hc hs
    rw [ey] at k
    rcases hz0 with ⟨q, rfl⟩ | rfl
    · exact lv_aload_n hx hb hd rfl (xhas_at hL hz) k
    · exact lv_aload_nN hx hb hd rfl (xhas_at hL hz) k
  | istore k =>
    have hl : len = 2 := by simpa [xlenok] using hlen
    subst hl
    obtain ⟨z, r, rfl, h⟩ := xP1_inv h
    obtain ⟨L2, hL2, h⟩ := xbind_inv h
    cases h
    have e := hn y hy
    rw [e] at kk
    exact lv_istore hx hb hd (xhas_lv hL) (xst1_lt hL hL2) rfl (fun ls2 h2 => kk ls2 H locs cells slots (xst1_back hL hL2 h2) hSt hc hs)
  | istore_n k =>
    have hl : len = 1 := by simpa [xlenok] using hlen
    subst hl
    obtain ⟨z, r, rfl, h⟩ := xP1_inv h
    obtain ⟨L2, hL2, h⟩ := xbind_inv h
    cases h
    have e := hn y hy
    rw [e] at kk
    exact lv_istore_n hx hb hd rfl (xhas_lv hL) (xst1_lt hL hL2) rfl (fun ls2 h2 => kk ls2 H locs cells slots (xst1_back hL hL2 h2) hSt hc hs)
  | lstore k =>
    have hl : len = 2 := by simpa [xlenok] using hlen
    subst hl
    obtain ⟨z, r, rfl, h⟩ := xPl_inv h
    obtain ⟨L2, hL2, h⟩ := xbind_inv h
    cases h
    have e := hn y hy
    rw [e] at kk
    exact lv_lstore hx hb hd (xhas_lv hL) (xst2_lt hL hL2) rfl (fun ls2 h2 => kk ls2 H locs cells slots (xst2_back hL hL2 h2) hSt hc hs)
  | lstore_n k =>
    have hl : len = 1 := by simpa [xlenok] using hlen
    subst hl
    obtain ⟨z, r, rfl, h⟩ := xPl_inv h
    obtain ⟨L2, hL2, h⟩ := xbind_inv h
    cases h
    have e := hn y hy
    rw [e] at kk
    exact lv_lstore_n hx hb hd rfl (xhas_lv hL) (xst2_lt hL hL2) rfl (fun ls2 h2 => kk ls2 H locs cells slots (xst2_back hL hL2 h2) hSt hc hs)
  | astore k =>
    have hl : len = 2 := by simpa [xlenok] using hlen
    subst hl
    simp only [xstep] at h
    obtain ⟨z, r, hz0, rfl, h2⟩ := xpR_inv h
    obtain ⟨L2, hL2, h2⟩ := xbind_inv h2
    cases h2
    have e := hn y hy
    rw [e] at kk
    rcases hz0 with ⟨q, rfl⟩ | rfl
    · exact lv_astore hx hb hd (xhas_lv hL) (xst1_lt hL hL2) rfl (fun ls2 h2 => kk ls2 H locs cells slots (xst1_back hL hL2 h2) hSt hc hs)
    · exact lv_astoreN hx hb hd (xhas_lv hL) (xst1_lt hL hL2) rfl (fun ls2 h2 => kk ls2 H locs cells slots (xst1_back hL hL2 h2) hSt hc hs)
  | astore_n k =>
    have hl : len = 1 := by simpa [xlenok] using hlen
    subst hl
    simp only [xstep] at h
    obtain ⟨z, r, hz0, rfl, h2⟩ := xpR_inv h
    obtain ⟨L2, hL2, h2⟩ := xbind_inv h2
    cases h2
    have e := hn y hy
    rw [e] at kk
    rcases hz0 with ⟨q, rfl⟩ | rfl
    · exact lv_astore_n hx hb hd rfl (xhas_lv hL) (xst1_lt hL hL2) rfl (fun ls2 h2 => kk ls2 H locs cells slots (xst1_back hL hL2 h2) hSt hc hs)
    · exact lv_astore_nN hx hb hd rfl (xhas_lv hL) (xst1_lt hL hL2) rfl (fun ls2 h2 => kk ls2 H locs cells slots (xst1_back hL hL2 h2) hSt hc hs)
  | iinc k n =>
    have hl : len = 3 := by simpa [xlenok] using hlen
    subst hl
    obtain ⟨z, hz, h⟩ := xldI_inv h
    obtain ⟨L2, hL2, h⟩ := xbind_inv h
    cases h
    have e := hn y hy
    rw [e] at kk
    obtain ⟨kx, hkx⟩ := List.getElem?_of_mem (xas_mem (B := B) (aS := aS) (q := (k, .int z)).mpr ⟨.int z, xld_iff.mp hz, rfl⟩)
    exact lv_iinc hx hb hd (xhas_lv hL) hkx rfl (xst1_lt hL hL2) rfl (fun ls2 h2 => kk ls2 H locs cells slots (xst1_back hL hL2 h2) hSt hc hs)
  | iadd =>
    have hl : len = 1 := by simpa [xlenok] using hlen
    subst hl
    obtain ⟨u, w, r, rfl, h⟩ := xP2_inv h
    cases h
    have ey := hn y hy
    have k := kk ls H locs cells slots hL hSt hc hs
    rw [ey] at k
    exact lv_iadd hx hb hd k
  | isub =>
    have hl : len = 1 := by simpa [xlenok] using hlen
    subst hl
    obtain ⟨u, w, r, rfl, h⟩ := xP2_inv h
    cases h
    have ey := hn y hy
    have k := kk ls H locs cells slots hL hSt hc hs
    rw [ey] at k
    exact lv_isub hx hb hd k
  | imul =>
    have hl : len = 1 := by simpa [xlenok] using hlen
    subst hl
    obtain ⟨u, w, r, rfl, h⟩ := xP2_inv h
    cases h
    have ey := hn y hy
    have k := kk ls H locs cells slots hL hSt hc hs
    rw [ey] at k
    exact lv_imul hx hb hd k
  | iand =>
    have hl : len = 1 := by simpa [xlenok] using hlen
    subst hl
    obtain ⟨u, w, r, rfl, h⟩ := xP2_inv h
    cases h
    have ey := hn y hy
    have k := kk ls H locs cells slots hL hSt hc hs
    rw [ey] at k
    exact lv_iand hx hb hd k
  | ior =>
    have hl : len = 1 := by simpa [xlenok] using hlen
    subst hl
    obtain ⟨u, w, r, rfl, h⟩ := xP2_inv h
    cases h
    have ey := hn y hy
    have k := kk ls H locs cells slots hL hSt hc hs
    rw [ey] at k
    exact lv_ior hx hb hd k
  | ixor =>
    have hl : len = 1 := by simpa [xlenok] using hlen
    subst hl
    obtain ⟨u, w, r, rfl, h⟩ := xP2_inv h
    cases h
    have ey := hn y hy
    have k := kk ls H locs cells slots hL hSt hc hs
    rw [ey] at k
    exact lv_ixor hx hb hd k
  | ishl =>
    have hl : len = 1 := by simpa [xlenok] using hlen
    subst hl
    obtain ⟨u, w, r, rfl, h⟩ := xP2_inv h
    cases h
    have ey := hn y hy
    have k := kk ls H locs cells slots hL hSt hc hs
    rw [ey] at k
    exact lv_ishl hx hb hd k
  | ishr =>
    have hl : len = 1 := by simpa [xlenok] using hlen
    subst hl
    obtain ⟨u, w, r, rfl, h⟩ := xP2_inv h
    cases h
    have ey := hn y hy
    have k := kk ls H locs cells slots hL hSt hc hs
    rw [ey] at k
    exact lv_ishr hx hb hd k
  | ladd =>
    have hl : len = 1 := by simpa [xlenok] using hlen
    subst hl
    obtain ⟨u, w, r, rfl, h⟩ := xPll_inv h
    cases h
    have ey := hn y hy
    have k := kk ls H locs cells slots hL hSt hc hs
    rw [ey] at k
    exact lv_ladd hx hb hd k
  | lmul =>
    have hl : len = 1 := by simpa [xlenok] using hlen
    subst hl
    obtain ⟨u, w, r, rfl, h⟩ := xPll_inv h
    cases h
    have ey := hn y hy
    have k := kk ls H locs cells slots hL hSt hc hs
    rw [ey] at k
    exact lv_lmul hx hb hd k
  | land =>
    have hl : len = 1 := by simpa [xlenok] using hlen
    subst hl
    obtain ⟨u, w, r, rfl, h⟩ := xPll_inv h
    cases h
    have ey := hn y hy
    have k := kk ls H locs cells slots hL hSt hc hs
    rw [ey] at k
    exact lv_land hx hb hd k
  | lor =>
    have hl : len = 1 := by simpa [xlenok] using hlen
    subst hl
    obtain ⟨u, w, r, rfl, h⟩ := xPll_inv h
    cases h
    have ey := hn y hy
    have k := kk ls H locs cells slots hL hSt hc hs
    rw [ey] at k
    exact lv_lor hx hb hd k
  | lcmp =>
    have hl : len = 1 := by simpa [xlenok] using hlen
    subst hl
    obtain ⟨u, w, r, rfl, h⟩ := xPll_inv h
    cases h
    have ey := hn y hy
    have k := kk ls H locs cells slots hL hSt hc hs
    rw [ey] at k
    exact W.lcmp hx hb hd k
  | lshl =>
    have hl : len = 1 := by simpa [xlenok] using hlen
    subst hl
    obtain ⟨u, w, r, rfl, h⟩ := xPil_inv h
    cases h
    have ey := hn y hy
    have k := kk ls H locs cells slots hL hSt hc hs
    rw [ey] at k
    exact lv_lshl hx hb hd rfl k
  | lshr =>
    have hl : len = 1 := by simpa [xlenok] using hlen
    subst hl
    obtain ⟨u, w, r, rfl, h⟩ := xPil_inv h
    cases h
    have ey := hn y hy
    have k := kk ls H locs cells slots hL hSt hc hs
    rw [ey] at k
    exact lv_lshr hx hb hd rfl k
  | i2l =>
    have hl : len = 1 := by simpa [xlenok] using hlen
    subst hl
    obtain ⟨u, r, rfl, h⟩ := xP1_inv h
    cases h
    have ey := hn y hy
    have k := kk ls H locs cells slots hL hSt hc hs
    rw [ey] at k
    exact lv_i2l hx hb hd rfl k
  | i2b =>
    have hl : len = 1 := by simpa [xlenok] using hlen
    subst hl
    obtain ⟨u, r, rfl, h⟩ := xP1_inv h
    cases h
    have ey := hn y hy
    have k := kk ls H locs cells slots hL hSt hc hs
    rw [ey] at k
    exact lv_i2b hx hb hd rfl k
  | l2i =>
    have hl : len = 1 := by simpa [xlenok] using hlen
    subst hl
    obtain ⟨u, r, rfl, h⟩ := xPl_inv h
    cases h
    have ey := hn y hy
    have k := kk ls H locs cells slots hL hSt hc hs
    rw [ey] at k
    exact lv_l2i hx hb hd rfl k
  | dup =>
    have hl : len = 1 := by simpa [xlenok] using hlen
    subst hl
    simp only [xstep] at h
    split at h
    next z r =>
      obtain ⟨hz, h⟩ := xif_inv h
      cases h
      have ey := hn y hy
      have k := kk ls H locs cells slots hL hSt hc hs
      rw [ey] at k
      exact lv_dup hx hb hd (by rw [xlf_cat]; exact hz) k
    next => cases h
  | dup2 =>
    have hl : len = 1 := by simpa [xlenok] using hlen
    subst hl
    simp only [xstep] at h
    split at h
    next z w r =>
      obtain ⟨hz, h⟩ := xif_inv h
      cases h
      have ey := hn y hy
      have k := kk ls H locs cells slots hL hSt hc hs
      rw [ey] at k
      exact lv_dup2_11 hx hb hd (by rw [xlf_cat]; exact hz.1) (by rw [xlf_cat]; exact hz.2) k
    next => cases h
  | ifCond cnd off =>
    have hl : len = 3 := by simpa [xlenok] using hlen
    subst hl
    obtain ⟨z, r, rfl, h⟩ := xP1_inv h
    cases h
    have k := kk ls H locs cells slots hL hSt hc hs
    obtain ⟨tx, htx⟩ := xjmps_ex _ _ 0 off hlk rfl
    by_cases q : xc cnd z 0 = true
    · rw [if_pos q] at hy
      have ht := xjmps_at _ _ 0 off y hlk rfl hy
      cases cnd <;> first
        | exact lv_if_eq (tgt := y.1) hx hb hd ht (fun _ => k) (fun nq => absurd (by simpa [xc] using q) nq)
        | exact lv_if_ne (tgt := y.1) hx hb hd ht (fun _ => k) (fun nq => absurd (by simpa [xc] using q) nq)
        | exact lv_if_ne (tgt := y.1) hx hb hd ht (fun _ => k) (fun nq => absurd nq (by simpa [xc] using q))
        | exact lv_if_lt (tgt := y.1) hx hb hd ht (fun _ => k) (fun nq => absurd (by simpa [xc] using q) nq)
        | exact lv_if_ge (tgt := y.1) hx hb hd ht (fun _ => k) (fun nq => absurd (by simpa [xc] using q) nq)
        | exact lv_if_gt (tgt := y.1) hx hb hd ht (fun _ => k) (fun nq => absurd (by simpa [xc] using q) nq)
        | exact lv_if_le (tgt := y.1) hx hb hd ht (fun _ => k) (fun nq => absurd (by simpa [xc] using q) nq)
    · rw [if_neg q] at hy
      have ey := hn y hy
      rw [ey] at k
      cases cnd <;> first
        | exact lv_if_eq (tgt := tx) hx hb hd htx (fun nq => absurd nq (by simpa [xc] using q)) (fun _ => k)
        | exact lv_if_ne (tgt := tx) hx hb hd htx (fun nq => absurd nq (by simpa [xc] using q)) (fun _ => k)
        | exact lv_if_lt (tgt := tx) hx hb hd htx (fun nq => absurd nq (by simpa [xc] using q)) (fun _ => k)
        | exact lv_if_ge (tgt := tx) hx hb hd htx (fun nq => absurd nq (by simpa [xc] using q)) (fun _ => k)
        | exact lv_if_gt (tgt := tx) hx hb hd htx (fun nq => absurd nq (by simpa [xc] using q)) (fun _ => k)
        | exact lv_if_le (tgt := tx) hx hb hd htx (fun nq => absurd nq (by simpa [xc] using q)) (fun _ => k)
  | if_icmp cnd off =>
    have hl : len = 3 := by simpa [xlenok] using hlen
    subst hl
    obtain ⟨z, w, r, rfl, h⟩ := xP2_inv h
    cases h
    have k := kk ls H locs cells slots hL hSt hc hs
    obtain ⟨tx, htx⟩ := xjmps_ex _ _ 0 off hlk rfl
    by_cases q : xc cnd z w = true
    · rw [if_pos q] at hy
      have ht := xjmps_at _ _ 0 off y hlk rfl hy
      cases cnd <;> first
        | exact lv_icmp_eq (tgt := y.1) hx hb hd ht (fun _ => k) (fun nq => absurd (by simpa [xc] using q) nq)
        | exact lv_icmp_ne (tgt := y.1) hx hb hd ht (fun _ => k) (fun nq => absurd (by simpa [xc] using q) nq)
        | exact lv_icmp_ne (tgt := y.1) hx hb hd ht (fun _ => k) (fun nq => absurd nq (by simpa [xc] using q))
        | exact lv_icmp_lt (tgt := y.1) hx hb hd ht (fun _ => k) (fun nq => absurd (by simpa [xc] using q) nq)
        | exact lv_icmp_ge (tgt := y.1) hx hb hd ht (fun _ => k) (fun nq => absurd (by simpa [xc] using q) nq)
        | exact lv_icmp_gt (tgt := y.1) hx hb hd ht (fun _ => k) (fun nq => absurd (by simpa [xc] using q) nq)
        | exact lv_icmp_le (tgt := y.1) hx hb hd ht (fun _ => k) (fun nq => absurd (by simpa [xc] using q) nq)
    · rw [if_neg q] at hy
      have ey := hn y hy
      rw [ey] at k
      cases cnd <;> first
        | exact lv_icmp_eq (tgt := tx) hx hb hd htx (fun nq => absurd nq (by simpa [xc] using q)) (fun _ => k)
        | exact lv_icmp_ne (tgt := tx) hx hb hd htx (fun nq => absurd nq (by simpa [xc] using q)) (fun _ => k)
        | exact lv_icmp_lt (tgt := tx) hx hb hd htx (fun nq => absurd nq (by simpa [xc] using q)) (fun _ => k)
        | exact lv_icmp_ge (tgt := tx) hx hb hd htx (fun nq => absurd nq (by simpa [xc] using q)) (fun _ => k)
        | exact lv_icmp_gt (tgt := tx) hx hb hd htx (fun nq => absurd nq (by simpa [xc] using q)) (fun _ => k)
        | exact lv_icmp_le (tgt := tx) hx hb hd htx (fun nq => absurd nq (by simpa [xc] using q)) (fun _ => k)
  | goto off =>
    have hl : len = 3 := by simpa [xlenok] using hlen
    subst hl
    cases h
    have k := kk ls H locs cells slots hL hSt hc hs
    exact lv_goto (tgt := y.1) hx hb hd (xjmps_at _ _ 0 off y hlk rfl hy) k
  | ifnull off =>
    have hl : len = 3 := by simpa [xlenok] using hlen
    subst hl
    simp only [xstep] at h
    split at h
    next r =>
      cases h
      exact lv_ifnullN (tgt := y.1) hx hb hd (xjmps_at _ _ 0 off y hlk rfl hy) (kk ls H locs cells slots hL hSt hc hs)
    next q r =>
      cases h
      have e := hn y hy
      rw [e] at kk
      exact lv_ifnull hx hb hd (kk ls H locs cells slots hL hSt hc hs)
    next => cases h
  | ifnonnull off =>
    have hl : len = 3 := by simpa [xlenok] using hlen
    subst hl
    simp only [xstep] at h
    split at h
    next r =>
      cases h
      have e := hn y hy
      rw [e] at kk
      exact lv_ifnonnullN hx hb hd (kk ls H locs cells slots hL hSt hc hs)
    next q r =>
      cases h
      exact lv_ifnonnull (tgt := y.1) hx hb hd (xjmps_at _ _ 0 off y hlk rfl hy) (kk ls H locs cells slots hL hSt hc hs)
    next => cases h
  | tableswitch d lo hh offs =>
    obtain ⟨z, r, rfl, h⟩ := xP1_inv h
    cases h
    simp only [Bool.and_eq_true, decide_eq_true_eq] at hlk
    have k := kk ls H locs cells slots hL hSt hc hs
    by_cases q : z.toInt < lo ∨ hh < z.toInt
    · rw [if_pos q] at hy
      exact lv_tableOut (tgt := y.1) hx hb hd q (xjmps_at _ _ 0 d y hlk.1 rfl hy) k
    · rw [if_neg q] at hy
      have q1 : ¬ z.toInt < lo := fun z => q (Or.inl z)
      have q2 : ¬ hh < z.toInt := fun z => q (Or.inr z)
      have hlt : (z.toInt - lo).toNat < offs.size := by have := hlk.2; omega
      have ho : offs[(z.toInt - lo).toNat]? = some offs[(z.toInt - lo).toNat] := Array.getElem?_eq_getElem hlt
      refine lv_tableIn (tgt := y.1) hx hb hd q1 q2 ho (xjmps_at _ _ ((z.toInt - lo).toNat + 1) _ y hlk.1 ?_ hy) k
      rw [List.getElem?_cons_succ, Array.getElem?_toList]
      exact ho
  | lookupswitch d ps =>
    obtain ⟨z, r, rfl, h⟩ := xP1_inv h
    cases h
    simp only [Bool.and_eq_true] at hlk
    have k := kk ls H locs cells slots hL hSt hc hs
    cases ts with
    | nil => simp [xjmps] at hlk
    | cons t ts =>
      have h1 := hlk.1
      simp only [xjmps, Bool.and_eq_true] at h1
      refine lv_lookup (tgt := y.1) hx hb hd hlk.2 rfl (xlk_off ps.toList ts _ pc t d z.toInt y h1.2 (fun y hy => ?_) hy) k
      have h2 := h1.1
      unfold xjmp at h2
      rw [hy] at h2
      exact of_decide_eq_true h2
  | getfield idx =>
    have hl : len = 3 := by simpa [xlenok] using hlen
    subst hl
    obtain ⟨o, r, rfl, h⟩ := xPr_inv h
    obtain ⟨sh, hsh, h⟩ := xS_inv h
    obtain ⟨hq1, h⟩ := xif_inv h
    cases h
    have ey := hn y hy
    have k := kk ls H locs cells slots hL hSt hc hs
    rw [ey] at k
    dsimp only at hlk
    split at hlk
    next q hq =>
      obtain ⟨Cn, T, N⟩ := q
      simp only [Bool.and_eq_true, decide_eq_true_eq] at hlk
      obtain ⟨h50, hin, -, -⟩ := xcl a _ hq
      have he := xwl_get (B := B) (cA := cA) hsh
      rw [xcell, if_pos (by rw [hq1.1]; exact h50)] at he
      obtain ⟨t1, t2, t3⟩ := sh
      obtain ⟨rfl, hq2⟩ := hq1
      exact va_get hx hb hts (fun w hw => xg_of (hin w hw) (xlays_good hw)) hown hK hSt.1 o he hq b hlk.1 (hts _ (xg_lk hlk.2 rfl)) (fun _ h => h) (xobj (s := (t1, t2, t3)) (aS := aS) h50 hq2) hd k
    next => cases hlk
  | putfield idx =>
    have hl : len = 3 := by simpa [xlenok] using hlen
    subst hl
    simp only [xstep] at h
    have e0 : ∀ y : xI, me.2.2.2.2.2.2[i + 1]? = some y → y.1 = pc + 3 := hn
    split at h
    next hfr =>
      obtain ⟨o, z, r, rfl, h⟩ := xPrr_inv h
      obtain ⟨sh, hsh, h⟩ := xS_inv h
      obtain ⟨hq1, h⟩ := xif_inv h
      cases h
      have ey := e0 y hy
      rw [ey] at kk
      dsimp only at hlk
      split at hlk
      next q hq =>
        obtain ⟨Cn, T, N⟩ := q
        simp only [Bool.and_eq_true, decide_eq_true_eq] at hlk
        obtain ⟨h50, hin, ⟨ty0, hty, hrf⟩, hnm2⟩ := xcl a _ hq
        have he := xwl_get (B := B) (cA := cA) hsh
        rw [xcell, if_pos (by rw [hq1.1]; exact h50)] at he
        obtain ⟨t1, t2, t3⟩ := sh
        obtain ⟨rfl, hq2⟩ := hq1
        have hts2 : ∀ w ∈ u_ws Cn T N, w ∈ xg := fun w hw => xg_of (hin w hw) (xlays_good hw)
        have hnar : narrow (ty0 b) (.ref (B + z)) = .ref (B + z) ∧ fits (ty0 b) (.ref (B + z)) = true := by
          rcases hrf b hlk.1 with h | h
          · rw [h.1] at hfr; cases hfr
          · exact xisR_nf h.2 _
        have hl1 : b < ((List.range t2).map fun j => if xfr t1 j then va_rf ((t3.getD j none).map (B + ·)) else Value.int (M.2.1 o j)).length := by simpa using hq2.1
        have fin : ∀ (H1 : Heap) (locs1 : List Loc), va_P D vwCl ((xwl B cA M).set o (B + o, .inr (t1, ((List.range t2).map fun j => if xfr t1 j then va_rf ((t3.getD j none).map (B + ·)) else Value.int (M.2.1 o j)).set b (.ref (B + z))))) H1 → va_D (fun q => B ≤ q) ((xwl B cA M).set o (B + o, .inr (t1, ((List.range t2).map fun j => if xfr t1 j then va_rf ((t3.getD j none).map (B + ·)) else Value.int (M.2.1 o j)).set b (.ref (B + z))))) → va_S (fun q => B ≤ q) s.heap H1 locs1 → W p l e R s m args below meth c H1 locs1 cells slots Q (F0 m (pc + 3) ls (st'.map (xlf B aS))) := by
          intro H1 locs1 hP1 _ hS1
          have hse : (xwl B cA M).set o (B + o, .inr (t1, ((List.range t2).map fun j => if xfr t1 j then va_rf ((t3.getD j none).map (B + ·)) else Value.int (M.2.1 o j)).set b (.ref (B + z)))) = xwl B cA (M.1.set o (t1, t2, t3.set b (some z)), M.2.1, M.2.2) := by
            refine xwl_set (M' := (M.1.set o (t1, t2, t3.set b (some z)), M.2.1, M.2.2)) hsh (s' := (t1, t2, t3.set b (some z))) rfl (fun _ _ => rfl) (fun _ _ => rfl) ?_
            rw [xcell, if_pos h50]
            congr 2
            refine xrange_set (fun j hj => ?_)
            by_cases hjb : j = b
            · subst hjb
              rw [if_pos rfl]
              simp only [hfr, if_true]
              rw [List.getD_eq_getElem?_getD, List.getElem?_set_self hq2.2]
              rfl
            · rw [if_neg hjb]
              simp only [List.getD_eq_getElem?_getD]
              rw [List.getElem?_set_ne (Ne.symm hjb)]
          rw [hse] at hP1
          exact kk ls H1 locs1 cells slots hL ⟨hP1, hS1⟩ (by simpa using hc) (by show slots + s0 = xsl (M.1.set o (t1, t2, t3.set b (some z)), M.2.1, M.2.2); rw [xsl_set (s' := (t1, t2, t3.set b (some z))) hsh rfl]; exact hs)
        rcases hlk.2.2 with hfin | ⟨hfin, hini, hdecl⟩
        · exact va_put hx hb hts hts2 ty0 hty hnm2 hown hK hSt.1 xwl_D hSt.2 o he hq b hlk.1 (hts _ (xg_lk hlk.2.1 rfl)) (fun _ h => h) hfin (hty b hlk.1) hnar.1 hnar.2 hl1 hd fin
        · exact va_putF hx hb hts hts2 ty0 hty hnm2 hown hK hSt.1 xwl_D hSt.2 o he hq b hlk.1 (hts _ (xg_lk hlk.2.1 rfl)) (fun _ h => h) hfin (hnm.trans hini) hdecl (hty b hlk.1) hnar.1 hnar.2 hl1 hd fin
      next => cases hlk
    next hfr =>
      obtain ⟨o, z, r, rfl, h⟩ := xPri'_inv h
      obtain ⟨sh, hsh, h⟩ := xS_inv h
      obtain ⟨hq1, h⟩ := xif_inv h
      cases h
      have ey := e0 y hy
      rw [ey] at kk
      dsimp only at hlk
      split at hlk
      next q hq =>
        obtain ⟨Cn, T, N⟩ := q
        simp only [Bool.and_eq_true, decide_eq_true_eq] at hlk
        obtain ⟨h50, hin, ⟨ty0, hty, hrf⟩, hnm2⟩ := xcl a _ hq
        have he := xwl_get (B := B) (cA := cA) hsh
        rw [xcell, if_pos (by rw [hq1.1]; exact h50)] at he
        obtain ⟨t1, t2, t3⟩ := sh
        obtain ⟨rfl, hq2⟩ := hq1
        have hts2 : ∀ w ∈ u_ws Cn T N, w ∈ xg := fun w hw => xg_of (hin w hw) (xlays_good hw)
        have hnar : narrow (ty0 b) (.int z) = .int z ∧ fits (ty0 b) (.int z) = true := by
          rcases hrf b hlk.1 with h | h
          · rw [h.2]; exact ⟨rfl, rfl⟩
          · exact absurd h.1 hfr
        have hl1 : b < ((List.range t2).map fun j => if xfr t1 j then va_rf ((t3.getD j none).map (B + ·)) else Value.int (M.2.1 o j)).length := by simpa using hq2
        have fin : ∀ (H1 : Heap) (locs1 : List Loc), va_P D vwCl ((xwl B cA M).set o (B + o, .inr (t1, ((List.range t2).map fun j => if xfr t1 j then va_rf ((t3.getD j none).map (B + ·)) else Value.int (M.2.1 o j)).set b (.int z)))) H1 → va_D (fun q => B ≤ q) ((xwl B cA M).set o (B + o, .inr (t1, ((List.range t2).map fun j => if xfr t1 j then va_rf ((t3.getD j none).map (B + ·)) else Value.int (M.2.1 o j)).set b (.int z)))) → va_S (fun q => B ≤ q) s.heap H1 locs1 → W p l e R s m args below meth c H1 locs1 cells slots Q (F0 m (pc + 3) ls (st'.map (xlf B aS))) := by
          intro H1 locs1 hP1 _ hS1
          have hse : (xwl B cA M).set o (B + o, .inr (t1, ((List.range t2).map fun j => if xfr t1 j then va_rf ((t3.getD j none).map (B + ·)) else Value.int (M.2.1 o j)).set b (.int z))) = xwl B cA (M.1, xup M.2.1 o b z, M.2.2) := by
            refine xwl_set (M' := (M.1, xup M.2.1 o b z, M.2.2)) hsh (s' := (t1, t2, t3)) (xset_self hsh) (fun _ h => xup_ne h) (fun _ _ => rfl) ?_
            rw [xcell, if_pos h50]
            congr 2
            refine xrange_set (fun j hj => ?_)
            by_cases hjb : j = b
            · subst hjb
              rw [if_pos rfl]
              simp only [hfr, xup]
              simp
            · rw [if_neg hjb]
              simp only [xup, if_true, if_neg hjb]
          rw [hse] at hP1
          exact kk ls H1 locs1 cells slots hL ⟨hP1, hS1⟩ hc hs
        rcases hlk.2.2 with hfin | ⟨hfin, hini, hdecl⟩
        · exact va_put hx hb hts hts2 ty0 hty hnm2 hown hK hSt.1 xwl_D hSt.2 o he hq b hlk.1 (hts _ (xg_lk hlk.2.1 rfl)) (fun _ h => h) hfin (hty b hlk.1) hnar.1 hnar.2 hl1 hd fin
        · exact va_putF hx hb hts hts2 ty0 hty hnm2 hown hK hSt.1 xwl_D hSt.2 o he hq b hlk.1 (hts _ (xg_lk hlk.2.1 rfl)) (fun _ h => h) hfin (hnm.trans hini) hdecl (hty b hlk.1) hnar.1 hnar.2 hl1 hd fin
      next => cases hlk
  | iaload =>
    have hl : len = 1 := by simpa [xlenok] using hlen
    subst hl
    obtain ⟨o, j, r, rfl, h⟩ := xPri_inv h
    obtain ⟨sh, hsh, h⟩ := xS_inv h
    obtain ⟨hq1, h⟩ := xif_inv h
    cases h
    have ey := hn y hy
    have k := kk ls H locs cells slots hL hSt hc hs
    rw [ey] at k
    have he := xwl_get (B := B) (cA := cA) hsh
    obtain ⟨t1, t2, t3⟩ := sh
    obtain ⟨rfl, hq2⟩ := hq1
    exact va_iald hx hb hK hSt.1 o 0 he rfl hq2 hd k
  | laload =>
    have hl : len = 1 := by simpa [xlenok] using hlen
    subst hl
    obtain ⟨o, j, r, rfl, h⟩ := xPri_inv h
    obtain ⟨sh, hsh, h⟩ := xS_inv h
    obtain ⟨hq1, h⟩ := xif_inv h
    cases h
    have ey := hn y hy
    have k := kk ls H locs cells slots hL hSt hc hs
    rw [ey] at k
    have he := xwl_get (B := B) (cA := cA) hsh
    obtain ⟨t1, t2, t3⟩ := sh
    obtain ⟨rfl, hq2⟩ := hq1
    exact va_lald hx hb hK hSt.1 o 1 he rfl hq2 hd k
  | aaload =>
    have hl : len = 1 := by simpa [xlenok] using hlen
    subst hl
    obtain ⟨o, j, r, rfl, h⟩ := xPri_inv h
    obtain ⟨sh, hsh, h⟩ := xS_inv h
    obtain ⟨hq1, h⟩ := xif_inv h
    cases h
    have ey := hn y hy
    have k := kk ls H locs cells slots hL hSt hc hs
    rw [ey] at k
    have he := xwl_get (B := B) (cA := cA) hsh
    obtain ⟨t1, t2, t3⟩ := sh
    obtain ⟨rfl, hq2⟩ := hq1
    have k2 : W p l e R s m args below meth c H locs cells slots Q (F0 m (pc + 1) ls (va_rf ((t3.getD j.toNatClampNeg none).map (B + ·)) :: r.map (xlf B aS))) := by
      rw [← xlf_vr (aS := aS)]
      exact k
    exact va_aldq (C := "PronounOrders$Order") hx hb hK hSt.1 o 4 he rfl hq2 hd k2
  | baload =>
    have hl : len = 1 := by simpa [xlenok] using hlen
    subst hl
    obtain ⟨o, j, r, rfl, h⟩ := xPri_inv h
    obtain ⟨sh, hsh, h⟩ := xS_inv h
    obtain ⟨hq1, h⟩ := xif_inv h
    cases h
    have ey := hn y hy
    have k := kk ls H locs cells slots hL hSt hc hs
    rw [ey] at k
    have he := xwl_get (B := B) (cA := cA) hsh
    obtain ⟨t1, t2, t3⟩ := sh
    obtain ⟨hq0, hq2⟩ := hq1
    rcases hq0 with hq0 | hq0
    · have hq0' : t1 = 102 := hq0
      subst hq0'
      exact va_zald hx hb hK hSt.1 o 2 he rfl hq2 hd k
    · have hq0' : t1 = 103 := hq0
      subst hq0'
      exact va_bald hx hb hK hSt.1 o 3 he rfl hq2 hd k
  | iastore =>
    have hl : len = 1 := by simpa [xlenok] using hlen
    subst hl
    obtain ⟨o, j, z, r, rfl, h⟩ := xPrii_inv h
    obtain ⟨sh, hsh, h⟩ := xS_inv h
    obtain ⟨hq1, h⟩ := xif_inv h
    cases h
    have e := hn y hy
    rw [e] at kk
    obtain ⟨t1, t2, t3⟩ := sh
    obtain ⟨rfl, hq2⟩ := hq1
    have he := xwl_get (B := B) (cA := cA) hsh
    refine va_iast hx hb hK hSt.1 xwl_D hSt.2 o 0 he rfl hq2 hd (fun H1 locs1 hP1 _ hS1 => ?_)
    rw [xwl_set (M' := (M.1, xup M.2.1 o j.toNatClampNeg z, M.2.2)) hsh (xset_self hsh) (fun _ h => xup_ne h) (fun _ h => rfl) (by rw [← xup_at]; rfl)] at hP1
    exact kk ls H1 locs1 cells slots hL ⟨hP1, hS1⟩ hc hs
  | lastore =>
    have hl : len = 1 := by simpa [xlenok] using hlen
    subst hl
    obtain ⟨o, j, z, r, rfl, h⟩ := xPril_inv h
    obtain ⟨sh, hsh, h⟩ := xS_inv h
    obtain ⟨hq1, h⟩ := xif_inv h
    cases h
    have e := hn y hy
    rw [e] at kk
    obtain ⟨t1, t2, t3⟩ := sh
    obtain ⟨rfl, hq2⟩ := hq1
    have he := xwl_get (B := B) (cA := cA) hsh
    refine va_last hx hb hK hSt.1 xwl_D hSt.2 o 1 he rfl hq2 hd (fun H1 locs1 hP1 _ hS1 => ?_)
    rw [xwl_set (M' := (M.1, M.2.1, xup M.2.2 o j.toNatClampNeg z)) hsh (xset_self hsh) (fun _ h => rfl) (fun _ h => xup_ne h) (by rw [← xup_atL]; rfl)] at hP1
    exact kk ls H1 locs1 cells slots hL ⟨hP1, hS1⟩ hc hs
  | bastore =>
    have hl : len = 1 := by simpa [xlenok] using hlen
    subst hl
    obtain ⟨o, j, z, r, rfl, h⟩ := xPrii_inv h
    obtain ⟨sh, hsh, h⟩ := xS_inv h
    
    obtain ⟨t1, t2, t3⟩ := sh
    simp only at h
    split at h
    next hq1 =>
      cases h
      have e := hn y hy
      rw [e] at kk
      obtain ⟨hq0, hq2⟩ := hq1
      have hq0' : t1 = 102 := hq0
      subst hq0'
      have he := xwl_get (B := B) (cA := cA) hsh
      refine va_zast hx hb hK hSt.1 xwl_D hSt.2 o 2 he rfl hq2 hd (fun H1 locs1 hP1 _ hS1 => ?_)
      rw [xwl_set (M' := (M.1, xup M.2.1 o j.toNatClampNeg (z &&& 1), M.2.2)) hsh (xset_self hsh) (fun _ h => xup_ne h) (fun _ h => rfl) (by rw [show vp_nar .boolean z = z &&& 1 from rfl, ← xup_at]; rfl)] at hP1
      exact kk ls H1 locs1 cells slots hL ⟨hP1, hS1⟩ hc hs
    next =>
      obtain ⟨hq1, h⟩ := xif_inv h
      cases h
      have e := hn y hy
      rw [e] at kk
      obtain ⟨hq0, hq2⟩ := hq1
      have hq0' : t1 = 103 := hq0
      subst hq0'
      have he := xwl_get (B := B) (cA := cA) hsh
      refine va_bast hx hb hK hSt.1 xwl_D hSt.2 o 3 he rfl hq2 hd (fun H1 locs1 hP1 _ hS1 => ?_)
      rw [xwl_set (M' := (M.1, xup M.2.1 o j.toNatClampNeg z.toInt8.toInt32, M.2.2)) hsh (xset_self hsh) (fun _ h => xup_ne h) (fun _ h => rfl) (by rw [show vp_nar .byte z = z.toInt8.toInt32 from rfl, ← xup_at]; rfl)] at hP1
      exact kk ls H1 locs1 cells slots hL ⟨hP1, hS1⟩ hc hs
  | aastore =>
    have hl : len = 1 := by simpa [xlenok] using hlen
    subst hl
    obtain ⟨o, j, z, r, rfl, h⟩ := xPrir_inv h
    obtain ⟨sh, hsh, h⟩ := xS_inv h
    obtain ⟨sq, hsq, h⟩ := xS_inv h
    obtain ⟨hq1, h⟩ := xif_inv h
    cases h
    have e := hn y hy
    rw [e] at kk
    obtain ⟨t1, t2, t3⟩ := sh
    obtain ⟨u1, u2, u3⟩ := sq
    obtain ⟨rfl, rfl, hq3, hq2⟩ := hq1
    have he := xwl_get (B := B) (cA := cA) hsh
    have hv := xwl_get (B := B) (cA := cA) hsq
    refine va_astq (r := (RX0, TX0, 5)) hx hb hK hSt.1 xwl_D hSt.2 o 4 z 0 he rfl hv rfl hq2 hd (fun H1 locs1 hP1 _ hS1 => ?_)
    have hP2 : va_P D vwCl (xwl B cA (M.1.set o (104, t2, t3.set j.toNatClampNeg (some z)), M.2.1, M.2.2)) H1 := by
      rw [← xwl_set (M := M) (M' := (M.1.set o (104, t2, t3.set j.toNatClampNeg (some z)), M.2.1, M.2.2)) (B := B) (cA := cA) (e := .inl (cA 4, t2, .inr (.inr (.inr (.inr (va_up (fun j => (t3.getD j none).map (B + ·)) j.toNatClampNeg (some (B + z)))))))) hsh (s' := (104, t2, t3.set j.toNatClampNeg (some z))) rfl (fun _ _ => rfl) (fun _ _ => rfl) ?_]
      · exact hP1
      · show _ = Sum.inl (cA 4, t2, Sum.inr (Sum.inr (Sum.inr (Sum.inr fun k => ((t3.set j.toNatClampNeg (some z)).getD k none).map (B + ·)))))
        have hf : va_up (fun j => (t3.getD j none).map (B + ·)) j.toNatClampNeg (some (B + z)) = fun k => ((t3.set j.toNatClampNeg (some z)).getD k none).map (B + ·) := by
          funext k
          simp only [va_up, List.getD_eq_getElem?_getD]
          by_cases hk : k = j.toNatClampNeg
          · subst hk
            rw [if_pos rfl, List.getElem?_set_self hq3]
            rfl
          · rw [if_neg hk, List.getElem?_set_ne (Ne.symm hk)]
        rw [hf]
    exact kk ls H1 locs1 cells slots hL ⟨hP2, hS1⟩ (by simpa using hc) (by show slots + s0 = xsl (M.1.set o (104, t2, t3.set j.toNatClampNeg (some z)), M.2.1, M.2.2); rw [xsl_set (s' := (104, t2, t3.set j.toNatClampNeg (some z))) hsh rfl]; exact hs)
  | arraylength =>
    have hl : len = 1 := by simpa [xlenok] using hlen
    subst hl
    obtain ⟨o, r, rfl, h⟩ := xPr_inv h
    obtain ⟨sh, hsh, h⟩ := xS_inv h
    obtain ⟨hq1, h⟩ := xif_inv h
    cases h
    have ey := hn y hy
    have k := kk ls H locs cells slots hL hSt hc hs
    rw [ey] at k
    have he := xwl_get (B := B) (cA := cA) hsh
    obtain ⟨t1, t2, t3⟩ := sh
    have h5 : t1 = 100 ∨ t1 = 101 ∨ t1 = 102 ∨ t1 = 103 ∨ t1 = 104 := by have := hq1.1; have := hq1.2; simp only at *; omega
    rcases h5 with rfl | rfl | rfl | rfl | rfl
    · exact va_alen hx hb hK hSt.1 o 0 he rfl rfl hd k
    · exact va_alen hx hb hK hSt.1 o 1 he rfl rfl hd k
    · exact va_alen hx hb hK hSt.1 o 2 he rfl rfl hd k
    · exact va_alen hx hb hK hSt.1 o 3 he rfl rfl hd k
    · exact va_alen hx hb hK hSt.1 o 4 he rfl rfl hd k
  | ldc idx =>
    have hl : len = 2 := by simpa [xlenok] using hlen
    subst hl
    cases h
    have ey := hn y hy
    have k := kk ls H locs cells slots hL hSt hc hs
    rw [ey] at k
    exact hldc p e R s m args below meth c H locs cells slots Q me n0 ls pc idx _ C hZs hd (List.mem_of_getElem? (of_decide_eq_true hlk)) k
  | new idx =>
    have hl : len = 3 := by simpa [xlenok] using hlen
    subst hl
    simp only [xstep] at h
    dsimp only at hlk
    split at h
    next q hq =>
      cases h
      rw [hq] at hlk
      simp only [Bool.and_eq_true, decide_eq_true_eq] at hlk
      obtain ⟨Cn, T, N⟩ := q
      obtain ⟨h50, hin, ⟨ty0, hty, hrf⟩, -⟩ := xcl a _ hq
      have ey := hn y hy
      rw [ey] at kk
      refine xsize C hSt hc (fun hH => ?_)
      have hKn := hK.1 a _ hq
      have hln : (M.1 ++ [(a, N, List.replicate N none)]).length = M.1.length + 1 := by simp
      have hsl : xsl (M.1 ++ [(a, N, List.replicate N none)], xz M.2.1 M.1.length 0, xz M.2.2 M.1.length 0) = xsl M + N := by simp [xsl]
      simp only [hsl] at hm2
      simp only [hln] at hm1
      refine W.newcK hx hb hown (hts _ (xg_lk hlk.1 rfl)) (hts _ (xg_of hlk.2.1 rfl)) (hts _ (xg_of hlk.2.2 rfl)) rfl hd (by omega) (by show slots + N ≤ _; omega) hKn.2.1 hH (fun H1 kC hkC e1 z1 o1 => ?_)
      have hP1 : va_P D vwCl (xwl B cA (M.1 ++ [(a, N, List.replicate N none)], xz M.2.1 M.1.length 0, xz M.2.2 M.1.length 0)) H1 := by
        rw [xwl_push (M := M) (s := (a, N, List.replicate N none)) rfl (fun c' h => xz_ne (Nat.ne_of_lt h)) (fun c' h => xz_ne (Nat.ne_of_lt h))]
        refine (hSt.1.kept (fun k x hx => o1 x.1 (by rw [← hH]; exact (hSt.1 k x hx).lt))).app (fun k x hx => ?_)
        have hz : k < 1 := (List.getElem?_eq_some_iff.mp hx).1
        rw [show k = 0 by omega] at hx
        cases hx
        rw [xcell, if_pos h50]
        refine ⟨_, hq, (u_born ty0 hts (fun w hw => xg_of (hin w hw) (xlays_good hw)) hKn hkC e1 hty).to (fun j hj => ?_)⟩
        have hj' : j < N := hj
        simp only [vp_V, List.getD_eq_getElem?_getD, List.getElem?_map, List.getElem?_range hj', Option.map_some, Option.getD_some]
        rcases hrf j hj with ⟨h1, h2⟩ | ⟨h1, h2⟩
        · rw [h1, h2]; simp [xz]; rfl
        · rw [h1]
          simp only [if_true]
          have : (List.replicate N (none : Option Nat))[j]? = some none := by rw [List.getElem?_replicate, if_pos hj']
          rw [this]
          revert h2
          cases ty0 j <;> intro h2 <;> first | (simp [xisR] at h2; done) | rfl
      exact kk ls H1 locs (cells + 1) (slots + N) hL ⟨hP1, Nat.le_trans hSt.2.1 (by omega), fun q h1 h2 => (o1 q (by rw [← hH]; exact Nat.lt_of_lt_of_le h1 hSt.2.1)).trans (hSt.2.2.1 q h1 h2), hSt.2.2.2⟩ (by simp only [hln]; omega) (by rw [hsl]; omega)
    next => cases h
  | newarray aty =>
    have hl : len = 2 := by simpa [xlenok] using hlen
    subst hl
    obtain ⟨n, r, rfl, h⟩ := xP1_inv h
    obtain ⟨hn1, h⟩ := xif_inv h
    cases h
    simp only [Bool.and_eq_true, decide_eq_true_eq] at hlk
    have ey := hn y hy
    rw [ey] at kk
    refine xsize C hSt hc (fun hH => ?_)
    have hln : (M.1 ++ [(a, n.toNatClampNeg, ([] : List (Option Nat)))]).length = M.1.length + 1 := by simp
    have hsl : xsl (M.1 ++ [(a, n.toNatClampNeg, ([] : List (Option Nat)))], xz M.2.1 M.1.length 0, xz M.2.2 M.1.length 0) = xsl M + n.toNatClampNeg := by simp [xsl]
    simp only [hsl] at hm2
    simp only [hln] at hm1
    refine va_newaK hx hb (hts _ (xg_of hlk.1 rfl)) rfl hd rfl hn1.1 rfl (Nat.le_trans (Nat.mul_le_mul hn1.2 (show componentBytes (newarray.typeOf aty) ≤ 8 by cases aty <;> decide)) (by decide)) (by omega) (by omega) hH (fun H1 cI e1 z1 o1 hAr hNm => ?_)
    have hP1 : va_P D vwCl (xwl B cA (M.1 ++ [(a, n.toNatClampNeg, ([] : List (Option Nat)))], xz M.2.1 M.1.length 0, xz M.2.2 M.1.length 0)) H1 := by
      rw [xwl_push (M := M) (s := (a, n.toNatClampNeg, ([] : List (Option Nat)))) rfl (fun c' h => xz_ne (Nat.ne_of_lt h)) (fun c' h => xz_ne (Nat.ne_of_lt h))]
      refine (hSt.1.kept (fun k x hx => o1 x.1 (by rw [← hH]; exact (hSt.1 k x hx).lt))).app (fun k x hx => ?_)
      have hz : k < 1 := (List.getElem?_eq_some_iff.mp hx).1
      rw [show k = 0 by omega] at hx
      cases hx
      have hK2 := hK.2
      rcases hlk.2 with ⟨rfl, ht⟩ | ⟨rfl, ht⟩ | ⟨rfl, ht⟩ | ⟨rfl, ht⟩
      · show H1[B + M.1.length]? = some (vp_cell (cA 0) (n.toNatClampNeg, .inl (xz M.2.1 M.1.length 0 M.1.length)))
        have h0 := (hK2 0 _ rfl).2
        rw [ht] at hNm e1
        cases (show s.vm.findClass ("[" ++ (FieldType.int).toString) = some (cA 0) from h0).symm.trans hNm
        rw [e1, vp_cell_i]
        congr 2
        funext j
        simp [xz, defaultValue]
      · show H1[B + M.1.length]? = some (vp_cell (cA 1) (n.toNatClampNeg, .inr (.inl (xz M.2.2 M.1.length 0 M.1.length))))
        have h0 := (hK2 1 _ rfl).2
        rw [ht] at hNm e1
        cases (show s.vm.findClass ("[" ++ (FieldType.long).toString) = some (cA 1) from h0).symm.trans hNm
        rw [e1, vp_cell_l]
        congr 2
        funext j
        simp [xz, defaultValue]
      · show H1[B + M.1.length]? = some (vp_cell (cA 2) (n.toNatClampNeg, .inl (xz M.2.1 M.1.length 0 M.1.length)))
        have h0 := (hK2 2 _ rfl).2
        rw [ht] at hNm e1
        cases (show s.vm.findClass ("[" ++ (FieldType.boolean).toString) = some (cA 2) from h0).symm.trans hNm
        rw [e1, vp_cell_i]
        congr 2
        funext j
        simp [xz, defaultValue]
      · show H1[B + M.1.length]? = some (vp_cell (cA 3) (n.toNatClampNeg, .inl (xz M.2.1 M.1.length 0 M.1.length)))
        have h0 := (hK2 3 _ rfl).2
        rw [ht] at hNm e1
        cases (show s.vm.findClass ("[" ++ (FieldType.byte).toString) = some (cA 3) from h0).symm.trans hNm
        rw [e1, vp_cell_i]
        congr 2
        funext j
        simp [xz, defaultValue]
    exact kk ls H1 locs (cells + 1) (slots + n.toNatClampNeg) hL ⟨hP1, Nat.le_trans hSt.2.1 (by omega), fun q h1 h2 => (o1 q (by rw [← hH]; exact Nat.lt_of_lt_of_le h1 hSt.2.1)).trans (hSt.2.2.1 q h1 h2), hSt.2.2.2⟩ (by simp only [hln]; omega) (by rw [hsl]; omega)
  | anewarray idx =>
    have hl : len = 3 := by simpa [xlenok] using hlen
    subst hl
    obtain ⟨n, r, rfl, h⟩ := xP1_inv h
    obtain ⟨hn1, h⟩ := xif_inv h
    cases h
    dsimp only at hlk
    have ey := hn y hy
    rw [ey] at kk
    refine xsize C hSt hc (fun hH => ?_)
    have hln : (M.1 ++ [(104, n.toNatClampNeg, List.replicate n.toNatClampNeg (none : Option Nat))]).length = M.1.length + 1 := by simp
    have hsl : xsl (M.1 ++ [(104, n.toNatClampNeg, List.replicate n.toNatClampNeg (none : Option Nat))], xz M.2.1 M.1.length 0, xz M.2.2 M.1.length 0) = xsl M + n.toNatClampNeg := by simp [xsl]
    simp only [hsl] at hm2
    simp only [hln] at hm1
    refine W.anew hx hb hown (hts _ (xg_lk hlk rfl)) (va_AO.use hE.1) rfl hd rfl hn1.1 (Nat.le_trans (Nat.mul_le_mul hn1.2.1 (Nat.le_refl 4)) (by decide)) (by omega) (by omega) (fun cI kA comp f1 f2 f3 f4 => ?_)
    generalize hH1 : H.push ({ cls := cI, slots := Array.replicate n.toNatClampNeg .null, vm := .none } : Cell) = H1
    have z1 : H1.size = H.size + 1 := by rw [← hH1, Array.size_push]
    have e1 : H1[H.size]? = some (arrV cI n.toNatClampNeg (fun _ => .null)) := by rw [← hH1, Array.getElem?_push_size, ← arrV_new]
    have o1 : ∀ q : Nat, q < H.size → H1[q]? = H[q]? := fun q hq => by rw [← hH1, Array.getElem?_push, if_neg (Nat.ne_of_lt hq)]
    have hP1 : va_P D vwCl (xwl B cA (M.1 ++ [(104, n.toNatClampNeg, List.replicate n.toNatClampNeg (none : Option Nat))], xz M.2.1 M.1.length 0, xz M.2.2 M.1.length 0)) H1 := by
      rw [xwl_push (M := M) (s := (104, n.toNatClampNeg, List.replicate n.toNatClampNeg (none : Option Nat))) rfl (fun c' h => xz_ne (Nat.ne_of_lt h)) (fun c' h => xz_ne (Nat.ne_of_lt h))]
      refine (hSt.1.kept (fun k x hx => o1 x.1 (hSt.1 k x hx).lt)).app (fun k x hx => ?_)
      have hz : k < 1 := (List.getElem?_eq_some_iff.mp hx).1
      rw [show k = 0 by omega] at hx
      cases hx
      show H1[B + M.1.length]? = some (vp_cell _ _)
      rw [← hH, e1]
      congr 1
      obtain ⟨kA2, comp2, g1, g2, g3, g4⟩ := (hK.2 4 _ rfl).2
      cases g4.symm.trans f1
      show _ = vp_cell (cA 4) (n.toNatClampNeg, .inr (.inr (.inr (.inr fun j => ((List.replicate n.toNatClampNeg (none : Option Nat)).getD j none).map (B + ·)))))
      rw [vp_cell_q]
      congr 1
      funext j
      have : (List.replicate n.toNatClampNeg (none : Option Nat)).getD j none = none := by
        rw [List.getD_eq_getElem?_getD, List.getElem?_replicate]
        split <;> rfl
      rw [this]
      rfl
    have k2 := kk ls H1 locs (cells + 1) (slots + n.toNatClampNeg) hL ⟨hP1, Nat.le_trans hSt.2.1 (by omega), fun q h1 h2 => (o1 q (Nat.lt_of_lt_of_le h1 hSt.2.1)).trans (hSt.2.2.1 q h1 h2), hSt.2.2.2⟩ (by simp only [hln]; omega) (by rw [hsl]; omega)
    rw [hH]
    exact k2
  | _ => simp [xstep] at h
end
end
section
def xws (me : xMe) : List Cond := Cond.code me.1 me.2.1 me.2.2.1 me.2.2.2.1 :: xg
def xrm (d mc ms : Nat) : Room := { frames := d + 1, cells := mc, slots := ms, locals := 40 * (d + 1) }
/-- a contract's start and end -/
def xPc (Z : State → Prop) (D : va_G) (B aS : Nat) (cA : Nat → ClassId) (av : List Value) (M : xM) : Array Value → State → Prop := fun v U => v = (av.map (xlf B aS)).toArray ∧ U.heap.size = B + M.1.length ∧ va_P D vwCl (xwl B cA M) U.heap ∧ va_K D vwCl (xtys cA) U ∧ xE U ∧ Z U
def xQc (D : va_G) (B aS : Nat) (cA : Nat → ClassId) (r : Option Value) (M' : xM) : Array Value → State → Outcome → State → Prop := fun _ st o t => o = .returned (r.map (xlf B aS)) ∧ t.heap.size = B + M'.1.length ∧ va_P D vwCl (xwl B cA M') t.heap ∧ ∀ q, q < B → t.heap[q]? = st.heap[q]?
/-- what Z must keep: from a state to what is called there -/
def xZok (Z : State → Prop) (B : Nat) : Prop := (∀ s U : State, Z s → s.WarmedH U.vm → (∀ q, q < B → U.heap[q]? = s.heap[q]?) → Z U) ∧ ∀ (U : State) (g : JFrame) (mk : MethodId) (a : Array Value), Z U → Z (U.calling g mk a)
section
variable {p : Program} {l : Launch} {e : Env} {R : Room} {s : State} {m : MethodId} {args : Array Value} {below : List Frame} {meth : Method} {c : Code} {H : Heap} {locs : List Loc} {cells slots : Nat} {Q : State → Prop}
variable {me : xMe} {D : va_G} {B n0 s0 aS : Nat} {cA : Nat → ClassId} {M M1 : xM} {ls : Array Slot} {L L' : xL} {st st' : List Value} {i i' : Nat} {y : xI}
theorem xPc_blind {Z : State → Prop} (hZ : xZok Z B) {av : List Value} : FrameBlind (xPc Z D B aS cA av M) := by
  intro a U g mk h
  obtain ⟨h1, h2, h3, h4, h5, h6⟩ := h
  exact ⟨h1, h2, h3, va_K.moved (u := U) (U := U.calling g mk a) (Vm.Alike.refl U.vm) h4, ⟨h5.1.moved (u := U) (U := U.calling g mk a) (Vm.Alike.refl U.vm), fun w hw hn => va_Nw.same (by cases w <;> first | (simp [xnest] at hn; done) | rfl) (u := U) (U := U.calling g mk a) rfl (h5.2 w hw hn)⟩, hZ.2 U g mk a h6⟩
/-- behind a call -/
theorem xcallW {pc mc ms : Nat} {st0 rest : List Value} {a : Array Value} {r : Option Value} {M' : xM} (hr : va_Run p l e R s m args below meth c H locs cells slots mc ms (F0 m pc ls st0) rest (xQc D B aS cA r M' a) (fun q => B ≤ q)) (hSt : va_S (fun q => B ≤ q) s.heap H locs)
    (kk : ∀ (H1 : Heap) (locs1 : List Loc), xSt D B cA M' s H1 locs1 → W p l e R s m args below meth c H1 locs1 (cells + mc) (slots + ms) Q (F0 m (pc + 3) ls ((r.map (xlf B aS)).toList ++ rest))) (hge : H.size ≤ B + M'.1.length) (hB : B ≤ s.heap.size) : W p l e R s m args below meth c H locs cells slots Q (F0 m pc ls st0) := by
  intro T hT X
  obtain ⟨v, st₀, t, T', L, h0, X', hL, e1, e2, ⟨hv, hz, hp, hk⟩, st⟩ := hr T hT X
  cases hv
  rw [h0] at hk
  obtain ⟨t2, a1, b1⟩ := kk T'.heap (locs ++ L) ⟨by rw [e1]; exact hp, Nat.le_trans hSt.1 (by rw [e1, hz]; exact hge), fun q h1 h2 => by
      rw [e1, hk q (Nat.lt_of_not_le h2)]; exact hSt.2.1 q h1 h2, fun q hq => by
      rcases List.mem_append.mp hq with h | h
      · exact hSt.2.2 q h
      · exact hL q h⟩ T' rfl X'
  exact ⟨t2, st t2 a1, b1⟩
end
set_option maxHeartbeats 1000000 in
theorem xstep_grow {x : xI} {i i' : Nat} {L L' : xL} {st st' : List Value} {M M1 : xM} (h : xstep x i L st M = some (i', L', st', M1)) : M.1.length ≤ M1.1.length ∧ xsl M ≤ xsl M1 := by
  obtain ⟨pc, ins, len, ts, a, b, cf, lk, v⟩ := x
  cases ins with
  | iconst n =>
    cases h
    exact ⟨Nat.le_refl _, Nat.le_refl _⟩
  | bipush n =>
    cases h
    exact ⟨Nat.le_refl _, Nat.le_refl _⟩
  | sipush n =>
    cases h
    exact ⟨Nat.le_refl _, Nat.le_refl _⟩
  | lconst n =>
    cases h
    exact ⟨Nat.le_refl _, Nat.le_refl _⟩
  | aconst_null =>
    cases h
    exact ⟨Nat.le_refl _, Nat.le_refl _⟩
  | ldc2_w idx =>
    cases h
    exact ⟨Nat.le_refl _, Nat.le_refl _⟩
  | goto off =>
    cases h
    exact ⟨Nat.le_refl _, Nat.le_refl _⟩
  | ldc idx =>
    cases h
    exact ⟨Nat.le_refl _, Nat.le_refl _⟩
  | iload k =>
    obtain ⟨_, _, h⟩ := xldI_inv h
    cases h
    exact ⟨Nat.le_refl _, Nat.le_refl _⟩
  | iload_n k =>
    obtain ⟨_, _, h⟩ := xldI_inv h
    cases h
    exact ⟨Nat.le_refl _, Nat.le_refl _⟩
  | lload k =>
    obtain ⟨_, _, h⟩ := xldL_inv h
    cases h
    exact ⟨Nat.le_refl _, Nat.le_refl _⟩
  | lload_n k =>
    obtain ⟨_, _, h⟩ := xldL_inv h
    cases h
    exact ⟨Nat.le_refl _, Nat.le_refl _⟩
  | aload k =>
    simp only [xstep] at h
    obtain ⟨_, _, _, h⟩ := xldR_inv h
    cases h
    exact ⟨Nat.le_refl _, Nat.le_refl _⟩
  | aload_n k =>
    simp only [xstep] at h
    obtain ⟨_, _, _, h⟩ := xldR_inv h
    cases h
    exact ⟨Nat.le_refl _, Nat.le_refl _⟩
  | istore k =>
    obtain ⟨_, _, rfl, h2⟩ := xP1_inv h
    obtain ⟨_, _, h2⟩ := xbind_inv h2
    cases h2
    exact ⟨Nat.le_refl _, Nat.le_refl _⟩
  | istore_n k =>
    obtain ⟨_, _, rfl, h2⟩ := xP1_inv h
    obtain ⟨_, _, h2⟩ := xbind_inv h2
    cases h2
    exact ⟨Nat.le_refl _, Nat.le_refl _⟩
  | lstore k =>
    obtain ⟨_, _, rfl, h2⟩ := xPl_inv h
    obtain ⟨_, _, h2⟩ := xbind_inv h2
    cases h2
    exact ⟨Nat.le_refl _, Nat.le_refl _⟩
  | lstore_n k =>
    obtain ⟨_, _, rfl, h2⟩ := xPl_inv h
    obtain ⟨_, _, h2⟩ := xbind_inv h2
    cases h2
    exact ⟨Nat.le_refl _, Nat.le_refl _⟩
  | astore k =>
    simp only [xstep] at h
    obtain ⟨_, _, _, rfl, h2⟩ := xpR_inv h
    obtain ⟨_, _, h2⟩ := xbind_inv h2
    cases h2
    exact ⟨Nat.le_refl _, Nat.le_refl _⟩
  | astore_n k =>
    simp only [xstep] at h
    obtain ⟨_, _, _, rfl, h2⟩ := xpR_inv h
    obtain ⟨_, _, h2⟩ := xbind_inv h2
    cases h2
    exact ⟨Nat.le_refl _, Nat.le_refl _⟩
  | iinc k n =>
    obtain ⟨_, _, h⟩ := xldI_inv h
    obtain ⟨_, _, h⟩ := xbind_inv h
    cases h
    exact ⟨Nat.le_refl _, Nat.le_refl _⟩
  | iadd =>
    obtain ⟨_, _, _, rfl, h⟩ := xP2_inv h
    cases h
    exact ⟨Nat.le_refl _, Nat.le_refl _⟩
  | isub =>
    obtain ⟨_, _, _, rfl, h⟩ := xP2_inv h
    cases h
    exact ⟨Nat.le_refl _, Nat.le_refl _⟩
  | imul =>
    obtain ⟨_, _, _, rfl, h⟩ := xP2_inv h
    cases h
    exact ⟨Nat.le_refl _, Nat.le_refl _⟩
  | iand =>
    obtain ⟨_, _, _, rfl, h⟩ := xP2_inv h
    cases h
    exact ⟨Nat.le_refl _, Nat.le_refl _⟩
  | ior =>
    obtain ⟨_, _, _, rfl, h⟩ := xP2_inv h
    cases h
    exact ⟨Nat.le_refl _, Nat.le_refl _⟩
  | ixor =>
    obtain ⟨_, _, _, rfl, h⟩ := xP2_inv h
    cases h
    exact ⟨Nat.le_refl _, Nat.le_refl _⟩
  | ishl =>
    obtain ⟨_, _, _, rfl, h⟩ := xP2_inv h
    cases h
    exact ⟨Nat.le_refl _, Nat.le_refl _⟩
  | ishr =>
    obtain ⟨_, _, _, rfl, h⟩ := xP2_inv h
    cases h
    exact ⟨Nat.le_refl _, Nat.le_refl _⟩
  | ladd =>
    obtain ⟨_, _, _, rfl, h⟩ := xPll_inv h
    cases h
    exact ⟨Nat.le_refl _, Nat.le_refl _⟩
  | lmul =>
    obtain ⟨_, _, _, rfl, h⟩ := xPll_inv h
    cases h
    exact ⟨Nat.le_refl _, Nat.le_refl _⟩
  | land =>
    obtain ⟨_, _, _, rfl, h⟩ := xPll_inv h
    cases h
    exact ⟨Nat.le_refl _, Nat.le_refl _⟩
  | lor =>
    obtain ⟨_, _, _, rfl, h⟩ := xPll_inv h
    cases h
    exact ⟨Nat.le_refl _, Nat.le_refl _⟩
  | lcmp =>
    obtain ⟨_, _, _, rfl, h⟩ := xPll_inv h
    cases h
    exact ⟨Nat.le_refl _, Nat.le_refl _⟩
  | lshl =>
    obtain ⟨_, _, _, rfl, h⟩ := xPil_inv h
    cases h
    exact ⟨Nat.le_refl _, Nat.le_refl _⟩
  | lshr =>
    obtain ⟨_, _, _, rfl, h⟩ := xPil_inv h
    cases h
    exact ⟨Nat.le_refl _, Nat.le_refl _⟩
  | i2l =>
    obtain ⟨_, _, rfl, h⟩ := xP1_inv h
    cases h
    exact ⟨Nat.le_refl _, Nat.le_refl _⟩
  | i2b =>
    obtain ⟨_, _, rfl, h⟩ := xP1_inv h
    cases h
    exact ⟨Nat.le_refl _, Nat.le_refl _⟩
  | l2i =>
    obtain ⟨_, _, rfl, h⟩ := xPl_inv h
    cases h
    exact ⟨Nat.le_refl _, Nat.le_refl _⟩
  | ifCond cnd off =>
    obtain ⟨_, _, rfl, h⟩ := xP1_inv h
    cases h
    exact ⟨Nat.le_refl _, Nat.le_refl _⟩
  | tableswitch d lo hh offs =>
    obtain ⟨_, _, rfl, h⟩ := xP1_inv h
    cases h
    exact ⟨Nat.le_refl _, Nat.le_refl _⟩
  | lookupswitch d ps =>
    obtain ⟨_, _, rfl, h⟩ := xP1_inv h
    cases h
    exact ⟨Nat.le_refl _, Nat.le_refl _⟩
  | if_icmp cnd off =>
    obtain ⟨_, _, _, rfl, h⟩ := xP2_inv h
    cases h
    exact ⟨Nat.le_refl _, Nat.le_refl _⟩
  | dup =>
    simp only [xstep] at h
    split at h
    · obtain ⟨_, h⟩ := xif_inv h
      cases h
      exact ⟨Nat.le_refl _, Nat.le_refl _⟩
    · cases h
  | dup2 =>
    simp only [xstep] at h
    split at h
    · obtain ⟨_, h⟩ := xif_inv h
      cases h
      exact ⟨Nat.le_refl _, Nat.le_refl _⟩
    · cases h
  | ifnull off =>
    simp only [xstep] at h
    split at h
    · cases h; exact ⟨Nat.le_refl _, Nat.le_refl _⟩
    · cases h; exact ⟨Nat.le_refl _, Nat.le_refl _⟩
    · cases h
  | ifnonnull off =>
    simp only [xstep] at h
    split at h
    · cases h; exact ⟨Nat.le_refl _, Nat.le_refl _⟩
    · cases h; exact ⟨Nat.le_refl _, Nat.le_refl _⟩
    · cases h
  | getfield idx =>
    obtain ⟨_, _, rfl, h⟩ := xPr_inv h
    obtain ⟨sh, hsh, h⟩ := xS_inv h
    obtain ⟨_, h⟩ := xif_inv h
    cases h
    exact ⟨Nat.le_refl _, Nat.le_refl _⟩
  | arraylength =>
    obtain ⟨_, _, rfl, h⟩ := xPr_inv h
    obtain ⟨sh, hsh, h⟩ := xS_inv h
    obtain ⟨_, h⟩ := xif_inv h
    cases h
    exact ⟨Nat.le_refl _, Nat.le_refl _⟩
  | iaload =>
    obtain ⟨_, _, _, rfl, h⟩ := xPri_inv h
    obtain ⟨sh, hsh, h⟩ := xS_inv h
    obtain ⟨_, h⟩ := xif_inv h
    cases h
    exact ⟨Nat.le_refl _, Nat.le_refl _⟩
  | baload =>
    obtain ⟨_, _, _, rfl, h⟩ := xPri_inv h
    obtain ⟨sh, hsh, h⟩ := xS_inv h
    obtain ⟨_, h⟩ := xif_inv h
    cases h
    exact ⟨Nat.le_refl _, Nat.le_refl _⟩
  | laload =>
    obtain ⟨_, _, _, rfl, h⟩ := xPri_inv h
    obtain ⟨sh, hsh, h⟩ := xS_inv h
    obtain ⟨_, h⟩ := xif_inv h
    cases h
    exact ⟨Nat.le_refl _, Nat.le_refl _⟩
  | aaload =>
    obtain ⟨_, _, _, rfl, h⟩ := xPri_inv h
    obtain ⟨sh, hsh, h⟩ := xS_inv h
    obtain ⟨_, h⟩ := xif_inv h
    cases h
    exact ⟨Nat.le_refl _, Nat.le_refl _⟩
  | iastore =>
    obtain ⟨_, _, _, _, rfl, h⟩ := xPrii_inv h
    obtain ⟨sh, hsh, h⟩ := xS_inv h
    obtain ⟨_, h⟩ := xif_inv h
    cases h
    exact ⟨Nat.le_refl _, Nat.le_refl _⟩
  | lastore =>
    obtain ⟨_, _, _, _, rfl, h⟩ := xPril_inv h
    obtain ⟨sh, hsh, h⟩ := xS_inv h
    obtain ⟨_, h⟩ := xif_inv h
    cases h
    exact ⟨Nat.le_refl _, Nat.le_refl _⟩
  | bastore =>
    obtain ⟨_, _, _, _, rfl, h⟩ := xPrii_inv h
    obtain ⟨sh, hsh, h⟩ := xS_inv h
    split at h
    · cases h; exact ⟨Nat.le_refl _, Nat.le_refl _⟩
    · obtain ⟨_, h⟩ := xif_inv h
      cases h
      exact ⟨Nat.le_refl _, Nat.le_refl _⟩
  | aastore =>
    obtain ⟨_, _, _, _, rfl, h⟩ := xPrir_inv h
    obtain ⟨sh, hsh, h⟩ := xS_inv h
    obtain ⟨sq, hsq, h⟩ := xS_inv h
    obtain ⟨_, h⟩ := xif_inv h
    cases h
    exact ⟨by simp, Nat.le_of_eq (xsl_set hsh (by rfl) _ _).symm⟩
  | putfield idx =>
    simp only [xstep] at h
    split at h
    · obtain ⟨_, _, _, rfl, h⟩ := xPrr_inv h
      obtain ⟨sh, hsh, h⟩ := xS_inv h
      obtain ⟨_, h⟩ := xif_inv h
      cases h
      exact ⟨by simp, Nat.le_of_eq (xsl_set hsh (by rfl) _ _).symm⟩
    · obtain ⟨_, _, _, rfl, h⟩ := xPri'_inv h
      obtain ⟨sh, hsh, h⟩ := xS_inv h
      obtain ⟨_, h⟩ := xif_inv h
      cases h
      exact ⟨Nat.le_refl _, Nat.le_refl _⟩
  | new idx =>
    simp only [xstep] at h
    split at h
    · cases h; exact ⟨by simp, by simp [xsl]⟩
    · cases h
  | newarray aty =>
    obtain ⟨_, _, rfl, h⟩ := xP1_inv h
    obtain ⟨_, h⟩ := xif_inv h
    cases h
    exact ⟨by simp, by simp [xsl]⟩
  | anewarray idx =>
    obtain ⟨_, _, rfl, h⟩ := xP1_inv h
    obtain ⟨_, h⟩ := xif_inv h
    cases h
    exact ⟨by simp, by simp [xsl]⟩
  | _ => simp [xstep] at h
theorem ev_grow : ∀ (n d : Nat) (me : xMe) (i : Nat) (L : xL) (st : List Value) (M : xM) (r : Option Value) (M' : xM), ev n d me i L st M = some (r, M') → M.1.length ≤ M'.1.length ∧ xsl M ≤ xsl M' := by
  intro n
  induction n with
  | zero => intro d me i L st M r M' h; cases h
  | succ n ih =>
    intro d me i L st M r M' h
    unfold ev at h
    split at h
    · cases h
    next x hx =>
      split at h
      · split at h
        next i' L' st' M1 h1 =>
          have g := xstep_grow h1
          have g2 := ih _ _ _ _ _ _ _ _ h
          exact ⟨Nat.le_trans g.1 g2.1, Nat.le_trans g.2 g2.2⟩
        · cases h
      · unfold xret at h
        split at h
        · obtain ⟨_, h⟩ := xif_inv h
          cases h
          exact ⟨Nat.le_refl _, Nat.le_refl _⟩
        · cases h
      · unfold xvret at h
        split at h
        · obtain ⟨_, h⟩ := xif_inv h
          cases h
          exact ⟨Nat.le_refl _, Nat.le_refl _⟩
        · cases h
      · unfold xcallf at h
        split at h
        split at h
        · split at h
          · obtain ⟨_, h⟩ := xif_inv h
            exact ih _ _ _ _ _ _ _ _ h
          · cases h
        · split at h
          · split at h
            · obtain ⟨_, h⟩ := xif_inv h
              exact ih _ _ _ _ _ _ _ _ h
            · cases h
          · split at h
            · split at h
              · obtain ⟨_, h⟩ := xif_inv h
                exact ih _ _ _ _ _ _ _ _ h
              · cases h
            · unfold xcallm at h
              split at h
              · obtain ⟨_, h⟩ := xif_inv h
                split at h
                next r2 M2 h2 =>
                  have g := ih _ _ _ _ _ _ _ _ h2
                  have g2 := ih _ _ _ _ _ _ _ _ h
                  exact ⟨Nat.le_trans g.1 g2.1, Nat.le_trans g.2 g2.2⟩
                · cases h
              · cases h
/-- all methods keep their contracts at depth d -/
def xMetAll (l : Launch) (Z : State → Prop) (D : va_G) (B aS : Nat) (cA : Nat → ClassId) (d : Nat) : Prop :=
  ∀ (n : Nat) (me : xMe) (av : List Value) (M M' : xM) (r : Option Value) (mc ms : Nat), me ∈ xmt → (xflat av).length ≤ me.2.2.1 → ev n d me 0 (xentry me.2.2.1 av) [] M = some (r, M') → mc + M.1.length = M'.1.length → ms + xsl M = xsl M' →
    Met l me.1 (xws me) (xrm d mc ms) (xPc Z D B aS cA av M) (xQc D B aS cA r M') mc ms (fun q => B ≤ q)
/-- the two calls of the JDK's text -/
def xBI (l : Launch) (Z : State → Prop) (D : va_G) (B aS : Nat) (cA : Nat → ClassId) : Prop :=
  ∀ (p : Program) (e : Env) (R : Room) (s : State) (m : MethodId) (args : Array Value) (below : List Frame) (meth : Method) (c : Code) (H : Heap) (locs : List Loc) (cells slots : Nat) (Q : State → Prop) (me : xMe) (n0 : Nat) (ls : Array Slot) (pc idx : Nat) (r : List Value),
    xCx p s m args meth c me D B n0 cA → Z s → va_S (fun q => B ≤ q) s.heap H locs → ls.size = me.2.2.1 → (r.map fun v => v.category).sum ≤ 8 → 5 ≤ R.frames → 200 ≤ R.locals → cells ≤ R.cells → slots ≤ R.slots → decode me.2.1 pc = .ok (.invokevirtual idx, 3) →
    ((Cond.methodLink me.2.2.2.2.1 idx ⟨"java/lang/String", "length", "()I"⟩ ∈ lw_tbl → (∀ locs', va_S (fun q => B ≤ q) s.heap H locs' → W p l e R s m args below meth c H locs' cells slots Q (F0 m (pc + 3) ls (.int (nI xtextLen) :: r))) → W p l e R s m args below meth c H locs cells slots Q (F0 m pc ls (.ref aS :: r))) ∧
     (∀ k : Int32, ¬ (k < 0 ∨ xtextLen ≤ k.toNatClampNeg) → Cond.methodLink me.2.2.2.2.1 idx ⟨"java/lang/String", "charAt", "(I)C"⟩ ∈ lw_tbl → (∀ locs', va_S (fun q => B ≤ q) s.heap H locs' → W p l e R s m args below meth c H locs' cells slots Q (F0 m (pc + 3) ls (.int (xtext.getD k.toNatClampNeg 0) :: r))) → W p l e R s m args below meth c H locs cells slots Q (F0 m pc ls (.int k :: .ref aS :: r))))
theorem xargs_drop {st : List Value} {k : Nat} (h : k ≤ st.length) {B aS : Nat} : st.map (xlf B aS) = ((st.take k).reverse.map (xlf B aS)).reverse ++ (st.drop k).map (xlf B aS) := by
  rw [List.map_reverse, List.reverse_reverse, ← List.map_append, List.take_append_drop]
theorem xcats {B aS : Nat} (r : List Value) : ((r.map (xlf B aS)).map fun v => v.category) = r.map fun v => v.category := by
  rw [List.map_map]
  congr 1
  funext v
  exact xlf_cat v
theorem xgood (me' : xMe) (h : xokM me' = true) : ∀ Ts : List Cond, (∀ w ∈ xg, w ∈ Ts) → GoodIn Ts (xws me') := by
  intro Ts hT w hw
  unfold xws at hw
  unfold xokM xokH at h
  simp only [Bool.and_eq_true, decide_eq_true_eq] at h
  rcases List.mem_cons.mp hw with rfl | hw
  · exact ⟨hT _ (xg_of h.1.1 rfl), Or.inl rfl⟩
  · exact ⟨hT _ hw, good_of_word (xg_good w hw)⟩
end
section
theorem xobj_in : Cond.instanceMethod objectInit ∈ lw_tbl ∧ Cond.code objectInit ⟨#[0xb1]⟩ 1 none ∈ lw_tbl := by decide +kernel
theorem ev_some : ∀ {n d : Nat} {me : xMe} {i : Nat} {L : xL} {st : List Value} {M : xM} {q : Option Value × xM}, ev n d me i L st M = some q → ∃ y, me.2.2.2.2.2.2[i]? = some y := by
  intro n d me i L st M q h
  cases n with
  | zero => cases h
  | succ n =>
    unfold ev at h
    split at h
    · cases h
    next x hx => exact ⟨x, hx⟩
theorem xtake_recv {st : List Value} {b o : Nat} (h : st[b]? = some (.ref o)) : (st.take (b + 1)).reverse = .ref o :: (st.take b).reverse := by
  rw [List.take_succ, h]
  simp
theorem xstack_recv {st : List Value} {b o : Nat} (h : st[b]? = some (.ref o)) {B aS : Nat} : st.map (xlf B aS) = (((st.take b).reverse.map (xlf B aS)).reverse) ++ .ref (B + o) :: (st.drop (b + 1)).map (xlf B aS) := by
  have hl : b < st.length := (List.getElem?_eq_some_iff.mp h).1
  have h2 := xargs_drop (B := B) (aS := aS) (st := st) (k := b + 1) (by omega)
  rw [xtake_recv h] at h2
  rw [h2]
  simp [xlf]
theorem xtol {r : Option Value} {rest : List Value} {B aS : Nat} : (r.map (xlf B aS)).toList ++ rest.map (xlf B aS) = (r.toList ++ rest).map (xlf B aS) := by cases r <;> rfl
section
variable {p : Program} {l : Launch} {e : Env} {s : State} {m : MethodId} {args : Array Value} {below : List Frame} {meth : Method} {c : Code} {Q : State → Prop}
variable {me : xMe} {D : va_G} {B n0 s0 aS : Nat} {cA : Nat → ClassId} {Z : State → Prop} {mc ms : Nat} {r : Option Value} {M' : xM}
set_option maxHeartbeats 4000000 in
/-- a call of a method of the table -/
theorem xcallm_W {d n i : Nat} {R : Room} {L : xL} {st : List Value} {M : xM} {H : Heap} {locs : List Loc} {cells slots : Nat} {ls : Array Slot} {pc a b cf lk : Nat} {ts : List Nat} {v : Int64} {ins : Instr} {M2 : xM} {r2 : Option Value} {me' : xMe} (hR1 : d + 2 ≤ R.frames) (hR2 : 40 * (d + 2) ≤ R.locals)
    (hZ : xZok Z B) (ih : xMetAll l Z D B aS cA d) (C : xCx p s m args meth c me D B n0 cA) (hZs : Z s) (hi : me.2.2.2.2.2.2[i]? = some (pc, ins, 3, ts, a, b, cf, lk, v)) (hc2 : ¬ cf = 2) (hc3 : ¬ cf = 3) (hc4 : ¬ cf = 4) (h3 : xend2 ins = 3) (hme : xmt[a]? = some me') (hme2 : xokM me' = true)
    (hq : xna b me' ≤ st.length ∧ ((st.drop (xna b me')).map fun v => v.category).sum ≤ 8 ∧ (xflat (st.take (xna b me')).reverse).length ≤ me'.2.2.1 ∧ xrecv ts b me' st M = true)
    (hev : ev n d me' 0 (xentry me'.2.2.1 (st.take (xna b me')).reverse) [] M = some (r2, M2)) (hL : xhas B aS ls me.2.2.1 L) (hSt : xSt D B cA M s H locs) (hc : cells + n0 = M.1.length) (hs : slots + s0 = xsl M) (hm1 : M2.1.length ≤ n0 + R.cells) (hm2 : xsl M2 ≤ s0 + R.slots)
    (kk : ∀ (H1 : Heap) (locs1 : List Loc) (cells1 slots1 : Nat), xSt D B cA M2 s H1 locs1 → cells1 + n0 = M2.1.length → slots1 + s0 = xsl M2 → W p l e R s m args below meth c H1 locs1 cells1 slots1 Q (F0 m (pc + 3) ls ((r2.toList ++ st.drop (xna b me')).map (xlf B aS)))) :
    W p l e R s m args below meth c H locs cells slots Q (F0 m pc ls (st.map (xlf B aS))) := by
  have hI := xok_at C hi
  have hg := ev_grow _ _ _ _ _ _ _ _ _ hev
  obtain ⟨hx, hb, hml, hr, hlocks, hnm, hown, hts, hK, hsz, hE, -⟩ := id C
  simp only [xokI, Bool.and_eq_true, decide_eq_true_eq] at hI
  obtain ⟨hd, -, -, hlk⟩ := hI
  have hmem : me' ∈ xmt := List.mem_of_getElem? hme
  have hM := ih n me' _ M M2 r2 (M2.1.length - M.1.length) (xsl M2 - xsl M) hmem hq.2.2.1 hev (by omega) (by omega)
  have hok := hme2
  unfold xokM xokH at hok
  simp only [Bool.and_eq_true, decide_eq_true_eq] at hok
  obtain ⟨⟨hcode, hini, -, -, hmh, h21, hkind⟩, -⟩ := hok
  have hini' := hts _ (xg_of hini rfl)
  have hgood := xgood me' hme2 xg (fun _ h => h)
  refine xsize C hSt hc (fun hH => ?_)
  have hpre : ∀ U : State, U.heap = H → s.WarmedH U.vm → xPc Z D B aS cA (st.take (xna b me')).reverse M (((st.take (xna b me')).reverse).map (xlf B aS)).toArray U := fun U hU hW =>
    ⟨rfl, by rw [hU]; exact hH, by rw [hU]; exact hSt.1, va_K.moved hW.alike hK, hE.warm hW, hZ.1 s U hZs hW (fun q hq => by rw [hU]; exact hSt.2.2.1 q (by omega) (by omega))⟩
  have hroom : (xrm d (M2.1.length - M.1.length) (xsl M2 - xsl M)).frames + 1 ≤ R.frames ∧ 8 + (me'.2.2.1 + 11) + (xrm d (M2.1.length - M.1.length) (xsl M2 - xsl M)).locals ≤ R.locals := by
    refine ⟨hR1, ?_⟩
    show 8 + (me'.2.2.1 + 11) + 40 * (d + 1) ≤ R.locals
    omega
  have hf : cells + (M2.1.length - M.1.length) ≤ R.cells ∧ slots + (xsl M2 - xsl M) ≤ R.slots := by omega
  have hge : H.size ≤ B + M2.1.length := by omega
  have hrest : 2 * (F0 m pc ls (st.map (xlf B aS))).monitorRoom + (((st.drop (xna b me')).map (xlf B aS)).map fun v => v.category).sum ≤ 8 := lv_room (by rw [xcats]; exact hq.2.1)
  have fin : ∀ (H1 : Heap) (locs1 : List Loc), xSt D B cA M2 s H1 locs1 → W p l e R s m args below meth c H1 locs1 (cells + (M2.1.length - M.1.length)) (slots + (xsl M2 - xsl M)) Q (F0 m (pc + 3) ls ((r2.map (xlf B aS)).toList ++ (st.drop (xna b me')).map (xlf B aS))) := fun H1 locs1 h1 => by
    rw [xtol]
    exact kk H1 locs1 _ _ h1 (by omega) (by omega)
  have hlsz : (F0 m pc ls (st.map (xlf B aS))).locals.size = me.2.2.1 := hL.1
  cases ins with
  | invokevirtual idx =>
    simp only [hc3, hc4, if_false, hme, xokC, Bool.and_eq_true, decide_eq_true_eq] at hlk
    obtain ⟨⟨hl, hpar⟩, rfl, hk1, hts1⟩ := hlk
    rw [if_pos rfl] at hl
    have hna : xna b me' = b + 1 := by unfold xna; rw [if_neg (by rw [hk1]; decide)]
    have hrc := hq.2.2.2
    unfold xrecv at hrc
    rw [if_neg (by rw [hk1]; decide)] at hrc
    split at hrc
    next o ho =>
      rw [if_neg (by rw [hk1]; decide)] at hrc
      split at hrc
      next sh hsh =>
        rw [if_neg (by rw [hk1]; decide), if_pos hk1] at hkind
        simp only [Bool.and_eq_true, decide_eq_true_eq] at hkind hrc
        match ts, hts1 with
        | [t], hts1 =>
          dsimp only at hts1
          split at hts1
          next q hq2 =>
            have hqc := of_decide_eq_true hts1
            have hrc' : sh.1 = t := hrc
            obtain ⟨h50, -⟩ := xcl t q hq2
            have he := xwl_get (B := B) (cA := cA) hsh
            rw [xcell, if_pos (by rw [hrc']; exact h50), hrc'] at he
            have hrecv := va_recv hK hSt.1 hq2 he
            rw [hqc] at hrecv
            rw [hna] at hrest hpre hM fin
            rw [xtake_recv ho] at hpre hM
            refine xcallW (va_runV (As := (st.take b).reverse.map (xlf B aS)) (rest := (st.drop (b + 1)).map (xlf B aS)) ⟨hx, hb, hml, hown, hts⟩ hM ⟨callB_of b hts hgood rfl rfl rfl hini' (hts _ (xg_lk hl rfl)) ⟨hmh.1, hmh.2, hpar⟩ hroom, hts _ (xg_of hkind.1 rfl), hts _ (xg_of hkind.2 rfl)⟩ ⟨xPc_blind hZ, hrecv, hpre⟩ rfl ?_ hlsz (xstack_recv ho) hrest hd hf) hSt.2 fin hge (by omega)
            have : b < st.length := (List.getElem?_eq_some_iff.mp ho).1
            simp; omega
          · cases hts1
      · cases hrc
    · cases hrc
  | invokestatic idx =>
    simp only [hme, xokC, Bool.and_eq_true, decide_eq_true_eq] at hlk
    obtain ⟨⟨hl, hpar⟩, hcl, hk0⟩ := hlk
    have hna : xna b me' = b := by unfold xna; rw [if_pos hk0]
    rw [if_pos hk0] at hkind
    have hstt := hts _ (xg_of (of_decide_eq_true hkind) rfl)
    rw [hna] at hrest hpre hM fin
    have hlen : ((st.take b).reverse.map (xlf B aS)).length = b := by have := hq.1; rw [hna] at this; simp; omega
    have hstk := xargs_drop (B := B) (aS := aS) (st := st) (k := b) (by have := hq.1; rw [hna] at this; exact this)
    by_cases hc0 : cf = 0
    · rw [if_pos hc0] at hl
      exact xcallW (va_runS (As := (st.take b).reverse.map (xlf B aS)) (rest := (st.drop b).map (xlf B aS)) ⟨hx, hb, hml, hown, hts⟩ hM ⟨callB_of b hts hgood rfl rfl rfl hini' (hts _ (xg_lk hl rfl)) ⟨hmh.1, hmh.2, hpar⟩ hroom, hstt⟩ ⟨xPc_blind hZ, hpre⟩ rfl hlen hlsz hstk hrest hd hf) hSt.2 fin hge (by omega)
    · rw [if_neg hc0] at hl
      exact xcallW (va_runSN (As := (st.take b).reverse.map (xlf B aS)) (rest := (st.drop b).map (xlf B aS)) ⟨hx, hb, hml, hown, hts⟩ hM ⟨va_cnB b hts hgood rfl rfl rfl (hE.2 _ (List.mem_of_getElem? (of_decide_eq_true hl)) rfl) hini' ⟨hmh.1, hmh.2, hpar⟩ hroom, hstt, trivial⟩ ⟨xPc_blind hZ, hpre⟩ rfl hlen hlsz hstk hrest hd hf) hSt.2 fin hge (by omega)
  | invokespecial idx =>
    simp only [hc2, if_false, hme, xokC, Bool.and_eq_true, decide_eq_true_eq] at hlk
    obtain ⟨⟨hl, hpar⟩, hcl, hk2⟩ := hlk
    have hna : xna b me' = b + 1 := by unfold xna; rw [if_neg (by rw [hk2]; decide)]
    rw [if_neg (by rw [hk2]; decide), if_neg (by rw [hk2]; decide)] at hkind
    simp only [Bool.and_eq_true, decide_eq_true_eq] at hkind
    have hrc := hq.2.2.2
    unfold xrecv at hrc
    rw [if_neg (by rw [hk2]; decide)] at hrc
    split at hrc
    next o ho =>
      have hins := hts _ (xg_of hkind.2.2.1 rfl)
      rw [hna] at hrest hpre hM fin
      rw [xtake_recv ho] at hpre hM
      have hgood2 := hgood
      have hlen : ((st.take b).reverse.map (xlf B aS)).length = b := by have : b < st.length := (List.getElem?_eq_some_iff.mp ho).1; simp; omega
      have hret := hkind.2.2.2
      by_cases hc0 : cf = 0
      · rw [if_pos hc0] at hl
        have cb := callB_of (bytes := me'.2.1) (maxL := me'.2.2.1) (ret := me'.2.2.2.1) b hts hgood rfl (rm := xrm d (M2.1.length - M.1.length) (xsl M2 - xsl M)) rfl rfl hini' (hts _ (xg_lk hl rfl)) ⟨hmh.1, hmh.2, hpar⟩ hroom
        rw [hret] at cb
        exact xcallW (va_runI (As := (st.take b).reverse.map (xlf B aS)) (rest := (st.drop (b + 1)).map (xlf B aS)) ⟨hx, hb, hml, hown, hts⟩ hM ⟨cb, hkind.2.1, hins⟩ ⟨xPc_blind hZ, hpre⟩ rfl hlen hlsz (xstack_recv ho) hrest hd hf) hSt.2 fin hge (by omega)
      · rw [if_neg hc0] at hl
        have cb := va_cnB (bytes := me'.2.1) (maxL := me'.2.2.1) (ret := me'.2.2.2.1) b hts hgood rfl (rm := xrm d (M2.1.length - M.1.length) (xsl M2 - xsl M)) rfl rfl (hE.2 _ (List.mem_of_getElem? (of_decide_eq_true hl)) rfl) hini' ⟨hmh.1, hmh.2, hpar⟩ hroom
        rw [hret] at cb
        exact xcallW (va_runIN (As := (st.take b).reverse.map (xlf B aS)) (rest := (st.drop (b + 1)).map (xlf B aS)) ⟨hx, hb, hml, hown, hts⟩ hM ⟨cb, hkind.2.1, hins⟩ ⟨xPc_blind hZ, hpre⟩ rfl hlen hlsz (xstack_recv ho) hrest hd hf) hSt.2 fin hge (by omega)
    · cases hrc
  | _ => simp [xend2] at h3
theorem xretok_inv {ins : Instr} {ret : Option FieldType} {z : Value} (h : xretok ins ret z = true) : (ins = .ireturn ∧ ret = some .int ∧ ∃ v, z = .int v) ∨ (ins = .ireturn ∧ ret = some .boolean ∧ ∃ v, z = .int v ∧ (v = 0 ∨ v = 1)) ∨ (ins = .lreturn ∧ ret = some .long ∧ ∃ v, z = .long v) ∨ (ins = .areturn ∧ (∃ C, ret = some (.object C)) ∧ ((∃ a, z = .ref a) ∨ z = .null)) := by
  unfold xretok at h
  split at h
  · exact Or.inl ⟨rfl, rfl, _, rfl⟩
  · exact Or.inr (Or.inl ⟨rfl, rfl, _, rfl, of_decide_eq_true h⟩)
  · exact Or.inr (Or.inr (Or.inl ⟨rfl, rfl, _, rfl⟩))
  · exact Or.inr (Or.inr (Or.inr ⟨rfl, ⟨_, rfl⟩, Or.inl ⟨_, rfl⟩⟩))
  · exact Or.inr (Or.inr (Or.inr ⟨rfl, ⟨_, rfl⟩, Or.inr rfl⟩))
  · cases h
set_option maxHeartbeats 4000000 in
/-- a return with a value -/
theorem xret_W {R : Room} {i : Nat} {st : List Value} {H : Heap} {locs : List Loc} {ls : Array Slot} {x : xI} (C : xCx p s m args meth c me D B n0 cA) (hi : me.2.2.2.2.2.2[i]? = some x) (h : xret x.2.1 me st M' = some (r, M')) (hSt : xSt D B cA M' s H locs) (hc : mc + n0 = M'.1.length) :
    W p l e R s m args below meth c H locs mc ms (MQ below (xQc D B aS cA r M') args s mc ms (fun q => B ≤ q)) (F0 m x.1 ls (st.map (xlf B aS))) := by
  have hI := xok_at C hi
  obtain ⟨hx, hb, hml, hr, hlocks, hnm, hown, hts, hK, hsz, hE, -⟩ := id C
  obtain ⟨pc, ins, len, ts, a, b, cf, lk, v⟩ := x
  simp only [xokI, Bool.and_eq_true, decide_eq_true_eq] at hI
  obtain ⟨hd, hlen, -, -⟩ := hI
  refine xsize C hSt hc (fun hH => ?_)
  have hq : ∀ (v : Value), r = some v → ∀ t : State, t.heap = H → s.WarmedH t.vm → xQc D B aS cA r M' args s (.returned (some (xlf B aS v))) t := fun v hv t ht _ => ⟨by rw [hv]; rfl, by rw [ht]; exact hH, by rw [ht]; exact hSt.1, fun q hq => by rw [ht]; exact hSt.2.2.1 q (by omega) (by omega)⟩
  have hf : ∀ q ∈ locs, B ≤ q.base := hSt.2.2.2
  unfold xret at h
  split at h
  next z =>
    obtain ⟨h1, h⟩ := xif_inv h
    cases h
    have hq := hq z rfl
    show W p l e R s m args below meth c H locs mc ms _ (F0 m pc ls [xlf B aS z])
    rcases xretok_inv h1 with ⟨rfl, hret, v, rfl⟩ | ⟨rfl, hret, v, rfl, hv⟩ | ⟨rfl, hret, v, rfl⟩ | ⟨rfl, ⟨Cn, hret⟩, hz⟩
    · have hl : len = 1 := by simpa [xlenok] using hlen
      subst hl
      rw [hret] at hr
      exact W.iret hx hb hr hq hf hd hlocks
    · have hl : len = 1 := by simpa [xlenok] using hlen
      subst hl
      rw [hret] at hr
      exact W.zret hx hb hr (by rcases hv with rfl | rfl <;> rfl) hq hf hd hlocks
    · have hl : len = 1 := by simpa [xlenok] using hlen
      subst hl
      rw [hret] at hr
      exact W.lret hx hb hr hq hf hd hlocks
    · have hl : len = 1 := by simpa [xlenok] using hlen
      subst hl
      rw [hret] at hr
      rcases hz with ⟨a, rfl⟩ | rfl
      · exact W.aret hx hb hr (Or.inl ⟨_, rfl⟩) (Or.inr ⟨_, rfl⟩) hq hf hd hlocks
      · exact W.aret hx hb hr (Or.inl ⟨_, rfl⟩) (Or.inl rfl) hq hf hd hlocks
  · cases h
set_option maxHeartbeats 4000000 in
theorem xbody {d : Nat} (hZ : xZok Z B) (hldc : xLdc l Z D B aS cA) (hbi : xBI l Z D B aS cA) (ih : ∀ d', d = d' + 1 → xMetAll l Z D B aS cA d') (hall : ∀ me ∈ xmt, xokM me = true) (C : xCx p s m args meth c me D B n0 cA) (hZs : Z s) (hmc : mc + n0 = M'.1.length) (hms : ms + s0 = xsl M') :
    ∀ (n i : Nat) (L : xL) (st : List Value) (M : xM) (H : Heap) (locs : List Loc) (cells slots : Nat) (ls : Array Slot) (x : xI), ev n d me i L st M = some (r, M') → me.2.2.2.2.2.2[i]? = some x → xhas B aS ls me.2.2.1 L → xSt D B cA M s H locs → cells + n0 = M.1.length → slots + s0 = xsl M →
      W p l e (xrm d mc ms) s m args below meth c H locs cells slots (MQ below (xQc D B aS cA r M') args s mc ms (fun q => B ≤ q)) (F0 m x.1 ls (st.map (xlf B aS))) := by
  intro n
  induction n with
  | zero => intro i L st M H locs cells slots ls x h; cases h
  | succ n ihn =>
    intro i L st M H locs cells slots ls x h hi hL hSt hc hs
    have hgr := ev_grow _ _ _ _ _ _ _ _ _ h
    unfold ev at h
    rw [hi] at h
    dsimp only at h
    split at h
    · split at h
      next i' L' st' M1 h1 =>
        obtain ⟨y, hy⟩ := ev_some h
        have hg := ev_grow _ _ _ _ _ _ _ _ _ h
        refine xstep_W hldc hZs C hi h1 hy hL hSt hc hs (by show _ ≤ n0 + mc; omega) (by show _ ≤ s0 + ms; omega) (fun ls' H' locs' cells' slots' hL' hSt' hc' hs' => ?_)
        exact ihn i' L' st' M1 H' locs' cells' slots' ls' y h hy hL' hSt' hc' hs'
      · cases h
    · have hM : M = M' := by
        unfold xret at h
        split at h
        · obtain ⟨_, h⟩ := xif_inv h; cases h; rfl
        · cases h
      subst hM
      have e1 : cells = mc := by omega
      have e2 : slots = ms := by omega
      subst e1; subst e2
      exact xret_W C hi h hSt hc
    next h2 =>
      unfold xvret at h
      split at h
      next =>
        obtain ⟨hret, h⟩ := xif_inv h
        cases h
        have e1 : cells = mc := by omega
        have e2 : slots = ms := by omega
        subst e1; subst e2
        have hI := xok_at C hi
        obtain ⟨hx, hb, hml, hr, hlocks, hnm, hown, hts, hK, hsz, hE, -⟩ := id C
        obtain ⟨pc, ins, len, ts, a, b, cf, lk, v⟩ := x
        simp only [xokI, Bool.and_eq_true, decide_eq_true_eq] at hI
        obtain ⟨hd, hlen, -, -⟩ := hI
        refine xsize C hSt hc (fun hH => ?_)
        have hins : ins = .return_ := by
          revert h2
          cases ins <;> simp [xend2]
        subst hins
        have hl : len = 1 := by simpa [xlenok] using hlen
        subst hl
        rw [hret] at hr
        exact W.vret hx hb hr (fun t ht _ => ⟨rfl, by rw [ht]; exact hH, by rw [ht]; exact hSt.1, fun q hq => by rw [ht]; exact hSt.2.2.1 q (by omega) (by omega)⟩) hSt.2.2.2 hd hlocks
      · cases h
    next h0 h1 h2 =>
      have h3 : xend2 x.2.1 = 3 := by
        revert h0 h1 h2
        cases x.2.1 <;> simp [xend2]
      have hI := xok_at C hi
      obtain ⟨pc, ins, len, ts, a, b, cf, lk, v⟩ := x
      have hlen3 : len = 3 := by
        simp only [xokI, Bool.and_eq_true, decide_eq_true_eq] at hI
        have hlen := hI.2.1
        have h3' : xend2 ins = 3 := h3
        revert h3' hlen
        cases ins <;> simp [xend2, xlenok]
      subst hlen3
      have hnext : ∀ y : xI, me.2.2.2.2.2.2[i + 1]? = some y → y.1 = pc + 3 := fun y hy => by
        simp only [xokI, Bool.and_eq_true, decide_eq_true_eq] at hI
        have h5 := hI.2.2.1
        rw [hy] at h5
        exact of_decide_eq_true h5
      unfold xcallf at h
      dsimp only at h
      obtain ⟨hx, hb, hml, hr, hlocks, hnm, hown, hts, hK, hsz, hE, -⟩ := id C
      have hI' := hI
      simp only [xokI, Bool.and_eq_true, decide_eq_true_eq] at hI'
      obtain ⟨hd, -, -, hlk⟩ := hI'
      by_cases c2 : cf = 2
      · rw [if_pos c2] at h
        split at h
        next o rr =>
          obtain ⟨hcat, h⟩ := xif_inv h
          obtain ⟨y, hy⟩ := ev_some h
          have k := ihn (i + 1) L rr M H locs cells slots ls y h hy hL hSt hc hs
          rw [hnext y hy] at k
          have h3' : xend2 ins = 3 := h3
          cases ins with
          | invokespecial idx =>
            simp only [c2, if_true] at hlk
            refine W.objInit hx hb hown (hts _ (xg_lk hlk rfl)) (hts _ (xg_of xobj_in.1 rfl)) (hts _ (xg_of xobj_in.2 rfl)) rfl (hL.1.trans hml.symm) rfl hd (by show 1 ≤ d + 1; omega) ?_ k
            have := lv_room (m := m) (pc := pc) (ls := ls) (rest := (Value.ref o :: rr).map (xlf B aS)) (st := rr.map (xlf B aS)) (by rw [xcats]; exact hcat)
            show 2 * (F0 m pc ls ((Value.ref o :: rr).map (xlf B aS))).monitorRoom + ((rr.map (xlf B aS)).map fun v => v.category).sum + 12 ≤ 40 * (d + 1)
            omega
          | invokevirtual idx =>
            cases hx2 : xmt[a]? with
            | none => simp [c2, hx2] at hlk
            | some q => simp [c2, hx2] at hlk
          | invokestatic idx =>
            cases hx2 : xmt[a]? with
            | none => simp [c2, hx2] at hlk
            | some q => simp [c2, hx2] at hlk
          | _ => simp [xend2] at h3'
        · cases h
      · rw [if_neg c2] at h
        have h3' : xend2 ins = 3 := h3
        by_cases c3 : cf = 3
        · rw [if_pos c3] at h
          split at h
          next o rr =>
            obtain ⟨hcat, h⟩ := xif_inv h
            obtain ⟨y, hy⟩ := ev_some h
            have e1 := hnext y hy
            cases ins with
            | invokevirtual idx =>
              simp only [c3, if_true] at hlk
              refine (hbi p e (xrm d mc ms) s m args below meth c H locs cells slots _ me n0 ls pc idx (rr.map (xlf B aS)) C hZs hSt.2 hL.1 (by rw [xcats]; exact hcat.2) (by show 5 ≤ d + 1; omega) (by show 200 ≤ 40 * (d + 1); omega) (by show cells ≤ mc; omega) (by show slots ≤ ms; omega) hd).1 (List.mem_of_getElem? (of_decide_eq_true hlk)) (fun locs' hS' => ?_)
              have k := ihn (i + 1) L (.int (nI xtextLen) :: rr) M H locs' cells slots ls y h hy hL ⟨hSt.1, hS'⟩ hc hs
              rw [e1] at k
              exact k
            | invokespecial idx =>
              cases hx2 : xmt[a]? with
              | none => simp [c3, hx2] at hlk
              | some q => simp [c3, hx2] at hlk
            | invokestatic idx =>
              cases hx2 : xmt[a]? with
              | none => simp [c3, hx2] at hlk
              | some q => simp [c3, hx2] at hlk
            | _ => simp [xend2] at h3'
          · cases h
        · rw [if_neg c3] at h
          by_cases c4 : cf = 4
          · rw [if_pos c4] at h
            split at h
            next kx o rr =>
              obtain ⟨hcat, h⟩ := xif_inv h
              obtain ⟨y, hy⟩ := ev_some h
              have e1 := hnext y hy
              cases ins with
              | invokevirtual idx =>
                simp only [c4, if_true] at hlk
                refine (hbi p e (xrm d mc ms) s m args below meth c H locs cells slots _ me n0 ls pc idx (rr.map (xlf B aS)) C hZs hSt.2 hL.1 (by rw [xcats]; exact hcat.2.1) (by show 5 ≤ d + 1; omega) (by show 200 ≤ 40 * (d + 1); omega) (by show cells ≤ mc; omega) (by show slots ≤ ms; omega) hd).2 kx hcat.2.2 (List.mem_of_getElem? (of_decide_eq_true hlk)) (fun locs' hS' => ?_)
                have k := ihn (i + 1) L (.int (xtext.getD kx.toNatClampNeg 0) :: rr) M H locs' cells slots ls y h hy hL ⟨hSt.1, hS'⟩ hc hs
                rw [e1] at k
                exact k
              | invokespecial idx =>
                cases hx2 : xmt[a]? with
                | none => simp [c4, hx2] at hlk
                | some q => simp [c4, hx2] at hlk
              | invokestatic idx =>
                cases hx2 : xmt[a]? with
                | none => simp [c4, hx2] at hlk
                | some q => simp [c4, hx2] at hlk
              | _ => simp [xend2] at h3'
            · cases h
          · rw [if_neg c4] at h
            unfold xcallm at h
            split at h
            next d' me' hme =>
              obtain ⟨hq, h⟩ := xif_inv h
              split at h
              next r2 M2 h2' =>
                obtain ⟨y, hy⟩ := ev_some h
                have hg := ev_grow _ _ _ _ _ _ _ _ _ h
                have e1 := hnext y hy
                refine xcallm_W (s0 := s0) (by show d' + 2 ≤ d' + 1 + 1; omega) (by show 40 * (d' + 2) ≤ 40 * (d' + 1 + 1); omega) hZ (ih d' rfl) C hZs hi c2 c3 c4 h3 hme (hall me' (List.mem_of_getElem? hme)) hq h2' hL hSt hc hs (by show _ ≤ n0 + mc; omega) (by show _ ≤ s0 + ms; omega) (fun H1 locs1 cells1 slots1 hS1 hc1 hs1 => ?_)
                have k := ihn (i + 1) L _ M2 H1 locs1 cells1 slots1 ls y h hy hL hS1 hc1 hs1
                rw [e1] at k
                exact k
              · cases h
            · cases h
end
set_option maxHeartbeats 4000000 in
theorem xMet_of {l : Launch} {Z : State → Prop} {D : va_G} {B aS : Nat} {cA : Nat → ClassId} (hZ : xZok Z B) (hldc : xLdc l Z D B aS cA) (hbi : xBI l Z D B aS cA) (hall : ∀ me ∈ xmt, xokM me = true) (d : Nat) (ih : ∀ d', d = d' + 1 → xMetAll l Z D B aS cA d') : xMetAll l Z D B aS cA d := by
  intro n me av M M' r mc ms hmem hfl hev hmc hms
  have hok := hall me hmem
  have hok2 := hok
  unfold xokM xokH at hok
  simp only [Bool.and_eq_true, decide_eq_true_eq] at hok
  obtain ⟨⟨hcode, hini, hpl, hcls, hmh, h21, hkind⟩, hlen, h0, -⟩ := hok
  refine Met.ofW (cc := me.2.1) (maxL := me.2.2.1) (ret := me.2.2.2.1) hpl rfl ?_
  intro p e s m args below meth c s₁ Bd hml hv
  obtain ⟨rfl, hsz, hP, hK, hE, hZs⟩ := hv
  have hts0 := atoms_spec (ws := xws me) Bd.pre
  have hts : ∀ w ∈ xg, w.before (av.map (xlf B aS)).toArray s = true := fun w hw => hts0 w (List.mem_cons_of_mem _ hw)
  have hown : s.vm.findClass me.1.cls = some m.cls := findClass_of_methodNamed Bd.named
  have hin : meth.name = me.1.name := (name_of_methodNamed Bd.named Bd.method).1
  rw [hcls] at hown
  have C : xCx p s m (av.map (xlf B aS)).toArray meth c me D B M.1.length cA := ⟨Bd.exec, Bd.bytes, hml, Bd.returns, Bd.notSynchronized, hin, hown, hts, hK, hsz, hE, hok2⟩
  obtain ⟨x, hx⟩ := ev_some hev
  have hx0 : x.1 = 0 := by
    rw [hx] at h0
    exact of_decide_eq_true h0
  rw [lg_entry_eq]
  have := xbody (e := e) (below := below) (s0 := xsl M) hZ hldc hbi ih hall C hZs hmc hms n 0 _ [] M s.heap [] 0 0 _ x hev hx (xentry_has av hfl) ⟨hP, va_S.rf⟩ (by omega) (by omega)
  rw [hx0] at this
  exact this
set_option maxHeartbeats 4000000 in
/-- EVERY METHOD KEEPS ITS CONTRACT, at every depth -/
theorem xMet_all {l : Launch} {Z : State → Prop} {D : va_G} {B aS : Nat} {cA : Nat → ClassId} (hZ : xZok Z B) (hldc : xLdc l Z D B aS cA) (hbi : xBI l Z D B aS cA) (hall : ∀ me ∈ xmt, xokM me = true) : ∀ d : Nat, xMetAll l Z D B aS cA d := by
  intro d
  induction d with
  | zero => exact xMet_of hZ hldc hbi hall 0 (fun d' h => by omega)
  | succ d ih => exact xMet_of hZ hldc hbi hall (d + 1) (fun d' h => by cases h; exact ih)
end
section
theorem ev_mono : ∀ (n d : Nat) (me : xMe) (i : Nat) (L : xL) (st : List Value) (M : xM) (q : Option Value × xM), ev n d me i L st M = some q → ev (n + 1) d me i L st M = some q := by
  intro n
  induction n with
  | zero => intro d me i L st M q h; cases h
  | succ n ih =>
    intro d me i L st M q h
    unfold ev at h
    unfold ev
    cases hP : me.2.2.2.2.2.2[i]? with
    | none => rw [hP] at h; cases h
    | some x =>
      rw [hP] at h
      dsimp only at h ⊢
      split at h
      next h0 =>
        cases hs : xstep x i L st M with
        | none => rw [hs] at h; cases h
        | some z =>
          rw [hs] at h
          exact ih _ _ _ _ _ _ _ h
      next h0 => exact h
      next h0 => exact h
      next h0 h1 h2 =>
        have h3 : xend2 x.2.1 = 3 := by
          revert h0 h1 h2
          cases x.2.1 <;> simp [xend2]
        unfold xcallf at h ⊢
        obtain ⟨pc, ins, len, ts, a, b, cf, lk, v⟩ := x
        dsimp only at h ⊢
        split at h
        next c2 =>
          rw [if_pos c2]
          split at h
          next o r =>
            obtain ⟨hq, h⟩ := xif_inv h
            try dsimp only
            rw [if_pos hq]
            exact ih _ _ _ _ _ _ _ h
          · cases h
        next c2 =>
          rw [if_neg c2]
          split at h
          next c3 =>
            rw [if_pos c3]
            split at h
            next o r =>
              obtain ⟨hq, h⟩ := xif_inv h
              try dsimp only
              rw [if_pos hq]
              exact ih _ _ _ _ _ _ _ h
            · cases h
          next c3 =>
            rw [if_neg c3]
            split at h
            next c4 =>
              rw [if_pos c4]
              split at h
              next k o r =>
                obtain ⟨hq, h⟩ := xif_inv h
                try dsimp only
                rw [if_pos hq]
                exact ih _ _ _ _ _ _ _ h
              · cases h
            next c4 =>
              rw [if_neg c4]
              unfold xcallm at h ⊢
              split at h
              next d' me' hme =>
                (try rw [hme])
                try dsimp only
                obtain ⟨hq, h⟩ := xif_inv h
                rw [if_pos hq]
                split at h
                next r2 M2 h2' =>
                  rw [ih _ _ _ _ _ _ _ h2']
                  exact ih _ _ _ _ _ _ _ h
                · cases h
              · cases h
theorem ev_mono' {n k d : Nat} {me : xMe} {i : Nat} {L : xL} {st : List Value} {M : xM} {q : Option Value × xM} (h : ev n d me i L st M = some q) : ev (n + k) d me i L st M = some q := by
  induction k with
  | zero => exact h
  | succ k ih => exact ev_mono _ _ _ _ _ _ _ _ ih
/-- from here the run ends, with Q -/
def wp (d : Nat) (me : xMe) (i : Nat) (L : xL) (st : List Value) (M : xM) (Q : Option Value → xM → Prop) : Prop := ∃ n r M', ev n d me i L st M = some (r, M') ∧ Q r M'
section
variable {d : Nat} {me : xMe} {i i' : Nat} {L L' : xL} {st st' : List Value} {M M1 : xM} {Q : Option Value → xM → Prop} {x : xI}
theorem wp_step (hx : me.2.2.2.2.2.2[i]? = some x) (h0 : xend2 x.2.1 = 0) (hs : xstep x i L st M = some (i', L', st', M1)) (k : wp d me i' L' st' M1 Q) : wp d me i L st M Q := by
  obtain ⟨n, r, M', h, hq⟩ := k
  refine ⟨n + 1, r, M', ?_, hq⟩
  unfold ev
  rw [hx]
  try dsimp only
  rw [h0]
  try dsimp only
  rw [hs]
  exact h
theorem wp_ret {z : Value} (hx : me.2.2.2.2.2.2[i]? = some x) (h1 : xend2 x.2.1 = 1) (hr : xretok x.2.1 me.2.2.2.1 z = true) (hq : Q (some z) M) : wp d me i L [z] M Q := by
  refine ⟨1, some z, M, ?_, hq⟩
  unfold ev
  rw [hx]
  try dsimp only
  rw [h1]
  simp [xret, hr]
theorem wp_vret (hx : me.2.2.2.2.2.2[i]? = some x) (h1 : xend2 x.2.1 = 2) (hr : me.2.2.2.1 = none) (hq : Q none M) : wp d me i L [] M Q := by
  refine ⟨1, none, M, ?_, hq⟩
  unfold ev
  rw [hx]
  try dsimp only
  rw [h1]
  simp [xvret, hr]
theorem wp_call {pc len a b cf lk : Nat} {ins : Instr} {ts : List Nat} {v : Int64} {me' : xMe} {av rest : List Value} (hx : me.2.2.2.2.2.2[i]? = some (pc, ins, len, ts, a, b, cf, lk, v)) (h1 : xend2 ins = 3) (hcf : cf ≤ 1) (hme : xmt[a]? = some me') (hst : st = av.reverse ++ rest) (hna : av.length = xna b me')
    (hcat : (rest.map fun v => v.category).sum ≤ 8) (hfl : (xflat av).length ≤ me'.2.2.1) (hrc : xrecv ts b me' st M = true) (k : wp d me' 0 (xentry me'.2.2.1 av) [] M (fun r M' => wp (d + 1) me (i + 1) L (r.toList ++ rest) M' Q)) : wp (d + 1) me i L st M Q := by
  obtain ⟨n1, r1, M1, h1', n2, r, M', h2, hq⟩ := k
  refine ⟨n1 + n2 + 1, r, M', ?_, hq⟩
  unfold ev
  rw [hx]
  try dsimp only
  rw [h1]
  try dsimp only
  unfold xcallf
  try dsimp only
  rw [if_neg (by omega), if_neg (by omega), if_neg (by omega)]
  unfold xcallm
  rw [hme]
  try dsimp only
  have ht : st.take (xna b me') = av.reverse := by rw [hst, ← hna, ← List.length_reverse, List.take_left]
  have hd : st.drop (xna b me') = rest := by rw [hst, ← hna, ← List.length_reverse, List.drop_left]
  rw [ht, hd, List.reverse_reverse]
  rw [if_pos ⟨by rw [hst, ← hna]; simp, hcat, hfl, hrc⟩]
  rw [ev_mono' (k := n2) h1']
  try dsimp only
  rw [show n1 + n2 = n2 + n1 by omega]
  exact ev_mono' h2
theorem wp_objInit {pc len a b lk o : Nat} {ins : Instr} {ts : List Nat} {v : Int64} {r : List Value} (hx : me.2.2.2.2.2.2[i]? = some (pc, ins, len, ts, a, b, 2, lk, v)) (h1 : xend2 ins = 3) (hcat : (r.map fun v => v.category).sum ≤ 8) (k : wp d me (i + 1) L r M Q) : wp d me i L (.ref o :: r) M Q := by
  obtain ⟨n, r', M', h, hq⟩ := k
  refine ⟨n + 1, r', M', ?_, hq⟩
  unfold ev
  rw [hx]
  try dsimp only
  rw [h1]
  simp only [xcallf, if_true]
  rw [if_pos hcat]
  exact h
theorem wp_mono {Q' : Option Value → xM → Prop} (h : wp d me i L st M Q) (hq : ∀ r M', Q r M' → Q' r M') : wp d me i L st M Q' := by
  obtain ⟨n, r, M', h1, h2⟩ := h
  exact ⟨n, r, M', h1, hq r M' h2⟩
end
end
section
section
variable {d : Nat} {me : xMe} {i j : Nat} {L : xL} {r : List Value} {M : xM} {Q : Option Value → xM → Prop} {pc len a b c lk : Nat} {ts : List Nat} {v : Int64}
variable {S : List xSh} {I : Nat → Nat → Int32} {J : Nat → Nat → Int64}
theorem w_iconst {n : Int} {z : Int32} (hx : me.2.2.2.2.2.2[i]? = some (pc, .iconst n, len, ts, a, b, c, lk, v)) (hz : Int32.ofInt n = z) (hi : i + 1 = j) (k : wp d me j L (.int z :: r) M Q) : wp d me i L r M Q := by
  subst hi
  refine wp_step hx rfl ?_ k
  simp [xstep, hz]
theorem w_bipush {n : Int} {z : Int32} (hx : me.2.2.2.2.2.2[i]? = some (pc, .bipush n, len, ts, a, b, c, lk, v)) (hz : (Int8.ofInt n).toInt32 = z) (hi : i + 1 = j) (k : wp d me j L (.int z :: r) M Q) : wp d me i L r M Q := by
  subst hi
  refine wp_step hx rfl ?_ k
  simp [xstep, hz]
theorem w_sipush {n : Int} {z : Int32} (hx : me.2.2.2.2.2.2[i]? = some (pc, .sipush n, len, ts, a, b, c, lk, v)) (hz : (Int16.ofInt n).toInt32 = z) (hi : i + 1 = j) (k : wp d me j L (.int z :: r) M Q) : wp d me i L r M Q := by
  subst hi
  refine wp_step hx rfl ?_ k
  simp [xstep, hz]
theorem w_lconst {n : Fin 2} {z : Int64} (hx : me.2.2.2.2.2.2[i]? = some (pc, .lconst n, len, ts, a, b, c, lk, v)) (hz : Int64.ofNat (n : Nat) = z) (hi : i + 1 = j) (k : wp d me j L (.long z :: r) M Q) : wp d me i L r M Q := by
  subst hi
  refine wp_step hx rfl ?_ k
  simp [xstep, hz]
theorem w_ldc2_w {n : Nat} {z : Int64} (hx : me.2.2.2.2.2.2[i]? = some (pc, .ldc2_w n, len, ts, a, b, c, lk, v)) (hz : v = z) (hi : i + 1 = j) (k : wp d me j L (.long z :: r) M Q) : wp d me i L r M Q := by
  subst hi
  refine wp_step hx rfl ?_ k
  simp [xstep, hz]
theorem w_aconst_null  (hx : me.2.2.2.2.2.2[i]? = some (pc, .aconst_null, len, ts, a, b, c, lk, v))  (hi : i + 1 = j) (k : wp d me j L (.null :: r) M Q) : wp d me i L r M Q := by
  subst hi
  refine wp_step hx rfl ?_ k
  simp [xstep]
theorem w_iload {n : Nat} {z : Int32} (hx : me.2.2.2.2.2.2[i]? = some (pc, .iload n, len, ts, a, b, c, lk, v)) (hl : xld L n = some (.int z)) (hi : i + 1 = j) (k : wp d me j L (.int z :: r) M Q) : wp d me i L r M Q := by
  subst hi
  refine wp_step hx rfl ?_ k
  simp [xstep, xldI, hl]
theorem w_iload_n {n : Fin 4} {z : Int32} (hx : me.2.2.2.2.2.2[i]? = some (pc, .iload_n n, len, ts, a, b, c, lk, v)) (hl : xld L (n : Nat) = some (.int z)) (hi : i + 1 = j) (k : wp d me j L (.int z :: r) M Q) : wp d me i L r M Q := by
  subst hi
  refine wp_step hx rfl ?_ k
  simp [xstep, xldI, hl]
theorem w_lload {n : Nat} {z : Int64} (hx : me.2.2.2.2.2.2[i]? = some (pc, .lload n, len, ts, a, b, c, lk, v)) (hl : xld L n = some (.long z)) (hi : i + 1 = j) (k : wp d me j L (.long z :: r) M Q) : wp d me i L r M Q := by
  subst hi
  refine wp_step hx rfl ?_ k
  simp [xstep, xldL, hl]
theorem w_lload_n {n : Fin 4} {z : Int64} (hx : me.2.2.2.2.2.2[i]? = some (pc, .lload_n n, len, ts, a, b, c, lk, v)) (hl : xld L (n : Nat) = some (.long z)) (hi : i + 1 = j) (k : wp d me j L (.long z :: r) M Q) : wp d me i L r M Q := by
  subst hi
  refine wp_step hx rfl ?_ k
  simp [xstep, xldL, hl]
theorem w_aload {n : Nat} {z : Nat} (hx : me.2.2.2.2.2.2[i]? = some (pc, .aload n, len, ts, a, b, c, lk, v)) (hl : xld L n = some (.ref z)) (hi : i + 1 = j) (k : wp d me j L (.ref z :: r) M Q) : wp d me i L r M Q := by
  subst hi
  refine wp_step hx rfl ?_ k
  simp [xstep, xldR, hl]
theorem w_aload_n {n : Fin 4} {z : Nat} (hx : me.2.2.2.2.2.2[i]? = some (pc, .aload_n n, len, ts, a, b, c, lk, v)) (hl : xld L (n : Nat) = some (.ref z)) (hi : i + 1 = j) (k : wp d me j L (.ref z :: r) M Q) : wp d me i L r M Q := by
  subst hi
  refine wp_step hx rfl ?_ k
  simp [xstep, xldR, hl]
theorem w_istore {n : Nat} {z : Int32} {L2 : xL} (hx : me.2.2.2.2.2.2[i]? = some (pc, .istore n, len, ts, a, b, c, lk, v)) (hl : xst1 L n (.int z) = some L2) (hi : i + 1 = j) (k : wp d me j L2 r M Q) : wp d me i L (.int z :: r) M Q := by
  subst hi
  refine wp_step hx rfl ?_ k
  simp [xstep, xP1, hl]
theorem w_istore_n {n : Fin 4} {z : Int32} {L2 : xL} (hx : me.2.2.2.2.2.2[i]? = some (pc, .istore_n n, len, ts, a, b, c, lk, v)) (hl : xst1 L (n : Nat) (.int z) = some L2) (hi : i + 1 = j) (k : wp d me j L2 r M Q) : wp d me i L (.int z :: r) M Q := by
  subst hi
  refine wp_step hx rfl ?_ k
  simp [xstep, xP1, hl]
theorem w_lstore {n : Nat} {z : Int64} {L2 : xL} (hx : me.2.2.2.2.2.2[i]? = some (pc, .lstore n, len, ts, a, b, c, lk, v)) (hl : xst2 L n (.long z) = some L2) (hi : i + 1 = j) (k : wp d me j L2 r M Q) : wp d me i L (.long z :: r) M Q := by
  subst hi
  refine wp_step hx rfl ?_ k
  simp [xstep, xPl, hl]
theorem w_lstore_n {n : Fin 4} {z : Int64} {L2 : xL} (hx : me.2.2.2.2.2.2[i]? = some (pc, .lstore_n n, len, ts, a, b, c, lk, v)) (hl : xst2 L (n : Nat) (.long z) = some L2) (hi : i + 1 = j) (k : wp d me j L2 r M Q) : wp d me i L (.long z :: r) M Q := by
  subst hi
  refine wp_step hx rfl ?_ k
  simp [xstep, xPl, hl]
theorem w_astore {n : Nat} {z : Nat} {L2 : xL} (hx : me.2.2.2.2.2.2[i]? = some (pc, .astore n, len, ts, a, b, c, lk, v)) (hl : xst1 L (n : Nat) (.ref z) = some L2) (hi : i + 1 = j) (k : wp d me j L2 r M Q) : wp d me i L (.ref z :: r) M Q := by
  subst hi
  refine wp_step hx rfl ?_ k
  simp [xstep, xpR, hl]
theorem w_astore_n {n : Fin 4} {z : Nat} {L2 : xL} (hx : me.2.2.2.2.2.2[i]? = some (pc, .astore_n n, len, ts, a, b, c, lk, v)) (hl : xst1 L (n : Nat) (.ref z) = some L2) (hi : i + 1 = j) (k : wp d me j L2 r M Q) : wp d me i L (.ref z :: r) M Q := by
  subst hi
  refine wp_step hx rfl ?_ k
  simp [xstep, xpR, hl]
theorem w_iinc {n : Nat} {q : Int} {z z2 : Int32} {L2 : xL} (hx : me.2.2.2.2.2.2[i]? = some (pc, .iinc n q, len, ts, a, b, c, lk, v)) (hl : xld L n = some (.int z)) (hz : z + Int32.ofInt q = z2) (hs : xst1 L n (.int z2) = some L2) (hi : i + 1 = j) (k : wp d me j L2 r M Q) : wp d me i L r M Q := by
  subst hi
  refine wp_step hx rfl ?_ k
  subst hz
  simp [xstep, xldI, hl, hs]
theorem w_iadd {x y : Int32} (hx : me.2.2.2.2.2.2[i]? = some (pc, .iadd, len, ts, a, b, c, lk, v))  (hi : i + 1 = j) (k : wp d me j L (.int (x + y) :: r) M Q) : wp d me i L (.int y :: .int x :: r) M Q := by
  subst hi
  refine wp_step hx rfl ?_ k
  simp [xstep, xP2]
theorem w_isub {x y : Int32} (hx : me.2.2.2.2.2.2[i]? = some (pc, .isub, len, ts, a, b, c, lk, v))  (hi : i + 1 = j) (k : wp d me j L (.int (x - y) :: r) M Q) : wp d me i L (.int y :: .int x :: r) M Q := by
  subst hi
  refine wp_step hx rfl ?_ k
  simp [xstep, xP2]
theorem w_imul {x y : Int32} (hx : me.2.2.2.2.2.2[i]? = some (pc, .imul, len, ts, a, b, c, lk, v))  (hi : i + 1 = j) (k : wp d me j L (.int (x * y) :: r) M Q) : wp d me i L (.int y :: .int x :: r) M Q := by
  subst hi
  refine wp_step hx rfl ?_ k
  simp [xstep, xP2]
theorem w_iand {x y : Int32} (hx : me.2.2.2.2.2.2[i]? = some (pc, .iand, len, ts, a, b, c, lk, v))  (hi : i + 1 = j) (k : wp d me j L (.int (x &&& y) :: r) M Q) : wp d me i L (.int y :: .int x :: r) M Q := by
  subst hi
  refine wp_step hx rfl ?_ k
  simp [xstep, xP2]
theorem w_ior {x y : Int32} (hx : me.2.2.2.2.2.2[i]? = some (pc, .ior, len, ts, a, b, c, lk, v))  (hi : i + 1 = j) (k : wp d me j L (.int (x ||| y) :: r) M Q) : wp d me i L (.int y :: .int x :: r) M Q := by
  subst hi
  refine wp_step hx rfl ?_ k
  simp [xstep, xP2]
theorem w_ixor {x y : Int32} (hx : me.2.2.2.2.2.2[i]? = some (pc, .ixor, len, ts, a, b, c, lk, v))  (hi : i + 1 = j) (k : wp d me j L (.int (x ^^^ y) :: r) M Q) : wp d me i L (.int y :: .int x :: r) M Q := by
  subst hi
  refine wp_step hx rfl ?_ k
  simp [xstep, xP2]
theorem w_ishl {x y : Int32} (hx : me.2.2.2.2.2.2[i]? = some (pc, .ishl, len, ts, a, b, c, lk, v))  (hi : i + 1 = j) (k : wp d me j L (.int (x <<< (y &&& 31)) :: r) M Q) : wp d me i L (.int y :: .int x :: r) M Q := by
  subst hi
  refine wp_step hx rfl ?_ k
  simp [xstep, xP2]
theorem w_ishr {x y : Int32} (hx : me.2.2.2.2.2.2[i]? = some (pc, .ishr, len, ts, a, b, c, lk, v))  (hi : i + 1 = j) (k : wp d me j L (.int (x >>> (y &&& 31)) :: r) M Q) : wp d me i L (.int y :: .int x :: r) M Q := by
  subst hi
  refine wp_step hx rfl ?_ k
  simp [xstep, xP2]
theorem w_ladd {x y : Int64} (hx : me.2.2.2.2.2.2[i]? = some (pc, .ladd, len, ts, a, b, c, lk, v))  (hi : i + 1 = j) (k : wp d me j L (.long (x + y) :: r) M Q) : wp d me i L (.long y :: .long x :: r) M Q := by
  subst hi
  refine wp_step hx rfl ?_ k
  simp [xstep, xPll]
theorem w_lmul {x y : Int64} (hx : me.2.2.2.2.2.2[i]? = some (pc, .lmul, len, ts, a, b, c, lk, v))  (hi : i + 1 = j) (k : wp d me j L (.long (x * y) :: r) M Q) : wp d me i L (.long y :: .long x :: r) M Q := by
  subst hi
  refine wp_step hx rfl ?_ k
  simp [xstep, xPll]
theorem w_land {x y : Int64} (hx : me.2.2.2.2.2.2[i]? = some (pc, .land, len, ts, a, b, c, lk, v))  (hi : i + 1 = j) (k : wp d me j L (.long (x &&& y) :: r) M Q) : wp d me i L (.long y :: .long x :: r) M Q := by
  subst hi
  refine wp_step hx rfl ?_ k
  simp [xstep, xPll]
theorem w_lor {x y : Int64} (hx : me.2.2.2.2.2.2[i]? = some (pc, .lor, len, ts, a, b, c, lk, v))  (hi : i + 1 = j) (k : wp d me j L (.long (x ||| y) :: r) M Q) : wp d me i L (.long y :: .long x :: r) M Q := by
  subst hi
  refine wp_step hx rfl ?_ k
  simp [xstep, xPll]
theorem w_lcmp {x y : Int64} (hx : me.2.2.2.2.2.2[i]? = some (pc, .lcmp, len, ts, a, b, c, lk, v))  (hi : i + 1 = j) (k : wp d me j L (.int (lg_cmp x y) :: r) M Q) : wp d me i L (.long y :: .long x :: r) M Q := by
  subst hi
  refine wp_step hx rfl ?_ k
  simp [xstep, xPll]
theorem w_lshl {x : Int64} {y : Int32} (hx : me.2.2.2.2.2.2[i]? = some (pc, .lshl, len, ts, a, b, c, lk, v))  (hi : i + 1 = j) (k : wp d me j L (.long (x <<< (y.toInt64 &&& 63)) :: r) M Q) : wp d me i L (.int y :: .long x :: r) M Q := by
  subst hi
  refine wp_step hx rfl ?_ k
  simp [xstep, xPil]
theorem w_lshr {x : Int64} {y : Int32} (hx : me.2.2.2.2.2.2[i]? = some (pc, .lshr, len, ts, a, b, c, lk, v))  (hi : i + 1 = j) (k : wp d me j L (.long (x >>> (y.toInt64 &&& 63)) :: r) M Q) : wp d me i L (.int y :: .long x :: r) M Q := by
  subst hi
  refine wp_step hx rfl ?_ k
  simp [xstep, xPil]
theorem w_i2l {x : Int32} (hx : me.2.2.2.2.2.2[i]? = some (pc, .i2l, len, ts, a, b, c, lk, v))  (hi : i + 1 = j) (k : wp d me j L (.long x.toInt64 :: r) M Q) : wp d me i L (.int x :: r) M Q := by
  subst hi
  refine wp_step hx rfl ?_ k
  simp [xstep, xP1]
theorem w_i2b {x : Int32} (hx : me.2.2.2.2.2.2[i]? = some (pc, .i2b, len, ts, a, b, c, lk, v))  (hi : i + 1 = j) (k : wp d me j L (.int x.toInt8.toInt32 :: r) M Q) : wp d me i L (.int x :: r) M Q := by
  subst hi
  refine wp_step hx rfl ?_ k
  simp [xstep, xP1]
theorem w_l2i {x : Int64} (hx : me.2.2.2.2.2.2[i]? = some (pc, .l2i, len, ts, a, b, c, lk, v))  (hi : i + 1 = j) (k : wp d me j L (.int x.toInt32 :: r) M Q) : wp d me i L (.long x :: r) M Q := by
  subst hi
  refine wp_step hx rfl ?_ k
  simp [xstep, xPl]
theorem w_dup {z : Value} (hx : me.2.2.2.2.2.2[i]? = some (pc, .dup, len, ts, a, b, c, lk, v)) (hz : z.category = 1) (hi : i + 1 = j) (k : wp d me j L (z :: z :: r) M Q) : wp d me i L (z :: r) M Q := by
  subst hi
  refine wp_step hx rfl ?_ k
  simp [xstep, hz]
theorem w_dup2 {y z : Value} (hx : me.2.2.2.2.2.2[i]? = some (pc, .dup2, len, ts, a, b, c, lk, v)) (hy : y.category = 1) (hz : z.category = 1) (hi : i + 1 = j) (k : wp d me j L (y :: z :: y :: z :: r) M Q) : wp d me i L (y :: z :: r) M Q := by
  subst hi
  refine wp_step hx rfl ?_ k
  simp [xstep, hy, hz]
theorem w_ifeq_t {z : Int32} {off : Int} (hx : me.2.2.2.2.2.2[i]? = some (pc, .ifCond .eq off, len, ts, a, b, c, lk, v)) (hc : z = 0) (ht : ts.getD 0 0 = j) (k : wp d me j L r M Q) : wp d me i L (.int z :: r) M Q := by
  subst ht
  refine wp_step hx rfl ?_ k
  simp [xstep, xP1, xc, hc]
theorem w_icmpeq_t {x y : Int32} {off : Int} (hx : me.2.2.2.2.2.2[i]? = some (pc, .if_icmp .eq off, len, ts, a, b, c, lk, v)) (hc : x = y) (ht : ts.getD 0 0 = j) (k : wp d me j L r M Q) : wp d me i L (.int y :: .int x :: r) M Q := by
  subst ht
  refine wp_step hx rfl ?_ k
  simp [xstep, xP2, xc, hc]
theorem w_ifeq_f {z : Int32} {off : Int} (hx : me.2.2.2.2.2.2[i]? = some (pc, .ifCond .eq off, len, ts, a, b, c, lk, v)) (hc : ¬ z = 0) (hi : i + 1 = j) (k : wp d me j L r M Q) : wp d me i L (.int z :: r) M Q := by
  subst hi
  refine wp_step hx rfl ?_ k
  simp [xstep, xP1, xc, hc]
theorem w_icmpeq_f {x y : Int32} {off : Int} (hx : me.2.2.2.2.2.2[i]? = some (pc, .if_icmp .eq off, len, ts, a, b, c, lk, v)) (hc : ¬ x = y) (hi : i + 1 = j) (k : wp d me j L r M Q) : wp d me i L (.int y :: .int x :: r) M Q := by
  subst hi
  refine wp_step hx rfl ?_ k
  simp [xstep, xP2, xc, hc]
theorem w_ifne_t {z : Int32} {off : Int} (hx : me.2.2.2.2.2.2[i]? = some (pc, .ifCond .ne off, len, ts, a, b, c, lk, v)) (hc : ¬ z = 0) (ht : ts.getD 0 0 = j) (k : wp d me j L r M Q) : wp d me i L (.int z :: r) M Q := by
  subst ht
  refine wp_step hx rfl ?_ k
  simp [xstep, xP1, xc, hc]
theorem w_icmpne_t {x y : Int32} {off : Int} (hx : me.2.2.2.2.2.2[i]? = some (pc, .if_icmp .ne off, len, ts, a, b, c, lk, v)) (hc : ¬ x = y) (ht : ts.getD 0 0 = j) (k : wp d me j L r M Q) : wp d me i L (.int y :: .int x :: r) M Q := by
  subst ht
  refine wp_step hx rfl ?_ k
  simp [xstep, xP2, xc, hc]
theorem w_ifne_f {z : Int32} {off : Int} (hx : me.2.2.2.2.2.2[i]? = some (pc, .ifCond .ne off, len, ts, a, b, c, lk, v)) (hc : z = 0) (hi : i + 1 = j) (k : wp d me j L r M Q) : wp d me i L (.int z :: r) M Q := by
  subst hi
  refine wp_step hx rfl ?_ k
  simp [xstep, xP1, xc, hc]
theorem w_icmpne_f {x y : Int32} {off : Int} (hx : me.2.2.2.2.2.2[i]? = some (pc, .if_icmp .ne off, len, ts, a, b, c, lk, v)) (hc : x = y) (hi : i + 1 = j) (k : wp d me j L r M Q) : wp d me i L (.int y :: .int x :: r) M Q := by
  subst hi
  refine wp_step hx rfl ?_ k
  simp [xstep, xP2, xc, hc]
theorem w_iflt_t {z : Int32} {off : Int} (hx : me.2.2.2.2.2.2[i]? = some (pc, .ifCond .lt off, len, ts, a, b, c, lk, v)) (hc : z < 0) (ht : ts.getD 0 0 = j) (k : wp d me j L r M Q) : wp d me i L (.int z :: r) M Q := by
  subst ht
  refine wp_step hx rfl ?_ k
  simp [xstep, xP1, xc, hc]
theorem w_icmplt_t {x y : Int32} {off : Int} (hx : me.2.2.2.2.2.2[i]? = some (pc, .if_icmp .lt off, len, ts, a, b, c, lk, v)) (hc : x < y) (ht : ts.getD 0 0 = j) (k : wp d me j L r M Q) : wp d me i L (.int y :: .int x :: r) M Q := by
  subst ht
  refine wp_step hx rfl ?_ k
  simp [xstep, xP2, xc, hc]
theorem w_iflt_f {z : Int32} {off : Int} (hx : me.2.2.2.2.2.2[i]? = some (pc, .ifCond .lt off, len, ts, a, b, c, lk, v)) (hc : ¬ z < 0) (hi : i + 1 = j) (k : wp d me j L r M Q) : wp d me i L (.int z :: r) M Q := by
  subst hi
  refine wp_step hx rfl ?_ k
  simp [xstep, xP1, xc, hc]
theorem w_icmplt_f {x y : Int32} {off : Int} (hx : me.2.2.2.2.2.2[i]? = some (pc, .if_icmp .lt off, len, ts, a, b, c, lk, v)) (hc : ¬ x < y) (hi : i + 1 = j) (k : wp d me j L r M Q) : wp d me i L (.int y :: .int x :: r) M Q := by
  subst hi
  refine wp_step hx rfl ?_ k
  simp [xstep, xP2, xc, hc]
theorem w_ifge_t {z : Int32} {off : Int} (hx : me.2.2.2.2.2.2[i]? = some (pc, .ifCond .ge off, len, ts, a, b, c, lk, v)) (hc : 0 ≤ z) (ht : ts.getD 0 0 = j) (k : wp d me j L r M Q) : wp d me i L (.int z :: r) M Q := by
  subst ht
  refine wp_step hx rfl ?_ k
  simp [xstep, xP1, xc, hc]
theorem w_icmpge_t {x y : Int32} {off : Int} (hx : me.2.2.2.2.2.2[i]? = some (pc, .if_icmp .ge off, len, ts, a, b, c, lk, v)) (hc : y ≤ x) (ht : ts.getD 0 0 = j) (k : wp d me j L r M Q) : wp d me i L (.int y :: .int x :: r) M Q := by
  subst ht
  refine wp_step hx rfl ?_ k
  simp [xstep, xP2, xc, hc]
theorem w_ifge_f {z : Int32} {off : Int} (hx : me.2.2.2.2.2.2[i]? = some (pc, .ifCond .ge off, len, ts, a, b, c, lk, v)) (hc : ¬ 0 ≤ z) (hi : i + 1 = j) (k : wp d me j L r M Q) : wp d me i L (.int z :: r) M Q := by
  subst hi
  refine wp_step hx rfl ?_ k
  simp [xstep, xP1, xc, hc]
theorem w_icmpge_f {x y : Int32} {off : Int} (hx : me.2.2.2.2.2.2[i]? = some (pc, .if_icmp .ge off, len, ts, a, b, c, lk, v)) (hc : ¬ y ≤ x) (hi : i + 1 = j) (k : wp d me j L r M Q) : wp d me i L (.int y :: .int x :: r) M Q := by
  subst hi
  refine wp_step hx rfl ?_ k
  simp [xstep, xP2, xc, hc]
theorem w_ifgt_t {z : Int32} {off : Int} (hx : me.2.2.2.2.2.2[i]? = some (pc, .ifCond .gt off, len, ts, a, b, c, lk, v)) (hc : 0 < z) (ht : ts.getD 0 0 = j) (k : wp d me j L r M Q) : wp d me i L (.int z :: r) M Q := by
  subst ht
  refine wp_step hx rfl ?_ k
  simp [xstep, xP1, xc, hc]
theorem w_icmpgt_t {x y : Int32} {off : Int} (hx : me.2.2.2.2.2.2[i]? = some (pc, .if_icmp .gt off, len, ts, a, b, c, lk, v)) (hc : y < x) (ht : ts.getD 0 0 = j) (k : wp d me j L r M Q) : wp d me i L (.int y :: .int x :: r) M Q := by
  subst ht
  refine wp_step hx rfl ?_ k
  simp [xstep, xP2, xc, hc]
theorem w_ifgt_f {z : Int32} {off : Int} (hx : me.2.2.2.2.2.2[i]? = some (pc, .ifCond .gt off, len, ts, a, b, c, lk, v)) (hc : ¬ 0 < z) (hi : i + 1 = j) (k : wp d me j L r M Q) : wp d me i L (.int z :: r) M Q := by
  subst hi
  refine wp_step hx rfl ?_ k
  simp [xstep, xP1, xc, hc]
theorem w_icmpgt_f {x y : Int32} {off : Int} (hx : me.2.2.2.2.2.2[i]? = some (pc, .if_icmp .gt off, len, ts, a, b, c, lk, v)) (hc : ¬ y < x) (hi : i + 1 = j) (k : wp d me j L r M Q) : wp d me i L (.int y :: .int x :: r) M Q := by
  subst hi
  refine wp_step hx rfl ?_ k
  simp [xstep, xP2, xc, hc]
theorem w_ifle_t {z : Int32} {off : Int} (hx : me.2.2.2.2.2.2[i]? = some (pc, .ifCond .le off, len, ts, a, b, c, lk, v)) (hc : z ≤ 0) (ht : ts.getD 0 0 = j) (k : wp d me j L r M Q) : wp d me i L (.int z :: r) M Q := by
  subst ht
  refine wp_step hx rfl ?_ k
  simp [xstep, xP1, xc, hc]
theorem w_icmple_t {x y : Int32} {off : Int} (hx : me.2.2.2.2.2.2[i]? = some (pc, .if_icmp .le off, len, ts, a, b, c, lk, v)) (hc : x ≤ y) (ht : ts.getD 0 0 = j) (k : wp d me j L r M Q) : wp d me i L (.int y :: .int x :: r) M Q := by
  subst ht
  refine wp_step hx rfl ?_ k
  simp [xstep, xP2, xc, hc]
theorem w_ifle_f {z : Int32} {off : Int} (hx : me.2.2.2.2.2.2[i]? = some (pc, .ifCond .le off, len, ts, a, b, c, lk, v)) (hc : ¬ z ≤ 0) (hi : i + 1 = j) (k : wp d me j L r M Q) : wp d me i L (.int z :: r) M Q := by
  subst hi
  refine wp_step hx rfl ?_ k
  simp [xstep, xP1, xc, hc]
theorem w_icmple_f {x y : Int32} {off : Int} (hx : me.2.2.2.2.2.2[i]? = some (pc, .if_icmp .le off, len, ts, a, b, c, lk, v)) (hc : ¬ x ≤ y) (hi : i + 1 = j) (k : wp d me j L r M Q) : wp d me i L (.int y :: .int x :: r) M Q := by
  subst hi
  refine wp_step hx rfl ?_ k
  simp [xstep, xP2, xc, hc]
theorem w_goto {off : Int} (hx : me.2.2.2.2.2.2[i]? = some (pc, .goto off, len, ts, a, b, c, lk, v))  (ht : ts.getD 0 0 = j) (k : wp d me j L r M Q) : wp d me i L r M Q := by
  subst ht
  refine wp_step hx rfl ?_ k
  simp [xstep]
theorem w_ifnull_t {off : Int} (hx : me.2.2.2.2.2.2[i]? = some (pc, .ifnull off, len, ts, a, b, c, lk, v)) (ht : ts.getD 0 0 = j) (k : wp d me j L r M Q) : wp d me i L (.null :: r) M Q := by
  subst ht
  refine wp_step hx rfl ?_ k
  simp [xstep]
theorem w_ifnull_f {z : Nat} {off : Int} (hx : me.2.2.2.2.2.2[i]? = some (pc, .ifnull off, len, ts, a, b, c, lk, v)) (hi : i + 1 = j) (k : wp d me j L r M Q) : wp d me i L (.ref z :: r) M Q := by
  subst hi
  refine wp_step hx rfl ?_ k
  simp [xstep]
theorem w_ifnonnull_t {z : Nat} {off : Int} (hx : me.2.2.2.2.2.2[i]? = some (pc, .ifnonnull off, len, ts, a, b, c, lk, v)) (ht : ts.getD 0 0 = j) (k : wp d me j L r M Q) : wp d me i L (.ref z :: r) M Q := by
  subst ht
  refine wp_step hx rfl ?_ k
  simp [xstep]
theorem w_ifnonnull_f {off : Int} (hx : me.2.2.2.2.2.2[i]? = some (pc, .ifnonnull off, len, ts, a, b, c, lk, v)) (hi : i + 1 = j) (k : wp d me j L r M Q) : wp d me i L (.null :: r) M Q := by
  subst hi
  refine wp_step hx rfl ?_ k
  simp [xstep]
theorem w_table_out {z : Int32} {dd lo hh : Int} {offs : Array Int} (hx : me.2.2.2.2.2.2[i]? = some (pc, .tableswitch dd lo hh offs, len, ts, a, b, c, lk, v)) (hc : z.toInt < lo ∨ hh < z.toInt) (ht : ts.getD 0 0 = j) (k : wp d me j L r M Q) : wp d me i L (.int z :: r) M Q := by
  subst ht
  refine wp_step hx rfl ?_ k
  simp [xstep, xP1, hc]
theorem w_table_in {z : Int32} {dd lo hh : Int} {offs : Array Int} {q : Nat} (hx : me.2.2.2.2.2.2[i]? = some (pc, .tableswitch dd lo hh offs, len, ts, a, b, c, lk, v)) (hc : ¬ (z.toInt < lo ∨ hh < z.toInt)) (hq : (z.toInt - lo).toNat = q) (ht : ts.getD (q + 1) 0 = j) (k : wp d me j L r M Q) : wp d me i L (.int z :: r) M Q := by
  subst ht
  subst hq
  refine wp_step hx rfl ?_ k
  simp only [xstep, xP1]
  rw [if_neg hc]
theorem w_lookup {z : Int32} {dd : Int} {ps : Array (Int × Int)} (hx : me.2.2.2.2.2.2[i]? = some (pc, .lookupswitch dd ps, len, ts, a, b, c, lk, v)) (ht : xlk ps.toList (ts.drop 1) (ts.getD 0 0) z.toInt = j) (k : wp d me j L r M Q) : wp d me i L (.int z :: r) M Q := by
  subst ht
  refine wp_step hx rfl ?_ k
  simp only [xstep, xP1]
theorem w_getI {p idx n : Nat} {rs : List (Option Nat)} (hx : me.2.2.2.2.2.2[i]? = some (pc, .getfield idx, len, ts, a, b, c, lk, v)) (hs : S[p]? = some (a, n, rs)) (hb : decide (b < n) = true) (hf : xfr a b = false) (hi : i + 1 = j) (k : wp d me j L (.int (I p b) :: r) (S, I, J) Q) : wp d me i L (.ref p :: r) (S, I, J) Q := by
  subst hi
  refine wp_step hx rfl ?_ k
  have hb := of_decide_eq_true hb
  simp [xstep, xPr, xS, hs, hb, hf]
theorem w_getR {p idx n q : Nat} {rs : List (Option Nat)} (hx : me.2.2.2.2.2.2[i]? = some (pc, .getfield idx, len, ts, a, b, c, lk, v)) (hs : S[p]? = some (a, n, rs)) (hb : decide (b < n) = true) (hf : xfr a b = true) (hr : rs.getD b none = some q) (hi : i + 1 = j) (k : wp d me j L (.ref q :: r) (S, I, J) Q) : wp d me i L (.ref p :: r) (S, I, J) Q := by
  subst hi
  refine wp_step hx rfl ?_ k
  have hb := of_decide_eq_true hb
  simp only [xstep, xPr, xS, hs, hb, hf, hr, xVr]
  simp
theorem w_putI {p idx n : Nat} {rs : List (Option Nat)} {z : Int32} (hx : me.2.2.2.2.2.2[i]? = some (pc, .putfield idx, len, ts, a, b, c, lk, v)) (hs : S[p]? = some (a, n, rs)) (hb : decide (b < n) = true) (hf : xfr a b = false) (hi : i + 1 = j) (k : wp d me j L r (S, xup I p b z, J) Q) : wp d me i L (.int z :: .ref p :: r) (S, I, J) Q := by
  subst hi
  refine wp_step hx rfl ?_ k
  have hb := of_decide_eq_true hb
  simp [xstep, xPri', xS, hs, hb, hf]
theorem w_iaload {p n : Nat} {rs : List (Option Nat)} {z : Int32} (hx : me.2.2.2.2.2.2[i]? = some (pc, .iaload, len, ts, a, b, c, lk, v)) (hs : S[p]? = some (100, n, rs)) (hin : ¬ (z < 0 ∨ n ≤ z.toNatClampNeg)) (hi : i + 1 = j) (k : wp d me j L (.int (I p z.toNatClampNeg) :: r) (S, I, J) Q) : wp d me i L (.int z :: .ref p :: r) (S, I, J) Q := by
  subst hi
  refine wp_step hx rfl ?_ k
  simp only [xstep, xPri, xS, hs]
  rw [if_pos ⟨by first | trivial | rfl, hin⟩]
theorem w_baload {p n tg : Nat} {rs : List (Option Nat)} {z : Int32} (hx : me.2.2.2.2.2.2[i]? = some (pc, .baload, len, ts, a, b, c, lk, v)) (hs : S[p]? = some (tg, n, rs)) (htg : decide (tg = 102 ∨ tg = 103) = true) (hin : ¬ (z < 0 ∨ n ≤ z.toNatClampNeg)) (hi : i + 1 = j) (k : wp d me j L (.int (I p z.toNatClampNeg) :: r) (S, I, J) Q) : wp d me i L (.int z :: .ref p :: r) (S, I, J) Q := by
  subst hi
  refine wp_step hx rfl ?_ k
  simp only [xstep, xPri, xS, hs]
  rw [if_pos ⟨of_decide_eq_true htg, hin⟩]
theorem w_laload {p n : Nat} {rs : List (Option Nat)} {z : Int32} (hx : me.2.2.2.2.2.2[i]? = some (pc, .laload, len, ts, a, b, c, lk, v)) (hs : S[p]? = some (101, n, rs)) (hin : ¬ (z < 0 ∨ n ≤ z.toNatClampNeg)) (hi : i + 1 = j) (k : wp d me j L (.long (J p z.toNatClampNeg) :: r) (S, I, J) Q) : wp d me i L (.int z :: .ref p :: r) (S, I, J) Q := by
  subst hi
  refine wp_step hx rfl ?_ k
  simp only [xstep, xPri, xS, hs]
  rw [if_pos ⟨by first | trivial | rfl, hin⟩]
theorem w_aaload {p n q : Nat} {rs : List (Option Nat)} {z : Int32} (hx : me.2.2.2.2.2.2[i]? = some (pc, .aaload, len, ts, a, b, c, lk, v)) (hs : S[p]? = some (104, n, rs)) (hin : ¬ (z < 0 ∨ n ≤ z.toNatClampNeg)) (hr : rs.getD z.toNatClampNeg none = some q) (hi : i + 1 = j) (k : wp d me j L (.ref q :: r) (S, I, J) Q) : wp d me i L (.int z :: .ref p :: r) (S, I, J) Q := by
  subst hi
  refine wp_step hx rfl ?_ k
  simp only [xstep, xPri, xS, hs]
  rw [if_pos ⟨by first | trivial | rfl, hin⟩, hr]
  rfl
theorem w_iastore {p n : Nat} {rs : List (Option Nat)} {z y : Int32} (hx : me.2.2.2.2.2.2[i]? = some (pc, .iastore, len, ts, a, b, c, lk, v)) (hs : S[p]? = some (100, n, rs)) (hin : ¬ (z < 0 ∨ n ≤ z.toNatClampNeg)) (hi : i + 1 = j) (k : wp d me j L r (S, xup I p z.toNatClampNeg y, J) Q) : wp d me i L (.int y :: .int z :: .ref p :: r) (S, I, J) Q := by
  subst hi
  refine wp_step hx rfl ?_ k
  simp only [xstep, xPrii, xS, hs]
  rw [if_pos ⟨by first | trivial | rfl, hin⟩]
theorem w_bastoreZ {p n : Nat} {rs : List (Option Nat)} {z y : Int32} (hx : me.2.2.2.2.2.2[i]? = some (pc, .bastore, len, ts, a, b, c, lk, v)) (hs : S[p]? = some (102, n, rs)) (hin : ¬ (z < 0 ∨ n ≤ z.toNatClampNeg)) (hi : i + 1 = j) (k : wp d me j L r (S, xup I p z.toNatClampNeg (y &&& 1), J) Q) : wp d me i L (.int y :: .int z :: .ref p :: r) (S, I, J) Q := by
  subst hi
  refine wp_step hx rfl ?_ k
  simp only [xstep, xPrii, xS, hs]
  rw [if_pos ⟨by first | trivial | rfl, hin⟩]
theorem w_bastoreB {p n : Nat} {rs : List (Option Nat)} {z y : Int32} (hx : me.2.2.2.2.2.2[i]? = some (pc, .bastore, len, ts, a, b, c, lk, v)) (hs : S[p]? = some (103, n, rs)) (hin : ¬ (z < 0 ∨ n ≤ z.toNatClampNeg)) (hi : i + 1 = j) (k : wp d me j L r (S, xup I p z.toNatClampNeg y.toInt8.toInt32, J) Q) : wp d me i L (.int y :: .int z :: .ref p :: r) (S, I, J) Q := by
  subst hi
  refine wp_step hx rfl ?_ k
  simp only [xstep, xPrii, xS, hs]
  rw [if_neg (by simp), if_pos ⟨by first | trivial | rfl, hin⟩]
theorem w_lastore {p n : Nat} {rs : List (Option Nat)} {z : Int32} {y : Int64} (hx : me.2.2.2.2.2.2[i]? = some (pc, .lastore, len, ts, a, b, c, lk, v)) (hs : S[p]? = some (101, n, rs)) (hin : ¬ (z < 0 ∨ n ≤ z.toNatClampNeg)) (hi : i + 1 = j) (k : wp d me j L r (S, I, xup J p z.toNatClampNeg y) Q) : wp d me i L (.long y :: .int z :: .ref p :: r) (S, I, J) Q := by
  subst hi
  refine wp_step hx rfl ?_ k
  simp only [xstep, xPril, xS, hs]
  rw [if_pos ⟨by first | trivial | rfl, hin⟩]
theorem w_arraylength {p n tg : Nat} {rs : List (Option Nat)} (hx : me.2.2.2.2.2.2[i]? = some (pc, .arraylength, len, ts, a, b, c, lk, v)) (hs : S[p]? = some (tg, n, rs)) (htg : decide (100 ≤ tg ∧ tg ≤ 104) = true) (hi : i + 1 = j) (k : wp d me j L (.int (Int32.ofNat n) :: r) (S, I, J) Q) : wp d me i L (.ref p :: r) (S, I, J) Q := by
  subst hi
  refine wp_step hx rfl ?_ k
  simp only [xstep, xPr, xS, hs]
  rw [if_pos (of_decide_eq_true htg)]
theorem l1_0 {a0 : Option Value} {T : xL} {z : Value} : xst1 (a0 :: T) 0 z = some (some z :: T) := by
  simp [xst1]
theorem l2_0 {a0 a1 : Option Value} {T : xL} {z : Value} : xst2 (a0 :: a1 :: T) 0 z = some (some z :: none :: T) := by
  simp [xst2]
theorem l1_1 {a0 a1 : Option Value} {T : xL} {z : Value} (hp : xlong a0 = false) : xst1 (a0 :: a1 :: T) 1 z = some (a0 :: some z :: T) := by
  simp [xst1, hp]
theorem l2_1 {a0 a1 a2 : Option Value} {T : xL} {z : Value} (hp : xlong a0 = false) : xst2 (a0 :: a1 :: a2 :: T) 1 z = some (a0 :: some z :: none :: T) := by
  simp [xst2, hp]
theorem l1_2 {a0 a1 a2 : Option Value} {T : xL} {z : Value} (hp : xlong a1 = false) : xst1 (a0 :: a1 :: a2 :: T) 2 z = some (a0 :: a1 :: some z :: T) := by
  simp [xst1, hp]
theorem l2_2 {a0 a1 a2 a3 : Option Value} {T : xL} {z : Value} (hp : xlong a1 = false) : xst2 (a0 :: a1 :: a2 :: a3 :: T) 2 z = some (a0 :: a1 :: some z :: none :: T) := by
  simp [xst2, hp]
theorem l1_3 {a0 a1 a2 a3 : Option Value} {T : xL} {z : Value} (hp : xlong a2 = false) : xst1 (a0 :: a1 :: a2 :: a3 :: T) 3 z = some (a0 :: a1 :: a2 :: some z :: T) := by
  simp [xst1, hp]
theorem l2_3 {a0 a1 a2 a3 a4 : Option Value} {T : xL} {z : Value} (hp : xlong a2 = false) : xst2 (a0 :: a1 :: a2 :: a3 :: a4 :: T) 3 z = some (a0 :: a1 :: a2 :: some z :: none :: T) := by
  simp [xst2, hp]
theorem l1_4 {a0 a1 a2 a3 a4 : Option Value} {T : xL} {z : Value} (hp : xlong a3 = false) : xst1 (a0 :: a1 :: a2 :: a3 :: a4 :: T) 4 z = some (a0 :: a1 :: a2 :: a3 :: some z :: T) := by
  simp [xst1, hp]
theorem l2_4 {a0 a1 a2 a3 a4 a5 : Option Value} {T : xL} {z : Value} (hp : xlong a3 = false) : xst2 (a0 :: a1 :: a2 :: a3 :: a4 :: a5 :: T) 4 z = some (a0 :: a1 :: a2 :: a3 :: some z :: none :: T) := by
  simp [xst2, hp]
theorem l1_5 {a0 a1 a2 a3 a4 a5 : Option Value} {T : xL} {z : Value} (hp : xlong a4 = false) : xst1 (a0 :: a1 :: a2 :: a3 :: a4 :: a5 :: T) 5 z = some (a0 :: a1 :: a2 :: a3 :: a4 :: some z :: T) := by
  simp [xst1, hp]
theorem l2_5 {a0 a1 a2 a3 a4 a5 a6 : Option Value} {T : xL} {z : Value} (hp : xlong a4 = false) : xst2 (a0 :: a1 :: a2 :: a3 :: a4 :: a5 :: a6 :: T) 5 z = some (a0 :: a1 :: a2 :: a3 :: a4 :: some z :: none :: T) := by
  simp [xst2, hp]
theorem l1_6 {a0 a1 a2 a3 a4 a5 a6 : Option Value} {T : xL} {z : Value} (hp : xlong a5 = false) : xst1 (a0 :: a1 :: a2 :: a3 :: a4 :: a5 :: a6 :: T) 6 z = some (a0 :: a1 :: a2 :: a3 :: a4 :: a5 :: some z :: T) := by
  simp [xst1, hp]
theorem l2_6 {a0 a1 a2 a3 a4 a5 a6 a7 : Option Value} {T : xL} {z : Value} (hp : xlong a5 = false) : xst2 (a0 :: a1 :: a2 :: a3 :: a4 :: a5 :: a6 :: a7 :: T) 6 z = some (a0 :: a1 :: a2 :: a3 :: a4 :: a5 :: some z :: none :: T) := by
  simp [xst2, hp]
theorem l1_7 {a0 a1 a2 a3 a4 a5 a6 a7 : Option Value} {T : xL} {z : Value} (hp : xlong a6 = false) : xst1 (a0 :: a1 :: a2 :: a3 :: a4 :: a5 :: a6 :: a7 :: T) 7 z = some (a0 :: a1 :: a2 :: a3 :: a4 :: a5 :: a6 :: some z :: T) := by
  simp [xst1, hp]
theorem l2_7 {a0 a1 a2 a3 a4 a5 a6 a7 a8 : Option Value} {T : xL} {z : Value} (hp : xlong a6 = false) : xst2 (a0 :: a1 :: a2 :: a3 :: a4 :: a5 :: a6 :: a7 :: a8 :: T) 7 z = some (a0 :: a1 :: a2 :: a3 :: a4 :: a5 :: a6 :: some z :: none :: T) := by
  simp [xst2, hp]
theorem l1_8 {a0 a1 a2 a3 a4 a5 a6 a7 a8 : Option Value} {T : xL} {z : Value} (hp : xlong a7 = false) : xst1 (a0 :: a1 :: a2 :: a3 :: a4 :: a5 :: a6 :: a7 :: a8 :: T) 8 z = some (a0 :: a1 :: a2 :: a3 :: a4 :: a5 :: a6 :: a7 :: some z :: T) := by
  simp [xst1, hp]
theorem l2_8 {a0 a1 a2 a3 a4 a5 a6 a7 a8 a9 : Option Value} {T : xL} {z : Value} (hp : xlong a7 = false) : xst2 (a0 :: a1 :: a2 :: a3 :: a4 :: a5 :: a6 :: a7 :: a8 :: a9 :: T) 8 z = some (a0 :: a1 :: a2 :: a3 :: a4 :: a5 :: a6 :: a7 :: some z :: none :: T) := by
  simp [xst2, hp]
theorem l1_9 {a0 a1 a2 a3 a4 a5 a6 a7 a8 a9 : Option Value} {T : xL} {z : Value} (hp : xlong a8 = false) : xst1 (a0 :: a1 :: a2 :: a3 :: a4 :: a5 :: a6 :: a7 :: a8 :: a9 :: T) 9 z = some (a0 :: a1 :: a2 :: a3 :: a4 :: a5 :: a6 :: a7 :: a8 :: some z :: T) := by
  simp [xst1, hp]
theorem l2_9 {a0 a1 a2 a3 a4 a5 a6 a7 a8 a9 a10 : Option Value} {T : xL} {z : Value} (hp : xlong a8 = false) : xst2 (a0 :: a1 :: a2 :: a3 :: a4 :: a5 :: a6 :: a7 :: a8 :: a9 :: a10 :: T) 9 z = some (a0 :: a1 :: a2 :: a3 :: a4 :: a5 :: a6 :: a7 :: a8 :: some z :: none :: T) := by
  simp [xst2, hp]
theorem l1_10 {a0 a1 a2 a3 a4 a5 a6 a7 a8 a9 a10 : Option Value} {T : xL} {z : Value} (hp : xlong a9 = false) : xst1 (a0 :: a1 :: a2 :: a3 :: a4 :: a5 :: a6 :: a7 :: a8 :: a9 :: a10 :: T) 10 z = some (a0 :: a1 :: a2 :: a3 :: a4 :: a5 :: a6 :: a7 :: a8 :: a9 :: some z :: T) := by
  simp [xst1, hp]
theorem l2_10 {a0 a1 a2 a3 a4 a5 a6 a7 a8 a9 a10 a11 : Option Value} {T : xL} {z : Value} (hp : xlong a9 = false) : xst2 (a0 :: a1 :: a2 :: a3 :: a4 :: a5 :: a6 :: a7 :: a8 :: a9 :: a10 :: a11 :: T) 10 z = some (a0 :: a1 :: a2 :: a3 :: a4 :: a5 :: a6 :: a7 :: a8 :: a9 :: some z :: none :: T) := by
  simp [xst2, hp]
theorem l1_11 {a0 a1 a2 a3 a4 a5 a6 a7 a8 a9 a10 a11 : Option Value} {T : xL} {z : Value} (hp : xlong a10 = false) : xst1 (a0 :: a1 :: a2 :: a3 :: a4 :: a5 :: a6 :: a7 :: a8 :: a9 :: a10 :: a11 :: T) 11 z = some (a0 :: a1 :: a2 :: a3 :: a4 :: a5 :: a6 :: a7 :: a8 :: a9 :: a10 :: some z :: T) := by
  simp [xst1, hp]
theorem l2_11 {a0 a1 a2 a3 a4 a5 a6 a7 a8 a9 a10 a11 a12 : Option Value} {T : xL} {z : Value} (hp : xlong a10 = false) : xst2 (a0 :: a1 :: a2 :: a3 :: a4 :: a5 :: a6 :: a7 :: a8 :: a9 :: a10 :: a11 :: a12 :: T) 11 z = some (a0 :: a1 :: a2 :: a3 :: a4 :: a5 :: a6 :: a7 :: a8 :: a9 :: a10 :: some z :: none :: T) := by
  simp [xst2, hp]
theorem l1_12 {a0 a1 a2 a3 a4 a5 a6 a7 a8 a9 a10 a11 a12 : Option Value} {T : xL} {z : Value} (hp : xlong a11 = false) : xst1 (a0 :: a1 :: a2 :: a3 :: a4 :: a5 :: a6 :: a7 :: a8 :: a9 :: a10 :: a11 :: a12 :: T) 12 z = some (a0 :: a1 :: a2 :: a3 :: a4 :: a5 :: a6 :: a7 :: a8 :: a9 :: a10 :: a11 :: some z :: T) := by
  simp [xst1, hp]
theorem l2_12 {a0 a1 a2 a3 a4 a5 a6 a7 a8 a9 a10 a11 a12 a13 : Option Value} {T : xL} {z : Value} (hp : xlong a11 = false) : xst2 (a0 :: a1 :: a2 :: a3 :: a4 :: a5 :: a6 :: a7 :: a8 :: a9 :: a10 :: a11 :: a12 :: a13 :: T) 12 z = some (a0 :: a1 :: a2 :: a3 :: a4 :: a5 :: a6 :: a7 :: a8 :: a9 :: a10 :: a11 :: some z :: none :: T) := by
  simp [xst2, hp]
theorem l1_13 {a0 a1 a2 a3 a4 a5 a6 a7 a8 a9 a10 a11 a12 a13 : Option Value} {T : xL} {z : Value} (hp : xlong a12 = false) : xst1 (a0 :: a1 :: a2 :: a3 :: a4 :: a5 :: a6 :: a7 :: a8 :: a9 :: a10 :: a11 :: a12 :: a13 :: T) 13 z = some (a0 :: a1 :: a2 :: a3 :: a4 :: a5 :: a6 :: a7 :: a8 :: a9 :: a10 :: a11 :: a12 :: some z :: T) := by
  simp [xst1, hp]
theorem l2_13 {a0 a1 a2 a3 a4 a5 a6 a7 a8 a9 a10 a11 a12 a13 a14 : Option Value} {T : xL} {z : Value} (hp : xlong a12 = false) : xst2 (a0 :: a1 :: a2 :: a3 :: a4 :: a5 :: a6 :: a7 :: a8 :: a9 :: a10 :: a11 :: a12 :: a13 :: a14 :: T) 13 z = some (a0 :: a1 :: a2 :: a3 :: a4 :: a5 :: a6 :: a7 :: a8 :: a9 :: a10 :: a11 :: a12 :: some z :: none :: T) := by
  simp [xst2, hp]
theorem l1_14 {a0 a1 a2 a3 a4 a5 a6 a7 a8 a9 a10 a11 a12 a13 a14 : Option Value} {T : xL} {z : Value} (hp : xlong a13 = false) : xst1 (a0 :: a1 :: a2 :: a3 :: a4 :: a5 :: a6 :: a7 :: a8 :: a9 :: a10 :: a11 :: a12 :: a13 :: a14 :: T) 14 z = some (a0 :: a1 :: a2 :: a3 :: a4 :: a5 :: a6 :: a7 :: a8 :: a9 :: a10 :: a11 :: a12 :: a13 :: some z :: T) := by
  simp [xst1, hp]
theorem l2_14 {a0 a1 a2 a3 a4 a5 a6 a7 a8 a9 a10 a11 a12 a13 a14 a15 : Option Value} {T : xL} {z : Value} (hp : xlong a13 = false) : xst2 (a0 :: a1 :: a2 :: a3 :: a4 :: a5 :: a6 :: a7 :: a8 :: a9 :: a10 :: a11 :: a12 :: a13 :: a14 :: a15 :: T) 14 z = some (a0 :: a1 :: a2 :: a3 :: a4 :: a5 :: a6 :: a7 :: a8 :: a9 :: a10 :: a11 :: a12 :: a13 :: some z :: none :: T) := by
  simp [xst2, hp]
theorem l1_15 {a0 a1 a2 a3 a4 a5 a6 a7 a8 a9 a10 a11 a12 a13 a14 a15 : Option Value} {T : xL} {z : Value} (hp : xlong a14 = false) : xst1 (a0 :: a1 :: a2 :: a3 :: a4 :: a5 :: a6 :: a7 :: a8 :: a9 :: a10 :: a11 :: a12 :: a13 :: a14 :: a15 :: T) 15 z = some (a0 :: a1 :: a2 :: a3 :: a4 :: a5 :: a6 :: a7 :: a8 :: a9 :: a10 :: a11 :: a12 :: a13 :: a14 :: some z :: T) := by
  simp [xst1, hp]
theorem l2_15 {a0 a1 a2 a3 a4 a5 a6 a7 a8 a9 a10 a11 a12 a13 a14 a15 a16 : Option Value} {T : xL} {z : Value} (hp : xlong a14 = false) : xst2 (a0 :: a1 :: a2 :: a3 :: a4 :: a5 :: a6 :: a7 :: a8 :: a9 :: a10 :: a11 :: a12 :: a13 :: a14 :: a15 :: a16 :: T) 15 z = some (a0 :: a1 :: a2 :: a3 :: a4 :: a5 :: a6 :: a7 :: a8 :: a9 :: a10 :: a11 :: a12 :: a13 :: a14 :: some z :: none :: T) := by
  simp [xst2, hp]
theorem wc_A_A {ins : Instr} {me2 : xMe} {T : xL} {z0 : Nat} (hx : me.2.2.2.2.2.2[i]? = some (pc, ins, len, ts, a, b, c, lk, v)) (h1 : xend2 ins = 3) (hcf : decide (c ≤ 1) = true) (hme : xmt[a]? = some me2) (hT : List.replicate (me2.2.2.1 - 1) none = T) (hle : decide (1 ≤ me2.2.2.1) = true) (hna : xna b me2 = 1) (hcat : decide ((r.map fun v => v.category).sum ≤ 8) = true) (hrc : xrecv ts b me2 (.ref z0 :: r) M = true) (hi : i + 1 = j) (k : wp d me2 0 (some (.ref z0) :: T) [] M (fun q M2 => ∃ z : Nat, q = some (.ref z) ∧ wp (d + 1) me j L (.ref z :: r) M2 Q)) : wp (d + 1) me i L (.ref z0 :: r) M Q := by
  subst hi
  subst hT
  refine wp_call (av := [.ref z0]) (rest := r) hx h1 (of_decide_eq_true hcf) hme rfl (by rw [hna]; rfl) (of_decide_eq_true hcat) (of_decide_eq_true hle) hrc ?_
  refine wp_mono k (fun q M2 hq => ?_)
  obtain ⟨z, rfl, hq⟩ := hq
  exact hq
theorem wc_A_I {ins : Instr} {me2 : xMe} {T : xL} {z0 : Nat} (hx : me.2.2.2.2.2.2[i]? = some (pc, ins, len, ts, a, b, c, lk, v)) (h1 : xend2 ins = 3) (hcf : decide (c ≤ 1) = true) (hme : xmt[a]? = some me2) (hT : List.replicate (me2.2.2.1 - 1) none = T) (hle : decide (1 ≤ me2.2.2.1) = true) (hna : xna b me2 = 1) (hcat : decide ((r.map fun v => v.category).sum ≤ 8) = true) (hrc : xrecv ts b me2 (.ref z0 :: r) M = true) (hi : i + 1 = j) (k : wp d me2 0 (some (.ref z0) :: T) [] M (fun q M2 => ∃ z : Int32, q = some (.int z) ∧ wp (d + 1) me j L (.int z :: r) M2 Q)) : wp (d + 1) me i L (.ref z0 :: r) M Q := by
  subst hi
  subst hT
  refine wp_call (av := [.ref z0]) (rest := r) hx h1 (of_decide_eq_true hcf) hme rfl (by rw [hna]; rfl) (of_decide_eq_true hcat) (of_decide_eq_true hle) hrc ?_
  refine wp_mono k (fun q M2 hq => ?_)
  obtain ⟨z, rfl, hq⟩ := hq
  exact hq
theorem wc_A_V {ins : Instr} {me2 : xMe} {T : xL} {z0 : Nat} (hx : me.2.2.2.2.2.2[i]? = some (pc, ins, len, ts, a, b, c, lk, v)) (h1 : xend2 ins = 3) (hcf : decide (c ≤ 1) = true) (hme : xmt[a]? = some me2) (hT : List.replicate (me2.2.2.1 - 1) none = T) (hle : decide (1 ≤ me2.2.2.1) = true) (hna : xna b me2 = 1) (hcat : decide ((r.map fun v => v.category).sum ≤ 8) = true) (hrc : xrecv ts b me2 (.ref z0 :: r) M = true) (hi : i + 1 = j) (k : wp d me2 0 (some (.ref z0) :: T) [] M (fun q M2 => q = none ∧ wp (d + 1) me j L r M2 Q)) : wp (d + 1) me i L (.ref z0 :: r) M Q := by
  subst hi
  subst hT
  refine wp_call (av := [.ref z0]) (rest := r) hx h1 (of_decide_eq_true hcf) hme rfl (by rw [hna]; rfl) (of_decide_eq_true hcat) (of_decide_eq_true hle) hrc ?_
  refine wp_mono k (fun q M2 hq => ?_)
  obtain ⟨rfl, hq⟩ := hq
  exact hq
theorem wc_AA_I {ins : Instr} {me2 : xMe} {T : xL} {z0 : Nat} {z1 : Nat} (hx : me.2.2.2.2.2.2[i]? = some (pc, ins, len, ts, a, b, c, lk, v)) (h1 : xend2 ins = 3) (hcf : decide (c ≤ 1) = true) (hme : xmt[a]? = some me2) (hT : List.replicate (me2.2.2.1 - 2) none = T) (hle : decide (2 ≤ me2.2.2.1) = true) (hna : xna b me2 = 2) (hcat : decide ((r.map fun v => v.category).sum ≤ 8) = true) (hrc : xrecv ts b me2 (.ref z1 :: .ref z0 :: r) M = true) (hi : i + 1 = j) (k : wp d me2 0 (some (.ref z0) :: some (.ref z1) :: T) [] M (fun q M2 => ∃ z : Int32, q = some (.int z) ∧ wp (d + 1) me j L (.int z :: r) M2 Q)) : wp (d + 1) me i L (.ref z1 :: .ref z0 :: r) M Q := by
  subst hi
  subst hT
  refine wp_call (av := [.ref z0, .ref z1]) (rest := r) hx h1 (of_decide_eq_true hcf) hme rfl (by rw [hna]; rfl) (of_decide_eq_true hcat) (of_decide_eq_true hle) hrc ?_
  refine wp_mono k (fun q M2 hq => ?_)
  obtain ⟨z, rfl, hq⟩ := hq
  exact hq
theorem wc_AA_V {ins : Instr} {me2 : xMe} {T : xL} {z0 : Nat} {z1 : Nat} (hx : me.2.2.2.2.2.2[i]? = some (pc, ins, len, ts, a, b, c, lk, v)) (h1 : xend2 ins = 3) (hcf : decide (c ≤ 1) = true) (hme : xmt[a]? = some me2) (hT : List.replicate (me2.2.2.1 - 2) none = T) (hle : decide (2 ≤ me2.2.2.1) = true) (hna : xna b me2 = 2) (hcat : decide ((r.map fun v => v.category).sum ≤ 8) = true) (hrc : xrecv ts b me2 (.ref z1 :: .ref z0 :: r) M = true) (hi : i + 1 = j) (k : wp d me2 0 (some (.ref z0) :: some (.ref z1) :: T) [] M (fun q M2 => q = none ∧ wp (d + 1) me j L r M2 Q)) : wp (d + 1) me i L (.ref z1 :: .ref z0 :: r) M Q := by
  subst hi
  subst hT
  refine wp_call (av := [.ref z0, .ref z1]) (rest := r) hx h1 (of_decide_eq_true hcf) hme rfl (by rw [hna]; rfl) (of_decide_eq_true hcat) (of_decide_eq_true hle) hrc ?_
  refine wp_mono k (fun q M2 hq => ?_)
  obtain ⟨rfl, hq⟩ := hq
  exact hq
theorem wc_AAA_V {ins : Instr} {me2 : xMe} {T : xL} {z0 : Nat} {z1 : Nat} {z2 : Nat} (hx : me.2.2.2.2.2.2[i]? = some (pc, ins, len, ts, a, b, c, lk, v)) (h1 : xend2 ins = 3) (hcf : decide (c ≤ 1) = true) (hme : xmt[a]? = some me2) (hT : List.replicate (me2.2.2.1 - 3) none = T) (hle : decide (3 ≤ me2.2.2.1) = true) (hna : xna b me2 = 3) (hcat : decide ((r.map fun v => v.category).sum ≤ 8) = true) (hrc : xrecv ts b me2 (.ref z2 :: .ref z1 :: .ref z0 :: r) M = true) (hi : i + 1 = j) (k : wp d me2 0 (some (.ref z0) :: some (.ref z1) :: some (.ref z2) :: T) [] M (fun q M2 => q = none ∧ wp (d + 1) me j L r M2 Q)) : wp (d + 1) me i L (.ref z2 :: .ref z1 :: .ref z0 :: r) M Q := by
  subst hi
  subst hT
  refine wp_call (av := [.ref z0, .ref z1, .ref z2]) (rest := r) hx h1 (of_decide_eq_true hcf) hme rfl (by rw [hna]; rfl) (of_decide_eq_true hcat) (of_decide_eq_true hle) hrc ?_
  refine wp_mono k (fun q M2 hq => ?_)
  obtain ⟨rfl, hq⟩ := hq
  exact hq
theorem wc_AAAAA_V {ins : Instr} {me2 : xMe} {T : xL} {z0 : Nat} {z1 : Nat} {z2 : Nat} {z3 : Nat} {z4 : Nat} (hx : me.2.2.2.2.2.2[i]? = some (pc, ins, len, ts, a, b, c, lk, v)) (h1 : xend2 ins = 3) (hcf : decide (c ≤ 1) = true) (hme : xmt[a]? = some me2) (hT : List.replicate (me2.2.2.1 - 5) none = T) (hle : decide (5 ≤ me2.2.2.1) = true) (hna : xna b me2 = 5) (hcat : decide ((r.map fun v => v.category).sum ≤ 8) = true) (hrc : xrecv ts b me2 (.ref z4 :: .ref z3 :: .ref z2 :: .ref z1 :: .ref z0 :: r) M = true) (hi : i + 1 = j) (k : wp d me2 0 (some (.ref z0) :: some (.ref z1) :: some (.ref z2) :: some (.ref z3) :: some (.ref z4) :: T) [] M (fun q M2 => q = none ∧ wp (d + 1) me j L r M2 Q)) : wp (d + 1) me i L (.ref z4 :: .ref z3 :: .ref z2 :: .ref z1 :: .ref z0 :: r) M Q := by
  subst hi
  subst hT
  refine wp_call (av := [.ref z0, .ref z1, .ref z2, .ref z3, .ref z4]) (rest := r) hx h1 (of_decide_eq_true hcf) hme rfl (by rw [hna]; rfl) (of_decide_eq_true hcat) (of_decide_eq_true hle) hrc ?_
  refine wp_mono k (fun q M2 hq => ?_)
  obtain ⟨rfl, hq⟩ := hq
  exact hq
theorem wc_AAI_I {ins : Instr} {me2 : xMe} {T : xL} {z0 : Nat} {z1 : Nat} {z2 : Int32} (hx : me.2.2.2.2.2.2[i]? = some (pc, ins, len, ts, a, b, c, lk, v)) (h1 : xend2 ins = 3) (hcf : decide (c ≤ 1) = true) (hme : xmt[a]? = some me2) (hT : List.replicate (me2.2.2.1 - 3) none = T) (hle : decide (3 ≤ me2.2.2.1) = true) (hna : xna b me2 = 3) (hcat : decide ((r.map fun v => v.category).sum ≤ 8) = true) (hrc : xrecv ts b me2 (.int z2 :: .ref z1 :: .ref z0 :: r) M = true) (hi : i + 1 = j) (k : wp d me2 0 (some (.ref z0) :: some (.ref z1) :: some (.int z2) :: T) [] M (fun q M2 => ∃ z : Int32, q = some (.int z) ∧ wp (d + 1) me j L (.int z :: r) M2 Q)) : wp (d + 1) me i L (.int z2 :: .ref z1 :: .ref z0 :: r) M Q := by
  subst hi
  subst hT
  refine wp_call (av := [.ref z0, .ref z1, .int z2]) (rest := r) hx h1 (of_decide_eq_true hcf) hme rfl (by rw [hna]; rfl) (of_decide_eq_true hcat) (of_decide_eq_true hle) hrc ?_
  refine wp_mono k (fun q M2 hq => ?_)
  obtain ⟨z, rfl, hq⟩ := hq
  exact hq
theorem wc_AI_A {ins : Instr} {me2 : xMe} {T : xL} {z0 : Nat} {z1 : Int32} (hx : me.2.2.2.2.2.2[i]? = some (pc, ins, len, ts, a, b, c, lk, v)) (h1 : xend2 ins = 3) (hcf : decide (c ≤ 1) = true) (hme : xmt[a]? = some me2) (hT : List.replicate (me2.2.2.1 - 2) none = T) (hle : decide (2 ≤ me2.2.2.1) = true) (hna : xna b me2 = 2) (hcat : decide ((r.map fun v => v.category).sum ≤ 8) = true) (hrc : xrecv ts b me2 (.int z1 :: .ref z0 :: r) M = true) (hi : i + 1 = j) (k : wp d me2 0 (some (.ref z0) :: some (.int z1) :: T) [] M (fun q M2 => ∃ z : Nat, q = some (.ref z) ∧ wp (d + 1) me j L (.ref z :: r) M2 Q)) : wp (d + 1) me i L (.int z1 :: .ref z0 :: r) M Q := by
  subst hi
  subst hT
  refine wp_call (av := [.ref z0, .int z1]) (rest := r) hx h1 (of_decide_eq_true hcf) hme rfl (by rw [hna]; rfl) (of_decide_eq_true hcat) (of_decide_eq_true hle) hrc ?_
  refine wp_mono k (fun q M2 hq => ?_)
  obtain ⟨z, rfl, hq⟩ := hq
  exact hq
theorem wc_AI_I {ins : Instr} {me2 : xMe} {T : xL} {z0 : Nat} {z1 : Int32} (hx : me.2.2.2.2.2.2[i]? = some (pc, ins, len, ts, a, b, c, lk, v)) (h1 : xend2 ins = 3) (hcf : decide (c ≤ 1) = true) (hme : xmt[a]? = some me2) (hT : List.replicate (me2.2.2.1 - 2) none = T) (hle : decide (2 ≤ me2.2.2.1) = true) (hna : xna b me2 = 2) (hcat : decide ((r.map fun v => v.category).sum ≤ 8) = true) (hrc : xrecv ts b me2 (.int z1 :: .ref z0 :: r) M = true) (hi : i + 1 = j) (k : wp d me2 0 (some (.ref z0) :: some (.int z1) :: T) [] M (fun q M2 => ∃ z : Int32, q = some (.int z) ∧ wp (d + 1) me j L (.int z :: r) M2 Q)) : wp (d + 1) me i L (.int z1 :: .ref z0 :: r) M Q := by
  subst hi
  subst hT
  refine wp_call (av := [.ref z0, .int z1]) (rest := r) hx h1 (of_decide_eq_true hcf) hme rfl (by rw [hna]; rfl) (of_decide_eq_true hcat) (of_decide_eq_true hle) hrc ?_
  refine wp_mono k (fun q M2 hq => ?_)
  obtain ⟨z, rfl, hq⟩ := hq
  exact hq
theorem wc_AI_J {ins : Instr} {me2 : xMe} {T : xL} {z0 : Nat} {z1 : Int32} (hx : me.2.2.2.2.2.2[i]? = some (pc, ins, len, ts, a, b, c, lk, v)) (h1 : xend2 ins = 3) (hcf : decide (c ≤ 1) = true) (hme : xmt[a]? = some me2) (hT : List.replicate (me2.2.2.1 - 2) none = T) (hle : decide (2 ≤ me2.2.2.1) = true) (hna : xna b me2 = 2) (hcat : decide ((r.map fun v => v.category).sum ≤ 8) = true) (hrc : xrecv ts b me2 (.int z1 :: .ref z0 :: r) M = true) (hi : i + 1 = j) (k : wp d me2 0 (some (.ref z0) :: some (.int z1) :: T) [] M (fun q M2 => ∃ z : Int64, q = some (.long z) ∧ wp (d + 1) me j L (.long z :: r) M2 Q)) : wp (d + 1) me i L (.int z1 :: .ref z0 :: r) M Q := by
  subst hi
  subst hT
  refine wp_call (av := [.ref z0, .int z1]) (rest := r) hx h1 (of_decide_eq_true hcf) hme rfl (by rw [hna]; rfl) (of_decide_eq_true hcat) (of_decide_eq_true hle) hrc ?_
  refine wp_mono k (fun q M2 hq => ?_)
  obtain ⟨z, rfl, hq⟩ := hq
  exact hq
theorem wc_AI_V {ins : Instr} {me2 : xMe} {T : xL} {z0 : Nat} {z1 : Int32} (hx : me.2.2.2.2.2.2[i]? = some (pc, ins, len, ts, a, b, c, lk, v)) (h1 : xend2 ins = 3) (hcf : decide (c ≤ 1) = true) (hme : xmt[a]? = some me2) (hT : List.replicate (me2.2.2.1 - 2) none = T) (hle : decide (2 ≤ me2.2.2.1) = true) (hna : xna b me2 = 2) (hcat : decide ((r.map fun v => v.category).sum ≤ 8) = true) (hrc : xrecv ts b me2 (.int z1 :: .ref z0 :: r) M = true) (hi : i + 1 = j) (k : wp d me2 0 (some (.ref z0) :: some (.int z1) :: T) [] M (fun q M2 => q = none ∧ wp (d + 1) me j L r M2 Q)) : wp (d + 1) me i L (.int z1 :: .ref z0 :: r) M Q := by
  subst hi
  subst hT
  refine wp_call (av := [.ref z0, .int z1]) (rest := r) hx h1 (of_decide_eq_true hcf) hme rfl (by rw [hna]; rfl) (of_decide_eq_true hcat) (of_decide_eq_true hle) hrc ?_
  refine wp_mono k (fun q M2 hq => ?_)
  obtain ⟨rfl, hq⟩ := hq
  exact hq
theorem wc_AIA_V {ins : Instr} {me2 : xMe} {T : xL} {z0 : Nat} {z1 : Int32} {z2 : Nat} (hx : me.2.2.2.2.2.2[i]? = some (pc, ins, len, ts, a, b, c, lk, v)) (h1 : xend2 ins = 3) (hcf : decide (c ≤ 1) = true) (hme : xmt[a]? = some me2) (hT : List.replicate (me2.2.2.1 - 3) none = T) (hle : decide (3 ≤ me2.2.2.1) = true) (hna : xna b me2 = 3) (hcat : decide ((r.map fun v => v.category).sum ≤ 8) = true) (hrc : xrecv ts b me2 (.ref z2 :: .int z1 :: .ref z0 :: r) M = true) (hi : i + 1 = j) (k : wp d me2 0 (some (.ref z0) :: some (.int z1) :: some (.ref z2) :: T) [] M (fun q M2 => q = none ∧ wp (d + 1) me j L r M2 Q)) : wp (d + 1) me i L (.ref z2 :: .int z1 :: .ref z0 :: r) M Q := by
  subst hi
  subst hT
  refine wp_call (av := [.ref z0, .int z1, .ref z2]) (rest := r) hx h1 (of_decide_eq_true hcf) hme rfl (by rw [hna]; rfl) (of_decide_eq_true hcat) (of_decide_eq_true hle) hrc ?_
  refine wp_mono k (fun q M2 hq => ?_)
  obtain ⟨rfl, hq⟩ := hq
  exact hq
theorem wc_AII_I {ins : Instr} {me2 : xMe} {T : xL} {z0 : Nat} {z1 : Int32} {z2 : Int32} (hx : me.2.2.2.2.2.2[i]? = some (pc, ins, len, ts, a, b, c, lk, v)) (h1 : xend2 ins = 3) (hcf : decide (c ≤ 1) = true) (hme : xmt[a]? = some me2) (hT : List.replicate (me2.2.2.1 - 3) none = T) (hle : decide (3 ≤ me2.2.2.1) = true) (hna : xna b me2 = 3) (hcat : decide ((r.map fun v => v.category).sum ≤ 8) = true) (hrc : xrecv ts b me2 (.int z2 :: .int z1 :: .ref z0 :: r) M = true) (hi : i + 1 = j) (k : wp d me2 0 (some (.ref z0) :: some (.int z1) :: some (.int z2) :: T) [] M (fun q M2 => ∃ z : Int32, q = some (.int z) ∧ wp (d + 1) me j L (.int z :: r) M2 Q)) : wp (d + 1) me i L (.int z2 :: .int z1 :: .ref z0 :: r) M Q := by
  subst hi
  subst hT
  refine wp_call (av := [.ref z0, .int z1, .int z2]) (rest := r) hx h1 (of_decide_eq_true hcf) hme rfl (by rw [hna]; rfl) (of_decide_eq_true hcat) (of_decide_eq_true hle) hrc ?_
  refine wp_mono k (fun q M2 hq => ?_)
  obtain ⟨z, rfl, hq⟩ := hq
  exact hq
theorem wc_AII_V {ins : Instr} {me2 : xMe} {T : xL} {z0 : Nat} {z1 : Int32} {z2 : Int32} (hx : me.2.2.2.2.2.2[i]? = some (pc, ins, len, ts, a, b, c, lk, v)) (h1 : xend2 ins = 3) (hcf : decide (c ≤ 1) = true) (hme : xmt[a]? = some me2) (hT : List.replicate (me2.2.2.1 - 3) none = T) (hle : decide (3 ≤ me2.2.2.1) = true) (hna : xna b me2 = 3) (hcat : decide ((r.map fun v => v.category).sum ≤ 8) = true) (hrc : xrecv ts b me2 (.int z2 :: .int z1 :: .ref z0 :: r) M = true) (hi : i + 1 = j) (k : wp d me2 0 (some (.ref z0) :: some (.int z1) :: some (.int z2) :: T) [] M (fun q M2 => q = none ∧ wp (d + 1) me j L r M2 Q)) : wp (d + 1) me i L (.int z2 :: .int z1 :: .ref z0 :: r) M Q := by
  subst hi
  subst hT
  refine wp_call (av := [.ref z0, .int z1, .int z2]) (rest := r) hx h1 (of_decide_eq_true hcf) hme rfl (by rw [hna]; rfl) (of_decide_eq_true hcat) (of_decide_eq_true hle) hrc ?_
  refine wp_mono k (fun q M2 hq => ?_)
  obtain ⟨rfl, hq⟩ := hq
  exact hq
theorem wc_AIII_I {ins : Instr} {me2 : xMe} {T : xL} {z0 : Nat} {z1 : Int32} {z2 : Int32} {z3 : Int32} (hx : me.2.2.2.2.2.2[i]? = some (pc, ins, len, ts, a, b, c, lk, v)) (h1 : xend2 ins = 3) (hcf : decide (c ≤ 1) = true) (hme : xmt[a]? = some me2) (hT : List.replicate (me2.2.2.1 - 4) none = T) (hle : decide (4 ≤ me2.2.2.1) = true) (hna : xna b me2 = 4) (hcat : decide ((r.map fun v => v.category).sum ≤ 8) = true) (hrc : xrecv ts b me2 (.int z3 :: .int z2 :: .int z1 :: .ref z0 :: r) M = true) (hi : i + 1 = j) (k : wp d me2 0 (some (.ref z0) :: some (.int z1) :: some (.int z2) :: some (.int z3) :: T) [] M (fun q M2 => ∃ z : Int32, q = some (.int z) ∧ wp (d + 1) me j L (.int z :: r) M2 Q)) : wp (d + 1) me i L (.int z3 :: .int z2 :: .int z1 :: .ref z0 :: r) M Q := by
  subst hi
  subst hT
  refine wp_call (av := [.ref z0, .int z1, .int z2, .int z3]) (rest := r) hx h1 (of_decide_eq_true hcf) hme rfl (by rw [hna]; rfl) (of_decide_eq_true hcat) (of_decide_eq_true hle) hrc ?_
  refine wp_mono k (fun q M2 hq => ?_)
  obtain ⟨z, rfl, hq⟩ := hq
  exact hq
theorem wc_AIII_V {ins : Instr} {me2 : xMe} {T : xL} {z0 : Nat} {z1 : Int32} {z2 : Int32} {z3 : Int32} (hx : me.2.2.2.2.2.2[i]? = some (pc, ins, len, ts, a, b, c, lk, v)) (h1 : xend2 ins = 3) (hcf : decide (c ≤ 1) = true) (hme : xmt[a]? = some me2) (hT : List.replicate (me2.2.2.1 - 4) none = T) (hle : decide (4 ≤ me2.2.2.1) = true) (hna : xna b me2 = 4) (hcat : decide ((r.map fun v => v.category).sum ≤ 8) = true) (hrc : xrecv ts b me2 (.int z3 :: .int z2 :: .int z1 :: .ref z0 :: r) M = true) (hi : i + 1 = j) (k : wp d me2 0 (some (.ref z0) :: some (.int z1) :: some (.int z2) :: some (.int z3) :: T) [] M (fun q M2 => q = none ∧ wp (d + 1) me j L r M2 Q)) : wp (d + 1) me i L (.int z3 :: .int z2 :: .int z1 :: .ref z0 :: r) M Q := by
  subst hi
  subst hT
  refine wp_call (av := [.ref z0, .int z1, .int z2, .int z3]) (rest := r) hx h1 (of_decide_eq_true hcf) hme rfl (by rw [hna]; rfl) (of_decide_eq_true hcat) (of_decide_eq_true hle) hrc ?_
  refine wp_mono k (fun q M2 hq => ?_)
  obtain ⟨rfl, hq⟩ := hq
  exact hq
theorem wc_AIJ_I {ins : Instr} {me2 : xMe} {T : xL} {z0 : Nat} {z1 : Int32} {z2 : Int64} (hx : me.2.2.2.2.2.2[i]? = some (pc, ins, len, ts, a, b, c, lk, v)) (h1 : xend2 ins = 3) (hcf : decide (c ≤ 1) = true) (hme : xmt[a]? = some me2) (hT : List.replicate (me2.2.2.1 - 4) none = T) (hle : decide (4 ≤ me2.2.2.1) = true) (hna : xna b me2 = 3) (hcat : decide ((r.map fun v => v.category).sum ≤ 8) = true) (hrc : xrecv ts b me2 (.long z2 :: .int z1 :: .ref z0 :: r) M = true) (hi : i + 1 = j) (k : wp d me2 0 (some (.ref z0) :: some (.int z1) :: some (.long z2) :: none :: T) [] M (fun q M2 => ∃ z : Int32, q = some (.int z) ∧ wp (d + 1) me j L (.int z :: r) M2 Q)) : wp (d + 1) me i L (.long z2 :: .int z1 :: .ref z0 :: r) M Q := by
  subst hi
  subst hT
  refine wp_call (av := [.ref z0, .int z1, .long z2]) (rest := r) hx h1 (of_decide_eq_true hcf) hme rfl (by rw [hna]; rfl) (of_decide_eq_true hcat) (of_decide_eq_true hle) hrc ?_
  refine wp_mono k (fun q M2 hq => ?_)
  obtain ⟨z, rfl, hq⟩ := hq
  exact hq
theorem wc_AJ_I {ins : Instr} {me2 : xMe} {T : xL} {z0 : Nat} {z1 : Int64} (hx : me.2.2.2.2.2.2[i]? = some (pc, ins, len, ts, a, b, c, lk, v)) (h1 : xend2 ins = 3) (hcf : decide (c ≤ 1) = true) (hme : xmt[a]? = some me2) (hT : List.replicate (me2.2.2.1 - 3) none = T) (hle : decide (3 ≤ me2.2.2.1) = true) (hna : xna b me2 = 2) (hcat : decide ((r.map fun v => v.category).sum ≤ 8) = true) (hrc : xrecv ts b me2 (.long z1 :: .ref z0 :: r) M = true) (hi : i + 1 = j) (k : wp d me2 0 (some (.ref z0) :: some (.long z1) :: none :: T) [] M (fun q M2 => ∃ z : Int32, q = some (.int z) ∧ wp (d + 1) me j L (.int z :: r) M2 Q)) : wp (d + 1) me i L (.long z1 :: .ref z0 :: r) M Q := by
  subst hi
  subst hT
  refine wp_call (av := [.ref z0, .long z1]) (rest := r) hx h1 (of_decide_eq_true hcf) hme rfl (by rw [hna]; rfl) (of_decide_eq_true hcat) (of_decide_eq_true hle) hrc ?_
  refine wp_mono k (fun q M2 hq => ?_)
  obtain ⟨z, rfl, hq⟩ := hq
  exact hq
theorem wc_AJI_I {ins : Instr} {me2 : xMe} {T : xL} {z0 : Nat} {z1 : Int64} {z2 : Int32} (hx : me.2.2.2.2.2.2[i]? = some (pc, ins, len, ts, a, b, c, lk, v)) (h1 : xend2 ins = 3) (hcf : decide (c ≤ 1) = true) (hme : xmt[a]? = some me2) (hT : List.replicate (me2.2.2.1 - 4) none = T) (hle : decide (4 ≤ me2.2.2.1) = true) (hna : xna b me2 = 3) (hcat : decide ((r.map fun v => v.category).sum ≤ 8) = true) (hrc : xrecv ts b me2 (.int z2 :: .long z1 :: .ref z0 :: r) M = true) (hi : i + 1 = j) (k : wp d me2 0 (some (.ref z0) :: some (.long z1) :: none :: some (.int z2) :: T) [] M (fun q M2 => ∃ z : Int32, q = some (.int z) ∧ wp (d + 1) me j L (.int z :: r) M2 Q)) : wp (d + 1) me i L (.int z2 :: .long z1 :: .ref z0 :: r) M Q := by
  subst hi
  subst hT
  refine wp_call (av := [.ref z0, .long z1, .int z2]) (rest := r) hx h1 (of_decide_eq_true hcf) hme rfl (by rw [hna]; rfl) (of_decide_eq_true hcat) (of_decide_eq_true hle) hrc ?_
  refine wp_mono k (fun q M2 hq => ?_)
  obtain ⟨z, rfl, hq⟩ := hq
  exact hq
theorem wc_AJIA_V {ins : Instr} {me2 : xMe} {T : xL} {z0 : Nat} {z1 : Int64} {z2 : Int32} {z3 : Nat} (hx : me.2.2.2.2.2.2[i]? = some (pc, ins, len, ts, a, b, c, lk, v)) (h1 : xend2 ins = 3) (hcf : decide (c ≤ 1) = true) (hme : xmt[a]? = some me2) (hT : List.replicate (me2.2.2.1 - 5) none = T) (hle : decide (5 ≤ me2.2.2.1) = true) (hna : xna b me2 = 4) (hcat : decide ((r.map fun v => v.category).sum ≤ 8) = true) (hrc : xrecv ts b me2 (.ref z3 :: .int z2 :: .long z1 :: .ref z0 :: r) M = true) (hi : i + 1 = j) (k : wp d me2 0 (some (.ref z0) :: some (.long z1) :: none :: some (.int z2) :: some (.ref z3) :: T) [] M (fun q M2 => q = none ∧ wp (d + 1) me j L r M2 Q)) : wp (d + 1) me i L (.ref z3 :: .int z2 :: .long z1 :: .ref z0 :: r) M Q := by
  subst hi
  subst hT
  refine wp_call (av := [.ref z0, .long z1, .int z2, .ref z3]) (rest := r) hx h1 (of_decide_eq_true hcf) hme rfl (by rw [hna]; rfl) (of_decide_eq_true hcat) (of_decide_eq_true hle) hrc ?_
  refine wp_mono k (fun q M2 hq => ?_)
  obtain ⟨rfl, hq⟩ := hq
  exact hq
theorem wc_I_I {ins : Instr} {me2 : xMe} {T : xL} {z0 : Int32} (hx : me.2.2.2.2.2.2[i]? = some (pc, ins, len, ts, a, b, c, lk, v)) (h1 : xend2 ins = 3) (hcf : decide (c ≤ 1) = true) (hme : xmt[a]? = some me2) (hT : List.replicate (me2.2.2.1 - 1) none = T) (hle : decide (1 ≤ me2.2.2.1) = true) (hna : xna b me2 = 1) (hcat : decide ((r.map fun v => v.category).sum ≤ 8) = true) (hrc : xrecv ts b me2 (.int z0 :: r) M = true) (hi : i + 1 = j) (k : wp d me2 0 (some (.int z0) :: T) [] M (fun q M2 => ∃ z : Int32, q = some (.int z) ∧ wp (d + 1) me j L (.int z :: r) M2 Q)) : wp (d + 1) me i L (.int z0 :: r) M Q := by
  subst hi
  subst hT
  refine wp_call (av := [.int z0]) (rest := r) hx h1 (of_decide_eq_true hcf) hme rfl (by rw [hna]; rfl) (of_decide_eq_true hcat) (of_decide_eq_true hle) hrc ?_
  refine wp_mono k (fun q M2 hq => ?_)
  obtain ⟨z, rfl, hq⟩ := hq
  exact hq
theorem wc_II_I {ins : Instr} {me2 : xMe} {T : xL} {z0 : Int32} {z1 : Int32} (hx : me.2.2.2.2.2.2[i]? = some (pc, ins, len, ts, a, b, c, lk, v)) (h1 : xend2 ins = 3) (hcf : decide (c ≤ 1) = true) (hme : xmt[a]? = some me2) (hT : List.replicate (me2.2.2.1 - 2) none = T) (hle : decide (2 ≤ me2.2.2.1) = true) (hna : xna b me2 = 2) (hcat : decide ((r.map fun v => v.category).sum ≤ 8) = true) (hrc : xrecv ts b me2 (.int z1 :: .int z0 :: r) M = true) (hi : i + 1 = j) (k : wp d me2 0 (some (.int z0) :: some (.int z1) :: T) [] M (fun q M2 => ∃ z : Int32, q = some (.int z) ∧ wp (d + 1) me j L (.int z :: r) M2 Q)) : wp (d + 1) me i L (.int z1 :: .int z0 :: r) M Q := by
  subst hi
  subst hT
  refine wp_call (av := [.int z0, .int z1]) (rest := r) hx h1 (of_decide_eq_true hcf) hme rfl (by rw [hna]; rfl) (of_decide_eq_true hcat) (of_decide_eq_true hle) hrc ?_
  refine wp_mono k (fun q M2 hq => ?_)
  obtain ⟨z, rfl, hq⟩ := hq
  exact hq
theorem wc_III_I {ins : Instr} {me2 : xMe} {T : xL} {z0 : Int32} {z1 : Int32} {z2 : Int32} (hx : me.2.2.2.2.2.2[i]? = some (pc, ins, len, ts, a, b, c, lk, v)) (h1 : xend2 ins = 3) (hcf : decide (c ≤ 1) = true) (hme : xmt[a]? = some me2) (hT : List.replicate (me2.2.2.1 - 3) none = T) (hle : decide (3 ≤ me2.2.2.1) = true) (hna : xna b me2 = 3) (hcat : decide ((r.map fun v => v.category).sum ≤ 8) = true) (hrc : xrecv ts b me2 (.int z2 :: .int z1 :: .int z0 :: r) M = true) (hi : i + 1 = j) (k : wp d me2 0 (some (.int z0) :: some (.int z1) :: some (.int z2) :: T) [] M (fun q M2 => ∃ z : Int32, q = some (.int z) ∧ wp (d + 1) me j L (.int z :: r) M2 Q)) : wp (d + 1) me i L (.int z2 :: .int z1 :: .int z0 :: r) M Q := by
  subst hi
  subst hT
  refine wp_call (av := [.int z0, .int z1, .int z2]) (rest := r) hx h1 (of_decide_eq_true hcf) hme rfl (by rw [hna]; rfl) (of_decide_eq_true hcat) (of_decide_eq_true hle) hrc ?_
  refine wp_mono k (fun q M2 hq => ?_)
  obtain ⟨z, rfl, hq⟩ := hq
  exact hq
end
end
