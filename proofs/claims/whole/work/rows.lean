section
-- ===== PART A: goes FIRST, ahead of the names: the tables' words, and 'selects' of the private methods out of them =====
/-- a private method of a class that the tables say can be made, by its rows of tables_1 -/
def lw_okq (q : MethodName × Nat) : Prop := (q.1.cls ≠ "java/lang/invoke/MethodHandle" ∧ q.1.cls ≠ "java/lang/invoke/VarHandle") ∧ Cond.instantiable q.1.cls q.2 ∈ tables_1 ∧ Cond.privateMethod q.1 ∈ tables_1 ∧ Cond.instanceMethod q.1 ∈ tables_1
theorem lw_p0 : lw_okq (⟨"HarpOrders", "remember", "()V"⟩, 8) := ⟨⟨by decide +kernel, by decide +kernel⟩, List.mem_of_getElem? (i := 13) (by decide +kernel), List.mem_of_getElem? (i := 231) (by decide +kernel), List.mem_of_getElem? (i := 232) (by decide +kernel)⟩
theorem lw_p1 : lw_okq (⟨"HarpOrders", "costOf", "(I)I"⟩, 8) := ⟨⟨by decide +kernel, by decide +kernel⟩, List.mem_of_getElem? (i := 13) (by decide +kernel), List.mem_of_getElem? (i := 289) (by decide +kernel), List.mem_of_getElem? (i := 290) (by decide +kernel)⟩
theorem lw_p2 : lw_okq (⟨"HarpOrders$Order", "addRow", "([I)V"⟩, 6) := ⟨⟨by decide +kernel, by decide +kernel⟩, List.mem_of_getElem? (i := 163) (by decide +kernel), List.mem_of_getElem? (i := 301) (by decide +kernel), List.mem_of_getElem? (i := 302) (by decide +kernel)⟩
theorem lw_p3 : lw_okq (⟨"HarpOrders$Club", "charge", "(ILHarpOrders$Order;)V"⟩, 15) := ⟨⟨by decide +kernel, by decide +kernel⟩, List.mem_of_getElem? (i := 21) (by decide +kernel), List.mem_of_getElem? (i := 389) (by decide +kernel), List.mem_of_getElem? (i := 390) (by decide +kernel)⟩
theorem lw_p4 : lw_okq (⟨"HarpOrders$Club", "comesHome", "(LHarpOrders$Parcel;)Z"⟩, 15) := ⟨⟨by decide +kernel, by decide +kernel⟩, List.mem_of_getElem? (i := 21) (by decide +kernel), List.mem_of_getElem? (i := 405) (by decide +kernel), List.mem_of_getElem? (i := 406) (by decide +kernel)⟩
theorem lw_p5 : lw_okq (⟨"HarpOrders$Club", "draw", "(I)I"⟩, 15) := ⟨⟨by decide +kernel, by decide +kernel⟩, List.mem_of_getElem? (i := 21) (by decide +kernel), List.mem_of_getElem? (i := 409) (by decide +kernel), List.mem_of_getElem? (i := 410) (by decide +kernel)⟩
theorem lw_p6 : lw_okq (⟨"HarpOrders$Club", "openAtCustoms", "(LHarpOrders$Parcel;)V"⟩, 15) := ⟨⟨by decide +kernel, by decide +kernel⟩, List.mem_of_getElem? (i := 21) (by decide +kernel), List.mem_of_getElem? (i := 417) (by decide +kernel), List.mem_of_getElem? (i := 418) (by decide +kernel)⟩
theorem lw_p7 : lw_okq (⟨"HarpOrders$Club", "payDuty", "(LHarpOrders$Parcel;)V"⟩, 15) := ⟨⟨by decide +kernel, by decide +kernel⟩, List.mem_of_getElem? (i := 21) (by decide +kernel), List.mem_of_getElem? (i := 421) (by decide +kernel), List.mem_of_getElem? (i := 422) (by decide +kernel)⟩
theorem lw_p8 : lw_okq (⟨"HarpOrders$Club", "unpack", "(LHarpOrders$Parcel;)V"⟩, 15) := ⟨⟨by decide +kernel, by decide +kernel⟩, List.mem_of_getElem? (i := 21) (by decide +kernel), List.mem_of_getElem? (i := 445) (by decide +kernel), List.mem_of_getElem? (i := 446) (by decide +kernel)⟩
theorem lw_p9 : lw_okq (⟨"HarpOrders", "pencePartedAt", "(I)I"⟩, 8) := ⟨⟨by decide +kernel, by decide +kernel⟩, List.mem_of_getElem? (i := 13) (by decide +kernel), List.mem_of_getElem? (i := 504) (by decide +kernel), List.mem_of_getElem? (i := 505) (by decide +kernel)⟩
theorem lw_p10 : lw_okq (⟨"HarpOrders", "costWithDuty", "(I)I"⟩, 8) := ⟨⟨by decide +kernel, by decide +kernel⟩, List.mem_of_getElem? (i := 13) (by decide +kernel), List.mem_of_getElem? (i := 508) (by decide +kernel), List.mem_of_getElem? (i := 509) (by decide +kernel)⟩
theorem lw_p11 : lw_okq (⟨"HarpOrdersModel", "lays", "(II)I"⟩, 12) := ⟨⟨by decide +kernel, by decide +kernel⟩, List.mem_of_getElem? (i := 555) (by decide +kernel), List.mem_of_getElem? (i := 611) (by decide +kernel), List.mem_of_getElem? (i := 612) (by decide +kernel)⟩
theorem lw_p12 : lw_okq (⟨"HarpOrdersModel", "record", "()V"⟩, 12) := ⟨⟨by decide +kernel, by decide +kernel⟩, List.mem_of_getElem? (i := 555) (by decide +kernel), List.mem_of_getElem? (i := 615) (by decide +kernel), List.mem_of_getElem? (i := 616) (by decide +kernel)⟩
theorem lw_p13 : lw_okq (⟨"HarpOrdersModel", "does", "(III)Z"⟩, 12) := ⟨⟨by decide +kernel, by decide +kernel⟩, List.mem_of_getElem? (i := 555) (by decide +kernel), List.mem_of_getElem? (i := 645) (by decide +kernel), List.mem_of_getElem? (i := 646) (by decide +kernel)⟩
theorem lw_p14 : lw_okq (⟨"HarpOrdersModel", "costOf", "(I)I"⟩, 12) := ⟨⟨by decide +kernel, by decide +kernel⟩, List.mem_of_getElem? (i := 555) (by decide +kernel), List.mem_of_getElem? (i := 653) (by decide +kernel), List.mem_of_getElem? (i := 654) (by decide +kernel)⟩
theorem lw_p15 : lw_okq (⟨"HarpOrdersModel", "valueOf", "(I)I"⟩, 12) := ⟨⟨by decide +kernel, by decide +kernel⟩, List.mem_of_getElem? (i := 555) (by decide +kernel), List.mem_of_getElem? (i := 657) (by decide +kernel), List.mem_of_getElem? (i := 658) (by decide +kernel)⟩
def lw_privs_1 : List (MethodName × Nat) := [(⟨"HarpOrders", "remember", "()V"⟩, 8), (⟨"HarpOrders", "costOf", "(I)I"⟩, 8), (⟨"HarpOrders$Order", "addRow", "([I)V"⟩, 6), (⟨"HarpOrders$Club", "charge", "(ILHarpOrders$Order;)V"⟩, 15), (⟨"HarpOrders$Club", "comesHome", "(LHarpOrders$Parcel;)Z"⟩, 15), (⟨"HarpOrders$Club", "draw", "(I)I"⟩, 15), (⟨"HarpOrders$Club", "openAtCustoms", "(LHarpOrders$Parcel;)V"⟩, 15), (⟨"HarpOrders$Club", "payDuty", "(LHarpOrders$Parcel;)V"⟩, 15), (⟨"HarpOrders$Club", "unpack", "(LHarpOrders$Parcel;)V"⟩, 15), (⟨"HarpOrders", "pencePartedAt", "(I)I"⟩, 8), (⟨"HarpOrders", "costWithDuty", "(I)I"⟩, 8), (⟨"HarpOrdersModel", "lays", "(II)I"⟩, 12), (⟨"HarpOrdersModel", "record", "()V"⟩, 12), (⟨"HarpOrdersModel", "does", "(III)Z"⟩, 12), (⟨"HarpOrdersModel", "costOf", "(I)I"⟩, 12), (⟨"HarpOrdersModel", "valueOf", "(I)I"⟩, 12)]
theorem lw_r1 : ∀ q ∈ lw_privs_1, lw_okq q := List.forall_mem_cons.mpr ⟨lw_p0, List.forall_mem_cons.mpr ⟨lw_p1, List.forall_mem_cons.mpr ⟨lw_p2, List.forall_mem_cons.mpr ⟨lw_p3, List.forall_mem_cons.mpr ⟨lw_p4, List.forall_mem_cons.mpr ⟨lw_p5, List.forall_mem_cons.mpr ⟨lw_p6, List.forall_mem_cons.mpr ⟨lw_p7, List.forall_mem_cons.mpr ⟨lw_p8, List.forall_mem_cons.mpr ⟨lw_p9, List.forall_mem_cons.mpr ⟨lw_p10, List.forall_mem_cons.mpr ⟨lw_p11, List.forall_mem_cons.mpr ⟨lw_p12, List.forall_mem_cons.mpr ⟨lw_p13, List.forall_mem_cons.mpr ⟨lw_p14, List.forall_mem_cons.mpr ⟨lw_p15, fun _ h => absurd h List.not_mem_nil⟩⟩⟩⟩⟩⟩⟩⟩⟩⟩⟩⟩⟩⟩⟩⟩
theorem lw_p16 : lw_okq (⟨"HarpOrdersModel", "wanted", "(II)I"⟩, 12) := ⟨⟨by decide +kernel, by decide +kernel⟩, List.mem_of_getElem? (i := 555) (by decide +kernel), List.mem_of_getElem? (i := 661) (by decide +kernel), List.mem_of_getElem? (i := 662) (by decide +kernel)⟩
theorem lw_p17 : lw_okq (⟨"HarpOrdersModel", "priceIn", "(II)I"⟩, 12) := ⟨⟨by decide +kernel, by decide +kernel⟩, List.mem_of_getElem? (i := 555) (by decide +kernel), List.mem_of_getElem? (i := 665) (by decide +kernel), List.mem_of_getElem? (i := 666) (by decide +kernel)⟩
theorem lw_p18 : lw_okq (⟨"HarpOrdersModel", "postOf", "(I)I"⟩, 12) := ⟨⟨by decide +kernel, by decide +kernel⟩, List.mem_of_getElem? (i := 555) (by decide +kernel), List.mem_of_getElem? (i := 672) (by decide +kernel), List.mem_of_getElem? (i := 673) (by decide +kernel)⟩
theorem lw_p19 : lw_okq (⟨"HarpOrdersModel", "stringsOf", "(I)I"⟩, 12) := ⟨⟨by decide +kernel, by decide +kernel⟩, List.mem_of_getElem? (i := 555) (by decide +kernel), List.mem_of_getElem? (i := 676) (by decide +kernel), List.mem_of_getElem? (i := 677) (by decide +kernel)⟩
theorem lw_p20 : lw_okq (⟨"HarpOrdersModel", "weightOf", "(I)I"⟩, 12) := ⟨⟨by decide +kernel, by decide +kernel⟩, List.mem_of_getElem? (i := 555) (by decide +kernel), List.mem_of_getElem? (i := 680) (by decide +kernel), List.mem_of_getElem? (i := 681) (by decide +kernel)⟩
theorem lw_p21 : lw_okq (⟨"HarpOrdersModel", "chest", "()I"⟩, 12) := ⟨⟨by decide +kernel, by decide +kernel⟩, List.mem_of_getElem? (i := 555) (by decide +kernel), List.mem_of_getElem? (i := 696) (by decide +kernel), List.mem_of_getElem? (i := 697) (by decide +kernel)⟩
theorem lw_p22 : lw_okq (⟨"HarpOrdersModel", "sends", "(I)V"⟩, 12) := ⟨⟨by decide +kernel, by decide +kernel⟩, List.mem_of_getElem? (i := 555) (by decide +kernel), List.mem_of_getElem? (i := 701) (by decide +kernel), List.mem_of_getElem? (i := 702) (by decide +kernel)⟩
theorem lw_p23 : lw_okq (⟨"HarpOrdersModel", "sharesPost", "(I)V"⟩, 12) := ⟨⟨by decide +kernel, by decide +kernel⟩, List.mem_of_getElem? (i := 555) (by decide +kernel), List.mem_of_getElem? (i := 708) (by decide +kernel), List.mem_of_getElem? (i := 709) (by decide +kernel)⟩
theorem lw_p24 : lw_okq (⟨"HarpOrdersModel", "shares", "(I)V"⟩, 12) := ⟨⟨by decide +kernel, by decide +kernel⟩, List.mem_of_getElem? (i := 555) (by decide +kernel), List.mem_of_getElem? (i := 712) (by decide +kernel), List.mem_of_getElem? (i := 713) (by decide +kernel)⟩
theorem lw_p25 : lw_okq (⟨"HarpOrdersModel", "ownOf", "(II)I"⟩, 12) := ⟨⟨by decide +kernel, by decide +kernel⟩, List.mem_of_getElem? (i := 555) (by decide +kernel), List.mem_of_getElem? (i := 716) (by decide +kernel), List.mem_of_getElem? (i := 717) (by decide +kernel)⟩
theorem lw_p26 : lw_okq (⟨"HarpOrdersModel", "day", "()I"⟩, 12) := ⟨⟨by decide +kernel, by decide +kernel⟩, List.mem_of_getElem? (i := 555) (by decide +kernel), List.mem_of_getElem? (i := 724) (by decide +kernel), List.mem_of_getElem? (i := 725) (by decide +kernel)⟩
theorem lw_p27 : lw_okq (⟨"HarpOrdersModel", "comesToCustoms", "(I)Z"⟩, 12) := ⟨⟨by decide +kernel, by decide +kernel⟩, List.mem_of_getElem? (i := 555) (by decide +kernel), List.mem_of_getElem? (i := 728) (by decide +kernel), List.mem_of_getElem? (i := 729) (by decide +kernel)⟩
theorem lw_p28 : lw_okq (⟨"HarpOrdersModel", "draw", "(I)I"⟩, 12) := ⟨⟨by decide +kernel, by decide +kernel⟩, List.mem_of_getElem? (i := 555) (by decide +kernel), List.mem_of_getElem? (i := 732) (by decide +kernel), List.mem_of_getElem? (i := 733) (by decide +kernel)⟩
theorem lw_p29 : lw_okq (⟨"HarpOrdersModel", "paysDuty", "(I)V"⟩, 12) := ⟨⟨by decide +kernel, by decide +kernel⟩, List.mem_of_getElem? (i := 555) (by decide +kernel), List.mem_of_getElem? (i := 740) (by decide +kernel), List.mem_of_getElem? (i := 741) (by decide +kernel)⟩
theorem lw_p30 : lw_okq (⟨"HarpOrdersModel", "dutyOn", "(I)I"⟩, 12) := ⟨⟨by decide +kernel, by decide +kernel⟩, List.mem_of_getElem? (i := 555) (by decide +kernel), List.mem_of_getElem? (i := 744) (by decide +kernel), List.mem_of_getElem? (i := 745) (by decide +kernel)⟩
theorem lw_p31 : lw_okq (⟨"HarpOrdersModel", "loses", "(I)V"⟩, 12) := ⟨⟨by decide +kernel, by decide +kernel⟩, List.mem_of_getElem? (i := 555) (by decide +kernel), List.mem_of_getElem? (i := 751) (by decide +kernel), List.mem_of_getElem? (i := 752) (by decide +kernel)⟩
def lw_privs_2 : List (MethodName × Nat) := [(⟨"HarpOrdersModel", "wanted", "(II)I"⟩, 12), (⟨"HarpOrdersModel", "priceIn", "(II)I"⟩, 12), (⟨"HarpOrdersModel", "postOf", "(I)I"⟩, 12), (⟨"HarpOrdersModel", "stringsOf", "(I)I"⟩, 12), (⟨"HarpOrdersModel", "weightOf", "(I)I"⟩, 12), (⟨"HarpOrdersModel", "chest", "()I"⟩, 12), (⟨"HarpOrdersModel", "sends", "(I)V"⟩, 12), (⟨"HarpOrdersModel", "sharesPost", "(I)V"⟩, 12), (⟨"HarpOrdersModel", "shares", "(I)V"⟩, 12), (⟨"HarpOrdersModel", "ownOf", "(II)I"⟩, 12), (⟨"HarpOrdersModel", "day", "()I"⟩, 12), (⟨"HarpOrdersModel", "comesToCustoms", "(I)Z"⟩, 12), (⟨"HarpOrdersModel", "draw", "(I)I"⟩, 12), (⟨"HarpOrdersModel", "paysDuty", "(I)V"⟩, 12), (⟨"HarpOrdersModel", "dutyOn", "(I)I"⟩, 12), (⟨"HarpOrdersModel", "loses", "(I)V"⟩, 12)]
theorem lw_r2 : ∀ q ∈ lw_privs_2, lw_okq q := List.forall_mem_cons.mpr ⟨lw_p16, List.forall_mem_cons.mpr ⟨lw_p17, List.forall_mem_cons.mpr ⟨lw_p18, List.forall_mem_cons.mpr ⟨lw_p19, List.forall_mem_cons.mpr ⟨lw_p20, List.forall_mem_cons.mpr ⟨lw_p21, List.forall_mem_cons.mpr ⟨lw_p22, List.forall_mem_cons.mpr ⟨lw_p23, List.forall_mem_cons.mpr ⟨lw_p24, List.forall_mem_cons.mpr ⟨lw_p25, List.forall_mem_cons.mpr ⟨lw_p26, List.forall_mem_cons.mpr ⟨lw_p27, List.forall_mem_cons.mpr ⟨lw_p28, List.forall_mem_cons.mpr ⟨lw_p29, List.forall_mem_cons.mpr ⟨lw_p30, List.forall_mem_cons.mpr ⟨lw_p31, fun _ h => absurd h List.not_mem_nil⟩⟩⟩⟩⟩⟩⟩⟩⟩⟩⟩⟩⟩⟩⟩⟩
theorem lw_p32 : lw_okq (⟨"HarpOrdersModel", "stringsIn", "(I)I"⟩, 12) := ⟨⟨by decide +kernel, by decide +kernel⟩, List.mem_of_getElem? (i := 555) (by decide +kernel), List.mem_of_getElem? (i := 755) (by decide +kernel), List.mem_of_getElem? (i := 756) (by decide +kernel)⟩
theorem lw_p33 : lw_okq (⟨"HarpOrdersModel", "comesHome", "(I)V"⟩, 12) := ⟨⟨by decide +kernel, by decide +kernel⟩, List.mem_of_getElem? (i := 555) (by decide +kernel), List.mem_of_getElem? (i := 759) (by decide +kernel), List.mem_of_getElem? (i := 760) (by decide +kernel)⟩
theorem lw_p34 : lw_okq (⟨"HarpOrdersModel", "sum", "(II)I"⟩, 12) := ⟨⟨by decide +kernel, by decide +kernel⟩, List.mem_of_getElem? (i := 555) (by decide +kernel), List.mem_of_getElem? (i := 771) (by decide +kernel), List.mem_of_getElem? (i := 772) (by decide +kernel)⟩
theorem lw_p35 : lw_okq (⟨"HarpOrdersModel", "onTheWay", "(I)I"⟩, 12) := ⟨⟨by decide +kernel, by decide +kernel⟩, List.mem_of_getElem? (i := 555) (by decide +kernel), List.mem_of_getElem? (i := 775) (by decide +kernel), List.mem_of_getElem? (i := 776) (by decide +kernel)⟩
theorem lw_p36 : lw_okq (⟨"HarpOrdersModel", "membersOf", "(I)I"⟩, 12) := ⟨⟨by decide +kernel, by decide +kernel⟩, List.mem_of_getElem? (i := 555) (by decide +kernel), List.mem_of_getElem? (i := 787) (by decide +kernel), List.mem_of_getElem? (i := 788) (by decide +kernel)⟩
theorem lw_p37 : lw_okq (⟨"HarpOrdersModel", "broken", "()I"⟩, 12) := ⟨⟨by decide +kernel, by decide +kernel⟩, List.mem_of_getElem? (i := 555) (by decide +kernel), List.mem_of_getElem? (i := 795) (by decide +kernel), List.mem_of_getElem? (i := 796) (by decide +kernel)⟩
theorem lw_p38 : lw_okq (⟨"HarpOrdersModel", "parted", "(I)I"⟩, 12) := ⟨⟨by decide +kernel, by decide +kernel⟩, List.mem_of_getElem? (i := 555) (by decide +kernel), List.mem_of_getElem? (i := 815) (by decide +kernel), List.mem_of_getElem? (i := 816) (by decide +kernel)⟩
theorem lw_p39 : lw_okq (⟨"HarpOrdersModel", "putAside", "()V"⟩, 12) := ⟨⟨by decide +kernel, by decide +kernel⟩, List.mem_of_getElem? (i := 555) (by decide +kernel), List.mem_of_getElem? (i := 828) (by decide +kernel), List.mem_of_getElem? (i := 829) (by decide +kernel)⟩
theorem lw_p40 : lw_okq (⟨"HarpOrdersModel", "putBack", "()V"⟩, 12) := ⟨⟨by decide +kernel, by decide +kernel⟩, List.mem_of_getElem? (i := 555) (by decide +kernel), List.mem_of_getElem? (i := 832) (by decide +kernel), List.mem_of_getElem? (i := 833) (by decide +kernel)⟩
theorem lw_p41 : lw_okq (⟨"HarpOrdersModel", "goes", "(Z)V"⟩, 12) := ⟨⟨by decide +kernel, by decide +kernel⟩, List.mem_of_getElem? (i := 555) (by decide +kernel), List.mem_of_getElem? (i := 849) (by decide +kernel), List.mem_of_getElem? (i := 850) (by decide +kernel)⟩
theorem lw_p42 : lw_okq (⟨"HarpOrdersModel", "part", "(Z)V"⟩, 12) := ⟨⟨by decide +kernel, by decide +kernel⟩, List.mem_of_getElem? (i := 555) (by decide +kernel), List.mem_of_getElem? (i := 853) (by decide +kernel), List.mem_of_getElem? (i := 854) (by decide +kernel)⟩
theorem lw_p43 : lw_okq (⟨"HarpOrdersModel", "takes", "(II)I"⟩, 12) := ⟨⟨by decide +kernel, by decide +kernel⟩, List.mem_of_getElem? (i := 555) (by decide +kernel), List.mem_of_getElem? (i := 857) (by decide +kernel), List.mem_of_getElem? (i := 858) (by decide +kernel)⟩
theorem lw_p44 : lw_okq (⟨"HarpOrdersModel", "takesMany", "()I"⟩, 12) := ⟨⟨by decide +kernel, by decide +kernel⟩, List.mem_of_getElem? (i := 555) (by decide +kernel), List.mem_of_getElem? (i := 861) (by decide +kernel), List.mem_of_getElem? (i := 862) (by decide +kernel)⟩
theorem lw_p45 : lw_okq (⟨"HarpOrdersModel", "isNext", "(II)Z"⟩, 12) := ⟨⟨by decide +kernel, by decide +kernel⟩, List.mem_of_getElem? (i := 555) (by decide +kernel), List.mem_of_getElem? (i := 865) (by decide +kernel), List.mem_of_getElem? (i := 866) (by decide +kernel)⟩
def lw_privs_3 : List (MethodName × Nat) := [(⟨"HarpOrdersModel", "stringsIn", "(I)I"⟩, 12), (⟨"HarpOrdersModel", "comesHome", "(I)V"⟩, 12), (⟨"HarpOrdersModel", "sum", "(II)I"⟩, 12), (⟨"HarpOrdersModel", "onTheWay", "(I)I"⟩, 12), (⟨"HarpOrdersModel", "membersOf", "(I)I"⟩, 12), (⟨"HarpOrdersModel", "broken", "()I"⟩, 12), (⟨"HarpOrdersModel", "parted", "(I)I"⟩, 12), (⟨"HarpOrdersModel", "putAside", "()V"⟩, 12), (⟨"HarpOrdersModel", "putBack", "()V"⟩, 12), (⟨"HarpOrdersModel", "goes", "(Z)V"⟩, 12), (⟨"HarpOrdersModel", "part", "(Z)V"⟩, 12), (⟨"HarpOrdersModel", "takes", "(II)I"⟩, 12), (⟨"HarpOrdersModel", "takesMany", "()I"⟩, 12), (⟨"HarpOrdersModel", "isNext", "(II)Z"⟩, 12)]
theorem lw_r3 : ∀ q ∈ lw_privs_3, lw_okq q := List.forall_mem_cons.mpr ⟨lw_p32, List.forall_mem_cons.mpr ⟨lw_p33, List.forall_mem_cons.mpr ⟨lw_p34, List.forall_mem_cons.mpr ⟨lw_p35, List.forall_mem_cons.mpr ⟨lw_p36, List.forall_mem_cons.mpr ⟨lw_p37, List.forall_mem_cons.mpr ⟨lw_p38, List.forall_mem_cons.mpr ⟨lw_p39, List.forall_mem_cons.mpr ⟨lw_p40, List.forall_mem_cons.mpr ⟨lw_p41, List.forall_mem_cons.mpr ⟨lw_p42, List.forall_mem_cons.mpr ⟨lw_p43, List.forall_mem_cons.mpr ⟨lw_p44, List.forall_mem_cons.mpr ⟨lw_p45, fun _ h => absurd h List.not_mem_nil⟩⟩⟩⟩⟩⟩⟩⟩⟩⟩⟩⟩⟩⟩
def lw_privs : List (MethodName × Nat) := lw_privs_1 ++ (lw_privs_2 ++ (lw_privs_3))
def lw_tbl : List Cond := k2_sels lw_privs ++ tables_1
theorem lw_privs_ok : ∀ q ∈ lw_privs, lw_okq q := by
  show ∀ q ∈ lw_privs_1 ++ (lw_privs_2 ++ (lw_privs_3)), lw_okq q
  exact List.forall_mem_append.mpr ⟨lw_r1, List.forall_mem_append.mpr ⟨lw_r2, lw_r3⟩⟩
-- ===== end of PART A; then your names; then what follows =====
end
section
/-! ===== BEGIN words of one list among another's, by their places ===== -/
theorem goodIn_r {big : List Cond} (ws : List Cond) (ps : List Nat) (hp : ws = ps.filterMap (fun i => big[i]?)) (h : ws.all goodWord = true) : GoodIn big ws := by
  intro w hw
  have h1 := List.all_eq_true.mp h w hw
  rw [hp] at hw
  obtain ⟨i, -, hi⟩ := List.mem_filterMap.mp hw
  have hm : w ∈ big := by first | exact List.mem_of_getElem? hi | exact List.getElem?_mem hi
  exact ⟨hm, good_of_word h1⟩
theorem goodIn_app {big a b : List Cond} (ha : GoodIn big a) (hb : GoodIn big b) : GoodIn big (a ++ b) := fun w h => (List.mem_append.mp h).elim (ha w) (hb w)
theorem goodIn_ca {big a b : List Cond} {c : Cond} (ha : GoodIn big (c :: a)) (hb : GoodIn big b) : GoodIn big (c :: (a ++ b)) := fun w h => (List.mem_cons.mp h).elim (fun e => ha w (List.mem_cons.mpr (Or.inl e))) (fun h => (List.mem_append.mp h).elim (fun h => ha w (List.mem_cons.mpr (Or.inr h))) (hb w))
theorem goodIn_sub {big ws : List Cond} (hm : ∀ w ∈ ws, w ∈ big) (h : ws.all goodWord = true) : GoodIn big ws := fun w hw => ⟨hm w hw, good_of_word (List.all_eq_true.mp h w hw)⟩
/-! ===== END ===== -/



/-! ===== BEGIN printed: names, fields, word lists, decode rows ===== -/
def RX0 : String := "HarpOrders$Club"
def TX0 : u_T := fun k => match k with
  | 0 => ("HarpOrders$Club", "settings", "[I", true)
  | 1 => ("HarpOrders$Club", "day", "I", false)
  | 2 => ("HarpOrders$Club", "x", "I", false)
  | 3 => ("HarpOrders$Club", "broken", "[I", true)
  | 4 => ("HarpOrders$Club", "spare", "[[I", true)
  | 5 => ("HarpOrders$Club", "wanted", "[[I", true)
  | 6 => ("HarpOrders$Club", "accounts", "[I", true)
  | 7 => ("HarpOrders$Club", "paidForStrings", "[I", true)
  | 8 => ("HarpOrders$Club", "paidForPost", "[I", true)
  | 9 => ("HarpOrders$Club", "paidForDuty", "[I", true)
  | 10 => ("HarpOrders$Club", "lost", "[I", true)
  | 11 => ("HarpOrders$Club", "parcels", "[LHarpOrders$Parcel;", true)
  | 12 => ("HarpOrders$Club", "underway", "I", false)
  | 13 => ("HarpOrders$Club", "opened", "I", false)
  | _ => ("HarpOrders$Club", "sharing", "LHarpOrders$Sharing;", true)
def tyX0 : Nat → FieldType := fun k => match k with
  | 0 => .array .int
  | 1 => .int
  | 2 => .int
  | 3 => .array .int
  | 4 => .array (.array .int)
  | 5 => .array (.array .int)
  | 6 => .array .int
  | 7 => .array .int
  | 8 => .array .int
  | 9 => .array .int
  | 10 => .array .int
  | 11 => .array (.object "HarpOrders$Parcel")
  | 12 => .int
  | 13 => .int
  | _ => .object "HarpOrders$Sharing"
abbrev wsX00 : List Cond := u_ws RX0 TX0 15
theorem nmX0 : ∀ a, a < 15 → ∀ b, b < 15 → a ≠ b → (TX0 a).2.1 ≠ (TX0 b).2.1 := by decide +kernel
theorem tyX0_ok : ∀ k, k < 15 → parseFieldDescriptor (TX0 k).2.2.1 = some (tyX0 k) := by decide +kernel
abbrev cX0_init : ByteArray := prog_2_method_1_code
def yX0_init : MethodName := ⟨RX0, "<init>", "()V"⟩
abbrev cX0_copyFrom : ByteArray := prog_2_method_2_code
def yX0_copyFrom : MethodName := ⟨RX0, "copyFrom", "(LHarpOrders$Club;)V"⟩
abbrev cX0_brokenStrings : ByteArray := prog_2_method_3_code
def yX0_brokenStrings : MethodName := ⟨RX0, "brokenStrings", "()I"⟩
abbrev cX0_underwayOf : ByteArray := prog_2_method_4_code
def yX0_underwayOf : MethodName := ⟨RX0, "underwayOf", "(I)I"⟩
abbrev cX0_addWant : ByteArray := prog_2_method_5_code
def yX0_addWant : MethodName := ⟨RX0, "addWant", "(III)V"⟩
abbrev cX0_dispatch : ByteArray := prog_2_method_6_code
def yX0_dispatch : MethodName := ⟨RX0, "dispatch", "(LHarpOrders$Order;I)V"⟩
abbrev cX0_charge : ByteArray := prog_2_method_7_code
def yX0_charge : MethodName := ⟨RX0, "charge", "(ILHarpOrders$Order;)V"⟩
abbrev cX0_beginDay : ByteArray := prog_2_method_8_code
def yX0_beginDay : MethodName := ⟨RX0, "beginDay", "()I"⟩
abbrev cX0_comesHome : ByteArray := prog_2_method_9_code
def yX0_comesHome : MethodName := ⟨RX0, "comesHome", "(LHarpOrders$Parcel;)Z"⟩
abbrev cX0_openAtCustoms : ByteArray := prog_2_method_10_code
def yX0_openAtCustoms : MethodName := ⟨RX0, "openAtCustoms", "(LHarpOrders$Parcel;)V"⟩
abbrev cX0_payDuty : ByteArray := prog_2_method_11_code
def yX0_payDuty : MethodName := ⟨RX0, "payDuty", "(LHarpOrders$Parcel;)V"⟩
abbrev cX0_fullPriceOf : ByteArray := prog_2_method_12_code
def yX0_fullPriceOf : MethodName := ⟨RX0, "fullPriceOf", "([I)I"⟩
abbrev cX0_unpack : ByteArray := prog_2_method_13_code
def yX0_unpack : MethodName := ⟨RX0, "unpack", "(LHarpOrders$Parcel;)V"⟩
abbrev cX0_draw : ByteArray := prog_2_method_14_code
def yX0_draw : MethodName := ⟨RX0, "draw", "(I)I"⟩
def RX1 : String := "HarpOrders$Order"
def TX1 : u_T := fun k => match k with
  | 0 => ("HarpOrders$Order", "ofGauge", "[I", true)
  | 1 => ("HarpOrders$Order", "prices", "[I", true)
  | 2 => ("HarpOrders$Order", "pieces", "I", false)
  | 3 => ("HarpOrders$Order", "value", "I", false)
  | 4 => ("HarpOrders$Order", "post", "I", false)
  | _ => ("HarpOrders$Order", "sharing", "LHarpOrders$Sharing;", true)
def tyX1 : Nat → FieldType := fun k => match k with
  | 0 => .array .int
  | 1 => .array .int
  | 2 => .int
  | 3 => .int
  | 4 => .int
  | _ => .object "HarpOrders$Sharing"
abbrev wsX10 : List Cond := u_ws RX1 TX1 6
theorem nmX1 : ∀ a, a < 6 → ∀ b, b < 6 → a ≠ b → (TX1 a).2.1 ≠ (TX1 b).2.1 := by decide +kernel
theorem tyX1_ok : ∀ k, k < 6 → parseFieldDescriptor (TX1 k).2.2.1 = some (tyX1 k) := by decide +kernel
abbrev cX1_init : ByteArray := prog_3_method_1_code
def yX1_init : MethodName := ⟨RX1, "<init>", "()V"⟩
abbrev cX1_gather : ByteArray := prog_3_method_2_code
def yX1_gather : MethodName := ⟨RX1, "gather", "(LHarpOrders$Club;I)V"⟩
abbrev cX1_addRow : ByteArray := prog_3_method_3_code
def yX1_addRow : MethodName := ⟨RX1, "addRow", "([I)V"⟩
abbrev cX1_reckon : ByteArray := prog_3_method_4_code
def yX1_reckon : MethodName := ⟨RX1, "reckon", "([I)V"⟩
abbrev cX1_cost : ByteArray := prog_3_method_5_code
def yX1_cost : MethodName := ⟨RX1, "cost", "()I"⟩
abbrev cX1_ownCost : ByteArray := prog_3_method_6_code
def yX1_ownCost : MethodName := ⟨RX1, "ownCost", "([I)I"⟩
abbrev cX1_sharePost : ByteArray := prog_3_method_7_code
def yX1_sharePost : MethodName := ⟨RX1, "sharePost", "(LHarpOrders$Club;I)V"⟩
abbrev cX1_weightOfAll : ByteArray := prog_3_method_8_code
def yX1_weightOfAll : MethodName := ⟨RX1, "weightOfAll", "([I)I"⟩
def RX2 : String := "HarpOrders$Pad"
def TX2 : u_T := fun k => match k with
  | 0 => ("HarpOrders$Pad", "signs", "[C", true)
  | _ => ("HarpOrders$Pad", "length", "I", false)
def tyX2 : Nat → FieldType := fun k => match k with
  | 0 => .array .char
  | _ => .int
abbrev wsX20 : List Cond := u_ws RX2 TX2 2
theorem nmX2 : ∀ a, a < 2 → ∀ b, b < 2 → a ≠ b → (TX2 a).2.1 ≠ (TX2 b).2.1 := by decide +kernel
theorem tyX2_ok : ∀ k, k < 2 → parseFieldDescriptor (TX2 k).2.2.1 = some (tyX2 k) := by decide +kernel
abbrev cX2_init : ByteArray := prog_4_method_1_code
def yX2_init : MethodName := ⟨RX2, "<init>", "()V"⟩
abbrev cX2_charactersIn : ByteArray := prog_4_method_2_code
def yX2_charactersIn : MethodName := ⟨RX2, "charactersIn", "(J)I"⟩
abbrev cX2_characterAt : ByteArray := prog_4_method_3_code
def yX2_characterAt : MethodName := ⟨RX2, "characterAt", "(JI)I"⟩
abbrev cX2_append : ByteArray := prog_4_method_4_code
def yX2_append : MethodName := ⟨RX2, "append", "(JI)V"⟩
abbrev cX2_faultIndex : ByteArray := prog_4_method_5_code
def yX2_faultIndex : MethodName := ⟨RX2, "faultIndex", "()I"⟩
abbrev cX2_placeAfter : ByteArray := prog_4_method_6_code
def yX2_placeAfter : MethodName := ⟨RX2, "placeAfter", "(IC)I"⟩
abbrev cX2_placeAfterFirstDigit : ByteArray := prog_4_method_7_code
def yX2_placeAfterFirstDigit : MethodName := ⟨RX2, "placeAfterFirstDigit", "(C)I"⟩
abbrev cX2_placeAfterWant : ByteArray := prog_4_method_8_code
def yX2_placeAfterWant : MethodName := ⟨RX2, "placeAfterWant", "(C)I"⟩
abbrev cX2_addWants : ByteArray := prog_4_method_9_code
def yX2_addWants : MethodName := ⟨RX2, "addWants", "(LHarpOrders$Club;)V"⟩
def RX3 : String := "HarpOrders$Parcel"
def TX3 : u_T := fun k => match k with
  | 0 => ("HarpOrders$Parcel", "contents", "[[I", true)
  | 1 => ("HarpOrders$Parcel", "value", "I", false)
  | 2 => ("HarpOrders$Parcel", "dueDay", "I", false)
  | _ => ("HarpOrders$Parcel", "isOpened", "Z", false)
def tyX3 : Nat → FieldType := fun k => match k with
  | 0 => .array (.array .int)
  | 1 => .int
  | 2 => .int
  | _ => .boolean
abbrev wsX30 : List Cond := u_ws RX3 TX3 4
theorem nmX3 : ∀ a, a < 4 → ∀ b, b < 4 → a ≠ b → (TX3 a).2.1 ≠ (TX3 b).2.1 := by decide +kernel
theorem tyX3_ok : ∀ k, k < 4 → parseFieldDescriptor (TX3 k).2.2.1 = some (tyX3 k) := by decide +kernel
abbrev cX3_init : ByteArray := prog_5_method_1_code
def yX3_init : MethodName := ⟨RX3, "<init>", "()V"⟩
abbrev cX3_copyFrom : ByteArray := prog_5_method_2_code
def yX3_copyFrom : MethodName := ⟨RX3, "copyFrom", "(LHarpOrders$Parcel;)V"⟩
abbrev cX3_pieces : ByteArray := prog_5_method_3_code
def yX3_pieces : MethodName := ⟨RX3, "pieces", "()I"⟩
abbrev cX3_owners : ByteArray := prog_5_method_4_code
def yX3_owners : MethodName := ⟨RX3, "owners", "()I"⟩
abbrev cX3_loseString : ByteArray := prog_5_method_5_code
def yX3_loseString : MethodName := ⟨RX3, "loseString", "(I)I"⟩
def RX4 : String := "HarpOrders$Sharing"
def TX4 : u_T := fun k => match k with
  | 0 => ("HarpOrders$Sharing", "parts", "[I", true)
  | _ => ("HarpOrders$Sharing", "shares", "[I", true)
def tyX4 : Nat → FieldType := fun k => match k with
  | 0 => .array .int
  | _ => .array .int
abbrev wsX40 : List Cond := u_ws RX4 TX4 2
theorem nmX4 : ∀ a, a < 2 → ∀ b, b < 2 → a ≠ b → (TX4 a).2.1 ≠ (TX4 b).2.1 := by decide +kernel
theorem tyX4_ok : ∀ k, k < 2 → parseFieldDescriptor (TX4 k).2.2.1 = some (tyX4 k) := by decide +kernel
abbrev cX4_init : ByteArray := prog_6_method_1_code
def yX4_init : MethodName := ⟨RX4, "<init>", "()V"⟩
abbrev cX4_divide : ByteArray := prog_6_method_2_code
def yX4_divide : MethodName := ⟨RX4, "divide", "(I)V"⟩
def RX5 : String := "HarpOrders"
def TX5 : u_T := fun k => match k with
  | 0 => ("HarpOrders", "club", "LHarpOrders$Club;", true)
  | 1 => ("HarpOrders", "trial", "LHarpOrders$Club;", true)
  | 2 => ("HarpOrders", "history", "[LHarpOrders$Club;", true)
  | 3 => ("HarpOrders", "kept", "I", false)
  | 4 => ("HarpOrders", "slots", "[LHarpOrders$Club;", true)
  | 5 => ("HarpOrders", "isSaved", "[Z", true)
  | 6 => ("HarpOrders", "pad", "LHarpOrders$Pad;", true)
  | _ => ("HarpOrders", "draft", "LHarpOrders$Order;", true)
def tyX5 : Nat → FieldType := fun k => match k with
  | 0 => .object "HarpOrders$Club"
  | 1 => .object "HarpOrders$Club"
  | 2 => .array (.object "HarpOrders$Club")
  | 3 => .int
  | 4 => .array (.object "HarpOrders$Club")
  | 5 => .array .boolean
  | 6 => .object "HarpOrders$Pad"
  | _ => .object "HarpOrders$Order"
abbrev wsX50 : List Cond := u_ws RX5 TX5 8
theorem nmX5 : ∀ a, a < 8 → ∀ b, b < 8 → a ≠ b → (TX5 a).2.1 ≠ (TX5 b).2.1 := by decide +kernel
theorem tyX5_ok : ∀ k, k < 8 → parseFieldDescriptor (TX5 k).2.2.1 = some (tyX5 k) := by decide +kernel
abbrev cX5_init : ByteArray := prog_1_method_1_code
def yX5_init : MethodName := ⟨RX5, "<init>", "()V"⟩
abbrev cX5_set : ByteArray := prog_1_method_2_code
def yX5_set : MethodName := ⟨RX5, "set", "(II)I"⟩
abbrev cX5_snap : ByteArray := prog_1_method_3_code
def yX5_snap : MethodName := ⟨RX5, "snap", "(II)I"⟩
abbrev cX5_fit : ByteArray := prog_1_method_4_code
def yX5_fit : MethodName := ⟨RX5, "fit", "(III)I"⟩
abbrev cX5_want : ByteArray := prog_1_method_5_code
def yX5_want : MethodName := ⟨RX5, "want", "(III)I"⟩
abbrev cX5_read : ByteArray := prog_1_method_6_code
def yX5_read : MethodName := ⟨RX5, "read", "()I"⟩
abbrev cX5_pay : ByteArray := prog_1_method_7_code
def yX5_pay : MethodName := ⟨RX5, "pay", "(II)I"⟩
abbrev cX5_give : ByteArray := prog_1_method_8_code
def yX5_give : MethodName := ⟨RX5, "give", "(IIII)I"⟩
abbrev cX5_send : ByteArray := prog_1_method_9_code
def yX5_send : MethodName := ⟨RX5, "send", "(I)I"⟩
abbrev cX5_pass : ByteArray := prog_1_method_10_code
def yX5_pass : MethodName := ⟨RX5, "pass", "(I)I"⟩
abbrev cX5_shuffle : ByteArray := prog_1_method_11_code
def yX5_shuffle : MethodName := ⟨RX5, "shuffle", "(I)I"⟩
abbrev cX5_member : ByteArray := prog_1_method_12_code
def yX5_member : MethodName := ⟨RX5, "member", "(II)I"⟩
abbrev cX5_strings : ByteArray := prog_1_method_13_code
def yX5_strings : MethodName := ⟨RX5, "strings", "(IIZ)I"⟩
abbrev cX5_parcel : ByteArray := prog_1_method_14_code
def yX5_parcel : MethodName := ⟨RX5, "parcel", "(II)I"⟩
abbrev cX5_count : ByteArray := prog_1_method_15_code
def yX5_count : MethodName := ⟨RX5, "count", "(I)I"⟩
abbrev cX5_order : ByteArray := prog_1_method_16_code
def yX5_order : MethodName := ⟨RX5, "order", "(II)I"⟩
abbrev cX5_share : ByteArray := prog_1_method_17_code
def yX5_share : MethodName := ⟨RX5, "share", "(II)I"⟩
abbrev cX5_ifMore : ByteArray := prog_1_method_18_code
def yX5_ifMore : MethodName := ⟨RX5, "ifMore", "(III)I"⟩
abbrev cX5_bestParting : ByteArray := prog_1_method_19_code
def yX5_bestParting : MethodName := ⟨RX5, "bestParting", "(I)I"⟩
abbrev cX5_standIn : ByteArray := prog_1_method_20_code
def yX5_standIn : MethodName := ⟨RX5, "standIn", "(II)I"⟩
abbrev cX5_untilHome : ByteArray := prog_1_method_21_code
def yX5_untilHome : MethodName := ⟨RX5, "untilHome", "()I"⟩
abbrev cX5_put : ByteArray := prog_1_method_22_code
def yX5_put : MethodName := ⟨RX5, "put", "(J)I"⟩
abbrev cX5_wipe : ByteArray := prog_1_method_23_code
def yX5_wipe : MethodName := ⟨RX5, "wipe", "()I"⟩
abbrev cX5_fault : ByteArray := prog_1_method_24_code
def yX5_fault : MethodName := ⟨RX5, "fault", "()I"⟩
abbrev cX5_undo : ByteArray := prog_1_method_25_code
def yX5_undo : MethodName := ⟨RX5, "undo", "()I"⟩
abbrev cX5_save : ByteArray := prog_1_method_26_code
def yX5_save : MethodName := ⟨RX5, "save", "(I)I"⟩
abbrev cX5_restore : ByteArray := prog_1_method_27_code
def yX5_restore : MethodName := ⟨RX5, "restore", "(I)I"⟩
abbrev cX5_remember : ByteArray := prog_1_method_28_code
def yX5_remember : MethodName := ⟨RX5, "remember", "()V"⟩
abbrev cX5_costOf : ByteArray := prog_1_method_29_code
def yX5_costOf : MethodName := ⟨RX5, "costOf", "(I)I"⟩
abbrev cX5_pencePartedAt : ByteArray := prog_1_method_30_code
def yX5_pencePartedAt : MethodName := ⟨RX5, "pencePartedAt", "(I)I"⟩
abbrev cX5_costWithDuty : ByteArray := prog_1_method_31_code
def yX5_costWithDuty : MethodName := ⟨RX5, "costWithDuty", "(I)I"⟩
abbrev cX5_isMember : ByteArray := prog_1_method_32_code
def yX5_isMember : MethodName := ⟨RX5, "isMember", "(I)Z"⟩
abbrev cX5_isGauge : ByteArray := prog_1_method_33_code
def yX5_isGauge : MethodName := ⟨RX5, "isGauge", "(I)Z"⟩
abbrev cX5_isSet : ByteArray := prog_1_method_34_code
def yX5_isSet : MethodName := ⟨RX5, "isSet", "(I)Z"⟩
abbrev cX5_isIn : ByteArray := prog_1_method_35_code
def yX5_isIn : MethodName := ⟨RX5, "isIn", "(II)Z"⟩
abbrev cX5_priceOf : ByteArray := prog_1_method_36_code
def yX5_priceOf : MethodName := ⟨RX5, "priceOf", "(I)I"⟩
abbrev cX5_weightOf : ByteArray := prog_1_method_37_code
def yX5_weightOf : MethodName := ⟨RX5, "weightOf", "(I)I"⟩
abbrev cX5_dutyOn : ByteArray := prog_1_method_38_code
def yX5_dutyOn : MethodName := ⟨RX5, "dutyOn", "(I[I)I"⟩
abbrev cX5_sumOf : ByteArray := prog_1_method_39_code
def yX5_sumOf : MethodName := ⟨RX5, "sumOf", "([I)I"⟩
abbrev cX5_copyRow : ByteArray := prog_1_method_40_code
def yX5_copyRow : MethodName := ⟨RX5, "copyRow", "([I[I)V"⟩
abbrev cX5_copyTable : ByteArray := prog_1_method_41_code
def yX5_copyTable : MethodName := ⟨RX5, "copyTable", "([[I[[I)V"⟩
def RX6 : String := "HarpOrdersModel"
def TX6 : u_T := fun k => match k with
  | 0 => ("HarpOrdersModel", "s", "[I", true)
  | 1 => ("HarpOrdersModel", "aside", "[I", true)
  | 2 => ("HarpOrdersModel", "history", "[I", true)
  | 3 => ("HarpOrdersModel", "kept", "I", false)
  | 4 => ("HarpOrdersModel", "slots", "[I", true)
  | 5 => ("HarpOrdersModel", "isSaved", "[Z", true)
  | 6 => ("HarpOrdersModel", "pad", "[I", true)
  | 7 => ("HarpOrdersModel", "length", "I", false)
  | 8 => ("HarpOrdersModel", "parts", "[I", true)
  | 9 => ("HarpOrdersModel", "gets", "[I", true)
  | 10 => ("HarpOrdersModel", "position", "I", false)
  | _ => ("HarpOrdersModel", "isWrong", "Z", false)
def tyX6 : Nat → FieldType := fun k => match k with
  | 0 => .array .int
  | 1 => .array .int
  | 2 => .array .int
  | 3 => .int
  | 4 => .array .int
  | 5 => .array .boolean
  | 6 => .array .int
  | 7 => .int
  | 8 => .array .int
  | 9 => .array .int
  | 10 => .int
  | _ => .boolean
abbrev wsX60 : List Cond := u_ws RX6 TX6 12
theorem nmX6 : ∀ a, a < 12 → ∀ b, b < 12 → a ≠ b → (TX6 a).2.1 ≠ (TX6 b).2.1 := by decide +kernel
theorem tyX6_ok : ∀ k, k < 12 → parseFieldDescriptor (TX6 k).2.2.1 = some (tyX6 k) := by decide +kernel
abbrev cX6_init : ByteArray := prog_8_method_1_code
def yX6_init : MethodName := ⟨RX6, "<init>", "()V"⟩
abbrev cX6_in : ByteArray := prog_8_method_3_code
def yX6_in : MethodName := ⟨RX6, "in", "(III)Z"⟩
abbrev cX6_isMember : ByteArray := prog_8_method_4_code
def yX6_isMember : MethodName := ⟨RX6, "isMember", "(I)Z"⟩
abbrev cX6_isGauge : ByteArray := prog_8_method_5_code
def yX6_isGauge : MethodName := ⟨RX6, "isGauge", "(I)Z"⟩
abbrev cX6_of : ByteArray := prog_8_method_6_code
def yX6_of : MethodName := ⟨RX6, "of", "(II)I"⟩
abbrev cX6_ofParcel : ByteArray := prog_8_method_7_code
def yX6_ofParcel : MethodName := ⟨RX6, "ofParcel", "(II)I"⟩
abbrev cX6_price : ByteArray := prog_8_method_8_code
def yX6_price : MethodName := ⟨RX6, "price", "(I)I"⟩
abbrev cX6_has : ByteArray := prog_8_method_9_code
def yX6_has : MethodName := ⟨RX6, "has", "(II)Z"⟩
abbrev cX6_record : ByteArray := prog_8_method_10_code
def yX6_record : MethodName := ⟨RX6, "record", "()V"⟩
abbrev cX6_putAside : ByteArray := prog_8_method_11_code
def yX6_putAside : MethodName := ⟨RX6, "putAside", "()V"⟩
abbrev cX6_putBack : ByteArray := prog_8_method_12_code
def yX6_putBack : MethodName := ⟨RX6, "putBack", "()V"⟩
abbrev cX6_wanted : ByteArray := prog_8_method_13_code
def yX6_wanted : MethodName := ⟨RX6, "wanted", "(II)I"⟩
abbrev cX6_priceIn : ByteArray := prog_8_method_14_code
def yX6_priceIn : MethodName := ⟨RX6, "priceIn", "(II)I"⟩
abbrev cX6_stringsOf : ByteArray := prog_8_method_15_code
def yX6_stringsOf : MethodName := ⟨RX6, "stringsOf", "(I)I"⟩
abbrev cX6_weightOf : ByteArray := prog_8_method_16_code
def yX6_weightOf : MethodName := ⟨RX6, "weightOf", "(I)I"⟩
abbrev cX6_valueOf : ByteArray := prog_8_method_17_code
def yX6_valueOf : MethodName := ⟨RX6, "valueOf", "(I)I"⟩
abbrev cX6_postOf : ByteArray := prog_8_method_18_code
def yX6_postOf : MethodName := ⟨RX6, "postOf", "(I)I"⟩
abbrev cX6_costOf : ByteArray := prog_8_method_19_code
def yX6_costOf : MethodName := ⟨RX6, "costOf", "(I)I"⟩
abbrev cX6_dutyOn : ByteArray := prog_8_method_20_code
def yX6_dutyOn : MethodName := ⟨RX6, "dutyOn", "(I)I"⟩
abbrev cX6_shares : ByteArray := prog_8_method_21_code
def yX6_shares : MethodName := ⟨RX6, "shares", "(I)V"⟩
abbrev cX6_ownOf : ByteArray := prog_8_method_22_code
def yX6_ownOf : MethodName := ⟨RX6, "ownOf", "(II)I"⟩
abbrev cX6_sharesPost : ByteArray := prog_8_method_23_code
def yX6_sharesPost : MethodName := ⟨RX6, "sharesPost", "(I)V"⟩
abbrev cX6_chest : ByteArray := prog_8_method_24_code
def yX6_chest : MethodName := ⟨RX6, "chest", "()I"⟩
abbrev cX6_draw : ByteArray := prog_8_method_25_code
def yX6_draw : MethodName := ⟨RX6, "draw", "(I)I"⟩
abbrev cX6_ofString : ByteArray := prog_8_method_26_code
def yX6_ofString : MethodName := ⟨RX6, "ofString", "(III)I"⟩
abbrev cX6_stringsIn : ByteArray := prog_8_method_27_code
def yX6_stringsIn : MethodName := ⟨RX6, "stringsIn", "(I)I"⟩
abbrev cX6_comesHome : ByteArray := prog_8_method_28_code
def yX6_comesHome : MethodName := ⟨RX6, "comesHome", "(I)V"⟩
abbrev cX6_paysDuty : ByteArray := prog_8_method_29_code
def yX6_paysDuty : MethodName := ⟨RX6, "paysDuty", "(I)V"⟩
abbrev cX6_loses : ByteArray := prog_8_method_30_code
def yX6_loses : MethodName := ⟨RX6, "loses", "(I)V"⟩
abbrev cX6_comesToCustoms : ByteArray := prog_8_method_31_code
def yX6_comesToCustoms : MethodName := ⟨RX6, "comesToCustoms", "(I)Z"⟩
abbrev cX6_day : ByteArray := prog_8_method_32_code
def yX6_day : MethodName := ⟨RX6, "day", "()I"⟩
abbrev cX6_least : ByteArray := prog_8_method_33_code
def yX6_least : MethodName := ⟨RX6, "least", "(I)I"⟩
abbrev cX6_most : ByteArray := prog_8_method_34_code
def yX6_most : MethodName := ⟨RX6, "most", "(I)I"⟩
abbrev cX6_lays : ByteArray := prog_8_method_35_code
def yX6_lays : MethodName := ⟨RX6, "lays", "(II)I"⟩
abbrev cX6_set : ByteArray := prog_8_method_36_code
def yX6_set : MethodName := ⟨RX6, "set", "(II)I"⟩
abbrev cX6_bits : ByteArray := prog_8_method_37_code
def yX6_bits : MethodName := ⟨RX6, "bits", "(I)I"⟩
abbrev cX6_snap : ByteArray := prog_8_method_38_code
def yX6_snap : MethodName := ⟨RX6, "snap", "(II)I"⟩
abbrev cX6_does : ByteArray := prog_8_method_39_code
def yX6_does : MethodName := ⟨RX6, "does", "(III)Z"⟩
abbrev cX6_fit : ByteArray := prog_8_method_40_code
def yX6_fit : MethodName := ⟨RX6, "fit", "(III)I"⟩
abbrev cX6_want : ByteArray := prog_8_method_41_code
def yX6_want : MethodName := ⟨RX6, "want", "(III)I"⟩
abbrev cX6_pay : ByteArray := prog_8_method_42_code
def yX6_pay : MethodName := ⟨RX6, "pay", "(II)I"⟩
abbrev cX6_give : ByteArray := prog_8_method_43_code
def yX6_give : MethodName := ⟨RX6, "give", "(IIII)I"⟩
abbrev cX6_sends : ByteArray := prog_8_method_44_code
def yX6_sends : MethodName := ⟨RX6, "sends", "(I)V"⟩
abbrev cX6_send : ByteArray := prog_8_method_45_code
def yX6_send : MethodName := ⟨RX6, "send", "(I)I"⟩
abbrev cX6_pass : ByteArray := prog_8_method_46_code
def yX6_pass : MethodName := ⟨RX6, "pass", "(I)I"⟩
abbrev cX6_shuffle : ByteArray := prog_8_method_47_code
def yX6_shuffle : MethodName := ⟨RX6, "shuffle", "(I)I"⟩
abbrev cX6_sum : ByteArray := prog_8_method_48_code
def yX6_sum : MethodName := ⟨RX6, "sum", "(II)I"⟩
abbrev cX6_onTheWay : ByteArray := prog_8_method_49_code
def yX6_onTheWay : MethodName := ⟨RX6, "onTheWay", "(I)I"⟩
abbrev cX6_member : ByteArray := prog_8_method_50_code
def yX6_member : MethodName := ⟨RX6, "member", "(II)I"⟩
abbrev cX6_strings : ByteArray := prog_8_method_51_code
def yX6_strings : MethodName := ⟨RX6, "strings", "(IIZ)I"⟩
abbrev cX6_membersOf : ByteArray := prog_8_method_52_code
def yX6_membersOf : MethodName := ⟨RX6, "membersOf", "(I)I"⟩
abbrev cX6_parcel : ByteArray := prog_8_method_53_code
def yX6_parcel : MethodName := ⟨RX6, "parcel", "(II)I"⟩
abbrev cX6_broken : ByteArray := prog_8_method_54_code
def yX6_broken : MethodName := ⟨RX6, "broken", "()I"⟩
abbrev cX6_count : ByteArray := prog_8_method_55_code
def yX6_count : MethodName := ⟨RX6, "count", "(I)I"⟩
abbrev cX6_order : ByteArray := prog_8_method_56_code
def yX6_order : MethodName := ⟨RX6, "order", "(II)I"⟩
abbrev cX6_share : ByteArray := prog_8_method_57_code
def yX6_share : MethodName := ⟨RX6, "share", "(II)I"⟩
abbrev cX6_ifMore : ByteArray := prog_8_method_58_code
def yX6_ifMore : MethodName := ⟨RX6, "ifMore", "(III)I"⟩
abbrev cX6_parted : ByteArray := prog_8_method_59_code
def yX6_parted : MethodName := ⟨RX6, "parted", "(I)I"⟩
abbrev cX6_bestParting : ByteArray := prog_8_method_60_code
def yX6_bestParting : MethodName := ⟨RX6, "bestParting", "(I)I"⟩
abbrev cX6_standIn : ByteArray := prog_8_method_61_code
def yX6_standIn : MethodName := ⟨RX6, "standIn", "(II)I"⟩
abbrev cX6_untilHome : ByteArray := prog_8_method_62_code
def yX6_untilHome : MethodName := ⟨RX6, "untilHome", "()I"⟩
abbrev cX6_put : ByteArray := prog_8_method_63_code
def yX6_put : MethodName := ⟨RX6, "put", "(J)I"⟩
abbrev cX6_wipe : ByteArray := prog_8_method_64_code
def yX6_wipe : MethodName := ⟨RX6, "wipe", "()I"⟩
abbrev cX6_isNext : ByteArray := prog_8_method_65_code
def yX6_isNext : MethodName := ⟨RX6, "isNext", "(II)Z"⟩
abbrev cX6_takes : ByteArray := prog_8_method_66_code
def yX6_takes : MethodName := ⟨RX6, "takes", "(II)I"⟩
abbrev cX6_takesMany : ByteArray := prog_8_method_67_code
def yX6_takesMany : MethodName := ⟨RX6, "takesMany", "()I"⟩
abbrev cX6_part : ByteArray := prog_8_method_68_code
def yX6_part : MethodName := ⟨RX6, "part", "(Z)V"⟩
abbrev cX6_goes : ByteArray := prog_8_method_69_code
def yX6_goes : MethodName := ⟨RX6, "goes", "(Z)V"⟩
abbrev cX6_fault : ByteArray := prog_8_method_70_code
def yX6_fault : MethodName := ⟨RX6, "fault", "()I"⟩
abbrev cX6_read : ByteArray := prog_8_method_71_code
def yX6_read : MethodName := ⟨RX6, "read", "()I"⟩
abbrev cX6_undo : ByteArray := prog_8_method_72_code
def yX6_undo : MethodName := ⟨RX6, "undo", "()I"⟩
abbrev cX6_save : ByteArray := prog_8_method_73_code
def yX6_save : MethodName := ⟨RX6, "save", "(I)I"⟩
abbrev cX6_restore : ByteArray := prog_8_method_74_code
def yX6_restore : MethodName := ⟨RX6, "restore", "(I)I"⟩
def RJx8e188 : String := "java/lang/Cloneable"
def TJx8e188 : u_T := fun k => match k with
  | _ => ("", "", "", false)
def tyJx8e188 : Nat → FieldType := fun k => match k with
  | _ => .int
abbrev wsJx8e1880 : List Cond := u_ws RJx8e188 TJx8e188 0
theorem nmJx8e188 : ∀ a, a < 0 → ∀ b, b < 0 → a ≠ b → (TJx8e188 a).2.1 ≠ (TJx8e188 b).2.1 := by decide +kernel
theorem tyJx8e188_ok : ∀ k, k < 0 → parseFieldDescriptor (TJx8e188 k).2.2.1 = some (tyJx8e188 k) := by decide +kernel
def RJ6 : String := "java/lang/Integer"
def TJ6 : u_T := fun k => match k with
  | _ => ("", "", "", false)
def tyJ6 : Nat → FieldType := fun k => match k with
  | _ => .int
abbrev wsJ60 : List Cond := u_ws RJ6 TJ6 0
theorem nmJ6 : ∀ a, a < 0 → ∀ b, b < 0 → a ≠ b → (TJ6 a).2.1 ≠ (TJ6 b).2.1 := by decide +kernel
theorem tyJ6_ok : ∀ k, k < 0 → parseFieldDescriptor (TJ6 k).2.2.1 = some (tyJ6 k) := by decide +kernel
abbrev cJ6_bitCount_0f7a4 : ByteArray := prog_10_method_49_code
def yJ6_bitCount_0f7a4 : MethodName := ⟨RJ6, "bitCount", "(I)I"⟩
def RJ9 : String := "java/lang/Math"
def TJ9 : u_T := fun k => match k with
  | _ => ("", "", "", false)
def tyJ9 : Nat → FieldType := fun k => match k with
  | _ => .int
abbrev wsJ90 : List Cond := u_ws RJ9 TJ9 0
theorem nmJ9 : ∀ a, a < 0 → ∀ b, b < 0 → a ≠ b → (TJ9 a).2.1 ≠ (TJ9 b).2.1 := by decide +kernel
theorem tyJ9_ok : ∀ k, k < 0 → parseFieldDescriptor (TJ9 k).2.2.1 = some (tyJ9 k) := by decide +kernel
abbrev cJ9_abs_0f7a4 : ByteArray := prog_11_method_59_code
def yJ9_abs_0f7a4 : MethodName := ⟨RJ9, "abs", "(I)I"⟩
abbrev cJ9_max_7cf53 : ByteArray := prog_11_method_65_code
def yJ9_max_7cf53 : MethodName := ⟨RJ9, "max", "(II)I"⟩
abbrev cJ9_min_7cf53 : ByteArray := prog_11_method_69_code
def yJ9_min_7cf53 : MethodName := ⟨RJ9, "min", "(II)I"⟩
def RJ10 : String := "java/lang/System"
def TJ10 : u_T := fun k => match k with
  | _ => ("", "", "", false)
def tyJ10 : Nat → FieldType := fun k => match k with
  | _ => .int
abbrev wsJ100 : List Cond := u_ws RJ10 TJ10 0
theorem nmJ10 : ∀ a, a < 0 → ∀ b, b < 0 → a ≠ b → (TJ10 a).2.1 ≠ (TJ10 b).2.1 := by decide +kernel
theorem tyJ10_ok : ∀ k, k < 0 → parseFieldDescriptor (TJ10 k).2.2.1 = some (tyJ10 k) := by decide +kernel
def RJ7 : String := "java/util/Arrays"
def TJ7 : u_T := fun k => match k with
  | _ => ("", "", "", false)
def tyJ7 : Nat → FieldType := fun k => match k with
  | _ => .int
abbrev wsJ70 : List Cond := u_ws RJ7 TJ7 0
theorem nmJ7 : ∀ a, a < 0 → ∀ b, b < 0 → a ≠ b → (TJ7 a).2.1 ≠ (TJ7 b).2.1 := by decide +kernel
theorem tyJ7_ok : ∀ k, k < 0 → parseFieldDescriptor (TJ7 k).2.2.1 = some (tyJ7 k) := by decide +kernel
abbrev cJ7_fill_53178 : ByteArray := prog_13_method_103_code
def yJ7_fill_53178 : MethodName := ⟨RJ7, "fill", "([II)V"⟩
def RL : String := "HarpOrdersLaw"
abbrev cL_law : ByteArray := code
def yL_law : MethodName := ⟨RL, "law", "([I)Z"⟩
set_option maxRecDepth 20000 in
theorem inX0 : ∀ w ∈ wsX00, w ∈ lw_tbl := by decide +kernel
set_option maxRecDepth 20000 in
theorem inX1 : ∀ w ∈ wsX10, w ∈ lw_tbl := by decide +kernel
set_option maxRecDepth 20000 in
theorem inX2 : ∀ w ∈ wsX20, w ∈ lw_tbl := by decide +kernel
set_option maxRecDepth 20000 in
theorem inX3 : ∀ w ∈ wsX30, w ∈ lw_tbl := by decide +kernel
set_option maxRecDepth 20000 in
theorem inX4 : ∀ w ∈ wsX40, w ∈ lw_tbl := by decide +kernel
set_option maxRecDepth 20000 in
theorem inX5 : ∀ w ∈ wsX50, w ∈ lw_tbl := by decide +kernel
set_option maxRecDepth 20000 in
theorem inX6 : ∀ w ∈ wsX60, w ∈ lw_tbl := by decide +kernel
abbrev vwCl : List vw_C := [(RX0, TX0, 15), (RX1, TX1, 6), (RX2, TX2, 2), (RX3, TX3, 4), (RX4, TX4, 2), (RX5, TX5, 8), (RX6, TX6, 12)]
end
section
theorem dX0_init_0 : decode cX0_init 0 = .ok (.aload_n 0, 1) := by decide +kernel
theorem dX0_init_1 : decode cX0_init 1 = .ok (.invokespecial 3, 3) := by decide +kernel
theorem dX0_init_4 : decode cX0_init 4 = .ok (.aload_n 0, 1) := by decide +kernel
theorem dX0_init_5 : decode cX0_init 5 = .ok (.getstatic 9, 3) := by decide +kernel
theorem dX0_init_8 : decode cX0_init 8 = .ok (.invokevirtual 13, 3) := by decide +kernel
theorem dX0_init_11 : decode cX0_init 11 = .ok (.checkcast 14, 3) := by decide +kernel
theorem dX0_init_14 : decode cX0_init 14 = .ok (.putfield 18, 3) := by decide +kernel
theorem dX0_init_17 : decode cX0_init 17 = .ok (.aload_n 0, 1) := by decide +kernel
theorem dX0_init_18 : decode cX0_init 18 = .ok (.iconst 1, 1) := by decide +kernel
theorem dX0_init_19 : decode cX0_init 19 = .ok (.putfield 23, 3) := by decide +kernel
theorem dX0_init_22 : decode cX0_init 22 = .ok (.aload_n 0, 1) := by decide +kernel
theorem dX0_init_23 : decode cX0_init 23 = .ok (.bipush 6, 2) := by decide +kernel
theorem dX0_init_25 : decode cX0_init 25 = .ok (.newarray .int, 2) := by decide +kernel
theorem dX0_init_27 : decode cX0_init 27 = .ok (.putfield 27, 3) := by decide +kernel
theorem dX0_init_30 : decode cX0_init 30 = .ok (.aload_n 0, 1) := by decide +kernel
theorem dX0_init_31 : decode cX0_init 31 = .ok (.bipush 6, 2) := by decide +kernel
theorem dX0_init_33 : decode cX0_init 33 = .ok (.bipush 8, 2) := by decide +kernel
theorem dX0_init_35 : decode cX0_init 35 = .ok (.multianewarray 30 2, 4) := by decide +kernel
theorem dX0_init_39 : decode cX0_init 39 = .ok (.putfield 32, 3) := by decide +kernel
theorem dX0_init_42 : decode cX0_init 42 = .ok (.aload_n 0, 1) := by decide +kernel
theorem dX0_init_43 : decode cX0_init 43 = .ok (.bipush 6, 2) := by decide +kernel
theorem dX0_init_45 : decode cX0_init 45 = .ok (.bipush 8, 2) := by decide +kernel
theorem dX0_init_47 : decode cX0_init 47 = .ok (.multianewarray 30 2, 4) := by decide +kernel
theorem dX0_init_51 : decode cX0_init 51 = .ok (.putfield 35, 3) := by decide +kernel
theorem dX0_init_54 : decode cX0_init 54 = .ok (.aload_n 0, 1) := by decide +kernel
theorem dX0_init_55 : decode cX0_init 55 = .ok (.bipush 6, 2) := by decide +kernel
theorem dX0_init_57 : decode cX0_init 57 = .ok (.newarray .int, 2) := by decide +kernel
theorem dX0_init_59 : decode cX0_init 59 = .ok (.putfield 38, 3) := by decide +kernel
theorem dX0_init_62 : decode cX0_init 62 = .ok (.aload_n 0, 1) := by decide +kernel
theorem dX0_init_63 : decode cX0_init 63 = .ok (.bipush 6, 2) := by decide +kernel
theorem dX0_init_65 : decode cX0_init 65 = .ok (.newarray .int, 2) := by decide +kernel
theorem dX0_init_67 : decode cX0_init 67 = .ok (.putfield 41, 3) := by decide +kernel
theorem dX0_init_70 : decode cX0_init 70 = .ok (.aload_n 0, 1) := by decide +kernel
theorem dX0_init_71 : decode cX0_init 71 = .ok (.bipush 6, 2) := by decide +kernel
theorem dX0_init_73 : decode cX0_init 73 = .ok (.newarray .int, 2) := by decide +kernel
theorem dX0_init_75 : decode cX0_init 75 = .ok (.putfield 44, 3) := by decide +kernel
theorem dX0_init_78 : decode cX0_init 78 = .ok (.aload_n 0, 1) := by decide +kernel
theorem dX0_init_79 : decode cX0_init 79 = .ok (.bipush 6, 2) := by decide +kernel
theorem dX0_init_81 : decode cX0_init 81 = .ok (.newarray .int, 2) := by decide +kernel
theorem dX0_init_83 : decode cX0_init 83 = .ok (.putfield 47, 3) := by decide +kernel
theorem dX0_init_86 : decode cX0_init 86 = .ok (.aload_n 0, 1) := by decide +kernel
theorem dX0_init_87 : decode cX0_init 87 = .ok (.bipush 6, 2) := by decide +kernel
theorem dX0_init_89 : decode cX0_init 89 = .ok (.newarray .int, 2) := by decide +kernel
theorem dX0_init_91 : decode cX0_init 91 = .ok (.putfield 50, 3) := by decide +kernel
theorem dX0_init_94 : decode cX0_init 94 = .ok (.aload_n 0, 1) := by decide +kernel
theorem dX0_init_95 : decode cX0_init 95 = .ok (.iconst 5, 1) := by decide +kernel
theorem dX0_init_96 : decode cX0_init 96 = .ok (.anewarray 53, 3) := by decide +kernel
theorem dX0_init_99 : decode cX0_init 99 = .ok (.putfield 55, 3) := by decide +kernel
theorem dX0_init_102 : decode cX0_init 102 = .ok (.aload_n 0, 1) := by decide +kernel
theorem dX0_init_103 : decode cX0_init 103 = .ok (.new 59, 3) := by decide +kernel
theorem dX0_init_106 : decode cX0_init 106 = .ok (.dup, 1) := by decide +kernel
theorem dX0_init_107 : decode cX0_init 107 = .ok (.invokespecial 61, 3) := by decide +kernel
theorem dX0_init_110 : decode cX0_init 110 = .ok (.putfield 62, 3) := by decide +kernel
theorem dX0_init_113 : decode cX0_init 113 = .ok (.iconst 0, 1) := by decide +kernel
theorem dX0_init_114 : decode cX0_init 114 = .ok (.istore_n 1, 1) := by decide +kernel
theorem dX0_init_115 : decode cX0_init 115 = .ok (.iload_n 1, 1) := by decide +kernel
theorem dX0_init_116 : decode cX0_init 116 = .ok (.iconst 5, 1) := by decide +kernel
theorem dX0_init_117 : decode cX0_init 117 = .ok (.if_icmp .ge 22, 3) := by decide +kernel
theorem dX0_init_120 : decode cX0_init 120 = .ok (.aload_n 0, 1) := by decide +kernel
theorem dX0_init_121 : decode cX0_init 121 = .ok (.getfield 55, 3) := by decide +kernel
theorem dX0_init_124 : decode cX0_init 124 = .ok (.iload_n 1, 1) := by decide +kernel
theorem dX0_init_125 : decode cX0_init 125 = .ok (.new 53, 3) := by decide +kernel
theorem dX0_init_128 : decode cX0_init 128 = .ok (.dup, 1) := by decide +kernel
theorem dX0_init_129 : decode cX0_init 129 = .ok (.invokespecial 66, 3) := by decide +kernel
theorem dX0_init_132 : decode cX0_init 132 = .ok (.aastore, 1) := by decide +kernel
theorem dX0_init_133 : decode cX0_init 133 = .ok (.iinc 1 1, 3) := by decide +kernel
theorem dX0_init_136 : decode cX0_init 136 = .ok (.goto (-21), 3) := by decide +kernel
theorem dX0_init_139 : decode cX0_init 139 = .ok (.return_, 1) := by decide +kernel
theorem dX0_copyFrom_0 : decode cX0_copyFrom 0 = .ok (.aload_n 1, 1) := by decide +kernel
theorem dX0_copyFrom_1 : decode cX0_copyFrom 1 = .ok (.getfield 18, 3) := by decide +kernel
theorem dX0_copyFrom_4 : decode cX0_copyFrom 4 = .ok (.aload_n 0, 1) := by decide +kernel
theorem dX0_copyFrom_5 : decode cX0_copyFrom 5 = .ok (.getfield 18, 3) := by decide +kernel
theorem dX0_copyFrom_8 : decode cX0_copyFrom 8 = .ok (.invokestatic 67, 3) := by decide +kernel
theorem dX0_copyFrom_11 : decode cX0_copyFrom 11 = .ok (.aload_n 0, 1) := by decide +kernel
theorem dX0_copyFrom_12 : decode cX0_copyFrom 12 = .ok (.aload_n 1, 1) := by decide +kernel
theorem dX0_copyFrom_13 : decode cX0_copyFrom 13 = .ok (.getfield 71, 3) := by decide +kernel
theorem dX0_copyFrom_16 : decode cX0_copyFrom 16 = .ok (.putfield 71, 3) := by decide +kernel
theorem dX0_copyFrom_19 : decode cX0_copyFrom 19 = .ok (.aload_n 0, 1) := by decide +kernel
theorem dX0_copyFrom_20 : decode cX0_copyFrom 20 = .ok (.aload_n 1, 1) := by decide +kernel
theorem dX0_copyFrom_21 : decode cX0_copyFrom 21 = .ok (.getfield 23, 3) := by decide +kernel
theorem dX0_copyFrom_24 : decode cX0_copyFrom 24 = .ok (.putfield 23, 3) := by decide +kernel
theorem dX0_copyFrom_27 : decode cX0_copyFrom 27 = .ok (.aload_n 1, 1) := by decide +kernel
theorem dX0_copyFrom_28 : decode cX0_copyFrom 28 = .ok (.getfield 27, 3) := by decide +kernel
theorem dX0_copyFrom_31 : decode cX0_copyFrom 31 = .ok (.aload_n 0, 1) := by decide +kernel
theorem dX0_copyFrom_32 : decode cX0_copyFrom 32 = .ok (.getfield 27, 3) := by decide +kernel
theorem dX0_copyFrom_35 : decode cX0_copyFrom 35 = .ok (.invokestatic 67, 3) := by decide +kernel
theorem dX0_copyFrom_38 : decode cX0_copyFrom 38 = .ok (.aload_n 1, 1) := by decide +kernel
theorem dX0_copyFrom_39 : decode cX0_copyFrom 39 = .ok (.getfield 32, 3) := by decide +kernel
theorem dX0_copyFrom_42 : decode cX0_copyFrom 42 = .ok (.aload_n 0, 1) := by decide +kernel
theorem dX0_copyFrom_43 : decode cX0_copyFrom 43 = .ok (.getfield 32, 3) := by decide +kernel
theorem dX0_copyFrom_46 : decode cX0_copyFrom 46 = .ok (.invokestatic 74, 3) := by decide +kernel
theorem dX0_copyFrom_49 : decode cX0_copyFrom 49 = .ok (.aload_n 1, 1) := by decide +kernel
theorem dX0_copyFrom_50 : decode cX0_copyFrom 50 = .ok (.getfield 35, 3) := by decide +kernel
theorem dX0_copyFrom_53 : decode cX0_copyFrom 53 = .ok (.aload_n 0, 1) := by decide +kernel
theorem dX0_copyFrom_54 : decode cX0_copyFrom 54 = .ok (.getfield 35, 3) := by decide +kernel
theorem dX0_copyFrom_57 : decode cX0_copyFrom 57 = .ok (.invokestatic 74, 3) := by decide +kernel
theorem dX0_copyFrom_60 : decode cX0_copyFrom 60 = .ok (.aload_n 1, 1) := by decide +kernel
theorem dX0_copyFrom_61 : decode cX0_copyFrom 61 = .ok (.getfield 38, 3) := by decide +kernel
theorem dX0_copyFrom_64 : decode cX0_copyFrom 64 = .ok (.aload_n 0, 1) := by decide +kernel
theorem dX0_copyFrom_65 : decode cX0_copyFrom 65 = .ok (.getfield 38, 3) := by decide +kernel
theorem dX0_copyFrom_68 : decode cX0_copyFrom 68 = .ok (.invokestatic 67, 3) := by decide +kernel
theorem dX0_copyFrom_71 : decode cX0_copyFrom 71 = .ok (.aload_n 1, 1) := by decide +kernel
theorem dX0_copyFrom_72 : decode cX0_copyFrom 72 = .ok (.getfield 41, 3) := by decide +kernel
theorem dX0_copyFrom_75 : decode cX0_copyFrom 75 = .ok (.aload_n 0, 1) := by decide +kernel
theorem dX0_copyFrom_76 : decode cX0_copyFrom 76 = .ok (.getfield 41, 3) := by decide +kernel
theorem dX0_copyFrom_79 : decode cX0_copyFrom 79 = .ok (.invokestatic 67, 3) := by decide +kernel
theorem dX0_copyFrom_82 : decode cX0_copyFrom 82 = .ok (.aload_n 1, 1) := by decide +kernel
theorem dX0_copyFrom_83 : decode cX0_copyFrom 83 = .ok (.getfield 44, 3) := by decide +kernel
theorem dX0_copyFrom_86 : decode cX0_copyFrom 86 = .ok (.aload_n 0, 1) := by decide +kernel
theorem dX0_copyFrom_87 : decode cX0_copyFrom 87 = .ok (.getfield 44, 3) := by decide +kernel
theorem dX0_copyFrom_90 : decode cX0_copyFrom 90 = .ok (.invokestatic 67, 3) := by decide +kernel
theorem dX0_copyFrom_93 : decode cX0_copyFrom 93 = .ok (.aload_n 1, 1) := by decide +kernel
theorem dX0_copyFrom_94 : decode cX0_copyFrom 94 = .ok (.getfield 47, 3) := by decide +kernel
theorem dX0_copyFrom_97 : decode cX0_copyFrom 97 = .ok (.aload_n 0, 1) := by decide +kernel
theorem dX0_copyFrom_98 : decode cX0_copyFrom 98 = .ok (.getfield 47, 3) := by decide +kernel
theorem dX0_copyFrom_101 : decode cX0_copyFrom 101 = .ok (.invokestatic 67, 3) := by decide +kernel
theorem dX0_copyFrom_104 : decode cX0_copyFrom 104 = .ok (.aload_n 1, 1) := by decide +kernel
theorem dX0_copyFrom_105 : decode cX0_copyFrom 105 = .ok (.getfield 50, 3) := by decide +kernel
theorem dX0_copyFrom_108 : decode cX0_copyFrom 108 = .ok (.aload_n 0, 1) := by decide +kernel
theorem dX0_copyFrom_109 : decode cX0_copyFrom 109 = .ok (.getfield 50, 3) := by decide +kernel
theorem dX0_copyFrom_112 : decode cX0_copyFrom 112 = .ok (.invokestatic 67, 3) := by decide +kernel
theorem dX0_copyFrom_115 : decode cX0_copyFrom 115 = .ok (.aload_n 0, 1) := by decide +kernel
theorem dX0_copyFrom_116 : decode cX0_copyFrom 116 = .ok (.aload_n 1, 1) := by decide +kernel
theorem dX0_copyFrom_117 : decode cX0_copyFrom 117 = .ok (.getfield 78, 3) := by decide +kernel
theorem dX0_copyFrom_120 : decode cX0_copyFrom 120 = .ok (.putfield 78, 3) := by decide +kernel
theorem dX0_copyFrom_123 : decode cX0_copyFrom 123 = .ok (.aload_n 0, 1) := by decide +kernel
theorem dX0_copyFrom_124 : decode cX0_copyFrom 124 = .ok (.aload_n 1, 1) := by decide +kernel
theorem dX0_copyFrom_125 : decode cX0_copyFrom 125 = .ok (.getfield 81, 3) := by decide +kernel
theorem dX0_copyFrom_128 : decode cX0_copyFrom 128 = .ok (.putfield 81, 3) := by decide +kernel
theorem dX0_copyFrom_131 : decode cX0_copyFrom 131 = .ok (.iconst 0, 1) := by decide +kernel
theorem dX0_copyFrom_132 : decode cX0_copyFrom 132 = .ok (.istore_n 2, 1) := by decide +kernel
theorem dX0_copyFrom_133 : decode cX0_copyFrom 133 = .ok (.iload_n 2, 1) := by decide +kernel
theorem dX0_copyFrom_134 : decode cX0_copyFrom 134 = .ok (.aload_n 0, 1) := by decide +kernel
theorem dX0_copyFrom_135 : decode cX0_copyFrom 135 = .ok (.getfield 78, 3) := by decide +kernel
theorem dX0_copyFrom_138 : decode cX0_copyFrom 138 = .ok (.if_icmp .ge 29, 3) := by decide +kernel
theorem dX0_copyFrom_141 : decode cX0_copyFrom 141 = .ok (.iload_n 2, 1) := by decide +kernel
theorem dX0_copyFrom_142 : decode cX0_copyFrom 142 = .ok (.iconst 5, 1) := by decide +kernel
theorem dX0_copyFrom_143 : decode cX0_copyFrom 143 = .ok (.if_icmp .ge 24, 3) := by decide +kernel
theorem dX0_copyFrom_146 : decode cX0_copyFrom 146 = .ok (.aload_n 0, 1) := by decide +kernel
theorem dX0_copyFrom_147 : decode cX0_copyFrom 147 = .ok (.getfield 55, 3) := by decide +kernel
theorem dX0_copyFrom_150 : decode cX0_copyFrom 150 = .ok (.iload_n 2, 1) := by decide +kernel
theorem dX0_copyFrom_151 : decode cX0_copyFrom 151 = .ok (.aaload, 1) := by decide +kernel
theorem dX0_copyFrom_152 : decode cX0_copyFrom 152 = .ok (.aload_n 1, 1) := by decide +kernel
theorem dX0_copyFrom_153 : decode cX0_copyFrom 153 = .ok (.getfield 55, 3) := by decide +kernel
theorem dX0_copyFrom_156 : decode cX0_copyFrom 156 = .ok (.iload_n 2, 1) := by decide +kernel
theorem dX0_copyFrom_157 : decode cX0_copyFrom 157 = .ok (.aaload, 1) := by decide +kernel
theorem dX0_copyFrom_158 : decode cX0_copyFrom 158 = .ok (.invokevirtual 84, 3) := by decide +kernel
theorem dX0_copyFrom_161 : decode cX0_copyFrom 161 = .ok (.iinc 2 1, 3) := by decide +kernel
theorem dX0_copyFrom_164 : decode cX0_copyFrom 164 = .ok (.goto (-31), 3) := by decide +kernel
theorem dX0_copyFrom_167 : decode cX0_copyFrom 167 = .ok (.return_, 1) := by decide +kernel
theorem dX0_brokenStrings_0 : decode cX0_brokenStrings 0 = .ok (.iconst 0, 1) := by decide +kernel
theorem dX0_brokenStrings_1 : decode cX0_brokenStrings 1 = .ok (.istore_n 1, 1) := by decide +kernel
theorem dX0_brokenStrings_2 : decode cX0_brokenStrings 2 = .ok (.aload_n 0, 1) := by decide +kernel
theorem dX0_brokenStrings_3 : decode cX0_brokenStrings 3 = .ok (.getfield 27, 3) := by decide +kernel
theorem dX0_brokenStrings_6 : decode cX0_brokenStrings 6 = .ok (.astore_n 2, 1) := by decide +kernel
theorem dX0_brokenStrings_7 : decode cX0_brokenStrings 7 = .ok (.aload_n 2, 1) := by decide +kernel
theorem dX0_brokenStrings_8 : decode cX0_brokenStrings 8 = .ok (.arraylength, 1) := by decide +kernel
theorem dX0_brokenStrings_9 : decode cX0_brokenStrings 9 = .ok (.istore_n 3, 1) := by decide +kernel
theorem dX0_brokenStrings_10 : decode cX0_brokenStrings 10 = .ok (.iconst 0, 1) := by decide +kernel
theorem dX0_brokenStrings_11 : decode cX0_brokenStrings 11 = .ok (.istore 4, 2) := by decide +kernel
theorem dX0_brokenStrings_13 : decode cX0_brokenStrings 13 = .ok (.iload 4, 2) := by decide +kernel
theorem dX0_brokenStrings_15 : decode cX0_brokenStrings 15 = .ok (.iload_n 3, 1) := by decide +kernel
theorem dX0_brokenStrings_16 : decode cX0_brokenStrings 16 = .ok (.if_icmp .ge 23, 3) := by decide +kernel
theorem dX0_brokenStrings_19 : decode cX0_brokenStrings 19 = .ok (.aload_n 2, 1) := by decide +kernel
theorem dX0_brokenStrings_20 : decode cX0_brokenStrings 20 = .ok (.iload 4, 2) := by decide +kernel
theorem dX0_brokenStrings_22 : decode cX0_brokenStrings 22 = .ok (.iaload, 1) := by decide +kernel
theorem dX0_brokenStrings_23 : decode cX0_brokenStrings 23 = .ok (.istore 5, 2) := by decide +kernel
theorem dX0_brokenStrings_25 : decode cX0_brokenStrings 25 = .ok (.iload_n 1, 1) := by decide +kernel
theorem dX0_brokenStrings_26 : decode cX0_brokenStrings 26 = .ok (.iload 5, 2) := by decide +kernel
theorem dX0_brokenStrings_28 : decode cX0_brokenStrings 28 = .ok (.invokestatic 88, 3) := by decide +kernel
theorem dX0_brokenStrings_31 : decode cX0_brokenStrings 31 = .ok (.iadd, 1) := by decide +kernel
theorem dX0_brokenStrings_32 : decode cX0_brokenStrings 32 = .ok (.istore_n 1, 1) := by decide +kernel
theorem dX0_brokenStrings_33 : decode cX0_brokenStrings 33 = .ok (.iinc 4 1, 3) := by decide +kernel
theorem dX0_brokenStrings_36 : decode cX0_brokenStrings 36 = .ok (.goto (-23), 3) := by decide +kernel
theorem dX0_brokenStrings_39 : decode cX0_brokenStrings 39 = .ok (.iload_n 1, 1) := by decide +kernel
theorem dX0_brokenStrings_40 : decode cX0_brokenStrings 40 = .ok (.ireturn, 1) := by decide +kernel
theorem dX0_underwayOf_0 : decode cX0_underwayOf 0 = .ok (.iconst 0, 1) := by decide +kernel
theorem dX0_underwayOf_1 : decode cX0_underwayOf 1 = .ok (.istore_n 2, 1) := by decide +kernel
theorem dX0_underwayOf_2 : decode cX0_underwayOf 2 = .ok (.iconst 0, 1) := by decide +kernel
theorem dX0_underwayOf_3 : decode cX0_underwayOf 3 = .ok (.istore_n 3, 1) := by decide +kernel
theorem dX0_underwayOf_4 : decode cX0_underwayOf 4 = .ok (.iload_n 3, 1) := by decide +kernel
theorem dX0_underwayOf_5 : decode cX0_underwayOf 5 = .ok (.aload_n 0, 1) := by decide +kernel
theorem dX0_underwayOf_6 : decode cX0_underwayOf 6 = .ok (.getfield 78, 3) := by decide +kernel
theorem dX0_underwayOf_9 : decode cX0_underwayOf 9 = .ok (.if_icmp .ge 31, 3) := by decide +kernel
theorem dX0_underwayOf_12 : decode cX0_underwayOf 12 = .ok (.iload_n 3, 1) := by decide +kernel
theorem dX0_underwayOf_13 : decode cX0_underwayOf 13 = .ok (.iconst 5, 1) := by decide +kernel
theorem dX0_underwayOf_14 : decode cX0_underwayOf 14 = .ok (.if_icmp .ge 26, 3) := by decide +kernel
theorem dX0_underwayOf_17 : decode cX0_underwayOf 17 = .ok (.iload_n 2, 1) := by decide +kernel
theorem dX0_underwayOf_18 : decode cX0_underwayOf 18 = .ok (.aload_n 0, 1) := by decide +kernel
theorem dX0_underwayOf_19 : decode cX0_underwayOf 19 = .ok (.getfield 55, 3) := by decide +kernel
theorem dX0_underwayOf_22 : decode cX0_underwayOf 22 = .ok (.iload_n 3, 1) := by decide +kernel
theorem dX0_underwayOf_23 : decode cX0_underwayOf 23 = .ok (.aaload, 1) := by decide +kernel
theorem dX0_underwayOf_24 : decode cX0_underwayOf 24 = .ok (.getfield 94, 3) := by decide +kernel
theorem dX0_underwayOf_27 : decode cX0_underwayOf 27 = .ok (.iload_n 1, 1) := by decide +kernel
theorem dX0_underwayOf_28 : decode cX0_underwayOf 28 = .ok (.aaload, 1) := by decide +kernel
theorem dX0_underwayOf_29 : decode cX0_underwayOf 29 = .ok (.invokestatic 97, 3) := by decide +kernel
theorem dX0_underwayOf_32 : decode cX0_underwayOf 32 = .ok (.iadd, 1) := by decide +kernel
theorem dX0_underwayOf_33 : decode cX0_underwayOf 33 = .ok (.istore_n 2, 1) := by decide +kernel
theorem dX0_underwayOf_34 : decode cX0_underwayOf 34 = .ok (.iinc 3 1, 3) := by decide +kernel
theorem dX0_underwayOf_37 : decode cX0_underwayOf 37 = .ok (.goto (-33), 3) := by decide +kernel
theorem dX0_underwayOf_40 : decode cX0_underwayOf 40 = .ok (.iload_n 2, 1) := by decide +kernel
theorem dX0_underwayOf_41 : decode cX0_underwayOf 41 = .ok (.ireturn, 1) := by decide +kernel
theorem dX0_addWant_0 : decode cX0_addWant 0 = .ok (.iload_n 1, 1) := by decide +kernel
theorem dX0_addWant_1 : decode cX0_addWant 1 = .ok (.invokestatic 101, 3) := by decide +kernel
theorem dX0_addWant_4 : decode cX0_addWant 4 = .ok (.ifCond .eq 33, 3) := by decide +kernel
theorem dX0_addWant_7 : decode cX0_addWant 7 = .ok (.iload_n 2, 1) := by decide +kernel
theorem dX0_addWant_8 : decode cX0_addWant 8 = .ok (.invokestatic 105, 3) := by decide +kernel
theorem dX0_addWant_11 : decode cX0_addWant 11 = .ok (.ifCond .eq 26, 3) := by decide +kernel
theorem dX0_addWant_14 : decode cX0_addWant 14 = .ok (.aload_n 0, 1) := by decide +kernel
theorem dX0_addWant_15 : decode cX0_addWant 15 = .ok (.getfield 35, 3) := by decide +kernel
theorem dX0_addWant_18 : decode cX0_addWant 18 = .ok (.iload_n 1, 1) := by decide +kernel
theorem dX0_addWant_19 : decode cX0_addWant 19 = .ok (.aaload, 1) := by decide +kernel
theorem dX0_addWant_20 : decode cX0_addWant 20 = .ok (.iload_n 2, 1) := by decide +kernel
theorem dX0_addWant_21 : decode cX0_addWant 21 = .ok (.aload_n 0, 1) := by decide +kernel
theorem dX0_addWant_22 : decode cX0_addWant 22 = .ok (.getfield 35, 3) := by decide +kernel
theorem dX0_addWant_25 : decode cX0_addWant 25 = .ok (.iload_n 1, 1) := by decide +kernel
theorem dX0_addWant_26 : decode cX0_addWant 26 = .ok (.aaload, 1) := by decide +kernel
theorem dX0_addWant_27 : decode cX0_addWant 27 = .ok (.iload_n 2, 1) := by decide +kernel
theorem dX0_addWant_28 : decode cX0_addWant 28 = .ok (.iaload, 1) := by decide +kernel
theorem dX0_addWant_29 : decode cX0_addWant 29 = .ok (.iload_n 3, 1) := by decide +kernel
theorem dX0_addWant_30 : decode cX0_addWant 30 = .ok (.iadd, 1) := by decide +kernel
theorem dX0_addWant_31 : decode cX0_addWant 31 = .ok (.bipush 20, 2) := by decide +kernel
theorem dX0_addWant_33 : decode cX0_addWant 33 = .ok (.invokestatic 108, 3) := by decide +kernel
theorem dX0_addWant_36 : decode cX0_addWant 36 = .ok (.iastore, 1) := by decide +kernel
theorem dX0_addWant_37 : decode cX0_addWant 37 = .ok (.return_, 1) := by decide +kernel
theorem dX0_dispatch_0 : decode cX0_dispatch 0 = .ok (.aload_n 0, 1) := by decide +kernel
theorem dX0_dispatch_1 : decode cX0_dispatch 1 = .ok (.getfield 78, 3) := by decide +kernel
theorem dX0_dispatch_4 : decode cX0_dispatch 4 = .ok (.ifCond .lt 11, 3) := by decide +kernel
theorem dX0_dispatch_7 : decode cX0_dispatch 7 = .ok (.aload_n 0, 1) := by decide +kernel
theorem dX0_dispatch_8 : decode cX0_dispatch 8 = .ok (.getfield 78, 3) := by decide +kernel
theorem dX0_dispatch_11 : decode cX0_dispatch 11 = .ok (.iconst 5, 1) := by decide +kernel
theorem dX0_dispatch_12 : decode cX0_dispatch 12 = .ok (.if_icmp .lt 4, 3) := by decide +kernel
theorem dX0_dispatch_15 : decode cX0_dispatch 15 = .ok (.return_, 1) := by decide +kernel
theorem dX0_dispatch_16 : decode cX0_dispatch 16 = .ok (.aload_n 1, 1) := by decide +kernel
theorem dX0_dispatch_17 : decode cX0_dispatch 17 = .ok (.aload_n 0, 1) := by decide +kernel
theorem dX0_dispatch_18 : decode cX0_dispatch 18 = .ok (.iload_n 2, 1) := by decide +kernel
theorem dX0_dispatch_19 : decode cX0_dispatch 19 = .ok (.invokevirtual 114, 3) := by decide +kernel
theorem dX0_dispatch_22 : decode cX0_dispatch 22 = .ok (.aload_n 0, 1) := by decide +kernel
theorem dX0_dispatch_23 : decode cX0_dispatch 23 = .ok (.getfield 55, 3) := by decide +kernel
theorem dX0_dispatch_26 : decode cX0_dispatch 26 = .ok (.aload_n 0, 1) := by decide +kernel
theorem dX0_dispatch_27 : decode cX0_dispatch 27 = .ok (.getfield 78, 3) := by decide +kernel
theorem dX0_dispatch_30 : decode cX0_dispatch 30 = .ok (.aaload, 1) := by decide +kernel
theorem dX0_dispatch_31 : decode cX0_dispatch 31 = .ok (.astore_n 3, 1) := by decide +kernel
theorem dX0_dispatch_32 : decode cX0_dispatch 32 = .ok (.aload_n 0, 1) := by decide +kernel
theorem dX0_dispatch_33 : decode cX0_dispatch 33 = .ok (.dup, 1) := by decide +kernel
theorem dX0_dispatch_34 : decode cX0_dispatch 34 = .ok (.getfield 78, 3) := by decide +kernel
theorem dX0_dispatch_37 : decode cX0_dispatch 37 = .ok (.iconst 1, 1) := by decide +kernel
theorem dX0_dispatch_38 : decode cX0_dispatch 38 = .ok (.iadd, 1) := by decide +kernel
theorem dX0_dispatch_39 : decode cX0_dispatch 39 = .ok (.putfield 78, 3) := by decide +kernel
theorem dX0_dispatch_42 : decode cX0_dispatch 42 = .ok (.aload_n 3, 1) := by decide +kernel
theorem dX0_dispatch_43 : decode cX0_dispatch 43 = .ok (.aload_n 1, 1) := by decide +kernel
theorem dX0_dispatch_44 : decode cX0_dispatch 44 = .ok (.getfield 120, 3) := by decide +kernel
theorem dX0_dispatch_47 : decode cX0_dispatch 47 = .ok (.putfield 123, 3) := by decide +kernel
theorem dX0_dispatch_50 : decode cX0_dispatch 50 = .ok (.aload_n 3, 1) := by decide +kernel
theorem dX0_dispatch_51 : decode cX0_dispatch 51 = .ok (.aload_n 0, 1) := by decide +kernel
theorem dX0_dispatch_52 : decode cX0_dispatch 52 = .ok (.getfield 71, 3) := by decide +kernel
theorem dX0_dispatch_55 : decode cX0_dispatch 55 = .ok (.aload_n 0, 1) := by decide +kernel
theorem dX0_dispatch_56 : decode cX0_dispatch 56 = .ok (.getfield 18, 3) := by decide +kernel
theorem dX0_dispatch_59 : decode cX0_dispatch 59 = .ok (.iconst 3, 1) := by decide +kernel
theorem dX0_dispatch_60 : decode cX0_dispatch 60 = .ok (.iaload, 1) := by decide +kernel
theorem dX0_dispatch_61 : decode cX0_dispatch 61 = .ok (.iadd, 1) := by decide +kernel
theorem dX0_dispatch_62 : decode cX0_dispatch 62 = .ok (.putfield 124, 3) := by decide +kernel
theorem dX0_dispatch_65 : decode cX0_dispatch 65 = .ok (.aload_n 3, 1) := by decide +kernel
theorem dX0_dispatch_66 : decode cX0_dispatch 66 = .ok (.iconst 0, 1) := by decide +kernel
theorem dX0_dispatch_67 : decode cX0_dispatch 67 = .ok (.putfield 127, 3) := by decide +kernel
theorem dX0_dispatch_70 : decode cX0_dispatch 70 = .ok (.iconst 0, 1) := by decide +kernel
theorem dX0_dispatch_71 : decode cX0_dispatch 71 = .ok (.istore 4, 2) := by decide +kernel
theorem dX0_dispatch_73 : decode cX0_dispatch 73 = .ok (.iload 4, 2) := by decide +kernel
theorem dX0_dispatch_75 : decode cX0_dispatch 75 = .ok (.bipush 6, 2) := by decide +kernel
theorem dX0_dispatch_77 : decode cX0_dispatch 77 = .ok (.if_icmp .ge 64, 3) := by decide +kernel
theorem dX0_dispatch_80 : decode cX0_dispatch 80 = .ok (.aload_n 3, 1) := by decide +kernel
theorem dX0_dispatch_81 : decode cX0_dispatch 81 = .ok (.getfield 94, 3) := by decide +kernel
theorem dX0_dispatch_84 : decode cX0_dispatch 84 = .ok (.iload 4, 2) := by decide +kernel
theorem dX0_dispatch_86 : decode cX0_dispatch 86 = .ok (.aaload, 1) := by decide +kernel
theorem dX0_dispatch_87 : decode cX0_dispatch 87 = .ok (.iconst 0, 1) := by decide +kernel
theorem dX0_dispatch_88 : decode cX0_dispatch 88 = .ok (.invokestatic 131, 3) := by decide +kernel
theorem dX0_dispatch_91 : decode cX0_dispatch 91 = .ok (.iload_n 2, 1) := by decide +kernel
theorem dX0_dispatch_92 : decode cX0_dispatch 92 = .ok (.iload 4, 2) := by decide +kernel
theorem dX0_dispatch_94 : decode cX0_dispatch 94 = .ok (.invokestatic 137, 3) := by decide +kernel
theorem dX0_dispatch_97 : decode cX0_dispatch 97 = .ok (.ifCond .eq 38, 3) := by decide +kernel
theorem dX0_dispatch_100 : decode cX0_dispatch 100 = .ok (.aload_n 0, 1) := by decide +kernel
theorem dX0_dispatch_101 : decode cX0_dispatch 101 = .ok (.iload 4, 2) := by decide +kernel
theorem dX0_dispatch_103 : decode cX0_dispatch 103 = .ok (.aload_n 1, 1) := by decide +kernel
theorem dX0_dispatch_104 : decode cX0_dispatch 104 = .ok (.invokevirtual 141, 3) := by decide +kernel
theorem dX0_dispatch_107 : decode cX0_dispatch 107 = .ok (.aload_n 0, 1) := by decide +kernel
theorem dX0_dispatch_108 : decode cX0_dispatch 108 = .ok (.getfield 35, 3) := by decide +kernel
theorem dX0_dispatch_111 : decode cX0_dispatch 111 = .ok (.iload 4, 2) := by decide +kernel
theorem dX0_dispatch_113 : decode cX0_dispatch 113 = .ok (.aaload, 1) := by decide +kernel
theorem dX0_dispatch_114 : decode cX0_dispatch 114 = .ok (.aload_n 3, 1) := by decide +kernel
theorem dX0_dispatch_115 : decode cX0_dispatch 115 = .ok (.getfield 94, 3) := by decide +kernel
theorem dX0_dispatch_118 : decode cX0_dispatch 118 = .ok (.iload 4, 2) := by decide +kernel
theorem dX0_dispatch_120 : decode cX0_dispatch 120 = .ok (.aaload, 1) := by decide +kernel
theorem dX0_dispatch_121 : decode cX0_dispatch 121 = .ok (.invokestatic 67, 3) := by decide +kernel
theorem dX0_dispatch_124 : decode cX0_dispatch 124 = .ok (.aload_n 0, 1) := by decide +kernel
theorem dX0_dispatch_125 : decode cX0_dispatch 125 = .ok (.getfield 35, 3) := by decide +kernel
theorem dX0_dispatch_128 : decode cX0_dispatch 128 = .ok (.iload 4, 2) := by decide +kernel
theorem dX0_dispatch_130 : decode cX0_dispatch 130 = .ok (.aaload, 1) := by decide +kernel
theorem dX0_dispatch_131 : decode cX0_dispatch 131 = .ok (.iconst 0, 1) := by decide +kernel
theorem dX0_dispatch_132 : decode cX0_dispatch 132 = .ok (.invokestatic 131, 3) := by decide +kernel
theorem dX0_dispatch_135 : decode cX0_dispatch 135 = .ok (.iinc 4 1, 3) := by decide +kernel
theorem dX0_dispatch_138 : decode cX0_dispatch 138 = .ok (.goto (-65), 3) := by decide +kernel
theorem dX0_dispatch_141 : decode cX0_dispatch 141 = .ok (.return_, 1) := by decide +kernel
theorem dX0_charge_0 : decode cX0_charge 0 = .ok (.aload_n 2, 1) := by decide +kernel
theorem dX0_charge_1 : decode cX0_charge 1 = .ok (.aload_n 0, 1) := by decide +kernel
theorem dX0_charge_2 : decode cX0_charge 2 = .ok (.getfield 35, 3) := by decide +kernel
theorem dX0_charge_5 : decode cX0_charge 5 = .ok (.iload_n 1, 1) := by decide +kernel
theorem dX0_charge_6 : decode cX0_charge 6 = .ok (.aaload, 1) := by decide +kernel
theorem dX0_charge_7 : decode cX0_charge 7 = .ok (.invokevirtual 145, 3) := by decide +kernel
theorem dX0_charge_10 : decode cX0_charge 10 = .ok (.istore_n 3, 1) := by decide +kernel
theorem dX0_charge_11 : decode cX0_charge 11 = .ok (.aload_n 2, 1) := by decide +kernel
theorem dX0_charge_12 : decode cX0_charge 12 = .ok (.getfield 148, 3) := by decide +kernel
theorem dX0_charge_15 : decode cX0_charge 15 = .ok (.getfield 149, 3) := by decide +kernel
theorem dX0_charge_18 : decode cX0_charge 18 = .ok (.iload_n 1, 1) := by decide +kernel
theorem dX0_charge_19 : decode cX0_charge 19 = .ok (.iaload, 1) := by decide +kernel
theorem dX0_charge_20 : decode cX0_charge 20 = .ok (.istore 4, 2) := by decide +kernel
theorem dX0_charge_22 : decode cX0_charge 22 = .ok (.aload_n 0, 1) := by decide +kernel
theorem dX0_charge_23 : decode cX0_charge 23 = .ok (.getfield 38, 3) := by decide +kernel
theorem dX0_charge_26 : decode cX0_charge 26 = .ok (.iload_n 1, 1) := by decide +kernel
theorem dX0_charge_27 : decode cX0_charge 27 = .ok (.dup2, 1) := by decide +kernel
theorem dX0_charge_28 : decode cX0_charge 28 = .ok (.iaload, 1) := by decide +kernel
theorem dX0_charge_29 : decode cX0_charge 29 = .ok (.iload_n 3, 1) := by decide +kernel
theorem dX0_charge_30 : decode cX0_charge 30 = .ok (.iload 4, 2) := by decide +kernel
theorem dX0_charge_32 : decode cX0_charge 32 = .ok (.iadd, 1) := by decide +kernel
theorem dX0_charge_33 : decode cX0_charge 33 = .ok (.isub, 1) := by decide +kernel
theorem dX0_charge_34 : decode cX0_charge 34 = .ok (.iastore, 1) := by decide +kernel
theorem dX0_charge_35 : decode cX0_charge 35 = .ok (.aload_n 0, 1) := by decide +kernel
theorem dX0_charge_36 : decode cX0_charge 36 = .ok (.getfield 41, 3) := by decide +kernel
theorem dX0_charge_39 : decode cX0_charge 39 = .ok (.iload_n 1, 1) := by decide +kernel
theorem dX0_charge_40 : decode cX0_charge 40 = .ok (.dup2, 1) := by decide +kernel
theorem dX0_charge_41 : decode cX0_charge 41 = .ok (.iaload, 1) := by decide +kernel
theorem dX0_charge_42 : decode cX0_charge 42 = .ok (.iload_n 3, 1) := by decide +kernel
theorem dX0_charge_43 : decode cX0_charge 43 = .ok (.iadd, 1) := by decide +kernel
theorem dX0_charge_44 : decode cX0_charge 44 = .ok (.iastore, 1) := by decide +kernel
theorem dX0_charge_45 : decode cX0_charge 45 = .ok (.aload_n 0, 1) := by decide +kernel
theorem dX0_charge_46 : decode cX0_charge 46 = .ok (.getfield 44, 3) := by decide +kernel
theorem dX0_charge_49 : decode cX0_charge 49 = .ok (.iload_n 1, 1) := by decide +kernel
theorem dX0_charge_50 : decode cX0_charge 50 = .ok (.dup2, 1) := by decide +kernel
theorem dX0_charge_51 : decode cX0_charge 51 = .ok (.iaload, 1) := by decide +kernel
theorem dX0_charge_52 : decode cX0_charge 52 = .ok (.iload 4, 2) := by decide +kernel
theorem dX0_charge_54 : decode cX0_charge 54 = .ok (.iadd, 1) := by decide +kernel
theorem dX0_charge_55 : decode cX0_charge 55 = .ok (.iastore, 1) := by decide +kernel
theorem dX0_charge_56 : decode cX0_charge 56 = .ok (.return_, 1) := by decide +kernel
theorem dX0_beginDay_0 : decode cX0_beginDay 0 = .ok (.aload_n 0, 1) := by decide +kernel
theorem dX0_beginDay_1 : decode cX0_beginDay 1 = .ok (.dup, 1) := by decide +kernel
theorem dX0_beginDay_2 : decode cX0_beginDay 2 = .ok (.getfield 71, 3) := by decide +kernel
theorem dX0_beginDay_5 : decode cX0_beginDay 5 = .ok (.iconst 1, 1) := by decide +kernel
theorem dX0_beginDay_6 : decode cX0_beginDay 6 = .ok (.iadd, 1) := by decide +kernel
theorem dX0_beginDay_7 : decode cX0_beginDay 7 = .ok (.putfield 71, 3) := by decide +kernel
theorem dX0_beginDay_10 : decode cX0_beginDay 10 = .ok (.aload_n 0, 1) := by decide +kernel
theorem dX0_beginDay_11 : decode cX0_beginDay 11 = .ok (.getfield 78, 3) := by decide +kernel
theorem dX0_beginDay_14 : decode cX0_beginDay 14 = .ok (.istore_n 1, 1) := by decide +kernel
theorem dX0_beginDay_15 : decode cX0_beginDay 15 = .ok (.iconst 0, 1) := by decide +kernel
theorem dX0_beginDay_16 : decode cX0_beginDay 16 = .ok (.istore_n 2, 1) := by decide +kernel
theorem dX0_beginDay_17 : decode cX0_beginDay 17 = .ok (.iconst 0, 1) := by decide +kernel
theorem dX0_beginDay_18 : decode cX0_beginDay 18 = .ok (.istore_n 3, 1) := by decide +kernel
theorem dX0_beginDay_19 : decode cX0_beginDay 19 = .ok (.iload_n 3, 1) := by decide +kernel
theorem dX0_beginDay_20 : decode cX0_beginDay 20 = .ok (.iload_n 1, 1) := by decide +kernel
theorem dX0_beginDay_21 : decode cX0_beginDay 21 = .ok (.if_icmp .ge 75, 3) := by decide +kernel
theorem dX0_beginDay_24 : decode cX0_beginDay 24 = .ok (.iload_n 3, 1) := by decide +kernel
theorem dX0_beginDay_25 : decode cX0_beginDay 25 = .ok (.iconst 5, 1) := by decide +kernel
theorem dX0_beginDay_26 : decode cX0_beginDay 26 = .ok (.if_icmp .ge 70, 3) := by decide +kernel
theorem dX0_beginDay_29 : decode cX0_beginDay 29 = .ok (.aload_n 0, 1) := by decide +kernel
theorem dX0_beginDay_30 : decode cX0_beginDay 30 = .ok (.getfield 55, 3) := by decide +kernel
theorem dX0_beginDay_33 : decode cX0_beginDay 33 = .ok (.iload_n 3, 1) := by decide +kernel
theorem dX0_beginDay_34 : decode cX0_beginDay 34 = .ok (.aaload, 1) := by decide +kernel
theorem dX0_beginDay_35 : decode cX0_beginDay 35 = .ok (.astore 4, 2) := by decide +kernel
theorem dX0_beginDay_37 : decode cX0_beginDay 37 = .ok (.aload 4, 2) := by decide +kernel
theorem dX0_beginDay_39 : decode cX0_beginDay 39 = .ok (.getfield 124, 3) := by decide +kernel
theorem dX0_beginDay_42 : decode cX0_beginDay 42 = .ok (.aload_n 0, 1) := by decide +kernel
theorem dX0_beginDay_43 : decode cX0_beginDay 43 = .ok (.getfield 71, 3) := by decide +kernel
theorem dX0_beginDay_46 : decode cX0_beginDay 46 = .ok (.if_icmp .ne 21, 3) := by decide +kernel
theorem dX0_beginDay_49 : decode cX0_beginDay 49 = .ok (.aload_n 0, 1) := by decide +kernel
theorem dX0_beginDay_50 : decode cX0_beginDay 50 = .ok (.aload 4, 2) := by decide +kernel
theorem dX0_beginDay_52 : decode cX0_beginDay 52 = .ok (.invokevirtual 152, 3) := by decide +kernel
theorem dX0_beginDay_55 : decode cX0_beginDay 55 = .ok (.ifCond .eq 12, 3) := by decide +kernel
theorem dX0_beginDay_58 : decode cX0_beginDay 58 = .ok (.aload_n 0, 1) := by decide +kernel
theorem dX0_beginDay_59 : decode cX0_beginDay 59 = .ok (.aload 4, 2) := by decide +kernel
theorem dX0_beginDay_61 : decode cX0_beginDay 61 = .ok (.invokevirtual 156, 3) := by decide +kernel
theorem dX0_beginDay_64 : decode cX0_beginDay 64 = .ok (.goto 26, 3) := by decide +kernel
theorem dX0_beginDay_67 : decode cX0_beginDay 67 = .ok (.aload_n 0, 1) := by decide +kernel
theorem dX0_beginDay_68 : decode cX0_beginDay 68 = .ok (.getfield 55, 3) := by decide +kernel
theorem dX0_beginDay_71 : decode cX0_beginDay 71 = .ok (.iload_n 3, 1) := by decide +kernel
theorem dX0_beginDay_72 : decode cX0_beginDay 72 = .ok (.aload_n 0, 1) := by decide +kernel
theorem dX0_beginDay_73 : decode cX0_beginDay 73 = .ok (.getfield 55, 3) := by decide +kernel
theorem dX0_beginDay_76 : decode cX0_beginDay 76 = .ok (.iload_n 2, 1) := by decide +kernel
theorem dX0_beginDay_77 : decode cX0_beginDay 77 = .ok (.aaload, 1) := by decide +kernel
theorem dX0_beginDay_78 : decode cX0_beginDay 78 = .ok (.aastore, 1) := by decide +kernel
theorem dX0_beginDay_79 : decode cX0_beginDay 79 = .ok (.aload_n 0, 1) := by decide +kernel
theorem dX0_beginDay_80 : decode cX0_beginDay 80 = .ok (.getfield 55, 3) := by decide +kernel
theorem dX0_beginDay_83 : decode cX0_beginDay 83 = .ok (.iload_n 2, 1) := by decide +kernel
theorem dX0_beginDay_84 : decode cX0_beginDay 84 = .ok (.aload 4, 2) := by decide +kernel
theorem dX0_beginDay_86 : decode cX0_beginDay 86 = .ok (.aastore, 1) := by decide +kernel
theorem dX0_beginDay_87 : decode cX0_beginDay 87 = .ok (.iinc 2 1, 3) := by decide +kernel
theorem dX0_beginDay_90 : decode cX0_beginDay 90 = .ok (.iinc 3 1, 3) := by decide +kernel
theorem dX0_beginDay_93 : decode cX0_beginDay 93 = .ok (.goto (-74), 3) := by decide +kernel
theorem dX0_beginDay_96 : decode cX0_beginDay 96 = .ok (.aload_n 0, 1) := by decide +kernel
theorem dX0_beginDay_97 : decode cX0_beginDay 97 = .ok (.iload_n 2, 1) := by decide +kernel
theorem dX0_beginDay_98 : decode cX0_beginDay 98 = .ok (.putfield 78, 3) := by decide +kernel
theorem dX0_beginDay_101 : decode cX0_beginDay 101 = .ok (.iload_n 1, 1) := by decide +kernel
theorem dX0_beginDay_102 : decode cX0_beginDay 102 = .ok (.iload_n 2, 1) := by decide +kernel
theorem dX0_beginDay_103 : decode cX0_beginDay 103 = .ok (.isub, 1) := by decide +kernel
theorem dX0_beginDay_104 : decode cX0_beginDay 104 = .ok (.ireturn, 1) := by decide +kernel
theorem dX0_comesHome_0 : decode cX0_comesHome 0 = .ok (.aload_n 1, 1) := by decide +kernel
theorem dX0_comesHome_1 : decode cX0_comesHome 1 = .ok (.getfield 127, 3) := by decide +kernel
theorem dX0_comesHome_4 : decode cX0_comesHome 4 = .ok (.ifCond .ne 19, 3) := by decide +kernel
theorem dX0_comesHome_7 : decode cX0_comesHome 7 = .ok (.aload_n 0, 1) := by decide +kernel
theorem dX0_comesHome_8 : decode cX0_comesHome 8 = .ok (.bipush 100, 2) := by decide +kernel
theorem dX0_comesHome_10 : decode cX0_comesHome 10 = .ok (.invokevirtual 159, 3) := by decide +kernel
theorem dX0_comesHome_13 : decode cX0_comesHome 13 = .ok (.aload_n 0, 1) := by decide +kernel
theorem dX0_comesHome_14 : decode cX0_comesHome 14 = .ok (.getfield 18, 3) := by decide +kernel
theorem dX0_comesHome_17 : decode cX0_comesHome 17 = .ok (.bipush 7, 2) := by decide +kernel
theorem dX0_comesHome_19 : decode cX0_comesHome 19 = .ok (.iaload, 1) := by decide +kernel
theorem dX0_comesHome_20 : decode cX0_comesHome 20 = .ok (.if_icmp .lt 5, 3) := by decide +kernel
theorem dX0_comesHome_23 : decode cX0_comesHome 23 = .ok (.iconst 1, 1) := by decide +kernel
theorem dX0_comesHome_24 : decode cX0_comesHome 24 = .ok (.ireturn, 1) := by decide +kernel
theorem dX0_comesHome_25 : decode cX0_comesHome 25 = .ok (.aload_n 0, 1) := by decide +kernel
theorem dX0_comesHome_26 : decode cX0_comesHome 26 = .ok (.aload_n 1, 1) := by decide +kernel
theorem dX0_comesHome_27 : decode cX0_comesHome 27 = .ok (.invokevirtual 162, 3) := by decide +kernel
theorem dX0_comesHome_30 : decode cX0_comesHome 30 = .ok (.aload_n 0, 1) := by decide +kernel
theorem dX0_comesHome_31 : decode cX0_comesHome 31 = .ok (.getfield 18, 3) := by decide +kernel
theorem dX0_comesHome_34 : decode cX0_comesHome 34 = .ok (.iconst 4, 1) := by decide +kernel
theorem dX0_comesHome_35 : decode cX0_comesHome 35 = .ok (.iaload, 1) := by decide +kernel
theorem dX0_comesHome_36 : decode cX0_comesHome 36 = .ok (.ifCond .ne 7, 3) := by decide +kernel
theorem dX0_comesHome_39 : decode cX0_comesHome 39 = .ok (.iconst 1, 1) := by decide +kernel
theorem dX0_comesHome_40 : decode cX0_comesHome 40 = .ok (.goto 4, 3) := by decide +kernel
theorem dX0_comesHome_43 : decode cX0_comesHome 43 = .ok (.iconst 0, 1) := by decide +kernel
theorem dX0_comesHome_44 : decode cX0_comesHome 44 = .ok (.ireturn, 1) := by decide +kernel
theorem dX0_openAtCustoms_0 : decode cX0_openAtCustoms 0 = .ok (.aload_n 0, 1) := by decide +kernel
theorem dX0_openAtCustoms_1 : decode cX0_openAtCustoms 1 = .ok (.dup, 1) := by decide +kernel
theorem dX0_openAtCustoms_2 : decode cX0_openAtCustoms 2 = .ok (.getfield 81, 3) := by decide +kernel
theorem dX0_openAtCustoms_5 : decode cX0_openAtCustoms 5 = .ok (.iconst 1, 1) := by decide +kernel
theorem dX0_openAtCustoms_6 : decode cX0_openAtCustoms 6 = .ok (.iadd, 1) := by decide +kernel
theorem dX0_openAtCustoms_7 : decode cX0_openAtCustoms 7 = .ok (.putfield 81, 3) := by decide +kernel
theorem dX0_openAtCustoms_10 : decode cX0_openAtCustoms 10 = .ok (.aload_n 1, 1) := by decide +kernel
theorem dX0_openAtCustoms_11 : decode cX0_openAtCustoms 11 = .ok (.iconst 1, 1) := by decide +kernel
theorem dX0_openAtCustoms_12 : decode cX0_openAtCustoms 12 = .ok (.putfield 127, 3) := by decide +kernel
theorem dX0_openAtCustoms_15 : decode cX0_openAtCustoms 15 = .ok (.aload_n 1, 1) := by decide +kernel
theorem dX0_openAtCustoms_16 : decode cX0_openAtCustoms 16 = .ok (.aload_n 0, 1) := by decide +kernel
theorem dX0_openAtCustoms_17 : decode cX0_openAtCustoms 17 = .ok (.getfield 71, 3) := by decide +kernel
theorem dX0_openAtCustoms_20 : decode cX0_openAtCustoms 20 = .ok (.aload_n 0, 1) := by decide +kernel
theorem dX0_openAtCustoms_21 : decode cX0_openAtCustoms 21 = .ok (.getfield 18, 3) := by decide +kernel
theorem dX0_openAtCustoms_24 : decode cX0_openAtCustoms 24 = .ok (.iconst 4, 1) := by decide +kernel
theorem dX0_openAtCustoms_25 : decode cX0_openAtCustoms 25 = .ok (.iaload, 1) := by decide +kernel
theorem dX0_openAtCustoms_26 : decode cX0_openAtCustoms 26 = .ok (.iadd, 1) := by decide +kernel
theorem dX0_openAtCustoms_27 : decode cX0_openAtCustoms 27 = .ok (.putfield 124, 3) := by decide +kernel
theorem dX0_openAtCustoms_30 : decode cX0_openAtCustoms 30 = .ok (.aload_n 0, 1) := by decide +kernel
theorem dX0_openAtCustoms_31 : decode cX0_openAtCustoms 31 = .ok (.aload_n 1, 1) := by decide +kernel
theorem dX0_openAtCustoms_32 : decode cX0_openAtCustoms 32 = .ok (.invokevirtual 165, 3) := by decide +kernel
theorem dX0_openAtCustoms_35 : decode cX0_openAtCustoms 35 = .ok (.aload_n 0, 1) := by decide +kernel
theorem dX0_openAtCustoms_36 : decode cX0_openAtCustoms 36 = .ok (.bipush 100, 2) := by decide +kernel
theorem dX0_openAtCustoms_38 : decode cX0_openAtCustoms 38 = .ok (.invokevirtual 159, 3) := by decide +kernel
theorem dX0_openAtCustoms_41 : decode cX0_openAtCustoms 41 = .ok (.aload_n 0, 1) := by decide +kernel
theorem dX0_openAtCustoms_42 : decode cX0_openAtCustoms 42 = .ok (.getfield 18, 3) := by decide +kernel
theorem dX0_openAtCustoms_45 : decode cX0_openAtCustoms 45 = .ok (.bipush 8, 2) := by decide +kernel
theorem dX0_openAtCustoms_47 : decode cX0_openAtCustoms 47 = .ok (.iaload, 1) := by decide +kernel
theorem dX0_openAtCustoms_48 : decode cX0_openAtCustoms 48 = .ok (.if_icmp .ge 33, 3) := by decide +kernel
theorem dX0_openAtCustoms_51 : decode cX0_openAtCustoms 51 = .ok (.aload_n 1, 1) := by decide +kernel
theorem dX0_openAtCustoms_52 : decode cX0_openAtCustoms 52 = .ok (.aload_n 0, 1) := by decide +kernel
theorem dX0_openAtCustoms_53 : decode cX0_openAtCustoms 53 = .ok (.aload_n 1, 1) := by decide +kernel
theorem dX0_openAtCustoms_54 : decode cX0_openAtCustoms 54 = .ok (.invokevirtual 168, 3) := by decide +kernel
theorem dX0_openAtCustoms_57 : decode cX0_openAtCustoms 57 = .ok (.invokevirtual 159, 3) := by decide +kernel
theorem dX0_openAtCustoms_60 : decode cX0_openAtCustoms 60 = .ok (.invokevirtual 172, 3) := by decide +kernel
theorem dX0_openAtCustoms_63 : decode cX0_openAtCustoms 63 = .ok (.istore_n 2, 1) := by decide +kernel
theorem dX0_openAtCustoms_64 : decode cX0_openAtCustoms 64 = .ok (.iload_n 2, 1) := by decide +kernel
theorem dX0_openAtCustoms_65 : decode cX0_openAtCustoms 65 = .ok (.invokestatic 101, 3) := by decide +kernel
theorem dX0_openAtCustoms_68 : decode cX0_openAtCustoms 68 = .ok (.ifCond .eq 13, 3) := by decide +kernel
theorem dX0_openAtCustoms_71 : decode cX0_openAtCustoms 71 = .ok (.aload_n 0, 1) := by decide +kernel
theorem dX0_openAtCustoms_72 : decode cX0_openAtCustoms 72 = .ok (.getfield 50, 3) := by decide +kernel
theorem dX0_openAtCustoms_75 : decode cX0_openAtCustoms 75 = .ok (.iload_n 2, 1) := by decide +kernel
theorem dX0_openAtCustoms_76 : decode cX0_openAtCustoms 76 = .ok (.dup2, 1) := by decide +kernel
theorem dX0_openAtCustoms_77 : decode cX0_openAtCustoms 77 = .ok (.iaload, 1) := by decide +kernel
theorem dX0_openAtCustoms_78 : decode cX0_openAtCustoms 78 = .ok (.iconst 1, 1) := by decide +kernel
theorem dX0_openAtCustoms_79 : decode cX0_openAtCustoms 79 = .ok (.iadd, 1) := by decide +kernel
theorem dX0_openAtCustoms_80 : decode cX0_openAtCustoms 80 = .ok (.iastore, 1) := by decide +kernel
theorem dX0_openAtCustoms_81 : decode cX0_openAtCustoms 81 = .ok (.return_, 1) := by decide +kernel
theorem dX0_payDuty_0 : decode cX0_payDuty 0 = .ok (.iconst 0, 1) := by decide +kernel
theorem dX0_payDuty_1 : decode cX0_payDuty 1 = .ok (.istore_n 2, 1) := by decide +kernel
theorem dX0_payDuty_2 : decode cX0_payDuty 2 = .ok (.iload_n 2, 1) := by decide +kernel
theorem dX0_payDuty_3 : decode cX0_payDuty 3 = .ok (.bipush 6, 2) := by decide +kernel
theorem dX0_payDuty_5 : decode cX0_payDuty 5 = .ok (.if_icmp .ge 27, 3) := by decide +kernel
theorem dX0_payDuty_8 : decode cX0_payDuty 8 = .ok (.aload_n 0, 1) := by decide +kernel
theorem dX0_payDuty_9 : decode cX0_payDuty 9 = .ok (.getfield 62, 3) := by decide +kernel
theorem dX0_payDuty_12 : decode cX0_payDuty 12 = .ok (.getfield 175, 3) := by decide +kernel
theorem dX0_payDuty_15 : decode cX0_payDuty 15 = .ok (.iload_n 2, 1) := by decide +kernel
theorem dX0_payDuty_16 : decode cX0_payDuty 16 = .ok (.aload_n 1, 1) := by decide +kernel
theorem dX0_payDuty_17 : decode cX0_payDuty 17 = .ok (.getfield 94, 3) := by decide +kernel
theorem dX0_payDuty_20 : decode cX0_payDuty 20 = .ok (.iload_n 2, 1) := by decide +kernel
theorem dX0_payDuty_21 : decode cX0_payDuty 21 = .ok (.aaload, 1) := by decide +kernel
theorem dX0_payDuty_22 : decode cX0_payDuty 22 = .ok (.invokestatic 178, 3) := by decide +kernel
theorem dX0_payDuty_25 : decode cX0_payDuty 25 = .ok (.iastore, 1) := by decide +kernel
theorem dX0_payDuty_26 : decode cX0_payDuty 26 = .ok (.iinc 2 1, 3) := by decide +kernel
theorem dX0_payDuty_29 : decode cX0_payDuty 29 = .ok (.goto (-27), 3) := by decide +kernel
theorem dX0_payDuty_32 : decode cX0_payDuty 32 = .ok (.aload_n 0, 1) := by decide +kernel
theorem dX0_payDuty_33 : decode cX0_payDuty 33 = .ok (.getfield 62, 3) := by decide +kernel
theorem dX0_payDuty_36 : decode cX0_payDuty 36 = .ok (.aload_n 1, 1) := by decide +kernel
theorem dX0_payDuty_37 : decode cX0_payDuty 37 = .ok (.getfield 123, 3) := by decide +kernel
theorem dX0_payDuty_40 : decode cX0_payDuty 40 = .ok (.aload_n 0, 1) := by decide +kernel
theorem dX0_payDuty_41 : decode cX0_payDuty 41 = .ok (.getfield 18, 3) := by decide +kernel
theorem dX0_payDuty_44 : decode cX0_payDuty 44 = .ok (.invokestatic 181, 3) := by decide +kernel
theorem dX0_payDuty_47 : decode cX0_payDuty 47 = .ok (.invokevirtual 185, 3) := by decide +kernel
theorem dX0_payDuty_50 : decode cX0_payDuty 50 = .ok (.iconst 0, 1) := by decide +kernel
theorem dX0_payDuty_51 : decode cX0_payDuty 51 = .ok (.istore_n 2, 1) := by decide +kernel
theorem dX0_payDuty_52 : decode cX0_payDuty 52 = .ok (.iload_n 2, 1) := by decide +kernel
theorem dX0_payDuty_53 : decode cX0_payDuty 53 = .ok (.bipush 6, 2) := by decide +kernel
theorem dX0_payDuty_55 : decode cX0_payDuty 55 = .ok (.if_icmp .ge 45, 3) := by decide +kernel
theorem dX0_payDuty_58 : decode cX0_payDuty 58 = .ok (.aload_n 0, 1) := by decide +kernel
theorem dX0_payDuty_59 : decode cX0_payDuty 59 = .ok (.getfield 38, 3) := by decide +kernel
theorem dX0_payDuty_62 : decode cX0_payDuty 62 = .ok (.iload_n 2, 1) := by decide +kernel
theorem dX0_payDuty_63 : decode cX0_payDuty 63 = .ok (.dup2, 1) := by decide +kernel
theorem dX0_payDuty_64 : decode cX0_payDuty 64 = .ok (.iaload, 1) := by decide +kernel
theorem dX0_payDuty_65 : decode cX0_payDuty 65 = .ok (.aload_n 0, 1) := by decide +kernel
theorem dX0_payDuty_66 : decode cX0_payDuty 66 = .ok (.getfield 62, 3) := by decide +kernel
theorem dX0_payDuty_69 : decode cX0_payDuty 69 = .ok (.getfield 149, 3) := by decide +kernel
theorem dX0_payDuty_72 : decode cX0_payDuty 72 = .ok (.iload_n 2, 1) := by decide +kernel
theorem dX0_payDuty_73 : decode cX0_payDuty 73 = .ok (.iaload, 1) := by decide +kernel
theorem dX0_payDuty_74 : decode cX0_payDuty 74 = .ok (.isub, 1) := by decide +kernel
theorem dX0_payDuty_75 : decode cX0_payDuty 75 = .ok (.iastore, 1) := by decide +kernel
theorem dX0_payDuty_76 : decode cX0_payDuty 76 = .ok (.aload_n 0, 1) := by decide +kernel
theorem dX0_payDuty_77 : decode cX0_payDuty 77 = .ok (.getfield 47, 3) := by decide +kernel
theorem dX0_payDuty_80 : decode cX0_payDuty 80 = .ok (.iload_n 2, 1) := by decide +kernel
theorem dX0_payDuty_81 : decode cX0_payDuty 81 = .ok (.dup2, 1) := by decide +kernel
theorem dX0_payDuty_82 : decode cX0_payDuty 82 = .ok (.iaload, 1) := by decide +kernel
theorem dX0_payDuty_83 : decode cX0_payDuty 83 = .ok (.aload_n 0, 1) := by decide +kernel
theorem dX0_payDuty_84 : decode cX0_payDuty 84 = .ok (.getfield 62, 3) := by decide +kernel
theorem dX0_payDuty_87 : decode cX0_payDuty 87 = .ok (.getfield 149, 3) := by decide +kernel
theorem dX0_payDuty_90 : decode cX0_payDuty 90 = .ok (.iload_n 2, 1) := by decide +kernel
theorem dX0_payDuty_91 : decode cX0_payDuty 91 = .ok (.iaload, 1) := by decide +kernel
theorem dX0_payDuty_92 : decode cX0_payDuty 92 = .ok (.iadd, 1) := by decide +kernel
theorem dX0_payDuty_93 : decode cX0_payDuty 93 = .ok (.iastore, 1) := by decide +kernel
theorem dX0_payDuty_94 : decode cX0_payDuty 94 = .ok (.iinc 2 1, 3) := by decide +kernel
theorem dX0_payDuty_97 : decode cX0_payDuty 97 = .ok (.goto (-45), 3) := by decide +kernel
theorem dX0_payDuty_100 : decode cX0_payDuty 100 = .ok (.return_, 1) := by decide +kernel
theorem dX0_fullPriceOf_0 : decode cX0_fullPriceOf 0 = .ok (.iconst 0, 1) := by decide +kernel
theorem dX0_fullPriceOf_1 : decode cX0_fullPriceOf 1 = .ok (.istore_n 1, 1) := by decide +kernel
theorem dX0_fullPriceOf_2 : decode cX0_fullPriceOf 2 = .ok (.iconst 0, 1) := by decide +kernel
theorem dX0_fullPriceOf_3 : decode cX0_fullPriceOf 3 = .ok (.istore_n 2, 1) := by decide +kernel
theorem dX0_fullPriceOf_4 : decode cX0_fullPriceOf 4 = .ok (.iload_n 2, 1) := by decide +kernel
theorem dX0_fullPriceOf_5 : decode cX0_fullPriceOf 5 = .ok (.aload_n 0, 1) := by decide +kernel
theorem dX0_fullPriceOf_6 : decode cX0_fullPriceOf 6 = .ok (.arraylength, 1) := by decide +kernel
theorem dX0_fullPriceOf_7 : decode cX0_fullPriceOf 7 = .ok (.if_icmp .ge 20, 3) := by decide +kernel
theorem dX0_fullPriceOf_10 : decode cX0_fullPriceOf 10 = .ok (.iload_n 1, 1) := by decide +kernel
theorem dX0_fullPriceOf_11 : decode cX0_fullPriceOf 11 = .ok (.aload_n 0, 1) := by decide +kernel
theorem dX0_fullPriceOf_12 : decode cX0_fullPriceOf 12 = .ok (.iload_n 2, 1) := by decide +kernel
theorem dX0_fullPriceOf_13 : decode cX0_fullPriceOf 13 = .ok (.iaload, 1) := by decide +kernel
theorem dX0_fullPriceOf_14 : decode cX0_fullPriceOf 14 = .ok (.iload_n 2, 1) := by decide +kernel
theorem dX0_fullPriceOf_15 : decode cX0_fullPriceOf 15 = .ok (.invokestatic 189, 3) := by decide +kernel
theorem dX0_fullPriceOf_18 : decode cX0_fullPriceOf 18 = .ok (.imul, 1) := by decide +kernel
theorem dX0_fullPriceOf_19 : decode cX0_fullPriceOf 19 = .ok (.iadd, 1) := by decide +kernel
theorem dX0_fullPriceOf_20 : decode cX0_fullPriceOf 20 = .ok (.istore_n 1, 1) := by decide +kernel
theorem dX0_fullPriceOf_21 : decode cX0_fullPriceOf 21 = .ok (.iinc 2 1, 3) := by decide +kernel
theorem dX0_fullPriceOf_24 : decode cX0_fullPriceOf 24 = .ok (.goto (-20), 3) := by decide +kernel
theorem dX0_fullPriceOf_27 : decode cX0_fullPriceOf 27 = .ok (.iload_n 1, 1) := by decide +kernel
theorem dX0_fullPriceOf_28 : decode cX0_fullPriceOf 28 = .ok (.ireturn, 1) := by decide +kernel
theorem dX0_unpack_0 : decode cX0_unpack 0 = .ok (.iconst 0, 1) := by decide +kernel
theorem dX0_unpack_1 : decode cX0_unpack 1 = .ok (.istore_n 2, 1) := by decide +kernel
theorem dX0_unpack_2 : decode cX0_unpack 2 = .ok (.iload_n 2, 1) := by decide +kernel
theorem dX0_unpack_3 : decode cX0_unpack 3 = .ok (.bipush 6, 2) := by decide +kernel
theorem dX0_unpack_5 : decode cX0_unpack 5 = .ok (.if_icmp .ge 77, 3) := by decide +kernel
theorem dX0_unpack_8 : decode cX0_unpack 8 = .ok (.iconst 0, 1) := by decide +kernel
theorem dX0_unpack_9 : decode cX0_unpack 9 = .ok (.istore_n 3, 1) := by decide +kernel
theorem dX0_unpack_10 : decode cX0_unpack 10 = .ok (.iload_n 3, 1) := by decide +kernel
theorem dX0_unpack_11 : decode cX0_unpack 11 = .ok (.bipush 8, 2) := by decide +kernel
theorem dX0_unpack_13 : decode cX0_unpack 13 = .ok (.if_icmp .ge 63, 3) := by decide +kernel
theorem dX0_unpack_16 : decode cX0_unpack 16 = .ok (.aload_n 0, 1) := by decide +kernel
theorem dX0_unpack_17 : decode cX0_unpack 17 = .ok (.getfield 32, 3) := by decide +kernel
theorem dX0_unpack_20 : decode cX0_unpack 20 = .ok (.iload_n 2, 1) := by decide +kernel
theorem dX0_unpack_21 : decode cX0_unpack 21 = .ok (.aaload, 1) := by decide +kernel
theorem dX0_unpack_22 : decode cX0_unpack 22 = .ok (.iload_n 3, 1) := by decide +kernel
theorem dX0_unpack_23 : decode cX0_unpack 23 = .ok (.iaload, 1) := by decide +kernel
theorem dX0_unpack_24 : decode cX0_unpack 24 = .ok (.aload_n 1, 1) := by decide +kernel
theorem dX0_unpack_25 : decode cX0_unpack 25 = .ok (.getfield 94, 3) := by decide +kernel
theorem dX0_unpack_28 : decode cX0_unpack 28 = .ok (.iload_n 2, 1) := by decide +kernel
theorem dX0_unpack_29 : decode cX0_unpack 29 = .ok (.aaload, 1) := by decide +kernel
theorem dX0_unpack_30 : decode cX0_unpack 30 = .ok (.iload_n 3, 1) := by decide +kernel
theorem dX0_unpack_31 : decode cX0_unpack 31 = .ok (.iaload, 1) := by decide +kernel
theorem dX0_unpack_32 : decode cX0_unpack 32 = .ok (.iadd, 1) := by decide +kernel
theorem dX0_unpack_33 : decode cX0_unpack 33 = .ok (.istore 4, 2) := by decide +kernel
theorem dX0_unpack_35 : decode cX0_unpack 35 = .ok (.aload_n 0, 1) := by decide +kernel
theorem dX0_unpack_36 : decode cX0_unpack 36 = .ok (.getfield 32, 3) := by decide +kernel
theorem dX0_unpack_39 : decode cX0_unpack 39 = .ok (.iload_n 2, 1) := by decide +kernel
theorem dX0_unpack_40 : decode cX0_unpack 40 = .ok (.aaload, 1) := by decide +kernel
theorem dX0_unpack_41 : decode cX0_unpack 41 = .ok (.iload_n 3, 1) := by decide +kernel
theorem dX0_unpack_42 : decode cX0_unpack 42 = .ok (.iload 4, 2) := by decide +kernel
theorem dX0_unpack_44 : decode cX0_unpack 44 = .ok (.bipush 99, 2) := by decide +kernel
theorem dX0_unpack_46 : decode cX0_unpack 46 = .ok (.invokestatic 108, 3) := by decide +kernel
theorem dX0_unpack_49 : decode cX0_unpack 49 = .ok (.iastore, 1) := by decide +kernel
theorem dX0_unpack_50 : decode cX0_unpack 50 = .ok (.aload_n 0, 1) := by decide +kernel
theorem dX0_unpack_51 : decode cX0_unpack 51 = .ok (.getfield 50, 3) := by decide +kernel
theorem dX0_unpack_54 : decode cX0_unpack 54 = .ok (.iload_n 2, 1) := by decide +kernel
theorem dX0_unpack_55 : decode cX0_unpack 55 = .ok (.dup2, 1) := by decide +kernel
theorem dX0_unpack_56 : decode cX0_unpack 56 = .ok (.iaload, 1) := by decide +kernel
theorem dX0_unpack_57 : decode cX0_unpack 57 = .ok (.iload 4, 2) := by decide +kernel
theorem dX0_unpack_59 : decode cX0_unpack 59 = .ok (.aload_n 0, 1) := by decide +kernel
theorem dX0_unpack_60 : decode cX0_unpack 60 = .ok (.getfield 32, 3) := by decide +kernel
theorem dX0_unpack_63 : decode cX0_unpack 63 = .ok (.iload_n 2, 1) := by decide +kernel
theorem dX0_unpack_64 : decode cX0_unpack 64 = .ok (.aaload, 1) := by decide +kernel
theorem dX0_unpack_65 : decode cX0_unpack 65 = .ok (.iload_n 3, 1) := by decide +kernel
theorem dX0_unpack_66 : decode cX0_unpack 66 = .ok (.iaload, 1) := by decide +kernel
theorem dX0_unpack_67 : decode cX0_unpack 67 = .ok (.isub, 1) := by decide +kernel
theorem dX0_unpack_68 : decode cX0_unpack 68 = .ok (.iadd, 1) := by decide +kernel
theorem dX0_unpack_69 : decode cX0_unpack 69 = .ok (.iastore, 1) := by decide +kernel
theorem dX0_unpack_70 : decode cX0_unpack 70 = .ok (.iinc 3 1, 3) := by decide +kernel
theorem dX0_unpack_73 : decode cX0_unpack 73 = .ok (.goto (-63), 3) := by decide +kernel
theorem dX0_unpack_76 : decode cX0_unpack 76 = .ok (.iinc 2 1, 3) := by decide +kernel
theorem dX0_unpack_79 : decode cX0_unpack 79 = .ok (.goto (-77), 3) := by decide +kernel
theorem dX0_unpack_82 : decode cX0_unpack 82 = .ok (.return_, 1) := by decide +kernel
theorem dX0_draw_0 : decode cX0_draw 0 = .ok (.aload_n 0, 1) := by decide +kernel
theorem dX0_draw_1 : decode cX0_draw 1 = .ok (.aload_n 0, 1) := by decide +kernel
theorem dX0_draw_2 : decode cX0_draw 2 = .ok (.getfield 23, 3) := by decide +kernel
theorem dX0_draw_5 : decode cX0_draw 5 = .ok (.i2l, 1) := by decide +kernel
theorem dX0_draw_6 : decode cX0_draw 6 = .ok (.ldc2_w 192, 3) := by decide +kernel
theorem dX0_draw_9 : decode cX0_draw 9 = .ok (.lmul, 1) := by decide +kernel
theorem dX0_draw_10 : decode cX0_draw 10 = .ok (.ldc2_w 194, 3) := by decide +kernel
theorem dX0_draw_13 : decode cX0_draw 13 = .ok (.ladd, 1) := by decide +kernel
theorem dX0_draw_14 : decode cX0_draw 14 = .ok (.ldc2_w 196, 3) := by decide +kernel
theorem dX0_draw_17 : decode cX0_draw 17 = .ok (.lrem, 1) := by decide +kernel
theorem dX0_draw_18 : decode cX0_draw 18 = .ok (.l2i, 1) := by decide +kernel
theorem dX0_draw_19 : decode cX0_draw 19 = .ok (.putfield 23, 3) := by decide +kernel
theorem dX0_draw_22 : decode cX0_draw 22 = .ok (.iload_n 1, 1) := by decide +kernel
theorem dX0_draw_23 : decode cX0_draw 23 = .ok (.ifCond .gt 7, 3) := by decide +kernel
theorem dX0_draw_26 : decode cX0_draw 26 = .ok (.iconst 0, 1) := by decide +kernel
theorem dX0_draw_27 : decode cX0_draw 27 = .ok (.goto 12, 3) := by decide +kernel
theorem dX0_draw_30 : decode cX0_draw 30 = .ok (.aload_n 0, 1) := by decide +kernel
theorem dX0_draw_31 : decode cX0_draw 31 = .ok (.getfield 23, 3) := by decide +kernel
theorem dX0_draw_34 : decode cX0_draw 34 = .ok (.ldc 198, 2) := by decide +kernel
theorem dX0_draw_36 : decode cX0_draw 36 = .ok (.idiv, 1) := by decide +kernel
theorem dX0_draw_37 : decode cX0_draw 37 = .ok (.iload_n 1, 1) := by decide +kernel
theorem dX0_draw_38 : decode cX0_draw 38 = .ok (.irem, 1) := by decide +kernel
theorem dX0_draw_39 : decode cX0_draw 39 = .ok (.ireturn, 1) := by decide +kernel
theorem dX1_init_0 : decode cX1_init 0 = .ok (.aload_n 0, 1) := by decide +kernel
theorem dX1_init_1 : decode cX1_init 1 = .ok (.invokespecial 3, 3) := by decide +kernel
theorem dX1_init_4 : decode cX1_init 4 = .ok (.aload_n 0, 1) := by decide +kernel
theorem dX1_init_5 : decode cX1_init 5 = .ok (.bipush 8, 2) := by decide +kernel
theorem dX1_init_7 : decode cX1_init 7 = .ok (.newarray .int, 2) := by decide +kernel
theorem dX1_init_9 : decode cX1_init 9 = .ok (.putfield 9, 3) := by decide +kernel
theorem dX1_init_12 : decode cX1_init 12 = .ok (.aload_n 0, 1) := by decide +kernel
theorem dX1_init_13 : decode cX1_init 13 = .ok (.bipush 8, 2) := by decide +kernel
theorem dX1_init_15 : decode cX1_init 15 = .ok (.newarray .int, 2) := by decide +kernel
theorem dX1_init_17 : decode cX1_init 17 = .ok (.putfield 15, 3) := by decide +kernel
theorem dX1_init_20 : decode cX1_init 20 = .ok (.aload_n 0, 1) := by decide +kernel
theorem dX1_init_21 : decode cX1_init 21 = .ok (.new 18, 3) := by decide +kernel
theorem dX1_init_24 : decode cX1_init 24 = .ok (.dup, 1) := by decide +kernel
theorem dX1_init_25 : decode cX1_init 25 = .ok (.invokespecial 20, 3) := by decide +kernel
theorem dX1_init_28 : decode cX1_init 28 = .ok (.putfield 21, 3) := by decide +kernel
theorem dX1_init_31 : decode cX1_init 31 = .ok (.return_, 1) := by decide +kernel
theorem dX1_gather_0 : decode cX1_gather 0 = .ok (.aload_n 0, 1) := by decide +kernel
theorem dX1_gather_1 : decode cX1_gather 1 = .ok (.getfield 9, 3) := by decide +kernel
theorem dX1_gather_4 : decode cX1_gather 4 = .ok (.iconst 0, 1) := by decide +kernel
theorem dX1_gather_5 : decode cX1_gather 5 = .ok (.invokestatic 25, 3) := by decide +kernel
theorem dX1_gather_8 : decode cX1_gather 8 = .ok (.iconst 0, 1) := by decide +kernel
theorem dX1_gather_9 : decode cX1_gather 9 = .ok (.istore_n 3, 1) := by decide +kernel
theorem dX1_gather_10 : decode cX1_gather 10 = .ok (.iload_n 3, 1) := by decide +kernel
theorem dX1_gather_11 : decode cX1_gather 11 = .ok (.bipush 6, 2) := by decide +kernel
theorem dX1_gather_13 : decode cX1_gather 13 = .ok (.if_icmp .ge 27, 3) := by decide +kernel
theorem dX1_gather_16 : decode cX1_gather 16 = .ok (.iload_n 2, 1) := by decide +kernel
theorem dX1_gather_17 : decode cX1_gather 17 = .ok (.iload_n 3, 1) := by decide +kernel
theorem dX1_gather_18 : decode cX1_gather 18 = .ok (.invokestatic 31, 3) := by decide +kernel
theorem dX1_gather_21 : decode cX1_gather 21 = .ok (.ifCond .eq 13, 3) := by decide +kernel
theorem dX1_gather_24 : decode cX1_gather 24 = .ok (.aload_n 0, 1) := by decide +kernel
theorem dX1_gather_25 : decode cX1_gather 25 = .ok (.aload_n 1, 1) := by decide +kernel
theorem dX1_gather_26 : decode cX1_gather 26 = .ok (.getfield 35, 3) := by decide +kernel
theorem dX1_gather_29 : decode cX1_gather 29 = .ok (.iload_n 3, 1) := by decide +kernel
theorem dX1_gather_30 : decode cX1_gather 30 = .ok (.aaload, 1) := by decide +kernel
theorem dX1_gather_31 : decode cX1_gather 31 = .ok (.invokevirtual 41, 3) := by decide +kernel
theorem dX1_gather_34 : decode cX1_gather 34 = .ok (.iinc 3 1, 3) := by decide +kernel
theorem dX1_gather_37 : decode cX1_gather 37 = .ok (.goto (-27), 3) := by decide +kernel
theorem dX1_gather_40 : decode cX1_gather 40 = .ok (.aload_n 0, 1) := by decide +kernel
theorem dX1_gather_41 : decode cX1_gather 41 = .ok (.aload_n 1, 1) := by decide +kernel
theorem dX1_gather_42 : decode cX1_gather 42 = .ok (.getfield 45, 3) := by decide +kernel
theorem dX1_gather_45 : decode cX1_gather 45 = .ok (.invokevirtual 48, 3) := by decide +kernel
theorem dX1_gather_48 : decode cX1_gather 48 = .ok (.return_, 1) := by decide +kernel
theorem dX1_addRow_0 : decode cX1_addRow 0 = .ok (.iconst 0, 1) := by decide +kernel
theorem dX1_addRow_1 : decode cX1_addRow 1 = .ok (.istore_n 2, 1) := by decide +kernel
theorem dX1_addRow_2 : decode cX1_addRow 2 = .ok (.iload_n 2, 1) := by decide +kernel
theorem dX1_addRow_3 : decode cX1_addRow 3 = .ok (.bipush 8, 2) := by decide +kernel
theorem dX1_addRow_5 : decode cX1_addRow 5 = .ok (.if_icmp .ge 21, 3) := by decide +kernel
theorem dX1_addRow_8 : decode cX1_addRow 8 = .ok (.aload_n 0, 1) := by decide +kernel
theorem dX1_addRow_9 : decode cX1_addRow 9 = .ok (.getfield 9, 3) := by decide +kernel
theorem dX1_addRow_12 : decode cX1_addRow 12 = .ok (.iload_n 2, 1) := by decide +kernel
theorem dX1_addRow_13 : decode cX1_addRow 13 = .ok (.dup2, 1) := by decide +kernel
theorem dX1_addRow_14 : decode cX1_addRow 14 = .ok (.iaload, 1) := by decide +kernel
theorem dX1_addRow_15 : decode cX1_addRow 15 = .ok (.aload_n 1, 1) := by decide +kernel
theorem dX1_addRow_16 : decode cX1_addRow 16 = .ok (.iload_n 2, 1) := by decide +kernel
theorem dX1_addRow_17 : decode cX1_addRow 17 = .ok (.iaload, 1) := by decide +kernel
theorem dX1_addRow_18 : decode cX1_addRow 18 = .ok (.iadd, 1) := by decide +kernel
theorem dX1_addRow_19 : decode cX1_addRow 19 = .ok (.iastore, 1) := by decide +kernel
theorem dX1_addRow_20 : decode cX1_addRow 20 = .ok (.iinc 2 1, 3) := by decide +kernel
theorem dX1_addRow_23 : decode cX1_addRow 23 = .ok (.goto (-21), 3) := by decide +kernel
theorem dX1_addRow_26 : decode cX1_addRow 26 = .ok (.return_, 1) := by decide +kernel
theorem dX1_reckon_0 : decode cX1_reckon 0 = .ok (.aload_n 0, 1) := by decide +kernel
theorem dX1_reckon_1 : decode cX1_reckon 1 = .ok (.iconst 0, 1) := by decide +kernel
theorem dX1_reckon_2 : decode cX1_reckon 2 = .ok (.putfield 51, 3) := by decide +kernel
theorem dX1_reckon_5 : decode cX1_reckon 5 = .ok (.aload_n 0, 1) := by decide +kernel
theorem dX1_reckon_6 : decode cX1_reckon 6 = .ok (.iconst 0, 1) := by decide +kernel
theorem dX1_reckon_7 : decode cX1_reckon 7 = .ok (.putfield 55, 3) := by decide +kernel
theorem dX1_reckon_10 : decode cX1_reckon 10 = .ok (.iconst 0, 1) := by decide +kernel
theorem dX1_reckon_11 : decode cX1_reckon 11 = .ok (.istore_n 2, 1) := by decide +kernel
theorem dX1_reckon_12 : decode cX1_reckon 12 = .ok (.iconst 0, 1) := by decide +kernel
theorem dX1_reckon_13 : decode cX1_reckon 13 = .ok (.istore_n 3, 1) := by decide +kernel
theorem dX1_reckon_14 : decode cX1_reckon 14 = .ok (.iload_n 3, 1) := by decide +kernel
theorem dX1_reckon_15 : decode cX1_reckon 15 = .ok (.bipush 8, 2) := by decide +kernel
theorem dX1_reckon_17 : decode cX1_reckon 17 = .ok (.if_icmp .ge 96, 3) := by decide +kernel
theorem dX1_reckon_20 : decode cX1_reckon 20 = .ok (.iload_n 3, 1) := by decide +kernel
theorem dX1_reckon_21 : decode cX1_reckon 21 = .ok (.invokestatic 58, 3) := by decide +kernel
theorem dX1_reckon_24 : decode cX1_reckon 24 = .ok (.istore 4, 2) := by decide +kernel
theorem dX1_reckon_26 : decode cX1_reckon 26 = .ok (.aload_n 0, 1) := by decide +kernel
theorem dX1_reckon_27 : decode cX1_reckon 27 = .ok (.getfield 15, 3) := by decide +kernel
theorem dX1_reckon_30 : decode cX1_reckon 30 = .ok (.iload_n 3, 1) := by decide +kernel
theorem dX1_reckon_31 : decode cX1_reckon 31 = .ok (.aload_n 0, 1) := by decide +kernel
theorem dX1_reckon_32 : decode cX1_reckon 32 = .ok (.getfield 9, 3) := by decide +kernel
theorem dX1_reckon_35 : decode cX1_reckon 35 = .ok (.iload_n 3, 1) := by decide +kernel
theorem dX1_reckon_36 : decode cX1_reckon 36 = .ok (.iaload, 1) := by decide +kernel
theorem dX1_reckon_37 : decode cX1_reckon 37 = .ok (.aload_n 1, 1) := by decide +kernel
theorem dX1_reckon_38 : decode cX1_reckon 38 = .ok (.iconst 0, 1) := by decide +kernel
theorem dX1_reckon_39 : decode cX1_reckon 39 = .ok (.iaload, 1) := by decide +kernel
theorem dX1_reckon_40 : decode cX1_reckon 40 = .ok (.if_icmp .lt 13, 3) := by decide +kernel
theorem dX1_reckon_43 : decode cX1_reckon 43 = .ok (.iload 4, 2) := by decide +kernel
theorem dX1_reckon_45 : decode cX1_reckon 45 = .ok (.iload 4, 2) := by decide +kernel
theorem dX1_reckon_47 : decode cX1_reckon 47 = .ok (.iconst 5, 1) := by decide +kernel
theorem dX1_reckon_48 : decode cX1_reckon 48 = .ok (.idiv, 1) := by decide +kernel
theorem dX1_reckon_49 : decode cX1_reckon 49 = .ok (.isub, 1) := by decide +kernel
theorem dX1_reckon_50 : decode cX1_reckon 50 = .ok (.goto 5, 3) := by decide +kernel
theorem dX1_reckon_53 : decode cX1_reckon 53 = .ok (.iload 4, 2) := by decide +kernel
theorem dX1_reckon_55 : decode cX1_reckon 55 = .ok (.iastore, 1) := by decide +kernel
theorem dX1_reckon_56 : decode cX1_reckon 56 = .ok (.aload_n 0, 1) := by decide +kernel
theorem dX1_reckon_57 : decode cX1_reckon 57 = .ok (.dup, 1) := by decide +kernel
theorem dX1_reckon_58 : decode cX1_reckon 58 = .ok (.getfield 51, 3) := by decide +kernel
theorem dX1_reckon_61 : decode cX1_reckon 61 = .ok (.aload_n 0, 1) := by decide +kernel
theorem dX1_reckon_62 : decode cX1_reckon 62 = .ok (.getfield 9, 3) := by decide +kernel
theorem dX1_reckon_65 : decode cX1_reckon 65 = .ok (.iload_n 3, 1) := by decide +kernel
theorem dX1_reckon_66 : decode cX1_reckon 66 = .ok (.iaload, 1) := by decide +kernel
theorem dX1_reckon_67 : decode cX1_reckon 67 = .ok (.iadd, 1) := by decide +kernel
theorem dX1_reckon_68 : decode cX1_reckon 68 = .ok (.putfield 51, 3) := by decide +kernel
theorem dX1_reckon_71 : decode cX1_reckon 71 = .ok (.aload_n 0, 1) := by decide +kernel
theorem dX1_reckon_72 : decode cX1_reckon 72 = .ok (.dup, 1) := by decide +kernel
theorem dX1_reckon_73 : decode cX1_reckon 73 = .ok (.getfield 55, 3) := by decide +kernel
theorem dX1_reckon_76 : decode cX1_reckon 76 = .ok (.aload_n 0, 1) := by decide +kernel
theorem dX1_reckon_77 : decode cX1_reckon 77 = .ok (.getfield 9, 3) := by decide +kernel
theorem dX1_reckon_80 : decode cX1_reckon 80 = .ok (.iload_n 3, 1) := by decide +kernel
theorem dX1_reckon_81 : decode cX1_reckon 81 = .ok (.iaload, 1) := by decide +kernel
theorem dX1_reckon_82 : decode cX1_reckon 82 = .ok (.aload_n 0, 1) := by decide +kernel
theorem dX1_reckon_83 : decode cX1_reckon 83 = .ok (.getfield 15, 3) := by decide +kernel
theorem dX1_reckon_86 : decode cX1_reckon 86 = .ok (.iload_n 3, 1) := by decide +kernel
theorem dX1_reckon_87 : decode cX1_reckon 87 = .ok (.iaload, 1) := by decide +kernel
theorem dX1_reckon_88 : decode cX1_reckon 88 = .ok (.imul, 1) := by decide +kernel
theorem dX1_reckon_89 : decode cX1_reckon 89 = .ok (.iadd, 1) := by decide +kernel
theorem dX1_reckon_90 : decode cX1_reckon 90 = .ok (.putfield 55, 3) := by decide +kernel
theorem dX1_reckon_93 : decode cX1_reckon 93 = .ok (.iload_n 2, 1) := by decide +kernel
theorem dX1_reckon_94 : decode cX1_reckon 94 = .ok (.aload_n 0, 1) := by decide +kernel
theorem dX1_reckon_95 : decode cX1_reckon 95 = .ok (.getfield 9, 3) := by decide +kernel
theorem dX1_reckon_98 : decode cX1_reckon 98 = .ok (.iload_n 3, 1) := by decide +kernel
theorem dX1_reckon_99 : decode cX1_reckon 99 = .ok (.iaload, 1) := by decide +kernel
theorem dX1_reckon_100 : decode cX1_reckon 100 = .ok (.iload_n 3, 1) := by decide +kernel
theorem dX1_reckon_101 : decode cX1_reckon 101 = .ok (.invokestatic 62, 3) := by decide +kernel
theorem dX1_reckon_104 : decode cX1_reckon 104 = .ok (.imul, 1) := by decide +kernel
theorem dX1_reckon_105 : decode cX1_reckon 105 = .ok (.iadd, 1) := by decide +kernel
theorem dX1_reckon_106 : decode cX1_reckon 106 = .ok (.istore_n 2, 1) := by decide +kernel
theorem dX1_reckon_107 : decode cX1_reckon 107 = .ok (.iinc 3 1, 3) := by decide +kernel
theorem dX1_reckon_110 : decode cX1_reckon 110 = .ok (.goto (-96), 3) := by decide +kernel
theorem dX1_reckon_113 : decode cX1_reckon 113 = .ok (.aload_n 0, 1) := by decide +kernel
theorem dX1_reckon_114 : decode cX1_reckon 114 = .ok (.aload_n 0, 1) := by decide +kernel
theorem dX1_reckon_115 : decode cX1_reckon 115 = .ok (.getfield 51, 3) := by decide +kernel
theorem dX1_reckon_118 : decode cX1_reckon 118 = .ok (.ifCond .ne 7, 3) := by decide +kernel
theorem dX1_reckon_121 : decode cX1_reckon 121 = .ok (.iconst 0, 1) := by decide +kernel
theorem dX1_reckon_122 : decode cX1_reckon 122 = .ok (.goto 12, 3) := by decide +kernel
theorem dX1_reckon_125 : decode cX1_reckon 125 = .ok (.aload_n 1, 1) := by decide +kernel
theorem dX1_reckon_126 : decode cX1_reckon 126 = .ok (.iconst 1, 1) := by decide +kernel
theorem dX1_reckon_127 : decode cX1_reckon 127 = .ok (.iaload, 1) := by decide +kernel
theorem dX1_reckon_128 : decode cX1_reckon 128 = .ok (.aload_n 1, 1) := by decide +kernel
theorem dX1_reckon_129 : decode cX1_reckon 129 = .ok (.iconst 2, 1) := by decide +kernel
theorem dX1_reckon_130 : decode cX1_reckon 130 = .ok (.iaload, 1) := by decide +kernel
theorem dX1_reckon_131 : decode cX1_reckon 131 = .ok (.iload_n 2, 1) := by decide +kernel
theorem dX1_reckon_132 : decode cX1_reckon 132 = .ok (.imul, 1) := by decide +kernel
theorem dX1_reckon_133 : decode cX1_reckon 133 = .ok (.iadd, 1) := by decide +kernel
theorem dX1_reckon_134 : decode cX1_reckon 134 = .ok (.putfield 65, 3) := by decide +kernel
theorem dX1_reckon_137 : decode cX1_reckon 137 = .ok (.return_, 1) := by decide +kernel
theorem dX1_cost_0 : decode cX1_cost 0 = .ok (.aload_n 0, 1) := by decide +kernel
theorem dX1_cost_1 : decode cX1_cost 1 = .ok (.getfield 55, 3) := by decide +kernel
theorem dX1_cost_4 : decode cX1_cost 4 = .ok (.aload_n 0, 1) := by decide +kernel
theorem dX1_cost_5 : decode cX1_cost 5 = .ok (.getfield 65, 3) := by decide +kernel
theorem dX1_cost_8 : decode cX1_cost 8 = .ok (.iadd, 1) := by decide +kernel
theorem dX1_cost_9 : decode cX1_cost 9 = .ok (.ireturn, 1) := by decide +kernel
theorem dX1_ownCost_0 : decode cX1_ownCost 0 = .ok (.iconst 0, 1) := by decide +kernel
theorem dX1_ownCost_1 : decode cX1_ownCost 1 = .ok (.istore_n 2, 1) := by decide +kernel
theorem dX1_ownCost_2 : decode cX1_ownCost 2 = .ok (.iconst 0, 1) := by decide +kernel
theorem dX1_ownCost_3 : decode cX1_ownCost 3 = .ok (.istore_n 3, 1) := by decide +kernel
theorem dX1_ownCost_4 : decode cX1_ownCost 4 = .ok (.iload_n 3, 1) := by decide +kernel
theorem dX1_ownCost_5 : decode cX1_ownCost 5 = .ok (.bipush 8, 2) := by decide +kernel
theorem dX1_ownCost_7 : decode cX1_ownCost 7 = .ok (.if_icmp .ge 22, 3) := by decide +kernel
theorem dX1_ownCost_10 : decode cX1_ownCost 10 = .ok (.iload_n 2, 1) := by decide +kernel
theorem dX1_ownCost_11 : decode cX1_ownCost 11 = .ok (.aload_n 1, 1) := by decide +kernel
theorem dX1_ownCost_12 : decode cX1_ownCost 12 = .ok (.iload_n 3, 1) := by decide +kernel
theorem dX1_ownCost_13 : decode cX1_ownCost 13 = .ok (.iaload, 1) := by decide +kernel
theorem dX1_ownCost_14 : decode cX1_ownCost 14 = .ok (.aload_n 0, 1) := by decide +kernel
theorem dX1_ownCost_15 : decode cX1_ownCost 15 = .ok (.getfield 15, 3) := by decide +kernel
theorem dX1_ownCost_18 : decode cX1_ownCost 18 = .ok (.iload_n 3, 1) := by decide +kernel
theorem dX1_ownCost_19 : decode cX1_ownCost 19 = .ok (.iaload, 1) := by decide +kernel
theorem dX1_ownCost_20 : decode cX1_ownCost 20 = .ok (.imul, 1) := by decide +kernel
theorem dX1_ownCost_21 : decode cX1_ownCost 21 = .ok (.iadd, 1) := by decide +kernel
theorem dX1_ownCost_22 : decode cX1_ownCost 22 = .ok (.istore_n 2, 1) := by decide +kernel
theorem dX1_ownCost_23 : decode cX1_ownCost 23 = .ok (.iinc 3 1, 3) := by decide +kernel
theorem dX1_ownCost_26 : decode cX1_ownCost 26 = .ok (.goto (-22), 3) := by decide +kernel
theorem dX1_ownCost_29 : decode cX1_ownCost 29 = .ok (.iload_n 2, 1) := by decide +kernel
theorem dX1_ownCost_30 : decode cX1_ownCost 30 = .ok (.ireturn, 1) := by decide +kernel
theorem dX1_sharePost_0 : decode cX1_sharePost 0 = .ok (.iconst 0, 1) := by decide +kernel
theorem dX1_sharePost_1 : decode cX1_sharePost 1 = .ok (.istore_n 3, 1) := by decide +kernel
theorem dX1_sharePost_2 : decode cX1_sharePost 2 = .ok (.iload_n 3, 1) := by decide +kernel
theorem dX1_sharePost_3 : decode cX1_sharePost 3 = .ok (.bipush 6, 2) := by decide +kernel
theorem dX1_sharePost_5 : decode cX1_sharePost 5 = .ok (.if_icmp .ge 39, 3) := by decide +kernel
theorem dX1_sharePost_8 : decode cX1_sharePost 8 = .ok (.aload_n 0, 1) := by decide +kernel
theorem dX1_sharePost_9 : decode cX1_sharePost 9 = .ok (.getfield 21, 3) := by decide +kernel
theorem dX1_sharePost_12 : decode cX1_sharePost 12 = .ok (.getfield 68, 3) := by decide +kernel
theorem dX1_sharePost_15 : decode cX1_sharePost 15 = .ok (.iload_n 3, 1) := by decide +kernel
theorem dX1_sharePost_16 : decode cX1_sharePost 16 = .ok (.iload_n 2, 1) := by decide +kernel
theorem dX1_sharePost_17 : decode cX1_sharePost 17 = .ok (.iload_n 3, 1) := by decide +kernel
theorem dX1_sharePost_18 : decode cX1_sharePost 18 = .ok (.invokestatic 31, 3) := by decide +kernel
theorem dX1_sharePost_21 : decode cX1_sharePost 21 = .ok (.ifCond .eq 15, 3) := by decide +kernel
theorem dX1_sharePost_24 : decode cX1_sharePost 24 = .ok (.aload_n 1, 1) := by decide +kernel
theorem dX1_sharePost_25 : decode cX1_sharePost 25 = .ok (.getfield 35, 3) := by decide +kernel
theorem dX1_sharePost_28 : decode cX1_sharePost 28 = .ok (.iload_n 3, 1) := by decide +kernel
theorem dX1_sharePost_29 : decode cX1_sharePost 29 = .ok (.aaload, 1) := by decide +kernel
theorem dX1_sharePost_30 : decode cX1_sharePost 30 = .ok (.invokestatic 71, 3) := by decide +kernel
theorem dX1_sharePost_33 : decode cX1_sharePost 33 = .ok (.goto 4, 3) := by decide +kernel
theorem dX1_sharePost_36 : decode cX1_sharePost 36 = .ok (.iconst 0, 1) := by decide +kernel
theorem dX1_sharePost_37 : decode cX1_sharePost 37 = .ok (.iastore, 1) := by decide +kernel
theorem dX1_sharePost_38 : decode cX1_sharePost 38 = .ok (.iinc 3 1, 3) := by decide +kernel
theorem dX1_sharePost_41 : decode cX1_sharePost 41 = .ok (.goto (-39), 3) := by decide +kernel
theorem dX1_sharePost_44 : decode cX1_sharePost 44 = .ok (.aload_n 0, 1) := by decide +kernel
theorem dX1_sharePost_45 : decode cX1_sharePost 45 = .ok (.getfield 21, 3) := by decide +kernel
theorem dX1_sharePost_48 : decode cX1_sharePost 48 = .ok (.aload_n 0, 1) := by decide +kernel
theorem dX1_sharePost_49 : decode cX1_sharePost 49 = .ok (.getfield 65, 3) := by decide +kernel
theorem dX1_sharePost_52 : decode cX1_sharePost 52 = .ok (.invokevirtual 75, 3) := by decide +kernel
theorem dX1_sharePost_55 : decode cX1_sharePost 55 = .ok (.return_, 1) := by decide +kernel
theorem dX1_weightOfAll_0 : decode cX1_weightOfAll 0 = .ok (.iconst 0, 1) := by decide +kernel
theorem dX1_weightOfAll_1 : decode cX1_weightOfAll 1 = .ok (.istore_n 1, 1) := by decide +kernel
theorem dX1_weightOfAll_2 : decode cX1_weightOfAll 2 = .ok (.iconst 0, 1) := by decide +kernel
theorem dX1_weightOfAll_3 : decode cX1_weightOfAll 3 = .ok (.istore_n 2, 1) := by decide +kernel
theorem dX1_weightOfAll_4 : decode cX1_weightOfAll 4 = .ok (.iload_n 2, 1) := by decide +kernel
theorem dX1_weightOfAll_5 : decode cX1_weightOfAll 5 = .ok (.bipush 8, 2) := by decide +kernel
theorem dX1_weightOfAll_7 : decode cX1_weightOfAll 7 = .ok (.if_icmp .ge 20, 3) := by decide +kernel
theorem dX1_weightOfAll_10 : decode cX1_weightOfAll 10 = .ok (.iload_n 1, 1) := by decide +kernel
theorem dX1_weightOfAll_11 : decode cX1_weightOfAll 11 = .ok (.aload_n 0, 1) := by decide +kernel
theorem dX1_weightOfAll_12 : decode cX1_weightOfAll 12 = .ok (.iload_n 2, 1) := by decide +kernel
theorem dX1_weightOfAll_13 : decode cX1_weightOfAll 13 = .ok (.iaload, 1) := by decide +kernel
theorem dX1_weightOfAll_14 : decode cX1_weightOfAll 14 = .ok (.iload_n 2, 1) := by decide +kernel
theorem dX1_weightOfAll_15 : decode cX1_weightOfAll 15 = .ok (.invokestatic 62, 3) := by decide +kernel
theorem dX1_weightOfAll_18 : decode cX1_weightOfAll 18 = .ok (.imul, 1) := by decide +kernel
theorem dX1_weightOfAll_19 : decode cX1_weightOfAll 19 = .ok (.iadd, 1) := by decide +kernel
theorem dX1_weightOfAll_20 : decode cX1_weightOfAll 20 = .ok (.istore_n 1, 1) := by decide +kernel
theorem dX1_weightOfAll_21 : decode cX1_weightOfAll 21 = .ok (.iinc 2 1, 3) := by decide +kernel
theorem dX1_weightOfAll_24 : decode cX1_weightOfAll 24 = .ok (.goto (-20), 3) := by decide +kernel
theorem dX1_weightOfAll_27 : decode cX1_weightOfAll 27 = .ok (.iload_n 1, 1) := by decide +kernel
theorem dX1_weightOfAll_28 : decode cX1_weightOfAll 28 = .ok (.ireturn, 1) := by decide +kernel
theorem dX2_init_0 : decode cX2_init 0 = .ok (.aload_n 0, 1) := by decide +kernel
theorem dX2_init_1 : decode cX2_init 1 = .ok (.invokespecial 3, 3) := by decide +kernel
theorem dX2_init_4 : decode cX2_init 4 = .ok (.aload_n 0, 1) := by decide +kernel
theorem dX2_init_5 : decode cX2_init 5 = .ok (.bipush 60, 2) := by decide +kernel
theorem dX2_init_7 : decode cX2_init 7 = .ok (.newarray .char, 2) := by decide +kernel
theorem dX2_init_9 : decode cX2_init 9 = .ok (.putfield 11, 3) := by decide +kernel
theorem dX2_init_12 : decode cX2_init 12 = .ok (.return_, 1) := by decide +kernel
theorem dX2_charactersIn_0 : decode cX2_charactersIn 0 = .ok (.iconst 0, 1) := by decide +kernel
theorem dX2_charactersIn_1 : decode cX2_charactersIn 1 = .ok (.istore_n 2, 1) := by decide +kernel
theorem dX2_charactersIn_2 : decode cX2_charactersIn 2 = .ok (.iload_n 2, 1) := by decide +kernel
theorem dX2_charactersIn_3 : decode cX2_charactersIn 3 = .ok (.bipush 8, 2) := by decide +kernel
theorem dX2_charactersIn_5 : decode cX2_charactersIn 5 = .ok (.if_icmp .ge 37, 3) := by decide +kernel
theorem dX2_charactersIn_8 : decode cX2_charactersIn 8 = .ok (.lload_n 0, 1) := by decide +kernel
theorem dX2_charactersIn_9 : decode cX2_charactersIn 9 = .ok (.iload_n 2, 1) := by decide +kernel
theorem dX2_charactersIn_10 : decode cX2_charactersIn 10 = .ok (.invokestatic 15, 3) := by decide +kernel
theorem dX2_charactersIn_13 : decode cX2_charactersIn 13 = .ok (.ifCond .eq 29, 3) := by decide +kernel
theorem dX2_charactersIn_16 : decode cX2_charactersIn 16 = .ok (.lload_n 0, 1) := by decide +kernel
theorem dX2_charactersIn_17 : decode cX2_charactersIn 17 = .ok (.iload_n 2, 1) := by decide +kernel
theorem dX2_charactersIn_18 : decode cX2_charactersIn 18 = .ok (.invokestatic 15, 3) := by decide +kernel
theorem dX2_charactersIn_21 : decode cX2_charactersIn 21 = .ok (.istore_n 3, 1) := by decide +kernel
theorem dX2_charactersIn_22 : decode cX2_charactersIn 22 = .ok (.iload_n 3, 1) := by decide +kernel
theorem dX2_charactersIn_23 : decode cX2_charactersIn 23 = .ok (.bipush 33, 2) := by decide +kernel
theorem dX2_charactersIn_25 : decode cX2_charactersIn 25 = .ok (.if_icmp .lt 9, 3) := by decide +kernel
theorem dX2_charactersIn_28 : decode cX2_charactersIn 28 = .ok (.iload_n 3, 1) := by decide +kernel
theorem dX2_charactersIn_29 : decode cX2_charactersIn 29 = .ok (.bipush 126, 2) := by decide +kernel
theorem dX2_charactersIn_31 : decode cX2_charactersIn 31 = .ok (.if_icmp .le 5, 3) := by decide +kernel
theorem dX2_charactersIn_34 : decode cX2_charactersIn 34 = .ok (.iconst 0, 1) := by decide +kernel
theorem dX2_charactersIn_35 : decode cX2_charactersIn 35 = .ok (.ireturn, 1) := by decide +kernel
theorem dX2_charactersIn_36 : decode cX2_charactersIn 36 = .ok (.iinc 2 1, 3) := by decide +kernel
theorem dX2_charactersIn_39 : decode cX2_charactersIn 39 = .ok (.goto (-37), 3) := by decide +kernel
theorem dX2_charactersIn_42 : decode cX2_charactersIn 42 = .ok (.iload_n 2, 1) := by decide +kernel
theorem dX2_charactersIn_43 : decode cX2_charactersIn 43 = .ok (.bipush 8, 2) := by decide +kernel
theorem dX2_charactersIn_45 : decode cX2_charactersIn 45 = .ok (.if_icmp .ge 18, 3) := by decide +kernel
theorem dX2_charactersIn_48 : decode cX2_charactersIn 48 = .ok (.lload_n 0, 1) := by decide +kernel
theorem dX2_charactersIn_49 : decode cX2_charactersIn 49 = .ok (.bipush 8, 2) := by decide +kernel
theorem dX2_charactersIn_51 : decode cX2_charactersIn 51 = .ok (.iload_n 2, 1) := by decide +kernel
theorem dX2_charactersIn_52 : decode cX2_charactersIn 52 = .ok (.imul, 1) := by decide +kernel
theorem dX2_charactersIn_53 : decode cX2_charactersIn 53 = .ok (.lushr, 1) := by decide +kernel
theorem dX2_charactersIn_54 : decode cX2_charactersIn 54 = .ok (.lconst 0, 1) := by decide +kernel
theorem dX2_charactersIn_55 : decode cX2_charactersIn 55 = .ok (.lcmp, 1) := by decide +kernel
theorem dX2_charactersIn_56 : decode cX2_charactersIn 56 = .ok (.ifCond .eq 7, 3) := by decide +kernel
theorem dX2_charactersIn_59 : decode cX2_charactersIn 59 = .ok (.iconst 1, 1) := by decide +kernel
theorem dX2_charactersIn_60 : decode cX2_charactersIn 60 = .ok (.goto 4, 3) := by decide +kernel
theorem dX2_charactersIn_63 : decode cX2_charactersIn 63 = .ok (.iconst 0, 1) := by decide +kernel
theorem dX2_charactersIn_64 : decode cX2_charactersIn 64 = .ok (.istore_n 3, 1) := by decide +kernel
theorem dX2_charactersIn_65 : decode cX2_charactersIn 65 = .ok (.iload_n 3, 1) := by decide +kernel
theorem dX2_charactersIn_66 : decode cX2_charactersIn 66 = .ok (.ifCond .eq 7, 3) := by decide +kernel
theorem dX2_charactersIn_69 : decode cX2_charactersIn 69 = .ok (.iconst 0, 1) := by decide +kernel
theorem dX2_charactersIn_70 : decode cX2_charactersIn 70 = .ok (.goto 4, 3) := by decide +kernel
theorem dX2_charactersIn_73 : decode cX2_charactersIn 73 = .ok (.iload_n 2, 1) := by decide +kernel
theorem dX2_charactersIn_74 : decode cX2_charactersIn 74 = .ok (.ireturn, 1) := by decide +kernel
theorem dX2_characterAt_0 : decode cX2_characterAt 0 = .ok (.lload_n 0, 1) := by decide +kernel
theorem dX2_characterAt_1 : decode cX2_characterAt 1 = .ok (.bipush 8, 2) := by decide +kernel
theorem dX2_characterAt_3 : decode cX2_characterAt 3 = .ok (.iload_n 2, 1) := by decide +kernel
theorem dX2_characterAt_4 : decode cX2_characterAt 4 = .ok (.imul, 1) := by decide +kernel
theorem dX2_characterAt_5 : decode cX2_characterAt 5 = .ok (.lushr, 1) := by decide +kernel
theorem dX2_characterAt_6 : decode cX2_characterAt 6 = .ok (.ldc2_w 19, 3) := by decide +kernel
theorem dX2_characterAt_9 : decode cX2_characterAt 9 = .ok (.land, 1) := by decide +kernel
theorem dX2_characterAt_10 : decode cX2_characterAt 10 = .ok (.l2i, 1) := by decide +kernel
theorem dX2_characterAt_11 : decode cX2_characterAt 11 = .ok (.ireturn, 1) := by decide +kernel
theorem dX2_append_0 : decode cX2_append 0 = .ok (.iload_n 3, 1) := by decide +kernel
theorem dX2_append_1 : decode cX2_append 1 = .ok (.iconst 1, 1) := by decide +kernel
theorem dX2_append_2 : decode cX2_append 2 = .ok (.isub, 1) := by decide +kernel
theorem dX2_append_3 : decode cX2_append 3 = .ok (.istore 4, 2) := by decide +kernel
theorem dX2_append_5 : decode cX2_append 5 = .ok (.iload 4, 2) := by decide +kernel
theorem dX2_append_7 : decode cX2_append 7 = .ok (.ifCond .lt 44, 3) := by decide +kernel
theorem dX2_append_10 : decode cX2_append 10 = .ok (.aload_n 0, 1) := by decide +kernel
theorem dX2_append_11 : decode cX2_append 11 = .ok (.getfield 21, 3) := by decide +kernel
theorem dX2_append_14 : decode cX2_append 14 = .ok (.bipush 60, 2) := by decide +kernel
theorem dX2_append_16 : decode cX2_append 16 = .ok (.if_icmp .ge 35, 3) := by decide +kernel
theorem dX2_append_19 : decode cX2_append 19 = .ok (.aload_n 0, 1) := by decide +kernel
theorem dX2_append_20 : decode cX2_append 20 = .ok (.getfield 11, 3) := by decide +kernel
theorem dX2_append_23 : decode cX2_append 23 = .ok (.aload_n 0, 1) := by decide +kernel
theorem dX2_append_24 : decode cX2_append 24 = .ok (.getfield 21, 3) := by decide +kernel
theorem dX2_append_27 : decode cX2_append 27 = .ok (.lload_n 1, 1) := by decide +kernel
theorem dX2_append_28 : decode cX2_append 28 = .ok (.iload 4, 2) := by decide +kernel
theorem dX2_append_30 : decode cX2_append 30 = .ok (.invokestatic 15, 3) := by decide +kernel
theorem dX2_append_33 : decode cX2_append 33 = .ok (.i2c, 1) := by decide +kernel
theorem dX2_append_34 : decode cX2_append 34 = .ok (.castore, 1) := by decide +kernel
theorem dX2_append_35 : decode cX2_append 35 = .ok (.aload_n 0, 1) := by decide +kernel
theorem dX2_append_36 : decode cX2_append 36 = .ok (.dup, 1) := by decide +kernel
theorem dX2_append_37 : decode cX2_append 37 = .ok (.getfield 21, 3) := by decide +kernel
theorem dX2_append_40 : decode cX2_append 40 = .ok (.iconst 1, 1) := by decide +kernel
theorem dX2_append_41 : decode cX2_append 41 = .ok (.iadd, 1) := by decide +kernel
theorem dX2_append_42 : decode cX2_append 42 = .ok (.putfield 21, 3) := by decide +kernel
theorem dX2_append_45 : decode cX2_append 45 = .ok (.iinc 4 (-1), 3) := by decide +kernel
theorem dX2_append_48 : decode cX2_append 48 = .ok (.goto (-43), 3) := by decide +kernel
theorem dX2_append_51 : decode cX2_append 51 = .ok (.return_, 1) := by decide +kernel
theorem dX2_faultIndex_0 : decode cX2_faultIndex 0 = .ok (.iconst 0, 1) := by decide +kernel
theorem dX2_faultIndex_1 : decode cX2_faultIndex 1 = .ok (.istore_n 1, 1) := by decide +kernel
theorem dX2_faultIndex_2 : decode cX2_faultIndex 2 = .ok (.iconst 0, 1) := by decide +kernel
theorem dX2_faultIndex_3 : decode cX2_faultIndex 3 = .ok (.istore_n 2, 1) := by decide +kernel
theorem dX2_faultIndex_4 : decode cX2_faultIndex 4 = .ok (.iload_n 2, 1) := by decide +kernel
theorem dX2_faultIndex_5 : decode cX2_faultIndex 5 = .ok (.aload_n 0, 1) := by decide +kernel
theorem dX2_faultIndex_6 : decode cX2_faultIndex 6 = .ok (.getfield 21, 3) := by decide +kernel
theorem dX2_faultIndex_9 : decode cX2_faultIndex 9 = .ok (.if_icmp .ge 33, 3) := by decide +kernel
theorem dX2_faultIndex_12 : decode cX2_faultIndex 12 = .ok (.iload_n 2, 1) := by decide +kernel
theorem dX2_faultIndex_13 : decode cX2_faultIndex 13 = .ok (.bipush 60, 2) := by decide +kernel
theorem dX2_faultIndex_15 : decode cX2_faultIndex 15 = .ok (.if_icmp .ge 27, 3) := by decide +kernel
theorem dX2_faultIndex_18 : decode cX2_faultIndex 18 = .ok (.iload_n 1, 1) := by decide +kernel
theorem dX2_faultIndex_19 : decode cX2_faultIndex 19 = .ok (.aload_n 0, 1) := by decide +kernel
theorem dX2_faultIndex_20 : decode cX2_faultIndex 20 = .ok (.getfield 11, 3) := by decide +kernel
theorem dX2_faultIndex_23 : decode cX2_faultIndex 23 = .ok (.iload_n 2, 1) := by decide +kernel
theorem dX2_faultIndex_24 : decode cX2_faultIndex 24 = .ok (.caload, 1) := by decide +kernel
theorem dX2_faultIndex_25 : decode cX2_faultIndex 25 = .ok (.invokestatic 25, 3) := by decide +kernel
theorem dX2_faultIndex_28 : decode cX2_faultIndex 28 = .ok (.istore_n 1, 1) := by decide +kernel
theorem dX2_faultIndex_29 : decode cX2_faultIndex 29 = .ok (.iload_n 1, 1) := by decide +kernel
theorem dX2_faultIndex_30 : decode cX2_faultIndex 30 = .ok (.iconst (-1), 1) := by decide +kernel
theorem dX2_faultIndex_31 : decode cX2_faultIndex 31 = .ok (.if_icmp .ne 5, 3) := by decide +kernel
theorem dX2_faultIndex_34 : decode cX2_faultIndex 34 = .ok (.iload_n 2, 1) := by decide +kernel
theorem dX2_faultIndex_35 : decode cX2_faultIndex 35 = .ok (.ireturn, 1) := by decide +kernel
theorem dX2_faultIndex_36 : decode cX2_faultIndex 36 = .ok (.iinc 2 1, 3) := by decide +kernel
theorem dX2_faultIndex_39 : decode cX2_faultIndex 39 = .ok (.goto (-35), 3) := by decide +kernel
theorem dX2_faultIndex_42 : decode cX2_faultIndex 42 = .ok (.iload_n 1, 1) := by decide +kernel
theorem dX2_faultIndex_43 : decode cX2_faultIndex 43 = .ok (.iconst 4, 1) := by decide +kernel
theorem dX2_faultIndex_44 : decode cX2_faultIndex 44 = .ok (.if_icmp .lt 8, 3) := by decide +kernel
theorem dX2_faultIndex_47 : decode cX2_faultIndex 47 = .ok (.ldc 29, 2) := by decide +kernel
theorem dX2_faultIndex_49 : decode cX2_faultIndex 49 = .ok (.goto 7, 3) := by decide +kernel
theorem dX2_faultIndex_52 : decode cX2_faultIndex 52 = .ok (.aload_n 0, 1) := by decide +kernel
theorem dX2_faultIndex_53 : decode cX2_faultIndex 53 = .ok (.getfield 21, 3) := by decide +kernel
theorem dX2_faultIndex_56 : decode cX2_faultIndex 56 = .ok (.ireturn, 1) := by decide +kernel
theorem dX2_placeAfter_0 : decode cX2_placeAfter 0 = .ok (.iload_n 0, 1) := by decide +kernel
theorem dX2_placeAfter_1 : decode cX2_placeAfter 1 = .ok (.tableswitch 130 0 5 #[39, 57, 75, 87, 92, 114], 39) := by decide +kernel
theorem dX2_placeAfter_40 : decode cX2_placeAfter 40 = .ok (.iload_n 1, 1) := by decide +kernel
theorem dX2_placeAfter_41 : decode cX2_placeAfter 41 = .ok (.bipush 97, 2) := by decide +kernel
theorem dX2_placeAfter_43 : decode cX2_placeAfter 43 = .ok (.if_icmp .lt 13, 3) := by decide +kernel
theorem dX2_placeAfter_46 : decode cX2_placeAfter 46 = .ok (.iload_n 1, 1) := by decide +kernel
theorem dX2_placeAfter_47 : decode cX2_placeAfter 47 = .ok (.bipush 102, 2) := by decide +kernel
theorem dX2_placeAfter_49 : decode cX2_placeAfter 49 = .ok (.if_icmp .gt 7, 3) := by decide +kernel
theorem dX2_placeAfter_52 : decode cX2_placeAfter 52 = .ok (.iconst 1, 1) := by decide +kernel
theorem dX2_placeAfter_53 : decode cX2_placeAfter 53 = .ok (.goto 4, 3) := by decide +kernel
theorem dX2_placeAfter_56 : decode cX2_placeAfter 56 = .ok (.iconst (-1), 1) := by decide +kernel
theorem dX2_placeAfter_57 : decode cX2_placeAfter 57 = .ok (.ireturn, 1) := by decide +kernel
theorem dX2_placeAfter_58 : decode cX2_placeAfter 58 = .ok (.iload_n 1, 1) := by decide +kernel
theorem dX2_placeAfter_59 : decode cX2_placeAfter 59 = .ok (.bipush 48, 2) := by decide +kernel
theorem dX2_placeAfter_61 : decode cX2_placeAfter 61 = .ok (.if_icmp .lt 13, 3) := by decide +kernel
theorem dX2_placeAfter_64 : decode cX2_placeAfter 64 = .ok (.iload_n 1, 1) := by decide +kernel
theorem dX2_placeAfter_65 : decode cX2_placeAfter 65 = .ok (.bipush 55, 2) := by decide +kernel
theorem dX2_placeAfter_67 : decode cX2_placeAfter 67 = .ok (.if_icmp .gt 7, 3) := by decide +kernel
theorem dX2_placeAfter_70 : decode cX2_placeAfter 70 = .ok (.iconst 2, 1) := by decide +kernel
theorem dX2_placeAfter_71 : decode cX2_placeAfter 71 = .ok (.goto 4, 3) := by decide +kernel
theorem dX2_placeAfter_74 : decode cX2_placeAfter 74 = .ok (.iconst (-1), 1) := by decide +kernel
theorem dX2_placeAfter_75 : decode cX2_placeAfter 75 = .ok (.ireturn, 1) := by decide +kernel
theorem dX2_placeAfter_76 : decode cX2_placeAfter 76 = .ok (.iload_n 1, 1) := by decide +kernel
theorem dX2_placeAfter_77 : decode cX2_placeAfter 77 = .ok (.bipush 58, 2) := by decide +kernel
theorem dX2_placeAfter_79 : decode cX2_placeAfter 79 = .ok (.if_icmp .ne 7, 3) := by decide +kernel
theorem dX2_placeAfter_82 : decode cX2_placeAfter 82 = .ok (.iconst 3, 1) := by decide +kernel
theorem dX2_placeAfter_83 : decode cX2_placeAfter 83 = .ok (.goto 4, 3) := by decide +kernel
theorem dX2_placeAfter_86 : decode cX2_placeAfter 86 = .ok (.iconst (-1), 1) := by decide +kernel
theorem dX2_placeAfter_87 : decode cX2_placeAfter 87 = .ok (.ireturn, 1) := by decide +kernel
theorem dX2_placeAfter_88 : decode cX2_placeAfter 88 = .ok (.iload_n 1, 1) := by decide +kernel
theorem dX2_placeAfter_89 : decode cX2_placeAfter 89 = .ok (.invokestatic 30, 3) := by decide +kernel
theorem dX2_placeAfter_92 : decode cX2_placeAfter 92 = .ok (.ireturn, 1) := by decide +kernel
theorem dX2_placeAfter_93 : decode cX2_placeAfter 93 = .ok (.iload_n 1, 1) := by decide +kernel
theorem dX2_placeAfter_94 : decode cX2_placeAfter 94 = .ok (.bipush 48, 2) := by decide +kernel
theorem dX2_placeAfter_96 : decode cX2_placeAfter 96 = .ok (.if_icmp .lt 14, 3) := by decide +kernel
theorem dX2_placeAfter_99 : decode cX2_placeAfter 99 = .ok (.iload_n 1, 1) := by decide +kernel
theorem dX2_placeAfter_100 : decode cX2_placeAfter 100 = .ok (.bipush 57, 2) := by decide +kernel
theorem dX2_placeAfter_102 : decode cX2_placeAfter 102 = .ok (.if_icmp .gt 8, 3) := by decide +kernel
theorem dX2_placeAfter_105 : decode cX2_placeAfter 105 = .ok (.bipush 6, 2) := by decide +kernel
theorem dX2_placeAfter_107 : decode cX2_placeAfter 107 = .ok (.goto 7, 3) := by decide +kernel
theorem dX2_placeAfter_110 : decode cX2_placeAfter 110 = .ok (.iload_n 1, 1) := by decide +kernel
theorem dX2_placeAfter_111 : decode cX2_placeAfter 111 = .ok (.invokestatic 34, 3) := by decide +kernel
theorem dX2_placeAfter_114 : decode cX2_placeAfter 114 = .ok (.ireturn, 1) := by decide +kernel
theorem dX2_placeAfter_115 : decode cX2_placeAfter 115 = .ok (.iload_n 1, 1) := by decide +kernel
theorem dX2_placeAfter_116 : decode cX2_placeAfter 116 = .ok (.bipush 48, 2) := by decide +kernel
theorem dX2_placeAfter_118 : decode cX2_placeAfter 118 = .ok (.if_icmp .ne 8, 3) := by decide +kernel
theorem dX2_placeAfter_121 : decode cX2_placeAfter 121 = .ok (.bipush 6, 2) := by decide +kernel
theorem dX2_placeAfter_123 : decode cX2_placeAfter 123 = .ok (.goto 7, 3) := by decide +kernel
theorem dX2_placeAfter_126 : decode cX2_placeAfter 126 = .ok (.iload_n 1, 1) := by decide +kernel
theorem dX2_placeAfter_127 : decode cX2_placeAfter 127 = .ok (.invokestatic 34, 3) := by decide +kernel
theorem dX2_placeAfter_130 : decode cX2_placeAfter 130 = .ok (.ireturn, 1) := by decide +kernel
theorem dX2_placeAfter_131 : decode cX2_placeAfter 131 = .ok (.iload_n 1, 1) := by decide +kernel
theorem dX2_placeAfter_132 : decode cX2_placeAfter 132 = .ok (.invokestatic 34, 3) := by decide +kernel
theorem dX2_placeAfter_135 : decode cX2_placeAfter 135 = .ok (.ireturn, 1) := by decide +kernel
theorem dX2_placeAfterFirstDigit_0 : decode cX2_placeAfterFirstDigit 0 = .ok (.iload_n 0, 1) := by decide +kernel
theorem dX2_placeAfterFirstDigit_1 : decode cX2_placeAfterFirstDigit 1 = .ok (.lookupswitch 31 #[(49, 27), (50, 29)], 27) := by decide +kernel
theorem dX2_placeAfterFirstDigit_28 : decode cX2_placeAfterFirstDigit 28 = .ok (.iconst 4, 1) := by decide +kernel
theorem dX2_placeAfterFirstDigit_29 : decode cX2_placeAfterFirstDigit 29 = .ok (.ireturn, 1) := by decide +kernel
theorem dX2_placeAfterFirstDigit_30 : decode cX2_placeAfterFirstDigit 30 = .ok (.iconst 5, 1) := by decide +kernel
theorem dX2_placeAfterFirstDigit_31 : decode cX2_placeAfterFirstDigit 31 = .ok (.ireturn, 1) := by decide +kernel
theorem dX2_placeAfterFirstDigit_32 : decode cX2_placeAfterFirstDigit 32 = .ok (.iload_n 0, 1) := by decide +kernel
theorem dX2_placeAfterFirstDigit_33 : decode cX2_placeAfterFirstDigit 33 = .ok (.bipush 51, 2) := by decide +kernel
theorem dX2_placeAfterFirstDigit_35 : decode cX2_placeAfterFirstDigit 35 = .ok (.if_icmp .lt 14, 3) := by decide +kernel
theorem dX2_placeAfterFirstDigit_38 : decode cX2_placeAfterFirstDigit 38 = .ok (.iload_n 0, 1) := by decide +kernel
theorem dX2_placeAfterFirstDigit_39 : decode cX2_placeAfterFirstDigit 39 = .ok (.bipush 57, 2) := by decide +kernel
theorem dX2_placeAfterFirstDigit_41 : decode cX2_placeAfterFirstDigit 41 = .ok (.if_icmp .gt 8, 3) := by decide +kernel
theorem dX2_placeAfterFirstDigit_44 : decode cX2_placeAfterFirstDigit 44 = .ok (.bipush 6, 2) := by decide +kernel
theorem dX2_placeAfterFirstDigit_46 : decode cX2_placeAfterFirstDigit 46 = .ok (.goto 4, 3) := by decide +kernel
theorem dX2_placeAfterFirstDigit_49 : decode cX2_placeAfterFirstDigit 49 = .ok (.iconst (-1), 1) := by decide +kernel
theorem dX2_placeAfterFirstDigit_50 : decode cX2_placeAfterFirstDigit 50 = .ok (.ireturn, 1) := by decide +kernel
theorem dX2_placeAfterWant_0 : decode cX2_placeAfterWant 0 = .ok (.iload_n 0, 1) := by decide +kernel
theorem dX2_placeAfterWant_1 : decode cX2_placeAfterWant 1 = .ok (.lookupswitch 31 #[(44, 27), (59, 29)], 27) := by decide +kernel
theorem dX2_placeAfterWant_28 : decode cX2_placeAfterWant 28 = .ok (.iconst 1, 1) := by decide +kernel
theorem dX2_placeAfterWant_29 : decode cX2_placeAfterWant 29 = .ok (.ireturn, 1) := by decide +kernel
theorem dX2_placeAfterWant_30 : decode cX2_placeAfterWant 30 = .ok (.iconst 0, 1) := by decide +kernel
theorem dX2_placeAfterWant_31 : decode cX2_placeAfterWant 31 = .ok (.ireturn, 1) := by decide +kernel
theorem dX2_placeAfterWant_32 : decode cX2_placeAfterWant 32 = .ok (.iconst (-1), 1) := by decide +kernel
theorem dX2_placeAfterWant_33 : decode cX2_placeAfterWant 33 = .ok (.ireturn, 1) := by decide +kernel
theorem dX2_addWants_0 : decode cX2_addWants 0 = .ok (.iconst 0, 1) := by decide +kernel
theorem dX2_addWants_1 : decode cX2_addWants 1 = .ok (.istore_n 2, 1) := by decide +kernel
theorem dX2_addWants_2 : decode cX2_addWants 2 = .ok (.iconst 0, 1) := by decide +kernel
theorem dX2_addWants_3 : decode cX2_addWants 3 = .ok (.istore_n 3, 1) := by decide +kernel
theorem dX2_addWants_4 : decode cX2_addWants 4 = .ok (.iconst 0, 1) := by decide +kernel
theorem dX2_addWants_5 : decode cX2_addWants 5 = .ok (.istore 4, 2) := by decide +kernel
theorem dX2_addWants_7 : decode cX2_addWants 7 = .ok (.iconst 0, 1) := by decide +kernel
theorem dX2_addWants_8 : decode cX2_addWants 8 = .ok (.istore 5, 2) := by decide +kernel
theorem dX2_addWants_10 : decode cX2_addWants 10 = .ok (.iconst 0, 1) := by decide +kernel
theorem dX2_addWants_11 : decode cX2_addWants 11 = .ok (.istore 6, 2) := by decide +kernel
theorem dX2_addWants_13 : decode cX2_addWants 13 = .ok (.iload 6, 2) := by decide +kernel
theorem dX2_addWants_15 : decode cX2_addWants 15 = .ok (.aload_n 0, 1) := by decide +kernel
theorem dX2_addWants_16 : decode cX2_addWants 16 = .ok (.getfield 21, 3) := by decide +kernel
theorem dX2_addWants_19 : decode cX2_addWants 19 = .ok (.if_icmp .ge 109, 3) := by decide +kernel
theorem dX2_addWants_22 : decode cX2_addWants 22 = .ok (.iload 6, 2) := by decide +kernel
theorem dX2_addWants_24 : decode cX2_addWants 24 = .ok (.bipush 60, 2) := by decide +kernel
theorem dX2_addWants_26 : decode cX2_addWants 26 = .ok (.if_icmp .ge 102, 3) := by decide +kernel
theorem dX2_addWants_29 : decode cX2_addWants 29 = .ok (.aload_n 0, 1) := by decide +kernel
theorem dX2_addWants_30 : decode cX2_addWants 30 = .ok (.getfield 11, 3) := by decide +kernel
theorem dX2_addWants_33 : decode cX2_addWants 33 = .ok (.iload 6, 2) := by decide +kernel
theorem dX2_addWants_35 : decode cX2_addWants 35 = .ok (.caload, 1) := by decide +kernel
theorem dX2_addWants_36 : decode cX2_addWants 36 = .ok (.istore 7, 2) := by decide +kernel
theorem dX2_addWants_38 : decode cX2_addWants 38 = .ok (.iload_n 2, 1) := by decide +kernel
theorem dX2_addWants_39 : decode cX2_addWants 39 = .ok (.ifCond .ne 12, 3) := by decide +kernel
theorem dX2_addWants_42 : decode cX2_addWants 42 = .ok (.iload 7, 2) := by decide +kernel
theorem dX2_addWants_44 : decode cX2_addWants 44 = .ok (.bipush 97, 2) := by decide +kernel
theorem dX2_addWants_46 : decode cX2_addWants 46 = .ok (.isub, 1) := by decide +kernel
theorem dX2_addWants_47 : decode cX2_addWants 47 = .ok (.istore_n 3, 1) := by decide +kernel
theorem dX2_addWants_48 : decode cX2_addWants 48 = .ok (.goto 67, 3) := by decide +kernel
theorem dX2_addWants_51 : decode cX2_addWants 51 = .ok (.iload_n 2, 1) := by decide +kernel
theorem dX2_addWants_52 : decode cX2_addWants 52 = .ok (.iconst 1, 1) := by decide +kernel
theorem dX2_addWants_53 : decode cX2_addWants 53 = .ok (.if_icmp .ne 16, 3) := by decide +kernel
theorem dX2_addWants_56 : decode cX2_addWants 56 = .ok (.iload 7, 2) := by decide +kernel
theorem dX2_addWants_58 : decode cX2_addWants 58 = .ok (.bipush 48, 2) := by decide +kernel
theorem dX2_addWants_60 : decode cX2_addWants 60 = .ok (.isub, 1) := by decide +kernel
theorem dX2_addWants_61 : decode cX2_addWants 61 = .ok (.istore 4, 2) := by decide +kernel
theorem dX2_addWants_63 : decode cX2_addWants 63 = .ok (.iconst 0, 1) := by decide +kernel
theorem dX2_addWants_64 : decode cX2_addWants 64 = .ok (.istore 5, 2) := by decide +kernel
theorem dX2_addWants_66 : decode cX2_addWants 66 = .ok (.goto 49, 3) := by decide +kernel
theorem dX2_addWants_69 : decode cX2_addWants 69 = .ok (.iload 7, 2) := by decide +kernel
theorem dX2_addWants_71 : decode cX2_addWants 71 = .ok (.bipush 48, 2) := by decide +kernel
theorem dX2_addWants_73 : decode cX2_addWants 73 = .ok (.if_icmp .lt 26, 3) := by decide +kernel
theorem dX2_addWants_76 : decode cX2_addWants 76 = .ok (.iload 7, 2) := by decide +kernel
theorem dX2_addWants_78 : decode cX2_addWants 78 = .ok (.bipush 57, 2) := by decide +kernel
theorem dX2_addWants_80 : decode cX2_addWants 80 = .ok (.if_icmp .gt 19, 3) := by decide +kernel
theorem dX2_addWants_83 : decode cX2_addWants 83 = .ok (.iload 5, 2) := by decide +kernel
theorem dX2_addWants_85 : decode cX2_addWants 85 = .ok (.bipush 10, 2) := by decide +kernel
theorem dX2_addWants_87 : decode cX2_addWants 87 = .ok (.imul, 1) := by decide +kernel
theorem dX2_addWants_88 : decode cX2_addWants 88 = .ok (.iload 7, 2) := by decide +kernel
theorem dX2_addWants_90 : decode cX2_addWants 90 = .ok (.iadd, 1) := by decide +kernel
theorem dX2_addWants_91 : decode cX2_addWants 91 = .ok (.bipush 48, 2) := by decide +kernel
theorem dX2_addWants_93 : decode cX2_addWants 93 = .ok (.isub, 1) := by decide +kernel
theorem dX2_addWants_94 : decode cX2_addWants 94 = .ok (.istore 5, 2) := by decide +kernel
theorem dX2_addWants_96 : decode cX2_addWants 96 = .ok (.goto 19, 3) := by decide +kernel
theorem dX2_addWants_99 : decode cX2_addWants 99 = .ok (.iload 7, 2) := by decide +kernel
theorem dX2_addWants_101 : decode cX2_addWants 101 = .ok (.bipush 58, 2) := by decide +kernel
theorem dX2_addWants_103 : decode cX2_addWants 103 = .ok (.if_icmp .eq 12, 3) := by decide +kernel
theorem dX2_addWants_106 : decode cX2_addWants 106 = .ok (.aload_n 1, 1) := by decide +kernel
theorem dX2_addWants_107 : decode cX2_addWants 107 = .ok (.iload_n 3, 1) := by decide +kernel
theorem dX2_addWants_108 : decode cX2_addWants 108 = .ok (.iload 4, 2) := by decide +kernel
theorem dX2_addWants_110 : decode cX2_addWants 110 = .ok (.iload 5, 2) := by decide +kernel
theorem dX2_addWants_112 : decode cX2_addWants 112 = .ok (.invokevirtual 37, 3) := by decide +kernel
theorem dX2_addWants_115 : decode cX2_addWants 115 = .ok (.iload_n 2, 1) := by decide +kernel
theorem dX2_addWants_116 : decode cX2_addWants 116 = .ok (.iload 7, 2) := by decide +kernel
theorem dX2_addWants_118 : decode cX2_addWants 118 = .ok (.invokestatic 25, 3) := by decide +kernel
theorem dX2_addWants_121 : decode cX2_addWants 121 = .ok (.istore_n 2, 1) := by decide +kernel
theorem dX2_addWants_122 : decode cX2_addWants 122 = .ok (.iinc 6 1, 3) := by decide +kernel
theorem dX2_addWants_125 : decode cX2_addWants 125 = .ok (.goto (-112), 3) := by decide +kernel
theorem dX2_addWants_128 : decode cX2_addWants 128 = .ok (.aload_n 1, 1) := by decide +kernel
theorem dX2_addWants_129 : decode cX2_addWants 129 = .ok (.iload_n 3, 1) := by decide +kernel
theorem dX2_addWants_130 : decode cX2_addWants 130 = .ok (.iload 4, 2) := by decide +kernel
theorem dX2_addWants_132 : decode cX2_addWants 132 = .ok (.iload 5, 2) := by decide +kernel
theorem dX2_addWants_134 : decode cX2_addWants 134 = .ok (.invokevirtual 37, 3) := by decide +kernel
theorem dX2_addWants_137 : decode cX2_addWants 137 = .ok (.return_, 1) := by decide +kernel
theorem dX3_init_0 : decode cX3_init 0 = .ok (.aload_n 0, 1) := by decide +kernel
theorem dX3_init_1 : decode cX3_init 1 = .ok (.invokespecial 3, 3) := by decide +kernel
theorem dX3_init_4 : decode cX3_init 4 = .ok (.aload_n 0, 1) := by decide +kernel
theorem dX3_init_5 : decode cX3_init 5 = .ok (.bipush 6, 2) := by decide +kernel
theorem dX3_init_7 : decode cX3_init 7 = .ok (.bipush 8, 2) := by decide +kernel
theorem dX3_init_9 : decode cX3_init 9 = .ok (.multianewarray 9 2, 4) := by decide +kernel
theorem dX3_init_13 : decode cX3_init 13 = .ok (.putfield 11, 3) := by decide +kernel
theorem dX3_init_16 : decode cX3_init 16 = .ok (.return_, 1) := by decide +kernel
theorem dX3_copyFrom_0 : decode cX3_copyFrom 0 = .ok (.aload_n 1, 1) := by decide +kernel
theorem dX3_copyFrom_1 : decode cX3_copyFrom 1 = .ok (.getfield 11, 3) := by decide +kernel
theorem dX3_copyFrom_4 : decode cX3_copyFrom 4 = .ok (.aload_n 0, 1) := by decide +kernel
theorem dX3_copyFrom_5 : decode cX3_copyFrom 5 = .ok (.getfield 11, 3) := by decide +kernel
theorem dX3_copyFrom_8 : decode cX3_copyFrom 8 = .ok (.invokestatic 16, 3) := by decide +kernel
theorem dX3_copyFrom_11 : decode cX3_copyFrom 11 = .ok (.aload_n 0, 1) := by decide +kernel
theorem dX3_copyFrom_12 : decode cX3_copyFrom 12 = .ok (.aload_n 1, 1) := by decide +kernel
theorem dX3_copyFrom_13 : decode cX3_copyFrom 13 = .ok (.getfield 20, 3) := by decide +kernel
theorem dX3_copyFrom_16 : decode cX3_copyFrom 16 = .ok (.putfield 20, 3) := by decide +kernel
theorem dX3_copyFrom_19 : decode cX3_copyFrom 19 = .ok (.aload_n 0, 1) := by decide +kernel
theorem dX3_copyFrom_20 : decode cX3_copyFrom 20 = .ok (.aload_n 1, 1) := by decide +kernel
theorem dX3_copyFrom_21 : decode cX3_copyFrom 21 = .ok (.getfield 24, 3) := by decide +kernel
theorem dX3_copyFrom_24 : decode cX3_copyFrom 24 = .ok (.putfield 24, 3) := by decide +kernel
theorem dX3_copyFrom_27 : decode cX3_copyFrom 27 = .ok (.aload_n 0, 1) := by decide +kernel
theorem dX3_copyFrom_28 : decode cX3_copyFrom 28 = .ok (.aload_n 1, 1) := by decide +kernel
theorem dX3_copyFrom_29 : decode cX3_copyFrom 29 = .ok (.getfield 27, 3) := by decide +kernel
theorem dX3_copyFrom_32 : decode cX3_copyFrom 32 = .ok (.putfield 27, 3) := by decide +kernel
theorem dX3_copyFrom_35 : decode cX3_copyFrom 35 = .ok (.return_, 1) := by decide +kernel
theorem dX3_pieces_0 : decode cX3_pieces 0 = .ok (.iconst 0, 1) := by decide +kernel
theorem dX3_pieces_1 : decode cX3_pieces 1 = .ok (.istore_n 1, 1) := by decide +kernel
theorem dX3_pieces_2 : decode cX3_pieces 2 = .ok (.iconst 0, 1) := by decide +kernel
theorem dX3_pieces_3 : decode cX3_pieces 3 = .ok (.istore_n 2, 1) := by decide +kernel
theorem dX3_pieces_4 : decode cX3_pieces 4 = .ok (.iload_n 2, 1) := by decide +kernel
theorem dX3_pieces_5 : decode cX3_pieces 5 = .ok (.bipush 6, 2) := by decide +kernel
theorem dX3_pieces_7 : decode cX3_pieces 7 = .ok (.if_icmp .ge 21, 3) := by decide +kernel
theorem dX3_pieces_10 : decode cX3_pieces 10 = .ok (.iload_n 1, 1) := by decide +kernel
theorem dX3_pieces_11 : decode cX3_pieces 11 = .ok (.aload_n 0, 1) := by decide +kernel
theorem dX3_pieces_12 : decode cX3_pieces 12 = .ok (.getfield 11, 3) := by decide +kernel
theorem dX3_pieces_15 : decode cX3_pieces 15 = .ok (.iload_n 2, 1) := by decide +kernel
theorem dX3_pieces_16 : decode cX3_pieces 16 = .ok (.aaload, 1) := by decide +kernel
theorem dX3_pieces_17 : decode cX3_pieces 17 = .ok (.invokestatic 31, 3) := by decide +kernel
theorem dX3_pieces_20 : decode cX3_pieces 20 = .ok (.iadd, 1) := by decide +kernel
theorem dX3_pieces_21 : decode cX3_pieces 21 = .ok (.istore_n 1, 1) := by decide +kernel
theorem dX3_pieces_22 : decode cX3_pieces 22 = .ok (.iinc 2 1, 3) := by decide +kernel
theorem dX3_pieces_25 : decode cX3_pieces 25 = .ok (.goto (-21), 3) := by decide +kernel
theorem dX3_pieces_28 : decode cX3_pieces 28 = .ok (.iload_n 1, 1) := by decide +kernel
theorem dX3_pieces_29 : decode cX3_pieces 29 = .ok (.ireturn, 1) := by decide +kernel
theorem dX3_owners_0 : decode cX3_owners 0 = .ok (.iconst 0, 1) := by decide +kernel
theorem dX3_owners_1 : decode cX3_owners 1 = .ok (.istore_n 1, 1) := by decide +kernel
theorem dX3_owners_2 : decode cX3_owners 2 = .ok (.iconst 0, 1) := by decide +kernel
theorem dX3_owners_3 : decode cX3_owners 3 = .ok (.istore_n 2, 1) := by decide +kernel
theorem dX3_owners_4 : decode cX3_owners 4 = .ok (.iload_n 2, 1) := by decide +kernel
theorem dX3_owners_5 : decode cX3_owners 5 = .ok (.bipush 6, 2) := by decide +kernel
theorem dX3_owners_7 : decode cX3_owners 7 = .ok (.if_icmp .ge 27, 3) := by decide +kernel
theorem dX3_owners_10 : decode cX3_owners 10 = .ok (.aload_n 0, 1) := by decide +kernel
theorem dX3_owners_11 : decode cX3_owners 11 = .ok (.getfield 11, 3) := by decide +kernel
theorem dX3_owners_14 : decode cX3_owners 14 = .ok (.iload_n 2, 1) := by decide +kernel
theorem dX3_owners_15 : decode cX3_owners 15 = .ok (.aaload, 1) := by decide +kernel
theorem dX3_owners_16 : decode cX3_owners 16 = .ok (.invokestatic 31, 3) := by decide +kernel
theorem dX3_owners_19 : decode cX3_owners 19 = .ok (.ifCond .le 9, 3) := by decide +kernel
theorem dX3_owners_22 : decode cX3_owners 22 = .ok (.iload_n 1, 1) := by decide +kernel
theorem dX3_owners_23 : decode cX3_owners 23 = .ok (.iconst 1, 1) := by decide +kernel
theorem dX3_owners_24 : decode cX3_owners 24 = .ok (.iload_n 2, 1) := by decide +kernel
theorem dX3_owners_25 : decode cX3_owners 25 = .ok (.ishl, 1) := by decide +kernel
theorem dX3_owners_26 : decode cX3_owners 26 = .ok (.ior, 1) := by decide +kernel
theorem dX3_owners_27 : decode cX3_owners 27 = .ok (.istore_n 1, 1) := by decide +kernel
theorem dX3_owners_28 : decode cX3_owners 28 = .ok (.iinc 2 1, 3) := by decide +kernel
theorem dX3_owners_31 : decode cX3_owners 31 = .ok (.goto (-27), 3) := by decide +kernel
theorem dX3_owners_34 : decode cX3_owners 34 = .ok (.iload_n 1, 1) := by decide +kernel
theorem dX3_owners_35 : decode cX3_owners 35 = .ok (.ireturn, 1) := by decide +kernel
theorem dX3_loseString_0 : decode cX3_loseString 0 = .ok (.iload_n 1, 1) := by decide +kernel
theorem dX3_loseString_1 : decode cX3_loseString 1 = .ok (.istore_n 2, 1) := by decide +kernel
theorem dX3_loseString_2 : decode cX3_loseString 2 = .ok (.iconst 0, 1) := by decide +kernel
theorem dX3_loseString_3 : decode cX3_loseString 3 = .ok (.istore_n 3, 1) := by decide +kernel
theorem dX3_loseString_4 : decode cX3_loseString 4 = .ok (.iload_n 3, 1) := by decide +kernel
theorem dX3_loseString_5 : decode cX3_loseString 5 = .ok (.bipush 6, 2) := by decide +kernel
theorem dX3_loseString_7 : decode cX3_loseString 7 = .ok (.if_icmp .ge 65, 3) := by decide +kernel
theorem dX3_loseString_10 : decode cX3_loseString 10 = .ok (.iconst 0, 1) := by decide +kernel
theorem dX3_loseString_11 : decode cX3_loseString 11 = .ok (.istore 4, 2) := by decide +kernel
theorem dX3_loseString_13 : decode cX3_loseString 13 = .ok (.iload 4, 2) := by decide +kernel
theorem dX3_loseString_15 : decode cX3_loseString 15 = .ok (.bipush 8, 2) := by decide +kernel
theorem dX3_loseString_17 : decode cX3_loseString 17 = .ok (.if_icmp .ge 49, 3) := by decide +kernel
theorem dX3_loseString_20 : decode cX3_loseString 20 = .ok (.iload_n 2, 1) := by decide +kernel
theorem dX3_loseString_21 : decode cX3_loseString 21 = .ok (.aload_n 0, 1) := by decide +kernel
theorem dX3_loseString_22 : decode cX3_loseString 22 = .ok (.getfield 11, 3) := by decide +kernel
theorem dX3_loseString_25 : decode cX3_loseString 25 = .ok (.iload_n 3, 1) := by decide +kernel
theorem dX3_loseString_26 : decode cX3_loseString 26 = .ok (.aaload, 1) := by decide +kernel
theorem dX3_loseString_27 : decode cX3_loseString 27 = .ok (.iload 4, 2) := by decide +kernel
theorem dX3_loseString_29 : decode cX3_loseString 29 = .ok (.iaload, 1) := by decide +kernel
theorem dX3_loseString_30 : decode cX3_loseString 30 = .ok (.if_icmp .ge 18, 3) := by decide +kernel
theorem dX3_loseString_33 : decode cX3_loseString 33 = .ok (.aload_n 0, 1) := by decide +kernel
theorem dX3_loseString_34 : decode cX3_loseString 34 = .ok (.getfield 11, 3) := by decide +kernel
theorem dX3_loseString_37 : decode cX3_loseString 37 = .ok (.iload_n 3, 1) := by decide +kernel
theorem dX3_loseString_38 : decode cX3_loseString 38 = .ok (.aaload, 1) := by decide +kernel
theorem dX3_loseString_39 : decode cX3_loseString 39 = .ok (.iload 4, 2) := by decide +kernel
theorem dX3_loseString_41 : decode cX3_loseString 41 = .ok (.dup2, 1) := by decide +kernel
theorem dX3_loseString_42 : decode cX3_loseString 42 = .ok (.iaload, 1) := by decide +kernel
theorem dX3_loseString_43 : decode cX3_loseString 43 = .ok (.iconst 1, 1) := by decide +kernel
theorem dX3_loseString_44 : decode cX3_loseString 44 = .ok (.isub, 1) := by decide +kernel
theorem dX3_loseString_45 : decode cX3_loseString 45 = .ok (.iastore, 1) := by decide +kernel
theorem dX3_loseString_46 : decode cX3_loseString 46 = .ok (.iload_n 3, 1) := by decide +kernel
theorem dX3_loseString_47 : decode cX3_loseString 47 = .ok (.ireturn, 1) := by decide +kernel
theorem dX3_loseString_48 : decode cX3_loseString 48 = .ok (.iload_n 2, 1) := by decide +kernel
theorem dX3_loseString_49 : decode cX3_loseString 49 = .ok (.aload_n 0, 1) := by decide +kernel
theorem dX3_loseString_50 : decode cX3_loseString 50 = .ok (.getfield 11, 3) := by decide +kernel
theorem dX3_loseString_53 : decode cX3_loseString 53 = .ok (.iload_n 3, 1) := by decide +kernel
theorem dX3_loseString_54 : decode cX3_loseString 54 = .ok (.aaload, 1) := by decide +kernel
theorem dX3_loseString_55 : decode cX3_loseString 55 = .ok (.iload 4, 2) := by decide +kernel
theorem dX3_loseString_57 : decode cX3_loseString 57 = .ok (.iaload, 1) := by decide +kernel
theorem dX3_loseString_58 : decode cX3_loseString 58 = .ok (.isub, 1) := by decide +kernel
theorem dX3_loseString_59 : decode cX3_loseString 59 = .ok (.istore_n 2, 1) := by decide +kernel
theorem dX3_loseString_60 : decode cX3_loseString 60 = .ok (.iinc 4 1, 3) := by decide +kernel
theorem dX3_loseString_63 : decode cX3_loseString 63 = .ok (.goto (-50), 3) := by decide +kernel
theorem dX3_loseString_66 : decode cX3_loseString 66 = .ok (.iinc 3 1, 3) := by decide +kernel
theorem dX3_loseString_69 : decode cX3_loseString 69 = .ok (.goto (-65), 3) := by decide +kernel
theorem dX3_loseString_72 : decode cX3_loseString 72 = .ok (.iconst (-1), 1) := by decide +kernel
theorem dX3_loseString_73 : decode cX3_loseString 73 = .ok (.ireturn, 1) := by decide +kernel
theorem dX4_init_0 : decode cX4_init 0 = .ok (.aload_n 0, 1) := by decide +kernel
theorem dX4_init_1 : decode cX4_init 1 = .ok (.invokespecial 3, 3) := by decide +kernel
theorem dX4_init_4 : decode cX4_init 4 = .ok (.aload_n 0, 1) := by decide +kernel
theorem dX4_init_5 : decode cX4_init 5 = .ok (.bipush 6, 2) := by decide +kernel
theorem dX4_init_7 : decode cX4_init 7 = .ok (.newarray .int, 2) := by decide +kernel
theorem dX4_init_9 : decode cX4_init 9 = .ok (.putfield 9, 3) := by decide +kernel
theorem dX4_init_12 : decode cX4_init 12 = .ok (.aload_n 0, 1) := by decide +kernel
theorem dX4_init_13 : decode cX4_init 13 = .ok (.bipush 6, 2) := by decide +kernel
theorem dX4_init_15 : decode cX4_init 15 = .ok (.newarray .int, 2) := by decide +kernel
theorem dX4_init_17 : decode cX4_init 17 = .ok (.putfield 15, 3) := by decide +kernel
theorem dX4_init_20 : decode cX4_init 20 = .ok (.return_, 1) := by decide +kernel
theorem dX4_divide_0 : decode cX4_divide 0 = .ok (.aload_n 0, 1) := by decide +kernel
theorem dX4_divide_1 : decode cX4_divide 1 = .ok (.getfield 15, 3) := by decide +kernel
theorem dX4_divide_4 : decode cX4_divide 4 = .ok (.iconst 0, 1) := by decide +kernel
theorem dX4_divide_5 : decode cX4_divide 5 = .ok (.invokestatic 18, 3) := by decide +kernel
theorem dX4_divide_8 : decode cX4_divide 8 = .ok (.aload_n 0, 1) := by decide +kernel
theorem dX4_divide_9 : decode cX4_divide 9 = .ok (.getfield 9, 3) := by decide +kernel
theorem dX4_divide_12 : decode cX4_divide 12 = .ok (.invokestatic 24, 3) := by decide +kernel
theorem dX4_divide_15 : decode cX4_divide 15 = .ok (.istore_n 2, 1) := by decide +kernel
theorem dX4_divide_16 : decode cX4_divide 16 = .ok (.iload_n 2, 1) := by decide +kernel
theorem dX4_divide_17 : decode cX4_divide 17 = .ok (.ifCond .gt 4, 3) := by decide +kernel
theorem dX4_divide_20 : decode cX4_divide 20 = .ok (.return_, 1) := by decide +kernel
theorem dX4_divide_21 : decode cX4_divide 21 = .ok (.iload_n 1, 1) := by decide +kernel
theorem dX4_divide_22 : decode cX4_divide 22 = .ok (.istore_n 3, 1) := by decide +kernel
theorem dX4_divide_23 : decode cX4_divide 23 = .ok (.iconst 0, 1) := by decide +kernel
theorem dX4_divide_24 : decode cX4_divide 24 = .ok (.istore 4, 2) := by decide +kernel
theorem dX4_divide_26 : decode cX4_divide 26 = .ok (.iload 4, 2) := by decide +kernel
theorem dX4_divide_28 : decode cX4_divide 28 = .ok (.bipush 6, 2) := by decide +kernel
theorem dX4_divide_30 : decode cX4_divide 30 = .ok (.if_icmp .ge 37, 3) := by decide +kernel
theorem dX4_divide_33 : decode cX4_divide 33 = .ok (.aload_n 0, 1) := by decide +kernel
theorem dX4_divide_34 : decode cX4_divide 34 = .ok (.getfield 15, 3) := by decide +kernel
theorem dX4_divide_37 : decode cX4_divide 37 = .ok (.iload 4, 2) := by decide +kernel
theorem dX4_divide_39 : decode cX4_divide 39 = .ok (.iload_n 1, 1) := by decide +kernel
theorem dX4_divide_40 : decode cX4_divide 40 = .ok (.aload_n 0, 1) := by decide +kernel
theorem dX4_divide_41 : decode cX4_divide 41 = .ok (.getfield 9, 3) := by decide +kernel
theorem dX4_divide_44 : decode cX4_divide 44 = .ok (.iload 4, 2) := by decide +kernel
theorem dX4_divide_46 : decode cX4_divide 46 = .ok (.iaload, 1) := by decide +kernel
theorem dX4_divide_47 : decode cX4_divide 47 = .ok (.imul, 1) := by decide +kernel
theorem dX4_divide_48 : decode cX4_divide 48 = .ok (.iload_n 2, 1) := by decide +kernel
theorem dX4_divide_49 : decode cX4_divide 49 = .ok (.idiv, 1) := by decide +kernel
theorem dX4_divide_50 : decode cX4_divide 50 = .ok (.iastore, 1) := by decide +kernel
theorem dX4_divide_51 : decode cX4_divide 51 = .ok (.iload_n 3, 1) := by decide +kernel
theorem dX4_divide_52 : decode cX4_divide 52 = .ok (.aload_n 0, 1) := by decide +kernel
theorem dX4_divide_53 : decode cX4_divide 53 = .ok (.getfield 15, 3) := by decide +kernel
theorem dX4_divide_56 : decode cX4_divide 56 = .ok (.iload 4, 2) := by decide +kernel
theorem dX4_divide_58 : decode cX4_divide 58 = .ok (.iaload, 1) := by decide +kernel
theorem dX4_divide_59 : decode cX4_divide 59 = .ok (.isub, 1) := by decide +kernel
theorem dX4_divide_60 : decode cX4_divide 60 = .ok (.istore_n 3, 1) := by decide +kernel
theorem dX4_divide_61 : decode cX4_divide 61 = .ok (.iinc 4 1, 3) := by decide +kernel
theorem dX4_divide_64 : decode cX4_divide 64 = .ok (.goto (-38), 3) := by decide +kernel
theorem dX4_divide_67 : decode cX4_divide 67 = .ok (.iconst 0, 1) := by decide +kernel
theorem dX4_divide_68 : decode cX4_divide 68 = .ok (.istore 4, 2) := by decide +kernel
theorem dX4_divide_70 : decode cX4_divide 70 = .ok (.iload 4, 2) := by decide +kernel
theorem dX4_divide_72 : decode cX4_divide 72 = .ok (.bipush 6, 2) := by decide +kernel
theorem dX4_divide_74 : decode cX4_divide 74 = .ok (.if_icmp .ge 37, 3) := by decide +kernel
theorem dX4_divide_77 : decode cX4_divide 77 = .ok (.iload_n 3, 1) := by decide +kernel
theorem dX4_divide_78 : decode cX4_divide 78 = .ok (.ifCond .le 33, 3) := by decide +kernel
theorem dX4_divide_81 : decode cX4_divide 81 = .ok (.aload_n 0, 1) := by decide +kernel
theorem dX4_divide_82 : decode cX4_divide 82 = .ok (.getfield 9, 3) := by decide +kernel
theorem dX4_divide_85 : decode cX4_divide 85 = .ok (.iload 4, 2) := by decide +kernel
theorem dX4_divide_87 : decode cX4_divide 87 = .ok (.iaload, 1) := by decide +kernel
theorem dX4_divide_88 : decode cX4_divide 88 = .ok (.ifCond .le 17, 3) := by decide +kernel
theorem dX4_divide_91 : decode cX4_divide 91 = .ok (.aload_n 0, 1) := by decide +kernel
theorem dX4_divide_92 : decode cX4_divide 92 = .ok (.getfield 15, 3) := by decide +kernel
theorem dX4_divide_95 : decode cX4_divide 95 = .ok (.iload 4, 2) := by decide +kernel
theorem dX4_divide_97 : decode cX4_divide 97 = .ok (.dup2, 1) := by decide +kernel
theorem dX4_divide_98 : decode cX4_divide 98 = .ok (.iaload, 1) := by decide +kernel
theorem dX4_divide_99 : decode cX4_divide 99 = .ok (.iconst 1, 1) := by decide +kernel
theorem dX4_divide_100 : decode cX4_divide 100 = .ok (.iadd, 1) := by decide +kernel
theorem dX4_divide_101 : decode cX4_divide 101 = .ok (.iastore, 1) := by decide +kernel
theorem dX4_divide_102 : decode cX4_divide 102 = .ok (.iinc 3 (-1), 3) := by decide +kernel
theorem dX4_divide_105 : decode cX4_divide 105 = .ok (.iinc 4 1, 3) := by decide +kernel
theorem dX4_divide_108 : decode cX4_divide 108 = .ok (.goto (-38), 3) := by decide +kernel
theorem dX4_divide_111 : decode cX4_divide 111 = .ok (.return_, 1) := by decide +kernel
theorem dX5_init_0 : decode cX5_init 0 = .ok (.aload_n 0, 1) := by decide +kernel
theorem dX5_init_1 : decode cX5_init 1 = .ok (.invokespecial 1, 3) := by decide +kernel
theorem dX5_init_4 : decode cX5_init 4 = .ok (.aload_n 0, 1) := by decide +kernel
theorem dX5_init_5 : decode cX5_init 5 = .ok (.new 7, 3) := by decide +kernel
theorem dX5_init_8 : decode cX5_init 8 = .ok (.dup, 1) := by decide +kernel
theorem dX5_init_9 : decode cX5_init 9 = .ok (.invokespecial 9, 3) := by decide +kernel
theorem dX5_init_12 : decode cX5_init 12 = .ok (.putfield 10, 3) := by decide +kernel
theorem dX5_init_15 : decode cX5_init 15 = .ok (.aload_n 0, 1) := by decide +kernel
theorem dX5_init_16 : decode cX5_init 16 = .ok (.new 7, 3) := by decide +kernel
theorem dX5_init_19 : decode cX5_init 19 = .ok (.dup, 1) := by decide +kernel
theorem dX5_init_20 : decode cX5_init 20 = .ok (.invokespecial 9, 3) := by decide +kernel
theorem dX5_init_23 : decode cX5_init 23 = .ok (.putfield 16, 3) := by decide +kernel
theorem dX5_init_26 : decode cX5_init 26 = .ok (.aload_n 0, 1) := by decide +kernel
theorem dX5_init_27 : decode cX5_init 27 = .ok (.bipush 6, 2) := by decide +kernel
theorem dX5_init_29 : decode cX5_init 29 = .ok (.anewarray 7, 3) := by decide +kernel
theorem dX5_init_32 : decode cX5_init 32 = .ok (.putfield 19, 3) := by decide +kernel
theorem dX5_init_35 : decode cX5_init 35 = .ok (.aload_n 0, 1) := by decide +kernel
theorem dX5_init_36 : decode cX5_init 36 = .ok (.iconst 2, 1) := by decide +kernel
theorem dX5_init_37 : decode cX5_init 37 = .ok (.anewarray 7, 3) := by decide +kernel
theorem dX5_init_40 : decode cX5_init 40 = .ok (.putfield 23, 3) := by decide +kernel
theorem dX5_init_43 : decode cX5_init 43 = .ok (.aload_n 0, 1) := by decide +kernel
theorem dX5_init_44 : decode cX5_init 44 = .ok (.iconst 2, 1) := by decide +kernel
theorem dX5_init_45 : decode cX5_init 45 = .ok (.newarray .boolean, 2) := by decide +kernel
theorem dX5_init_47 : decode cX5_init 47 = .ok (.putfield 26, 3) := by decide +kernel
theorem dX5_init_50 : decode cX5_init 50 = .ok (.aload_n 0, 1) := by decide +kernel
theorem dX5_init_51 : decode cX5_init 51 = .ok (.new 30, 3) := by decide +kernel
theorem dX5_init_54 : decode cX5_init 54 = .ok (.dup, 1) := by decide +kernel
theorem dX5_init_55 : decode cX5_init 55 = .ok (.invokespecial 32, 3) := by decide +kernel
theorem dX5_init_58 : decode cX5_init 58 = .ok (.putfield 33, 3) := by decide +kernel
theorem dX5_init_61 : decode cX5_init 61 = .ok (.aload_n 0, 1) := by decide +kernel
theorem dX5_init_62 : decode cX5_init 62 = .ok (.new 37, 3) := by decide +kernel
theorem dX5_init_65 : decode cX5_init 65 = .ok (.dup, 1) := by decide +kernel
theorem dX5_init_66 : decode cX5_init 66 = .ok (.invokespecial 39, 3) := by decide +kernel
theorem dX5_init_69 : decode cX5_init 69 = .ok (.putfield 40, 3) := by decide +kernel
theorem dX5_init_72 : decode cX5_init 72 = .ok (.iconst 0, 1) := by decide +kernel
theorem dX5_init_73 : decode cX5_init 73 = .ok (.istore_n 1, 1) := by decide +kernel
theorem dX5_init_74 : decode cX5_init 74 = .ok (.iload_n 1, 1) := by decide +kernel
theorem dX5_init_75 : decode cX5_init 75 = .ok (.bipush 6, 2) := by decide +kernel
theorem dX5_init_77 : decode cX5_init 77 = .ok (.if_icmp .ge 22, 3) := by decide +kernel
theorem dX5_init_80 : decode cX5_init 80 = .ok (.aload_n 0, 1) := by decide +kernel
theorem dX5_init_81 : decode cX5_init 81 = .ok (.getfield 19, 3) := by decide +kernel
theorem dX5_init_84 : decode cX5_init 84 = .ok (.iload_n 1, 1) := by decide +kernel
theorem dX5_init_85 : decode cX5_init 85 = .ok (.new 7, 3) := by decide +kernel
theorem dX5_init_88 : decode cX5_init 88 = .ok (.dup, 1) := by decide +kernel
theorem dX5_init_89 : decode cX5_init 89 = .ok (.invokespecial 9, 3) := by decide +kernel
theorem dX5_init_92 : decode cX5_init 92 = .ok (.aastore, 1) := by decide +kernel
theorem dX5_init_93 : decode cX5_init 93 = .ok (.iinc 1 1, 3) := by decide +kernel
theorem dX5_init_96 : decode cX5_init 96 = .ok (.goto (-22), 3) := by decide +kernel
theorem dX5_init_99 : decode cX5_init 99 = .ok (.iconst 0, 1) := by decide +kernel
theorem dX5_init_100 : decode cX5_init 100 = .ok (.istore_n 1, 1) := by decide +kernel
theorem dX5_init_101 : decode cX5_init 101 = .ok (.iload_n 1, 1) := by decide +kernel
theorem dX5_init_102 : decode cX5_init 102 = .ok (.iconst 2, 1) := by decide +kernel
theorem dX5_init_103 : decode cX5_init 103 = .ok (.if_icmp .ge 22, 3) := by decide +kernel
theorem dX5_init_106 : decode cX5_init 106 = .ok (.aload_n 0, 1) := by decide +kernel
theorem dX5_init_107 : decode cX5_init 107 = .ok (.getfield 23, 3) := by decide +kernel
theorem dX5_init_110 : decode cX5_init 110 = .ok (.iload_n 1, 1) := by decide +kernel
theorem dX5_init_111 : decode cX5_init 111 = .ok (.new 7, 3) := by decide +kernel
theorem dX5_init_114 : decode cX5_init 114 = .ok (.dup, 1) := by decide +kernel
theorem dX5_init_115 : decode cX5_init 115 = .ok (.invokespecial 9, 3) := by decide +kernel
theorem dX5_init_118 : decode cX5_init 118 = .ok (.aastore, 1) := by decide +kernel
theorem dX5_init_119 : decode cX5_init 119 = .ok (.iinc 1 1, 3) := by decide +kernel
theorem dX5_init_122 : decode cX5_init 122 = .ok (.goto (-21), 3) := by decide +kernel
theorem dX5_init_125 : decode cX5_init 125 = .ok (.return_, 1) := by decide +kernel
theorem dX5_set_0 : decode cX5_set 0 = .ok (.iload_n 1, 1) := by decide +kernel
theorem dX5_set_1 : decode cX5_set 1 = .ok (.ifCond .lt 11, 3) := by decide +kernel
theorem dX5_set_4 : decode cX5_set 4 = .ok (.iload_n 1, 1) := by decide +kernel
theorem dX5_set_5 : decode cX5_set 5 = .ok (.getstatic 44, 3) := by decide +kernel
theorem dX5_set_8 : decode cX5_set 8 = .ok (.arraylength, 1) := by decide +kernel
theorem dX5_set_9 : decode cX5_set 9 = .ok (.if_icmp .lt 6, 3) := by decide +kernel
theorem dX5_set_12 : decode cX5_set 12 = .ok (.ldc 48, 2) := by decide +kernel
theorem dX5_set_14 : decode cX5_set 14 = .ok (.ireturn, 1) := by decide +kernel
theorem dX5_set_15 : decode cX5_set 15 = .ok (.iload_n 2, 1) := by decide +kernel
theorem dX5_set_16 : decode cX5_set 16 = .ok (.getstatic 44, 3) := by decide +kernel
theorem dX5_set_19 : decode cX5_set 19 = .ok (.iload_n 1, 1) := by decide +kernel
theorem dX5_set_20 : decode cX5_set 20 = .ok (.iaload, 1) := by decide +kernel
theorem dX5_set_21 : decode cX5_set 21 = .ok (.if_icmp .lt 12, 3) := by decide +kernel
theorem dX5_set_24 : decode cX5_set 24 = .ok (.iload_n 2, 1) := by decide +kernel
theorem dX5_set_25 : decode cX5_set 25 = .ok (.getstatic 49, 3) := by decide +kernel
theorem dX5_set_28 : decode cX5_set 28 = .ok (.iload_n 1, 1) := by decide +kernel
theorem dX5_set_29 : decode cX5_set 29 = .ok (.iaload, 1) := by decide +kernel
theorem dX5_set_30 : decode cX5_set 30 = .ok (.if_icmp .le 6, 3) := by decide +kernel
theorem dX5_set_33 : decode cX5_set 33 = .ok (.ldc 48, 2) := by decide +kernel
theorem dX5_set_35 : decode cX5_set 35 = .ok (.ireturn, 1) := by decide +kernel
theorem dX5_set_36 : decode cX5_set 36 = .ok (.aload_n 0, 1) := by decide +kernel
theorem dX5_set_37 : decode cX5_set 37 = .ok (.invokevirtual 52, 3) := by decide +kernel
theorem dX5_set_40 : decode cX5_set 40 = .ok (.aload_n 0, 1) := by decide +kernel
theorem dX5_set_41 : decode cX5_set 41 = .ok (.getfield 10, 3) := by decide +kernel
theorem dX5_set_44 : decode cX5_set 44 = .ok (.getfield 55, 3) := by decide +kernel
theorem dX5_set_47 : decode cX5_set 47 = .ok (.iload_n 1, 1) := by decide +kernel
theorem dX5_set_48 : decode cX5_set 48 = .ok (.iaload, 1) := by decide +kernel
theorem dX5_set_49 : decode cX5_set 49 = .ok (.istore_n 3, 1) := by decide +kernel
theorem dX5_set_50 : decode cX5_set 50 = .ok (.aload_n 0, 1) := by decide +kernel
theorem dX5_set_51 : decode cX5_set 51 = .ok (.getfield 10, 3) := by decide +kernel
theorem dX5_set_54 : decode cX5_set 54 = .ok (.getfield 55, 3) := by decide +kernel
theorem dX5_set_57 : decode cX5_set 57 = .ok (.iload_n 1, 1) := by decide +kernel
theorem dX5_set_58 : decode cX5_set 58 = .ok (.iload_n 2, 1) := by decide +kernel
theorem dX5_set_59 : decode cX5_set 59 = .ok (.iastore, 1) := by decide +kernel
theorem dX5_set_60 : decode cX5_set 60 = .ok (.iload_n 3, 1) := by decide +kernel
theorem dX5_set_61 : decode cX5_set 61 = .ok (.ireturn, 1) := by decide +kernel
theorem dX5_snap_0 : decode cX5_snap 0 = .ok (.iload_n 1, 1) := by decide +kernel
theorem dX5_snap_1 : decode cX5_snap 1 = .ok (.invokestatic 58, 3) := by decide +kernel
theorem dX5_snap_4 : decode cX5_snap 4 = .ok (.ifCond .eq 10, 3) := by decide +kernel
theorem dX5_snap_7 : decode cX5_snap 7 = .ok (.iload_n 2, 1) := by decide +kernel
theorem dX5_snap_8 : decode cX5_snap 8 = .ok (.invokestatic 62, 3) := by decide +kernel
theorem dX5_snap_11 : decode cX5_snap 11 = .ok (.ifCond .ne 6, 3) := by decide +kernel
theorem dX5_snap_14 : decode cX5_snap 14 = .ok (.ldc 65, 2) := by decide +kernel
theorem dX5_snap_16 : decode cX5_snap 16 = .ok (.ireturn, 1) := by decide +kernel
theorem dX5_snap_17 : decode cX5_snap 17 = .ok (.aload_n 0, 1) := by decide +kernel
theorem dX5_snap_18 : decode cX5_snap 18 = .ok (.getfield 10, 3) := by decide +kernel
theorem dX5_snap_21 : decode cX5_snap 21 = .ok (.getfield 66, 3) := by decide +kernel
theorem dX5_snap_24 : decode cX5_snap 24 = .ok (.iload_n 1, 1) := by decide +kernel
theorem dX5_snap_25 : decode cX5_snap 25 = .ok (.iaload, 1) := by decide +kernel
theorem dX5_snap_26 : decode cX5_snap 26 = .ok (.iload_n 2, 1) := by decide +kernel
theorem dX5_snap_27 : decode cX5_snap 27 = .ok (.invokestatic 69, 3) := by decide +kernel
theorem dX5_snap_30 : decode cX5_snap 30 = .ok (.ifCond .eq 6, 3) := by decide +kernel
theorem dX5_snap_33 : decode cX5_snap 33 = .ok (.ldc 73, 2) := by decide +kernel
theorem dX5_snap_35 : decode cX5_snap 35 = .ok (.ireturn, 1) := by decide +kernel
theorem dX5_snap_36 : decode cX5_snap 36 = .ok (.aload_n 0, 1) := by decide +kernel
theorem dX5_snap_37 : decode cX5_snap 37 = .ok (.invokevirtual 52, 3) := by decide +kernel
theorem dX5_snap_40 : decode cX5_snap 40 = .ok (.aload_n 0, 1) := by decide +kernel
theorem dX5_snap_41 : decode cX5_snap 41 = .ok (.getfield 10, 3) := by decide +kernel
theorem dX5_snap_44 : decode cX5_snap 44 = .ok (.getfield 66, 3) := by decide +kernel
theorem dX5_snap_47 : decode cX5_snap 47 = .ok (.iload_n 1, 1) := by decide +kernel
theorem dX5_snap_48 : decode cX5_snap 48 = .ok (.dup2, 1) := by decide +kernel
theorem dX5_snap_49 : decode cX5_snap 49 = .ok (.iaload, 1) := by decide +kernel
theorem dX5_snap_50 : decode cX5_snap 50 = .ok (.iconst 1, 1) := by decide +kernel
theorem dX5_snap_51 : decode cX5_snap 51 = .ok (.iload_n 2, 1) := by decide +kernel
theorem dX5_snap_52 : decode cX5_snap 52 = .ok (.ishl, 1) := by decide +kernel
theorem dX5_snap_53 : decode cX5_snap 53 = .ok (.ior, 1) := by decide +kernel
theorem dX5_snap_54 : decode cX5_snap 54 = .ok (.iastore, 1) := by decide +kernel
theorem dX5_snap_55 : decode cX5_snap 55 = .ok (.aload_n 0, 1) := by decide +kernel
theorem dX5_snap_56 : decode cX5_snap 56 = .ok (.getfield 10, 3) := by decide +kernel
theorem dX5_snap_59 : decode cX5_snap 59 = .ok (.getfield 66, 3) := by decide +kernel
theorem dX5_snap_62 : decode cX5_snap 62 = .ok (.iload_n 1, 1) := by decide +kernel
theorem dX5_snap_63 : decode cX5_snap 63 = .ok (.iaload, 1) := by decide +kernel
theorem dX5_snap_64 : decode cX5_snap 64 = .ok (.invokestatic 74, 3) := by decide +kernel
theorem dX5_snap_67 : decode cX5_snap 67 = .ok (.ireturn, 1) := by decide +kernel
theorem dX5_fit_0 : decode cX5_fit 0 = .ok (.iload_n 1, 1) := by decide +kernel
theorem dX5_fit_1 : decode cX5_fit 1 = .ok (.invokestatic 58, 3) := by decide +kernel
theorem dX5_fit_4 : decode cX5_fit 4 = .ok (.ifCond .eq 17, 3) := by decide +kernel
theorem dX5_fit_7 : decode cX5_fit 7 = .ok (.iload_n 2, 1) := by decide +kernel
theorem dX5_fit_8 : decode cX5_fit 8 = .ok (.invokestatic 62, 3) := by decide +kernel
end
section
theorem dX5_fit_11 : decode cX5_fit 11 = .ok (.ifCond .eq 10, 3) := by decide +kernel
theorem dX5_fit_14 : decode cX5_fit 14 = .ok (.iload_n 3, 1) := by decide +kernel
theorem dX5_fit_15 : decode cX5_fit 15 = .ok (.invokestatic 62, 3) := by decide +kernel
theorem dX5_fit_18 : decode cX5_fit 18 = .ok (.ifCond .ne 6, 3) := by decide +kernel
theorem dX5_fit_21 : decode cX5_fit 21 = .ok (.ldc 65, 2) := by decide +kernel
theorem dX5_fit_23 : decode cX5_fit 23 = .ok (.ireturn, 1) := by decide +kernel
theorem dX5_fit_24 : decode cX5_fit 24 = .ok (.aload_n 0, 1) := by decide +kernel
theorem dX5_fit_25 : decode cX5_fit 25 = .ok (.getfield 10, 3) := by decide +kernel
theorem dX5_fit_28 : decode cX5_fit 28 = .ok (.getfield 66, 3) := by decide +kernel
theorem dX5_fit_31 : decode cX5_fit 31 = .ok (.iload_n 1, 1) := by decide +kernel
theorem dX5_fit_32 : decode cX5_fit 32 = .ok (.iaload, 1) := by decide +kernel
theorem dX5_fit_33 : decode cX5_fit 33 = .ok (.iload_n 2, 1) := by decide +kernel
theorem dX5_fit_34 : decode cX5_fit 34 = .ok (.invokestatic 69, 3) := by decide +kernel
theorem dX5_fit_37 : decode cX5_fit 37 = .ok (.ifCond .eq 13, 3) := by decide +kernel
theorem dX5_fit_40 : decode cX5_fit 40 = .ok (.iload_n 3, 1) := by decide +kernel
theorem dX5_fit_41 : decode cX5_fit 41 = .ok (.iload_n 2, 1) := by decide +kernel
theorem dX5_fit_42 : decode cX5_fit 42 = .ok (.isub, 1) := by decide +kernel
theorem dX5_fit_43 : decode cX5_fit 43 = .ok (.invokestatic 80, 3) := by decide +kernel
theorem dX5_fit_46 : decode cX5_fit 46 = .ok (.iconst 1, 1) := by decide +kernel
theorem dX5_fit_47 : decode cX5_fit 47 = .ok (.if_icmp .le 6, 3) := by decide +kernel
theorem dX5_fit_50 : decode cX5_fit 50 = .ok (.ldc 73, 2) := by decide +kernel
theorem dX5_fit_52 : decode cX5_fit 52 = .ok (.ireturn, 1) := by decide +kernel
theorem dX5_fit_53 : decode cX5_fit 53 = .ok (.aload_n 0, 1) := by decide +kernel
theorem dX5_fit_54 : decode cX5_fit 54 = .ok (.getfield 10, 3) := by decide +kernel
theorem dX5_fit_57 : decode cX5_fit 57 = .ok (.getfield 85, 3) := by decide +kernel
theorem dX5_fit_60 : decode cX5_fit 60 = .ok (.iload_n 1, 1) := by decide +kernel
theorem dX5_fit_61 : decode cX5_fit 61 = .ok (.aaload, 1) := by decide +kernel
theorem dX5_fit_62 : decode cX5_fit 62 = .ok (.iload_n 3, 1) := by decide +kernel
theorem dX5_fit_63 : decode cX5_fit 63 = .ok (.iaload, 1) := by decide +kernel
theorem dX5_fit_64 : decode cX5_fit 64 = .ok (.ifCond .ne 6, 3) := by decide +kernel
theorem dX5_fit_67 : decode cX5_fit 67 = .ok (.ldc 73, 2) := by decide +kernel
theorem dX5_fit_69 : decode cX5_fit 69 = .ok (.ireturn, 1) := by decide +kernel
theorem dX5_fit_70 : decode cX5_fit 70 = .ok (.aload_n 0, 1) := by decide +kernel
theorem dX5_fit_71 : decode cX5_fit 71 = .ok (.invokevirtual 52, 3) := by decide +kernel
theorem dX5_fit_74 : decode cX5_fit 74 = .ok (.aload_n 0, 1) := by decide +kernel
theorem dX5_fit_75 : decode cX5_fit 75 = .ok (.getfield 10, 3) := by decide +kernel
theorem dX5_fit_78 : decode cX5_fit 78 = .ok (.getfield 66, 3) := by decide +kernel
theorem dX5_fit_81 : decode cX5_fit 81 = .ok (.iload_n 1, 1) := by decide +kernel
theorem dX5_fit_82 : decode cX5_fit 82 = .ok (.dup2, 1) := by decide +kernel
theorem dX5_fit_83 : decode cX5_fit 83 = .ok (.iaload, 1) := by decide +kernel
theorem dX5_fit_84 : decode cX5_fit 84 = .ok (.iconst 1, 1) := by decide +kernel
theorem dX5_fit_85 : decode cX5_fit 85 = .ok (.iload_n 2, 1) := by decide +kernel
theorem dX5_fit_86 : decode cX5_fit 86 = .ok (.ishl, 1) := by decide +kernel
theorem dX5_fit_87 : decode cX5_fit 87 = .ok (.iconst (-1), 1) := by decide +kernel
theorem dX5_fit_88 : decode cX5_fit 88 = .ok (.ixor, 1) := by decide +kernel
theorem dX5_fit_89 : decode cX5_fit 89 = .ok (.iand, 1) := by decide +kernel
theorem dX5_fit_90 : decode cX5_fit 90 = .ok (.iastore, 1) := by decide +kernel
theorem dX5_fit_91 : decode cX5_fit 91 = .ok (.aload_n 0, 1) := by decide +kernel
theorem dX5_fit_92 : decode cX5_fit 92 = .ok (.getfield 10, 3) := by decide +kernel
theorem dX5_fit_95 : decode cX5_fit 95 = .ok (.getfield 85, 3) := by decide +kernel
theorem dX5_fit_98 : decode cX5_fit 98 = .ok (.iload_n 1, 1) := by decide +kernel
theorem dX5_fit_99 : decode cX5_fit 99 = .ok (.aaload, 1) := by decide +kernel
theorem dX5_fit_100 : decode cX5_fit 100 = .ok (.iload_n 3, 1) := by decide +kernel
theorem dX5_fit_101 : decode cX5_fit 101 = .ok (.dup2, 1) := by decide +kernel
theorem dX5_fit_102 : decode cX5_fit 102 = .ok (.iaload, 1) := by decide +kernel
theorem dX5_fit_103 : decode cX5_fit 103 = .ok (.iconst 1, 1) := by decide +kernel
theorem dX5_fit_104 : decode cX5_fit 104 = .ok (.isub, 1) := by decide +kernel
theorem dX5_fit_105 : decode cX5_fit 105 = .ok (.iastore, 1) := by decide +kernel
theorem dX5_fit_106 : decode cX5_fit 106 = .ok (.aload_n 0, 1) := by decide +kernel
theorem dX5_fit_107 : decode cX5_fit 107 = .ok (.getfield 10, 3) := by decide +kernel
theorem dX5_fit_110 : decode cX5_fit 110 = .ok (.getfield 85, 3) := by decide +kernel
theorem dX5_fit_113 : decode cX5_fit 113 = .ok (.iload_n 1, 1) := by decide +kernel
theorem dX5_fit_114 : decode cX5_fit 114 = .ok (.aaload, 1) := by decide +kernel
theorem dX5_fit_115 : decode cX5_fit 115 = .ok (.iload_n 3, 1) := by decide +kernel
theorem dX5_fit_116 : decode cX5_fit 116 = .ok (.iaload, 1) := by decide +kernel
theorem dX5_fit_117 : decode cX5_fit 117 = .ok (.ireturn, 1) := by decide +kernel
theorem dX5_want_0 : decode cX5_want 0 = .ok (.iload_n 1, 1) := by decide +kernel
theorem dX5_want_1 : decode cX5_want 1 = .ok (.invokestatic 58, 3) := by decide +kernel
theorem dX5_want_4 : decode cX5_want 4 = .ok (.ifCond .eq 10, 3) := by decide +kernel
theorem dX5_want_7 : decode cX5_want 7 = .ok (.iload_n 2, 1) := by decide +kernel
theorem dX5_want_8 : decode cX5_want 8 = .ok (.invokestatic 62, 3) := by decide +kernel
theorem dX5_want_11 : decode cX5_want 11 = .ok (.ifCond .ne 6, 3) := by decide +kernel
theorem dX5_want_14 : decode cX5_want 14 = .ok (.ldc 65, 2) := by decide +kernel
theorem dX5_want_16 : decode cX5_want 16 = .ok (.ireturn, 1) := by decide +kernel
theorem dX5_want_17 : decode cX5_want 17 = .ok (.iload_n 3, 1) := by decide +kernel
theorem dX5_want_18 : decode cX5_want 18 = .ok (.ifCond .lt 9, 3) := by decide +kernel
theorem dX5_want_21 : decode cX5_want 21 = .ok (.iload_n 3, 1) := by decide +kernel
theorem dX5_want_22 : decode cX5_want 22 = .ok (.bipush 20, 2) := by decide +kernel
theorem dX5_want_24 : decode cX5_want 24 = .ok (.if_icmp .le 6, 3) := by decide +kernel
theorem dX5_want_27 : decode cX5_want 27 = .ok (.ldc 48, 2) := by decide +kernel
theorem dX5_want_29 : decode cX5_want 29 = .ok (.ireturn, 1) := by decide +kernel
theorem dX5_want_30 : decode cX5_want 30 = .ok (.aload_n 0, 1) := by decide +kernel
theorem dX5_want_31 : decode cX5_want 31 = .ok (.invokevirtual 52, 3) := by decide +kernel
theorem dX5_want_34 : decode cX5_want 34 = .ok (.aload_n 0, 1) := by decide +kernel
theorem dX5_want_35 : decode cX5_want 35 = .ok (.getfield 10, 3) := by decide +kernel
theorem dX5_want_38 : decode cX5_want 38 = .ok (.getfield 89, 3) := by decide +kernel
theorem dX5_want_41 : decode cX5_want 41 = .ok (.iload_n 1, 1) := by decide +kernel
theorem dX5_want_42 : decode cX5_want 42 = .ok (.aaload, 1) := by decide +kernel
theorem dX5_want_43 : decode cX5_want 43 = .ok (.iload_n 2, 1) := by decide +kernel
theorem dX5_want_44 : decode cX5_want 44 = .ok (.iload_n 3, 1) := by decide +kernel
theorem dX5_want_45 : decode cX5_want 45 = .ok (.iastore, 1) := by decide +kernel
theorem dX5_want_46 : decode cX5_want 46 = .ok (.aload_n 0, 1) := by decide +kernel
theorem dX5_want_47 : decode cX5_want 47 = .ok (.bipush 63, 2) := by decide +kernel
theorem dX5_want_49 : decode cX5_want 49 = .ok (.invokevirtual 92, 3) := by decide +kernel
theorem dX5_want_52 : decode cX5_want 52 = .ok (.ireturn, 1) := by decide +kernel
theorem dX5_read_0 : decode cX5_read 0 = .ok (.aload_n 0, 1) := by decide +kernel
theorem dX5_read_1 : decode cX5_read 1 = .ok (.getfield 33, 3) := by decide +kernel
theorem dX5_read_4 : decode cX5_read 4 = .ok (.invokevirtual 95, 3) := by decide +kernel
theorem dX5_read_7 : decode cX5_read 7 = .ok (.ldc 99, 2) := by decide +kernel
theorem dX5_read_9 : decode cX5_read 9 = .ok (.if_icmp .eq 6, 3) := by decide +kernel
theorem dX5_read_12 : decode cX5_read 12 = .ok (.ldc 100, 2) := by decide +kernel
theorem dX5_read_14 : decode cX5_read 14 = .ok (.ireturn, 1) := by decide +kernel
theorem dX5_read_15 : decode cX5_read 15 = .ok (.aload_n 0, 1) := by decide +kernel
theorem dX5_read_16 : decode cX5_read 16 = .ok (.invokevirtual 52, 3) := by decide +kernel
theorem dX5_read_19 : decode cX5_read 19 = .ok (.aload_n 0, 1) := by decide +kernel
theorem dX5_read_20 : decode cX5_read 20 = .ok (.getfield 33, 3) := by decide +kernel
theorem dX5_read_23 : decode cX5_read 23 = .ok (.aload_n 0, 1) := by decide +kernel
theorem dX5_read_24 : decode cX5_read 24 = .ok (.getfield 10, 3) := by decide +kernel
theorem dX5_read_27 : decode cX5_read 27 = .ok (.invokevirtual 101, 3) := by decide +kernel
theorem dX5_read_30 : decode cX5_read 30 = .ok (.aload_n 0, 1) := by decide +kernel
theorem dX5_read_31 : decode cX5_read 31 = .ok (.getfield 33, 3) := by decide +kernel
theorem dX5_read_34 : decode cX5_read 34 = .ok (.iconst 0, 1) := by decide +kernel
theorem dX5_read_35 : decode cX5_read 35 = .ok (.putfield 105, 3) := by decide +kernel
theorem dX5_read_38 : decode cX5_read 38 = .ok (.aload_n 0, 1) := by decide +kernel
theorem dX5_read_39 : decode cX5_read 39 = .ok (.bipush 63, 2) := by decide +kernel
theorem dX5_read_41 : decode cX5_read 41 = .ok (.invokevirtual 92, 3) := by decide +kernel
theorem dX5_read_44 : decode cX5_read 44 = .ok (.ireturn, 1) := by decide +kernel
theorem dX5_pay_0 : decode cX5_pay 0 = .ok (.iload_n 1, 1) := by decide +kernel
theorem dX5_pay_1 : decode cX5_pay 1 = .ok (.invokestatic 58, 3) := by decide +kernel
theorem dX5_pay_4 : decode cX5_pay 4 = .ok (.ifCond .ne 6, 3) := by decide +kernel
theorem dX5_pay_7 : decode cX5_pay 7 = .ok (.ldc 65, 2) := by decide +kernel
theorem dX5_pay_9 : decode cX5_pay 9 = .ok (.ireturn, 1) := by decide +kernel
theorem dX5_pay_10 : decode cX5_pay 10 = .ok (.iload_n 2, 1) := by decide +kernel
theorem dX5_pay_11 : decode cX5_pay 11 = .ok (.iconst 1, 1) := by decide +kernel
theorem dX5_pay_12 : decode cX5_pay 12 = .ok (.if_icmp .lt 10, 3) := by decide +kernel
theorem dX5_pay_15 : decode cX5_pay 15 = .ok (.iload_n 2, 1) := by decide +kernel
theorem dX5_pay_16 : decode cX5_pay 16 = .ok (.sipush 1000, 3) := by decide +kernel
theorem dX5_pay_19 : decode cX5_pay 19 = .ok (.if_icmp .le 6, 3) := by decide +kernel
theorem dX5_pay_22 : decode cX5_pay 22 = .ok (.ldc 48, 2) := by decide +kernel
theorem dX5_pay_24 : decode cX5_pay 24 = .ok (.ireturn, 1) := by decide +kernel
theorem dX5_pay_25 : decode cX5_pay 25 = .ok (.aload_n 0, 1) := by decide +kernel
theorem dX5_pay_26 : decode cX5_pay 26 = .ok (.invokevirtual 52, 3) := by decide +kernel
theorem dX5_pay_29 : decode cX5_pay 29 = .ok (.aload_n 0, 1) := by decide +kernel
theorem dX5_pay_30 : decode cX5_pay 30 = .ok (.getfield 10, 3) := by decide +kernel
theorem dX5_pay_33 : decode cX5_pay 33 = .ok (.getfield 109, 3) := by decide +kernel
theorem dX5_pay_36 : decode cX5_pay 36 = .ok (.iload_n 1, 1) := by decide +kernel
theorem dX5_pay_37 : decode cX5_pay 37 = .ok (.dup2, 1) := by decide +kernel
theorem dX5_pay_38 : decode cX5_pay 38 = .ok (.iaload, 1) := by decide +kernel
theorem dX5_pay_39 : decode cX5_pay 39 = .ok (.iload_n 2, 1) := by decide +kernel
theorem dX5_pay_40 : decode cX5_pay 40 = .ok (.iadd, 1) := by decide +kernel
theorem dX5_pay_41 : decode cX5_pay 41 = .ok (.iastore, 1) := by decide +kernel
theorem dX5_pay_42 : decode cX5_pay 42 = .ok (.aload_n 0, 1) := by decide +kernel
theorem dX5_pay_43 : decode cX5_pay 43 = .ok (.getfield 10, 3) := by decide +kernel
theorem dX5_pay_46 : decode cX5_pay 46 = .ok (.getfield 109, 3) := by decide +kernel
theorem dX5_pay_49 : decode cX5_pay 49 = .ok (.iload_n 1, 1) := by decide +kernel
theorem dX5_pay_50 : decode cX5_pay 50 = .ok (.iaload, 1) := by decide +kernel
theorem dX5_pay_51 : decode cX5_pay 51 = .ok (.ireturn, 1) := by decide +kernel
theorem dX5_give_0 : decode cX5_give 0 = .ok (.iload_n 1, 1) := by decide +kernel
theorem dX5_give_1 : decode cX5_give 1 = .ok (.invokestatic 58, 3) := by decide +kernel
theorem dX5_give_4 : decode cX5_give 4 = .ok (.ifCond .eq 17, 3) := by decide +kernel
theorem dX5_give_7 : decode cX5_give 7 = .ok (.iload_n 2, 1) := by decide +kernel
theorem dX5_give_8 : decode cX5_give 8 = .ok (.invokestatic 58, 3) := by decide +kernel
theorem dX5_give_11 : decode cX5_give 11 = .ok (.ifCond .eq 10, 3) := by decide +kernel
theorem dX5_give_14 : decode cX5_give 14 = .ok (.iload_n 3, 1) := by decide +kernel
theorem dX5_give_15 : decode cX5_give 15 = .ok (.invokestatic 62, 3) := by decide +kernel
theorem dX5_give_18 : decode cX5_give 18 = .ok (.ifCond .ne 6, 3) := by decide +kernel
theorem dX5_give_21 : decode cX5_give 21 = .ok (.ldc 65, 2) := by decide +kernel
theorem dX5_give_23 : decode cX5_give 23 = .ok (.ireturn, 1) := by decide +kernel
theorem dX5_give_24 : decode cX5_give 24 = .ok (.iload_n 1, 1) := by decide +kernel
theorem dX5_give_25 : decode cX5_give 25 = .ok (.iload_n 2, 1) := by decide +kernel
theorem dX5_give_26 : decode cX5_give 26 = .ok (.if_icmp .eq 16, 3) := by decide +kernel
theorem dX5_give_29 : decode cX5_give 29 = .ok (.iload 4, 2) := by decide +kernel
theorem dX5_give_31 : decode cX5_give 31 = .ok (.iconst 1, 1) := by decide +kernel
theorem dX5_give_32 : decode cX5_give 32 = .ok (.if_icmp .lt 10, 3) := by decide +kernel
theorem dX5_give_35 : decode cX5_give 35 = .ok (.iload 4, 2) := by decide +kernel
theorem dX5_give_37 : decode cX5_give 37 = .ok (.bipush 20, 2) := by decide +kernel
theorem dX5_give_39 : decode cX5_give 39 = .ok (.if_icmp .le 6, 3) := by decide +kernel
theorem dX5_give_42 : decode cX5_give 42 = .ok (.ldc 48, 2) := by decide +kernel
theorem dX5_give_44 : decode cX5_give 44 = .ok (.ireturn, 1) := by decide +kernel
theorem dX5_give_45 : decode cX5_give 45 = .ok (.aload_n 0, 1) := by decide +kernel
theorem dX5_give_46 : decode cX5_give 46 = .ok (.getfield 10, 3) := by decide +kernel
theorem dX5_give_49 : decode cX5_give 49 = .ok (.getfield 85, 3) := by decide +kernel
theorem dX5_give_52 : decode cX5_give 52 = .ok (.iload_n 1, 1) := by decide +kernel
theorem dX5_give_53 : decode cX5_give 53 = .ok (.aaload, 1) := by decide +kernel
theorem dX5_give_54 : decode cX5_give 54 = .ok (.iload_n 3, 1) := by decide +kernel
theorem dX5_give_55 : decode cX5_give 55 = .ok (.iaload, 1) := by decide +kernel
theorem dX5_give_56 : decode cX5_give 56 = .ok (.iload 4, 2) := by decide +kernel
theorem dX5_give_58 : decode cX5_give 58 = .ok (.if_icmp .lt 22, 3) := by decide +kernel
theorem dX5_give_61 : decode cX5_give 61 = .ok (.aload_n 0, 1) := by decide +kernel
theorem dX5_give_62 : decode cX5_give 62 = .ok (.getfield 10, 3) := by decide +kernel
theorem dX5_give_65 : decode cX5_give 65 = .ok (.getfield 85, 3) := by decide +kernel
theorem dX5_give_68 : decode cX5_give 68 = .ok (.iload_n 2, 1) := by decide +kernel
theorem dX5_give_69 : decode cX5_give 69 = .ok (.aaload, 1) := by decide +kernel
theorem dX5_give_70 : decode cX5_give 70 = .ok (.iload_n 3, 1) := by decide +kernel
theorem dX5_give_71 : decode cX5_give 71 = .ok (.iaload, 1) := by decide +kernel
theorem dX5_give_72 : decode cX5_give 72 = .ok (.iload 4, 2) := by decide +kernel
theorem dX5_give_74 : decode cX5_give 74 = .ok (.iadd, 1) := by decide +kernel
theorem dX5_give_75 : decode cX5_give 75 = .ok (.bipush 99, 2) := by decide +kernel
theorem dX5_give_77 : decode cX5_give 77 = .ok (.if_icmp .le 6, 3) := by decide +kernel
theorem dX5_give_80 : decode cX5_give 80 = .ok (.ldc 73, 2) := by decide +kernel
theorem dX5_give_82 : decode cX5_give 82 = .ok (.ireturn, 1) := by decide +kernel
theorem dX5_give_83 : decode cX5_give 83 = .ok (.aload_n 0, 1) := by decide +kernel
theorem dX5_give_84 : decode cX5_give 84 = .ok (.invokevirtual 52, 3) := by decide +kernel
theorem dX5_give_87 : decode cX5_give 87 = .ok (.aload_n 0, 1) := by decide +kernel
theorem dX5_give_88 : decode cX5_give 88 = .ok (.getfield 10, 3) := by decide +kernel
theorem dX5_give_91 : decode cX5_give 91 = .ok (.getfield 85, 3) := by decide +kernel
theorem dX5_give_94 : decode cX5_give 94 = .ok (.iload_n 1, 1) := by decide +kernel
theorem dX5_give_95 : decode cX5_give 95 = .ok (.aaload, 1) := by decide +kernel
theorem dX5_give_96 : decode cX5_give 96 = .ok (.iload_n 3, 1) := by decide +kernel
theorem dX5_give_97 : decode cX5_give 97 = .ok (.dup2, 1) := by decide +kernel
theorem dX5_give_98 : decode cX5_give 98 = .ok (.iaload, 1) := by decide +kernel
theorem dX5_give_99 : decode cX5_give 99 = .ok (.iload 4, 2) := by decide +kernel
theorem dX5_give_101 : decode cX5_give 101 = .ok (.isub, 1) := by decide +kernel
theorem dX5_give_102 : decode cX5_give 102 = .ok (.iastore, 1) := by decide +kernel
theorem dX5_give_103 : decode cX5_give 103 = .ok (.aload_n 0, 1) := by decide +kernel
theorem dX5_give_104 : decode cX5_give 104 = .ok (.getfield 10, 3) := by decide +kernel
theorem dX5_give_107 : decode cX5_give 107 = .ok (.getfield 85, 3) := by decide +kernel
theorem dX5_give_110 : decode cX5_give 110 = .ok (.iload_n 2, 1) := by decide +kernel
theorem dX5_give_111 : decode cX5_give 111 = .ok (.aaload, 1) := by decide +kernel
theorem dX5_give_112 : decode cX5_give 112 = .ok (.iload_n 3, 1) := by decide +kernel
theorem dX5_give_113 : decode cX5_give 113 = .ok (.dup2, 1) := by decide +kernel
theorem dX5_give_114 : decode cX5_give 114 = .ok (.iaload, 1) := by decide +kernel
theorem dX5_give_115 : decode cX5_give 115 = .ok (.iload 4, 2) := by decide +kernel
theorem dX5_give_117 : decode cX5_give 117 = .ok (.iadd, 1) := by decide +kernel
theorem dX5_give_118 : decode cX5_give 118 = .ok (.iastore, 1) := by decide +kernel
theorem dX5_give_119 : decode cX5_give 119 = .ok (.aload_n 0, 1) := by decide +kernel
theorem dX5_give_120 : decode cX5_give 120 = .ok (.getfield 10, 3) := by decide +kernel
theorem dX5_give_123 : decode cX5_give 123 = .ok (.getfield 109, 3) := by decide +kernel
theorem dX5_give_126 : decode cX5_give 126 = .ok (.iload_n 1, 1) := by decide +kernel
theorem dX5_give_127 : decode cX5_give 127 = .ok (.dup2, 1) := by decide +kernel
theorem dX5_give_128 : decode cX5_give 128 = .ok (.iaload, 1) := by decide +kernel
theorem dX5_give_129 : decode cX5_give 129 = .ok (.iload 4, 2) := by decide +kernel
theorem dX5_give_131 : decode cX5_give 131 = .ok (.iload_n 3, 1) := by decide +kernel
theorem dX5_give_132 : decode cX5_give 132 = .ok (.invokestatic 112, 3) := by decide +kernel
theorem dX5_give_135 : decode cX5_give 135 = .ok (.imul, 1) := by decide +kernel
theorem dX5_give_136 : decode cX5_give 136 = .ok (.iadd, 1) := by decide +kernel
theorem dX5_give_137 : decode cX5_give 137 = .ok (.iastore, 1) := by decide +kernel
theorem dX5_give_138 : decode cX5_give 138 = .ok (.aload_n 0, 1) := by decide +kernel
theorem dX5_give_139 : decode cX5_give 139 = .ok (.getfield 10, 3) := by decide +kernel
theorem dX5_give_142 : decode cX5_give 142 = .ok (.getfield 109, 3) := by decide +kernel
theorem dX5_give_145 : decode cX5_give 145 = .ok (.iload_n 2, 1) := by decide +kernel
theorem dX5_give_146 : decode cX5_give 146 = .ok (.dup2, 1) := by decide +kernel
theorem dX5_give_147 : decode cX5_give 147 = .ok (.iaload, 1) := by decide +kernel
theorem dX5_give_148 : decode cX5_give 148 = .ok (.iload 4, 2) := by decide +kernel
theorem dX5_give_150 : decode cX5_give 150 = .ok (.iload_n 3, 1) := by decide +kernel
theorem dX5_give_151 : decode cX5_give 151 = .ok (.invokestatic 112, 3) := by decide +kernel
theorem dX5_give_154 : decode cX5_give 154 = .ok (.imul, 1) := by decide +kernel
theorem dX5_give_155 : decode cX5_give 155 = .ok (.isub, 1) := by decide +kernel
theorem dX5_give_156 : decode cX5_give 156 = .ok (.iastore, 1) := by decide +kernel
theorem dX5_give_157 : decode cX5_give 157 = .ok (.aload_n 0, 1) := by decide +kernel
theorem dX5_give_158 : decode cX5_give 158 = .ok (.getfield 10, 3) := by decide +kernel
theorem dX5_give_161 : decode cX5_give 161 = .ok (.getfield 109, 3) := by decide +kernel
theorem dX5_give_164 : decode cX5_give 164 = .ok (.iload_n 1, 1) := by decide +kernel
theorem dX5_give_165 : decode cX5_give 165 = .ok (.iaload, 1) := by decide +kernel
theorem dX5_give_166 : decode cX5_give 166 = .ok (.ireturn, 1) := by decide +kernel
theorem dX5_send_0 : decode cX5_send 0 = .ok (.iload_n 1, 1) := by decide +kernel
theorem dX5_send_1 : decode cX5_send 1 = .ok (.ifCond .eq 10, 3) := by decide +kernel
theorem dX5_send_4 : decode cX5_send 4 = .ok (.iload_n 1, 1) := by decide +kernel
theorem dX5_send_5 : decode cX5_send 5 = .ok (.invokestatic 115, 3) := by decide +kernel
theorem dX5_send_8 : decode cX5_send 8 = .ok (.ifCond .ne 6, 3) := by decide +kernel
theorem dX5_send_11 : decode cX5_send 11 = .ok (.ldc 48, 2) := by decide +kernel
theorem dX5_send_13 : decode cX5_send 13 = .ok (.ireturn, 1) := by decide +kernel
theorem dX5_send_14 : decode cX5_send 14 = .ok (.aload_n 0, 1) := by decide +kernel
theorem dX5_send_15 : decode cX5_send 15 = .ok (.getfield 40, 3) := by decide +kernel
theorem dX5_send_18 : decode cX5_send 18 = .ok (.aload_n 0, 1) := by decide +kernel
theorem dX5_send_19 : decode cX5_send 19 = .ok (.getfield 10, 3) := by decide +kernel
theorem dX5_send_22 : decode cX5_send 22 = .ok (.iload_n 1, 1) := by decide +kernel
theorem dX5_send_23 : decode cX5_send 23 = .ok (.invokevirtual 118, 3) := by decide +kernel
theorem dX5_send_26 : decode cX5_send 26 = .ok (.aload_n 0, 1) := by decide +kernel
theorem dX5_send_27 : decode cX5_send 27 = .ok (.getfield 40, 3) := by decide +kernel
theorem dX5_send_30 : decode cX5_send 30 = .ok (.getfield 122, 3) := by decide +kernel
theorem dX5_send_33 : decode cX5_send 33 = .ok (.ifCond .eq 23, 3) := by decide +kernel
theorem dX5_send_36 : decode cX5_send 36 = .ok (.aload_n 0, 1) := by decide +kernel
theorem dX5_send_37 : decode cX5_send 37 = .ok (.getfield 40, 3) := by decide +kernel
theorem dX5_send_40 : decode cX5_send 40 = .ok (.invokevirtual 125, 3) := by decide +kernel
theorem dX5_send_43 : decode cX5_send 43 = .ok (.aload_n 0, 1) := by decide +kernel
theorem dX5_send_44 : decode cX5_send 44 = .ok (.getfield 10, 3) := by decide +kernel
theorem dX5_send_47 : decode cX5_send 47 = .ok (.getfield 109, 3) := by decide +kernel
theorem dX5_send_50 : decode cX5_send 50 = .ok (.invokestatic 128, 3) := by decide +kernel
theorem dX5_send_53 : decode cX5_send 53 = .ok (.if_icmp .le 6, 3) := by decide +kernel
theorem dX5_send_56 : decode cX5_send 56 = .ok (.ldc 73, 2) := by decide +kernel
theorem dX5_send_58 : decode cX5_send 58 = .ok (.ireturn, 1) := by decide +kernel
theorem dX5_send_59 : decode cX5_send 59 = .ok (.aload_n 0, 1) := by decide +kernel
theorem dX5_send_60 : decode cX5_send 60 = .ok (.getfield 10, 3) := by decide +kernel
theorem dX5_send_63 : decode cX5_send 63 = .ok (.getfield 132, 3) := by decide +kernel
theorem dX5_send_66 : decode cX5_send 66 = .ok (.iconst 5, 1) := by decide +kernel
theorem dX5_send_67 : decode cX5_send 67 = .ok (.if_icmp .lt 6, 3) := by decide +kernel
theorem dX5_send_70 : decode cX5_send 70 = .ok (.ldc 135, 2) := by decide +kernel
theorem dX5_send_72 : decode cX5_send 72 = .ok (.ireturn, 1) := by decide +kernel
theorem dX5_send_73 : decode cX5_send 73 = .ok (.aload_n 0, 1) := by decide +kernel
theorem dX5_send_74 : decode cX5_send 74 = .ok (.invokevirtual 52, 3) := by decide +kernel
theorem dX5_send_77 : decode cX5_send 77 = .ok (.aload_n 0, 1) := by decide +kernel
theorem dX5_send_78 : decode cX5_send 78 = .ok (.getfield 10, 3) := by decide +kernel
theorem dX5_send_81 : decode cX5_send 81 = .ok (.aload_n 0, 1) := by decide +kernel
theorem dX5_send_82 : decode cX5_send 82 = .ok (.getfield 40, 3) := by decide +kernel
theorem dX5_send_85 : decode cX5_send 85 = .ok (.iload_n 1, 1) := by decide +kernel
theorem dX5_send_86 : decode cX5_send 86 = .ok (.invokevirtual 136, 3) := by decide +kernel
theorem dX5_send_89 : decode cX5_send 89 = .ok (.aload_n 0, 1) := by decide +kernel
theorem dX5_send_90 : decode cX5_send 90 = .ok (.getfield 40, 3) := by decide +kernel
theorem dX5_send_93 : decode cX5_send 93 = .ok (.invokevirtual 125, 3) := by decide +kernel
theorem dX5_send_96 : decode cX5_send 96 = .ok (.ireturn, 1) := by decide +kernel
theorem dX5_pass_0 : decode cX5_pass 0 = .ok (.iload_n 1, 1) := by decide +kernel
theorem dX5_pass_1 : decode cX5_pass 1 = .ok (.iconst 1, 1) := by decide +kernel
theorem dX5_pass_2 : decode cX5_pass 2 = .ok (.if_icmp .lt 9, 3) := by decide +kernel
theorem dX5_pass_5 : decode cX5_pass 5 = .ok (.iload_n 1, 1) := by decide +kernel
theorem dX5_pass_6 : decode cX5_pass 6 = .ok (.bipush 60, 2) := by decide +kernel
theorem dX5_pass_8 : decode cX5_pass 8 = .ok (.if_icmp .le 6, 3) := by decide +kernel
theorem dX5_pass_11 : decode cX5_pass 11 = .ok (.ldc 48, 2) := by decide +kernel
theorem dX5_pass_13 : decode cX5_pass 13 = .ok (.ireturn, 1) := by decide +kernel
theorem dX5_pass_14 : decode cX5_pass 14 = .ok (.aload_n 0, 1) := by decide +kernel
theorem dX5_pass_15 : decode cX5_pass 15 = .ok (.getfield 10, 3) := by decide +kernel
theorem dX5_pass_18 : decode cX5_pass 18 = .ok (.getfield 140, 3) := by decide +kernel
theorem dX5_pass_21 : decode cX5_pass 21 = .ok (.iload_n 1, 1) := by decide +kernel
theorem dX5_pass_22 : decode cX5_pass 22 = .ok (.iadd, 1) := by decide +kernel
theorem dX5_pass_23 : decode cX5_pass 23 = .ok (.sipush 9999, 3) := by decide +kernel
theorem dX5_pass_26 : decode cX5_pass 26 = .ok (.if_icmp .le 6, 3) := by decide +kernel
theorem dX5_pass_29 : decode cX5_pass 29 = .ok (.ldc 135, 2) := by decide +kernel
theorem dX5_pass_31 : decode cX5_pass 31 = .ok (.ireturn, 1) := by decide +kernel
theorem dX5_pass_32 : decode cX5_pass 32 = .ok (.aload_n 0, 1) := by decide +kernel
theorem dX5_pass_33 : decode cX5_pass 33 = .ok (.invokevirtual 52, 3) := by decide +kernel
theorem dX5_pass_36 : decode cX5_pass 36 = .ok (.iconst 0, 1) := by decide +kernel
theorem dX5_pass_37 : decode cX5_pass 37 = .ok (.istore_n 2, 1) := by decide +kernel
theorem dX5_pass_38 : decode cX5_pass 38 = .ok (.iconst 0, 1) := by decide +kernel
theorem dX5_pass_39 : decode cX5_pass 39 = .ok (.istore_n 3, 1) := by decide +kernel
theorem dX5_pass_40 : decode cX5_pass 40 = .ok (.iload_n 3, 1) := by decide +kernel
theorem dX5_pass_41 : decode cX5_pass 41 = .ok (.iload_n 1, 1) := by decide +kernel
theorem dX5_pass_42 : decode cX5_pass 42 = .ok (.if_icmp .ge 19, 3) := by decide +kernel
theorem dX5_pass_45 : decode cX5_pass 45 = .ok (.iload_n 2, 1) := by decide +kernel
theorem dX5_pass_46 : decode cX5_pass 46 = .ok (.aload_n 0, 1) := by decide +kernel
theorem dX5_pass_47 : decode cX5_pass 47 = .ok (.getfield 10, 3) := by decide +kernel
theorem dX5_pass_50 : decode cX5_pass 50 = .ok (.invokevirtual 143, 3) := by decide +kernel
theorem dX5_pass_53 : decode cX5_pass 53 = .ok (.iadd, 1) := by decide +kernel
theorem dX5_pass_54 : decode cX5_pass 54 = .ok (.istore_n 2, 1) := by decide +kernel
theorem dX5_pass_55 : decode cX5_pass 55 = .ok (.iinc 3 1, 3) := by decide +kernel
theorem dX5_pass_58 : decode cX5_pass 58 = .ok (.goto (-18), 3) := by decide +kernel
theorem dX5_pass_61 : decode cX5_pass 61 = .ok (.iload_n 2, 1) := by decide +kernel
theorem dX5_pass_62 : decode cX5_pass 62 = .ok (.ireturn, 1) := by decide +kernel
theorem dX5_shuffle_0 : decode cX5_shuffle 0 = .ok (.iload_n 1, 1) := by decide +kernel
theorem dX5_shuffle_1 : decode cX5_shuffle 1 = .ok (.ifCond .ge 6, 3) := by decide +kernel
theorem dX5_shuffle_4 : decode cX5_shuffle 4 = .ok (.ldc 48, 2) := by decide +kernel
theorem dX5_shuffle_6 : decode cX5_shuffle 6 = .ok (.ireturn, 1) := by decide +kernel
theorem dX5_shuffle_7 : decode cX5_shuffle 7 = .ok (.aload_n 0, 1) := by decide +kernel
theorem dX5_shuffle_8 : decode cX5_shuffle 8 = .ok (.invokevirtual 52, 3) := by decide +kernel
theorem dX5_shuffle_11 : decode cX5_shuffle 11 = .ok (.aload_n 0, 1) := by decide +kernel
theorem dX5_shuffle_12 : decode cX5_shuffle 12 = .ok (.getfield 10, 3) := by decide +kernel
theorem dX5_shuffle_15 : decode cX5_shuffle 15 = .ok (.getfield 146, 3) := by decide +kernel
theorem dX5_shuffle_18 : decode cX5_shuffle 18 = .ok (.istore_n 2, 1) := by decide +kernel
theorem dX5_shuffle_19 : decode cX5_shuffle 19 = .ok (.aload_n 0, 1) := by decide +kernel
theorem dX5_shuffle_20 : decode cX5_shuffle 20 = .ok (.getfield 10, 3) := by decide +kernel
theorem dX5_shuffle_23 : decode cX5_shuffle 23 = .ok (.iload_n 1, 1) := by decide +kernel
theorem dX5_shuffle_24 : decode cX5_shuffle 24 = .ok (.putfield 146, 3) := by decide +kernel
theorem dX5_shuffle_27 : decode cX5_shuffle 27 = .ok (.iload_n 2, 1) := by decide +kernel
theorem dX5_shuffle_28 : decode cX5_shuffle 28 = .ok (.ireturn, 1) := by decide +kernel
theorem dX5_member_0 : decode cX5_member 0 = .ok (.iload_n 1, 1) := by decide +kernel
theorem dX5_member_1 : decode cX5_member 1 = .ok (.invokestatic 58, 3) := by decide +kernel
theorem dX5_member_4 : decode cX5_member 4 = .ok (.ifCond .ne 6, 3) := by decide +kernel
theorem dX5_member_7 : decode cX5_member 7 = .ok (.ldc 65, 2) := by decide +kernel
theorem dX5_member_9 : decode cX5_member 9 = .ok (.ireturn, 1) := by decide +kernel
theorem dX5_member_10 : decode cX5_member 10 = .ok (.iload_n 2, 1) := by decide +kernel
theorem dX5_member_11 : decode cX5_member 11 = .ok (.tableswitch 144 0 8 #[49, 59, 69, 82, 95, 104, 114, 124, 134], 49) := by decide +kernel
theorem dX5_member_60 : decode cX5_member 60 = .ok (.aload_n 0, 1) := by decide +kernel
theorem dX5_member_61 : decode cX5_member 61 = .ok (.getfield 10, 3) := by decide +kernel
theorem dX5_member_64 : decode cX5_member 64 = .ok (.getfield 109, 3) := by decide +kernel
theorem dX5_member_67 : decode cX5_member 67 = .ok (.iload_n 1, 1) := by decide +kernel
theorem dX5_member_68 : decode cX5_member 68 = .ok (.iaload, 1) := by decide +kernel
theorem dX5_member_69 : decode cX5_member 69 = .ok (.ireturn, 1) := by decide +kernel
theorem dX5_member_70 : decode cX5_member 70 = .ok (.aload_n 0, 1) := by decide +kernel
theorem dX5_member_71 : decode cX5_member 71 = .ok (.getfield 10, 3) := by decide +kernel
theorem dX5_member_74 : decode cX5_member 74 = .ok (.getfield 66, 3) := by decide +kernel
theorem dX5_member_77 : decode cX5_member 77 = .ok (.iload_n 1, 1) := by decide +kernel
theorem dX5_member_78 : decode cX5_member 78 = .ok (.iaload, 1) := by decide +kernel
theorem dX5_member_79 : decode cX5_member 79 = .ok (.ireturn, 1) := by decide +kernel
theorem dX5_member_80 : decode cX5_member 80 = .ok (.aload_n 0, 1) := by decide +kernel
theorem dX5_member_81 : decode cX5_member 81 = .ok (.getfield 10, 3) := by decide +kernel
theorem dX5_member_84 : decode cX5_member 84 = .ok (.getfield 85, 3) := by decide +kernel
theorem dX5_member_87 : decode cX5_member 87 = .ok (.iload_n 1, 1) := by decide +kernel
theorem dX5_member_88 : decode cX5_member 88 = .ok (.aaload, 1) := by decide +kernel
theorem dX5_member_89 : decode cX5_member 89 = .ok (.invokestatic 128, 3) := by decide +kernel
theorem dX5_member_92 : decode cX5_member 92 = .ok (.ireturn, 1) := by decide +kernel
theorem dX5_member_93 : decode cX5_member 93 = .ok (.aload_n 0, 1) := by decide +kernel
theorem dX5_member_94 : decode cX5_member 94 = .ok (.getfield 10, 3) := by decide +kernel
theorem dX5_member_97 : decode cX5_member 97 = .ok (.getfield 89, 3) := by decide +kernel
theorem dX5_member_100 : decode cX5_member 100 = .ok (.iload_n 1, 1) := by decide +kernel
theorem dX5_member_101 : decode cX5_member 101 = .ok (.aaload, 1) := by decide +kernel
theorem dX5_member_102 : decode cX5_member 102 = .ok (.invokestatic 128, 3) := by decide +kernel
theorem dX5_member_105 : decode cX5_member 105 = .ok (.ireturn, 1) := by decide +kernel
theorem dX5_member_106 : decode cX5_member 106 = .ok (.aload_n 0, 1) := by decide +kernel
theorem dX5_member_107 : decode cX5_member 107 = .ok (.getfield 10, 3) := by decide +kernel
theorem dX5_member_110 : decode cX5_member 110 = .ok (.iload_n 1, 1) := by decide +kernel
theorem dX5_member_111 : decode cX5_member 111 = .ok (.invokevirtual 149, 3) := by decide +kernel
theorem dX5_member_114 : decode cX5_member 114 = .ok (.ireturn, 1) := by decide +kernel
theorem dX5_member_115 : decode cX5_member 115 = .ok (.aload_n 0, 1) := by decide +kernel
theorem dX5_member_116 : decode cX5_member 116 = .ok (.getfield 10, 3) := by decide +kernel
theorem dX5_member_119 : decode cX5_member 119 = .ok (.getfield 152, 3) := by decide +kernel
theorem dX5_member_122 : decode cX5_member 122 = .ok (.iload_n 1, 1) := by decide +kernel
theorem dX5_member_123 : decode cX5_member 123 = .ok (.iaload, 1) := by decide +kernel
theorem dX5_member_124 : decode cX5_member 124 = .ok (.ireturn, 1) := by decide +kernel
theorem dX5_member_125 : decode cX5_member 125 = .ok (.aload_n 0, 1) := by decide +kernel
theorem dX5_member_126 : decode cX5_member 126 = .ok (.getfield 10, 3) := by decide +kernel
theorem dX5_member_129 : decode cX5_member 129 = .ok (.getfield 155, 3) := by decide +kernel
theorem dX5_member_132 : decode cX5_member 132 = .ok (.iload_n 1, 1) := by decide +kernel
theorem dX5_member_133 : decode cX5_member 133 = .ok (.iaload, 1) := by decide +kernel
theorem dX5_member_134 : decode cX5_member 134 = .ok (.ireturn, 1) := by decide +kernel
theorem dX5_member_135 : decode cX5_member 135 = .ok (.aload_n 0, 1) := by decide +kernel
theorem dX5_member_136 : decode cX5_member 136 = .ok (.getfield 10, 3) := by decide +kernel
theorem dX5_member_139 : decode cX5_member 139 = .ok (.getfield 158, 3) := by decide +kernel
theorem dX5_member_142 : decode cX5_member 142 = .ok (.iload_n 1, 1) := by decide +kernel
theorem dX5_member_143 : decode cX5_member 143 = .ok (.iaload, 1) := by decide +kernel
theorem dX5_member_144 : decode cX5_member 144 = .ok (.ireturn, 1) := by decide +kernel
theorem dX5_member_145 : decode cX5_member 145 = .ok (.aload_n 0, 1) := by decide +kernel
theorem dX5_member_146 : decode cX5_member 146 = .ok (.getfield 10, 3) := by decide +kernel
theorem dX5_member_149 : decode cX5_member 149 = .ok (.getfield 161, 3) := by decide +kernel
theorem dX5_member_152 : decode cX5_member 152 = .ok (.iload_n 1, 1) := by decide +kernel
theorem dX5_member_153 : decode cX5_member 153 = .ok (.iaload, 1) := by decide +kernel
theorem dX5_member_154 : decode cX5_member 154 = .ok (.ireturn, 1) := by decide +kernel
theorem dX5_member_155 : decode cX5_member 155 = .ok (.ldc 48, 2) := by decide +kernel
theorem dX5_member_157 : decode cX5_member 157 = .ok (.ireturn, 1) := by decide +kernel
theorem dX5_strings_0 : decode cX5_strings 0 = .ok (.iload_n 1, 1) := by decide +kernel
theorem dX5_strings_1 : decode cX5_strings 1 = .ok (.invokestatic 58, 3) := by decide +kernel
theorem dX5_strings_4 : decode cX5_strings 4 = .ok (.ifCond .eq 10, 3) := by decide +kernel
theorem dX5_strings_7 : decode cX5_strings 7 = .ok (.iload_n 2, 1) := by decide +kernel
theorem dX5_strings_8 : decode cX5_strings 8 = .ok (.invokestatic 62, 3) := by decide +kernel
theorem dX5_strings_11 : decode cX5_strings 11 = .ok (.ifCond .ne 6, 3) := by decide +kernel
theorem dX5_strings_14 : decode cX5_strings 14 = .ok (.ldc 65, 2) := by decide +kernel
theorem dX5_strings_16 : decode cX5_strings 16 = .ok (.ireturn, 1) := by decide +kernel
theorem dX5_strings_17 : decode cX5_strings 17 = .ok (.iload_n 3, 1) := by decide +kernel
theorem dX5_strings_18 : decode cX5_strings 18 = .ok (.ifCond .eq 17, 3) := by decide +kernel
theorem dX5_strings_21 : decode cX5_strings 21 = .ok (.aload_n 0, 1) := by decide +kernel
theorem dX5_strings_22 : decode cX5_strings 22 = .ok (.getfield 10, 3) := by decide +kernel
theorem dX5_strings_25 : decode cX5_strings 25 = .ok (.getfield 89, 3) := by decide +kernel
theorem dX5_strings_28 : decode cX5_strings 28 = .ok (.iload_n 1, 1) := by decide +kernel
theorem dX5_strings_29 : decode cX5_strings 29 = .ok (.aaload, 1) := by decide +kernel
theorem dX5_strings_30 : decode cX5_strings 30 = .ok (.iload_n 2, 1) := by decide +kernel
theorem dX5_strings_31 : decode cX5_strings 31 = .ok (.iaload, 1) := by decide +kernel
theorem dX5_strings_32 : decode cX5_strings 32 = .ok (.goto 14, 3) := by decide +kernel
theorem dX5_strings_35 : decode cX5_strings 35 = .ok (.aload_n 0, 1) := by decide +kernel
theorem dX5_strings_36 : decode cX5_strings 36 = .ok (.getfield 10, 3) := by decide +kernel
theorem dX5_strings_39 : decode cX5_strings 39 = .ok (.getfield 85, 3) := by decide +kernel
theorem dX5_strings_42 : decode cX5_strings 42 = .ok (.iload_n 1, 1) := by decide +kernel
theorem dX5_strings_43 : decode cX5_strings 43 = .ok (.aaload, 1) := by decide +kernel
theorem dX5_strings_44 : decode cX5_strings 44 = .ok (.iload_n 2, 1) := by decide +kernel
theorem dX5_strings_45 : decode cX5_strings 45 = .ok (.iaload, 1) := by decide +kernel
theorem dX5_strings_46 : decode cX5_strings 46 = .ok (.ireturn, 1) := by decide +kernel
theorem dX5_parcel_0 : decode cX5_parcel 0 = .ok (.iload_n 1, 1) := by decide +kernel
theorem dX5_parcel_1 : decode cX5_parcel 1 = .ok (.ifCond .lt 19, 3) := by decide +kernel
theorem dX5_parcel_4 : decode cX5_parcel 4 = .ok (.iload_n 1, 1) := by decide +kernel
theorem dX5_parcel_5 : decode cX5_parcel 5 = .ok (.aload_n 0, 1) := by decide +kernel
theorem dX5_parcel_6 : decode cX5_parcel 6 = .ok (.getfield 10, 3) := by decide +kernel
theorem dX5_parcel_9 : decode cX5_parcel 9 = .ok (.getfield 132, 3) := by decide +kernel
theorem dX5_parcel_12 : decode cX5_parcel 12 = .ok (.if_icmp .ge 8, 3) := by decide +kernel
theorem dX5_parcel_15 : decode cX5_parcel 15 = .ok (.iload_n 1, 1) := by decide +kernel
theorem dX5_parcel_16 : decode cX5_parcel 16 = .ok (.iconst 5, 1) := by decide +kernel
theorem dX5_parcel_17 : decode cX5_parcel 17 = .ok (.if_icmp .lt 6, 3) := by decide +kernel
theorem dX5_parcel_20 : decode cX5_parcel 20 = .ok (.ldc 65, 2) := by decide +kernel
theorem dX5_parcel_22 : decode cX5_parcel 22 = .ok (.ireturn, 1) := by decide +kernel
theorem dX5_parcel_23 : decode cX5_parcel 23 = .ok (.aload_n 0, 1) := by decide +kernel
theorem dX5_parcel_24 : decode cX5_parcel 24 = .ok (.getfield 10, 3) := by decide +kernel
theorem dX5_parcel_27 : decode cX5_parcel 27 = .ok (.getfield 164, 3) := by decide +kernel
theorem dX5_parcel_30 : decode cX5_parcel 30 = .ok (.iload_n 1, 1) := by decide +kernel
theorem dX5_parcel_31 : decode cX5_parcel 31 = .ok (.aaload, 1) := by decide +kernel
theorem dX5_parcel_32 : decode cX5_parcel 32 = .ok (.astore_n 3, 1) := by decide +kernel
theorem dX5_parcel_33 : decode cX5_parcel 33 = .ok (.iload_n 2, 1) := by decide +kernel
theorem dX5_parcel_34 : decode cX5_parcel 34 = .ok (.tableswitch 75 0 4 #[34, 39, 44, 49, 62], 34) := by decide +kernel
theorem dX5_parcel_68 : decode cX5_parcel 68 = .ok (.aload_n 3, 1) := by decide +kernel
theorem dX5_parcel_69 : decode cX5_parcel 69 = .ok (.invokevirtual 168, 3) := by decide +kernel
theorem dX5_parcel_72 : decode cX5_parcel 72 = .ok (.ireturn, 1) := by decide +kernel
theorem dX5_parcel_73 : decode cX5_parcel 73 = .ok (.aload_n 3, 1) := by decide +kernel
theorem dX5_parcel_74 : decode cX5_parcel 74 = .ok (.getfield 172, 3) := by decide +kernel
theorem dX5_parcel_77 : decode cX5_parcel 77 = .ok (.ireturn, 1) := by decide +kernel
theorem dX5_parcel_78 : decode cX5_parcel 78 = .ok (.aload_n 3, 1) := by decide +kernel
theorem dX5_parcel_79 : decode cX5_parcel 79 = .ok (.invokevirtual 175, 3) := by decide +kernel
theorem dX5_parcel_82 : decode cX5_parcel 82 = .ok (.ireturn, 1) := by decide +kernel
theorem dX5_parcel_83 : decode cX5_parcel 83 = .ok (.aload_n 3, 1) := by decide +kernel
theorem dX5_parcel_84 : decode cX5_parcel 84 = .ok (.getfield 178, 3) := by decide +kernel
theorem dX5_parcel_87 : decode cX5_parcel 87 = .ok (.aload_n 0, 1) := by decide +kernel
theorem dX5_parcel_88 : decode cX5_parcel 88 = .ok (.getfield 10, 3) := by decide +kernel
theorem dX5_parcel_91 : decode cX5_parcel 91 = .ok (.getfield 140, 3) := by decide +kernel
theorem dX5_parcel_94 : decode cX5_parcel 94 = .ok (.isub, 1) := by decide +kernel
theorem dX5_parcel_95 : decode cX5_parcel 95 = .ok (.ireturn, 1) := by decide +kernel
theorem dX5_parcel_96 : decode cX5_parcel 96 = .ok (.aload_n 3, 1) := by decide +kernel
theorem dX5_parcel_97 : decode cX5_parcel 97 = .ok (.getfield 181, 3) := by decide +kernel
theorem dX5_parcel_100 : decode cX5_parcel 100 = .ok (.ifCond .eq 7, 3) := by decide +kernel
theorem dX5_parcel_103 : decode cX5_parcel 103 = .ok (.iconst 1, 1) := by decide +kernel
theorem dX5_parcel_104 : decode cX5_parcel 104 = .ok (.goto 4, 3) := by decide +kernel
theorem dX5_parcel_107 : decode cX5_parcel 107 = .ok (.iconst 0, 1) := by decide +kernel
theorem dX5_parcel_108 : decode cX5_parcel 108 = .ok (.ireturn, 1) := by decide +kernel
theorem dX5_parcel_109 : decode cX5_parcel 109 = .ok (.ldc 48, 2) := by decide +kernel
theorem dX5_parcel_111 : decode cX5_parcel 111 = .ok (.ireturn, 1) := by decide +kernel
theorem dX5_count_0 : decode cX5_count 0 = .ok (.iload_n 1, 1) := by decide +kernel
theorem dX5_count_1 : decode cX5_count 1 = .ok (.ifCond .lt 25, 3) := by decide +kernel
theorem dX5_count_4 : decode cX5_count 4 = .ok (.iload_n 1, 1) := by decide +kernel
theorem dX5_count_5 : decode cX5_count 5 = .ok (.aload_n 0, 1) := by decide +kernel
theorem dX5_count_6 : decode cX5_count 6 = .ok (.getfield 10, 3) := by decide +kernel
theorem dX5_count_9 : decode cX5_count 9 = .ok (.getfield 55, 3) := by decide +kernel
theorem dX5_count_12 : decode cX5_count 12 = .ok (.arraylength, 1) := by decide +kernel
theorem dX5_count_13 : decode cX5_count 13 = .ok (.if_icmp .ge 13, 3) := by decide +kernel
theorem dX5_count_16 : decode cX5_count 16 = .ok (.aload_n 0, 1) := by decide +kernel
theorem dX5_count_17 : decode cX5_count 17 = .ok (.getfield 10, 3) := by decide +kernel
theorem dX5_count_20 : decode cX5_count 20 = .ok (.getfield 55, 3) := by decide +kernel
theorem dX5_count_23 : decode cX5_count 23 = .ok (.iload_n 1, 1) := by decide +kernel
theorem dX5_count_24 : decode cX5_count 24 = .ok (.iaload, 1) := by decide +kernel
theorem dX5_count_25 : decode cX5_count 25 = .ok (.ireturn, 1) := by decide +kernel
theorem dX5_count_26 : decode cX5_count 26 = .ok (.iload_n 1, 1) := by decide +kernel
theorem dX5_count_27 : decode cX5_count 27 = .ok (.tableswitch 139 9 18 #[53, 61, 72, 80, 88, 99, 110, 118, 126, 134], 53) := by decide +kernel
theorem dX5_count_80 : decode cX5_count 80 = .ok (.aload_n 0, 1) := by decide +kernel
theorem dX5_count_81 : decode cX5_count 81 = .ok (.getfield 10, 3) := by decide +kernel
theorem dX5_count_84 : decode cX5_count 84 = .ok (.getfield 140, 3) := by decide +kernel
theorem dX5_count_87 : decode cX5_count 87 = .ok (.ireturn, 1) := by decide +kernel
theorem dX5_count_88 : decode cX5_count 88 = .ok (.aload_n 0, 1) := by decide +kernel
theorem dX5_count_89 : decode cX5_count 89 = .ok (.getfield 10, 3) := by decide +kernel
theorem dX5_count_92 : decode cX5_count 92 = .ok (.getfield 109, 3) := by decide +kernel
theorem dX5_count_95 : decode cX5_count 95 = .ok (.invokestatic 128, 3) := by decide +kernel
theorem dX5_count_98 : decode cX5_count 98 = .ok (.ireturn, 1) := by decide +kernel
theorem dX5_count_99 : decode cX5_count 99 = .ok (.aload_n 0, 1) := by decide +kernel
theorem dX5_count_100 : decode cX5_count 100 = .ok (.getfield 10, 3) := by decide +kernel
theorem dX5_count_103 : decode cX5_count 103 = .ok (.getfield 132, 3) := by decide +kernel
theorem dX5_count_106 : decode cX5_count 106 = .ok (.ireturn, 1) := by decide +kernel
theorem dX5_count_107 : decode cX5_count 107 = .ok (.aload_n 0, 1) := by decide +kernel
theorem dX5_count_108 : decode cX5_count 108 = .ok (.getfield 10, 3) := by decide +kernel
theorem dX5_count_111 : decode cX5_count 111 = .ok (.getfield 185, 3) := by decide +kernel
theorem dX5_count_114 : decode cX5_count 114 = .ok (.ireturn, 1) := by decide +kernel
theorem dX5_count_115 : decode cX5_count 115 = .ok (.aload_n 0, 1) := by decide +kernel
theorem dX5_count_116 : decode cX5_count 116 = .ok (.getfield 10, 3) := by decide +kernel
theorem dX5_count_119 : decode cX5_count 119 = .ok (.getfield 158, 3) := by decide +kernel
theorem dX5_count_122 : decode cX5_count 122 = .ok (.invokestatic 128, 3) := by decide +kernel
theorem dX5_count_125 : decode cX5_count 125 = .ok (.ireturn, 1) := by decide +kernel
theorem dX5_count_126 : decode cX5_count 126 = .ok (.aload_n 0, 1) := by decide +kernel
theorem dX5_count_127 : decode cX5_count 127 = .ok (.getfield 10, 3) := by decide +kernel
theorem dX5_count_130 : decode cX5_count 130 = .ok (.getfield 161, 3) := by decide +kernel
theorem dX5_count_133 : decode cX5_count 133 = .ok (.invokestatic 128, 3) := by decide +kernel
theorem dX5_count_136 : decode cX5_count 136 = .ok (.ireturn, 1) := by decide +kernel
theorem dX5_count_137 : decode cX5_count 137 = .ok (.aload_n 0, 1) := by decide +kernel
theorem dX5_count_138 : decode cX5_count 138 = .ok (.getfield 10, 3) := by decide +kernel
theorem dX5_count_141 : decode cX5_count 141 = .ok (.invokevirtual 188, 3) := by decide +kernel
theorem dX5_count_144 : decode cX5_count 144 = .ok (.ireturn, 1) := by decide +kernel
theorem dX5_count_145 : decode cX5_count 145 = .ok (.aload_n 0, 1) := by decide +kernel
theorem dX5_count_146 : decode cX5_count 146 = .ok (.getfield 10, 3) := by decide +kernel
theorem dX5_count_149 : decode cX5_count 149 = .ok (.getfield 146, 3) := by decide +kernel
theorem dX5_count_152 : decode cX5_count 152 = .ok (.ireturn, 1) := by decide +kernel
theorem dX5_count_153 : decode cX5_count 153 = .ok (.aload_n 0, 1) := by decide +kernel
theorem dX5_count_154 : decode cX5_count 154 = .ok (.getfield 33, 3) := by decide +kernel
theorem dX5_count_157 : decode cX5_count 157 = .ok (.getfield 105, 3) := by decide +kernel
theorem dX5_count_160 : decode cX5_count 160 = .ok (.ireturn, 1) := by decide +kernel
theorem dX5_count_161 : decode cX5_count 161 = .ok (.aload_n 0, 1) := by decide +kernel
theorem dX5_count_162 : decode cX5_count 162 = .ok (.getfield 191, 3) := by decide +kernel
theorem dX5_count_165 : decode cX5_count 165 = .ok (.ireturn, 1) := by decide +kernel
theorem dX5_count_166 : decode cX5_count 166 = .ok (.ldc 48, 2) := by decide +kernel
theorem dX5_count_168 : decode cX5_count 168 = .ok (.ireturn, 1) := by decide +kernel
theorem dX5_order_0 : decode cX5_order 0 = .ok (.iload_n 1, 1) := by decide +kernel
theorem dX5_order_1 : decode cX5_order 1 = .ok (.invokestatic 115, 3) := by decide +kernel
theorem dX5_order_4 : decode cX5_order 4 = .ok (.ifCond .ne 6, 3) := by decide +kernel
theorem dX5_order_7 : decode cX5_order 7 = .ok (.ldc 48, 2) := by decide +kernel
theorem dX5_order_9 : decode cX5_order 9 = .ok (.ireturn, 1) := by decide +kernel
theorem dX5_order_10 : decode cX5_order 10 = .ok (.aload_n 0, 1) := by decide +kernel
theorem dX5_order_11 : decode cX5_order 11 = .ok (.getfield 40, 3) := by decide +kernel
theorem dX5_order_14 : decode cX5_order 14 = .ok (.aload_n 0, 1) := by decide +kernel
theorem dX5_order_15 : decode cX5_order 15 = .ok (.getfield 10, 3) := by decide +kernel
theorem dX5_order_18 : decode cX5_order 18 = .ok (.iload_n 1, 1) := by decide +kernel
theorem dX5_order_19 : decode cX5_order 19 = .ok (.invokevirtual 118, 3) := by decide +kernel
theorem dX5_order_22 : decode cX5_order 22 = .ok (.iload_n 2, 1) := by decide +kernel
theorem dX5_order_23 : decode cX5_order 23 = .ok (.tableswitch 83 0 4 #[33, 41, 49, 57, 65], 33) := by decide +kernel
theorem dX5_order_56 : decode cX5_order 56 = .ok (.aload_n 0, 1) := by decide +kernel
theorem dX5_order_57 : decode cX5_order 57 = .ok (.getfield 40, 3) := by decide +kernel
theorem dX5_order_60 : decode cX5_order 60 = .ok (.invokevirtual 125, 3) := by decide +kernel
theorem dX5_order_63 : decode cX5_order 63 = .ok (.ireturn, 1) := by decide +kernel
theorem dX5_order_64 : decode cX5_order 64 = .ok (.aload_n 0, 1) := by decide +kernel
theorem dX5_order_65 : decode cX5_order 65 = .ok (.getfield 40, 3) := by decide +kernel
theorem dX5_order_68 : decode cX5_order 68 = .ok (.getfield 194, 3) := by decide +kernel
theorem dX5_order_71 : decode cX5_order 71 = .ok (.ireturn, 1) := by decide +kernel
theorem dX5_order_72 : decode cX5_order 72 = .ok (.aload_n 0, 1) := by decide +kernel
theorem dX5_order_73 : decode cX5_order 73 = .ok (.getfield 40, 3) := by decide +kernel
theorem dX5_order_76 : decode cX5_order 76 = .ok (.getfield 195, 3) := by decide +kernel
theorem dX5_order_79 : decode cX5_order 79 = .ok (.ireturn, 1) := by decide +kernel
theorem dX5_order_80 : decode cX5_order 80 = .ok (.aload_n 0, 1) := by decide +kernel
theorem dX5_order_81 : decode cX5_order 81 = .ok (.getfield 40, 3) := by decide +kernel
theorem dX5_order_84 : decode cX5_order 84 = .ok (.getfield 122, 3) := by decide +kernel
theorem dX5_order_87 : decode cX5_order 87 = .ok (.ireturn, 1) := by decide +kernel
theorem dX5_order_88 : decode cX5_order 88 = .ok (.aload_n 0, 1) := by decide +kernel
theorem dX5_order_89 : decode cX5_order 89 = .ok (.getfield 40, 3) := by decide +kernel
theorem dX5_order_92 : decode cX5_order 92 = .ok (.getfield 194, 3) := by decide +kernel
theorem dX5_order_95 : decode cX5_order 95 = .ok (.aload_n 0, 1) := by decide +kernel
theorem dX5_order_96 : decode cX5_order 96 = .ok (.getfield 10, 3) := by decide +kernel
theorem dX5_order_99 : decode cX5_order 99 = .ok (.getfield 55, 3) := by decide +kernel
theorem dX5_order_102 : decode cX5_order 102 = .ok (.invokestatic 198, 3) := by decide +kernel
theorem dX5_order_105 : decode cX5_order 105 = .ok (.ireturn, 1) := by decide +kernel
theorem dX5_order_106 : decode cX5_order 106 = .ok (.ldc 48, 2) := by decide +kernel
theorem dX5_order_108 : decode cX5_order 108 = .ok (.ireturn, 1) := by decide +kernel
theorem dX5_share_0 : decode cX5_share 0 = .ok (.iload_n 2, 1) := by decide +kernel
theorem dX5_share_1 : decode cX5_share 1 = .ok (.invokestatic 58, 3) := by decide +kernel
theorem dX5_share_4 : decode cX5_share 4 = .ok (.ifCond .ne 6, 3) := by decide +kernel
theorem dX5_share_7 : decode cX5_share 7 = .ok (.ldc 65, 2) := by decide +kernel
theorem dX5_share_9 : decode cX5_share 9 = .ok (.ireturn, 1) := by decide +kernel
theorem dX5_share_10 : decode cX5_share 10 = .ok (.iload_n 1, 1) := by decide +kernel
theorem dX5_share_11 : decode cX5_share 11 = .ok (.invokestatic 115, 3) := by decide +kernel
theorem dX5_share_14 : decode cX5_share 14 = .ok (.ifCond .ne 6, 3) := by decide +kernel
theorem dX5_share_17 : decode cX5_share 17 = .ok (.ldc 48, 2) := by decide +kernel
theorem dX5_share_19 : decode cX5_share 19 = .ok (.ireturn, 1) := by decide +kernel
theorem dX5_share_20 : decode cX5_share 20 = .ok (.iload_n 1, 1) := by decide +kernel
theorem dX5_share_21 : decode cX5_share 21 = .ok (.iload_n 2, 1) := by decide +kernel
theorem dX5_share_22 : decode cX5_share 22 = .ok (.invokestatic 69, 3) := by decide +kernel
theorem dX5_share_25 : decode cX5_share 25 = .ok (.ifCond .ne 5, 3) := by decide +kernel
theorem dX5_share_28 : decode cX5_share 28 = .ok (.iconst 0, 1) := by decide +kernel
theorem dX5_share_29 : decode cX5_share 29 = .ok (.ireturn, 1) := by decide +kernel
theorem dX5_share_30 : decode cX5_share 30 = .ok (.aload_n 0, 1) := by decide +kernel
theorem dX5_share_31 : decode cX5_share 31 = .ok (.getfield 40, 3) := by decide +kernel
theorem dX5_share_34 : decode cX5_share 34 = .ok (.aload_n 0, 1) := by decide +kernel
theorem dX5_share_35 : decode cX5_share 35 = .ok (.getfield 10, 3) := by decide +kernel
theorem dX5_share_38 : decode cX5_share 38 = .ok (.iload_n 1, 1) := by decide +kernel
theorem dX5_share_39 : decode cX5_share 39 = .ok (.invokevirtual 118, 3) := by decide +kernel
theorem dX5_share_42 : decode cX5_share 42 = .ok (.aload_n 0, 1) := by decide +kernel
theorem dX5_share_43 : decode cX5_share 43 = .ok (.getfield 40, 3) := by decide +kernel
theorem dX5_share_46 : decode cX5_share 46 = .ok (.aload_n 0, 1) := by decide +kernel
theorem dX5_share_47 : decode cX5_share 47 = .ok (.getfield 10, 3) := by decide +kernel
theorem dX5_share_50 : decode cX5_share 50 = .ok (.iload_n 1, 1) := by decide +kernel
theorem dX5_share_51 : decode cX5_share 51 = .ok (.invokevirtual 202, 3) := by decide +kernel
theorem dX5_share_54 : decode cX5_share 54 = .ok (.aload_n 0, 1) := by decide +kernel
theorem dX5_share_55 : decode cX5_share 55 = .ok (.getfield 40, 3) := by decide +kernel
theorem dX5_share_58 : decode cX5_share 58 = .ok (.aload_n 0, 1) := by decide +kernel
theorem dX5_share_59 : decode cX5_share 59 = .ok (.getfield 10, 3) := by decide +kernel
theorem dX5_share_62 : decode cX5_share 62 = .ok (.getfield 89, 3) := by decide +kernel
theorem dX5_share_65 : decode cX5_share 65 = .ok (.iload_n 2, 1) := by decide +kernel
theorem dX5_share_66 : decode cX5_share 66 = .ok (.aaload, 1) := by decide +kernel
theorem dX5_share_67 : decode cX5_share 67 = .ok (.invokevirtual 205, 3) := by decide +kernel
theorem dX5_share_70 : decode cX5_share 70 = .ok (.aload_n 0, 1) := by decide +kernel
theorem dX5_share_71 : decode cX5_share 71 = .ok (.getfield 40, 3) := by decide +kernel
theorem dX5_share_74 : decode cX5_share 74 = .ok (.getfield 208, 3) := by decide +kernel
theorem dX5_share_77 : decode cX5_share 77 = .ok (.getfield 212, 3) := by decide +kernel
theorem dX5_share_80 : decode cX5_share 80 = .ok (.iload_n 2, 1) := by decide +kernel
theorem dX5_share_81 : decode cX5_share 81 = .ok (.iaload, 1) := by decide +kernel
theorem dX5_share_82 : decode cX5_share 82 = .ok (.iadd, 1) := by decide +kernel
theorem dX5_share_83 : decode cX5_share 83 = .ok (.ireturn, 1) := by decide +kernel
theorem dX5_ifMore_0 : decode cX5_ifMore 0 = .ok (.iload_n 1, 1) := by decide +kernel
theorem dX5_ifMore_1 : decode cX5_ifMore 1 = .ok (.invokestatic 58, 3) := by decide +kernel
theorem dX5_ifMore_4 : decode cX5_ifMore 4 = .ok (.ifCond .eq 10, 3) := by decide +kernel
theorem dX5_ifMore_7 : decode cX5_ifMore 7 = .ok (.iload_n 2, 1) := by decide +kernel
theorem dX5_ifMore_8 : decode cX5_ifMore 8 = .ok (.invokestatic 62, 3) := by decide +kernel
theorem dX5_ifMore_11 : decode cX5_ifMore 11 = .ok (.ifCond .ne 6, 3) := by decide +kernel
theorem dX5_ifMore_14 : decode cX5_ifMore 14 = .ok (.ldc 65, 2) := by decide +kernel
theorem dX5_ifMore_16 : decode cX5_ifMore 16 = .ok (.ireturn, 1) := by decide +kernel
theorem dX5_ifMore_17 : decode cX5_ifMore 17 = .ok (.iload_n 3, 1) := by decide +kernel
theorem dX5_ifMore_18 : decode cX5_ifMore 18 = .ok (.iconst 1, 1) := by decide +kernel
theorem dX5_ifMore_19 : decode cX5_ifMore 19 = .ok (.if_icmp .lt 9, 3) := by decide +kernel
theorem dX5_ifMore_22 : decode cX5_ifMore 22 = .ok (.iload_n 3, 1) := by decide +kernel
theorem dX5_ifMore_23 : decode cX5_ifMore 23 = .ok (.bipush 20, 2) := by decide +kernel
theorem dX5_ifMore_25 : decode cX5_ifMore 25 = .ok (.if_icmp .le 6, 3) := by decide +kernel
theorem dX5_ifMore_28 : decode cX5_ifMore 28 = .ok (.ldc 48, 2) := by decide +kernel
theorem dX5_ifMore_30 : decode cX5_ifMore 30 = .ok (.ireturn, 1) := by decide +kernel
theorem dX5_ifMore_31 : decode cX5_ifMore 31 = .ok (.aload_n 0, 1) := by decide +kernel
theorem dX5_ifMore_32 : decode cX5_ifMore 32 = .ok (.bipush 63, 2) := by decide +kernel
theorem dX5_ifMore_34 : decode cX5_ifMore 34 = .ok (.invokevirtual 92, 3) := by decide +kernel
theorem dX5_ifMore_37 : decode cX5_ifMore 37 = .ok (.istore 4, 2) := by decide +kernel
theorem dX5_ifMore_39 : decode cX5_ifMore 39 = .ok (.aload_n 0, 1) := by decide +kernel
theorem dX5_ifMore_40 : decode cX5_ifMore 40 = .ok (.getfield 40, 3) := by decide +kernel
theorem dX5_ifMore_43 : decode cX5_ifMore 43 = .ok (.getfield 217, 3) := by decide +kernel
theorem dX5_ifMore_46 : decode cX5_ifMore 46 = .ok (.iload_n 2, 1) := by decide +kernel
theorem dX5_ifMore_47 : decode cX5_ifMore 47 = .ok (.dup2, 1) := by decide +kernel
theorem dX5_ifMore_48 : decode cX5_ifMore 48 = .ok (.iaload, 1) := by decide +kernel
theorem dX5_ifMore_49 : decode cX5_ifMore 49 = .ok (.iload_n 3, 1) := by decide +kernel
theorem dX5_ifMore_50 : decode cX5_ifMore 50 = .ok (.iadd, 1) := by decide +kernel
theorem dX5_ifMore_51 : decode cX5_ifMore 51 = .ok (.iastore, 1) := by decide +kernel
theorem dX5_ifMore_52 : decode cX5_ifMore 52 = .ok (.aload_n 0, 1) := by decide +kernel
theorem dX5_ifMore_53 : decode cX5_ifMore 53 = .ok (.getfield 40, 3) := by decide +kernel
theorem dX5_ifMore_56 : decode cX5_ifMore 56 = .ok (.aload_n 0, 1) := by decide +kernel
theorem dX5_ifMore_57 : decode cX5_ifMore 57 = .ok (.getfield 10, 3) := by decide +kernel
theorem dX5_ifMore_60 : decode cX5_ifMore 60 = .ok (.getfield 55, 3) := by decide +kernel
theorem dX5_ifMore_63 : decode cX5_ifMore 63 = .ok (.invokevirtual 220, 3) := by decide +kernel
theorem dX5_ifMore_66 : decode cX5_ifMore 66 = .ok (.aload_n 0, 1) := by decide +kernel
theorem dX5_ifMore_67 : decode cX5_ifMore 67 = .ok (.getfield 40, 3) := by decide +kernel
theorem dX5_ifMore_70 : decode cX5_ifMore 70 = .ok (.invokevirtual 125, 3) := by decide +kernel
theorem dX5_ifMore_73 : decode cX5_ifMore 73 = .ok (.iload 4, 2) := by decide +kernel
theorem dX5_ifMore_75 : decode cX5_ifMore 75 = .ok (.isub, 1) := by decide +kernel
theorem dX5_ifMore_76 : decode cX5_ifMore 76 = .ok (.ireturn, 1) := by decide +kernel
theorem dX5_bestParting_0 : decode cX5_bestParting 0 = .ok (.iload_n 1, 1) := by decide +kernel
theorem dX5_bestParting_1 : decode cX5_bestParting 1 = .ok (.ifCond .eq 11, 3) := by decide +kernel
theorem dX5_bestParting_4 : decode cX5_bestParting 4 = .ok (.iload_n 1, 1) := by decide +kernel
theorem dX5_bestParting_5 : decode cX5_bestParting 5 = .ok (.iconst 1, 1) := by decide +kernel
theorem dX5_bestParting_6 : decode cX5_bestParting 6 = .ok (.if_icmp .eq 6, 3) := by decide +kernel
theorem dX5_bestParting_9 : decode cX5_bestParting 9 = .ok (.ldc 48, 2) := by decide +kernel
theorem dX5_bestParting_11 : decode cX5_bestParting 11 = .ok (.ireturn, 1) := by decide +kernel
theorem dX5_bestParting_12 : decode cX5_bestParting 12 = .ok (.iconst 0, 1) := by decide +kernel
theorem dX5_bestParting_13 : decode cX5_bestParting 13 = .ok (.istore_n 2, 1) := by decide +kernel
theorem dX5_bestParting_14 : decode cX5_bestParting 14 = .ok (.aload_n 0, 1) := by decide +kernel
theorem dX5_bestParting_15 : decode cX5_bestParting 15 = .ok (.iconst 0, 1) := by decide +kernel
theorem dX5_bestParting_16 : decode cX5_bestParting 16 = .ok (.invokevirtual 224, 3) := by decide +kernel
theorem dX5_bestParting_19 : decode cX5_bestParting 19 = .ok (.istore_n 3, 1) := by decide +kernel
theorem dX5_bestParting_20 : decode cX5_bestParting 20 = .ok (.iconst 1, 1) := by decide +kernel
theorem dX5_bestParting_21 : decode cX5_bestParting 21 = .ok (.istore 4, 2) := by decide +kernel
theorem dX5_bestParting_23 : decode cX5_bestParting 23 = .ok (.iload 4, 2) := by decide +kernel
theorem dX5_bestParting_25 : decode cX5_bestParting 25 = .ok (.bipush 31, 2) := by decide +kernel
theorem dX5_bestParting_27 : decode cX5_bestParting 27 = .ok (.if_icmp .gt 29, 3) := by decide +kernel
theorem dX5_bestParting_30 : decode cX5_bestParting 30 = .ok (.aload_n 0, 1) := by decide +kernel
theorem dX5_bestParting_31 : decode cX5_bestParting 31 = .ok (.iload 4, 2) := by decide +kernel
theorem dX5_bestParting_33 : decode cX5_bestParting 33 = .ok (.invokevirtual 224, 3) := by decide +kernel
theorem dX5_bestParting_36 : decode cX5_bestParting 36 = .ok (.istore 5, 2) := by decide +kernel
theorem dX5_bestParting_38 : decode cX5_bestParting 38 = .ok (.iload 5, 2) := by decide +kernel
theorem dX5_bestParting_40 : decode cX5_bestParting 40 = .ok (.iload_n 3, 1) := by decide +kernel
theorem dX5_bestParting_41 : decode cX5_bestParting 41 = .ok (.if_icmp .ge 9, 3) := by decide +kernel
theorem dX5_bestParting_44 : decode cX5_bestParting 44 = .ok (.iload 5, 2) := by decide +kernel
theorem dX5_bestParting_46 : decode cX5_bestParting 46 = .ok (.istore_n 3, 1) := by decide +kernel
theorem dX5_bestParting_47 : decode cX5_bestParting 47 = .ok (.iload 4, 2) := by decide +kernel
theorem dX5_bestParting_49 : decode cX5_bestParting 49 = .ok (.istore_n 2, 1) := by decide +kernel
theorem dX5_bestParting_50 : decode cX5_bestParting 50 = .ok (.iinc 4 1, 3) := by decide +kernel
theorem dX5_bestParting_53 : decode cX5_bestParting 53 = .ok (.goto (-30), 3) := by decide +kernel
theorem dX5_bestParting_56 : decode cX5_bestParting 56 = .ok (.iload_n 1, 1) := by decide +kernel
theorem dX5_bestParting_57 : decode cX5_bestParting 57 = .ok (.ifCond .ne 7, 3) := by decide +kernel
theorem dX5_bestParting_60 : decode cX5_bestParting 60 = .ok (.iload_n 2, 1) := by decide +kernel
theorem dX5_bestParting_61 : decode cX5_bestParting 61 = .ok (.goto 4, 3) := by decide +kernel
theorem dX5_bestParting_64 : decode cX5_bestParting 64 = .ok (.iload_n 3, 1) := by decide +kernel
theorem dX5_bestParting_65 : decode cX5_bestParting 65 = .ok (.ireturn, 1) := by decide +kernel
theorem dX5_standIn_0 : decode cX5_standIn 0 = .ok (.iload_n 1, 1) := by decide +kernel
theorem dX5_standIn_1 : decode cX5_standIn 1 = .ok (.invokestatic 58, 3) := by decide +kernel
theorem dX5_standIn_4 : decode cX5_standIn 4 = .ok (.ifCond .eq 10, 3) := by decide +kernel
theorem dX5_standIn_7 : decode cX5_standIn 7 = .ok (.iload_n 2, 1) := by decide +kernel
theorem dX5_standIn_8 : decode cX5_standIn 8 = .ok (.invokestatic 62, 3) := by decide +kernel
theorem dX5_standIn_11 : decode cX5_standIn 11 = .ok (.ifCond .ne 6, 3) := by decide +kernel
theorem dX5_standIn_14 : decode cX5_standIn 14 = .ok (.ldc 65, 2) := by decide +kernel
theorem dX5_standIn_16 : decode cX5_standIn 16 = .ok (.ireturn, 1) := by decide +kernel
theorem dX5_standIn_17 : decode cX5_standIn 17 = .ok (.aload_n 0, 1) := by decide +kernel
theorem dX5_standIn_18 : decode cX5_standIn 18 = .ok (.getfield 10, 3) := by decide +kernel
theorem dX5_standIn_21 : decode cX5_standIn 21 = .ok (.getfield 66, 3) := by decide +kernel
theorem dX5_standIn_24 : decode cX5_standIn 24 = .ok (.iload_n 1, 1) := by decide +kernel
theorem dX5_standIn_25 : decode cX5_standIn 25 = .ok (.iaload, 1) := by decide +kernel
theorem dX5_standIn_26 : decode cX5_standIn 26 = .ok (.iload_n 2, 1) := by decide +kernel
theorem dX5_standIn_27 : decode cX5_standIn 27 = .ok (.invokestatic 69, 3) := by decide +kernel
theorem dX5_standIn_30 : decode cX5_standIn 30 = .ok (.ifCond .ne 6, 3) := by decide +kernel
theorem dX5_standIn_33 : decode cX5_standIn 33 = .ok (.ldc 99, 2) := by decide +kernel
theorem dX5_standIn_35 : decode cX5_standIn 35 = .ok (.ireturn, 1) := by decide +kernel
theorem dX5_standIn_36 : decode cX5_standIn 36 = .ok (.aload_n 0, 1) := by decide +kernel
theorem dX5_standIn_37 : decode cX5_standIn 37 = .ok (.getfield 10, 3) := by decide +kernel
theorem dX5_standIn_40 : decode cX5_standIn 40 = .ok (.getfield 85, 3) := by decide +kernel
theorem dX5_standIn_43 : decode cX5_standIn 43 = .ok (.iload_n 1, 1) := by decide +kernel
theorem dX5_standIn_44 : decode cX5_standIn 44 = .ok (.aaload, 1) := by decide +kernel
theorem dX5_standIn_45 : decode cX5_standIn 45 = .ok (.astore_n 3, 1) := by decide +kernel
theorem dX5_standIn_46 : decode cX5_standIn 46 = .ok (.aload_n 3, 1) := by decide +kernel
theorem dX5_standIn_47 : decode cX5_standIn 47 = .ok (.iload_n 2, 1) := by decide +kernel
theorem dX5_standIn_48 : decode cX5_standIn 48 = .ok (.iaload, 1) := by decide +kernel
theorem dX5_standIn_49 : decode cX5_standIn 49 = .ok (.ifCond .le 5, 3) := by decide +kernel
theorem dX5_standIn_52 : decode cX5_standIn 52 = .ok (.iload_n 2, 1) := by decide +kernel
theorem dX5_standIn_53 : decode cX5_standIn 53 = .ok (.ireturn, 1) := by decide +kernel
theorem dX5_standIn_54 : decode cX5_standIn 54 = .ok (.iload_n 2, 1) := by decide +kernel
theorem dX5_standIn_55 : decode cX5_standIn 55 = .ok (.ifCond .le 15, 3) := by decide +kernel
theorem dX5_standIn_58 : decode cX5_standIn 58 = .ok (.aload_n 3, 1) := by decide +kernel
theorem dX5_standIn_59 : decode cX5_standIn 59 = .ok (.iload_n 2, 1) := by decide +kernel
theorem dX5_standIn_60 : decode cX5_standIn 60 = .ok (.iconst 1, 1) := by decide +kernel
theorem dX5_standIn_61 : decode cX5_standIn 61 = .ok (.isub, 1) := by decide +kernel
theorem dX5_standIn_62 : decode cX5_standIn 62 = .ok (.iaload, 1) := by decide +kernel
theorem dX5_standIn_63 : decode cX5_standIn 63 = .ok (.ifCond .le 7, 3) := by decide +kernel
theorem dX5_standIn_66 : decode cX5_standIn 66 = .ok (.iload_n 2, 1) := by decide +kernel
theorem dX5_standIn_67 : decode cX5_standIn 67 = .ok (.iconst 1, 1) := by decide +kernel
theorem dX5_standIn_68 : decode cX5_standIn 68 = .ok (.isub, 1) := by decide +kernel
theorem dX5_standIn_69 : decode cX5_standIn 69 = .ok (.ireturn, 1) := by decide +kernel
theorem dX5_standIn_70 : decode cX5_standIn 70 = .ok (.iload_n 2, 1) := by decide +kernel
theorem dX5_standIn_71 : decode cX5_standIn 71 = .ok (.bipush 7, 2) := by decide +kernel
theorem dX5_standIn_73 : decode cX5_standIn 73 = .ok (.if_icmp .ge 15, 3) := by decide +kernel
theorem dX5_standIn_76 : decode cX5_standIn 76 = .ok (.aload_n 3, 1) := by decide +kernel
theorem dX5_standIn_77 : decode cX5_standIn 77 = .ok (.iload_n 2, 1) := by decide +kernel
theorem dX5_standIn_78 : decode cX5_standIn 78 = .ok (.iconst 1, 1) := by decide +kernel
theorem dX5_standIn_79 : decode cX5_standIn 79 = .ok (.iadd, 1) := by decide +kernel
theorem dX5_standIn_80 : decode cX5_standIn 80 = .ok (.iaload, 1) := by decide +kernel
theorem dX5_standIn_81 : decode cX5_standIn 81 = .ok (.ifCond .le 7, 3) := by decide +kernel
theorem dX5_standIn_84 : decode cX5_standIn 84 = .ok (.iload_n 2, 1) := by decide +kernel
theorem dX5_standIn_85 : decode cX5_standIn 85 = .ok (.iconst 1, 1) := by decide +kernel
theorem dX5_standIn_86 : decode cX5_standIn 86 = .ok (.iadd, 1) := by decide +kernel
theorem dX5_standIn_87 : decode cX5_standIn 87 = .ok (.ireturn, 1) := by decide +kernel
theorem dX5_standIn_88 : decode cX5_standIn 88 = .ok (.ldc 99, 2) := by decide +kernel
theorem dX5_standIn_90 : decode cX5_standIn 90 = .ok (.ireturn, 1) := by decide +kernel
theorem dX5_untilHome_0 : decode cX5_untilHome 0 = .ok (.aload_n 0, 1) := by decide +kernel
theorem dX5_untilHome_1 : decode cX5_untilHome 1 = .ok (.getfield 16, 3) := by decide +kernel
theorem dX5_untilHome_4 : decode cX5_untilHome 4 = .ok (.aload_n 0, 1) := by decide +kernel
theorem dX5_untilHome_5 : decode cX5_untilHome 5 = .ok (.getfield 10, 3) := by decide +kernel
theorem dX5_untilHome_8 : decode cX5_untilHome 8 = .ok (.invokevirtual 227, 3) := by decide +kernel
theorem dX5_untilHome_11 : decode cX5_untilHome 11 = .ok (.iconst 0, 1) := by decide +kernel
theorem dX5_untilHome_12 : decode cX5_untilHome 12 = .ok (.istore_n 1, 1) := by decide +kernel
theorem dX5_untilHome_13 : decode cX5_untilHome 13 = .ok (.aload_n 0, 1) := by decide +kernel
theorem dX5_untilHome_14 : decode cX5_untilHome 14 = .ok (.getfield 16, 3) := by decide +kernel
theorem dX5_untilHome_17 : decode cX5_untilHome 17 = .ok (.getfield 132, 3) := by decide +kernel
theorem dX5_untilHome_20 : decode cX5_untilHome 20 = .ok (.ifCond .le 23, 3) := by decide +kernel
theorem dX5_untilHome_23 : decode cX5_untilHome 23 = .ok (.iload_n 1, 1) := by decide +kernel
theorem dX5_untilHome_24 : decode cX5_untilHome 24 = .ok (.bipush 50, 2) := by decide +kernel
theorem dX5_untilHome_26 : decode cX5_untilHome 26 = .ok (.if_icmp .ge 17, 3) := by decide +kernel
theorem dX5_untilHome_29 : decode cX5_untilHome 29 = .ok (.aload_n 0, 1) := by decide +kernel
theorem dX5_untilHome_30 : decode cX5_untilHome 30 = .ok (.getfield 16, 3) := by decide +kernel
theorem dX5_untilHome_33 : decode cX5_untilHome 33 = .ok (.invokevirtual 143, 3) := by decide +kernel
theorem dX5_untilHome_36 : decode cX5_untilHome 36 = .ok (.pop, 1) := by decide +kernel
theorem dX5_untilHome_37 : decode cX5_untilHome 37 = .ok (.iinc 1 1, 3) := by decide +kernel
theorem dX5_untilHome_40 : decode cX5_untilHome 40 = .ok (.goto (-27), 3) := by decide +kernel
theorem dX5_untilHome_43 : decode cX5_untilHome 43 = .ok (.iload_n 1, 1) := by decide +kernel
theorem dX5_untilHome_44 : decode cX5_untilHome 44 = .ok (.ireturn, 1) := by decide +kernel
theorem dX5_put_0 : decode cX5_put 0 = .ok (.lload_n 1, 1) := by decide +kernel
theorem dX5_put_1 : decode cX5_put 1 = .ok (.invokestatic 230, 3) := by decide +kernel
theorem dX5_put_4 : decode cX5_put 4 = .ok (.istore_n 3, 1) := by decide +kernel
theorem dX5_put_5 : decode cX5_put 5 = .ok (.iload_n 3, 1) := by decide +kernel
theorem dX5_put_6 : decode cX5_put 6 = .ok (.ifCond .ne 6, 3) := by decide +kernel
theorem dX5_put_9 : decode cX5_put 9 = .ok (.ldc 48, 2) := by decide +kernel
theorem dX5_put_11 : decode cX5_put 11 = .ok (.ireturn, 1) := by decide +kernel
theorem dX5_put_12 : decode cX5_put 12 = .ok (.aload_n 0, 1) := by decide +kernel
theorem dX5_put_13 : decode cX5_put 13 = .ok (.getfield 33, 3) := by decide +kernel
theorem dX5_put_16 : decode cX5_put 16 = .ok (.getfield 105, 3) := by decide +kernel
theorem dX5_put_19 : decode cX5_put 19 = .ok (.iload_n 3, 1) := by decide +kernel
theorem dX5_put_20 : decode cX5_put 20 = .ok (.iadd, 1) := by decide +kernel
theorem dX5_put_21 : decode cX5_put 21 = .ok (.bipush 60, 2) := by decide +kernel
theorem dX5_put_23 : decode cX5_put 23 = .ok (.if_icmp .le 6, 3) := by decide +kernel
theorem dX5_put_26 : decode cX5_put 26 = .ok (.ldc 135, 2) := by decide +kernel
theorem dX5_put_28 : decode cX5_put 28 = .ok (.ireturn, 1) := by decide +kernel
theorem dX5_put_29 : decode cX5_put 29 = .ok (.aload_n 0, 1) := by decide +kernel
theorem dX5_put_30 : decode cX5_put 30 = .ok (.getfield 33, 3) := by decide +kernel
theorem dX5_put_33 : decode cX5_put 33 = .ok (.lload_n 1, 1) := by decide +kernel
theorem dX5_put_34 : decode cX5_put 34 = .ok (.iload_n 3, 1) := by decide +kernel
theorem dX5_put_35 : decode cX5_put 35 = .ok (.invokevirtual 234, 3) := by decide +kernel
theorem dX5_put_38 : decode cX5_put 38 = .ok (.aload_n 0, 1) := by decide +kernel
theorem dX5_put_39 : decode cX5_put 39 = .ok (.getfield 33, 3) := by decide +kernel
theorem dX5_put_42 : decode cX5_put 42 = .ok (.getfield 105, 3) := by decide +kernel
theorem dX5_put_45 : decode cX5_put 45 = .ok (.ireturn, 1) := by decide +kernel
theorem dX5_wipe_0 : decode cX5_wipe 0 = .ok (.aload_n 0, 1) := by decide +kernel
theorem dX5_wipe_1 : decode cX5_wipe 1 = .ok (.getfield 33, 3) := by decide +kernel
theorem dX5_wipe_4 : decode cX5_wipe 4 = .ok (.getfield 105, 3) := by decide +kernel
theorem dX5_wipe_7 : decode cX5_wipe 7 = .ok (.istore_n 1, 1) := by decide +kernel
theorem dX5_wipe_8 : decode cX5_wipe 8 = .ok (.aload_n 0, 1) := by decide +kernel
theorem dX5_wipe_9 : decode cX5_wipe 9 = .ok (.getfield 33, 3) := by decide +kernel
theorem dX5_wipe_12 : decode cX5_wipe 12 = .ok (.iconst 0, 1) := by decide +kernel
theorem dX5_wipe_13 : decode cX5_wipe 13 = .ok (.putfield 105, 3) := by decide +kernel
theorem dX5_wipe_16 : decode cX5_wipe 16 = .ok (.iload_n 1, 1) := by decide +kernel
theorem dX5_wipe_17 : decode cX5_wipe 17 = .ok (.ireturn, 1) := by decide +kernel
theorem dX5_fault_0 : decode cX5_fault 0 = .ok (.aload_n 0, 1) := by decide +kernel
theorem dX5_fault_1 : decode cX5_fault 1 = .ok (.getfield 33, 3) := by decide +kernel
theorem dX5_fault_4 : decode cX5_fault 4 = .ok (.invokevirtual 95, 3) := by decide +kernel
theorem dX5_fault_7 : decode cX5_fault 7 = .ok (.ireturn, 1) := by decide +kernel
theorem dX5_undo_0 : decode cX5_undo 0 = .ok (.aload_n 0, 1) := by decide +kernel
theorem dX5_undo_1 : decode cX5_undo 1 = .ok (.getfield 191, 3) := by decide +kernel
theorem dX5_undo_4 : decode cX5_undo 4 = .ok (.ifCond .le 12, 3) := by decide +kernel
theorem dX5_undo_7 : decode cX5_undo 7 = .ok (.aload_n 0, 1) := by decide +kernel
theorem dX5_undo_8 : decode cX5_undo 8 = .ok (.getfield 191, 3) := by decide +kernel
theorem dX5_undo_11 : decode cX5_undo 11 = .ok (.bipush 6, 2) := by decide +kernel
theorem dX5_undo_13 : decode cX5_undo 13 = .ok (.if_icmp .le 6, 3) := by decide +kernel
theorem dX5_undo_16 : decode cX5_undo 16 = .ok (.ldc 73, 2) := by decide +kernel
theorem dX5_undo_18 : decode cX5_undo 18 = .ok (.ireturn, 1) := by decide +kernel
theorem dX5_undo_19 : decode cX5_undo 19 = .ok (.aload_n 0, 1) := by decide +kernel
theorem dX5_undo_20 : decode cX5_undo 20 = .ok (.dup, 1) := by decide +kernel
theorem dX5_undo_21 : decode cX5_undo 21 = .ok (.getfield 191, 3) := by decide +kernel
theorem dX5_undo_24 : decode cX5_undo 24 = .ok (.iconst 1, 1) := by decide +kernel
theorem dX5_undo_25 : decode cX5_undo 25 = .ok (.isub, 1) := by decide +kernel
theorem dX5_undo_26 : decode cX5_undo 26 = .ok (.putfield 191, 3) := by decide +kernel
theorem dX5_undo_29 : decode cX5_undo 29 = .ok (.aload_n 0, 1) := by decide +kernel
theorem dX5_undo_30 : decode cX5_undo 30 = .ok (.getfield 10, 3) := by decide +kernel
theorem dX5_undo_33 : decode cX5_undo 33 = .ok (.aload_n 0, 1) := by decide +kernel
theorem dX5_undo_34 : decode cX5_undo 34 = .ok (.getfield 19, 3) := by decide +kernel
theorem dX5_undo_37 : decode cX5_undo 37 = .ok (.aload_n 0, 1) := by decide +kernel
theorem dX5_undo_38 : decode cX5_undo 38 = .ok (.getfield 191, 3) := by decide +kernel
theorem dX5_undo_41 : decode cX5_undo 41 = .ok (.aaload, 1) := by decide +kernel
theorem dX5_undo_42 : decode cX5_undo 42 = .ok (.invokevirtual 227, 3) := by decide +kernel
theorem dX5_undo_45 : decode cX5_undo 45 = .ok (.aload_n 0, 1) := by decide +kernel
theorem dX5_undo_46 : decode cX5_undo 46 = .ok (.getfield 191, 3) := by decide +kernel
theorem dX5_undo_49 : decode cX5_undo 49 = .ok (.ireturn, 1) := by decide +kernel
theorem dX5_save_0 : decode cX5_save 0 = .ok (.iload_n 1, 1) := by decide +kernel
theorem dX5_save_1 : decode cX5_save 1 = .ok (.ifCond .lt 8, 3) := by decide +kernel
theorem dX5_save_4 : decode cX5_save 4 = .ok (.iload_n 1, 1) := by decide +kernel
theorem dX5_save_5 : decode cX5_save 5 = .ok (.iconst 2, 1) := by decide +kernel
theorem dX5_save_6 : decode cX5_save 6 = .ok (.if_icmp .lt 6, 3) := by decide +kernel
theorem dX5_save_9 : decode cX5_save 9 = .ok (.ldc 48, 2) := by decide +kernel
theorem dX5_save_11 : decode cX5_save 11 = .ok (.ireturn, 1) := by decide +kernel
theorem dX5_save_12 : decode cX5_save 12 = .ok (.aload_n 0, 1) := by decide +kernel
theorem dX5_save_13 : decode cX5_save 13 = .ok (.getfield 23, 3) := by decide +kernel
theorem dX5_save_16 : decode cX5_save 16 = .ok (.iload_n 1, 1) := by decide +kernel
theorem dX5_save_17 : decode cX5_save 17 = .ok (.aaload, 1) := by decide +kernel
theorem dX5_save_18 : decode cX5_save 18 = .ok (.aload_n 0, 1) := by decide +kernel
theorem dX5_save_19 : decode cX5_save 19 = .ok (.getfield 10, 3) := by decide +kernel
theorem dX5_save_22 : decode cX5_save 22 = .ok (.invokevirtual 227, 3) := by decide +kernel
theorem dX5_save_25 : decode cX5_save 25 = .ok (.aload_n 0, 1) := by decide +kernel
theorem dX5_save_26 : decode cX5_save 26 = .ok (.getfield 26, 3) := by decide +kernel
theorem dX5_save_29 : decode cX5_save 29 = .ok (.iload_n 1, 1) := by decide +kernel
theorem dX5_save_30 : decode cX5_save 30 = .ok (.iconst 1, 1) := by decide +kernel
theorem dX5_save_31 : decode cX5_save 31 = .ok (.bastore, 1) := by decide +kernel
theorem dX5_save_32 : decode cX5_save 32 = .ok (.aload_n 0, 1) := by decide +kernel
theorem dX5_save_33 : decode cX5_save 33 = .ok (.getfield 10, 3) := by decide +kernel
theorem dX5_save_36 : decode cX5_save 36 = .ok (.getfield 140, 3) := by decide +kernel
theorem dX5_save_39 : decode cX5_save 39 = .ok (.ireturn, 1) := by decide +kernel
theorem dX5_restore_0 : decode cX5_restore 0 = .ok (.iload_n 1, 1) := by decide +kernel
theorem dX5_restore_1 : decode cX5_restore 1 = .ok (.ifCond .lt 8, 3) := by decide +kernel
theorem dX5_restore_4 : decode cX5_restore 4 = .ok (.iload_n 1, 1) := by decide +kernel
theorem dX5_restore_5 : decode cX5_restore 5 = .ok (.iconst 2, 1) := by decide +kernel
theorem dX5_restore_6 : decode cX5_restore 6 = .ok (.if_icmp .lt 6, 3) := by decide +kernel
theorem dX5_restore_9 : decode cX5_restore 9 = .ok (.ldc 48, 2) := by decide +kernel
theorem dX5_restore_11 : decode cX5_restore 11 = .ok (.ireturn, 1) := by decide +kernel
theorem dX5_restore_12 : decode cX5_restore 12 = .ok (.aload_n 0, 1) := by decide +kernel
theorem dX5_restore_13 : decode cX5_restore 13 = .ok (.getfield 26, 3) := by decide +kernel
theorem dX5_restore_16 : decode cX5_restore 16 = .ok (.iload_n 1, 1) := by decide +kernel
theorem dX5_restore_17 : decode cX5_restore 17 = .ok (.baload, 1) := by decide +kernel
theorem dX5_restore_18 : decode cX5_restore 18 = .ok (.ifCond .ne 6, 3) := by decide +kernel
theorem dX5_restore_21 : decode cX5_restore 21 = .ok (.ldc 73, 2) := by decide +kernel
theorem dX5_restore_23 : decode cX5_restore 23 = .ok (.ireturn, 1) := by decide +kernel
theorem dX5_restore_24 : decode cX5_restore 24 = .ok (.aload_n 0, 1) := by decide +kernel
theorem dX5_restore_25 : decode cX5_restore 25 = .ok (.invokevirtual 52, 3) := by decide +kernel
theorem dX5_restore_28 : decode cX5_restore 28 = .ok (.aload_n 0, 1) := by decide +kernel
theorem dX5_restore_29 : decode cX5_restore 29 = .ok (.getfield 10, 3) := by decide +kernel
theorem dX5_restore_32 : decode cX5_restore 32 = .ok (.aload_n 0, 1) := by decide +kernel
theorem dX5_restore_33 : decode cX5_restore 33 = .ok (.getfield 23, 3) := by decide +kernel
theorem dX5_restore_36 : decode cX5_restore 36 = .ok (.iload_n 1, 1) := by decide +kernel
theorem dX5_restore_37 : decode cX5_restore 37 = .ok (.aaload, 1) := by decide +kernel
theorem dX5_restore_38 : decode cX5_restore 38 = .ok (.invokevirtual 227, 3) := by decide +kernel
theorem dX5_restore_41 : decode cX5_restore 41 = .ok (.aload_n 0, 1) := by decide +kernel
theorem dX5_restore_42 : decode cX5_restore 42 = .ok (.getfield 10, 3) := by decide +kernel
theorem dX5_restore_45 : decode cX5_restore 45 = .ok (.getfield 140, 3) := by decide +kernel
theorem dX5_restore_48 : decode cX5_restore 48 = .ok (.ireturn, 1) := by decide +kernel
theorem dX5_remember_0 : decode cX5_remember 0 = .ok (.aload_n 0, 1) := by decide +kernel
theorem dX5_remember_1 : decode cX5_remember 1 = .ok (.getfield 191, 3) := by decide +kernel
theorem dX5_remember_4 : decode cX5_remember 4 = .ok (.bipush 6, 2) := by decide +kernel
theorem dX5_remember_6 : decode cX5_remember 6 = .ok (.if_icmp .lt 50, 3) := by decide +kernel
theorem dX5_remember_9 : decode cX5_remember 9 = .ok (.aload_n 0, 1) := by decide +kernel
theorem dX5_remember_10 : decode cX5_remember 10 = .ok (.getfield 19, 3) := by decide +kernel
theorem dX5_remember_13 : decode cX5_remember 13 = .ok (.iconst 0, 1) := by decide +kernel
theorem dX5_remember_14 : decode cX5_remember 14 = .ok (.aaload, 1) := by decide +kernel
theorem dX5_remember_15 : decode cX5_remember 15 = .ok (.astore_n 1, 1) := by decide +kernel
theorem dX5_remember_16 : decode cX5_remember 16 = .ok (.iconst 1, 1) := by decide +kernel
theorem dX5_remember_17 : decode cX5_remember 17 = .ok (.istore_n 2, 1) := by decide +kernel
theorem dX5_remember_18 : decode cX5_remember 18 = .ok (.iload_n 2, 1) := by decide +kernel
theorem dX5_remember_19 : decode cX5_remember 19 = .ok (.bipush 6, 2) := by decide +kernel
theorem dX5_remember_21 : decode cX5_remember 21 = .ok (.if_icmp .ge 23, 3) := by decide +kernel
theorem dX5_remember_24 : decode cX5_remember 24 = .ok (.aload_n 0, 1) := by decide +kernel
theorem dX5_remember_25 : decode cX5_remember 25 = .ok (.getfield 19, 3) := by decide +kernel
theorem dX5_remember_28 : decode cX5_remember 28 = .ok (.iload_n 2, 1) := by decide +kernel
theorem dX5_remember_29 : decode cX5_remember 29 = .ok (.iconst 1, 1) := by decide +kernel
theorem dX5_remember_30 : decode cX5_remember 30 = .ok (.isub, 1) := by decide +kernel
theorem dX5_remember_31 : decode cX5_remember 31 = .ok (.aload_n 0, 1) := by decide +kernel
theorem dX5_remember_32 : decode cX5_remember 32 = .ok (.getfield 19, 3) := by decide +kernel
theorem dX5_remember_35 : decode cX5_remember 35 = .ok (.iload_n 2, 1) := by decide +kernel
theorem dX5_remember_36 : decode cX5_remember 36 = .ok (.aaload, 1) := by decide +kernel
theorem dX5_remember_37 : decode cX5_remember 37 = .ok (.aastore, 1) := by decide +kernel
theorem dX5_remember_38 : decode cX5_remember 38 = .ok (.iinc 2 1, 3) := by decide +kernel
theorem dX5_remember_41 : decode cX5_remember 41 = .ok (.goto (-23), 3) := by decide +kernel
theorem dX5_remember_44 : decode cX5_remember 44 = .ok (.aload_n 0, 1) := by decide +kernel
theorem dX5_remember_45 : decode cX5_remember 45 = .ok (.getfield 19, 3) := by decide +kernel
theorem dX5_remember_48 : decode cX5_remember 48 = .ok (.iconst 5, 1) := by decide +kernel
theorem dX5_remember_49 : decode cX5_remember 49 = .ok (.aload_n 1, 1) := by decide +kernel
theorem dX5_remember_50 : decode cX5_remember 50 = .ok (.aastore, 1) := by decide +kernel
theorem dX5_remember_51 : decode cX5_remember 51 = .ok (.aload_n 0, 1) := by decide +kernel
theorem dX5_remember_52 : decode cX5_remember 52 = .ok (.iconst 5, 1) := by decide +kernel
theorem dX5_remember_53 : decode cX5_remember 53 = .ok (.putfield 191, 3) := by decide +kernel
theorem dX5_remember_56 : decode cX5_remember 56 = .ok (.aload_n 0, 1) := by decide +kernel
theorem dX5_remember_57 : decode cX5_remember 57 = .ok (.getfield 19, 3) := by decide +kernel
theorem dX5_remember_60 : decode cX5_remember 60 = .ok (.aload_n 0, 1) := by decide +kernel
theorem dX5_remember_61 : decode cX5_remember 61 = .ok (.getfield 191, 3) := by decide +kernel
theorem dX5_remember_64 : decode cX5_remember 64 = .ok (.aaload, 1) := by decide +kernel
theorem dX5_remember_65 : decode cX5_remember 65 = .ok (.aload_n 0, 1) := by decide +kernel
theorem dX5_remember_66 : decode cX5_remember 66 = .ok (.getfield 10, 3) := by decide +kernel
theorem dX5_remember_69 : decode cX5_remember 69 = .ok (.invokevirtual 227, 3) := by decide +kernel
theorem dX5_remember_72 : decode cX5_remember 72 = .ok (.aload_n 0, 1) := by decide +kernel
theorem dX5_remember_73 : decode cX5_remember 73 = .ok (.dup, 1) := by decide +kernel
theorem dX5_remember_74 : decode cX5_remember 74 = .ok (.getfield 191, 3) := by decide +kernel
theorem dX5_remember_77 : decode cX5_remember 77 = .ok (.iconst 1, 1) := by decide +kernel
theorem dX5_remember_78 : decode cX5_remember 78 = .ok (.iadd, 1) := by decide +kernel
theorem dX5_remember_79 : decode cX5_remember 79 = .ok (.putfield 191, 3) := by decide +kernel
theorem dX5_remember_82 : decode cX5_remember 82 = .ok (.return_, 1) := by decide +kernel
theorem dX5_costOf_0 : decode cX5_costOf 0 = .ok (.aload_n 0, 1) := by decide +kernel
theorem dX5_costOf_1 : decode cX5_costOf 1 = .ok (.getfield 40, 3) := by decide +kernel
theorem dX5_costOf_4 : decode cX5_costOf 4 = .ok (.aload_n 0, 1) := by decide +kernel
theorem dX5_costOf_5 : decode cX5_costOf 5 = .ok (.getfield 10, 3) := by decide +kernel
theorem dX5_costOf_8 : decode cX5_costOf 8 = .ok (.iload_n 1, 1) := by decide +kernel
theorem dX5_costOf_9 : decode cX5_costOf 9 = .ok (.invokevirtual 118, 3) := by decide +kernel
theorem dX5_costOf_12 : decode cX5_costOf 12 = .ok (.aload_n 0, 1) := by decide +kernel
theorem dX5_costOf_13 : decode cX5_costOf 13 = .ok (.getfield 40, 3) := by decide +kernel
theorem dX5_costOf_16 : decode cX5_costOf 16 = .ok (.invokevirtual 125, 3) := by decide +kernel
theorem dX5_costOf_19 : decode cX5_costOf 19 = .ok (.ireturn, 1) := by decide +kernel
theorem dX5_pencePartedAt_0 : decode cX5_pencePartedAt 0 = .ok (.aload_n 0, 1) := by decide +kernel
theorem dX5_pencePartedAt_1 : decode cX5_pencePartedAt 1 = .ok (.iload_n 1, 1) := by decide +kernel
theorem dX5_pencePartedAt_2 : decode cX5_pencePartedAt 2 = .ok (.invokevirtual 238, 3) := by decide +kernel
theorem dX5_pencePartedAt_5 : decode cX5_pencePartedAt 5 = .ok (.aload_n 0, 1) := by decide +kernel
theorem dX5_pencePartedAt_6 : decode cX5_pencePartedAt 6 = .ok (.bipush 63, 2) := by decide +kernel
theorem dX5_pencePartedAt_8 : decode cX5_pencePartedAt 8 = .ok (.iload_n 1, 1) := by decide +kernel
theorem dX5_pencePartedAt_9 : decode cX5_pencePartedAt 9 = .ok (.isub, 1) := by decide +kernel
theorem dX5_pencePartedAt_10 : decode cX5_pencePartedAt 10 = .ok (.invokevirtual 238, 3) := by decide +kernel
theorem dX5_pencePartedAt_13 : decode cX5_pencePartedAt 13 = .ok (.iadd, 1) := by decide +kernel
theorem dX5_pencePartedAt_14 : decode cX5_pencePartedAt 14 = .ok (.ireturn, 1) := by decide +kernel
theorem dX5_costWithDuty_0 : decode cX5_costWithDuty 0 = .ok (.aload_n 0, 1) := by decide +kernel
theorem dX5_costWithDuty_1 : decode cX5_costWithDuty 1 = .ok (.iload_n 1, 1) := by decide +kernel
theorem dX5_costWithDuty_2 : decode cX5_costWithDuty 2 = .ok (.invokevirtual 92, 3) := by decide +kernel
theorem dX5_costWithDuty_5 : decode cX5_costWithDuty 5 = .ok (.aload_n 0, 1) := by decide +kernel
theorem dX5_costWithDuty_6 : decode cX5_costWithDuty 6 = .ok (.getfield 40, 3) := by decide +kernel
theorem dX5_costWithDuty_9 : decode cX5_costWithDuty 9 = .ok (.getfield 194, 3) := by decide +kernel
theorem dX5_costWithDuty_12 : decode cX5_costWithDuty 12 = .ok (.aload_n 0, 1) := by decide +kernel
theorem dX5_costWithDuty_13 : decode cX5_costWithDuty 13 = .ok (.getfield 10, 3) := by decide +kernel
theorem dX5_costWithDuty_16 : decode cX5_costWithDuty 16 = .ok (.getfield 55, 3) := by decide +kernel
theorem dX5_costWithDuty_19 : decode cX5_costWithDuty 19 = .ok (.invokestatic 198, 3) := by decide +kernel
theorem dX5_costWithDuty_22 : decode cX5_costWithDuty 22 = .ok (.iadd, 1) := by decide +kernel
theorem dX5_costWithDuty_23 : decode cX5_costWithDuty 23 = .ok (.ireturn, 1) := by decide +kernel
theorem dX5_isMember_0 : decode cX5_isMember 0 = .ok (.iload_n 0, 1) := by decide +kernel
theorem dX5_isMember_1 : decode cX5_isMember 1 = .ok (.ifCond .lt 13, 3) := by decide +kernel
theorem dX5_isMember_4 : decode cX5_isMember 4 = .ok (.iload_n 0, 1) := by decide +kernel
theorem dX5_isMember_5 : decode cX5_isMember 5 = .ok (.bipush 6, 2) := by decide +kernel
theorem dX5_isMember_7 : decode cX5_isMember 7 = .ok (.if_icmp .ge 7, 3) := by decide +kernel
theorem dX5_isMember_10 : decode cX5_isMember 10 = .ok (.iconst 1, 1) := by decide +kernel
theorem dX5_isMember_11 : decode cX5_isMember 11 = .ok (.goto 4, 3) := by decide +kernel
theorem dX5_isMember_14 : decode cX5_isMember 14 = .ok (.iconst 0, 1) := by decide +kernel
theorem dX5_isMember_15 : decode cX5_isMember 15 = .ok (.ireturn, 1) := by decide +kernel
theorem dX5_isGauge_0 : decode cX5_isGauge 0 = .ok (.iload_n 0, 1) := by decide +kernel
theorem dX5_isGauge_1 : decode cX5_isGauge 1 = .ok (.ifCond .lt 13, 3) := by decide +kernel
theorem dX5_isGauge_4 : decode cX5_isGauge 4 = .ok (.iload_n 0, 1) := by decide +kernel
theorem dX5_isGauge_5 : decode cX5_isGauge 5 = .ok (.bipush 8, 2) := by decide +kernel
theorem dX5_isGauge_7 : decode cX5_isGauge 7 = .ok (.if_icmp .ge 7, 3) := by decide +kernel
theorem dX5_isGauge_10 : decode cX5_isGauge 10 = .ok (.iconst 1, 1) := by decide +kernel
theorem dX5_isGauge_11 : decode cX5_isGauge 11 = .ok (.goto 4, 3) := by decide +kernel
theorem dX5_isGauge_14 : decode cX5_isGauge 14 = .ok (.iconst 0, 1) := by decide +kernel
theorem dX5_isGauge_15 : decode cX5_isGauge 15 = .ok (.ireturn, 1) := by decide +kernel
theorem dX5_isSet_0 : decode cX5_isSet 0 = .ok (.iload_n 0, 1) := by decide +kernel
theorem dX5_isSet_1 : decode cX5_isSet 1 = .ok (.ifCond .lt 13, 3) := by decide +kernel
theorem dX5_isSet_4 : decode cX5_isSet 4 = .ok (.iload_n 0, 1) := by decide +kernel
theorem dX5_isSet_5 : decode cX5_isSet 5 = .ok (.bipush 63, 2) := by decide +kernel
theorem dX5_isSet_7 : decode cX5_isSet 7 = .ok (.if_icmp .gt 7, 3) := by decide +kernel
theorem dX5_isSet_10 : decode cX5_isSet 10 = .ok (.iconst 1, 1) := by decide +kernel
theorem dX5_isSet_11 : decode cX5_isSet 11 = .ok (.goto 4, 3) := by decide +kernel
theorem dX5_isSet_14 : decode cX5_isSet 14 = .ok (.iconst 0, 1) := by decide +kernel
theorem dX5_isSet_15 : decode cX5_isSet 15 = .ok (.ireturn, 1) := by decide +kernel
theorem dX5_isIn_0 : decode cX5_isIn 0 = .ok (.iload_n 0, 1) := by decide +kernel
theorem dX5_isIn_1 : decode cX5_isIn 1 = .ok (.iload_n 1, 1) := by decide +kernel
theorem dX5_isIn_2 : decode cX5_isIn 2 = .ok (.ishr, 1) := by decide +kernel
theorem dX5_isIn_3 : decode cX5_isIn 3 = .ok (.iconst 1, 1) := by decide +kernel
theorem dX5_isIn_4 : decode cX5_isIn 4 = .ok (.iand, 1) := by decide +kernel
theorem dX5_isIn_5 : decode cX5_isIn 5 = .ok (.iconst 1, 1) := by decide +kernel
theorem dX5_isIn_6 : decode cX5_isIn 6 = .ok (.if_icmp .ne 7, 3) := by decide +kernel
theorem dX5_isIn_9 : decode cX5_isIn 9 = .ok (.iconst 1, 1) := by decide +kernel
theorem dX5_isIn_10 : decode cX5_isIn 10 = .ok (.goto 4, 3) := by decide +kernel
theorem dX5_isIn_13 : decode cX5_isIn 13 = .ok (.iconst 0, 1) := by decide +kernel
theorem dX5_isIn_14 : decode cX5_isIn 14 = .ok (.ireturn, 1) := by decide +kernel
theorem dX5_priceOf_0 : decode cX5_priceOf 0 = .ok (.bipush 10, 2) := by decide +kernel
theorem dX5_priceOf_2 : decode cX5_priceOf 2 = .ok (.iconst 5, 1) := by decide +kernel
theorem dX5_priceOf_3 : decode cX5_priceOf 3 = .ok (.iload_n 0, 1) := by decide +kernel
theorem dX5_priceOf_4 : decode cX5_priceOf 4 = .ok (.imul, 1) := by decide +kernel
theorem dX5_priceOf_5 : decode cX5_priceOf 5 = .ok (.iadd, 1) := by decide +kernel
theorem dX5_priceOf_6 : decode cX5_priceOf 6 = .ok (.ireturn, 1) := by decide +kernel
theorem dX5_weightOf_0 : decode cX5_weightOf 0 = .ok (.iconst 1, 1) := by decide +kernel
theorem dX5_weightOf_1 : decode cX5_weightOf 1 = .ok (.iload_n 0, 1) := by decide +kernel
theorem dX5_weightOf_2 : decode cX5_weightOf 2 = .ok (.iadd, 1) := by decide +kernel
theorem dX5_weightOf_3 : decode cX5_weightOf 3 = .ok (.ireturn, 1) := by decide +kernel
theorem dX5_dutyOn_0 : decode cX5_dutyOn 0 = .ok (.iload_n 0, 1) := by decide +kernel
theorem dX5_dutyOn_1 : decode cX5_dutyOn 1 = .ok (.aload_n 1, 1) := by decide +kernel
theorem dX5_dutyOn_2 : decode cX5_dutyOn 2 = .ok (.iconst 5, 1) := by decide +kernel
theorem dX5_dutyOn_3 : decode cX5_dutyOn 3 = .ok (.iaload, 1) := by decide +kernel
theorem dX5_dutyOn_4 : decode cX5_dutyOn 4 = .ok (.isub, 1) := by decide +kernel
theorem dX5_dutyOn_5 : decode cX5_dutyOn 5 = .ok (.iconst 0, 1) := by decide +kernel
theorem dX5_dutyOn_6 : decode cX5_dutyOn 6 = .ok (.invokestatic 241, 3) := by decide +kernel
theorem dX5_dutyOn_9 : decode cX5_dutyOn 9 = .ok (.aload_n 1, 1) := by decide +kernel
theorem dX5_dutyOn_10 : decode cX5_dutyOn 10 = .ok (.bipush 6, 2) := by decide +kernel
theorem dX5_dutyOn_12 : decode cX5_dutyOn 12 = .ok (.iaload, 1) := by decide +kernel
theorem dX5_dutyOn_13 : decode cX5_dutyOn 13 = .ok (.imul, 1) := by decide +kernel
theorem dX5_dutyOn_14 : decode cX5_dutyOn 14 = .ok (.bipush 100, 2) := by decide +kernel
theorem dX5_dutyOn_16 : decode cX5_dutyOn 16 = .ok (.idiv, 1) := by decide +kernel
theorem dX5_dutyOn_17 : decode cX5_dutyOn 17 = .ok (.ireturn, 1) := by decide +kernel
theorem dX5_sumOf_0 : decode cX5_sumOf 0 = .ok (.iconst 0, 1) := by decide +kernel
theorem dX5_sumOf_1 : decode cX5_sumOf 1 = .ok (.istore_n 1, 1) := by decide +kernel
theorem dX5_sumOf_2 : decode cX5_sumOf 2 = .ok (.aload_n 0, 1) := by decide +kernel
theorem dX5_sumOf_3 : decode cX5_sumOf 3 = .ok (.astore_n 2, 1) := by decide +kernel
theorem dX5_sumOf_4 : decode cX5_sumOf 4 = .ok (.aload_n 2, 1) := by decide +kernel
theorem dX5_sumOf_5 : decode cX5_sumOf 5 = .ok (.arraylength, 1) := by decide +kernel
theorem dX5_sumOf_6 : decode cX5_sumOf 6 = .ok (.istore_n 3, 1) := by decide +kernel
theorem dX5_sumOf_7 : decode cX5_sumOf 7 = .ok (.iconst 0, 1) := by decide +kernel
theorem dX5_sumOf_8 : decode cX5_sumOf 8 = .ok (.istore 4, 2) := by decide +kernel
theorem dX5_sumOf_10 : decode cX5_sumOf 10 = .ok (.iload 4, 2) := by decide +kernel
theorem dX5_sumOf_12 : decode cX5_sumOf 12 = .ok (.iload_n 3, 1) := by decide +kernel
theorem dX5_sumOf_13 : decode cX5_sumOf 13 = .ok (.if_icmp .ge 20, 3) := by decide +kernel
theorem dX5_sumOf_16 : decode cX5_sumOf 16 = .ok (.aload_n 2, 1) := by decide +kernel
theorem dX5_sumOf_17 : decode cX5_sumOf 17 = .ok (.iload 4, 2) := by decide +kernel
theorem dX5_sumOf_19 : decode cX5_sumOf 19 = .ok (.iaload, 1) := by decide +kernel
theorem dX5_sumOf_20 : decode cX5_sumOf 20 = .ok (.istore 5, 2) := by decide +kernel
theorem dX5_sumOf_22 : decode cX5_sumOf 22 = .ok (.iload_n 1, 1) := by decide +kernel
theorem dX5_sumOf_23 : decode cX5_sumOf 23 = .ok (.iload 5, 2) := by decide +kernel
theorem dX5_sumOf_25 : decode cX5_sumOf 25 = .ok (.iadd, 1) := by decide +kernel
theorem dX5_sumOf_26 : decode cX5_sumOf 26 = .ok (.istore_n 1, 1) := by decide +kernel
theorem dX5_sumOf_27 : decode cX5_sumOf 27 = .ok (.iinc 4 1, 3) := by decide +kernel
theorem dX5_sumOf_30 : decode cX5_sumOf 30 = .ok (.goto (-20), 3) := by decide +kernel
theorem dX5_sumOf_33 : decode cX5_sumOf 33 = .ok (.iload_n 1, 1) := by decide +kernel
theorem dX5_sumOf_34 : decode cX5_sumOf 34 = .ok (.ireturn, 1) := by decide +kernel
theorem dX5_copyRow_0 : decode cX5_copyRow 0 = .ok (.aload_n 0, 1) := by decide +kernel
theorem dX5_copyRow_1 : decode cX5_copyRow 1 = .ok (.iconst 0, 1) := by decide +kernel
theorem dX5_copyRow_2 : decode cX5_copyRow 2 = .ok (.aload_n 1, 1) := by decide +kernel
theorem dX5_copyRow_3 : decode cX5_copyRow 3 = .ok (.iconst 0, 1) := by decide +kernel
theorem dX5_copyRow_4 : decode cX5_copyRow 4 = .ok (.aload_n 0, 1) := by decide +kernel
theorem dX5_copyRow_5 : decode cX5_copyRow 5 = .ok (.arraylength, 1) := by decide +kernel
theorem dX5_copyRow_6 : decode cX5_copyRow 6 = .ok (.aload_n 1, 1) := by decide +kernel
theorem dX5_copyRow_7 : decode cX5_copyRow 7 = .ok (.arraylength, 1) := by decide +kernel
theorem dX5_copyRow_8 : decode cX5_copyRow 8 = .ok (.invokestatic 245, 3) := by decide +kernel
theorem dX5_copyRow_11 : decode cX5_copyRow 11 = .ok (.invokestatic 248, 3) := by decide +kernel
theorem dX5_copyRow_14 : decode cX5_copyRow 14 = .ok (.return_, 1) := by decide +kernel
theorem dX5_copyTable_0 : decode cX5_copyTable 0 = .ok (.iconst 0, 1) := by decide +kernel
theorem dX5_copyTable_1 : decode cX5_copyTable 1 = .ok (.istore_n 2, 1) := by decide +kernel
theorem dX5_copyTable_2 : decode cX5_copyTable 2 = .ok (.iload_n 2, 1) := by decide +kernel
theorem dX5_copyTable_3 : decode cX5_copyTable 3 = .ok (.aload_n 0, 1) := by decide +kernel
theorem dX5_copyTable_4 : decode cX5_copyTable 4 = .ok (.arraylength, 1) := by decide +kernel
theorem dX5_copyTable_5 : decode cX5_copyTable 5 = .ok (.if_icmp .ge 24, 3) := by decide +kernel
theorem dX5_copyTable_8 : decode cX5_copyTable 8 = .ok (.iload_n 2, 1) := by decide +kernel
theorem dX5_copyTable_9 : decode cX5_copyTable 9 = .ok (.aload_n 1, 1) := by decide +kernel
theorem dX5_copyTable_10 : decode cX5_copyTable 10 = .ok (.arraylength, 1) := by decide +kernel
theorem dX5_copyTable_11 : decode cX5_copyTable 11 = .ok (.if_icmp .ge 18, 3) := by decide +kernel
theorem dX5_copyTable_14 : decode cX5_copyTable 14 = .ok (.aload_n 0, 1) := by decide +kernel
theorem dX5_copyTable_15 : decode cX5_copyTable 15 = .ok (.iload_n 2, 1) := by decide +kernel
theorem dX5_copyTable_16 : decode cX5_copyTable 16 = .ok (.aaload, 1) := by decide +kernel
theorem dX5_copyTable_17 : decode cX5_copyTable 17 = .ok (.aload_n 1, 1) := by decide +kernel
theorem dX5_copyTable_18 : decode cX5_copyTable 18 = .ok (.iload_n 2, 1) := by decide +kernel
theorem dX5_copyTable_19 : decode cX5_copyTable 19 = .ok (.aaload, 1) := by decide +kernel
theorem dX5_copyTable_20 : decode cX5_copyTable 20 = .ok (.invokestatic 254, 3) := by decide +kernel
theorem dX5_copyTable_23 : decode cX5_copyTable 23 = .ok (.iinc 2 1, 3) := by decide +kernel
theorem dX5_copyTable_26 : decode cX5_copyTable 26 = .ok (.goto (-24), 3) := by decide +kernel
theorem dX5_copyTable_29 : decode cX5_copyTable 29 = .ok (.return_, 1) := by decide +kernel
theorem dX6_init_0 : decode cX6_init 0 = .ok (.aload_n 0, 1) := by decide +kernel
theorem dX6_init_1 : decode cX6_init 1 = .ok (.invokespecial 1, 3) := by decide +kernel
theorem dX6_init_4 : decode cX6_init 4 = .ok (.aload_n 0, 1) := by decide +kernel
theorem dX6_init_5 : decode cX6_init 5 = .ok (.sipush 402, 3) := by decide +kernel
theorem dX6_init_8 : decode cX6_init 8 = .ok (.newarray .int, 2) := by decide +kernel
theorem dX6_init_10 : decode cX6_init 10 = .ok (.putfield 7, 3) := by decide +kernel
theorem dX6_init_13 : decode cX6_init 13 = .ok (.aload_n 0, 1) := by decide +kernel
theorem dX6_init_14 : decode cX6_init 14 = .ok (.sipush 402, 3) := by decide +kernel
theorem dX6_init_17 : decode cX6_init 17 = .ok (.newarray .int, 2) := by decide +kernel
theorem dX6_init_19 : decode cX6_init 19 = .ok (.putfield 13, 3) := by decide +kernel
theorem dX6_init_22 : decode cX6_init 22 = .ok (.aload_n 0, 1) := by decide +kernel
theorem dX6_init_23 : decode cX6_init 23 = .ok (.sipush 2412, 3) := by decide +kernel
theorem dX6_init_26 : decode cX6_init 26 = .ok (.newarray .int, 2) := by decide +kernel
theorem dX6_init_28 : decode cX6_init 28 = .ok (.putfield 16, 3) := by decide +kernel
theorem dX6_init_31 : decode cX6_init 31 = .ok (.aload_n 0, 1) := by decide +kernel
theorem dX6_init_32 : decode cX6_init 32 = .ok (.sipush 804, 3) := by decide +kernel
theorem dX6_init_35 : decode cX6_init 35 = .ok (.newarray .int, 2) := by decide +kernel
theorem dX6_init_37 : decode cX6_init 37 = .ok (.putfield 19, 3) := by decide +kernel
theorem dX6_init_40 : decode cX6_init 40 = .ok (.aload_n 0, 1) := by decide +kernel
theorem dX6_init_41 : decode cX6_init 41 = .ok (.iconst 2, 1) := by decide +kernel
theorem dX6_init_42 : decode cX6_init 42 = .ok (.newarray .boolean, 2) := by decide +kernel
theorem dX6_init_44 : decode cX6_init 44 = .ok (.putfield 22, 3) := by decide +kernel
theorem dX6_init_47 : decode cX6_init 47 = .ok (.aload_n 0, 1) := by decide +kernel
theorem dX6_init_48 : decode cX6_init 48 = .ok (.bipush 60, 2) := by decide +kernel
theorem dX6_init_50 : decode cX6_init 50 = .ok (.newarray .int, 2) := by decide +kernel
theorem dX6_init_52 : decode cX6_init 52 = .ok (.putfield 26, 3) := by decide +kernel
theorem dX6_init_55 : decode cX6_init 55 = .ok (.aload_n 0, 1) := by decide +kernel
theorem dX6_init_56 : decode cX6_init 56 = .ok (.bipush 6, 2) := by decide +kernel
theorem dX6_init_58 : decode cX6_init 58 = .ok (.newarray .int, 2) := by decide +kernel
theorem dX6_init_60 : decode cX6_init 60 = .ok (.putfield 29, 3) := by decide +kernel
theorem dX6_init_63 : decode cX6_init 63 = .ok (.aload_n 0, 1) := by decide +kernel
theorem dX6_init_64 : decode cX6_init 64 = .ok (.bipush 6, 2) := by decide +kernel
theorem dX6_init_66 : decode cX6_init 66 = .ok (.newarray .int, 2) := by decide +kernel
theorem dX6_init_68 : decode cX6_init 68 = .ok (.putfield 32, 3) := by decide +kernel
theorem dX6_init_71 : decode cX6_init 71 = .ok (.aload_n 0, 1) := by decide +kernel
theorem dX6_init_72 : decode cX6_init 72 = .ok (.getfield 7, 3) := by decide +kernel
theorem dX6_init_75 : decode cX6_init 75 = .ok (.iconst 0, 1) := by decide +kernel
theorem dX6_init_76 : decode cX6_init 76 = .ok (.iconst 5, 1) := by decide +kernel
theorem dX6_init_77 : decode cX6_init 77 = .ok (.iastore, 1) := by decide +kernel
theorem dX6_init_78 : decode cX6_init 78 = .ok (.aload_n 0, 1) := by decide +kernel
theorem dX6_init_79 : decode cX6_init 79 = .ok (.getfield 7, 3) := by decide +kernel
theorem dX6_init_82 : decode cX6_init 82 = .ok (.iconst 1, 1) := by decide +kernel
theorem dX6_init_83 : decode cX6_init 83 = .ok (.bipush 20, 2) := by decide +kernel
theorem dX6_init_85 : decode cX6_init 85 = .ok (.iastore, 1) := by decide +kernel
theorem dX6_init_86 : decode cX6_init 86 = .ok (.aload_n 0, 1) := by decide +kernel
theorem dX6_init_87 : decode cX6_init 87 = .ok (.getfield 7, 3) := by decide +kernel
theorem dX6_init_90 : decode cX6_init 90 = .ok (.iconst 2, 1) := by decide +kernel
theorem dX6_init_91 : decode cX6_init 91 = .ok (.iconst 1, 1) := by decide +kernel
theorem dX6_init_92 : decode cX6_init 92 = .ok (.iastore, 1) := by decide +kernel
theorem dX6_init_93 : decode cX6_init 93 = .ok (.aload_n 0, 1) := by decide +kernel
theorem dX6_init_94 : decode cX6_init 94 = .ok (.getfield 7, 3) := by decide +kernel
theorem dX6_init_97 : decode cX6_init 97 = .ok (.iconst 3, 1) := by decide +kernel
theorem dX6_init_98 : decode cX6_init 98 = .ok (.iconst 5, 1) := by decide +kernel
theorem dX6_init_99 : decode cX6_init 99 = .ok (.iastore, 1) := by decide +kernel
theorem dX6_init_100 : decode cX6_init 100 = .ok (.aload_n 0, 1) := by decide +kernel
theorem dX6_init_101 : decode cX6_init 101 = .ok (.getfield 7, 3) := by decide +kernel
theorem dX6_init_104 : decode cX6_init 104 = .ok (.iconst 4, 1) := by decide +kernel
theorem dX6_init_105 : decode cX6_init 105 = .ok (.bipush 7, 2) := by decide +kernel
theorem dX6_init_107 : decode cX6_init 107 = .ok (.iastore, 1) := by decide +kernel
theorem dX6_init_108 : decode cX6_init 108 = .ok (.aload_n 0, 1) := by decide +kernel
theorem dX6_init_109 : decode cX6_init 109 = .ok (.getfield 7, 3) := by decide +kernel
theorem dX6_init_112 : decode cX6_init 112 = .ok (.iconst 5, 1) := by decide +kernel
theorem dX6_init_113 : decode cX6_init 113 = .ok (.bipush 100, 2) := by decide +kernel
theorem dX6_init_115 : decode cX6_init 115 = .ok (.iastore, 1) := by decide +kernel
theorem dX6_init_116 : decode cX6_init 116 = .ok (.aload_n 0, 1) := by decide +kernel
theorem dX6_init_117 : decode cX6_init 117 = .ok (.getfield 7, 3) := by decide +kernel
theorem dX6_init_120 : decode cX6_init 120 = .ok (.bipush 6, 2) := by decide +kernel
theorem dX6_init_122 : decode cX6_init 122 = .ok (.bipush 20, 2) := by decide +kernel
theorem dX6_init_124 : decode cX6_init 124 = .ok (.iastore, 1) := by decide +kernel
theorem dX6_init_125 : decode cX6_init 125 = .ok (.aload_n 0, 1) := by decide +kernel
theorem dX6_init_126 : decode cX6_init 126 = .ok (.getfield 7, 3) := by decide +kernel
theorem dX6_init_129 : decode cX6_init 129 = .ok (.bipush 7, 2) := by decide +kernel
theorem dX6_init_131 : decode cX6_init 131 = .ok (.bipush 50, 2) := by decide +kernel
theorem dX6_init_133 : decode cX6_init 133 = .ok (.iastore, 1) := by decide +kernel
theorem dX6_init_134 : decode cX6_init 134 = .ok (.aload_n 0, 1) := by decide +kernel
theorem dX6_init_135 : decode cX6_init 135 = .ok (.getfield 7, 3) := by decide +kernel
theorem dX6_init_138 : decode cX6_init 138 = .ok (.bipush 8, 2) := by decide +kernel
theorem dX6_init_140 : decode cX6_init 140 = .ok (.bipush 20, 2) := by decide +kernel
theorem dX6_init_142 : decode cX6_init 142 = .ok (.iastore, 1) := by decide +kernel
theorem dX6_init_143 : decode cX6_init 143 = .ok (.aload_n 0, 1) := by decide +kernel
theorem dX6_init_144 : decode cX6_init 144 = .ok (.getfield 7, 3) := by decide +kernel
theorem dX6_init_147 : decode cX6_init 147 = .ok (.bipush 10, 2) := by decide +kernel
theorem dX6_init_149 : decode cX6_init 149 = .ok (.iconst 1, 1) := by decide +kernel
theorem dX6_init_150 : decode cX6_init 150 = .ok (.iastore, 1) := by decide +kernel
theorem dX6_init_151 : decode cX6_init 151 = .ok (.return_, 1) := by decide +kernel
theorem dX6_in_0 : decode cX6_in 0 = .ok (.iload_n 0, 1) := by decide +kernel
theorem dX6_in_1 : decode cX6_in 1 = .ok (.iload_n 1, 1) := by decide +kernel
theorem dX6_in_2 : decode cX6_in 2 = .ok (.if_icmp .lt 12, 3) := by decide +kernel
theorem dX6_in_5 : decode cX6_in 5 = .ok (.iload_n 0, 1) := by decide +kernel
theorem dX6_in_6 : decode cX6_in 6 = .ok (.iload_n 2, 1) := by decide +kernel
theorem dX6_in_7 : decode cX6_in 7 = .ok (.if_icmp .gt 7, 3) := by decide +kernel
theorem dX6_in_10 : decode cX6_in 10 = .ok (.iconst 1, 1) := by decide +kernel
theorem dX6_in_11 : decode cX6_in 11 = .ok (.goto 4, 3) := by decide +kernel
theorem dX6_in_14 : decode cX6_in 14 = .ok (.iconst 0, 1) := by decide +kernel
theorem dX6_in_15 : decode cX6_in 15 = .ok (.ireturn, 1) := by decide +kernel
theorem dX6_isMember_0 : decode cX6_isMember 0 = .ok (.iload_n 0, 1) := by decide +kernel
theorem dX6_isMember_1 : decode cX6_isMember 1 = .ok (.iconst 0, 1) := by decide +kernel
theorem dX6_isMember_2 : decode cX6_isMember 2 = .ok (.iconst 5, 1) := by decide +kernel
theorem dX6_isMember_3 : decode cX6_isMember 3 = .ok (.invokestatic 35, 3) := by decide +kernel
theorem dX6_isMember_6 : decode cX6_isMember 6 = .ok (.ireturn, 1) := by decide +kernel
theorem dX6_isGauge_0 : decode cX6_isGauge 0 = .ok (.iload_n 0, 1) := by decide +kernel
theorem dX6_isGauge_1 : decode cX6_isGauge 1 = .ok (.iconst 0, 1) := by decide +kernel
theorem dX6_isGauge_2 : decode cX6_isGauge 2 = .ok (.bipush 7, 2) := by decide +kernel
theorem dX6_isGauge_4 : decode cX6_isGauge 4 = .ok (.invokestatic 35, 3) := by decide +kernel
theorem dX6_isGauge_7 : decode cX6_isGauge 7 = .ok (.ireturn, 1) := by decide +kernel
theorem dX6_of_0 : decode cX6_of 0 = .ok (.bipush 15, 2) := by decide +kernel
theorem dX6_of_2 : decode cX6_of 2 = .ok (.bipush 22, 2) := by decide +kernel
theorem dX6_of_4 : decode cX6_of 4 = .ok (.iload_n 0, 1) := by decide +kernel
theorem dX6_of_5 : decode cX6_of 5 = .ok (.imul, 1) := by decide +kernel
theorem dX6_of_6 : decode cX6_of 6 = .ok (.iadd, 1) := by decide +kernel
theorem dX6_of_7 : decode cX6_of 7 = .ok (.iload_n 1, 1) := by decide +kernel
theorem dX6_of_8 : decode cX6_of 8 = .ok (.iadd, 1) := by decide +kernel
theorem dX6_of_9 : decode cX6_of 9 = .ok (.ireturn, 1) := by decide +kernel
theorem dX6_ofParcel_0 : decode cX6_ofParcel 0 = .ok (.sipush 147, 3) := by decide +kernel
theorem dX6_ofParcel_3 : decode cX6_ofParcel 3 = .ok (.bipush 51, 2) := by decide +kernel
theorem dX6_ofParcel_5 : decode cX6_ofParcel 5 = .ok (.iload_n 0, 1) := by decide +kernel
theorem dX6_ofParcel_6 : decode cX6_ofParcel 6 = .ok (.imul, 1) := by decide +kernel
theorem dX6_ofParcel_7 : decode cX6_ofParcel 7 = .ok (.iadd, 1) := by decide +kernel
theorem dX6_ofParcel_8 : decode cX6_ofParcel 8 = .ok (.iload_n 1, 1) := by decide +kernel
theorem dX6_ofParcel_9 : decode cX6_ofParcel 9 = .ok (.iadd, 1) := by decide +kernel
theorem dX6_ofParcel_10 : decode cX6_ofParcel 10 = .ok (.ireturn, 1) := by decide +kernel
theorem dX6_price_0 : decode cX6_price 0 = .ok (.bipush 10, 2) := by decide +kernel
theorem dX6_price_2 : decode cX6_price 2 = .ok (.iconst 5, 1) := by decide +kernel
theorem dX6_price_3 : decode cX6_price 3 = .ok (.iload_n 0, 1) := by decide +kernel
theorem dX6_price_4 : decode cX6_price 4 = .ok (.imul, 1) := by decide +kernel
theorem dX6_price_5 : decode cX6_price 5 = .ok (.iadd, 1) := by decide +kernel
theorem dX6_price_6 : decode cX6_price 6 = .ok (.ireturn, 1) := by decide +kernel
theorem dX6_has_0 : decode cX6_has 0 = .ok (.iload_n 0, 1) := by decide +kernel
theorem dX6_has_1 : decode cX6_has 1 = .ok (.iload_n 1, 1) := by decide +kernel
theorem dX6_has_2 : decode cX6_has 2 = .ok (.ishr, 1) := by decide +kernel
theorem dX6_has_3 : decode cX6_has 3 = .ok (.iconst 1, 1) := by decide +kernel
theorem dX6_has_4 : decode cX6_has 4 = .ok (.iand, 1) := by decide +kernel
theorem dX6_has_5 : decode cX6_has 5 = .ok (.iconst 1, 1) := by decide +kernel
theorem dX6_has_6 : decode cX6_has 6 = .ok (.if_icmp .ne 7, 3) := by decide +kernel
theorem dX6_has_9 : decode cX6_has 9 = .ok (.iconst 1, 1) := by decide +kernel
theorem dX6_has_10 : decode cX6_has 10 = .ok (.goto 4, 3) := by decide +kernel
theorem dX6_has_13 : decode cX6_has 13 = .ok (.iconst 0, 1) := by decide +kernel
theorem dX6_has_14 : decode cX6_has 14 = .ok (.ireturn, 1) := by decide +kernel
theorem dX6_record_0 : decode cX6_record 0 = .ok (.aload_n 0, 1) := by decide +kernel
theorem dX6_record_1 : decode cX6_record 1 = .ok (.getfield 39, 3) := by decide +kernel
theorem dX6_record_4 : decode cX6_record 4 = .ok (.bipush 6, 2) := by decide +kernel
theorem dX6_record_6 : decode cX6_record 6 = .ok (.if_icmp .ne 44, 3) := by decide +kernel
theorem dX6_record_9 : decode cX6_record 9 = .ok (.iconst 0, 1) := by decide +kernel
theorem dX6_record_10 : decode cX6_record 10 = .ok (.istore_n 1, 1) := by decide +kernel
theorem dX6_record_11 : decode cX6_record 11 = .ok (.iload_n 1, 1) := by decide +kernel
theorem dX6_record_12 : decode cX6_record 12 = .ok (.sipush 2010, 3) := by decide +kernel
theorem dX6_record_15 : decode cX6_record 15 = .ok (.if_icmp .ge 25, 3) := by decide +kernel
theorem dX6_record_18 : decode cX6_record 18 = .ok (.aload_n 0, 1) := by decide +kernel
theorem dX6_record_19 : decode cX6_record 19 = .ok (.getfield 16, 3) := by decide +kernel
theorem dX6_record_22 : decode cX6_record 22 = .ok (.iload_n 1, 1) := by decide +kernel
theorem dX6_record_23 : decode cX6_record 23 = .ok (.aload_n 0, 1) := by decide +kernel
theorem dX6_record_24 : decode cX6_record 24 = .ok (.getfield 16, 3) := by decide +kernel
theorem dX6_record_27 : decode cX6_record 27 = .ok (.iload_n 1, 1) := by decide +kernel
theorem dX6_record_28 : decode cX6_record 28 = .ok (.sipush 402, 3) := by decide +kernel
theorem dX6_record_31 : decode cX6_record 31 = .ok (.iadd, 1) := by decide +kernel
theorem dX6_record_32 : decode cX6_record 32 = .ok (.iaload, 1) := by decide +kernel
theorem dX6_record_33 : decode cX6_record 33 = .ok (.iastore, 1) := by decide +kernel
theorem dX6_record_34 : decode cX6_record 34 = .ok (.iinc 1 1, 3) := by decide +kernel
theorem dX6_record_37 : decode cX6_record 37 = .ok (.goto (-26), 3) := by decide +kernel
theorem dX6_record_40 : decode cX6_record 40 = .ok (.aload_n 0, 1) := by decide +kernel
theorem dX6_record_41 : decode cX6_record 41 = .ok (.dup, 1) := by decide +kernel
theorem dX6_record_42 : decode cX6_record 42 = .ok (.getfield 39, 3) := by decide +kernel
theorem dX6_record_45 : decode cX6_record 45 = .ok (.iconst 1, 1) := by decide +kernel
theorem dX6_record_46 : decode cX6_record 46 = .ok (.isub, 1) := by decide +kernel
theorem dX6_record_47 : decode cX6_record 47 = .ok (.putfield 39, 3) := by decide +kernel
theorem dX6_record_50 : decode cX6_record 50 = .ok (.iconst 0, 1) := by decide +kernel
theorem dX6_record_51 : decode cX6_record 51 = .ok (.istore_n 1, 1) := by decide +kernel
theorem dX6_record_52 : decode cX6_record 52 = .ok (.iload_n 1, 1) := by decide +kernel
theorem dX6_record_53 : decode cX6_record 53 = .ok (.sipush 402, 3) := by decide +kernel
theorem dX6_record_56 : decode cX6_record 56 = .ok (.if_icmp .ge 30, 3) := by decide +kernel
theorem dX6_record_59 : decode cX6_record 59 = .ok (.aload_n 0, 1) := by decide +kernel
theorem dX6_record_60 : decode cX6_record 60 = .ok (.getfield 16, 3) := by decide +kernel
theorem dX6_record_63 : decode cX6_record 63 = .ok (.sipush 402, 3) := by decide +kernel
theorem dX6_record_66 : decode cX6_record 66 = .ok (.aload_n 0, 1) := by decide +kernel
theorem dX6_record_67 : decode cX6_record 67 = .ok (.getfield 39, 3) := by decide +kernel
theorem dX6_record_70 : decode cX6_record 70 = .ok (.imul, 1) := by decide +kernel
theorem dX6_record_71 : decode cX6_record 71 = .ok (.iload_n 1, 1) := by decide +kernel
theorem dX6_record_72 : decode cX6_record 72 = .ok (.iadd, 1) := by decide +kernel
theorem dX6_record_73 : decode cX6_record 73 = .ok (.aload_n 0, 1) := by decide +kernel
theorem dX6_record_74 : decode cX6_record 74 = .ok (.getfield 7, 3) := by decide +kernel
theorem dX6_record_77 : decode cX6_record 77 = .ok (.iload_n 1, 1) := by decide +kernel
theorem dX6_record_78 : decode cX6_record 78 = .ok (.iaload, 1) := by decide +kernel
theorem dX6_record_79 : decode cX6_record 79 = .ok (.iastore, 1) := by decide +kernel
theorem dX6_record_80 : decode cX6_record 80 = .ok (.iinc 1 1, 3) := by decide +kernel
theorem dX6_record_83 : decode cX6_record 83 = .ok (.goto (-31), 3) := by decide +kernel
theorem dX6_record_86 : decode cX6_record 86 = .ok (.aload_n 0, 1) := by decide +kernel
theorem dX6_record_87 : decode cX6_record 87 = .ok (.dup, 1) := by decide +kernel
theorem dX6_record_88 : decode cX6_record 88 = .ok (.getfield 39, 3) := by decide +kernel
theorem dX6_record_91 : decode cX6_record 91 = .ok (.iconst 1, 1) := by decide +kernel
theorem dX6_record_92 : decode cX6_record 92 = .ok (.iadd, 1) := by decide +kernel
theorem dX6_record_93 : decode cX6_record 93 = .ok (.putfield 39, 3) := by decide +kernel
theorem dX6_record_96 : decode cX6_record 96 = .ok (.return_, 1) := by decide +kernel
theorem dX6_putAside_0 : decode cX6_putAside 0 = .ok (.iconst 0, 1) := by decide +kernel
theorem dX6_putAside_1 : decode cX6_putAside 1 = .ok (.istore_n 1, 1) := by decide +kernel
theorem dX6_putAside_2 : decode cX6_putAside 2 = .ok (.iload_n 1, 1) := by decide +kernel
theorem dX6_putAside_3 : decode cX6_putAside 3 = .ok (.sipush 402, 3) := by decide +kernel
theorem dX6_putAside_6 : decode cX6_putAside 6 = .ok (.if_icmp .ge 21, 3) := by decide +kernel
theorem dX6_putAside_9 : decode cX6_putAside 9 = .ok (.aload_n 0, 1) := by decide +kernel
theorem dX6_putAside_10 : decode cX6_putAside 10 = .ok (.getfield 13, 3) := by decide +kernel
theorem dX6_putAside_13 : decode cX6_putAside 13 = .ok (.iload_n 1, 1) := by decide +kernel
theorem dX6_putAside_14 : decode cX6_putAside 14 = .ok (.aload_n 0, 1) := by decide +kernel
theorem dX6_putAside_15 : decode cX6_putAside 15 = .ok (.getfield 7, 3) := by decide +kernel
theorem dX6_putAside_18 : decode cX6_putAside 18 = .ok (.iload_n 1, 1) := by decide +kernel
theorem dX6_putAside_19 : decode cX6_putAside 19 = .ok (.iaload, 1) := by decide +kernel
theorem dX6_putAside_20 : decode cX6_putAside 20 = .ok (.iastore, 1) := by decide +kernel
theorem dX6_putAside_21 : decode cX6_putAside 21 = .ok (.iinc 1 1, 3) := by decide +kernel
theorem dX6_putAside_24 : decode cX6_putAside 24 = .ok (.goto (-22), 3) := by decide +kernel
theorem dX6_putAside_27 : decode cX6_putAside 27 = .ok (.return_, 1) := by decide +kernel
theorem dX6_putBack_0 : decode cX6_putBack 0 = .ok (.iconst 0, 1) := by decide +kernel
theorem dX6_putBack_1 : decode cX6_putBack 1 = .ok (.istore_n 1, 1) := by decide +kernel
theorem dX6_putBack_2 : decode cX6_putBack 2 = .ok (.iload_n 1, 1) := by decide +kernel
theorem dX6_putBack_3 : decode cX6_putBack 3 = .ok (.sipush 402, 3) := by decide +kernel
theorem dX6_putBack_6 : decode cX6_putBack 6 = .ok (.if_icmp .ge 21, 3) := by decide +kernel
theorem dX6_putBack_9 : decode cX6_putBack 9 = .ok (.aload_n 0, 1) := by decide +kernel
theorem dX6_putBack_10 : decode cX6_putBack 10 = .ok (.getfield 7, 3) := by decide +kernel
theorem dX6_putBack_13 : decode cX6_putBack 13 = .ok (.iload_n 1, 1) := by decide +kernel
theorem dX6_putBack_14 : decode cX6_putBack 14 = .ok (.aload_n 0, 1) := by decide +kernel
theorem dX6_putBack_15 : decode cX6_putBack 15 = .ok (.getfield 13, 3) := by decide +kernel
theorem dX6_putBack_18 : decode cX6_putBack 18 = .ok (.iload_n 1, 1) := by decide +kernel
theorem dX6_putBack_19 : decode cX6_putBack 19 = .ok (.iaload, 1) := by decide +kernel
theorem dX6_putBack_20 : decode cX6_putBack 20 = .ok (.iastore, 1) := by decide +kernel
theorem dX6_putBack_21 : decode cX6_putBack 21 = .ok (.iinc 1 1, 3) := by decide +kernel
theorem dX6_putBack_24 : decode cX6_putBack 24 = .ok (.goto (-22), 3) := by decide +kernel
theorem dX6_putBack_27 : decode cX6_putBack 27 = .ok (.return_, 1) := by decide +kernel
theorem dX6_wanted_0 : decode cX6_wanted 0 = .ok (.iconst 0, 1) := by decide +kernel
theorem dX6_wanted_1 : decode cX6_wanted 1 = .ok (.istore_n 3, 1) := by decide +kernel
theorem dX6_wanted_2 : decode cX6_wanted 2 = .ok (.iconst 0, 1) := by decide +kernel
theorem dX6_wanted_3 : decode cX6_wanted 3 = .ok (.istore 4, 2) := by decide +kernel
theorem dX6_wanted_5 : decode cX6_wanted 5 = .ok (.iload 4, 2) := by decide +kernel
theorem dX6_wanted_7 : decode cX6_wanted 7 = .ok (.bipush 6, 2) := by decide +kernel
theorem dX6_wanted_9 : decode cX6_wanted 9 = .ok (.if_icmp .ge 39, 3) := by decide +kernel
theorem dX6_wanted_12 : decode cX6_wanted 12 = .ok (.iload_n 3, 1) := by decide +kernel
theorem dX6_wanted_13 : decode cX6_wanted 13 = .ok (.iload_n 1, 1) := by decide +kernel
theorem dX6_wanted_14 : decode cX6_wanted 14 = .ok (.iload 4, 2) := by decide +kernel
theorem dX6_wanted_16 : decode cX6_wanted 16 = .ok (.invokestatic 43, 3) := by decide +kernel
theorem dX6_wanted_19 : decode cX6_wanted 19 = .ok (.ifCond .eq 20, 3) := by decide +kernel
theorem dX6_wanted_22 : decode cX6_wanted 22 = .ok (.aload_n 0, 1) := by decide +kernel
theorem dX6_wanted_23 : decode cX6_wanted 23 = .ok (.getfield 7, 3) := by decide +kernel
theorem dX6_wanted_26 : decode cX6_wanted 26 = .ok (.iload 4, 2) := by decide +kernel
theorem dX6_wanted_28 : decode cX6_wanted 28 = .ok (.bipush 14, 2) := by decide +kernel
theorem dX6_wanted_30 : decode cX6_wanted 30 = .ok (.iload_n 2, 1) := by decide +kernel
theorem dX6_wanted_31 : decode cX6_wanted 31 = .ok (.iadd, 1) := by decide +kernel
theorem dX6_wanted_32 : decode cX6_wanted 32 = .ok (.invokestatic 47, 3) := by decide +kernel
theorem dX6_wanted_35 : decode cX6_wanted 35 = .ok (.iaload, 1) := by decide +kernel
theorem dX6_wanted_36 : decode cX6_wanted 36 = .ok (.goto 4, 3) := by decide +kernel
theorem dX6_wanted_39 : decode cX6_wanted 39 = .ok (.iconst 0, 1) := by decide +kernel
theorem dX6_wanted_40 : decode cX6_wanted 40 = .ok (.iadd, 1) := by decide +kernel
theorem dX6_wanted_41 : decode cX6_wanted 41 = .ok (.istore_n 3, 1) := by decide +kernel
theorem dX6_wanted_42 : decode cX6_wanted 42 = .ok (.iinc 4 1, 3) := by decide +kernel
theorem dX6_wanted_45 : decode cX6_wanted 45 = .ok (.goto (-40), 3) := by decide +kernel
theorem dX6_wanted_48 : decode cX6_wanted 48 = .ok (.iload_n 3, 1) := by decide +kernel
theorem dX6_wanted_49 : decode cX6_wanted 49 = .ok (.ireturn, 1) := by decide +kernel
theorem dX6_priceIn_0 : decode cX6_priceIn 0 = .ok (.aload_n 0, 1) := by decide +kernel
theorem dX6_priceIn_1 : decode cX6_priceIn 1 = .ok (.iload_n 1, 1) := by decide +kernel
theorem dX6_priceIn_2 : decode cX6_priceIn 2 = .ok (.iload_n 2, 1) := by decide +kernel
theorem dX6_priceIn_3 : decode cX6_priceIn 3 = .ok (.invokevirtual 51, 3) := by decide +kernel
theorem dX6_priceIn_6 : decode cX6_priceIn 6 = .ok (.aload_n 0, 1) := by decide +kernel
theorem dX6_priceIn_7 : decode cX6_priceIn 7 = .ok (.getfield 7, 3) := by decide +kernel
theorem dX6_priceIn_10 : decode cX6_priceIn 10 = .ok (.iconst 0, 1) := by decide +kernel
theorem dX6_priceIn_11 : decode cX6_priceIn 11 = .ok (.iaload, 1) := by decide +kernel
theorem dX6_priceIn_12 : decode cX6_priceIn 12 = .ok (.if_icmp .lt 17, 3) := by decide +kernel
theorem dX6_priceIn_15 : decode cX6_priceIn 15 = .ok (.iload_n 2, 1) := by decide +kernel
theorem dX6_priceIn_16 : decode cX6_priceIn 16 = .ok (.invokestatic 54, 3) := by decide +kernel
theorem dX6_priceIn_19 : decode cX6_priceIn 19 = .ok (.iload_n 2, 1) := by decide +kernel
theorem dX6_priceIn_20 : decode cX6_priceIn 20 = .ok (.invokestatic 54, 3) := by decide +kernel
theorem dX6_priceIn_23 : decode cX6_priceIn 23 = .ok (.iconst 5, 1) := by decide +kernel
theorem dX6_priceIn_24 : decode cX6_priceIn 24 = .ok (.idiv, 1) := by decide +kernel
theorem dX6_priceIn_25 : decode cX6_priceIn 25 = .ok (.isub, 1) := by decide +kernel
theorem dX6_priceIn_26 : decode cX6_priceIn 26 = .ok (.goto 7, 3) := by decide +kernel
theorem dX6_priceIn_29 : decode cX6_priceIn 29 = .ok (.iload_n 2, 1) := by decide +kernel
theorem dX6_priceIn_30 : decode cX6_priceIn 30 = .ok (.invokestatic 54, 3) := by decide +kernel
theorem dX6_priceIn_33 : decode cX6_priceIn 33 = .ok (.ireturn, 1) := by decide +kernel
theorem dX6_stringsOf_0 : decode cX6_stringsOf 0 = .ok (.iconst 0, 1) := by decide +kernel
theorem dX6_stringsOf_1 : decode cX6_stringsOf 1 = .ok (.istore_n 2, 1) := by decide +kernel
theorem dX6_stringsOf_2 : decode cX6_stringsOf 2 = .ok (.iconst 0, 1) := by decide +kernel
theorem dX6_stringsOf_3 : decode cX6_stringsOf 3 = .ok (.istore_n 3, 1) := by decide +kernel
theorem dX6_stringsOf_4 : decode cX6_stringsOf 4 = .ok (.iload_n 3, 1) := by decide +kernel
theorem dX6_stringsOf_5 : decode cX6_stringsOf 5 = .ok (.bipush 8, 2) := by decide +kernel
theorem dX6_stringsOf_7 : decode cX6_stringsOf 7 = .ok (.if_icmp .ge 18, 3) := by decide +kernel
theorem dX6_stringsOf_10 : decode cX6_stringsOf 10 = .ok (.iload_n 2, 1) := by decide +kernel
theorem dX6_stringsOf_11 : decode cX6_stringsOf 11 = .ok (.aload_n 0, 1) := by decide +kernel
theorem dX6_stringsOf_12 : decode cX6_stringsOf 12 = .ok (.iload_n 1, 1) := by decide +kernel
theorem dX6_stringsOf_13 : decode cX6_stringsOf 13 = .ok (.iload_n 3, 1) := by decide +kernel
theorem dX6_stringsOf_14 : decode cX6_stringsOf 14 = .ok (.invokevirtual 51, 3) := by decide +kernel
theorem dX6_stringsOf_17 : decode cX6_stringsOf 17 = .ok (.iadd, 1) := by decide +kernel
theorem dX6_stringsOf_18 : decode cX6_stringsOf 18 = .ok (.istore_n 2, 1) := by decide +kernel
theorem dX6_stringsOf_19 : decode cX6_stringsOf 19 = .ok (.iinc 3 1, 3) := by decide +kernel
theorem dX6_stringsOf_22 : decode cX6_stringsOf 22 = .ok (.goto (-18), 3) := by decide +kernel
theorem dX6_stringsOf_25 : decode cX6_stringsOf 25 = .ok (.iload_n 2, 1) := by decide +kernel
theorem dX6_stringsOf_26 : decode cX6_stringsOf 26 = .ok (.ireturn, 1) := by decide +kernel
theorem dX6_weightOf_0 : decode cX6_weightOf 0 = .ok (.iconst 0, 1) := by decide +kernel
theorem dX6_weightOf_1 : decode cX6_weightOf 1 = .ok (.istore_n 2, 1) := by decide +kernel
theorem dX6_weightOf_2 : decode cX6_weightOf 2 = .ok (.iconst 0, 1) := by decide +kernel
theorem dX6_weightOf_3 : decode cX6_weightOf 3 = .ok (.istore_n 3, 1) := by decide +kernel
theorem dX6_weightOf_4 : decode cX6_weightOf 4 = .ok (.iload_n 3, 1) := by decide +kernel
theorem dX6_weightOf_5 : decode cX6_weightOf 5 = .ok (.bipush 8, 2) := by decide +kernel
theorem dX6_weightOf_7 : decode cX6_weightOf 7 = .ok (.if_icmp .ge 22, 3) := by decide +kernel
theorem dX6_weightOf_10 : decode cX6_weightOf 10 = .ok (.iload_n 2, 1) := by decide +kernel
theorem dX6_weightOf_11 : decode cX6_weightOf 11 = .ok (.iconst 1, 1) := by decide +kernel
theorem dX6_weightOf_12 : decode cX6_weightOf 12 = .ok (.iload_n 3, 1) := by decide +kernel
theorem dX6_weightOf_13 : decode cX6_weightOf 13 = .ok (.iadd, 1) := by decide +kernel
theorem dX6_weightOf_14 : decode cX6_weightOf 14 = .ok (.aload_n 0, 1) := by decide +kernel
theorem dX6_weightOf_15 : decode cX6_weightOf 15 = .ok (.iload_n 1, 1) := by decide +kernel
theorem dX6_weightOf_16 : decode cX6_weightOf 16 = .ok (.iload_n 3, 1) := by decide +kernel
theorem dX6_weightOf_17 : decode cX6_weightOf 17 = .ok (.invokevirtual 51, 3) := by decide +kernel
theorem dX6_weightOf_20 : decode cX6_weightOf 20 = .ok (.imul, 1) := by decide +kernel
theorem dX6_weightOf_21 : decode cX6_weightOf 21 = .ok (.iadd, 1) := by decide +kernel
theorem dX6_weightOf_22 : decode cX6_weightOf 22 = .ok (.istore_n 2, 1) := by decide +kernel
theorem dX6_weightOf_23 : decode cX6_weightOf 23 = .ok (.iinc 3 1, 3) := by decide +kernel
theorem dX6_weightOf_26 : decode cX6_weightOf 26 = .ok (.goto (-22), 3) := by decide +kernel
theorem dX6_weightOf_29 : decode cX6_weightOf 29 = .ok (.iload_n 2, 1) := by decide +kernel
theorem dX6_weightOf_30 : decode cX6_weightOf 30 = .ok (.ireturn, 1) := by decide +kernel
theorem dX6_valueOf_0 : decode cX6_valueOf 0 = .ok (.iconst 0, 1) := by decide +kernel
theorem dX6_valueOf_1 : decode cX6_valueOf 1 = .ok (.istore_n 2, 1) := by decide +kernel
theorem dX6_valueOf_2 : decode cX6_valueOf 2 = .ok (.iconst 0, 1) := by decide +kernel
theorem dX6_valueOf_3 : decode cX6_valueOf 3 = .ok (.istore_n 3, 1) := by decide +kernel
theorem dX6_valueOf_4 : decode cX6_valueOf 4 = .ok (.iload_n 3, 1) := by decide +kernel
theorem dX6_valueOf_5 : decode cX6_valueOf 5 = .ok (.bipush 8, 2) := by decide +kernel
theorem dX6_valueOf_7 : decode cX6_valueOf 7 = .ok (.if_icmp .ge 25, 3) := by decide +kernel
theorem dX6_valueOf_10 : decode cX6_valueOf 10 = .ok (.iload_n 2, 1) := by decide +kernel
theorem dX6_valueOf_11 : decode cX6_valueOf 11 = .ok (.aload_n 0, 1) := by decide +kernel
theorem dX6_valueOf_12 : decode cX6_valueOf 12 = .ok (.iload_n 1, 1) := by decide +kernel
theorem dX6_valueOf_13 : decode cX6_valueOf 13 = .ok (.iload_n 3, 1) := by decide +kernel
theorem dX6_valueOf_14 : decode cX6_valueOf 14 = .ok (.invokevirtual 51, 3) := by decide +kernel
theorem dX6_valueOf_17 : decode cX6_valueOf 17 = .ok (.aload_n 0, 1) := by decide +kernel
theorem dX6_valueOf_18 : decode cX6_valueOf 18 = .ok (.iload_n 1, 1) := by decide +kernel
theorem dX6_valueOf_19 : decode cX6_valueOf 19 = .ok (.iload_n 3, 1) := by decide +kernel
theorem dX6_valueOf_20 : decode cX6_valueOf 20 = .ok (.invokevirtual 58, 3) := by decide +kernel
theorem dX6_valueOf_23 : decode cX6_valueOf 23 = .ok (.imul, 1) := by decide +kernel
theorem dX6_valueOf_24 : decode cX6_valueOf 24 = .ok (.iadd, 1) := by decide +kernel
theorem dX6_valueOf_25 : decode cX6_valueOf 25 = .ok (.istore_n 2, 1) := by decide +kernel
theorem dX6_valueOf_26 : decode cX6_valueOf 26 = .ok (.iinc 3 1, 3) := by decide +kernel
theorem dX6_valueOf_29 : decode cX6_valueOf 29 = .ok (.goto (-25), 3) := by decide +kernel
theorem dX6_valueOf_32 : decode cX6_valueOf 32 = .ok (.iload_n 2, 1) := by decide +kernel
theorem dX6_valueOf_33 : decode cX6_valueOf 33 = .ok (.ireturn, 1) := by decide +kernel
theorem dX6_postOf_0 : decode cX6_postOf 0 = .ok (.aload_n 0, 1) := by decide +kernel
theorem dX6_postOf_1 : decode cX6_postOf 1 = .ok (.iload_n 1, 1) := by decide +kernel
theorem dX6_postOf_2 : decode cX6_postOf 2 = .ok (.invokevirtual 61, 3) := by decide +kernel
theorem dX6_postOf_5 : decode cX6_postOf 5 = .ok (.ifCond .ne 7, 3) := by decide +kernel
theorem dX6_postOf_8 : decode cX6_postOf 8 = .ok (.iconst 0, 1) := by decide +kernel
theorem dX6_postOf_9 : decode cX6_postOf 9 = .ok (.goto 22, 3) := by decide +kernel
theorem dX6_postOf_12 : decode cX6_postOf 12 = .ok (.aload_n 0, 1) := by decide +kernel
theorem dX6_postOf_13 : decode cX6_postOf 13 = .ok (.getfield 7, 3) := by decide +kernel
theorem dX6_postOf_16 : decode cX6_postOf 16 = .ok (.iconst 1, 1) := by decide +kernel
theorem dX6_postOf_17 : decode cX6_postOf 17 = .ok (.iaload, 1) := by decide +kernel
theorem dX6_postOf_18 : decode cX6_postOf 18 = .ok (.aload_n 0, 1) := by decide +kernel
theorem dX6_postOf_19 : decode cX6_postOf 19 = .ok (.getfield 7, 3) := by decide +kernel
theorem dX6_postOf_22 : decode cX6_postOf 22 = .ok (.iconst 2, 1) := by decide +kernel
theorem dX6_postOf_23 : decode cX6_postOf 23 = .ok (.iaload, 1) := by decide +kernel
theorem dX6_postOf_24 : decode cX6_postOf 24 = .ok (.aload_n 0, 1) := by decide +kernel
theorem dX6_postOf_25 : decode cX6_postOf 25 = .ok (.iload_n 1, 1) := by decide +kernel
theorem dX6_postOf_26 : decode cX6_postOf 26 = .ok (.invokevirtual 64, 3) := by decide +kernel
theorem dX6_postOf_29 : decode cX6_postOf 29 = .ok (.imul, 1) := by decide +kernel
theorem dX6_postOf_30 : decode cX6_postOf 30 = .ok (.iadd, 1) := by decide +kernel
theorem dX6_postOf_31 : decode cX6_postOf 31 = .ok (.ireturn, 1) := by decide +kernel
theorem dX6_costOf_0 : decode cX6_costOf 0 = .ok (.aload_n 0, 1) := by decide +kernel
theorem dX6_costOf_1 : decode cX6_costOf 1 = .ok (.iload_n 1, 1) := by decide +kernel
theorem dX6_costOf_2 : decode cX6_costOf 2 = .ok (.invokevirtual 67, 3) := by decide +kernel
theorem dX6_costOf_5 : decode cX6_costOf 5 = .ok (.aload_n 0, 1) := by decide +kernel
theorem dX6_costOf_6 : decode cX6_costOf 6 = .ok (.iload_n 1, 1) := by decide +kernel
theorem dX6_costOf_7 : decode cX6_costOf 7 = .ok (.invokevirtual 70, 3) := by decide +kernel
theorem dX6_costOf_10 : decode cX6_costOf 10 = .ok (.iadd, 1) := by decide +kernel
theorem dX6_costOf_11 : decode cX6_costOf 11 = .ok (.ireturn, 1) := by decide +kernel
theorem dX6_dutyOn_0 : decode cX6_dutyOn 0 = .ok (.iload_n 1, 1) := by decide +kernel
theorem dX6_dutyOn_1 : decode cX6_dutyOn 1 = .ok (.aload_n 0, 1) := by decide +kernel
theorem dX6_dutyOn_2 : decode cX6_dutyOn 2 = .ok (.getfield 7, 3) := by decide +kernel
theorem dX6_dutyOn_5 : decode cX6_dutyOn 5 = .ok (.iconst 5, 1) := by decide +kernel
end
section
theorem dX6_dutyOn_6 : decode cX6_dutyOn 6 = .ok (.iaload, 1) := by decide +kernel
theorem dX6_dutyOn_7 : decode cX6_dutyOn 7 = .ok (.if_icmp .le 25, 3) := by decide +kernel
theorem dX6_dutyOn_10 : decode cX6_dutyOn 10 = .ok (.iload_n 1, 1) := by decide +kernel
theorem dX6_dutyOn_11 : decode cX6_dutyOn 11 = .ok (.aload_n 0, 1) := by decide +kernel
theorem dX6_dutyOn_12 : decode cX6_dutyOn 12 = .ok (.getfield 7, 3) := by decide +kernel
theorem dX6_dutyOn_15 : decode cX6_dutyOn 15 = .ok (.iconst 5, 1) := by decide +kernel
theorem dX6_dutyOn_16 : decode cX6_dutyOn 16 = .ok (.iaload, 1) := by decide +kernel
theorem dX6_dutyOn_17 : decode cX6_dutyOn 17 = .ok (.isub, 1) := by decide +kernel
theorem dX6_dutyOn_18 : decode cX6_dutyOn 18 = .ok (.aload_n 0, 1) := by decide +kernel
theorem dX6_dutyOn_19 : decode cX6_dutyOn 19 = .ok (.getfield 7, 3) := by decide +kernel
theorem dX6_dutyOn_22 : decode cX6_dutyOn 22 = .ok (.bipush 6, 2) := by decide +kernel
theorem dX6_dutyOn_24 : decode cX6_dutyOn 24 = .ok (.iaload, 1) := by decide +kernel
theorem dX6_dutyOn_25 : decode cX6_dutyOn 25 = .ok (.imul, 1) := by decide +kernel
theorem dX6_dutyOn_26 : decode cX6_dutyOn 26 = .ok (.bipush 100, 2) := by decide +kernel
theorem dX6_dutyOn_28 : decode cX6_dutyOn 28 = .ok (.idiv, 1) := by decide +kernel
theorem dX6_dutyOn_29 : decode cX6_dutyOn 29 = .ok (.goto 4, 3) := by decide +kernel
theorem dX6_dutyOn_32 : decode cX6_dutyOn 32 = .ok (.iconst 0, 1) := by decide +kernel
theorem dX6_dutyOn_33 : decode cX6_dutyOn 33 = .ok (.ireturn, 1) := by decide +kernel
theorem dX6_shares_0 : decode cX6_shares 0 = .ok (.iconst 0, 1) := by decide +kernel
theorem dX6_shares_1 : decode cX6_shares 1 = .ok (.istore_n 2, 1) := by decide +kernel
theorem dX6_shares_2 : decode cX6_shares 2 = .ok (.iconst 0, 1) := by decide +kernel
theorem dX6_shares_3 : decode cX6_shares 3 = .ok (.istore_n 3, 1) := by decide +kernel
theorem dX6_shares_4 : decode cX6_shares 4 = .ok (.iload_n 3, 1) := by decide +kernel
theorem dX6_shares_5 : decode cX6_shares 5 = .ok (.bipush 6, 2) := by decide +kernel
theorem dX6_shares_7 : decode cX6_shares 7 = .ok (.if_icmp .ge 18, 3) := by decide +kernel
theorem dX6_shares_10 : decode cX6_shares 10 = .ok (.iload_n 2, 1) := by decide +kernel
theorem dX6_shares_11 : decode cX6_shares 11 = .ok (.aload_n 0, 1) := by decide +kernel
theorem dX6_shares_12 : decode cX6_shares 12 = .ok (.getfield 29, 3) := by decide +kernel
theorem dX6_shares_15 : decode cX6_shares 15 = .ok (.iload_n 3, 1) := by decide +kernel
theorem dX6_shares_16 : decode cX6_shares 16 = .ok (.iaload, 1) := by decide +kernel
theorem dX6_shares_17 : decode cX6_shares 17 = .ok (.iadd, 1) := by decide +kernel
theorem dX6_shares_18 : decode cX6_shares 18 = .ok (.istore_n 2, 1) := by decide +kernel
theorem dX6_shares_19 : decode cX6_shares 19 = .ok (.iinc 3 1, 3) := by decide +kernel
theorem dX6_shares_22 : decode cX6_shares 22 = .ok (.goto (-18), 3) := by decide +kernel
theorem dX6_shares_25 : decode cX6_shares 25 = .ok (.iload_n 1, 1) := by decide +kernel
theorem dX6_shares_26 : decode cX6_shares 26 = .ok (.istore_n 3, 1) := by decide +kernel
theorem dX6_shares_27 : decode cX6_shares 27 = .ok (.iconst 0, 1) := by decide +kernel
theorem dX6_shares_28 : decode cX6_shares 28 = .ok (.istore 4, 2) := by decide +kernel
theorem dX6_shares_30 : decode cX6_shares 30 = .ok (.iload 4, 2) := by decide +kernel
theorem dX6_shares_32 : decode cX6_shares 32 = .ok (.bipush 6, 2) := by decide +kernel
theorem dX6_shares_34 : decode cX6_shares 34 = .ok (.if_icmp .ge 45, 3) := by decide +kernel
theorem dX6_shares_37 : decode cX6_shares 37 = .ok (.aload_n 0, 1) := by decide +kernel
theorem dX6_shares_38 : decode cX6_shares 38 = .ok (.getfield 32, 3) := by decide +kernel
theorem dX6_shares_41 : decode cX6_shares 41 = .ok (.iload 4, 2) := by decide +kernel
theorem dX6_shares_43 : decode cX6_shares 43 = .ok (.iload_n 2, 1) := by decide +kernel
theorem dX6_shares_44 : decode cX6_shares 44 = .ok (.ifCond .ne 7, 3) := by decide +kernel
theorem dX6_shares_47 : decode cX6_shares 47 = .ok (.iconst 0, 1) := by decide +kernel
theorem dX6_shares_48 : decode cX6_shares 48 = .ok (.goto 14, 3) := by decide +kernel
theorem dX6_shares_51 : decode cX6_shares 51 = .ok (.iload_n 1, 1) := by decide +kernel
theorem dX6_shares_52 : decode cX6_shares 52 = .ok (.aload_n 0, 1) := by decide +kernel
theorem dX6_shares_53 : decode cX6_shares 53 = .ok (.getfield 29, 3) := by decide +kernel
theorem dX6_shares_56 : decode cX6_shares 56 = .ok (.iload 4, 2) := by decide +kernel
theorem dX6_shares_58 : decode cX6_shares 58 = .ok (.iaload, 1) := by decide +kernel
theorem dX6_shares_59 : decode cX6_shares 59 = .ok (.imul, 1) := by decide +kernel
theorem dX6_shares_60 : decode cX6_shares 60 = .ok (.iload_n 2, 1) := by decide +kernel
theorem dX6_shares_61 : decode cX6_shares 61 = .ok (.idiv, 1) := by decide +kernel
theorem dX6_shares_62 : decode cX6_shares 62 = .ok (.iastore, 1) := by decide +kernel
theorem dX6_shares_63 : decode cX6_shares 63 = .ok (.iload_n 3, 1) := by decide +kernel
theorem dX6_shares_64 : decode cX6_shares 64 = .ok (.aload_n 0, 1) := by decide +kernel
theorem dX6_shares_65 : decode cX6_shares 65 = .ok (.getfield 32, 3) := by decide +kernel
theorem dX6_shares_68 : decode cX6_shares 68 = .ok (.iload 4, 2) := by decide +kernel
theorem dX6_shares_70 : decode cX6_shares 70 = .ok (.iaload, 1) := by decide +kernel
theorem dX6_shares_71 : decode cX6_shares 71 = .ok (.isub, 1) := by decide +kernel
theorem dX6_shares_72 : decode cX6_shares 72 = .ok (.istore_n 3, 1) := by decide +kernel
theorem dX6_shares_73 : decode cX6_shares 73 = .ok (.iinc 4 1, 3) := by decide +kernel
theorem dX6_shares_76 : decode cX6_shares 76 = .ok (.goto (-46), 3) := by decide +kernel
theorem dX6_shares_79 : decode cX6_shares 79 = .ok (.iconst 0, 1) := by decide +kernel
theorem dX6_shares_80 : decode cX6_shares 80 = .ok (.istore 4, 2) := by decide +kernel
theorem dX6_shares_82 : decode cX6_shares 82 = .ok (.iload 4, 2) := by decide +kernel
theorem dX6_shares_84 : decode cX6_shares 84 = .ok (.bipush 6, 2) := by decide +kernel
theorem dX6_shares_86 : decode cX6_shares 86 = .ok (.if_icmp .ge 67, 3) := by decide +kernel
theorem dX6_shares_89 : decode cX6_shares 89 = .ok (.iload_n 2, 1) := by decide +kernel
theorem dX6_shares_90 : decode cX6_shares 90 = .ok (.ifCond .le 63, 3) := by decide +kernel
theorem dX6_shares_93 : decode cX6_shares 93 = .ok (.aload_n 0, 1) := by decide +kernel
theorem dX6_shares_94 : decode cX6_shares 94 = .ok (.getfield 29, 3) := by decide +kernel
theorem dX6_shares_97 : decode cX6_shares 97 = .ok (.iload 4, 2) := by decide +kernel
theorem dX6_shares_99 : decode cX6_shares 99 = .ok (.iaload, 1) := by decide +kernel
theorem dX6_shares_100 : decode cX6_shares 100 = .ok (.ifCond .le 11, 3) := by decide +kernel
theorem dX6_shares_103 : decode cX6_shares 103 = .ok (.iload_n 3, 1) := by decide +kernel
theorem dX6_shares_104 : decode cX6_shares 104 = .ok (.ifCond .le 7, 3) := by decide +kernel
theorem dX6_shares_107 : decode cX6_shares 107 = .ok (.iconst 1, 1) := by decide +kernel
theorem dX6_shares_108 : decode cX6_shares 108 = .ok (.goto 4, 3) := by decide +kernel
theorem dX6_shares_111 : decode cX6_shares 111 = .ok (.iconst 0, 1) := by decide +kernel
theorem dX6_shares_112 : decode cX6_shares 112 = .ok (.istore 5, 2) := by decide +kernel
theorem dX6_shares_114 : decode cX6_shares 114 = .ok (.aload_n 0, 1) := by decide +kernel
theorem dX6_shares_115 : decode cX6_shares 115 = .ok (.getfield 32, 3) := by decide +kernel
theorem dX6_shares_118 : decode cX6_shares 118 = .ok (.iload 4, 2) := by decide +kernel
theorem dX6_shares_120 : decode cX6_shares 120 = .ok (.dup2, 1) := by decide +kernel
theorem dX6_shares_121 : decode cX6_shares 121 = .ok (.iaload, 1) := by decide +kernel
theorem dX6_shares_122 : decode cX6_shares 122 = .ok (.iload 5, 2) := by decide +kernel
theorem dX6_shares_124 : decode cX6_shares 124 = .ok (.ifCond .eq 7, 3) := by decide +kernel
theorem dX6_shares_127 : decode cX6_shares 127 = .ok (.iconst 1, 1) := by decide +kernel
theorem dX6_shares_128 : decode cX6_shares 128 = .ok (.goto 4, 3) := by decide +kernel
theorem dX6_shares_131 : decode cX6_shares 131 = .ok (.iconst 0, 1) := by decide +kernel
theorem dX6_shares_132 : decode cX6_shares 132 = .ok (.iadd, 1) := by decide +kernel
theorem dX6_shares_133 : decode cX6_shares 133 = .ok (.iastore, 1) := by decide +kernel
theorem dX6_shares_134 : decode cX6_shares 134 = .ok (.iload_n 3, 1) := by decide +kernel
theorem dX6_shares_135 : decode cX6_shares 135 = .ok (.iload 5, 2) := by decide +kernel
theorem dX6_shares_137 : decode cX6_shares 137 = .ok (.ifCond .eq 7, 3) := by decide +kernel
theorem dX6_shares_140 : decode cX6_shares 140 = .ok (.iconst 1, 1) := by decide +kernel
theorem dX6_shares_141 : decode cX6_shares 141 = .ok (.goto 4, 3) := by decide +kernel
theorem dX6_shares_144 : decode cX6_shares 144 = .ok (.iconst 0, 1) := by decide +kernel
theorem dX6_shares_145 : decode cX6_shares 145 = .ok (.isub, 1) := by decide +kernel
theorem dX6_shares_146 : decode cX6_shares 146 = .ok (.istore_n 3, 1) := by decide +kernel
theorem dX6_shares_147 : decode cX6_shares 147 = .ok (.iinc 4 1, 3) := by decide +kernel
theorem dX6_shares_150 : decode cX6_shares 150 = .ok (.goto (-68), 3) := by decide +kernel
theorem dX6_shares_153 : decode cX6_shares 153 = .ok (.return_, 1) := by decide +kernel
theorem dX6_ownOf_0 : decode cX6_ownOf 0 = .ok (.iconst 0, 1) := by decide +kernel
theorem dX6_ownOf_1 : decode cX6_ownOf 1 = .ok (.istore_n 3, 1) := by decide +kernel
theorem dX6_ownOf_2 : decode cX6_ownOf 2 = .ok (.iconst 0, 1) := by decide +kernel
theorem dX6_ownOf_3 : decode cX6_ownOf 3 = .ok (.istore 4, 2) := by decide +kernel
theorem dX6_ownOf_5 : decode cX6_ownOf 5 = .ok (.iload 4, 2) := by decide +kernel
theorem dX6_ownOf_7 : decode cX6_ownOf 7 = .ok (.bipush 8, 2) := by decide +kernel
theorem dX6_ownOf_9 : decode cX6_ownOf 9 = .ok (.if_icmp .ge 42, 3) := by decide +kernel
theorem dX6_ownOf_12 : decode cX6_ownOf 12 = .ok (.iload_n 1, 1) := by decide +kernel
theorem dX6_ownOf_13 : decode cX6_ownOf 13 = .ok (.iload_n 2, 1) := by decide +kernel
theorem dX6_ownOf_14 : decode cX6_ownOf 14 = .ok (.invokestatic 43, 3) := by decide +kernel
theorem dX6_ownOf_17 : decode cX6_ownOf 17 = .ok (.ifCond .eq 34, 3) := by decide +kernel
theorem dX6_ownOf_20 : decode cX6_ownOf 20 = .ok (.iload_n 3, 1) := by decide +kernel
theorem dX6_ownOf_21 : decode cX6_ownOf 21 = .ok (.aload_n 0, 1) := by decide +kernel
theorem dX6_ownOf_22 : decode cX6_ownOf 22 = .ok (.getfield 7, 3) := by decide +kernel
theorem dX6_ownOf_25 : decode cX6_ownOf 25 = .ok (.iload_n 2, 1) := by decide +kernel
theorem dX6_ownOf_26 : decode cX6_ownOf 26 = .ok (.bipush 14, 2) := by decide +kernel
theorem dX6_ownOf_28 : decode cX6_ownOf 28 = .ok (.iload 4, 2) := by decide +kernel
theorem dX6_ownOf_30 : decode cX6_ownOf 30 = .ok (.iadd, 1) := by decide +kernel
theorem dX6_ownOf_31 : decode cX6_ownOf 31 = .ok (.invokestatic 47, 3) := by decide +kernel
theorem dX6_ownOf_34 : decode cX6_ownOf 34 = .ok (.iaload, 1) := by decide +kernel
theorem dX6_ownOf_35 : decode cX6_ownOf 35 = .ok (.aload_n 0, 1) := by decide +kernel
theorem dX6_ownOf_36 : decode cX6_ownOf 36 = .ok (.iload_n 1, 1) := by decide +kernel
theorem dX6_ownOf_37 : decode cX6_ownOf 37 = .ok (.iload 4, 2) := by decide +kernel
theorem dX6_ownOf_39 : decode cX6_ownOf 39 = .ok (.invokevirtual 58, 3) := by decide +kernel
theorem dX6_ownOf_42 : decode cX6_ownOf 42 = .ok (.imul, 1) := by decide +kernel
theorem dX6_ownOf_43 : decode cX6_ownOf 43 = .ok (.iadd, 1) := by decide +kernel
theorem dX6_ownOf_44 : decode cX6_ownOf 44 = .ok (.istore_n 3, 1) := by decide +kernel
theorem dX6_ownOf_45 : decode cX6_ownOf 45 = .ok (.iinc 4 1, 3) := by decide +kernel
theorem dX6_ownOf_48 : decode cX6_ownOf 48 = .ok (.goto (-43), 3) := by decide +kernel
theorem dX6_ownOf_51 : decode cX6_ownOf 51 = .ok (.iload_n 3, 1) := by decide +kernel
theorem dX6_ownOf_52 : decode cX6_ownOf 52 = .ok (.ireturn, 1) := by decide +kernel
theorem dX6_sharesPost_0 : decode cX6_sharesPost 0 = .ok (.iconst 0, 1) := by decide +kernel
theorem dX6_sharesPost_1 : decode cX6_sharesPost 1 = .ok (.istore_n 2, 1) := by decide +kernel
theorem dX6_sharesPost_2 : decode cX6_sharesPost 2 = .ok (.iload_n 2, 1) := by decide +kernel
theorem dX6_sharesPost_3 : decode cX6_sharesPost 3 = .ok (.bipush 6, 2) := by decide +kernel
theorem dX6_sharesPost_5 : decode cX6_sharesPost 5 = .ok (.if_icmp .ge 34, 3) := by decide +kernel
theorem dX6_sharesPost_8 : decode cX6_sharesPost 8 = .ok (.aload_n 0, 1) := by decide +kernel
theorem dX6_sharesPost_9 : decode cX6_sharesPost 9 = .ok (.getfield 29, 3) := by decide +kernel
theorem dX6_sharesPost_12 : decode cX6_sharesPost 12 = .ok (.iload_n 2, 1) := by decide +kernel
theorem dX6_sharesPost_13 : decode cX6_sharesPost 13 = .ok (.iload_n 1, 1) := by decide +kernel
theorem dX6_sharesPost_14 : decode cX6_sharesPost 14 = .ok (.iload_n 2, 1) := by decide +kernel
theorem dX6_sharesPost_15 : decode cX6_sharesPost 15 = .ok (.invokestatic 43, 3) := by decide +kernel
theorem dX6_sharesPost_18 : decode cX6_sharesPost 18 = .ok (.ifCond .eq 13, 3) := by decide +kernel
theorem dX6_sharesPost_21 : decode cX6_sharesPost 21 = .ok (.aload_n 0, 1) := by decide +kernel
theorem dX6_sharesPost_22 : decode cX6_sharesPost 22 = .ok (.iconst 1, 1) := by decide +kernel
theorem dX6_sharesPost_23 : decode cX6_sharesPost 23 = .ok (.iload_n 2, 1) := by decide +kernel
theorem dX6_sharesPost_24 : decode cX6_sharesPost 24 = .ok (.ishl, 1) := by decide +kernel
theorem dX6_sharesPost_25 : decode cX6_sharesPost 25 = .ok (.invokevirtual 64, 3) := by decide +kernel
theorem dX6_sharesPost_28 : decode cX6_sharesPost 28 = .ok (.goto 4, 3) := by decide +kernel
theorem dX6_sharesPost_31 : decode cX6_sharesPost 31 = .ok (.iconst 0, 1) := by decide +kernel
theorem dX6_sharesPost_32 : decode cX6_sharesPost 32 = .ok (.iastore, 1) := by decide +kernel
theorem dX6_sharesPost_33 : decode cX6_sharesPost 33 = .ok (.iinc 2 1, 3) := by decide +kernel
theorem dX6_sharesPost_36 : decode cX6_sharesPost 36 = .ok (.goto (-34), 3) := by decide +kernel
theorem dX6_sharesPost_39 : decode cX6_sharesPost 39 = .ok (.aload_n 0, 1) := by decide +kernel
theorem dX6_sharesPost_40 : decode cX6_sharesPost 40 = .ok (.aload_n 0, 1) := by decide +kernel
theorem dX6_sharesPost_41 : decode cX6_sharesPost 41 = .ok (.iload_n 1, 1) := by decide +kernel
theorem dX6_sharesPost_42 : decode cX6_sharesPost 42 = .ok (.invokevirtual 70, 3) := by decide +kernel
theorem dX6_sharesPost_45 : decode cX6_sharesPost 45 = .ok (.invokevirtual 73, 3) := by decide +kernel
theorem dX6_sharesPost_48 : decode cX6_sharesPost 48 = .ok (.return_, 1) := by decide +kernel
theorem dX6_chest_0 : decode cX6_chest 0 = .ok (.iconst 0, 1) := by decide +kernel
theorem dX6_chest_1 : decode cX6_chest 1 = .ok (.istore_n 1, 1) := by decide +kernel
theorem dX6_chest_2 : decode cX6_chest 2 = .ok (.iconst 0, 1) := by decide +kernel
theorem dX6_chest_3 : decode cX6_chest 3 = .ok (.istore_n 2, 1) := by decide +kernel
theorem dX6_chest_4 : decode cX6_chest 4 = .ok (.iload_n 2, 1) := by decide +kernel
theorem dX6_chest_5 : decode cX6_chest 5 = .ok (.bipush 6, 2) := by decide +kernel
theorem dX6_chest_7 : decode cX6_chest 7 = .ok (.if_icmp .ge 22, 3) := by decide +kernel
theorem dX6_chest_10 : decode cX6_chest 10 = .ok (.iload_n 1, 1) := by decide +kernel
theorem dX6_chest_11 : decode cX6_chest 11 = .ok (.aload_n 0, 1) := by decide +kernel
theorem dX6_chest_12 : decode cX6_chest 12 = .ok (.getfield 7, 3) := by decide +kernel
theorem dX6_chest_15 : decode cX6_chest 15 = .ok (.iload_n 2, 1) := by decide +kernel
theorem dX6_chest_16 : decode cX6_chest 16 = .ok (.iconst 0, 1) := by decide +kernel
theorem dX6_chest_17 : decode cX6_chest 17 = .ok (.invokestatic 47, 3) := by decide +kernel
theorem dX6_chest_20 : decode cX6_chest 20 = .ok (.iaload, 1) := by decide +kernel
theorem dX6_chest_21 : decode cX6_chest 21 = .ok (.iadd, 1) := by decide +kernel
theorem dX6_chest_22 : decode cX6_chest 22 = .ok (.istore_n 1, 1) := by decide +kernel
theorem dX6_chest_23 : decode cX6_chest 23 = .ok (.iinc 2 1, 3) := by decide +kernel
theorem dX6_chest_26 : decode cX6_chest 26 = .ok (.goto (-22), 3) := by decide +kernel
theorem dX6_chest_29 : decode cX6_chest 29 = .ok (.iload_n 1, 1) := by decide +kernel
theorem dX6_chest_30 : decode cX6_chest 30 = .ok (.ireturn, 1) := by decide +kernel
theorem dX6_draw_0 : decode cX6_draw 0 = .ok (.aload_n 0, 1) := by decide +kernel
theorem dX6_draw_1 : decode cX6_draw 1 = .ok (.getfield 7, 3) := by decide +kernel
theorem dX6_draw_4 : decode cX6_draw 4 = .ok (.bipush 10, 2) := by decide +kernel
theorem dX6_draw_6 : decode cX6_draw 6 = .ok (.iaload, 1) := by decide +kernel
theorem dX6_draw_7 : decode cX6_draw 7 = .ok (.i2l, 1) := by decide +kernel
theorem dX6_draw_8 : decode cX6_draw 8 = .ok (.ldc2_w 77, 3) := by decide +kernel
theorem dX6_draw_11 : decode cX6_draw 11 = .ok (.lmul, 1) := by decide +kernel
theorem dX6_draw_12 : decode cX6_draw 12 = .ok (.ldc2_w 79, 3) := by decide +kernel
theorem dX6_draw_15 : decode cX6_draw 15 = .ok (.ladd, 1) := by decide +kernel
theorem dX6_draw_16 : decode cX6_draw 16 = .ok (.ldc2_w 81, 3) := by decide +kernel
theorem dX6_draw_19 : decode cX6_draw 19 = .ok (.lrem, 1) := by decide +kernel
theorem dX6_draw_20 : decode cX6_draw 20 = .ok (.lstore_n 2, 1) := by decide +kernel
theorem dX6_draw_21 : decode cX6_draw 21 = .ok (.aload_n 0, 1) := by decide +kernel
theorem dX6_draw_22 : decode cX6_draw 22 = .ok (.getfield 7, 3) := by decide +kernel
theorem dX6_draw_25 : decode cX6_draw 25 = .ok (.bipush 10, 2) := by decide +kernel
theorem dX6_draw_27 : decode cX6_draw 27 = .ok (.lload_n 2, 1) := by decide +kernel
theorem dX6_draw_28 : decode cX6_draw 28 = .ok (.l2i, 1) := by decide +kernel
theorem dX6_draw_29 : decode cX6_draw 29 = .ok (.iastore, 1) := by decide +kernel
theorem dX6_draw_30 : decode cX6_draw 30 = .ok (.aload_n 0, 1) := by decide +kernel
theorem dX6_draw_31 : decode cX6_draw 31 = .ok (.getfield 7, 3) := by decide +kernel
theorem dX6_draw_34 : decode cX6_draw 34 = .ok (.bipush 10, 2) := by decide +kernel
theorem dX6_draw_36 : decode cX6_draw 36 = .ok (.iaload, 1) := by decide +kernel
theorem dX6_draw_37 : decode cX6_draw 37 = .ok (.ldc 83, 2) := by decide +kernel
theorem dX6_draw_39 : decode cX6_draw 39 = .ok (.idiv, 1) := by decide +kernel
theorem dX6_draw_40 : decode cX6_draw 40 = .ok (.iload_n 1, 1) := by decide +kernel
theorem dX6_draw_41 : decode cX6_draw 41 = .ok (.irem, 1) := by decide +kernel
theorem dX6_draw_42 : decode cX6_draw 42 = .ok (.ireturn, 1) := by decide +kernel
theorem dX6_ofString_0 : decode cX6_ofString 0 = .ok (.iload_n 0, 1) := by decide +kernel
theorem dX6_ofString_1 : decode cX6_ofString 1 = .ok (.iconst 3, 1) := by decide +kernel
theorem dX6_ofString_2 : decode cX6_ofString 2 = .ok (.bipush 8, 2) := by decide +kernel
theorem dX6_ofString_4 : decode cX6_ofString 4 = .ok (.iload_n 1, 1) := by decide +kernel
theorem dX6_ofString_5 : decode cX6_ofString 5 = .ok (.imul, 1) := by decide +kernel
theorem dX6_ofString_6 : decode cX6_ofString 6 = .ok (.iadd, 1) := by decide +kernel
theorem dX6_ofString_7 : decode cX6_ofString 7 = .ok (.iload_n 2, 1) := by decide +kernel
theorem dX6_ofString_8 : decode cX6_ofString 8 = .ok (.iadd, 1) := by decide +kernel
theorem dX6_ofString_9 : decode cX6_ofString 9 = .ok (.invokestatic 84, 3) := by decide +kernel
theorem dX6_ofString_12 : decode cX6_ofString 12 = .ok (.ireturn, 1) := by decide +kernel
theorem dX6_stringsIn_0 : decode cX6_stringsIn 0 = .ok (.iconst 0, 1) := by decide +kernel
theorem dX6_stringsIn_1 : decode cX6_stringsIn 1 = .ok (.istore_n 2, 1) := by decide +kernel
theorem dX6_stringsIn_2 : decode cX6_stringsIn 2 = .ok (.iconst 0, 1) := by decide +kernel
theorem dX6_stringsIn_3 : decode cX6_stringsIn 3 = .ok (.istore_n 3, 1) := by decide +kernel
theorem dX6_stringsIn_4 : decode cX6_stringsIn 4 = .ok (.iload_n 3, 1) := by decide +kernel
theorem dX6_stringsIn_5 : decode cX6_stringsIn 5 = .ok (.bipush 48, 2) := by decide +kernel
theorem dX6_stringsIn_7 : decode cX6_stringsIn 7 = .ok (.if_icmp .ge 24, 3) := by decide +kernel
theorem dX6_stringsIn_10 : decode cX6_stringsIn 10 = .ok (.iload_n 2, 1) := by decide +kernel
theorem dX6_stringsIn_11 : decode cX6_stringsIn 11 = .ok (.aload_n 0, 1) := by decide +kernel
theorem dX6_stringsIn_12 : decode cX6_stringsIn 12 = .ok (.getfield 7, 3) := by decide +kernel
theorem dX6_stringsIn_15 : decode cX6_stringsIn 15 = .ok (.iload_n 1, 1) := by decide +kernel
theorem dX6_stringsIn_16 : decode cX6_stringsIn 16 = .ok (.iconst 3, 1) := by decide +kernel
theorem dX6_stringsIn_17 : decode cX6_stringsIn 17 = .ok (.iload_n 3, 1) := by decide +kernel
theorem dX6_stringsIn_18 : decode cX6_stringsIn 18 = .ok (.iadd, 1) := by decide +kernel
theorem dX6_stringsIn_19 : decode cX6_stringsIn 19 = .ok (.invokestatic 84, 3) := by decide +kernel
theorem dX6_stringsIn_22 : decode cX6_stringsIn 22 = .ok (.iaload, 1) := by decide +kernel
theorem dX6_stringsIn_23 : decode cX6_stringsIn 23 = .ok (.iadd, 1) := by decide +kernel
theorem dX6_stringsIn_24 : decode cX6_stringsIn 24 = .ok (.istore_n 2, 1) := by decide +kernel
theorem dX6_stringsIn_25 : decode cX6_stringsIn 25 = .ok (.iinc 3 1, 3) := by decide +kernel
theorem dX6_stringsIn_28 : decode cX6_stringsIn 28 = .ok (.goto (-24), 3) := by decide +kernel
theorem dX6_stringsIn_31 : decode cX6_stringsIn 31 = .ok (.iload_n 2, 1) := by decide +kernel
theorem dX6_stringsIn_32 : decode cX6_stringsIn 32 = .ok (.ireturn, 1) := by decide +kernel
theorem dX6_comesHome_0 : decode cX6_comesHome 0 = .ok (.iconst 0, 1) := by decide +kernel
theorem dX6_comesHome_1 : decode cX6_comesHome 1 = .ok (.istore_n 2, 1) := by decide +kernel
theorem dX6_comesHome_2 : decode cX6_comesHome 2 = .ok (.iload_n 2, 1) := by decide +kernel
theorem dX6_comesHome_3 : decode cX6_comesHome 3 = .ok (.bipush 6, 2) := by decide +kernel
theorem dX6_comesHome_5 : decode cX6_comesHome 5 = .ok (.if_icmp .ge 113, 3) := by decide +kernel
theorem dX6_comesHome_8 : decode cX6_comesHome 8 = .ok (.iconst 0, 1) := by decide +kernel
theorem dX6_comesHome_9 : decode cX6_comesHome 9 = .ok (.istore_n 3, 1) := by decide +kernel
theorem dX6_comesHome_10 : decode cX6_comesHome 10 = .ok (.iload_n 3, 1) := by decide +kernel
theorem dX6_comesHome_11 : decode cX6_comesHome 11 = .ok (.bipush 8, 2) := by decide +kernel
theorem dX6_comesHome_13 : decode cX6_comesHome 13 = .ok (.if_icmp .ge 99, 3) := by decide +kernel
theorem dX6_comesHome_16 : decode cX6_comesHome 16 = .ok (.aload_n 0, 1) := by decide +kernel
theorem dX6_comesHome_17 : decode cX6_comesHome 17 = .ok (.getfield 7, 3) := by decide +kernel
theorem dX6_comesHome_20 : decode cX6_comesHome 20 = .ok (.iload_n 2, 1) := by decide +kernel
theorem dX6_comesHome_21 : decode cX6_comesHome 21 = .ok (.bipush 6, 2) := by decide +kernel
theorem dX6_comesHome_23 : decode cX6_comesHome 23 = .ok (.iload_n 3, 1) := by decide +kernel
theorem dX6_comesHome_24 : decode cX6_comesHome 24 = .ok (.iadd, 1) := by decide +kernel
theorem dX6_comesHome_25 : decode cX6_comesHome 25 = .ok (.invokestatic 47, 3) := by decide +kernel
theorem dX6_comesHome_28 : decode cX6_comesHome 28 = .ok (.iaload, 1) := by decide +kernel
theorem dX6_comesHome_29 : decode cX6_comesHome 29 = .ok (.aload_n 0, 1) := by decide +kernel
theorem dX6_comesHome_30 : decode cX6_comesHome 30 = .ok (.getfield 7, 3) := by decide +kernel
theorem dX6_comesHome_33 : decode cX6_comesHome 33 = .ok (.iload_n 1, 1) := by decide +kernel
theorem dX6_comesHome_34 : decode cX6_comesHome 34 = .ok (.iload_n 2, 1) := by decide +kernel
theorem dX6_comesHome_35 : decode cX6_comesHome 35 = .ok (.iload_n 3, 1) := by decide +kernel
theorem dX6_comesHome_36 : decode cX6_comesHome 36 = .ok (.invokestatic 87, 3) := by decide +kernel
theorem dX6_comesHome_39 : decode cX6_comesHome 39 = .ok (.iaload, 1) := by decide +kernel
theorem dX6_comesHome_40 : decode cX6_comesHome 40 = .ok (.iadd, 1) := by decide +kernel
theorem dX6_comesHome_41 : decode cX6_comesHome 41 = .ok (.istore 4, 2) := by decide +kernel
theorem dX6_comesHome_43 : decode cX6_comesHome 43 = .ok (.iload 4, 2) := by decide +kernel
theorem dX6_comesHome_45 : decode cX6_comesHome 45 = .ok (.bipush 99, 2) := by decide +kernel
theorem dX6_comesHome_47 : decode cX6_comesHome 47 = .ok (.if_icmp .le 11, 3) := by decide +kernel
theorem dX6_comesHome_50 : decode cX6_comesHome 50 = .ok (.iload 4, 2) := by decide +kernel
theorem dX6_comesHome_52 : decode cX6_comesHome 52 = .ok (.bipush 99, 2) := by decide +kernel
theorem dX6_comesHome_54 : decode cX6_comesHome 54 = .ok (.isub, 1) := by decide +kernel
theorem dX6_comesHome_55 : decode cX6_comesHome 55 = .ok (.goto 4, 3) := by decide +kernel
theorem dX6_comesHome_58 : decode cX6_comesHome 58 = .ok (.iconst 0, 1) := by decide +kernel
theorem dX6_comesHome_59 : decode cX6_comesHome 59 = .ok (.istore 5, 2) := by decide +kernel
theorem dX6_comesHome_61 : decode cX6_comesHome 61 = .ok (.aload_n 0, 1) := by decide +kernel
theorem dX6_comesHome_62 : decode cX6_comesHome 62 = .ok (.getfield 7, 3) := by decide +kernel
theorem dX6_comesHome_65 : decode cX6_comesHome 65 = .ok (.iload_n 2, 1) := by decide +kernel
theorem dX6_comesHome_66 : decode cX6_comesHome 66 = .ok (.bipush 6, 2) := by decide +kernel
theorem dX6_comesHome_68 : decode cX6_comesHome 68 = .ok (.iload_n 3, 1) := by decide +kernel
theorem dX6_comesHome_69 : decode cX6_comesHome 69 = .ok (.iadd, 1) := by decide +kernel
theorem dX6_comesHome_70 : decode cX6_comesHome 70 = .ok (.invokestatic 47, 3) := by decide +kernel
theorem dX6_comesHome_73 : decode cX6_comesHome 73 = .ok (.iload 4, 2) := by decide +kernel
theorem dX6_comesHome_75 : decode cX6_comesHome 75 = .ok (.iload 5, 2) := by decide +kernel
theorem dX6_comesHome_77 : decode cX6_comesHome 77 = .ok (.isub, 1) := by decide +kernel
theorem dX6_comesHome_78 : decode cX6_comesHome 78 = .ok (.iastore, 1) := by decide +kernel
theorem dX6_comesHome_79 : decode cX6_comesHome 79 = .ok (.aload_n 0, 1) := by decide +kernel
theorem dX6_comesHome_80 : decode cX6_comesHome 80 = .ok (.getfield 7, 3) := by decide +kernel
theorem dX6_comesHome_83 : decode cX6_comesHome 83 = .ok (.iload_n 2, 1) := by decide +kernel
theorem dX6_comesHome_84 : decode cX6_comesHome 84 = .ok (.iconst 5, 1) := by decide +kernel
theorem dX6_comesHome_85 : decode cX6_comesHome 85 = .ok (.invokestatic 47, 3) := by decide +kernel
theorem dX6_comesHome_88 : decode cX6_comesHome 88 = .ok (.dup2, 1) := by decide +kernel
theorem dX6_comesHome_89 : decode cX6_comesHome 89 = .ok (.iaload, 1) := by decide +kernel
theorem dX6_comesHome_90 : decode cX6_comesHome 90 = .ok (.iload 5, 2) := by decide +kernel
theorem dX6_comesHome_92 : decode cX6_comesHome 92 = .ok (.iadd, 1) := by decide +kernel
theorem dX6_comesHome_93 : decode cX6_comesHome 93 = .ok (.iastore, 1) := by decide +kernel
theorem dX6_comesHome_94 : decode cX6_comesHome 94 = .ok (.aload_n 0, 1) := by decide +kernel
theorem dX6_comesHome_95 : decode cX6_comesHome 95 = .ok (.getfield 7, 3) := by decide +kernel
theorem dX6_comesHome_98 : decode cX6_comesHome 98 = .ok (.bipush 13, 2) := by decide +kernel
theorem dX6_comesHome_100 : decode cX6_comesHome 100 = .ok (.dup2, 1) := by decide +kernel
theorem dX6_comesHome_101 : decode cX6_comesHome 101 = .ok (.iaload, 1) := by decide +kernel
theorem dX6_comesHome_102 : decode cX6_comesHome 102 = .ok (.iload 5, 2) := by decide +kernel
theorem dX6_comesHome_104 : decode cX6_comesHome 104 = .ok (.iadd, 1) := by decide +kernel
theorem dX6_comesHome_105 : decode cX6_comesHome 105 = .ok (.iastore, 1) := by decide +kernel
theorem dX6_comesHome_106 : decode cX6_comesHome 106 = .ok (.iinc 3 1, 3) := by decide +kernel
theorem dX6_comesHome_109 : decode cX6_comesHome 109 = .ok (.goto (-99), 3) := by decide +kernel
theorem dX6_comesHome_112 : decode cX6_comesHome 112 = .ok (.iinc 2 1, 3) := by decide +kernel
theorem dX6_comesHome_115 : decode cX6_comesHome 115 = .ok (.goto (-113), 3) := by decide +kernel
theorem dX6_comesHome_118 : decode cX6_comesHome 118 = .ok (.aload_n 0, 1) := by decide +kernel
theorem dX6_comesHome_119 : decode cX6_comesHome 119 = .ok (.getfield 7, 3) := by decide +kernel
theorem dX6_comesHome_122 : decode cX6_comesHome 122 = .ok (.bipush 14, 2) := by decide +kernel
theorem dX6_comesHome_124 : decode cX6_comesHome 124 = .ok (.dup2, 1) := by decide +kernel
theorem dX6_comesHome_125 : decode cX6_comesHome 125 = .ok (.iaload, 1) := by decide +kernel
theorem dX6_comesHome_126 : decode cX6_comesHome 126 = .ok (.iconst 1, 1) := by decide +kernel
theorem dX6_comesHome_127 : decode cX6_comesHome 127 = .ok (.isub, 1) := by decide +kernel
theorem dX6_comesHome_128 : decode cX6_comesHome 128 = .ok (.iastore, 1) := by decide +kernel
theorem dX6_comesHome_129 : decode cX6_comesHome 129 = .ok (.iload_n 1, 1) := by decide +kernel
theorem dX6_comesHome_130 : decode cX6_comesHome 130 = .ok (.iconst 0, 1) := by decide +kernel
theorem dX6_comesHome_131 : decode cX6_comesHome 131 = .ok (.invokestatic 84, 3) := by decide +kernel
theorem dX6_comesHome_134 : decode cX6_comesHome 134 = .ok (.istore_n 2, 1) := by decide +kernel
theorem dX6_comesHome_135 : decode cX6_comesHome 135 = .ok (.iload_n 2, 1) := by decide +kernel
theorem dX6_comesHome_136 : decode cX6_comesHome 136 = .ok (.aload_n 0, 1) := by decide +kernel
theorem dX6_comesHome_137 : decode cX6_comesHome 137 = .ok (.getfield 7, 3) := by decide +kernel
theorem dX6_comesHome_140 : decode cX6_comesHome 140 = .ok (.bipush 14, 2) := by decide +kernel
theorem dX6_comesHome_142 : decode cX6_comesHome 142 = .ok (.iaload, 1) := by decide +kernel
theorem dX6_comesHome_143 : decode cX6_comesHome 143 = .ok (.iconst 0, 1) := by decide +kernel
theorem dX6_comesHome_144 : decode cX6_comesHome 144 = .ok (.invokestatic 84, 3) := by decide +kernel
theorem dX6_comesHome_147 : decode cX6_comesHome 147 = .ok (.if_icmp .ge 24, 3) := by decide +kernel
theorem dX6_comesHome_150 : decode cX6_comesHome 150 = .ok (.aload_n 0, 1) := by decide +kernel
theorem dX6_comesHome_151 : decode cX6_comesHome 151 = .ok (.getfield 7, 3) := by decide +kernel
theorem dX6_comesHome_154 : decode cX6_comesHome 154 = .ok (.iload_n 2, 1) := by decide +kernel
theorem dX6_comesHome_155 : decode cX6_comesHome 155 = .ok (.aload_n 0, 1) := by decide +kernel
theorem dX6_comesHome_156 : decode cX6_comesHome 156 = .ok (.getfield 7, 3) := by decide +kernel
theorem dX6_comesHome_159 : decode cX6_comesHome 159 = .ok (.iload_n 2, 1) := by decide +kernel
theorem dX6_comesHome_160 : decode cX6_comesHome 160 = .ok (.bipush 51, 2) := by decide +kernel
theorem dX6_comesHome_162 : decode cX6_comesHome 162 = .ok (.iadd, 1) := by decide +kernel
theorem dX6_comesHome_163 : decode cX6_comesHome 163 = .ok (.iaload, 1) := by decide +kernel
theorem dX6_comesHome_164 : decode cX6_comesHome 164 = .ok (.iastore, 1) := by decide +kernel
theorem dX6_comesHome_165 : decode cX6_comesHome 165 = .ok (.iinc 2 1, 3) := by decide +kernel
theorem dX6_comesHome_168 : decode cX6_comesHome 168 = .ok (.goto (-33), 3) := by decide +kernel
theorem dX6_comesHome_171 : decode cX6_comesHome 171 = .ok (.iconst 0, 1) := by decide +kernel
theorem dX6_comesHome_172 : decode cX6_comesHome 172 = .ok (.istore_n 2, 1) := by decide +kernel
theorem dX6_comesHome_173 : decode cX6_comesHome 173 = .ok (.iload_n 2, 1) := by decide +kernel
theorem dX6_comesHome_174 : decode cX6_comesHome 174 = .ok (.bipush 51, 2) := by decide +kernel
theorem dX6_comesHome_176 : decode cX6_comesHome 176 = .ok (.if_icmp .ge 26, 3) := by decide +kernel
theorem dX6_comesHome_179 : decode cX6_comesHome 179 = .ok (.aload_n 0, 1) := by decide +kernel
theorem dX6_comesHome_180 : decode cX6_comesHome 180 = .ok (.getfield 7, 3) := by decide +kernel
theorem dX6_comesHome_183 : decode cX6_comesHome 183 = .ok (.aload_n 0, 1) := by decide +kernel
theorem dX6_comesHome_184 : decode cX6_comesHome 184 = .ok (.getfield 7, 3) := by decide +kernel
theorem dX6_comesHome_187 : decode cX6_comesHome 187 = .ok (.bipush 14, 2) := by decide +kernel
theorem dX6_comesHome_189 : decode cX6_comesHome 189 = .ok (.iaload, 1) := by decide +kernel
theorem dX6_comesHome_190 : decode cX6_comesHome 190 = .ok (.iload_n 2, 1) := by decide +kernel
theorem dX6_comesHome_191 : decode cX6_comesHome 191 = .ok (.invokestatic 84, 3) := by decide +kernel
theorem dX6_comesHome_194 : decode cX6_comesHome 194 = .ok (.iconst 0, 1) := by decide +kernel
theorem dX6_comesHome_195 : decode cX6_comesHome 195 = .ok (.iastore, 1) := by decide +kernel
theorem dX6_comesHome_196 : decode cX6_comesHome 196 = .ok (.iinc 2 1, 3) := by decide +kernel
theorem dX6_comesHome_199 : decode cX6_comesHome 199 = .ok (.goto (-26), 3) := by decide +kernel
theorem dX6_comesHome_202 : decode cX6_comesHome 202 = .ok (.return_, 1) := by decide +kernel
theorem dX6_paysDuty_0 : decode cX6_paysDuty 0 = .ok (.aload_n 0, 1) := by decide +kernel
theorem dX6_paysDuty_1 : decode cX6_paysDuty 1 = .ok (.aload_n 0, 1) := by decide +kernel
theorem dX6_paysDuty_2 : decode cX6_paysDuty 2 = .ok (.getfield 7, 3) := by decide +kernel
theorem dX6_paysDuty_5 : decode cX6_paysDuty 5 = .ok (.iload_n 1, 1) := by decide +kernel
theorem dX6_paysDuty_6 : decode cX6_paysDuty 6 = .ok (.iconst 0, 1) := by decide +kernel
theorem dX6_paysDuty_7 : decode cX6_paysDuty 7 = .ok (.invokestatic 84, 3) := by decide +kernel
theorem dX6_paysDuty_10 : decode cX6_paysDuty 10 = .ok (.iaload, 1) := by decide +kernel
theorem dX6_paysDuty_11 : decode cX6_paysDuty 11 = .ok (.invokevirtual 91, 3) := by decide +kernel
theorem dX6_paysDuty_14 : decode cX6_paysDuty 14 = .ok (.istore_n 2, 1) := by decide +kernel
theorem dX6_paysDuty_15 : decode cX6_paysDuty 15 = .ok (.iconst 0, 1) := by decide +kernel
theorem dX6_paysDuty_16 : decode cX6_paysDuty 16 = .ok (.istore_n 3, 1) := by decide +kernel
theorem dX6_paysDuty_17 : decode cX6_paysDuty 17 = .ok (.iload_n 3, 1) := by decide +kernel
theorem dX6_paysDuty_18 : decode cX6_paysDuty 18 = .ok (.bipush 6, 2) := by decide +kernel
theorem dX6_paysDuty_20 : decode cX6_paysDuty 20 = .ok (.if_icmp .ge 59, 3) := by decide +kernel
theorem dX6_paysDuty_23 : decode cX6_paysDuty 23 = .ok (.aload_n 0, 1) := by decide +kernel
theorem dX6_paysDuty_24 : decode cX6_paysDuty 24 = .ok (.getfield 29, 3) := by decide +kernel
theorem dX6_paysDuty_27 : decode cX6_paysDuty 27 = .ok (.iload_n 3, 1) := by decide +kernel
theorem dX6_paysDuty_28 : decode cX6_paysDuty 28 = .ok (.iconst 0, 1) := by decide +kernel
theorem dX6_paysDuty_29 : decode cX6_paysDuty 29 = .ok (.iastore, 1) := by decide +kernel
theorem dX6_paysDuty_30 : decode cX6_paysDuty 30 = .ok (.iconst 0, 1) := by decide +kernel
theorem dX6_paysDuty_31 : decode cX6_paysDuty 31 = .ok (.istore 4, 2) := by decide +kernel
theorem dX6_paysDuty_33 : decode cX6_paysDuty 33 = .ok (.iload 4, 2) := by decide +kernel
theorem dX6_paysDuty_35 : decode cX6_paysDuty 35 = .ok (.bipush 8, 2) := by decide +kernel
theorem dX6_paysDuty_37 : decode cX6_paysDuty 37 = .ok (.if_icmp .ge 36, 3) := by decide +kernel
theorem dX6_paysDuty_40 : decode cX6_paysDuty 40 = .ok (.aload_n 0, 1) := by decide +kernel
theorem dX6_paysDuty_41 : decode cX6_paysDuty 41 = .ok (.getfield 29, 3) := by decide +kernel
theorem dX6_paysDuty_44 : decode cX6_paysDuty 44 = .ok (.iload_n 3, 1) := by decide +kernel
theorem dX6_paysDuty_45 : decode cX6_paysDuty 45 = .ok (.dup2, 1) := by decide +kernel
theorem dX6_paysDuty_46 : decode cX6_paysDuty 46 = .ok (.iaload, 1) := by decide +kernel
theorem dX6_paysDuty_47 : decode cX6_paysDuty 47 = .ok (.iload 4, 2) := by decide +kernel
theorem dX6_paysDuty_49 : decode cX6_paysDuty 49 = .ok (.invokestatic 54, 3) := by decide +kernel
theorem dX6_paysDuty_52 : decode cX6_paysDuty 52 = .ok (.aload_n 0, 1) := by decide +kernel
theorem dX6_paysDuty_53 : decode cX6_paysDuty 53 = .ok (.getfield 7, 3) := by decide +kernel
theorem dX6_paysDuty_56 : decode cX6_paysDuty 56 = .ok (.iload_n 1, 1) := by decide +kernel
theorem dX6_paysDuty_57 : decode cX6_paysDuty 57 = .ok (.iload_n 3, 1) := by decide +kernel
theorem dX6_paysDuty_58 : decode cX6_paysDuty 58 = .ok (.iload 4, 2) := by decide +kernel
theorem dX6_paysDuty_60 : decode cX6_paysDuty 60 = .ok (.invokestatic 87, 3) := by decide +kernel
theorem dX6_paysDuty_63 : decode cX6_paysDuty 63 = .ok (.iaload, 1) := by decide +kernel
theorem dX6_paysDuty_64 : decode cX6_paysDuty 64 = .ok (.imul, 1) := by decide +kernel
theorem dX6_paysDuty_65 : decode cX6_paysDuty 65 = .ok (.iadd, 1) := by decide +kernel
theorem dX6_paysDuty_66 : decode cX6_paysDuty 66 = .ok (.iastore, 1) := by decide +kernel
theorem dX6_paysDuty_67 : decode cX6_paysDuty 67 = .ok (.iinc 4 1, 3) := by decide +kernel
theorem dX6_paysDuty_70 : decode cX6_paysDuty 70 = .ok (.goto (-37), 3) := by decide +kernel
theorem dX6_paysDuty_73 : decode cX6_paysDuty 73 = .ok (.iinc 3 1, 3) := by decide +kernel
theorem dX6_paysDuty_76 : decode cX6_paysDuty 76 = .ok (.goto (-59), 3) := by decide +kernel
theorem dX6_paysDuty_79 : decode cX6_paysDuty 79 = .ok (.aload_n 0, 1) := by decide +kernel
theorem dX6_paysDuty_80 : decode cX6_paysDuty 80 = .ok (.iload_n 2, 1) := by decide +kernel
theorem dX6_paysDuty_81 : decode cX6_paysDuty 81 = .ok (.invokevirtual 73, 3) := by decide +kernel
theorem dX6_paysDuty_84 : decode cX6_paysDuty 84 = .ok (.iconst 0, 1) := by decide +kernel
theorem dX6_paysDuty_85 : decode cX6_paysDuty 85 = .ok (.istore_n 3, 1) := by decide +kernel
theorem dX6_paysDuty_86 : decode cX6_paysDuty 86 = .ok (.iload_n 3, 1) := by decide +kernel
theorem dX6_paysDuty_87 : decode cX6_paysDuty 87 = .ok (.bipush 6, 2) := by decide +kernel
theorem dX6_paysDuty_89 : decode cX6_paysDuty 89 = .ok (.if_icmp .ge 47, 3) := by decide +kernel
theorem dX6_paysDuty_92 : decode cX6_paysDuty 92 = .ok (.aload_n 0, 1) := by decide +kernel
theorem dX6_paysDuty_93 : decode cX6_paysDuty 93 = .ok (.getfield 7, 3) := by decide +kernel
theorem dX6_paysDuty_96 : decode cX6_paysDuty 96 = .ok (.iload_n 3, 1) := by decide +kernel
theorem dX6_paysDuty_97 : decode cX6_paysDuty 97 = .ok (.iconst 0, 1) := by decide +kernel
theorem dX6_paysDuty_98 : decode cX6_paysDuty 98 = .ok (.invokestatic 47, 3) := by decide +kernel
theorem dX6_paysDuty_101 : decode cX6_paysDuty 101 = .ok (.dup2, 1) := by decide +kernel
theorem dX6_paysDuty_102 : decode cX6_paysDuty 102 = .ok (.iaload, 1) := by decide +kernel
theorem dX6_paysDuty_103 : decode cX6_paysDuty 103 = .ok (.aload_n 0, 1) := by decide +kernel
theorem dX6_paysDuty_104 : decode cX6_paysDuty 104 = .ok (.getfield 32, 3) := by decide +kernel
theorem dX6_paysDuty_107 : decode cX6_paysDuty 107 = .ok (.iload_n 3, 1) := by decide +kernel
theorem dX6_paysDuty_108 : decode cX6_paysDuty 108 = .ok (.iaload, 1) := by decide +kernel
theorem dX6_paysDuty_109 : decode cX6_paysDuty 109 = .ok (.isub, 1) := by decide +kernel
theorem dX6_paysDuty_110 : decode cX6_paysDuty 110 = .ok (.iastore, 1) := by decide +kernel
theorem dX6_paysDuty_111 : decode cX6_paysDuty 111 = .ok (.aload_n 0, 1) := by decide +kernel
theorem dX6_paysDuty_112 : decode cX6_paysDuty 112 = .ok (.getfield 7, 3) := by decide +kernel
theorem dX6_paysDuty_115 : decode cX6_paysDuty 115 = .ok (.iload_n 3, 1) := by decide +kernel
theorem dX6_paysDuty_116 : decode cX6_paysDuty 116 = .ok (.iconst 4, 1) := by decide +kernel
theorem dX6_paysDuty_117 : decode cX6_paysDuty 117 = .ok (.invokestatic 47, 3) := by decide +kernel
theorem dX6_paysDuty_120 : decode cX6_paysDuty 120 = .ok (.dup2, 1) := by decide +kernel
theorem dX6_paysDuty_121 : decode cX6_paysDuty 121 = .ok (.iaload, 1) := by decide +kernel
theorem dX6_paysDuty_122 : decode cX6_paysDuty 122 = .ok (.aload_n 0, 1) := by decide +kernel
theorem dX6_paysDuty_123 : decode cX6_paysDuty 123 = .ok (.getfield 32, 3) := by decide +kernel
theorem dX6_paysDuty_126 : decode cX6_paysDuty 126 = .ok (.iload_n 3, 1) := by decide +kernel
theorem dX6_paysDuty_127 : decode cX6_paysDuty 127 = .ok (.iaload, 1) := by decide +kernel
theorem dX6_paysDuty_128 : decode cX6_paysDuty 128 = .ok (.iadd, 1) := by decide +kernel
theorem dX6_paysDuty_129 : decode cX6_paysDuty 129 = .ok (.iastore, 1) := by decide +kernel
theorem dX6_paysDuty_130 : decode cX6_paysDuty 130 = .ok (.iinc 3 1, 3) := by decide +kernel
theorem dX6_paysDuty_133 : decode cX6_paysDuty 133 = .ok (.goto (-47), 3) := by decide +kernel
theorem dX6_paysDuty_136 : decode cX6_paysDuty 136 = .ok (.aload_n 0, 1) := by decide +kernel
theorem dX6_paysDuty_137 : decode cX6_paysDuty 137 = .ok (.getfield 7, 3) := by decide +kernel
theorem dX6_paysDuty_140 : decode cX6_paysDuty 140 = .ok (.bipush 12, 2) := by decide +kernel
theorem dX6_paysDuty_142 : decode cX6_paysDuty 142 = .ok (.dup2, 1) := by decide +kernel
theorem dX6_paysDuty_143 : decode cX6_paysDuty 143 = .ok (.iaload, 1) := by decide +kernel
theorem dX6_paysDuty_144 : decode cX6_paysDuty 144 = .ok (.iload_n 2, 1) := by decide +kernel
theorem dX6_paysDuty_145 : decode cX6_paysDuty 145 = .ok (.iadd, 1) := by decide +kernel
theorem dX6_paysDuty_146 : decode cX6_paysDuty 146 = .ok (.iastore, 1) := by decide +kernel
theorem dX6_paysDuty_147 : decode cX6_paysDuty 147 = .ok (.return_, 1) := by decide +kernel
theorem dX6_loses_0 : decode cX6_loses 0 = .ok (.aload_n 0, 1) := by decide +kernel
theorem dX6_loses_1 : decode cX6_loses 1 = .ok (.aload_n 0, 1) := by decide +kernel
theorem dX6_loses_2 : decode cX6_loses 2 = .ok (.iload_n 1, 1) := by decide +kernel
theorem dX6_loses_3 : decode cX6_loses 3 = .ok (.invokevirtual 94, 3) := by decide +kernel
theorem dX6_loses_6 : decode cX6_loses 6 = .ok (.invokevirtual 97, 3) := by decide +kernel
theorem dX6_loses_9 : decode cX6_loses 9 = .ok (.istore_n 2, 1) := by decide +kernel
theorem dX6_loses_10 : decode cX6_loses 10 = .ok (.iconst 0, 1) := by decide +kernel
theorem dX6_loses_11 : decode cX6_loses 11 = .ok (.istore_n 3, 1) := by decide +kernel
theorem dX6_loses_12 : decode cX6_loses 12 = .ok (.iload_n 2, 1) := by decide +kernel
theorem dX6_loses_13 : decode cX6_loses 13 = .ok (.aload_n 0, 1) := by decide +kernel
theorem dX6_loses_14 : decode cX6_loses 14 = .ok (.getfield 7, 3) := by decide +kernel
theorem dX6_loses_17 : decode cX6_loses 17 = .ok (.iload_n 1, 1) := by decide +kernel
theorem dX6_loses_18 : decode cX6_loses 18 = .ok (.iconst 3, 1) := by decide +kernel
theorem dX6_loses_19 : decode cX6_loses 19 = .ok (.iload_n 3, 1) := by decide +kernel
theorem dX6_loses_20 : decode cX6_loses 20 = .ok (.iadd, 1) := by decide +kernel
theorem dX6_loses_21 : decode cX6_loses 21 = .ok (.invokestatic 84, 3) := by decide +kernel
theorem dX6_loses_24 : decode cX6_loses 24 = .ok (.iaload, 1) := by decide +kernel
theorem dX6_loses_25 : decode cX6_loses 25 = .ok (.if_icmp .lt 24, 3) := by decide +kernel
theorem dX6_loses_28 : decode cX6_loses 28 = .ok (.iload_n 2, 1) := by decide +kernel
theorem dX6_loses_29 : decode cX6_loses 29 = .ok (.aload_n 0, 1) := by decide +kernel
theorem dX6_loses_30 : decode cX6_loses 30 = .ok (.getfield 7, 3) := by decide +kernel
theorem dX6_loses_33 : decode cX6_loses 33 = .ok (.iload_n 1, 1) := by decide +kernel
theorem dX6_loses_34 : decode cX6_loses 34 = .ok (.iconst 3, 1) := by decide +kernel
theorem dX6_loses_35 : decode cX6_loses 35 = .ok (.iload_n 3, 1) := by decide +kernel
theorem dX6_loses_36 : decode cX6_loses 36 = .ok (.iadd, 1) := by decide +kernel
theorem dX6_loses_37 : decode cX6_loses 37 = .ok (.invokestatic 84, 3) := by decide +kernel
theorem dX6_loses_40 : decode cX6_loses 40 = .ok (.iaload, 1) := by decide +kernel
theorem dX6_loses_41 : decode cX6_loses 41 = .ok (.isub, 1) := by decide +kernel
theorem dX6_loses_42 : decode cX6_loses 42 = .ok (.istore_n 2, 1) := by decide +kernel
theorem dX6_loses_43 : decode cX6_loses 43 = .ok (.iinc 3 1, 3) := by decide +kernel
theorem dX6_loses_46 : decode cX6_loses 46 = .ok (.goto (-34), 3) := by decide +kernel
theorem dX6_loses_49 : decode cX6_loses 49 = .ok (.aload_n 0, 1) := by decide +kernel
theorem dX6_loses_50 : decode cX6_loses 50 = .ok (.getfield 7, 3) := by decide +kernel
theorem dX6_loses_53 : decode cX6_loses 53 = .ok (.iload_n 1, 1) := by decide +kernel
theorem dX6_loses_54 : decode cX6_loses 54 = .ok (.iconst 3, 1) := by decide +kernel
theorem dX6_loses_55 : decode cX6_loses 55 = .ok (.iload_n 3, 1) := by decide +kernel
theorem dX6_loses_56 : decode cX6_loses 56 = .ok (.iadd, 1) := by decide +kernel
theorem dX6_loses_57 : decode cX6_loses 57 = .ok (.invokestatic 84, 3) := by decide +kernel
theorem dX6_loses_60 : decode cX6_loses 60 = .ok (.dup2, 1) := by decide +kernel
theorem dX6_loses_61 : decode cX6_loses 61 = .ok (.iaload, 1) := by decide +kernel
theorem dX6_loses_62 : decode cX6_loses 62 = .ok (.iconst 1, 1) := by decide +kernel
theorem dX6_loses_63 : decode cX6_loses 63 = .ok (.isub, 1) := by decide +kernel
theorem dX6_loses_64 : decode cX6_loses 64 = .ok (.iastore, 1) := by decide +kernel
theorem dX6_loses_65 : decode cX6_loses 65 = .ok (.aload_n 0, 1) := by decide +kernel
theorem dX6_loses_66 : decode cX6_loses 66 = .ok (.getfield 7, 3) := by decide +kernel
theorem dX6_loses_69 : decode cX6_loses 69 = .ok (.iload_n 3, 1) := by decide +kernel
theorem dX6_loses_70 : decode cX6_loses 70 = .ok (.bipush 8, 2) := by decide +kernel
theorem dX6_loses_72 : decode cX6_loses 72 = .ok (.idiv, 1) := by decide +kernel
theorem dX6_loses_73 : decode cX6_loses 73 = .ok (.iconst 5, 1) := by decide +kernel
theorem dX6_loses_74 : decode cX6_loses 74 = .ok (.invokestatic 47, 3) := by decide +kernel
theorem dX6_loses_77 : decode cX6_loses 77 = .ok (.dup2, 1) := by decide +kernel
theorem dX6_loses_78 : decode cX6_loses 78 = .ok (.iaload, 1) := by decide +kernel
theorem dX6_loses_79 : decode cX6_loses 79 = .ok (.iconst 1, 1) := by decide +kernel
theorem dX6_loses_80 : decode cX6_loses 80 = .ok (.iadd, 1) := by decide +kernel
theorem dX6_loses_81 : decode cX6_loses 81 = .ok (.iastore, 1) := by decide +kernel
theorem dX6_loses_82 : decode cX6_loses 82 = .ok (.aload_n 0, 1) := by decide +kernel
theorem dX6_loses_83 : decode cX6_loses 83 = .ok (.getfield 7, 3) := by decide +kernel
theorem dX6_loses_86 : decode cX6_loses 86 = .ok (.bipush 13, 2) := by decide +kernel
theorem dX6_loses_88 : decode cX6_loses 88 = .ok (.dup2, 1) := by decide +kernel
theorem dX6_loses_89 : decode cX6_loses 89 = .ok (.iaload, 1) := by decide +kernel
theorem dX6_loses_90 : decode cX6_loses 90 = .ok (.iconst 1, 1) := by decide +kernel
theorem dX6_loses_91 : decode cX6_loses 91 = .ok (.iadd, 1) := by decide +kernel
theorem dX6_loses_92 : decode cX6_loses 92 = .ok (.iastore, 1) := by decide +kernel
theorem dX6_loses_93 : decode cX6_loses 93 = .ok (.return_, 1) := by decide +kernel
theorem dX6_comesToCustoms_0 : decode cX6_comesToCustoms 0 = .ok (.aload_n 0, 1) := by decide +kernel
theorem dX6_comesToCustoms_1 : decode cX6_comesToCustoms 1 = .ok (.bipush 100, 2) := by decide +kernel
theorem dX6_comesToCustoms_3 : decode cX6_comesToCustoms 3 = .ok (.invokevirtual 97, 3) := by decide +kernel
theorem dX6_comesToCustoms_6 : decode cX6_comesToCustoms 6 = .ok (.aload_n 0, 1) := by decide +kernel
theorem dX6_comesToCustoms_7 : decode cX6_comesToCustoms 7 = .ok (.getfield 7, 3) := by decide +kernel
theorem dX6_comesToCustoms_10 : decode cX6_comesToCustoms 10 = .ok (.bipush 7, 2) := by decide +kernel
theorem dX6_comesToCustoms_12 : decode cX6_comesToCustoms 12 = .ok (.iaload, 1) := by decide +kernel
theorem dX6_comesToCustoms_13 : decode cX6_comesToCustoms 13 = .ok (.if_icmp .lt 5, 3) := by decide +kernel
theorem dX6_comesToCustoms_16 : decode cX6_comesToCustoms 16 = .ok (.iconst 1, 1) := by decide +kernel
theorem dX6_comesToCustoms_17 : decode cX6_comesToCustoms 17 = .ok (.ireturn, 1) := by decide +kernel
theorem dX6_comesToCustoms_18 : decode cX6_comesToCustoms 18 = .ok (.aload_n 0, 1) := by decide +kernel
theorem dX6_comesToCustoms_19 : decode cX6_comesToCustoms 19 = .ok (.getfield 7, 3) := by decide +kernel
theorem dX6_comesToCustoms_22 : decode cX6_comesToCustoms 22 = .ok (.bipush 11, 2) := by decide +kernel
theorem dX6_comesToCustoms_24 : decode cX6_comesToCustoms 24 = .ok (.dup2, 1) := by decide +kernel
theorem dX6_comesToCustoms_25 : decode cX6_comesToCustoms 25 = .ok (.iaload, 1) := by decide +kernel
theorem dX6_comesToCustoms_26 : decode cX6_comesToCustoms 26 = .ok (.iconst 1, 1) := by decide +kernel
theorem dX6_comesToCustoms_27 : decode cX6_comesToCustoms 27 = .ok (.iadd, 1) := by decide +kernel
theorem dX6_comesToCustoms_28 : decode cX6_comesToCustoms 28 = .ok (.iastore, 1) := by decide +kernel
theorem dX6_comesToCustoms_29 : decode cX6_comesToCustoms 29 = .ok (.aload_n 0, 1) := by decide +kernel
theorem dX6_comesToCustoms_30 : decode cX6_comesToCustoms 30 = .ok (.getfield 7, 3) := by decide +kernel
theorem dX6_comesToCustoms_33 : decode cX6_comesToCustoms 33 = .ok (.iload_n 1, 1) := by decide +kernel
theorem dX6_comesToCustoms_34 : decode cX6_comesToCustoms 34 = .ok (.iconst 2, 1) := by decide +kernel
theorem dX6_comesToCustoms_35 : decode cX6_comesToCustoms 35 = .ok (.invokestatic 84, 3) := by decide +kernel
theorem dX6_comesToCustoms_38 : decode cX6_comesToCustoms 38 = .ok (.iconst 1, 1) := by decide +kernel
theorem dX6_comesToCustoms_39 : decode cX6_comesToCustoms 39 = .ok (.iastore, 1) := by decide +kernel
theorem dX6_comesToCustoms_40 : decode cX6_comesToCustoms 40 = .ok (.aload_n 0, 1) := by decide +kernel
theorem dX6_comesToCustoms_41 : decode cX6_comesToCustoms 41 = .ok (.iload_n 1, 1) := by decide +kernel
theorem dX6_comesToCustoms_42 : decode cX6_comesToCustoms 42 = .ok (.invokevirtual 100, 3) := by decide +kernel
theorem dX6_comesToCustoms_45 : decode cX6_comesToCustoms 45 = .ok (.aload_n 0, 1) := by decide +kernel
theorem dX6_comesToCustoms_46 : decode cX6_comesToCustoms 46 = .ok (.bipush 100, 2) := by decide +kernel
theorem dX6_comesToCustoms_48 : decode cX6_comesToCustoms 48 = .ok (.invokevirtual 97, 3) := by decide +kernel
theorem dX6_comesToCustoms_51 : decode cX6_comesToCustoms 51 = .ok (.aload_n 0, 1) := by decide +kernel
theorem dX6_comesToCustoms_52 : decode cX6_comesToCustoms 52 = .ok (.getfield 7, 3) := by decide +kernel
theorem dX6_comesToCustoms_55 : decode cX6_comesToCustoms 55 = .ok (.bipush 8, 2) := by decide +kernel
theorem dX6_comesToCustoms_57 : decode cX6_comesToCustoms 57 = .ok (.iaload, 1) := by decide +kernel
theorem dX6_comesToCustoms_58 : decode cX6_comesToCustoms 58 = .ok (.if_icmp .ge 8, 3) := by decide +kernel
theorem dX6_comesToCustoms_61 : decode cX6_comesToCustoms 61 = .ok (.aload_n 0, 1) := by decide +kernel
theorem dX6_comesToCustoms_62 : decode cX6_comesToCustoms 62 = .ok (.iload_n 1, 1) := by decide +kernel
theorem dX6_comesToCustoms_63 : decode cX6_comesToCustoms 63 = .ok (.invokevirtual 103, 3) := by decide +kernel
theorem dX6_comesToCustoms_66 : decode cX6_comesToCustoms 66 = .ok (.aload_n 0, 1) := by decide +kernel
theorem dX6_comesToCustoms_67 : decode cX6_comesToCustoms 67 = .ok (.getfield 7, 3) := by decide +kernel
theorem dX6_comesToCustoms_70 : decode cX6_comesToCustoms 70 = .ok (.iload_n 1, 1) := by decide +kernel
theorem dX6_comesToCustoms_71 : decode cX6_comesToCustoms 71 = .ok (.iconst 1, 1) := by decide +kernel
theorem dX6_comesToCustoms_72 : decode cX6_comesToCustoms 72 = .ok (.invokestatic 84, 3) := by decide +kernel
theorem dX6_comesToCustoms_75 : decode cX6_comesToCustoms 75 = .ok (.aload_n 0, 1) := by decide +kernel
theorem dX6_comesToCustoms_76 : decode cX6_comesToCustoms 76 = .ok (.getfield 7, 3) := by decide +kernel
theorem dX6_comesToCustoms_79 : decode cX6_comesToCustoms 79 = .ok (.bipush 9, 2) := by decide +kernel
theorem dX6_comesToCustoms_81 : decode cX6_comesToCustoms 81 = .ok (.iaload, 1) := by decide +kernel
theorem dX6_comesToCustoms_82 : decode cX6_comesToCustoms 82 = .ok (.aload_n 0, 1) := by decide +kernel
theorem dX6_comesToCustoms_83 : decode cX6_comesToCustoms 83 = .ok (.getfield 7, 3) := by decide +kernel
theorem dX6_comesToCustoms_86 : decode cX6_comesToCustoms 86 = .ok (.iconst 4, 1) := by decide +kernel
theorem dX6_comesToCustoms_87 : decode cX6_comesToCustoms 87 = .ok (.iaload, 1) := by decide +kernel
theorem dX6_comesToCustoms_88 : decode cX6_comesToCustoms 88 = .ok (.iadd, 1) := by decide +kernel
theorem dX6_comesToCustoms_89 : decode cX6_comesToCustoms 89 = .ok (.iastore, 1) := by decide +kernel
theorem dX6_comesToCustoms_90 : decode cX6_comesToCustoms 90 = .ok (.aload_n 0, 1) := by decide +kernel
theorem dX6_comesToCustoms_91 : decode cX6_comesToCustoms 91 = .ok (.getfield 7, 3) := by decide +kernel
theorem dX6_comesToCustoms_94 : decode cX6_comesToCustoms 94 = .ok (.iconst 4, 1) := by decide +kernel
theorem dX6_comesToCustoms_95 : decode cX6_comesToCustoms 95 = .ok (.iaload, 1) := by decide +kernel
theorem dX6_comesToCustoms_96 : decode cX6_comesToCustoms 96 = .ok (.ifCond .ne 7, 3) := by decide +kernel
theorem dX6_comesToCustoms_99 : decode cX6_comesToCustoms 99 = .ok (.iconst 1, 1) := by decide +kernel
theorem dX6_comesToCustoms_100 : decode cX6_comesToCustoms 100 = .ok (.goto 4, 3) := by decide +kernel
theorem dX6_comesToCustoms_103 : decode cX6_comesToCustoms 103 = .ok (.iconst 0, 1) := by decide +kernel
theorem dX6_comesToCustoms_104 : decode cX6_comesToCustoms 104 = .ok (.ireturn, 1) := by decide +kernel
theorem dX6_day_0 : decode cX6_day 0 = .ok (.aload_n 0, 1) := by decide +kernel
theorem dX6_day_1 : decode cX6_day 1 = .ok (.getfield 7, 3) := by decide +kernel
theorem dX6_day_4 : decode cX6_day 4 = .ok (.bipush 9, 2) := by decide +kernel
theorem dX6_day_6 : decode cX6_day 6 = .ok (.dup2, 1) := by decide +kernel
theorem dX6_day_7 : decode cX6_day 7 = .ok (.iaload, 1) := by decide +kernel
theorem dX6_day_8 : decode cX6_day 8 = .ok (.iconst 1, 1) := by decide +kernel
theorem dX6_day_9 : decode cX6_day 9 = .ok (.iadd, 1) := by decide +kernel
theorem dX6_day_10 : decode cX6_day 10 = .ok (.iastore, 1) := by decide +kernel
theorem dX6_day_11 : decode cX6_day 11 = .ok (.iconst 0, 1) := by decide +kernel
theorem dX6_day_12 : decode cX6_day 12 = .ok (.istore_n 1, 1) := by decide +kernel
theorem dX6_day_13 : decode cX6_day 13 = .ok (.iconst 0, 1) := by decide +kernel
theorem dX6_day_14 : decode cX6_day 14 = .ok (.istore_n 2, 1) := by decide +kernel
theorem dX6_day_15 : decode cX6_day 15 = .ok (.iload_n 2, 1) := by decide +kernel
theorem dX6_day_16 : decode cX6_day 16 = .ok (.aload_n 0, 1) := by decide +kernel
theorem dX6_day_17 : decode cX6_day 17 = .ok (.getfield 7, 3) := by decide +kernel
theorem dX6_day_20 : decode cX6_day 20 = .ok (.bipush 14, 2) := by decide +kernel
theorem dX6_day_22 : decode cX6_day 22 = .ok (.iaload, 1) := by decide +kernel
theorem dX6_day_23 : decode cX6_day 23 = .ok (.if_icmp .ge 84, 3) := by decide +kernel
theorem dX6_day_26 : decode cX6_day 26 = .ok (.aload_n 0, 1) := by decide +kernel
theorem dX6_day_27 : decode cX6_day 27 = .ok (.getfield 7, 3) := by decide +kernel
theorem dX6_day_30 : decode cX6_day 30 = .ok (.iload_n 2, 1) := by decide +kernel
theorem dX6_day_31 : decode cX6_day 31 = .ok (.iconst 1, 1) := by decide +kernel
theorem dX6_day_32 : decode cX6_day 32 = .ok (.invokestatic 84, 3) := by decide +kernel
theorem dX6_day_35 : decode cX6_day 35 = .ok (.iaload, 1) := by decide +kernel
theorem dX6_day_36 : decode cX6_day 36 = .ok (.aload_n 0, 1) := by decide +kernel
theorem dX6_day_37 : decode cX6_day 37 = .ok (.getfield 7, 3) := by decide +kernel
theorem dX6_day_40 : decode cX6_day 40 = .ok (.bipush 9, 2) := by decide +kernel
theorem dX6_day_42 : decode cX6_day 42 = .ok (.iaload, 1) := by decide +kernel
theorem dX6_day_43 : decode cX6_day 43 = .ok (.if_icmp .ne 7, 3) := by decide +kernel
theorem dX6_day_46 : decode cX6_day 46 = .ok (.iconst 1, 1) := by decide +kernel
theorem dX6_day_47 : decode cX6_day 47 = .ok (.goto 4, 3) := by decide +kernel
theorem dX6_day_50 : decode cX6_day 50 = .ok (.iconst 0, 1) := by decide +kernel
theorem dX6_day_51 : decode cX6_day 51 = .ok (.istore_n 3, 1) := by decide +kernel
theorem dX6_day_52 : decode cX6_day 52 = .ok (.iload_n 3, 1) := by decide +kernel
theorem dX6_day_53 : decode cX6_day 53 = .ok (.ifCond .eq 29, 3) := by decide +kernel
theorem dX6_day_56 : decode cX6_day 56 = .ok (.aload_n 0, 1) := by decide +kernel
theorem dX6_day_57 : decode cX6_day 57 = .ok (.getfield 7, 3) := by decide +kernel
theorem dX6_day_60 : decode cX6_day 60 = .ok (.iload_n 2, 1) := by decide +kernel
theorem dX6_day_61 : decode cX6_day 61 = .ok (.iconst 2, 1) := by decide +kernel
theorem dX6_day_62 : decode cX6_day 62 = .ok (.invokestatic 84, 3) := by decide +kernel
theorem dX6_day_65 : decode cX6_day 65 = .ok (.iaload, 1) := by decide +kernel
theorem dX6_day_66 : decode cX6_day 66 = .ok (.iconst 1, 1) := by decide +kernel
theorem dX6_day_67 : decode cX6_day 67 = .ok (.if_icmp .eq 11, 3) := by decide +kernel
theorem dX6_day_70 : decode cX6_day 70 = .ok (.aload_n 0, 1) := by decide +kernel
theorem dX6_day_71 : decode cX6_day 71 = .ok (.iload_n 2, 1) := by decide +kernel
theorem dX6_day_72 : decode cX6_day 72 = .ok (.invokevirtual 106, 3) := by decide +kernel
theorem dX6_day_75 : decode cX6_day 75 = .ok (.ifCond .eq 7, 3) := by decide +kernel
theorem dX6_day_78 : decode cX6_day 78 = .ok (.iconst 1, 1) := by decide +kernel
theorem dX6_day_79 : decode cX6_day 79 = .ok (.goto 4, 3) := by decide +kernel
theorem dX6_day_82 : decode cX6_day 82 = .ok (.iconst 0, 1) := by decide +kernel
theorem dX6_day_83 : decode cX6_day 83 = .ok (.istore 4, 2) := by decide +kernel
theorem dX6_day_85 : decode cX6_day 85 = .ok (.iload 4, 2) := by decide +kernel
theorem dX6_day_87 : decode cX6_day 87 = .ok (.ifCond .eq 14, 3) := by decide +kernel
theorem dX6_day_90 : decode cX6_day 90 = .ok (.aload_n 0, 1) := by decide +kernel
theorem dX6_day_91 : decode cX6_day 91 = .ok (.iload_n 2, 1) := by decide +kernel
theorem dX6_day_92 : decode cX6_day 92 = .ok (.invokevirtual 110, 3) := by decide +kernel
theorem dX6_day_95 : decode cX6_day 95 = .ok (.iinc 1 1, 3) := by decide +kernel
theorem dX6_day_98 : decode cX6_day 98 = .ok (.goto 6, 3) := by decide +kernel
theorem dX6_day_101 : decode cX6_day 101 = .ok (.iinc 2 1, 3) := by decide +kernel
theorem dX6_day_104 : decode cX6_day 104 = .ok (.goto (-89), 3) := by decide +kernel
theorem dX6_day_107 : decode cX6_day 107 = .ok (.iload_n 1, 1) := by decide +kernel
theorem dX6_day_108 : decode cX6_day 108 = .ok (.ireturn, 1) := by decide +kernel
theorem dX6_least_0 : decode cX6_least 0 = .ok (.iload_n 0, 1) := by decide +kernel
theorem dX6_least_1 : decode cX6_least 1 = .ok (.ifCond .ne 7, 3) := by decide +kernel
theorem dX6_least_4 : decode cX6_least 4 = .ok (.iconst 2, 1) := by decide +kernel
theorem dX6_least_5 : decode cX6_least 5 = .ok (.goto 13, 3) := by decide +kernel
theorem dX6_least_8 : decode cX6_least 8 = .ok (.iload_n 0, 1) := by decide +kernel
theorem dX6_least_9 : decode cX6_least 9 = .ok (.iconst 3, 1) := by decide +kernel
theorem dX6_least_10 : decode cX6_least 10 = .ok (.if_icmp .ne 7, 3) := by decide +kernel
theorem dX6_least_13 : decode cX6_least 13 = .ok (.iconst 1, 1) := by decide +kernel
theorem dX6_least_14 : decode cX6_least 14 = .ok (.goto 4, 3) := by decide +kernel
theorem dX6_least_17 : decode cX6_least 17 = .ok (.iconst 0, 1) := by decide +kernel
theorem dX6_least_18 : decode cX6_least 18 = .ok (.ireturn, 1) := by decide +kernel
theorem dX6_most_0 : decode cX6_most 0 = .ok (.iload_n 0, 1) := by decide +kernel
theorem dX6_most_1 : decode cX6_most 1 = .ok (.tableswitch 62 0 6 #[43, 46, 49, 43, 52, 55, 59], 43) := by decide +kernel
theorem dX6_most_44 : decode cX6_most 44 = .ok (.bipush 20, 2) := by decide +kernel
theorem dX6_most_46 : decode cX6_most 46 = .ok (.ireturn, 1) := by decide +kernel
theorem dX6_most_47 : decode cX6_most 47 = .ok (.bipush 99, 2) := by decide +kernel
theorem dX6_most_49 : decode cX6_most 49 = .ok (.ireturn, 1) := by decide +kernel
theorem dX6_most_50 : decode cX6_most 50 = .ok (.bipush 9, 2) := by decide +kernel
theorem dX6_most_52 : decode cX6_most 52 = .ok (.ireturn, 1) := by decide +kernel
theorem dX6_most_53 : decode cX6_most 53 = .ok (.bipush 30, 2) := by decide +kernel
theorem dX6_most_55 : decode cX6_most 55 = .ok (.ireturn, 1) := by decide +kernel
theorem dX6_most_56 : decode cX6_most 56 = .ok (.sipush 500, 3) := by decide +kernel
theorem dX6_most_59 : decode cX6_most 59 = .ok (.ireturn, 1) := by decide +kernel
theorem dX6_most_60 : decode cX6_most 60 = .ok (.bipush 50, 2) := by decide +kernel
theorem dX6_most_62 : decode cX6_most 62 = .ok (.ireturn, 1) := by decide +kernel
theorem dX6_most_63 : decode cX6_most 63 = .ok (.bipush 100, 2) := by decide +kernel
theorem dX6_most_65 : decode cX6_most 65 = .ok (.ireturn, 1) := by decide +kernel
theorem dX6_lays_0 : decode cX6_lays 0 = .ok (.aload_n 0, 1) := by decide +kernel
theorem dX6_lays_1 : decode cX6_lays 1 = .ok (.invokevirtual 113, 3) := by decide +kernel
theorem dX6_lays_4 : decode cX6_lays 4 = .ok (.aload_n 0, 1) := by decide +kernel
theorem dX6_lays_5 : decode cX6_lays 5 = .ok (.getfield 7, 3) := by decide +kernel
theorem dX6_lays_8 : decode cX6_lays 8 = .ok (.iload_n 1, 1) := by decide +kernel
theorem dX6_lays_9 : decode cX6_lays 9 = .ok (.iaload, 1) := by decide +kernel
theorem dX6_lays_10 : decode cX6_lays 10 = .ok (.istore_n 3, 1) := by decide +kernel
theorem dX6_lays_11 : decode cX6_lays 11 = .ok (.aload_n 0, 1) := by decide +kernel
theorem dX6_lays_12 : decode cX6_lays 12 = .ok (.getfield 7, 3) := by decide +kernel
theorem dX6_lays_15 : decode cX6_lays 15 = .ok (.iload_n 1, 1) := by decide +kernel
theorem dX6_lays_16 : decode cX6_lays 16 = .ok (.iload_n 2, 1) := by decide +kernel
theorem dX6_lays_17 : decode cX6_lays 17 = .ok (.iastore, 1) := by decide +kernel
theorem dX6_lays_18 : decode cX6_lays 18 = .ok (.iload_n 3, 1) := by decide +kernel
theorem dX6_lays_19 : decode cX6_lays 19 = .ok (.ireturn, 1) := by decide +kernel
theorem dX6_set_0 : decode cX6_set 0 = .ok (.iload_n 1, 1) := by decide +kernel
theorem dX6_set_1 : decode cX6_set 1 = .ok (.iconst 0, 1) := by decide +kernel
theorem dX6_set_2 : decode cX6_set 2 = .ok (.bipush 8, 2) := by decide +kernel
theorem dX6_set_4 : decode cX6_set 4 = .ok (.invokestatic 35, 3) := by decide +kernel
theorem dX6_set_7 : decode cX6_set 7 = .ok (.ifCond .eq 27, 3) := by decide +kernel
theorem dX6_set_10 : decode cX6_set 10 = .ok (.iload_n 2, 1) := by decide +kernel
theorem dX6_set_11 : decode cX6_set 11 = .ok (.iload_n 1, 1) := by decide +kernel
theorem dX6_set_12 : decode cX6_set 12 = .ok (.invokestatic 116, 3) := by decide +kernel
theorem dX6_set_15 : decode cX6_set 15 = .ok (.iload_n 1, 1) := by decide +kernel
theorem dX6_set_16 : decode cX6_set 16 = .ok (.invokestatic 119, 3) := by decide +kernel
theorem dX6_set_19 : decode cX6_set 19 = .ok (.invokestatic 35, 3) := by decide +kernel
theorem dX6_set_22 : decode cX6_set 22 = .ok (.ifCond .eq 12, 3) := by decide +kernel
theorem dX6_set_25 : decode cX6_set 25 = .ok (.aload_n 0, 1) := by decide +kernel
theorem dX6_set_26 : decode cX6_set 26 = .ok (.iload_n 1, 1) := by decide +kernel
theorem dX6_set_27 : decode cX6_set 27 = .ok (.iload_n 2, 1) := by decide +kernel
theorem dX6_set_28 : decode cX6_set 28 = .ok (.invokevirtual 122, 3) := by decide +kernel
theorem dX6_set_31 : decode cX6_set 31 = .ok (.goto 5, 3) := by decide +kernel
theorem dX6_set_34 : decode cX6_set 34 = .ok (.ldc 125, 2) := by decide +kernel
theorem dX6_set_36 : decode cX6_set 36 = .ok (.ireturn, 1) := by decide +kernel
theorem dX6_bits_0 : decode cX6_bits 0 = .ok (.iconst 0, 1) := by decide +kernel
theorem dX6_bits_1 : decode cX6_bits 1 = .ok (.istore_n 1, 1) := by decide +kernel
theorem dX6_bits_2 : decode cX6_bits 2 = .ok (.iconst 0, 1) := by decide +kernel
theorem dX6_bits_3 : decode cX6_bits 3 = .ok (.istore_n 2, 1) := by decide +kernel
theorem dX6_bits_4 : decode cX6_bits 4 = .ok (.iload_n 2, 1) := by decide +kernel
theorem dX6_bits_5 : decode cX6_bits 5 = .ok (.bipush 8, 2) := by decide +kernel
theorem dX6_bits_7 : decode cX6_bits 7 = .ok (.if_icmp .ge 17, 3) := by decide +kernel
theorem dX6_bits_10 : decode cX6_bits 10 = .ok (.iload_n 1, 1) := by decide +kernel
theorem dX6_bits_11 : decode cX6_bits 11 = .ok (.iload_n 0, 1) := by decide +kernel
theorem dX6_bits_12 : decode cX6_bits 12 = .ok (.iload_n 2, 1) := by decide +kernel
theorem dX6_bits_13 : decode cX6_bits 13 = .ok (.ishr, 1) := by decide +kernel
theorem dX6_bits_14 : decode cX6_bits 14 = .ok (.iconst 1, 1) := by decide +kernel
theorem dX6_bits_15 : decode cX6_bits 15 = .ok (.iand, 1) := by decide +kernel
theorem dX6_bits_16 : decode cX6_bits 16 = .ok (.iadd, 1) := by decide +kernel
theorem dX6_bits_17 : decode cX6_bits 17 = .ok (.istore_n 1, 1) := by decide +kernel
theorem dX6_bits_18 : decode cX6_bits 18 = .ok (.iinc 2 1, 3) := by decide +kernel
theorem dX6_bits_21 : decode cX6_bits 21 = .ok (.goto (-17), 3) := by decide +kernel
theorem dX6_bits_24 : decode cX6_bits 24 = .ok (.iload_n 1, 1) := by decide +kernel
theorem dX6_bits_25 : decode cX6_bits 25 = .ok (.ireturn, 1) := by decide +kernel
theorem dX6_snap_0 : decode cX6_snap 0 = .ok (.iload_n 1, 1) := by decide +kernel
theorem dX6_snap_1 : decode cX6_snap 1 = .ok (.invokestatic 126, 3) := by decide +kernel
theorem dX6_snap_4 : decode cX6_snap 4 = .ok (.ifCond .eq 10, 3) := by decide +kernel
theorem dX6_snap_7 : decode cX6_snap 7 = .ok (.iload_n 2, 1) := by decide +kernel
theorem dX6_snap_8 : decode cX6_snap 8 = .ok (.invokestatic 129, 3) := by decide +kernel
theorem dX6_snap_11 : decode cX6_snap 11 = .ok (.ifCond .ne 6, 3) := by decide +kernel
theorem dX6_snap_14 : decode cX6_snap 14 = .ok (.ldc 132, 2) := by decide +kernel
theorem dX6_snap_16 : decode cX6_snap 16 = .ok (.ireturn, 1) := by decide +kernel
theorem dX6_snap_17 : decode cX6_snap 17 = .ok (.aload_n 0, 1) := by decide +kernel
theorem dX6_snap_18 : decode cX6_snap 18 = .ok (.getfield 7, 3) := by decide +kernel
theorem dX6_snap_21 : decode cX6_snap 21 = .ok (.iload_n 1, 1) := by decide +kernel
theorem dX6_snap_22 : decode cX6_snap 22 = .ok (.iconst 1, 1) := by decide +kernel
theorem dX6_snap_23 : decode cX6_snap 23 = .ok (.invokestatic 47, 3) := by decide +kernel
theorem dX6_snap_26 : decode cX6_snap 26 = .ok (.iaload, 1) := by decide +kernel
theorem dX6_snap_27 : decode cX6_snap 27 = .ok (.iload_n 2, 1) := by decide +kernel
theorem dX6_snap_28 : decode cX6_snap 28 = .ok (.invokestatic 43, 3) := by decide +kernel
theorem dX6_snap_31 : decode cX6_snap 31 = .ok (.ifCond .eq 6, 3) := by decide +kernel
theorem dX6_snap_34 : decode cX6_snap 34 = .ok (.ldc 133, 2) := by decide +kernel
theorem dX6_snap_36 : decode cX6_snap 36 = .ok (.ireturn, 1) := by decide +kernel
theorem dX6_snap_37 : decode cX6_snap 37 = .ok (.aload_n 0, 1) := by decide +kernel
theorem dX6_snap_38 : decode cX6_snap 38 = .ok (.invokevirtual 113, 3) := by decide +kernel
theorem dX6_snap_41 : decode cX6_snap 41 = .ok (.aload_n 0, 1) := by decide +kernel
theorem dX6_snap_42 : decode cX6_snap 42 = .ok (.getfield 7, 3) := by decide +kernel
theorem dX6_snap_45 : decode cX6_snap 45 = .ok (.iload_n 1, 1) := by decide +kernel
theorem dX6_snap_46 : decode cX6_snap 46 = .ok (.iconst 1, 1) := by decide +kernel
theorem dX6_snap_47 : decode cX6_snap 47 = .ok (.invokestatic 47, 3) := by decide +kernel
theorem dX6_snap_50 : decode cX6_snap 50 = .ok (.dup2, 1) := by decide +kernel
theorem dX6_snap_51 : decode cX6_snap 51 = .ok (.iaload, 1) := by decide +kernel
theorem dX6_snap_52 : decode cX6_snap 52 = .ok (.iconst 1, 1) := by decide +kernel
theorem dX6_snap_53 : decode cX6_snap 53 = .ok (.iload_n 2, 1) := by decide +kernel
theorem dX6_snap_54 : decode cX6_snap 54 = .ok (.ishl, 1) := by decide +kernel
theorem dX6_snap_55 : decode cX6_snap 55 = .ok (.ior, 1) := by decide +kernel
theorem dX6_snap_56 : decode cX6_snap 56 = .ok (.iastore, 1) := by decide +kernel
theorem dX6_snap_57 : decode cX6_snap 57 = .ok (.aload_n 0, 1) := by decide +kernel
theorem dX6_snap_58 : decode cX6_snap 58 = .ok (.getfield 7, 3) := by decide +kernel
theorem dX6_snap_61 : decode cX6_snap 61 = .ok (.iload_n 1, 1) := by decide +kernel
theorem dX6_snap_62 : decode cX6_snap 62 = .ok (.iconst 1, 1) := by decide +kernel
theorem dX6_snap_63 : decode cX6_snap 63 = .ok (.invokestatic 47, 3) := by decide +kernel
theorem dX6_snap_66 : decode cX6_snap 66 = .ok (.iaload, 1) := by decide +kernel
theorem dX6_snap_67 : decode cX6_snap 67 = .ok (.invokestatic 134, 3) := by decide +kernel
theorem dX6_snap_70 : decode cX6_snap 70 = .ok (.ireturn, 1) := by decide +kernel
theorem dX6_does_0 : decode cX6_does 0 = .ok (.iload_n 3, 1) := by decide +kernel
theorem dX6_does_1 : decode cX6_does 1 = .ok (.invokestatic 129, 3) := by decide +kernel
theorem dX6_does_4 : decode cX6_does 4 = .ok (.ifCond .eq 53, 3) := by decide +kernel
theorem dX6_does_7 : decode cX6_does 7 = .ok (.iload_n 3, 1) := by decide +kernel
theorem dX6_does_8 : decode cX6_does 8 = .ok (.iload_n 2, 1) := by decide +kernel
theorem dX6_does_9 : decode cX6_does 9 = .ok (.iconst 1, 1) := by decide +kernel
theorem dX6_does_10 : decode cX6_does 10 = .ok (.isub, 1) := by decide +kernel
theorem dX6_does_11 : decode cX6_does 11 = .ok (.iload_n 2, 1) := by decide +kernel
theorem dX6_does_12 : decode cX6_does 12 = .ok (.iconst 1, 1) := by decide +kernel
theorem dX6_does_13 : decode cX6_does 13 = .ok (.iadd, 1) := by decide +kernel
theorem dX6_does_14 : decode cX6_does 14 = .ok (.invokestatic 35, 3) := by decide +kernel
theorem dX6_does_17 : decode cX6_does 17 = .ok (.ifCond .eq 40, 3) := by decide +kernel
theorem dX6_does_20 : decode cX6_does 20 = .ok (.aload_n 0, 1) := by decide +kernel
theorem dX6_does_21 : decode cX6_does 21 = .ok (.getfield 7, 3) := by decide +kernel
theorem dX6_does_24 : decode cX6_does 24 = .ok (.iload_n 1, 1) := by decide +kernel
theorem dX6_does_25 : decode cX6_does 25 = .ok (.iconst 1, 1) := by decide +kernel
theorem dX6_does_26 : decode cX6_does 26 = .ok (.invokestatic 47, 3) := by decide +kernel
theorem dX6_does_29 : decode cX6_does 29 = .ok (.iaload, 1) := by decide +kernel
theorem dX6_does_30 : decode cX6_does 30 = .ok (.iload_n 2, 1) := by decide +kernel
theorem dX6_does_31 : decode cX6_does 31 = .ok (.invokestatic 43, 3) := by decide +kernel
theorem dX6_does_34 : decode cX6_does 34 = .ok (.ifCond .eq 23, 3) := by decide +kernel
theorem dX6_does_37 : decode cX6_does 37 = .ok (.aload_n 0, 1) := by decide +kernel
theorem dX6_does_38 : decode cX6_does 38 = .ok (.getfield 7, 3) := by decide +kernel
theorem dX6_does_41 : decode cX6_does 41 = .ok (.iload_n 1, 1) := by decide +kernel
theorem dX6_does_42 : decode cX6_does 42 = .ok (.bipush 6, 2) := by decide +kernel
theorem dX6_does_44 : decode cX6_does 44 = .ok (.iload_n 3, 1) := by decide +kernel
theorem dX6_does_45 : decode cX6_does 45 = .ok (.iadd, 1) := by decide +kernel
theorem dX6_does_46 : decode cX6_does 46 = .ok (.invokestatic 47, 3) := by decide +kernel
theorem dX6_does_49 : decode cX6_does 49 = .ok (.iaload, 1) := by decide +kernel
theorem dX6_does_50 : decode cX6_does 50 = .ok (.ifCond .le 7, 3) := by decide +kernel
theorem dX6_does_53 : decode cX6_does 53 = .ok (.iconst 1, 1) := by decide +kernel
theorem dX6_does_54 : decode cX6_does 54 = .ok (.goto 4, 3) := by decide +kernel
theorem dX6_does_57 : decode cX6_does 57 = .ok (.iconst 0, 1) := by decide +kernel
theorem dX6_does_58 : decode cX6_does 58 = .ok (.ireturn, 1) := by decide +kernel
theorem dX6_fit_0 : decode cX6_fit 0 = .ok (.iload_n 1, 1) := by decide +kernel
theorem dX6_fit_1 : decode cX6_fit 1 = .ok (.invokestatic 126, 3) := by decide +kernel
theorem dX6_fit_4 : decode cX6_fit 4 = .ok (.ifCond .eq 17, 3) := by decide +kernel
theorem dX6_fit_7 : decode cX6_fit 7 = .ok (.iload_n 2, 1) := by decide +kernel
theorem dX6_fit_8 : decode cX6_fit 8 = .ok (.invokestatic 129, 3) := by decide +kernel
theorem dX6_fit_11 : decode cX6_fit 11 = .ok (.ifCond .eq 10, 3) := by decide +kernel
theorem dX6_fit_14 : decode cX6_fit 14 = .ok (.iload_n 3, 1) := by decide +kernel
theorem dX6_fit_15 : decode cX6_fit 15 = .ok (.invokestatic 129, 3) := by decide +kernel
theorem dX6_fit_18 : decode cX6_fit 18 = .ok (.ifCond .ne 6, 3) := by decide +kernel
theorem dX6_fit_21 : decode cX6_fit 21 = .ok (.ldc 132, 2) := by decide +kernel
theorem dX6_fit_23 : decode cX6_fit 23 = .ok (.ireturn, 1) := by decide +kernel
theorem dX6_fit_24 : decode cX6_fit 24 = .ok (.aload_n 0, 1) := by decide +kernel
theorem dX6_fit_25 : decode cX6_fit 25 = .ok (.iload_n 1, 1) := by decide +kernel
theorem dX6_fit_26 : decode cX6_fit 26 = .ok (.iload_n 2, 1) := by decide +kernel
theorem dX6_fit_27 : decode cX6_fit 27 = .ok (.iload_n 3, 1) := by decide +kernel
theorem dX6_fit_28 : decode cX6_fit 28 = .ok (.invokevirtual 137, 3) := by decide +kernel
theorem dX6_fit_31 : decode cX6_fit 31 = .ok (.ifCond .ne 6, 3) := by decide +kernel
theorem dX6_fit_34 : decode cX6_fit 34 = .ok (.ldc 133, 2) := by decide +kernel
theorem dX6_fit_36 : decode cX6_fit 36 = .ok (.ireturn, 1) := by decide +kernel
theorem dX6_fit_37 : decode cX6_fit 37 = .ok (.aload_n 0, 1) := by decide +kernel
theorem dX6_fit_38 : decode cX6_fit 38 = .ok (.invokevirtual 113, 3) := by decide +kernel
theorem dX6_fit_41 : decode cX6_fit 41 = .ok (.aload_n 0, 1) := by decide +kernel
theorem dX6_fit_42 : decode cX6_fit 42 = .ok (.getfield 7, 3) := by decide +kernel
theorem dX6_fit_45 : decode cX6_fit 45 = .ok (.iload_n 1, 1) := by decide +kernel
theorem dX6_fit_46 : decode cX6_fit 46 = .ok (.iconst 1, 1) := by decide +kernel
theorem dX6_fit_47 : decode cX6_fit 47 = .ok (.invokestatic 47, 3) := by decide +kernel
theorem dX6_fit_50 : decode cX6_fit 50 = .ok (.dup2, 1) := by decide +kernel
theorem dX6_fit_51 : decode cX6_fit 51 = .ok (.iaload, 1) := by decide +kernel
theorem dX6_fit_52 : decode cX6_fit 52 = .ok (.iconst 1, 1) := by decide +kernel
theorem dX6_fit_53 : decode cX6_fit 53 = .ok (.iload_n 2, 1) := by decide +kernel
theorem dX6_fit_54 : decode cX6_fit 54 = .ok (.ishl, 1) := by decide +kernel
theorem dX6_fit_55 : decode cX6_fit 55 = .ok (.ixor, 1) := by decide +kernel
theorem dX6_fit_56 : decode cX6_fit 56 = .ok (.iastore, 1) := by decide +kernel
theorem dX6_fit_57 : decode cX6_fit 57 = .ok (.aload_n 0, 1) := by decide +kernel
theorem dX6_fit_58 : decode cX6_fit 58 = .ok (.getfield 7, 3) := by decide +kernel
theorem dX6_fit_61 : decode cX6_fit 61 = .ok (.iload_n 1, 1) := by decide +kernel
theorem dX6_fit_62 : decode cX6_fit 62 = .ok (.bipush 6, 2) := by decide +kernel
theorem dX6_fit_64 : decode cX6_fit 64 = .ok (.iload_n 3, 1) := by decide +kernel
theorem dX6_fit_65 : decode cX6_fit 65 = .ok (.iadd, 1) := by decide +kernel
theorem dX6_fit_66 : decode cX6_fit 66 = .ok (.invokestatic 47, 3) := by decide +kernel
theorem dX6_fit_69 : decode cX6_fit 69 = .ok (.dup2, 1) := by decide +kernel
theorem dX6_fit_70 : decode cX6_fit 70 = .ok (.iaload, 1) := by decide +kernel
theorem dX6_fit_71 : decode cX6_fit 71 = .ok (.iconst 1, 1) := by decide +kernel
theorem dX6_fit_72 : decode cX6_fit 72 = .ok (.isub, 1) := by decide +kernel
theorem dX6_fit_73 : decode cX6_fit 73 = .ok (.iastore, 1) := by decide +kernel
theorem dX6_fit_74 : decode cX6_fit 74 = .ok (.aload_n 0, 1) := by decide +kernel
theorem dX6_fit_75 : decode cX6_fit 75 = .ok (.getfield 7, 3) := by decide +kernel
theorem dX6_fit_78 : decode cX6_fit 78 = .ok (.iload_n 1, 1) := by decide +kernel
theorem dX6_fit_79 : decode cX6_fit 79 = .ok (.bipush 6, 2) := by decide +kernel
theorem dX6_fit_81 : decode cX6_fit 81 = .ok (.iload_n 3, 1) := by decide +kernel
theorem dX6_fit_82 : decode cX6_fit 82 = .ok (.iadd, 1) := by decide +kernel
theorem dX6_fit_83 : decode cX6_fit 83 = .ok (.invokestatic 47, 3) := by decide +kernel
theorem dX6_fit_86 : decode cX6_fit 86 = .ok (.iaload, 1) := by decide +kernel
theorem dX6_fit_87 : decode cX6_fit 87 = .ok (.ireturn, 1) := by decide +kernel
theorem dX6_want_0 : decode cX6_want 0 = .ok (.iload_n 1, 1) := by decide +kernel
theorem dX6_want_1 : decode cX6_want 1 = .ok (.invokestatic 126, 3) := by decide +kernel
theorem dX6_want_4 : decode cX6_want 4 = .ok (.ifCond .eq 10, 3) := by decide +kernel
theorem dX6_want_7 : decode cX6_want 7 = .ok (.iload_n 2, 1) := by decide +kernel
theorem dX6_want_8 : decode cX6_want 8 = .ok (.invokestatic 129, 3) := by decide +kernel
theorem dX6_want_11 : decode cX6_want 11 = .ok (.ifCond .ne 6, 3) := by decide +kernel
theorem dX6_want_14 : decode cX6_want 14 = .ok (.ldc 132, 2) := by decide +kernel
theorem dX6_want_16 : decode cX6_want 16 = .ok (.ireturn, 1) := by decide +kernel
theorem dX6_want_17 : decode cX6_want 17 = .ok (.iload_n 3, 1) := by decide +kernel
theorem dX6_want_18 : decode cX6_want 18 = .ok (.iconst 0, 1) := by decide +kernel
theorem dX6_want_19 : decode cX6_want 19 = .ok (.bipush 20, 2) := by decide +kernel
theorem dX6_want_21 : decode cX6_want 21 = .ok (.invokestatic 35, 3) := by decide +kernel
theorem dX6_want_24 : decode cX6_want 24 = .ok (.ifCond .ne 6, 3) := by decide +kernel
theorem dX6_want_27 : decode cX6_want 27 = .ok (.ldc 125, 2) := by decide +kernel
theorem dX6_want_29 : decode cX6_want 29 = .ok (.ireturn, 1) := by decide +kernel
theorem dX6_want_30 : decode cX6_want 30 = .ok (.aload_n 0, 1) := by decide +kernel
theorem dX6_want_31 : decode cX6_want 31 = .ok (.iload_n 1, 1) := by decide +kernel
theorem dX6_want_32 : decode cX6_want 32 = .ok (.bipush 14, 2) := by decide +kernel
theorem dX6_want_34 : decode cX6_want 34 = .ok (.iload_n 2, 1) := by decide +kernel
theorem dX6_want_35 : decode cX6_want 35 = .ok (.iadd, 1) := by decide +kernel
theorem dX6_want_36 : decode cX6_want 36 = .ok (.invokestatic 47, 3) := by decide +kernel
theorem dX6_want_39 : decode cX6_want 39 = .ok (.iload_n 3, 1) := by decide +kernel
theorem dX6_want_40 : decode cX6_want 40 = .ok (.invokevirtual 122, 3) := by decide +kernel
theorem dX6_want_43 : decode cX6_want 43 = .ok (.istore 4, 2) := by decide +kernel
theorem dX6_want_45 : decode cX6_want 45 = .ok (.aload_n 0, 1) := by decide +kernel
theorem dX6_want_46 : decode cX6_want 46 = .ok (.bipush 63, 2) := by decide +kernel
theorem dX6_want_48 : decode cX6_want 48 = .ok (.invokevirtual 140, 3) := by decide +kernel
theorem dX6_want_51 : decode cX6_want 51 = .ok (.ireturn, 1) := by decide +kernel
theorem dX6_pay_0 : decode cX6_pay 0 = .ok (.iload_n 1, 1) := by decide +kernel
theorem dX6_pay_1 : decode cX6_pay 1 = .ok (.invokestatic 126, 3) := by decide +kernel
theorem dX6_pay_4 : decode cX6_pay 4 = .ok (.ifCond .ne 6, 3) := by decide +kernel
theorem dX6_pay_7 : decode cX6_pay 7 = .ok (.ldc 132, 2) := by decide +kernel
theorem dX6_pay_9 : decode cX6_pay 9 = .ok (.ireturn, 1) := by decide +kernel
theorem dX6_pay_10 : decode cX6_pay 10 = .ok (.iload_n 2, 1) := by decide +kernel
theorem dX6_pay_11 : decode cX6_pay 11 = .ok (.iconst 1, 1) := by decide +kernel
theorem dX6_pay_12 : decode cX6_pay 12 = .ok (.sipush 1000, 3) := by decide +kernel
theorem dX6_pay_15 : decode cX6_pay 15 = .ok (.invokestatic 35, 3) := by decide +kernel
theorem dX6_pay_18 : decode cX6_pay 18 = .ok (.ifCond .eq 29, 3) := by decide +kernel
theorem dX6_pay_21 : decode cX6_pay 21 = .ok (.aload_n 0, 1) := by decide +kernel
theorem dX6_pay_22 : decode cX6_pay 22 = .ok (.iload_n 1, 1) := by decide +kernel
theorem dX6_pay_23 : decode cX6_pay 23 = .ok (.iconst 0, 1) := by decide +kernel
theorem dX6_pay_24 : decode cX6_pay 24 = .ok (.invokestatic 47, 3) := by decide +kernel
theorem dX6_pay_27 : decode cX6_pay 27 = .ok (.aload_n 0, 1) := by decide +kernel
theorem dX6_pay_28 : decode cX6_pay 28 = .ok (.getfield 7, 3) := by decide +kernel
theorem dX6_pay_31 : decode cX6_pay 31 = .ok (.iload_n 1, 1) := by decide +kernel
theorem dX6_pay_32 : decode cX6_pay 32 = .ok (.iconst 0, 1) := by decide +kernel
theorem dX6_pay_33 : decode cX6_pay 33 = .ok (.invokestatic 47, 3) := by decide +kernel
theorem dX6_pay_36 : decode cX6_pay 36 = .ok (.iaload, 1) := by decide +kernel
theorem dX6_pay_37 : decode cX6_pay 37 = .ok (.iload_n 2, 1) := by decide +kernel
theorem dX6_pay_38 : decode cX6_pay 38 = .ok (.iadd, 1) := by decide +kernel
theorem dX6_pay_39 : decode cX6_pay 39 = .ok (.invokevirtual 122, 3) := by decide +kernel
theorem dX6_pay_42 : decode cX6_pay 42 = .ok (.iload_n 2, 1) := by decide +kernel
theorem dX6_pay_43 : decode cX6_pay 43 = .ok (.iadd, 1) := by decide +kernel
theorem dX6_pay_44 : decode cX6_pay 44 = .ok (.goto 5, 3) := by decide +kernel
theorem dX6_pay_47 : decode cX6_pay 47 = .ok (.ldc 125, 2) := by decide +kernel
theorem dX6_pay_49 : decode cX6_pay 49 = .ok (.ireturn, 1) := by decide +kernel
theorem dX6_give_0 : decode cX6_give 0 = .ok (.iload_n 1, 1) := by decide +kernel
theorem dX6_give_1 : decode cX6_give 1 = .ok (.invokestatic 126, 3) := by decide +kernel
theorem dX6_give_4 : decode cX6_give 4 = .ok (.ifCond .eq 17, 3) := by decide +kernel
theorem dX6_give_7 : decode cX6_give 7 = .ok (.iload_n 2, 1) := by decide +kernel
theorem dX6_give_8 : decode cX6_give 8 = .ok (.invokestatic 126, 3) := by decide +kernel
theorem dX6_give_11 : decode cX6_give 11 = .ok (.ifCond .eq 10, 3) := by decide +kernel
theorem dX6_give_14 : decode cX6_give 14 = .ok (.iload_n 3, 1) := by decide +kernel
theorem dX6_give_15 : decode cX6_give 15 = .ok (.invokestatic 129, 3) := by decide +kernel
theorem dX6_give_18 : decode cX6_give 18 = .ok (.ifCond .ne 6, 3) := by decide +kernel
theorem dX6_give_21 : decode cX6_give 21 = .ok (.ldc 132, 2) := by decide +kernel
theorem dX6_give_23 : decode cX6_give 23 = .ok (.ireturn, 1) := by decide +kernel
theorem dX6_give_24 : decode cX6_give 24 = .ok (.iload_n 1, 1) := by decide +kernel
theorem dX6_give_25 : decode cX6_give 25 = .ok (.iload_n 2, 1) := by decide +kernel
theorem dX6_give_26 : decode cX6_give 26 = .ok (.if_icmp .eq 14, 3) := by decide +kernel
theorem dX6_give_29 : decode cX6_give 29 = .ok (.iload 4, 2) := by decide +kernel
theorem dX6_give_31 : decode cX6_give 31 = .ok (.iconst 1, 1) := by decide +kernel
theorem dX6_give_32 : decode cX6_give 32 = .ok (.bipush 20, 2) := by decide +kernel
theorem dX6_give_34 : decode cX6_give 34 = .ok (.invokestatic 35, 3) := by decide +kernel
theorem dX6_give_37 : decode cX6_give 37 = .ok (.ifCond .ne 6, 3) := by decide +kernel
theorem dX6_give_40 : decode cX6_give 40 = .ok (.ldc 125, 2) := by decide +kernel
theorem dX6_give_42 : decode cX6_give 42 = .ok (.ireturn, 1) := by decide +kernel
theorem dX6_give_43 : decode cX6_give 43 = .ok (.aload_n 0, 1) := by decide +kernel
theorem dX6_give_44 : decode cX6_give 44 = .ok (.getfield 7, 3) := by decide +kernel
theorem dX6_give_47 : decode cX6_give 47 = .ok (.iload_n 1, 1) := by decide +kernel
theorem dX6_give_48 : decode cX6_give 48 = .ok (.bipush 6, 2) := by decide +kernel
theorem dX6_give_50 : decode cX6_give 50 = .ok (.iload_n 3, 1) := by decide +kernel
theorem dX6_give_51 : decode cX6_give 51 = .ok (.iadd, 1) := by decide +kernel
theorem dX6_give_52 : decode cX6_give 52 = .ok (.invokestatic 47, 3) := by decide +kernel
theorem dX6_give_55 : decode cX6_give 55 = .ok (.iaload, 1) := by decide +kernel
theorem dX6_give_56 : decode cX6_give 56 = .ok (.iload 4, 2) := by decide +kernel
theorem dX6_give_58 : decode cX6_give 58 = .ok (.if_icmp .lt 24, 3) := by decide +kernel
theorem dX6_give_61 : decode cX6_give 61 = .ok (.aload_n 0, 1) := by decide +kernel
theorem dX6_give_62 : decode cX6_give 62 = .ok (.getfield 7, 3) := by decide +kernel
theorem dX6_give_65 : decode cX6_give 65 = .ok (.iload_n 2, 1) := by decide +kernel
theorem dX6_give_66 : decode cX6_give 66 = .ok (.bipush 6, 2) := by decide +kernel
theorem dX6_give_68 : decode cX6_give 68 = .ok (.iload_n 3, 1) := by decide +kernel
theorem dX6_give_69 : decode cX6_give 69 = .ok (.iadd, 1) := by decide +kernel
theorem dX6_give_70 : decode cX6_give 70 = .ok (.invokestatic 47, 3) := by decide +kernel
theorem dX6_give_73 : decode cX6_give 73 = .ok (.iaload, 1) := by decide +kernel
theorem dX6_give_74 : decode cX6_give 74 = .ok (.iload 4, 2) := by decide +kernel
theorem dX6_give_76 : decode cX6_give 76 = .ok (.iadd, 1) := by decide +kernel
theorem dX6_give_77 : decode cX6_give 77 = .ok (.bipush 99, 2) := by decide +kernel
theorem dX6_give_79 : decode cX6_give 79 = .ok (.if_icmp .le 6, 3) := by decide +kernel
theorem dX6_give_82 : decode cX6_give 82 = .ok (.ldc 133, 2) := by decide +kernel
theorem dX6_give_84 : decode cX6_give 84 = .ok (.ireturn, 1) := by decide +kernel
theorem dX6_give_85 : decode cX6_give 85 = .ok (.aload_n 0, 1) := by decide +kernel
theorem dX6_give_86 : decode cX6_give 86 = .ok (.invokevirtual 113, 3) := by decide +kernel
theorem dX6_give_89 : decode cX6_give 89 = .ok (.aload_n 0, 1) := by decide +kernel
theorem dX6_give_90 : decode cX6_give 90 = .ok (.getfield 7, 3) := by decide +kernel
theorem dX6_give_93 : decode cX6_give 93 = .ok (.iload_n 1, 1) := by decide +kernel
theorem dX6_give_94 : decode cX6_give 94 = .ok (.bipush 6, 2) := by decide +kernel
theorem dX6_give_96 : decode cX6_give 96 = .ok (.iload_n 3, 1) := by decide +kernel
theorem dX6_give_97 : decode cX6_give 97 = .ok (.iadd, 1) := by decide +kernel
theorem dX6_give_98 : decode cX6_give 98 = .ok (.invokestatic 47, 3) := by decide +kernel
theorem dX6_give_101 : decode cX6_give 101 = .ok (.dup2, 1) := by decide +kernel
theorem dX6_give_102 : decode cX6_give 102 = .ok (.iaload, 1) := by decide +kernel
theorem dX6_give_103 : decode cX6_give 103 = .ok (.iload 4, 2) := by decide +kernel
theorem dX6_give_105 : decode cX6_give 105 = .ok (.isub, 1) := by decide +kernel
theorem dX6_give_106 : decode cX6_give 106 = .ok (.iastore, 1) := by decide +kernel
theorem dX6_give_107 : decode cX6_give 107 = .ok (.aload_n 0, 1) := by decide +kernel
theorem dX6_give_108 : decode cX6_give 108 = .ok (.getfield 7, 3) := by decide +kernel
theorem dX6_give_111 : decode cX6_give 111 = .ok (.iload_n 2, 1) := by decide +kernel
theorem dX6_give_112 : decode cX6_give 112 = .ok (.bipush 6, 2) := by decide +kernel
theorem dX6_give_114 : decode cX6_give 114 = .ok (.iload_n 3, 1) := by decide +kernel
theorem dX6_give_115 : decode cX6_give 115 = .ok (.iadd, 1) := by decide +kernel
theorem dX6_give_116 : decode cX6_give 116 = .ok (.invokestatic 47, 3) := by decide +kernel
theorem dX6_give_119 : decode cX6_give 119 = .ok (.dup2, 1) := by decide +kernel
theorem dX6_give_120 : decode cX6_give 120 = .ok (.iaload, 1) := by decide +kernel
theorem dX6_give_121 : decode cX6_give 121 = .ok (.iload 4, 2) := by decide +kernel
theorem dX6_give_123 : decode cX6_give 123 = .ok (.iadd, 1) := by decide +kernel
theorem dX6_give_124 : decode cX6_give 124 = .ok (.iastore, 1) := by decide +kernel
theorem dX6_give_125 : decode cX6_give 125 = .ok (.aload_n 0, 1) := by decide +kernel
theorem dX6_give_126 : decode cX6_give 126 = .ok (.getfield 7, 3) := by decide +kernel
theorem dX6_give_129 : decode cX6_give 129 = .ok (.iload_n 1, 1) := by decide +kernel
theorem dX6_give_130 : decode cX6_give 130 = .ok (.iconst 0, 1) := by decide +kernel
theorem dX6_give_131 : decode cX6_give 131 = .ok (.invokestatic 47, 3) := by decide +kernel
theorem dX6_give_134 : decode cX6_give 134 = .ok (.dup2, 1) := by decide +kernel
theorem dX6_give_135 : decode cX6_give 135 = .ok (.iaload, 1) := by decide +kernel
theorem dX6_give_136 : decode cX6_give 136 = .ok (.iload 4, 2) := by decide +kernel
theorem dX6_give_138 : decode cX6_give 138 = .ok (.iload_n 3, 1) := by decide +kernel
theorem dX6_give_139 : decode cX6_give 139 = .ok (.invokestatic 54, 3) := by decide +kernel
theorem dX6_give_142 : decode cX6_give 142 = .ok (.imul, 1) := by decide +kernel
theorem dX6_give_143 : decode cX6_give 143 = .ok (.iadd, 1) := by decide +kernel
theorem dX6_give_144 : decode cX6_give 144 = .ok (.iastore, 1) := by decide +kernel
theorem dX6_give_145 : decode cX6_give 145 = .ok (.aload_n 0, 1) := by decide +kernel
theorem dX6_give_146 : decode cX6_give 146 = .ok (.getfield 7, 3) := by decide +kernel
theorem dX6_give_149 : decode cX6_give 149 = .ok (.iload_n 2, 1) := by decide +kernel
theorem dX6_give_150 : decode cX6_give 150 = .ok (.iconst 0, 1) := by decide +kernel
theorem dX6_give_151 : decode cX6_give 151 = .ok (.invokestatic 47, 3) := by decide +kernel
theorem dX6_give_154 : decode cX6_give 154 = .ok (.dup2, 1) := by decide +kernel
theorem dX6_give_155 : decode cX6_give 155 = .ok (.iaload, 1) := by decide +kernel
theorem dX6_give_156 : decode cX6_give 156 = .ok (.iload 4, 2) := by decide +kernel
theorem dX6_give_158 : decode cX6_give 158 = .ok (.iload_n 3, 1) := by decide +kernel
theorem dX6_give_159 : decode cX6_give 159 = .ok (.invokestatic 54, 3) := by decide +kernel
theorem dX6_give_162 : decode cX6_give 162 = .ok (.imul, 1) := by decide +kernel
theorem dX6_give_163 : decode cX6_give 163 = .ok (.isub, 1) := by decide +kernel
theorem dX6_give_164 : decode cX6_give 164 = .ok (.iastore, 1) := by decide +kernel
theorem dX6_give_165 : decode cX6_give 165 = .ok (.aload_n 0, 1) := by decide +kernel
theorem dX6_give_166 : decode cX6_give 166 = .ok (.getfield 7, 3) := by decide +kernel
theorem dX6_give_169 : decode cX6_give 169 = .ok (.iload_n 1, 1) := by decide +kernel
theorem dX6_give_170 : decode cX6_give 170 = .ok (.iconst 0, 1) := by decide +kernel
theorem dX6_give_171 : decode cX6_give 171 = .ok (.invokestatic 47, 3) := by decide +kernel
theorem dX6_give_174 : decode cX6_give 174 = .ok (.iaload, 1) := by decide +kernel
theorem dX6_give_175 : decode cX6_give 175 = .ok (.ireturn, 1) := by decide +kernel
theorem dX6_sends_0 : decode cX6_sends 0 = .ok (.aload_n 0, 1) := by decide +kernel
theorem dX6_sends_1 : decode cX6_sends 1 = .ok (.getfield 7, 3) := by decide +kernel
theorem dX6_sends_4 : decode cX6_sends 4 = .ok (.bipush 14, 2) := by decide +kernel
theorem dX6_sends_6 : decode cX6_sends 6 = .ok (.iaload, 1) := by decide +kernel
theorem dX6_sends_7 : decode cX6_sends 7 = .ok (.istore_n 2, 1) := by decide +kernel
theorem dX6_sends_8 : decode cX6_sends 8 = .ok (.aload_n 0, 1) := by decide +kernel
theorem dX6_sends_9 : decode cX6_sends 9 = .ok (.getfield 7, 3) := by decide +kernel
theorem dX6_sends_12 : decode cX6_sends 12 = .ok (.iload_n 2, 1) := by decide +kernel
theorem dX6_sends_13 : decode cX6_sends 13 = .ok (.iconst 0, 1) := by decide +kernel
theorem dX6_sends_14 : decode cX6_sends 14 = .ok (.invokestatic 84, 3) := by decide +kernel
theorem dX6_sends_17 : decode cX6_sends 17 = .ok (.aload_n 0, 1) := by decide +kernel
theorem dX6_sends_18 : decode cX6_sends 18 = .ok (.iload_n 1, 1) := by decide +kernel
theorem dX6_sends_19 : decode cX6_sends 19 = .ok (.invokevirtual 67, 3) := by decide +kernel
theorem dX6_sends_22 : decode cX6_sends 22 = .ok (.iastore, 1) := by decide +kernel
theorem dX6_sends_23 : decode cX6_sends 23 = .ok (.aload_n 0, 1) := by decide +kernel
theorem dX6_sends_24 : decode cX6_sends 24 = .ok (.getfield 7, 3) := by decide +kernel
theorem dX6_sends_27 : decode cX6_sends 27 = .ok (.iload_n 2, 1) := by decide +kernel
theorem dX6_sends_28 : decode cX6_sends 28 = .ok (.iconst 1, 1) := by decide +kernel
theorem dX6_sends_29 : decode cX6_sends 29 = .ok (.invokestatic 84, 3) := by decide +kernel
theorem dX6_sends_32 : decode cX6_sends 32 = .ok (.aload_n 0, 1) := by decide +kernel
theorem dX6_sends_33 : decode cX6_sends 33 = .ok (.getfield 7, 3) := by decide +kernel
theorem dX6_sends_36 : decode cX6_sends 36 = .ok (.bipush 9, 2) := by decide +kernel
theorem dX6_sends_38 : decode cX6_sends 38 = .ok (.iaload, 1) := by decide +kernel
theorem dX6_sends_39 : decode cX6_sends 39 = .ok (.aload_n 0, 1) := by decide +kernel
theorem dX6_sends_40 : decode cX6_sends 40 = .ok (.getfield 7, 3) := by decide +kernel
theorem dX6_sends_43 : decode cX6_sends 43 = .ok (.iconst 3, 1) := by decide +kernel
theorem dX6_sends_44 : decode cX6_sends 44 = .ok (.iaload, 1) := by decide +kernel
theorem dX6_sends_45 : decode cX6_sends 45 = .ok (.iadd, 1) := by decide +kernel
theorem dX6_sends_46 : decode cX6_sends 46 = .ok (.iastore, 1) := by decide +kernel
theorem dX6_sends_47 : decode cX6_sends 47 = .ok (.aload_n 0, 1) := by decide +kernel
theorem dX6_sends_48 : decode cX6_sends 48 = .ok (.getfield 7, 3) := by decide +kernel
theorem dX6_sends_51 : decode cX6_sends 51 = .ok (.iload_n 2, 1) := by decide +kernel
theorem dX6_sends_52 : decode cX6_sends 52 = .ok (.iconst 2, 1) := by decide +kernel
theorem dX6_sends_53 : decode cX6_sends 53 = .ok (.invokestatic 84, 3) := by decide +kernel
theorem dX6_sends_56 : decode cX6_sends 56 = .ok (.iconst 0, 1) := by decide +kernel
theorem dX6_sends_57 : decode cX6_sends 57 = .ok (.iastore, 1) := by decide +kernel
theorem dX6_sends_58 : decode cX6_sends 58 = .ok (.aload_n 0, 1) := by decide +kernel
theorem dX6_sends_59 : decode cX6_sends 59 = .ok (.iload_n 1, 1) := by decide +kernel
theorem dX6_sends_60 : decode cX6_sends 60 = .ok (.invokevirtual 143, 3) := by decide +kernel
theorem dX6_sends_63 : decode cX6_sends 63 = .ok (.iconst 0, 1) := by decide +kernel
theorem dX6_sends_64 : decode cX6_sends 64 = .ok (.istore_n 3, 1) := by decide +kernel
theorem dX6_sends_65 : decode cX6_sends 65 = .ok (.iload_n 3, 1) := by decide +kernel
theorem dX6_sends_66 : decode cX6_sends 66 = .ok (.bipush 6, 2) := by decide +kernel
theorem dX6_sends_68 : decode cX6_sends 68 = .ok (.if_icmp .ge 73, 3) := by decide +kernel
theorem dX6_sends_71 : decode cX6_sends 71 = .ok (.aload_n 0, 1) := by decide +kernel
theorem dX6_sends_72 : decode cX6_sends 72 = .ok (.iload_n 1, 1) := by decide +kernel
theorem dX6_sends_73 : decode cX6_sends 73 = .ok (.iload_n 3, 1) := by decide +kernel
theorem dX6_sends_74 : decode cX6_sends 74 = .ok (.invokevirtual 146, 3) := by decide +kernel
theorem dX6_sends_77 : decode cX6_sends 77 = .ok (.istore 4, 2) := by decide +kernel
theorem dX6_sends_79 : decode cX6_sends 79 = .ok (.aload_n 0, 1) := by decide +kernel
theorem dX6_sends_80 : decode cX6_sends 80 = .ok (.getfield 7, 3) := by decide +kernel
theorem dX6_sends_83 : decode cX6_sends 83 = .ok (.iload_n 3, 1) := by decide +kernel
theorem dX6_sends_84 : decode cX6_sends 84 = .ok (.iconst 0, 1) := by decide +kernel
theorem dX6_sends_85 : decode cX6_sends 85 = .ok (.invokestatic 47, 3) := by decide +kernel
theorem dX6_sends_88 : decode cX6_sends 88 = .ok (.dup2, 1) := by decide +kernel
theorem dX6_sends_89 : decode cX6_sends 89 = .ok (.iaload, 1) := by decide +kernel
theorem dX6_sends_90 : decode cX6_sends 90 = .ok (.iload 4, 2) := by decide +kernel
theorem dX6_sends_92 : decode cX6_sends 92 = .ok (.aload_n 0, 1) := by decide +kernel
theorem dX6_sends_93 : decode cX6_sends 93 = .ok (.getfield 32, 3) := by decide +kernel
theorem dX6_sends_96 : decode cX6_sends 96 = .ok (.iload_n 3, 1) := by decide +kernel
theorem dX6_sends_97 : decode cX6_sends 97 = .ok (.iaload, 1) := by decide +kernel
theorem dX6_sends_98 : decode cX6_sends 98 = .ok (.iadd, 1) := by decide +kernel
theorem dX6_sends_99 : decode cX6_sends 99 = .ok (.isub, 1) := by decide +kernel
theorem dX6_sends_100 : decode cX6_sends 100 = .ok (.iastore, 1) := by decide +kernel
theorem dX6_sends_101 : decode cX6_sends 101 = .ok (.aload_n 0, 1) := by decide +kernel
theorem dX6_sends_102 : decode cX6_sends 102 = .ok (.getfield 7, 3) := by decide +kernel
theorem dX6_sends_105 : decode cX6_sends 105 = .ok (.iload_n 3, 1) := by decide +kernel
theorem dX6_sends_106 : decode cX6_sends 106 = .ok (.iconst 2, 1) := by decide +kernel
theorem dX6_sends_107 : decode cX6_sends 107 = .ok (.invokestatic 47, 3) := by decide +kernel
theorem dX6_sends_110 : decode cX6_sends 110 = .ok (.dup2, 1) := by decide +kernel
theorem dX6_sends_111 : decode cX6_sends 111 = .ok (.iaload, 1) := by decide +kernel
theorem dX6_sends_112 : decode cX6_sends 112 = .ok (.iload 4, 2) := by decide +kernel
theorem dX6_sends_114 : decode cX6_sends 114 = .ok (.iadd, 1) := by decide +kernel
theorem dX6_sends_115 : decode cX6_sends 115 = .ok (.iastore, 1) := by decide +kernel
theorem dX6_sends_116 : decode cX6_sends 116 = .ok (.aload_n 0, 1) := by decide +kernel
theorem dX6_sends_117 : decode cX6_sends 117 = .ok (.getfield 7, 3) := by decide +kernel
theorem dX6_sends_120 : decode cX6_sends 120 = .ok (.iload_n 3, 1) := by decide +kernel
theorem dX6_sends_121 : decode cX6_sends 121 = .ok (.iconst 3, 1) := by decide +kernel
theorem dX6_sends_122 : decode cX6_sends 122 = .ok (.invokestatic 47, 3) := by decide +kernel
theorem dX6_sends_125 : decode cX6_sends 125 = .ok (.dup2, 1) := by decide +kernel
theorem dX6_sends_126 : decode cX6_sends 126 = .ok (.iaload, 1) := by decide +kernel
theorem dX6_sends_127 : decode cX6_sends 127 = .ok (.aload_n 0, 1) := by decide +kernel
theorem dX6_sends_128 : decode cX6_sends 128 = .ok (.getfield 32, 3) := by decide +kernel
theorem dX6_sends_131 : decode cX6_sends 131 = .ok (.iload_n 3, 1) := by decide +kernel
theorem dX6_sends_132 : decode cX6_sends 132 = .ok (.iaload, 1) := by decide +kernel
theorem dX6_sends_133 : decode cX6_sends 133 = .ok (.iadd, 1) := by decide +kernel
theorem dX6_sends_134 : decode cX6_sends 134 = .ok (.iastore, 1) := by decide +kernel
theorem dX6_sends_135 : decode cX6_sends 135 = .ok (.iinc 3 1, 3) := by decide +kernel
theorem dX6_sends_138 : decode cX6_sends 138 = .ok (.goto (-73), 3) := by decide +kernel
theorem dX6_sends_141 : decode cX6_sends 141 = .ok (.iconst 0, 1) := by decide +kernel
theorem dX6_sends_142 : decode cX6_sends 142 = .ok (.istore_n 3, 1) := by decide +kernel
theorem dX6_sends_143 : decode cX6_sends 143 = .ok (.iload_n 3, 1) := by decide +kernel
theorem dX6_sends_144 : decode cX6_sends 144 = .ok (.bipush 48, 2) := by decide +kernel
theorem dX6_sends_146 : decode cX6_sends 146 = .ok (.if_icmp .ge 104, 3) := by decide +kernel
theorem dX6_sends_149 : decode cX6_sends 149 = .ok (.iload_n 3, 1) := by decide +kernel
theorem dX6_sends_150 : decode cX6_sends 150 = .ok (.bipush 8, 2) := by decide +kernel
theorem dX6_sends_152 : decode cX6_sends 152 = .ok (.idiv, 1) := by decide +kernel
theorem dX6_sends_153 : decode cX6_sends 153 = .ok (.istore 4, 2) := by decide +kernel
theorem dX6_sends_155 : decode cX6_sends 155 = .ok (.iload_n 1, 1) := by decide +kernel
theorem dX6_sends_156 : decode cX6_sends 156 = .ok (.iload 4, 2) := by decide +kernel
theorem dX6_sends_158 : decode cX6_sends 158 = .ok (.invokestatic 43, 3) := by decide +kernel
theorem dX6_sends_161 : decode cX6_sends 161 = .ok (.istore 5, 2) := by decide +kernel
theorem dX6_sends_163 : decode cX6_sends 163 = .ok (.aload_n 0, 1) := by decide +kernel
theorem dX6_sends_164 : decode cX6_sends 164 = .ok (.getfield 7, 3) := by decide +kernel
theorem dX6_sends_167 : decode cX6_sends 167 = .ok (.iload_n 2, 1) := by decide +kernel
theorem dX6_sends_168 : decode cX6_sends 168 = .ok (.iconst 3, 1) := by decide +kernel
theorem dX6_sends_169 : decode cX6_sends 169 = .ok (.iload_n 3, 1) := by decide +kernel
theorem dX6_sends_170 : decode cX6_sends 170 = .ok (.iadd, 1) := by decide +kernel
theorem dX6_sends_171 : decode cX6_sends 171 = .ok (.invokestatic 84, 3) := by decide +kernel
theorem dX6_sends_174 : decode cX6_sends 174 = .ok (.iload 5, 2) := by decide +kernel
theorem dX6_sends_176 : decode cX6_sends 176 = .ok (.ifCond .eq 23, 3) := by decide +kernel
theorem dX6_sends_179 : decode cX6_sends 179 = .ok (.aload_n 0, 1) := by decide +kernel
theorem dX6_sends_180 : decode cX6_sends 180 = .ok (.getfield 7, 3) := by decide +kernel
theorem dX6_sends_183 : decode cX6_sends 183 = .ok (.iload 4, 2) := by decide +kernel
theorem dX6_sends_185 : decode cX6_sends 185 = .ok (.bipush 14, 2) := by decide +kernel
theorem dX6_sends_187 : decode cX6_sends 187 = .ok (.iload_n 3, 1) := by decide +kernel
theorem dX6_sends_188 : decode cX6_sends 188 = .ok (.bipush 8, 2) := by decide +kernel
theorem dX6_sends_190 : decode cX6_sends 190 = .ok (.irem, 1) := by decide +kernel
theorem dX6_sends_191 : decode cX6_sends 191 = .ok (.iadd, 1) := by decide +kernel
theorem dX6_sends_192 : decode cX6_sends 192 = .ok (.invokestatic 47, 3) := by decide +kernel
theorem dX6_sends_195 : decode cX6_sends 195 = .ok (.iaload, 1) := by decide +kernel
theorem dX6_sends_196 : decode cX6_sends 196 = .ok (.goto 4, 3) := by decide +kernel
theorem dX6_sends_199 : decode cX6_sends 199 = .ok (.iconst 0, 1) := by decide +kernel
theorem dX6_sends_200 : decode cX6_sends 200 = .ok (.iastore, 1) := by decide +kernel
theorem dX6_sends_201 : decode cX6_sends 201 = .ok (.aload_n 0, 1) := by decide +kernel
theorem dX6_sends_202 : decode cX6_sends 202 = .ok (.getfield 7, 3) := by decide +kernel
theorem dX6_sends_205 : decode cX6_sends 205 = .ok (.iload 4, 2) := by decide +kernel
theorem dX6_sends_207 : decode cX6_sends 207 = .ok (.bipush 14, 2) := by decide +kernel
theorem dX6_sends_209 : decode cX6_sends 209 = .ok (.iload_n 3, 1) := by decide +kernel
theorem dX6_sends_210 : decode cX6_sends 210 = .ok (.bipush 8, 2) := by decide +kernel
theorem dX6_sends_212 : decode cX6_sends 212 = .ok (.irem, 1) := by decide +kernel
theorem dX6_sends_213 : decode cX6_sends 213 = .ok (.iadd, 1) := by decide +kernel
theorem dX6_sends_214 : decode cX6_sends 214 = .ok (.invokestatic 47, 3) := by decide +kernel
theorem dX6_sends_217 : decode cX6_sends 217 = .ok (.iload 5, 2) := by decide +kernel
theorem dX6_sends_219 : decode cX6_sends 219 = .ok (.ifCond .eq 7, 3) := by decide +kernel
theorem dX6_sends_222 : decode cX6_sends 222 = .ok (.iconst 0, 1) := by decide +kernel
theorem dX6_sends_223 : decode cX6_sends 223 = .ok (.goto 20, 3) := by decide +kernel
theorem dX6_sends_226 : decode cX6_sends 226 = .ok (.aload_n 0, 1) := by decide +kernel
theorem dX6_sends_227 : decode cX6_sends 227 = .ok (.getfield 7, 3) := by decide +kernel
theorem dX6_sends_230 : decode cX6_sends 230 = .ok (.iload 4, 2) := by decide +kernel
theorem dX6_sends_232 : decode cX6_sends 232 = .ok (.bipush 14, 2) := by decide +kernel
theorem dX6_sends_234 : decode cX6_sends 234 = .ok (.iload_n 3, 1) := by decide +kernel
theorem dX6_sends_235 : decode cX6_sends 235 = .ok (.bipush 8, 2) := by decide +kernel
theorem dX6_sends_237 : decode cX6_sends 237 = .ok (.irem, 1) := by decide +kernel
theorem dX6_sends_238 : decode cX6_sends 238 = .ok (.iadd, 1) := by decide +kernel
theorem dX6_sends_239 : decode cX6_sends 239 = .ok (.invokestatic 47, 3) := by decide +kernel
theorem dX6_sends_242 : decode cX6_sends 242 = .ok (.iaload, 1) := by decide +kernel
theorem dX6_sends_243 : decode cX6_sends 243 = .ok (.iastore, 1) := by decide +kernel
theorem dX6_sends_244 : decode cX6_sends 244 = .ok (.iinc 3 1, 3) := by decide +kernel
theorem dX6_sends_247 : decode cX6_sends 247 = .ok (.goto (-104), 3) := by decide +kernel
theorem dX6_sends_250 : decode cX6_sends 250 = .ok (.aload_n 0, 1) := by decide +kernel
theorem dX6_sends_251 : decode cX6_sends 251 = .ok (.getfield 7, 3) := by decide +kernel
theorem dX6_sends_254 : decode cX6_sends 254 = .ok (.bipush 14, 2) := by decide +kernel
theorem dX6_sends_256 : decode cX6_sends 256 = .ok (.dup2, 1) := by decide +kernel
theorem dX6_sends_257 : decode cX6_sends 257 = .ok (.iaload, 1) := by decide +kernel
theorem dX6_sends_258 : decode cX6_sends 258 = .ok (.iconst 1, 1) := by decide +kernel
theorem dX6_sends_259 : decode cX6_sends 259 = .ok (.iadd, 1) := by decide +kernel
theorem dX6_sends_260 : decode cX6_sends 260 = .ok (.iastore, 1) := by decide +kernel
theorem dX6_sends_261 : decode cX6_sends 261 = .ok (.return_, 1) := by decide +kernel
theorem dX6_send_0 : decode cX6_send 0 = .ok (.iload_n 1, 1) := by decide +kernel
theorem dX6_send_1 : decode cX6_send 1 = .ok (.iconst 1, 1) := by decide +kernel
theorem dX6_send_2 : decode cX6_send 2 = .ok (.bipush 63, 2) := by decide +kernel
theorem dX6_send_4 : decode cX6_send 4 = .ok (.invokestatic 35, 3) := by decide +kernel
theorem dX6_send_7 : decode cX6_send 7 = .ok (.ifCond .ne 6, 3) := by decide +kernel
theorem dX6_send_10 : decode cX6_send 10 = .ok (.ldc 125, 2) := by decide +kernel
theorem dX6_send_12 : decode cX6_send 12 = .ok (.ireturn, 1) := by decide +kernel
theorem dX6_send_13 : decode cX6_send 13 = .ok (.aload_n 0, 1) := by decide +kernel
theorem dX6_send_14 : decode cX6_send 14 = .ok (.iload_n 1, 1) := by decide +kernel
theorem dX6_send_15 : decode cX6_send 15 = .ok (.invokevirtual 140, 3) := by decide +kernel
theorem dX6_send_18 : decode cX6_send 18 = .ok (.istore_n 2, 1) := by decide +kernel
theorem dX6_send_19 : decode cX6_send 19 = .ok (.aload_n 0, 1) := by decide +kernel
theorem dX6_send_20 : decode cX6_send 20 = .ok (.iload_n 1, 1) := by decide +kernel
theorem dX6_send_21 : decode cX6_send 21 = .ok (.invokevirtual 61, 3) := by decide +kernel
theorem dX6_send_24 : decode cX6_send 24 = .ok (.ifCond .eq 11, 3) := by decide +kernel
theorem dX6_send_27 : decode cX6_send 27 = .ok (.iload_n 2, 1) := by decide +kernel
theorem dX6_send_28 : decode cX6_send 28 = .ok (.aload_n 0, 1) := by decide +kernel
theorem dX6_send_29 : decode cX6_send 29 = .ok (.invokevirtual 149, 3) := by decide +kernel
theorem dX6_send_32 : decode cX6_send 32 = .ok (.if_icmp .le 6, 3) := by decide +kernel
theorem dX6_send_35 : decode cX6_send 35 = .ok (.ldc 133, 2) := by decide +kernel
theorem dX6_send_37 : decode cX6_send 37 = .ok (.ireturn, 1) := by decide +kernel
theorem dX6_send_38 : decode cX6_send 38 = .ok (.aload_n 0, 1) := by decide +kernel
theorem dX6_send_39 : decode cX6_send 39 = .ok (.getfield 7, 3) := by decide +kernel
theorem dX6_send_42 : decode cX6_send 42 = .ok (.bipush 14, 2) := by decide +kernel
theorem dX6_send_44 : decode cX6_send 44 = .ok (.iaload, 1) := by decide +kernel
theorem dX6_send_45 : decode cX6_send 45 = .ok (.iconst 5, 1) := by decide +kernel
theorem dX6_send_46 : decode cX6_send 46 = .ok (.if_icmp .ne 6, 3) := by decide +kernel
theorem dX6_send_49 : decode cX6_send 49 = .ok (.ldc 153, 2) := by decide +kernel
theorem dX6_send_51 : decode cX6_send 51 = .ok (.ireturn, 1) := by decide +kernel
theorem dX6_send_52 : decode cX6_send 52 = .ok (.aload_n 0, 1) := by decide +kernel
theorem dX6_send_53 : decode cX6_send 53 = .ok (.invokevirtual 113, 3) := by decide +kernel
theorem dX6_send_56 : decode cX6_send 56 = .ok (.aload_n 0, 1) := by decide +kernel
theorem dX6_send_57 : decode cX6_send 57 = .ok (.iload_n 1, 1) := by decide +kernel
theorem dX6_send_58 : decode cX6_send 58 = .ok (.invokevirtual 154, 3) := by decide +kernel
theorem dX6_send_61 : decode cX6_send 61 = .ok (.iload_n 2, 1) := by decide +kernel
theorem dX6_send_62 : decode cX6_send 62 = .ok (.ireturn, 1) := by decide +kernel
theorem dX6_pass_0 : decode cX6_pass 0 = .ok (.iload_n 1, 1) := by decide +kernel
theorem dX6_pass_1 : decode cX6_pass 1 = .ok (.iconst 1, 1) := by decide +kernel
theorem dX6_pass_2 : decode cX6_pass 2 = .ok (.bipush 60, 2) := by decide +kernel
theorem dX6_pass_4 : decode cX6_pass 4 = .ok (.invokestatic 35, 3) := by decide +kernel
theorem dX6_pass_7 : decode cX6_pass 7 = .ok (.ifCond .ne 6, 3) := by decide +kernel
theorem dX6_pass_10 : decode cX6_pass 10 = .ok (.ldc 125, 2) := by decide +kernel
theorem dX6_pass_12 : decode cX6_pass 12 = .ok (.ireturn, 1) := by decide +kernel
theorem dX6_pass_13 : decode cX6_pass 13 = .ok (.aload_n 0, 1) := by decide +kernel
theorem dX6_pass_14 : decode cX6_pass 14 = .ok (.getfield 7, 3) := by decide +kernel
theorem dX6_pass_17 : decode cX6_pass 17 = .ok (.bipush 9, 2) := by decide +kernel
theorem dX6_pass_19 : decode cX6_pass 19 = .ok (.iaload, 1) := by decide +kernel
theorem dX6_pass_20 : decode cX6_pass 20 = .ok (.iload_n 1, 1) := by decide +kernel
theorem dX6_pass_21 : decode cX6_pass 21 = .ok (.iadd, 1) := by decide +kernel
theorem dX6_pass_22 : decode cX6_pass 22 = .ok (.sipush 9999, 3) := by decide +kernel
theorem dX6_pass_25 : decode cX6_pass 25 = .ok (.if_icmp .le 6, 3) := by decide +kernel
theorem dX6_pass_28 : decode cX6_pass 28 = .ok (.ldc 153, 2) := by decide +kernel
theorem dX6_pass_30 : decode cX6_pass 30 = .ok (.ireturn, 1) := by decide +kernel
theorem dX6_pass_31 : decode cX6_pass 31 = .ok (.aload_n 0, 1) := by decide +kernel
theorem dX6_pass_32 : decode cX6_pass 32 = .ok (.invokevirtual 113, 3) := by decide +kernel
theorem dX6_pass_35 : decode cX6_pass 35 = .ok (.iconst 0, 1) := by decide +kernel
theorem dX6_pass_36 : decode cX6_pass 36 = .ok (.istore_n 2, 1) := by decide +kernel
theorem dX6_pass_37 : decode cX6_pass 37 = .ok (.iconst 0, 1) := by decide +kernel
theorem dX6_pass_38 : decode cX6_pass 38 = .ok (.istore_n 3, 1) := by decide +kernel
theorem dX6_pass_39 : decode cX6_pass 39 = .ok (.iload_n 3, 1) := by decide +kernel
theorem dX6_pass_40 : decode cX6_pass 40 = .ok (.iload_n 1, 1) := by decide +kernel
theorem dX6_pass_41 : decode cX6_pass 41 = .ok (.if_icmp .ge 16, 3) := by decide +kernel
theorem dX6_pass_44 : decode cX6_pass 44 = .ok (.iload_n 2, 1) := by decide +kernel
theorem dX6_pass_45 : decode cX6_pass 45 = .ok (.aload_n 0, 1) := by decide +kernel
theorem dX6_pass_46 : decode cX6_pass 46 = .ok (.invokevirtual 157, 3) := by decide +kernel
theorem dX6_pass_49 : decode cX6_pass 49 = .ok (.iadd, 1) := by decide +kernel
theorem dX6_pass_50 : decode cX6_pass 50 = .ok (.istore_n 2, 1) := by decide +kernel
theorem dX6_pass_51 : decode cX6_pass 51 = .ok (.iinc 3 1, 3) := by decide +kernel
theorem dX6_pass_54 : decode cX6_pass 54 = .ok (.goto (-15), 3) := by decide +kernel
theorem dX6_pass_57 : decode cX6_pass 57 = .ok (.iload_n 2, 1) := by decide +kernel
theorem dX6_pass_58 : decode cX6_pass 58 = .ok (.ireturn, 1) := by decide +kernel
theorem dX6_shuffle_0 : decode cX6_shuffle 0 = .ok (.iload_n 1, 1) := by decide +kernel
theorem dX6_shuffle_1 : decode cX6_shuffle 1 = .ok (.ifCond .lt 13, 3) := by decide +kernel
theorem dX6_shuffle_4 : decode cX6_shuffle 4 = .ok (.aload_n 0, 1) := by decide +kernel
theorem dX6_shuffle_5 : decode cX6_shuffle 5 = .ok (.bipush 10, 2) := by decide +kernel
theorem dX6_shuffle_7 : decode cX6_shuffle 7 = .ok (.iload_n 1, 1) := by decide +kernel
theorem dX6_shuffle_8 : decode cX6_shuffle 8 = .ok (.invokevirtual 122, 3) := by decide +kernel
theorem dX6_shuffle_11 : decode cX6_shuffle 11 = .ok (.goto 5, 3) := by decide +kernel
theorem dX6_shuffle_14 : decode cX6_shuffle 14 = .ok (.ldc 125, 2) := by decide +kernel
theorem dX6_shuffle_16 : decode cX6_shuffle 16 = .ok (.ireturn, 1) := by decide +kernel
theorem dX6_sum_0 : decode cX6_sum 0 = .ok (.iconst 0, 1) := by decide +kernel
theorem dX6_sum_1 : decode cX6_sum 1 = .ok (.istore_n 3, 1) := by decide +kernel
theorem dX6_sum_2 : decode cX6_sum 2 = .ok (.iconst 0, 1) := by decide +kernel
theorem dX6_sum_3 : decode cX6_sum 3 = .ok (.istore 4, 2) := by decide +kernel
theorem dX6_sum_5 : decode cX6_sum 5 = .ok (.iload 4, 2) := by decide +kernel
theorem dX6_sum_7 : decode cX6_sum 7 = .ok (.bipush 8, 2) := by decide +kernel
theorem dX6_sum_9 : decode cX6_sum 9 = .ok (.if_icmp .ge 25, 3) := by decide +kernel
theorem dX6_sum_12 : decode cX6_sum 12 = .ok (.iload_n 3, 1) := by decide +kernel
theorem dX6_sum_13 : decode cX6_sum 13 = .ok (.aload_n 0, 1) := by decide +kernel
theorem dX6_sum_14 : decode cX6_sum 14 = .ok (.getfield 7, 3) := by decide +kernel
theorem dX6_sum_17 : decode cX6_sum 17 = .ok (.iload_n 1, 1) := by decide +kernel
theorem dX6_sum_18 : decode cX6_sum 18 = .ok (.iload_n 2, 1) := by decide +kernel
theorem dX6_sum_19 : decode cX6_sum 19 = .ok (.iload 4, 2) := by decide +kernel
theorem dX6_sum_21 : decode cX6_sum 21 = .ok (.iadd, 1) := by decide +kernel
theorem dX6_sum_22 : decode cX6_sum 22 = .ok (.invokestatic 47, 3) := by decide +kernel
theorem dX6_sum_25 : decode cX6_sum 25 = .ok (.iaload, 1) := by decide +kernel
theorem dX6_sum_26 : decode cX6_sum 26 = .ok (.iadd, 1) := by decide +kernel
theorem dX6_sum_27 : decode cX6_sum 27 = .ok (.istore_n 3, 1) := by decide +kernel
theorem dX6_sum_28 : decode cX6_sum 28 = .ok (.iinc 4 1, 3) := by decide +kernel
theorem dX6_sum_31 : decode cX6_sum 31 = .ok (.goto (-26), 3) := by decide +kernel
theorem dX6_sum_34 : decode cX6_sum 34 = .ok (.iload_n 3, 1) := by decide +kernel
theorem dX6_sum_35 : decode cX6_sum 35 = .ok (.ireturn, 1) := by decide +kernel
theorem dX6_onTheWay_0 : decode cX6_onTheWay 0 = .ok (.iconst 0, 1) := by decide +kernel
theorem dX6_onTheWay_1 : decode cX6_onTheWay 1 = .ok (.istore_n 2, 1) := by decide +kernel
theorem dX6_onTheWay_2 : decode cX6_onTheWay 2 = .ok (.iconst 0, 1) := by decide +kernel
theorem dX6_onTheWay_3 : decode cX6_onTheWay 3 = .ok (.istore_n 3, 1) := by decide +kernel
theorem dX6_onTheWay_4 : decode cX6_onTheWay 4 = .ok (.iload_n 3, 1) := by decide +kernel
theorem dX6_onTheWay_5 : decode cX6_onTheWay 5 = .ok (.aload_n 0, 1) := by decide +kernel
theorem dX6_onTheWay_6 : decode cX6_onTheWay 6 = .ok (.getfield 7, 3) := by decide +kernel
theorem dX6_onTheWay_9 : decode cX6_onTheWay 9 = .ok (.bipush 14, 2) := by decide +kernel
theorem dX6_onTheWay_11 : decode cX6_onTheWay 11 = .ok (.iaload, 1) := by decide +kernel
theorem dX6_onTheWay_12 : decode cX6_onTheWay 12 = .ok (.bipush 8, 2) := by decide +kernel
theorem dX6_onTheWay_14 : decode cX6_onTheWay 14 = .ok (.imul, 1) := by decide +kernel
theorem dX6_onTheWay_15 : decode cX6_onTheWay 15 = .ok (.if_icmp .ge 29, 3) := by decide +kernel
theorem dX6_onTheWay_18 : decode cX6_onTheWay 18 = .ok (.iload_n 2, 1) := by decide +kernel
theorem dX6_onTheWay_19 : decode cX6_onTheWay 19 = .ok (.aload_n 0, 1) := by decide +kernel
theorem dX6_onTheWay_20 : decode cX6_onTheWay 20 = .ok (.getfield 7, 3) := by decide +kernel
theorem dX6_onTheWay_23 : decode cX6_onTheWay 23 = .ok (.iload_n 3, 1) := by decide +kernel
theorem dX6_onTheWay_24 : decode cX6_onTheWay 24 = .ok (.bipush 8, 2) := by decide +kernel
theorem dX6_onTheWay_26 : decode cX6_onTheWay 26 = .ok (.idiv, 1) := by decide +kernel
theorem dX6_onTheWay_27 : decode cX6_onTheWay 27 = .ok (.iload_n 1, 1) := by decide +kernel
theorem dX6_onTheWay_28 : decode cX6_onTheWay 28 = .ok (.iload_n 3, 1) := by decide +kernel
theorem dX6_onTheWay_29 : decode cX6_onTheWay 29 = .ok (.bipush 8, 2) := by decide +kernel
theorem dX6_onTheWay_31 : decode cX6_onTheWay 31 = .ok (.irem, 1) := by decide +kernel
theorem dX6_onTheWay_32 : decode cX6_onTheWay 32 = .ok (.invokestatic 87, 3) := by decide +kernel
theorem dX6_onTheWay_35 : decode cX6_onTheWay 35 = .ok (.iaload, 1) := by decide +kernel
theorem dX6_onTheWay_36 : decode cX6_onTheWay 36 = .ok (.iadd, 1) := by decide +kernel
theorem dX6_onTheWay_37 : decode cX6_onTheWay 37 = .ok (.istore_n 2, 1) := by decide +kernel
theorem dX6_onTheWay_38 : decode cX6_onTheWay 38 = .ok (.iinc 3 1, 3) := by decide +kernel
theorem dX6_onTheWay_41 : decode cX6_onTheWay 41 = .ok (.goto (-37), 3) := by decide +kernel
theorem dX6_onTheWay_44 : decode cX6_onTheWay 44 = .ok (.iload_n 2, 1) := by decide +kernel
theorem dX6_onTheWay_45 : decode cX6_onTheWay 45 = .ok (.ireturn, 1) := by decide +kernel
theorem dX6_member_0 : decode cX6_member 0 = .ok (.iload_n 1, 1) := by decide +kernel
theorem dX6_member_1 : decode cX6_member 1 = .ok (.invokestatic 126, 3) := by decide +kernel
theorem dX6_member_4 : decode cX6_member 4 = .ok (.ifCond .ne 6, 3) := by decide +kernel
theorem dX6_member_7 : decode cX6_member 7 = .ok (.ldc 132, 2) := by decide +kernel
theorem dX6_member_9 : decode cX6_member 9 = .ok (.ireturn, 1) := by decide +kernel
theorem dX6_member_10 : decode cX6_member 10 = .ok (.iload_n 2, 1) := by decide +kernel
theorem dX6_member_11 : decode cX6_member 11 = .ok (.tableswitch 97 0 8 #[49, 49, 60, 68, 76, 82, 82, 82, 82], 49) := by decide +kernel
theorem dX6_member_60 : decode cX6_member 60 = .ok (.aload_n 0, 1) := by decide +kernel
theorem dX6_member_61 : decode cX6_member 61 = .ok (.getfield 7, 3) := by decide +kernel
theorem dX6_member_64 : decode cX6_member 64 = .ok (.iload_n 1, 1) := by decide +kernel
theorem dX6_member_65 : decode cX6_member 65 = .ok (.iload_n 2, 1) := by decide +kernel
theorem dX6_member_66 : decode cX6_member 66 = .ok (.invokestatic 47, 3) := by decide +kernel
theorem dX6_member_69 : decode cX6_member 69 = .ok (.iaload, 1) := by decide +kernel
theorem dX6_member_70 : decode cX6_member 70 = .ok (.ireturn, 1) := by decide +kernel
theorem dX6_member_71 : decode cX6_member 71 = .ok (.aload_n 0, 1) := by decide +kernel
theorem dX6_member_72 : decode cX6_member 72 = .ok (.iload_n 1, 1) := by decide +kernel
theorem dX6_member_73 : decode cX6_member 73 = .ok (.bipush 6, 2) := by decide +kernel
theorem dX6_member_75 : decode cX6_member 75 = .ok (.invokevirtual 160, 3) := by decide +kernel
theorem dX6_member_78 : decode cX6_member 78 = .ok (.ireturn, 1) := by decide +kernel
theorem dX6_member_79 : decode cX6_member 79 = .ok (.aload_n 0, 1) := by decide +kernel
theorem dX6_member_80 : decode cX6_member 80 = .ok (.iload_n 1, 1) := by decide +kernel
theorem dX6_member_81 : decode cX6_member 81 = .ok (.bipush 14, 2) := by decide +kernel
theorem dX6_member_83 : decode cX6_member 83 = .ok (.invokevirtual 160, 3) := by decide +kernel
theorem dX6_member_86 : decode cX6_member 86 = .ok (.ireturn, 1) := by decide +kernel
theorem dX6_member_87 : decode cX6_member 87 = .ok (.aload_n 0, 1) := by decide +kernel
theorem dX6_member_88 : decode cX6_member 88 = .ok (.iload_n 1, 1) := by decide +kernel
theorem dX6_member_89 : decode cX6_member 89 = .ok (.invokevirtual 163, 3) := by decide +kernel
theorem dX6_member_92 : decode cX6_member 92 = .ok (.ireturn, 1) := by decide +kernel
theorem dX6_member_93 : decode cX6_member 93 = .ok (.aload_n 0, 1) := by decide +kernel
theorem dX6_member_94 : decode cX6_member 94 = .ok (.getfield 7, 3) := by decide +kernel
theorem dX6_member_97 : decode cX6_member 97 = .ok (.iload_n 1, 1) := by decide +kernel
theorem dX6_member_98 : decode cX6_member 98 = .ok (.iconst 2, 1) := by decide +kernel
theorem dX6_member_99 : decode cX6_member 99 = .ok (.iload_n 2, 1) := by decide +kernel
theorem dX6_member_100 : decode cX6_member 100 = .ok (.iadd, 1) := by decide +kernel
theorem dX6_member_101 : decode cX6_member 101 = .ok (.iconst 5, 1) := by decide +kernel
theorem dX6_member_102 : decode cX6_member 102 = .ok (.isub, 1) := by decide +kernel
theorem dX6_member_103 : decode cX6_member 103 = .ok (.invokestatic 47, 3) := by decide +kernel
theorem dX6_member_106 : decode cX6_member 106 = .ok (.iaload, 1) := by decide +kernel
theorem dX6_member_107 : decode cX6_member 107 = .ok (.ireturn, 1) := by decide +kernel
theorem dX6_member_108 : decode cX6_member 108 = .ok (.ldc 125, 2) := by decide +kernel
theorem dX6_member_110 : decode cX6_member 110 = .ok (.ireturn, 1) := by decide +kernel
theorem dX6_strings_0 : decode cX6_strings 0 = .ok (.iload_n 1, 1) := by decide +kernel
theorem dX6_strings_1 : decode cX6_strings 1 = .ok (.invokestatic 126, 3) := by decide +kernel
theorem dX6_strings_4 : decode cX6_strings 4 = .ok (.ifCond .eq 35, 3) := by decide +kernel
theorem dX6_strings_7 : decode cX6_strings 7 = .ok (.iload_n 2, 1) := by decide +kernel
theorem dX6_strings_8 : decode cX6_strings 8 = .ok (.invokestatic 129, 3) := by decide +kernel
theorem dX6_strings_11 : decode cX6_strings 11 = .ok (.ifCond .eq 28, 3) := by decide +kernel
theorem dX6_strings_14 : decode cX6_strings 14 = .ok (.aload_n 0, 1) := by decide +kernel
theorem dX6_strings_15 : decode cX6_strings 15 = .ok (.getfield 7, 3) := by decide +kernel
theorem dX6_strings_18 : decode cX6_strings 18 = .ok (.iload_n 1, 1) := by decide +kernel
theorem dX6_strings_19 : decode cX6_strings 19 = .ok (.iload_n 3, 1) := by decide +kernel
theorem dX6_strings_20 : decode cX6_strings 20 = .ok (.ifCond .eq 8, 3) := by decide +kernel
theorem dX6_strings_23 : decode cX6_strings 23 = .ok (.bipush 14, 2) := by decide +kernel
theorem dX6_strings_25 : decode cX6_strings 25 = .ok (.goto 5, 3) := by decide +kernel
theorem dX6_strings_28 : decode cX6_strings 28 = .ok (.bipush 6, 2) := by decide +kernel
theorem dX6_strings_30 : decode cX6_strings 30 = .ok (.iload_n 2, 1) := by decide +kernel
theorem dX6_strings_31 : decode cX6_strings 31 = .ok (.iadd, 1) := by decide +kernel
theorem dX6_strings_32 : decode cX6_strings 32 = .ok (.invokestatic 47, 3) := by decide +kernel
theorem dX6_strings_35 : decode cX6_strings 35 = .ok (.iaload, 1) := by decide +kernel
theorem dX6_strings_36 : decode cX6_strings 36 = .ok (.goto 5, 3) := by decide +kernel
theorem dX6_strings_39 : decode cX6_strings 39 = .ok (.ldc 132, 2) := by decide +kernel
theorem dX6_strings_41 : decode cX6_strings 41 = .ok (.ireturn, 1) := by decide +kernel
theorem dX6_membersOf_0 : decode cX6_membersOf 0 = .ok (.iconst 0, 1) := by decide +kernel
theorem dX6_membersOf_1 : decode cX6_membersOf 1 = .ok (.istore_n 2, 1) := by decide +kernel
theorem dX6_membersOf_2 : decode cX6_membersOf 2 = .ok (.iconst 0, 1) := by decide +kernel
theorem dX6_membersOf_3 : decode cX6_membersOf 3 = .ok (.istore_n 3, 1) := by decide +kernel
theorem dX6_membersOf_4 : decode cX6_membersOf 4 = .ok (.iload_n 3, 1) := by decide +kernel
theorem dX6_membersOf_5 : decode cX6_membersOf 5 = .ok (.bipush 48, 2) := by decide +kernel
theorem dX6_membersOf_7 : decode cX6_membersOf 7 = .ok (.if_icmp .ge 37, 3) := by decide +kernel
theorem dX6_membersOf_10 : decode cX6_membersOf 10 = .ok (.iload_n 2, 1) := by decide +kernel
theorem dX6_membersOf_11 : decode cX6_membersOf 11 = .ok (.aload_n 0, 1) := by decide +kernel
theorem dX6_membersOf_12 : decode cX6_membersOf 12 = .ok (.getfield 7, 3) := by decide +kernel
theorem dX6_membersOf_15 : decode cX6_membersOf 15 = .ok (.iload_n 1, 1) := by decide +kernel
theorem dX6_membersOf_16 : decode cX6_membersOf 16 = .ok (.iconst 3, 1) := by decide +kernel
theorem dX6_membersOf_17 : decode cX6_membersOf 17 = .ok (.iload_n 3, 1) := by decide +kernel
theorem dX6_membersOf_18 : decode cX6_membersOf 18 = .ok (.iadd, 1) := by decide +kernel
theorem dX6_membersOf_19 : decode cX6_membersOf 19 = .ok (.invokestatic 84, 3) := by decide +kernel
theorem dX6_membersOf_22 : decode cX6_membersOf 22 = .ok (.iaload, 1) := by decide +kernel
theorem dX6_membersOf_23 : decode cX6_membersOf 23 = .ok (.ifCond .le 12, 3) := by decide +kernel
theorem dX6_membersOf_26 : decode cX6_membersOf 26 = .ok (.iconst 1, 1) := by decide +kernel
theorem dX6_membersOf_27 : decode cX6_membersOf 27 = .ok (.iload_n 3, 1) := by decide +kernel
theorem dX6_membersOf_28 : decode cX6_membersOf 28 = .ok (.bipush 8, 2) := by decide +kernel
theorem dX6_membersOf_30 : decode cX6_membersOf 30 = .ok (.idiv, 1) := by decide +kernel
theorem dX6_membersOf_31 : decode cX6_membersOf 31 = .ok (.ishl, 1) := by decide +kernel
theorem dX6_membersOf_32 : decode cX6_membersOf 32 = .ok (.goto 4, 3) := by decide +kernel
theorem dX6_membersOf_35 : decode cX6_membersOf 35 = .ok (.iconst 0, 1) := by decide +kernel
theorem dX6_membersOf_36 : decode cX6_membersOf 36 = .ok (.ior, 1) := by decide +kernel
theorem dX6_membersOf_37 : decode cX6_membersOf 37 = .ok (.istore_n 2, 1) := by decide +kernel
theorem dX6_membersOf_38 : decode cX6_membersOf 38 = .ok (.iinc 3 1, 3) := by decide +kernel
theorem dX6_membersOf_41 : decode cX6_membersOf 41 = .ok (.goto (-37), 3) := by decide +kernel
theorem dX6_membersOf_44 : decode cX6_membersOf 44 = .ok (.iload_n 2, 1) := by decide +kernel
theorem dX6_membersOf_45 : decode cX6_membersOf 45 = .ok (.ireturn, 1) := by decide +kernel
theorem dX6_parcel_0 : decode cX6_parcel 0 = .ok (.iload_n 1, 1) := by decide +kernel
theorem dX6_parcel_1 : decode cX6_parcel 1 = .ok (.iconst 0, 1) := by decide +kernel
theorem dX6_parcel_2 : decode cX6_parcel 2 = .ok (.aload_n 0, 1) := by decide +kernel
theorem dX6_parcel_3 : decode cX6_parcel 3 = .ok (.getfield 7, 3) := by decide +kernel
theorem dX6_parcel_6 : decode cX6_parcel 6 = .ok (.bipush 14, 2) := by decide +kernel
theorem dX6_parcel_8 : decode cX6_parcel 8 = .ok (.iaload, 1) := by decide +kernel
theorem dX6_parcel_9 : decode cX6_parcel 9 = .ok (.iconst 1, 1) := by decide +kernel
theorem dX6_parcel_10 : decode cX6_parcel 10 = .ok (.isub, 1) := by decide +kernel
theorem dX6_parcel_11 : decode cX6_parcel 11 = .ok (.invokestatic 35, 3) := by decide +kernel
theorem dX6_parcel_14 : decode cX6_parcel 14 = .ok (.ifCond .ne 6, 3) := by decide +kernel
theorem dX6_parcel_17 : decode cX6_parcel 17 = .ok (.ldc 132, 2) := by decide +kernel
theorem dX6_parcel_19 : decode cX6_parcel 19 = .ok (.ireturn, 1) := by decide +kernel
theorem dX6_parcel_20 : decode cX6_parcel 20 = .ok (.iload_n 2, 1) := by decide +kernel
theorem dX6_parcel_21 : decode cX6_parcel 21 = .ok (.tableswitch 88 0 4 #[35, 41, 52, 58, 77], 35) := by decide +kernel
theorem dX6_parcel_56 : decode cX6_parcel 56 = .ok (.aload_n 0, 1) := by decide +kernel
theorem dX6_parcel_57 : decode cX6_parcel 57 = .ok (.iload_n 1, 1) := by decide +kernel
theorem dX6_parcel_58 : decode cX6_parcel 58 = .ok (.invokevirtual 94, 3) := by decide +kernel
theorem dX6_parcel_61 : decode cX6_parcel 61 = .ok (.ireturn, 1) := by decide +kernel
theorem dX6_parcel_62 : decode cX6_parcel 62 = .ok (.aload_n 0, 1) := by decide +kernel
theorem dX6_parcel_63 : decode cX6_parcel 63 = .ok (.getfield 7, 3) := by decide +kernel
theorem dX6_parcel_66 : decode cX6_parcel 66 = .ok (.iload_n 1, 1) := by decide +kernel
theorem dX6_parcel_67 : decode cX6_parcel 67 = .ok (.iconst 0, 1) := by decide +kernel
theorem dX6_parcel_68 : decode cX6_parcel 68 = .ok (.invokestatic 84, 3) := by decide +kernel
theorem dX6_parcel_71 : decode cX6_parcel 71 = .ok (.iaload, 1) := by decide +kernel
theorem dX6_parcel_72 : decode cX6_parcel 72 = .ok (.ireturn, 1) := by decide +kernel
theorem dX6_parcel_73 : decode cX6_parcel 73 = .ok (.aload_n 0, 1) := by decide +kernel
theorem dX6_parcel_74 : decode cX6_parcel 74 = .ok (.iload_n 1, 1) := by decide +kernel
theorem dX6_parcel_75 : decode cX6_parcel 75 = .ok (.invokevirtual 166, 3) := by decide +kernel
theorem dX6_parcel_78 : decode cX6_parcel 78 = .ok (.ireturn, 1) := by decide +kernel
theorem dX6_parcel_79 : decode cX6_parcel 79 = .ok (.aload_n 0, 1) := by decide +kernel
theorem dX6_parcel_80 : decode cX6_parcel 80 = .ok (.getfield 7, 3) := by decide +kernel
theorem dX6_parcel_83 : decode cX6_parcel 83 = .ok (.iload_n 1, 1) := by decide +kernel
theorem dX6_parcel_84 : decode cX6_parcel 84 = .ok (.iconst 1, 1) := by decide +kernel
theorem dX6_parcel_85 : decode cX6_parcel 85 = .ok (.invokestatic 84, 3) := by decide +kernel
theorem dX6_parcel_88 : decode cX6_parcel 88 = .ok (.iaload, 1) := by decide +kernel
theorem dX6_parcel_89 : decode cX6_parcel 89 = .ok (.aload_n 0, 1) := by decide +kernel
theorem dX6_parcel_90 : decode cX6_parcel 90 = .ok (.getfield 7, 3) := by decide +kernel
theorem dX6_parcel_93 : decode cX6_parcel 93 = .ok (.bipush 9, 2) := by decide +kernel
theorem dX6_parcel_95 : decode cX6_parcel 95 = .ok (.iaload, 1) := by decide +kernel
theorem dX6_parcel_96 : decode cX6_parcel 96 = .ok (.isub, 1) := by decide +kernel
theorem dX6_parcel_97 : decode cX6_parcel 97 = .ok (.ireturn, 1) := by decide +kernel
theorem dX6_parcel_98 : decode cX6_parcel 98 = .ok (.aload_n 0, 1) := by decide +kernel
theorem dX6_parcel_99 : decode cX6_parcel 99 = .ok (.getfield 7, 3) := by decide +kernel
theorem dX6_parcel_102 : decode cX6_parcel 102 = .ok (.iload_n 1, 1) := by decide +kernel
theorem dX6_parcel_103 : decode cX6_parcel 103 = .ok (.iconst 2, 1) := by decide +kernel
theorem dX6_parcel_104 : decode cX6_parcel 104 = .ok (.invokestatic 84, 3) := by decide +kernel
theorem dX6_parcel_107 : decode cX6_parcel 107 = .ok (.iaload, 1) := by decide +kernel
theorem dX6_parcel_108 : decode cX6_parcel 108 = .ok (.ireturn, 1) := by decide +kernel
theorem dX6_parcel_109 : decode cX6_parcel 109 = .ok (.ldc 125, 2) := by decide +kernel
theorem dX6_parcel_111 : decode cX6_parcel 111 = .ok (.ireturn, 1) := by decide +kernel
theorem dX6_broken_0 : decode cX6_broken 0 = .ok (.iconst 0, 1) := by decide +kernel
theorem dX6_broken_1 : decode cX6_broken 1 = .ok (.istore_n 1, 1) := by decide +kernel
theorem dX6_broken_2 : decode cX6_broken 2 = .ok (.iconst 0, 1) := by decide +kernel
theorem dX6_broken_3 : decode cX6_broken 3 = .ok (.istore_n 2, 1) := by decide +kernel
theorem dX6_broken_4 : decode cX6_broken 4 = .ok (.iload_n 2, 1) := by decide +kernel
theorem dX6_broken_5 : decode cX6_broken 5 = .ok (.bipush 6, 2) := by decide +kernel
theorem dX6_broken_7 : decode cX6_broken 7 = .ok (.if_icmp .ge 25, 3) := by decide +kernel
theorem dX6_broken_10 : decode cX6_broken 10 = .ok (.iload_n 1, 1) := by decide +kernel
theorem dX6_broken_11 : decode cX6_broken 11 = .ok (.aload_n 0, 1) := by decide +kernel
theorem dX6_broken_12 : decode cX6_broken 12 = .ok (.getfield 7, 3) := by decide +kernel
theorem dX6_broken_15 : decode cX6_broken 15 = .ok (.iload_n 2, 1) := by decide +kernel
theorem dX6_broken_16 : decode cX6_broken 16 = .ok (.iconst 1, 1) := by decide +kernel
theorem dX6_broken_17 : decode cX6_broken 17 = .ok (.invokestatic 47, 3) := by decide +kernel
end
section
theorem dX6_broken_20 : decode cX6_broken 20 = .ok (.iaload, 1) := by decide +kernel
theorem dX6_broken_21 : decode cX6_broken 21 = .ok (.invokestatic 134, 3) := by decide +kernel
theorem dX6_broken_24 : decode cX6_broken 24 = .ok (.iadd, 1) := by decide +kernel
theorem dX6_broken_25 : decode cX6_broken 25 = .ok (.istore_n 1, 1) := by decide +kernel
theorem dX6_broken_26 : decode cX6_broken 26 = .ok (.iinc 2 1, 3) := by decide +kernel
theorem dX6_broken_29 : decode cX6_broken 29 = .ok (.goto (-25), 3) := by decide +kernel
theorem dX6_broken_32 : decode cX6_broken 32 = .ok (.iload_n 1, 1) := by decide +kernel
theorem dX6_broken_33 : decode cX6_broken 33 = .ok (.ireturn, 1) := by decide +kernel
theorem dX6_count_0 : decode cX6_count 0 = .ok (.iload_n 1, 1) := by decide +kernel
theorem dX6_count_1 : decode cX6_count 1 = .ok (.iconst 0, 1) := by decide +kernel
theorem dX6_count_2 : decode cX6_count 2 = .ok (.bipush 9, 2) := by decide +kernel
theorem dX6_count_4 : decode cX6_count 4 = .ok (.invokestatic 35, 3) := by decide +kernel
theorem dX6_count_7 : decode cX6_count 7 = .ok (.ifCond .eq 10, 3) := by decide +kernel
theorem dX6_count_10 : decode cX6_count 10 = .ok (.aload_n 0, 1) := by decide +kernel
theorem dX6_count_11 : decode cX6_count 11 = .ok (.getfield 7, 3) := by decide +kernel
theorem dX6_count_14 : decode cX6_count 14 = .ok (.iload_n 1, 1) := by decide +kernel
theorem dX6_count_15 : decode cX6_count 15 = .ok (.iaload, 1) := by decide +kernel
theorem dX6_count_16 : decode cX6_count 16 = .ok (.ireturn, 1) := by decide +kernel
theorem dX6_count_17 : decode cX6_count 17 = .ok (.iload_n 1, 1) := by decide +kernel
theorem dX6_count_18 : decode cX6_count 18 = .ok (.tableswitch 99 10 18 #[50, 55, 63, 63, 63, 76, 81, 89, 94], 50) := by decide +kernel
theorem dX6_count_68 : decode cX6_count 68 = .ok (.aload_n 0, 1) := by decide +kernel
theorem dX6_count_69 : decode cX6_count 69 = .ok (.invokevirtual 149, 3) := by decide +kernel
theorem dX6_count_72 : decode cX6_count 72 = .ok (.ireturn, 1) := by decide +kernel
theorem dX6_count_73 : decode cX6_count 73 = .ok (.aload_n 0, 1) := by decide +kernel
theorem dX6_count_74 : decode cX6_count 74 = .ok (.getfield 7, 3) := by decide +kernel
theorem dX6_count_77 : decode cX6_count 77 = .ok (.bipush 14, 2) := by decide +kernel
theorem dX6_count_79 : decode cX6_count 79 = .ok (.iaload, 1) := by decide +kernel
theorem dX6_count_80 : decode cX6_count 80 = .ok (.ireturn, 1) := by decide +kernel
theorem dX6_count_81 : decode cX6_count 81 = .ok (.aload_n 0, 1) := by decide +kernel
theorem dX6_count_82 : decode cX6_count 82 = .ok (.getfield 7, 3) := by decide +kernel
theorem dX6_count_85 : decode cX6_count 85 = .ok (.bipush 11, 2) := by decide +kernel
theorem dX6_count_87 : decode cX6_count 87 = .ok (.iload_n 1, 1) := by decide +kernel
theorem dX6_count_88 : decode cX6_count 88 = .ok (.iadd, 1) := by decide +kernel
theorem dX6_count_89 : decode cX6_count 89 = .ok (.bipush 12, 2) := by decide +kernel
theorem dX6_count_91 : decode cX6_count 91 = .ok (.isub, 1) := by decide +kernel
theorem dX6_count_92 : decode cX6_count 92 = .ok (.iaload, 1) := by decide +kernel
theorem dX6_count_93 : decode cX6_count 93 = .ok (.ireturn, 1) := by decide +kernel
theorem dX6_count_94 : decode cX6_count 94 = .ok (.aload_n 0, 1) := by decide +kernel
theorem dX6_count_95 : decode cX6_count 95 = .ok (.invokevirtual 169, 3) := by decide +kernel
theorem dX6_count_98 : decode cX6_count 98 = .ok (.ireturn, 1) := by decide +kernel
theorem dX6_count_99 : decode cX6_count 99 = .ok (.aload_n 0, 1) := by decide +kernel
theorem dX6_count_100 : decode cX6_count 100 = .ok (.getfield 7, 3) := by decide +kernel
theorem dX6_count_103 : decode cX6_count 103 = .ok (.bipush 10, 2) := by decide +kernel
theorem dX6_count_105 : decode cX6_count 105 = .ok (.iaload, 1) := by decide +kernel
theorem dX6_count_106 : decode cX6_count 106 = .ok (.ireturn, 1) := by decide +kernel
theorem dX6_count_107 : decode cX6_count 107 = .ok (.aload_n 0, 1) := by decide +kernel
theorem dX6_count_108 : decode cX6_count 108 = .ok (.getfield 172, 3) := by decide +kernel
theorem dX6_count_111 : decode cX6_count 111 = .ok (.ireturn, 1) := by decide +kernel
theorem dX6_count_112 : decode cX6_count 112 = .ok (.aload_n 0, 1) := by decide +kernel
theorem dX6_count_113 : decode cX6_count 113 = .ok (.getfield 39, 3) := by decide +kernel
theorem dX6_count_116 : decode cX6_count 116 = .ok (.ireturn, 1) := by decide +kernel
theorem dX6_count_117 : decode cX6_count 117 = .ok (.ldc 125, 2) := by decide +kernel
theorem dX6_count_119 : decode cX6_count 119 = .ok (.ireturn, 1) := by decide +kernel
theorem dX6_order_0 : decode cX6_order 0 = .ok (.iload_n 1, 1) := by decide +kernel
theorem dX6_order_1 : decode cX6_order 1 = .ok (.iconst 0, 1) := by decide +kernel
theorem dX6_order_2 : decode cX6_order 2 = .ok (.bipush 63, 2) := by decide +kernel
theorem dX6_order_4 : decode cX6_order 4 = .ok (.invokestatic 35, 3) := by decide +kernel
theorem dX6_order_7 : decode cX6_order 7 = .ok (.ifCond .ne 6, 3) := by decide +kernel
theorem dX6_order_10 : decode cX6_order 10 = .ok (.ldc 125, 2) := by decide +kernel
theorem dX6_order_12 : decode cX6_order 12 = .ok (.ireturn, 1) := by decide +kernel
theorem dX6_order_13 : decode cX6_order 13 = .ok (.iload_n 2, 1) := by decide +kernel
theorem dX6_order_14 : decode cX6_order 14 = .ok (.tableswitch 68 0 4 #[34, 40, 46, 52, 58], 34) := by decide +kernel
theorem dX6_order_48 : decode cX6_order 48 = .ok (.aload_n 0, 1) := by decide +kernel
theorem dX6_order_49 : decode cX6_order 49 = .ok (.iload_n 1, 1) := by decide +kernel
theorem dX6_order_50 : decode cX6_order 50 = .ok (.invokevirtual 140, 3) := by decide +kernel
theorem dX6_order_53 : decode cX6_order 53 = .ok (.ireturn, 1) := by decide +kernel
theorem dX6_order_54 : decode cX6_order 54 = .ok (.aload_n 0, 1) := by decide +kernel
theorem dX6_order_55 : decode cX6_order 55 = .ok (.iload_n 1, 1) := by decide +kernel
theorem dX6_order_56 : decode cX6_order 56 = .ok (.invokevirtual 67, 3) := by decide +kernel
theorem dX6_order_59 : decode cX6_order 59 = .ok (.ireturn, 1) := by decide +kernel
theorem dX6_order_60 : decode cX6_order 60 = .ok (.aload_n 0, 1) := by decide +kernel
theorem dX6_order_61 : decode cX6_order 61 = .ok (.iload_n 1, 1) := by decide +kernel
theorem dX6_order_62 : decode cX6_order 62 = .ok (.invokevirtual 70, 3) := by decide +kernel
theorem dX6_order_65 : decode cX6_order 65 = .ok (.ireturn, 1) := by decide +kernel
theorem dX6_order_66 : decode cX6_order 66 = .ok (.aload_n 0, 1) := by decide +kernel
theorem dX6_order_67 : decode cX6_order 67 = .ok (.iload_n 1, 1) := by decide +kernel
theorem dX6_order_68 : decode cX6_order 68 = .ok (.invokevirtual 61, 3) := by decide +kernel
theorem dX6_order_71 : decode cX6_order 71 = .ok (.ireturn, 1) := by decide +kernel
theorem dX6_order_72 : decode cX6_order 72 = .ok (.aload_n 0, 1) := by decide +kernel
theorem dX6_order_73 : decode cX6_order 73 = .ok (.aload_n 0, 1) := by decide +kernel
theorem dX6_order_74 : decode cX6_order 74 = .ok (.iload_n 1, 1) := by decide +kernel
theorem dX6_order_75 : decode cX6_order 75 = .ok (.invokevirtual 67, 3) := by decide +kernel
theorem dX6_order_78 : decode cX6_order 78 = .ok (.invokevirtual 91, 3) := by decide +kernel
theorem dX6_order_81 : decode cX6_order 81 = .ok (.ireturn, 1) := by decide +kernel
theorem dX6_order_82 : decode cX6_order 82 = .ok (.ldc 125, 2) := by decide +kernel
theorem dX6_order_84 : decode cX6_order 84 = .ok (.ireturn, 1) := by decide +kernel
theorem dX6_share_0 : decode cX6_share 0 = .ok (.iload_n 2, 1) := by decide +kernel
theorem dX6_share_1 : decode cX6_share 1 = .ok (.invokestatic 126, 3) := by decide +kernel
theorem dX6_share_4 : decode cX6_share 4 = .ok (.ifCond .ne 6, 3) := by decide +kernel
theorem dX6_share_7 : decode cX6_share 7 = .ok (.ldc 132, 2) := by decide +kernel
theorem dX6_share_9 : decode cX6_share 9 = .ok (.ireturn, 1) := by decide +kernel
theorem dX6_share_10 : decode cX6_share 10 = .ok (.iload_n 1, 1) := by decide +kernel
theorem dX6_share_11 : decode cX6_share 11 = .ok (.iconst 0, 1) := by decide +kernel
theorem dX6_share_12 : decode cX6_share 12 = .ok (.bipush 63, 2) := by decide +kernel
theorem dX6_share_14 : decode cX6_share 14 = .ok (.invokestatic 35, 3) := by decide +kernel
theorem dX6_share_17 : decode cX6_share 17 = .ok (.ifCond .ne 6, 3) := by decide +kernel
theorem dX6_share_20 : decode cX6_share 20 = .ok (.ldc 125, 2) := by decide +kernel
theorem dX6_share_22 : decode cX6_share 22 = .ok (.ireturn, 1) := by decide +kernel
theorem dX6_share_23 : decode cX6_share 23 = .ok (.aload_n 0, 1) := by decide +kernel
theorem dX6_share_24 : decode cX6_share 24 = .ok (.iload_n 1, 1) := by decide +kernel
theorem dX6_share_25 : decode cX6_share 25 = .ok (.invokevirtual 143, 3) := by decide +kernel
theorem dX6_share_28 : decode cX6_share 28 = .ok (.aload_n 0, 1) := by decide +kernel
theorem dX6_share_29 : decode cX6_share 29 = .ok (.iload_n 1, 1) := by decide +kernel
theorem dX6_share_30 : decode cX6_share 30 = .ok (.iload_n 2, 1) := by decide +kernel
theorem dX6_share_31 : decode cX6_share 31 = .ok (.invokevirtual 146, 3) := by decide +kernel
theorem dX6_share_34 : decode cX6_share 34 = .ok (.aload_n 0, 1) := by decide +kernel
theorem dX6_share_35 : decode cX6_share 35 = .ok (.getfield 32, 3) := by decide +kernel
theorem dX6_share_38 : decode cX6_share 38 = .ok (.iload_n 2, 1) := by decide +kernel
theorem dX6_share_39 : decode cX6_share 39 = .ok (.iaload, 1) := by decide +kernel
theorem dX6_share_40 : decode cX6_share 40 = .ok (.iadd, 1) := by decide +kernel
theorem dX6_share_41 : decode cX6_share 41 = .ok (.ireturn, 1) := by decide +kernel
theorem dX6_ifMore_0 : decode cX6_ifMore 0 = .ok (.iload_n 1, 1) := by decide +kernel
theorem dX6_ifMore_1 : decode cX6_ifMore 1 = .ok (.invokestatic 126, 3) := by decide +kernel
theorem dX6_ifMore_4 : decode cX6_ifMore 4 = .ok (.ifCond .eq 10, 3) := by decide +kernel
theorem dX6_ifMore_7 : decode cX6_ifMore 7 = .ok (.iload_n 2, 1) := by decide +kernel
theorem dX6_ifMore_8 : decode cX6_ifMore 8 = .ok (.invokestatic 129, 3) := by decide +kernel
theorem dX6_ifMore_11 : decode cX6_ifMore 11 = .ok (.ifCond .ne 6, 3) := by decide +kernel
theorem dX6_ifMore_14 : decode cX6_ifMore 14 = .ok (.ldc 132, 2) := by decide +kernel
theorem dX6_ifMore_16 : decode cX6_ifMore 16 = .ok (.ireturn, 1) := by decide +kernel
theorem dX6_ifMore_17 : decode cX6_ifMore 17 = .ok (.iload_n 3, 1) := by decide +kernel
theorem dX6_ifMore_18 : decode cX6_ifMore 18 = .ok (.iconst 1, 1) := by decide +kernel
theorem dX6_ifMore_19 : decode cX6_ifMore 19 = .ok (.bipush 20, 2) := by decide +kernel
theorem dX6_ifMore_21 : decode cX6_ifMore 21 = .ok (.invokestatic 35, 3) := by decide +kernel
theorem dX6_ifMore_24 : decode cX6_ifMore 24 = .ok (.ifCond .ne 6, 3) := by decide +kernel
theorem dX6_ifMore_27 : decode cX6_ifMore 27 = .ok (.ldc 125, 2) := by decide +kernel
theorem dX6_ifMore_29 : decode cX6_ifMore 29 = .ok (.ireturn, 1) := by decide +kernel
theorem dX6_ifMore_30 : decode cX6_ifMore 30 = .ok (.aload_n 0, 1) := by decide +kernel
theorem dX6_ifMore_31 : decode cX6_ifMore 31 = .ok (.bipush 63, 2) := by decide +kernel
theorem dX6_ifMore_33 : decode cX6_ifMore 33 = .ok (.invokevirtual 140, 3) := by decide +kernel
theorem dX6_ifMore_36 : decode cX6_ifMore 36 = .ok (.istore 4, 2) := by decide +kernel
theorem dX6_ifMore_38 : decode cX6_ifMore 38 = .ok (.aload_n 0, 1) := by decide +kernel
theorem dX6_ifMore_39 : decode cX6_ifMore 39 = .ok (.getfield 7, 3) := by decide +kernel
theorem dX6_ifMore_42 : decode cX6_ifMore 42 = .ok (.iload_n 1, 1) := by decide +kernel
theorem dX6_ifMore_43 : decode cX6_ifMore 43 = .ok (.bipush 14, 2) := by decide +kernel
theorem dX6_ifMore_45 : decode cX6_ifMore 45 = .ok (.iload_n 2, 1) := by decide +kernel
theorem dX6_ifMore_46 : decode cX6_ifMore 46 = .ok (.iadd, 1) := by decide +kernel
theorem dX6_ifMore_47 : decode cX6_ifMore 47 = .ok (.invokestatic 47, 3) := by decide +kernel
theorem dX6_ifMore_50 : decode cX6_ifMore 50 = .ok (.dup2, 1) := by decide +kernel
theorem dX6_ifMore_51 : decode cX6_ifMore 51 = .ok (.iaload, 1) := by decide +kernel
theorem dX6_ifMore_52 : decode cX6_ifMore 52 = .ok (.iload_n 3, 1) := by decide +kernel
theorem dX6_ifMore_53 : decode cX6_ifMore 53 = .ok (.iadd, 1) := by decide +kernel
theorem dX6_ifMore_54 : decode cX6_ifMore 54 = .ok (.iastore, 1) := by decide +kernel
theorem dX6_ifMore_55 : decode cX6_ifMore 55 = .ok (.aload_n 0, 1) := by decide +kernel
theorem dX6_ifMore_56 : decode cX6_ifMore 56 = .ok (.bipush 63, 2) := by decide +kernel
theorem dX6_ifMore_58 : decode cX6_ifMore 58 = .ok (.invokevirtual 140, 3) := by decide +kernel
theorem dX6_ifMore_61 : decode cX6_ifMore 61 = .ok (.iload 4, 2) := by decide +kernel
theorem dX6_ifMore_63 : decode cX6_ifMore 63 = .ok (.isub, 1) := by decide +kernel
theorem dX6_ifMore_64 : decode cX6_ifMore 64 = .ok (.istore 5, 2) := by decide +kernel
theorem dX6_ifMore_66 : decode cX6_ifMore 66 = .ok (.aload_n 0, 1) := by decide +kernel
theorem dX6_ifMore_67 : decode cX6_ifMore 67 = .ok (.getfield 7, 3) := by decide +kernel
theorem dX6_ifMore_70 : decode cX6_ifMore 70 = .ok (.iload_n 1, 1) := by decide +kernel
theorem dX6_ifMore_71 : decode cX6_ifMore 71 = .ok (.bipush 14, 2) := by decide +kernel
theorem dX6_ifMore_73 : decode cX6_ifMore 73 = .ok (.iload_n 2, 1) := by decide +kernel
theorem dX6_ifMore_74 : decode cX6_ifMore 74 = .ok (.iadd, 1) := by decide +kernel
theorem dX6_ifMore_75 : decode cX6_ifMore 75 = .ok (.invokestatic 47, 3) := by decide +kernel
theorem dX6_ifMore_78 : decode cX6_ifMore 78 = .ok (.dup2, 1) := by decide +kernel
theorem dX6_ifMore_79 : decode cX6_ifMore 79 = .ok (.iaload, 1) := by decide +kernel
theorem dX6_ifMore_80 : decode cX6_ifMore 80 = .ok (.iload_n 3, 1) := by decide +kernel
theorem dX6_ifMore_81 : decode cX6_ifMore 81 = .ok (.isub, 1) := by decide +kernel
theorem dX6_ifMore_82 : decode cX6_ifMore 82 = .ok (.iastore, 1) := by decide +kernel
theorem dX6_ifMore_83 : decode cX6_ifMore 83 = .ok (.iload 5, 2) := by decide +kernel
theorem dX6_ifMore_85 : decode cX6_ifMore 85 = .ok (.ireturn, 1) := by decide +kernel
theorem dX6_parted_0 : decode cX6_parted 0 = .ok (.bipush 63, 2) := by decide +kernel
theorem dX6_parted_2 : decode cX6_parted 2 = .ok (.iload_n 1, 1) := by decide +kernel
theorem dX6_parted_3 : decode cX6_parted 3 = .ok (.ixor, 1) := by decide +kernel
theorem dX6_parted_4 : decode cX6_parted 4 = .ok (.istore_n 2, 1) := by decide +kernel
theorem dX6_parted_5 : decode cX6_parted 5 = .ok (.aload_n 0, 1) := by decide +kernel
theorem dX6_parted_6 : decode cX6_parted 6 = .ok (.iload_n 1, 1) := by decide +kernel
theorem dX6_parted_7 : decode cX6_parted 7 = .ok (.invokevirtual 140, 3) := by decide +kernel
theorem dX6_parted_10 : decode cX6_parted 10 = .ok (.aload_n 0, 1) := by decide +kernel
theorem dX6_parted_11 : decode cX6_parted 11 = .ok (.iload_n 2, 1) := by decide +kernel
theorem dX6_parted_12 : decode cX6_parted 12 = .ok (.invokevirtual 140, 3) := by decide +kernel
theorem dX6_parted_15 : decode cX6_parted 15 = .ok (.iadd, 1) := by decide +kernel
theorem dX6_parted_16 : decode cX6_parted 16 = .ok (.aload_n 0, 1) := by decide +kernel
theorem dX6_parted_17 : decode cX6_parted 17 = .ok (.aload_n 0, 1) := by decide +kernel
theorem dX6_parted_18 : decode cX6_parted 18 = .ok (.iload_n 1, 1) := by decide +kernel
theorem dX6_parted_19 : decode cX6_parted 19 = .ok (.invokevirtual 67, 3) := by decide +kernel
theorem dX6_parted_22 : decode cX6_parted 22 = .ok (.invokevirtual 91, 3) := by decide +kernel
theorem dX6_parted_25 : decode cX6_parted 25 = .ok (.iadd, 1) := by decide +kernel
theorem dX6_parted_26 : decode cX6_parted 26 = .ok (.aload_n 0, 1) := by decide +kernel
theorem dX6_parted_27 : decode cX6_parted 27 = .ok (.aload_n 0, 1) := by decide +kernel
theorem dX6_parted_28 : decode cX6_parted 28 = .ok (.iload_n 2, 1) := by decide +kernel
theorem dX6_parted_29 : decode cX6_parted 29 = .ok (.invokevirtual 67, 3) := by decide +kernel
theorem dX6_parted_32 : decode cX6_parted 32 = .ok (.invokevirtual 91, 3) := by decide +kernel
theorem dX6_parted_35 : decode cX6_parted 35 = .ok (.iadd, 1) := by decide +kernel
theorem dX6_parted_36 : decode cX6_parted 36 = .ok (.ireturn, 1) := by decide +kernel
theorem dX6_bestParting_0 : decode cX6_bestParting 0 = .ok (.iload_n 1, 1) := by decide +kernel
theorem dX6_bestParting_1 : decode cX6_bestParting 1 = .ok (.iconst 0, 1) := by decide +kernel
theorem dX6_bestParting_2 : decode cX6_bestParting 2 = .ok (.iconst 1, 1) := by decide +kernel
theorem dX6_bestParting_3 : decode cX6_bestParting 3 = .ok (.invokestatic 35, 3) := by decide +kernel
theorem dX6_bestParting_6 : decode cX6_bestParting 6 = .ok (.ifCond .ne 6, 3) := by decide +kernel
theorem dX6_bestParting_9 : decode cX6_bestParting 9 = .ok (.ldc 125, 2) := by decide +kernel
theorem dX6_bestParting_11 : decode cX6_bestParting 11 = .ok (.ireturn, 1) := by decide +kernel
theorem dX6_bestParting_12 : decode cX6_bestParting 12 = .ok (.bipush 63, 2) := by decide +kernel
theorem dX6_bestParting_14 : decode cX6_bestParting 14 = .ok (.istore_n 2, 1) := by decide +kernel
theorem dX6_bestParting_15 : decode cX6_bestParting 15 = .ok (.bipush 62, 2) := by decide +kernel
theorem dX6_bestParting_17 : decode cX6_bestParting 17 = .ok (.istore_n 3, 1) := by decide +kernel
theorem dX6_bestParting_18 : decode cX6_bestParting 18 = .ok (.iload_n 3, 1) := by decide +kernel
theorem dX6_bestParting_19 : decode cX6_bestParting 19 = .ok (.ifCond .lt 28, 3) := by decide +kernel
theorem dX6_bestParting_22 : decode cX6_bestParting 22 = .ok (.aload_n 0, 1) := by decide +kernel
theorem dX6_bestParting_23 : decode cX6_bestParting 23 = .ok (.iload_n 3, 1) := by decide +kernel
theorem dX6_bestParting_24 : decode cX6_bestParting 24 = .ok (.invokevirtual 175, 3) := by decide +kernel
theorem dX6_bestParting_27 : decode cX6_bestParting 27 = .ok (.aload_n 0, 1) := by decide +kernel
theorem dX6_bestParting_28 : decode cX6_bestParting 28 = .ok (.iload_n 2, 1) := by decide +kernel
theorem dX6_bestParting_29 : decode cX6_bestParting 29 = .ok (.invokevirtual 175, 3) := by decide +kernel
theorem dX6_bestParting_32 : decode cX6_bestParting 32 = .ok (.if_icmp .gt 7, 3) := by decide +kernel
theorem dX6_bestParting_35 : decode cX6_bestParting 35 = .ok (.iload_n 3, 1) := by decide +kernel
theorem dX6_bestParting_36 : decode cX6_bestParting 36 = .ok (.goto 4, 3) := by decide +kernel
theorem dX6_bestParting_39 : decode cX6_bestParting 39 = .ok (.iload_n 2, 1) := by decide +kernel
theorem dX6_bestParting_40 : decode cX6_bestParting 40 = .ok (.istore_n 2, 1) := by decide +kernel
theorem dX6_bestParting_41 : decode cX6_bestParting 41 = .ok (.iinc 3 (-1), 3) := by decide +kernel
theorem dX6_bestParting_44 : decode cX6_bestParting 44 = .ok (.goto (-26), 3) := by decide +kernel
theorem dX6_bestParting_47 : decode cX6_bestParting 47 = .ok (.iload_n 1, 1) := by decide +kernel
theorem dX6_bestParting_48 : decode cX6_bestParting 48 = .ok (.ifCond .ne 7, 3) := by decide +kernel
theorem dX6_bestParting_51 : decode cX6_bestParting 51 = .ok (.iload_n 2, 1) := by decide +kernel
theorem dX6_bestParting_52 : decode cX6_bestParting 52 = .ok (.goto 8, 3) := by decide +kernel
theorem dX6_bestParting_55 : decode cX6_bestParting 55 = .ok (.aload_n 0, 1) := by decide +kernel
theorem dX6_bestParting_56 : decode cX6_bestParting 56 = .ok (.iload_n 2, 1) := by decide +kernel
theorem dX6_bestParting_57 : decode cX6_bestParting 57 = .ok (.invokevirtual 175, 3) := by decide +kernel
theorem dX6_bestParting_60 : decode cX6_bestParting 60 = .ok (.ireturn, 1) := by decide +kernel
theorem dX6_standIn_0 : decode cX6_standIn 0 = .ok (.iload_n 1, 1) := by decide +kernel
theorem dX6_standIn_1 : decode cX6_standIn 1 = .ok (.invokestatic 126, 3) := by decide +kernel
theorem dX6_standIn_4 : decode cX6_standIn 4 = .ok (.ifCond .eq 10, 3) := by decide +kernel
theorem dX6_standIn_7 : decode cX6_standIn 7 = .ok (.iload_n 2, 1) := by decide +kernel
theorem dX6_standIn_8 : decode cX6_standIn 8 = .ok (.invokestatic 129, 3) := by decide +kernel
theorem dX6_standIn_11 : decode cX6_standIn 11 = .ok (.ifCond .ne 6, 3) := by decide +kernel
theorem dX6_standIn_14 : decode cX6_standIn 14 = .ok (.ldc 132, 2) := by decide +kernel
theorem dX6_standIn_16 : decode cX6_standIn 16 = .ok (.ireturn, 1) := by decide +kernel
theorem dX6_standIn_17 : decode cX6_standIn 17 = .ok (.aload_n 0, 1) := by decide +kernel
theorem dX6_standIn_18 : decode cX6_standIn 18 = .ok (.iload_n 1, 1) := by decide +kernel
theorem dX6_standIn_19 : decode cX6_standIn 19 = .ok (.iload_n 2, 1) := by decide +kernel
theorem dX6_standIn_20 : decode cX6_standIn 20 = .ok (.iload_n 2, 1) := by decide +kernel
theorem dX6_standIn_21 : decode cX6_standIn 21 = .ok (.invokevirtual 137, 3) := by decide +kernel
theorem dX6_standIn_24 : decode cX6_standIn 24 = .ok (.ifCond .eq 7, 3) := by decide +kernel
theorem dX6_standIn_27 : decode cX6_standIn 27 = .ok (.iload_n 2, 1) := by decide +kernel
theorem dX6_standIn_28 : decode cX6_standIn 28 = .ok (.goto 41, 3) := by decide +kernel
theorem dX6_standIn_31 : decode cX6_standIn 31 = .ok (.aload_n 0, 1) := by decide +kernel
theorem dX6_standIn_32 : decode cX6_standIn 32 = .ok (.iload_n 1, 1) := by decide +kernel
theorem dX6_standIn_33 : decode cX6_standIn 33 = .ok (.iload_n 2, 1) := by decide +kernel
theorem dX6_standIn_34 : decode cX6_standIn 34 = .ok (.iload_n 2, 1) := by decide +kernel
theorem dX6_standIn_35 : decode cX6_standIn 35 = .ok (.iconst 1, 1) := by decide +kernel
theorem dX6_standIn_36 : decode cX6_standIn 36 = .ok (.isub, 1) := by decide +kernel
theorem dX6_standIn_37 : decode cX6_standIn 37 = .ok (.invokevirtual 137, 3) := by decide +kernel
theorem dX6_standIn_40 : decode cX6_standIn 40 = .ok (.ifCond .eq 9, 3) := by decide +kernel
theorem dX6_standIn_43 : decode cX6_standIn 43 = .ok (.iload_n 2, 1) := by decide +kernel
theorem dX6_standIn_44 : decode cX6_standIn 44 = .ok (.iconst 1, 1) := by decide +kernel
theorem dX6_standIn_45 : decode cX6_standIn 45 = .ok (.isub, 1) := by decide +kernel
theorem dX6_standIn_46 : decode cX6_standIn 46 = .ok (.goto 23, 3) := by decide +kernel
theorem dX6_standIn_49 : decode cX6_standIn 49 = .ok (.aload_n 0, 1) := by decide +kernel
theorem dX6_standIn_50 : decode cX6_standIn 50 = .ok (.iload_n 1, 1) := by decide +kernel
theorem dX6_standIn_51 : decode cX6_standIn 51 = .ok (.iload_n 2, 1) := by decide +kernel
theorem dX6_standIn_52 : decode cX6_standIn 52 = .ok (.iload_n 2, 1) := by decide +kernel
theorem dX6_standIn_53 : decode cX6_standIn 53 = .ok (.iconst 1, 1) := by decide +kernel
theorem dX6_standIn_54 : decode cX6_standIn 54 = .ok (.iadd, 1) := by decide +kernel
theorem dX6_standIn_55 : decode cX6_standIn 55 = .ok (.invokevirtual 137, 3) := by decide +kernel
theorem dX6_standIn_58 : decode cX6_standIn 58 = .ok (.ifCond .eq 9, 3) := by decide +kernel
theorem dX6_standIn_61 : decode cX6_standIn 61 = .ok (.iload_n 2, 1) := by decide +kernel
theorem dX6_standIn_62 : decode cX6_standIn 62 = .ok (.iconst 1, 1) := by decide +kernel
theorem dX6_standIn_63 : decode cX6_standIn 63 = .ok (.iadd, 1) := by decide +kernel
theorem dX6_standIn_64 : decode cX6_standIn 64 = .ok (.goto 5, 3) := by decide +kernel
theorem dX6_standIn_67 : decode cX6_standIn 67 = .ok (.ldc 178, 2) := by decide +kernel
theorem dX6_standIn_69 : decode cX6_standIn 69 = .ok (.ireturn, 1) := by decide +kernel
theorem dX6_untilHome_0 : decode cX6_untilHome 0 = .ok (.aload_n 0, 1) := by decide +kernel
theorem dX6_untilHome_1 : decode cX6_untilHome 1 = .ok (.invokevirtual 179, 3) := by decide +kernel
theorem dX6_untilHome_4 : decode cX6_untilHome 4 = .ok (.iconst 0, 1) := by decide +kernel
theorem dX6_untilHome_5 : decode cX6_untilHome 5 = .ok (.istore_n 1, 1) := by decide +kernel
theorem dX6_untilHome_6 : decode cX6_untilHome 6 = .ok (.aload_n 0, 1) := by decide +kernel
theorem dX6_untilHome_7 : decode cX6_untilHome 7 = .ok (.getfield 7, 3) := by decide +kernel
theorem dX6_untilHome_10 : decode cX6_untilHome 10 = .ok (.bipush 14, 2) := by decide +kernel
theorem dX6_untilHome_12 : decode cX6_untilHome 12 = .ok (.iaload, 1) := by decide +kernel
theorem dX6_untilHome_13 : decode cX6_untilHome 13 = .ok (.ifCond .le 14, 3) := by decide +kernel
theorem dX6_untilHome_16 : decode cX6_untilHome 16 = .ok (.aload_n 0, 1) := by decide +kernel
theorem dX6_untilHome_17 : decode cX6_untilHome 17 = .ok (.invokevirtual 157, 3) := by decide +kernel
theorem dX6_untilHome_20 : decode cX6_untilHome 20 = .ok (.istore_n 2, 1) := by decide +kernel
theorem dX6_untilHome_21 : decode cX6_untilHome 21 = .ok (.iinc 1 1, 3) := by decide +kernel
theorem dX6_untilHome_24 : decode cX6_untilHome 24 = .ok (.goto (-18), 3) := by decide +kernel
theorem dX6_untilHome_27 : decode cX6_untilHome 27 = .ok (.aload_n 0, 1) := by decide +kernel
theorem dX6_untilHome_28 : decode cX6_untilHome 28 = .ok (.invokevirtual 182, 3) := by decide +kernel
theorem dX6_untilHome_31 : decode cX6_untilHome 31 = .ok (.iload_n 1, 1) := by decide +kernel
theorem dX6_untilHome_32 : decode cX6_untilHome 32 = .ok (.ireturn, 1) := by decide +kernel
theorem dX6_put_0 : decode cX6_put 0 = .ok (.iconst 0, 1) := by decide +kernel
theorem dX6_put_1 : decode cX6_put 1 = .ok (.istore_n 3, 1) := by decide +kernel
theorem dX6_put_2 : decode cX6_put 2 = .ok (.iconst 0, 1) := by decide +kernel
theorem dX6_put_3 : decode cX6_put 3 = .ok (.istore 4, 2) := by decide +kernel
theorem dX6_put_5 : decode cX6_put 5 = .ok (.iconst 0, 1) := by decide +kernel
theorem dX6_put_6 : decode cX6_put 6 = .ok (.istore 5, 2) := by decide +kernel
theorem dX6_put_8 : decode cX6_put 8 = .ok (.iload 5, 2) := by decide +kernel
theorem dX6_put_10 : decode cX6_put 10 = .ok (.bipush 8, 2) := by decide +kernel
theorem dX6_put_12 : decode cX6_put 12 = .ok (.if_icmp .ge 89, 3) := by decide +kernel
theorem dX6_put_15 : decode cX6_put 15 = .ok (.lload_n 1, 1) := by decide +kernel
theorem dX6_put_16 : decode cX6_put 16 = .ok (.bipush 8, 2) := by decide +kernel
theorem dX6_put_18 : decode cX6_put 18 = .ok (.iload 5, 2) := by decide +kernel
theorem dX6_put_20 : decode cX6_put 20 = .ok (.imul, 1) := by decide +kernel
theorem dX6_put_21 : decode cX6_put 21 = .ok (.lushr, 1) := by decide +kernel
theorem dX6_put_22 : decode cX6_put 22 = .ok (.ldc2_w 185, 3) := by decide +kernel
theorem dX6_put_25 : decode cX6_put 25 = .ok (.land, 1) := by decide +kernel
theorem dX6_put_26 : decode cX6_put 26 = .ok (.l2i, 1) := by decide +kernel
theorem dX6_put_27 : decode cX6_put 27 = .ok (.istore 6, 2) := by decide +kernel
theorem dX6_put_29 : decode cX6_put 29 = .ok (.iload 5, 2) := by decide +kernel
theorem dX6_put_31 : decode cX6_put 31 = .ok (.ifCond .le 19, 3) := by decide +kernel
theorem dX6_put_34 : decode cX6_put 34 = .ok (.lload_n 1, 1) := by decide +kernel
theorem dX6_put_35 : decode cX6_put 35 = .ok (.bipush 8, 2) := by decide +kernel
theorem dX6_put_37 : decode cX6_put 37 = .ok (.iload 5, 2) := by decide +kernel
theorem dX6_put_39 : decode cX6_put 39 = .ok (.imul, 1) := by decide +kernel
theorem dX6_put_40 : decode cX6_put 40 = .ok (.lushr, 1) := by decide +kernel
theorem dX6_put_41 : decode cX6_put 41 = .ok (.lconst 0, 1) := by decide +kernel
theorem dX6_put_42 : decode cX6_put 42 = .ok (.lcmp, 1) := by decide +kernel
theorem dX6_put_43 : decode cX6_put 43 = .ok (.ifCond .ne 7, 3) := by decide +kernel
theorem dX6_put_46 : decode cX6_put 46 = .ok (.iconst 1, 1) := by decide +kernel
theorem dX6_put_47 : decode cX6_put 47 = .ok (.goto 4, 3) := by decide +kernel
theorem dX6_put_50 : decode cX6_put 50 = .ok (.iconst 0, 1) := by decide +kernel
theorem dX6_put_51 : decode cX6_put 51 = .ok (.istore 7, 2) := by decide +kernel
theorem dX6_put_53 : decode cX6_put 53 = .ok (.iload 4, 2) := by decide +kernel
theorem dX6_put_55 : decode cX6_put 55 = .ok (.ifCond .ne 20, 3) := by decide +kernel
theorem dX6_put_58 : decode cX6_put 58 = .ok (.iload 7, 2) := by decide +kernel
theorem dX6_put_60 : decode cX6_put 60 = .ok (.ifCond .ne 19, 3) := by decide +kernel
theorem dX6_put_63 : decode cX6_put 63 = .ok (.iload 6, 2) := by decide +kernel
theorem dX6_put_65 : decode cX6_put 65 = .ok (.bipush 33, 2) := by decide +kernel
theorem dX6_put_67 : decode cX6_put 67 = .ok (.bipush 126, 2) := by decide +kernel
theorem dX6_put_69 : decode cX6_put 69 = .ok (.invokestatic 35, 3) := by decide +kernel
theorem dX6_put_72 : decode cX6_put 72 = .ok (.ifCond .ne 7, 3) := by decide +kernel
theorem dX6_put_75 : decode cX6_put 75 = .ok (.iconst 1, 1) := by decide +kernel
theorem dX6_put_76 : decode cX6_put 76 = .ok (.goto 4, 3) := by decide +kernel
theorem dX6_put_79 : decode cX6_put 79 = .ok (.iconst 0, 1) := by decide +kernel
theorem dX6_put_80 : decode cX6_put 80 = .ok (.istore 4, 2) := by decide +kernel
theorem dX6_put_82 : decode cX6_put 82 = .ok (.iload_n 3, 1) := by decide +kernel
theorem dX6_put_83 : decode cX6_put 83 = .ok (.iload 7, 2) := by decide +kernel
theorem dX6_put_85 : decode cX6_put 85 = .ok (.ifCond .eq 7, 3) := by decide +kernel
theorem dX6_put_88 : decode cX6_put 88 = .ok (.iconst 0, 1) := by decide +kernel
theorem dX6_put_89 : decode cX6_put 89 = .ok (.goto 4, 3) := by decide +kernel
theorem dX6_put_92 : decode cX6_put 92 = .ok (.iconst 1, 1) := by decide +kernel
theorem dX6_put_93 : decode cX6_put 93 = .ok (.iadd, 1) := by decide +kernel
theorem dX6_put_94 : decode cX6_put 94 = .ok (.istore_n 3, 1) := by decide +kernel
theorem dX6_put_95 : decode cX6_put 95 = .ok (.iinc 5 1, 3) := by decide +kernel
theorem dX6_put_98 : decode cX6_put 98 = .ok (.goto (-90), 3) := by decide +kernel
theorem dX6_put_101 : decode cX6_put 101 = .ok (.iload 4, 2) := by decide +kernel
theorem dX6_put_103 : decode cX6_put 103 = .ok (.ifCond .eq 6, 3) := by decide +kernel
theorem dX6_put_106 : decode cX6_put 106 = .ok (.ldc 125, 2) := by decide +kernel
theorem dX6_put_108 : decode cX6_put 108 = .ok (.ireturn, 1) := by decide +kernel
theorem dX6_put_109 : decode cX6_put 109 = .ok (.aload_n 0, 1) := by decide +kernel
theorem dX6_put_110 : decode cX6_put 110 = .ok (.getfield 172, 3) := by decide +kernel
theorem dX6_put_113 : decode cX6_put 113 = .ok (.iload_n 3, 1) := by decide +kernel
theorem dX6_put_114 : decode cX6_put 114 = .ok (.iadd, 1) := by decide +kernel
theorem dX6_put_115 : decode cX6_put 115 = .ok (.bipush 60, 2) := by decide +kernel
theorem dX6_put_117 : decode cX6_put 117 = .ok (.if_icmp .le 6, 3) := by decide +kernel
theorem dX6_put_120 : decode cX6_put 120 = .ok (.ldc 153, 2) := by decide +kernel
theorem dX6_put_122 : decode cX6_put 122 = .ok (.ireturn, 1) := by decide +kernel
theorem dX6_put_123 : decode cX6_put 123 = .ok (.iconst 0, 1) := by decide +kernel
theorem dX6_put_124 : decode cX6_put 124 = .ok (.istore 5, 2) := by decide +kernel
theorem dX6_put_126 : decode cX6_put 126 = .ok (.iload 5, 2) := by decide +kernel
theorem dX6_put_128 : decode cX6_put 128 = .ok (.iload_n 3, 1) := by decide +kernel
theorem dX6_put_129 : decode cX6_put 129 = .ok (.if_icmp .ge 37, 3) := by decide +kernel
theorem dX6_put_132 : decode cX6_put 132 = .ok (.aload_n 0, 1) := by decide +kernel
theorem dX6_put_133 : decode cX6_put 133 = .ok (.getfield 26, 3) := by decide +kernel
theorem dX6_put_136 : decode cX6_put 136 = .ok (.aload_n 0, 1) := by decide +kernel
theorem dX6_put_137 : decode cX6_put 137 = .ok (.getfield 172, 3) := by decide +kernel
theorem dX6_put_140 : decode cX6_put 140 = .ok (.iload_n 3, 1) := by decide +kernel
theorem dX6_put_141 : decode cX6_put 141 = .ok (.iadd, 1) := by decide +kernel
theorem dX6_put_142 : decode cX6_put 142 = .ok (.iconst 1, 1) := by decide +kernel
theorem dX6_put_143 : decode cX6_put 143 = .ok (.isub, 1) := by decide +kernel
theorem dX6_put_144 : decode cX6_put 144 = .ok (.iload 5, 2) := by decide +kernel
theorem dX6_put_146 : decode cX6_put 146 = .ok (.isub, 1) := by decide +kernel
theorem dX6_put_147 : decode cX6_put 147 = .ok (.lload_n 1, 1) := by decide +kernel
theorem dX6_put_148 : decode cX6_put 148 = .ok (.bipush 8, 2) := by decide +kernel
theorem dX6_put_150 : decode cX6_put 150 = .ok (.iload 5, 2) := by decide +kernel
theorem dX6_put_152 : decode cX6_put 152 = .ok (.imul, 1) := by decide +kernel
theorem dX6_put_153 : decode cX6_put 153 = .ok (.lushr, 1) := by decide +kernel
theorem dX6_put_154 : decode cX6_put 154 = .ok (.ldc2_w 185, 3) := by decide +kernel
theorem dX6_put_157 : decode cX6_put 157 = .ok (.land, 1) := by decide +kernel
theorem dX6_put_158 : decode cX6_put 158 = .ok (.l2i, 1) := by decide +kernel
theorem dX6_put_159 : decode cX6_put 159 = .ok (.iastore, 1) := by decide +kernel
theorem dX6_put_160 : decode cX6_put 160 = .ok (.iinc 5 1, 3) := by decide +kernel
theorem dX6_put_163 : decode cX6_put 163 = .ok (.goto (-37), 3) := by decide +kernel
theorem dX6_put_166 : decode cX6_put 166 = .ok (.aload_n 0, 1) := by decide +kernel
theorem dX6_put_167 : decode cX6_put 167 = .ok (.dup, 1) := by decide +kernel
theorem dX6_put_168 : decode cX6_put 168 = .ok (.getfield 172, 3) := by decide +kernel
theorem dX6_put_171 : decode cX6_put 171 = .ok (.iload_n 3, 1) := by decide +kernel
theorem dX6_put_172 : decode cX6_put 172 = .ok (.iadd, 1) := by decide +kernel
theorem dX6_put_173 : decode cX6_put 173 = .ok (.putfield 172, 3) := by decide +kernel
theorem dX6_put_176 : decode cX6_put 176 = .ok (.aload_n 0, 1) := by decide +kernel
theorem dX6_put_177 : decode cX6_put 177 = .ok (.getfield 172, 3) := by decide +kernel
theorem dX6_put_180 : decode cX6_put 180 = .ok (.ireturn, 1) := by decide +kernel
theorem dX6_wipe_0 : decode cX6_wipe 0 = .ok (.aload_n 0, 1) := by decide +kernel
theorem dX6_wipe_1 : decode cX6_wipe 1 = .ok (.getfield 172, 3) := by decide +kernel
theorem dX6_wipe_4 : decode cX6_wipe 4 = .ok (.istore_n 1, 1) := by decide +kernel
theorem dX6_wipe_5 : decode cX6_wipe 5 = .ok (.aload_n 0, 1) := by decide +kernel
theorem dX6_wipe_6 : decode cX6_wipe 6 = .ok (.iconst 0, 1) := by decide +kernel
theorem dX6_wipe_7 : decode cX6_wipe 7 = .ok (.putfield 172, 3) := by decide +kernel
theorem dX6_wipe_10 : decode cX6_wipe 10 = .ok (.iload_n 1, 1) := by decide +kernel
theorem dX6_wipe_11 : decode cX6_wipe 11 = .ok (.ireturn, 1) := by decide +kernel
theorem dX6_isNext_0 : decode cX6_isNext 0 = .ok (.aload_n 0, 1) := by decide +kernel
theorem dX6_isNext_1 : decode cX6_isNext 1 = .ok (.getfield 187, 3) := by decide +kernel
theorem dX6_isNext_4 : decode cX6_isNext 4 = .ok (.ifCond .ne 35, 3) := by decide +kernel
theorem dX6_isNext_7 : decode cX6_isNext 7 = .ok (.aload_n 0, 1) := by decide +kernel
theorem dX6_isNext_8 : decode cX6_isNext 8 = .ok (.getfield 191, 3) := by decide +kernel
theorem dX6_isNext_11 : decode cX6_isNext 11 = .ok (.aload_n 0, 1) := by decide +kernel
theorem dX6_isNext_12 : decode cX6_isNext 12 = .ok (.getfield 172, 3) := by decide +kernel
theorem dX6_isNext_15 : decode cX6_isNext 15 = .ok (.if_icmp .ge 24, 3) := by decide +kernel
theorem dX6_isNext_18 : decode cX6_isNext 18 = .ok (.aload_n 0, 1) := by decide +kernel
theorem dX6_isNext_19 : decode cX6_isNext 19 = .ok (.getfield 26, 3) := by decide +kernel
theorem dX6_isNext_22 : decode cX6_isNext 22 = .ok (.aload_n 0, 1) := by decide +kernel
theorem dX6_isNext_23 : decode cX6_isNext 23 = .ok (.getfield 191, 3) := by decide +kernel
theorem dX6_isNext_26 : decode cX6_isNext 26 = .ok (.iaload, 1) := by decide +kernel
theorem dX6_isNext_27 : decode cX6_isNext 27 = .ok (.iload_n 1, 1) := by decide +kernel
theorem dX6_isNext_28 : decode cX6_isNext 28 = .ok (.iload_n 2, 1) := by decide +kernel
theorem dX6_isNext_29 : decode cX6_isNext 29 = .ok (.invokestatic 35, 3) := by decide +kernel
theorem dX6_isNext_32 : decode cX6_isNext 32 = .ok (.ifCond .eq 7, 3) := by decide +kernel
theorem dX6_isNext_35 : decode cX6_isNext 35 = .ok (.iconst 1, 1) := by decide +kernel
theorem dX6_isNext_36 : decode cX6_isNext 36 = .ok (.goto 4, 3) := by decide +kernel
theorem dX6_isNext_39 : decode cX6_isNext 39 = .ok (.iconst 0, 1) := by decide +kernel
theorem dX6_isNext_40 : decode cX6_isNext 40 = .ok (.ireturn, 1) := by decide +kernel
theorem dX6_takes_0 : decode cX6_takes 0 = .ok (.aload_n 0, 1) := by decide +kernel
theorem dX6_takes_1 : decode cX6_takes 1 = .ok (.getfield 191, 3) := by decide +kernel
theorem dX6_takes_4 : decode cX6_takes 4 = .ok (.aload_n 0, 1) := by decide +kernel
theorem dX6_takes_5 : decode cX6_takes 5 = .ok (.getfield 172, 3) := by decide +kernel
theorem dX6_takes_8 : decode cX6_takes 8 = .ok (.if_icmp .ge 15, 3) := by decide +kernel
theorem dX6_takes_11 : decode cX6_takes 11 = .ok (.aload_n 0, 1) := by decide +kernel
theorem dX6_takes_12 : decode cX6_takes 12 = .ok (.getfield 26, 3) := by decide +kernel
theorem dX6_takes_15 : decode cX6_takes 15 = .ok (.aload_n 0, 1) := by decide +kernel
theorem dX6_takes_16 : decode cX6_takes 16 = .ok (.getfield 191, 3) := by decide +kernel
theorem dX6_takes_19 : decode cX6_takes 19 = .ok (.iaload, 1) := by decide +kernel
theorem dX6_takes_20 : decode cX6_takes 20 = .ok (.goto 4, 3) := by decide +kernel
theorem dX6_takes_23 : decode cX6_takes 23 = .ok (.iconst 0, 1) := by decide +kernel
theorem dX6_takes_24 : decode cX6_takes 24 = .ok (.istore_n 3, 1) := by decide +kernel
theorem dX6_takes_25 : decode cX6_takes 25 = .ok (.aload_n 0, 1) := by decide +kernel
theorem dX6_takes_26 : decode cX6_takes 26 = .ok (.aload_n 0, 1) := by decide +kernel
theorem dX6_takes_27 : decode cX6_takes 27 = .ok (.getfield 187, 3) := by decide +kernel
theorem dX6_takes_30 : decode cX6_takes 30 = .ok (.ifCond .ne 12, 3) := by decide +kernel
theorem dX6_takes_33 : decode cX6_takes 33 = .ok (.iload_n 3, 1) := by decide +kernel
theorem dX6_takes_34 : decode cX6_takes 34 = .ok (.iload_n 1, 1) := by decide +kernel
theorem dX6_takes_35 : decode cX6_takes 35 = .ok (.iload_n 2, 1) := by decide +kernel
theorem dX6_takes_36 : decode cX6_takes 36 = .ok (.invokestatic 35, 3) := by decide +kernel
theorem dX6_takes_39 : decode cX6_takes 39 = .ok (.ifCond .ne 7, 3) := by decide +kernel
theorem dX6_takes_42 : decode cX6_takes 42 = .ok (.iconst 1, 1) := by decide +kernel
theorem dX6_takes_43 : decode cX6_takes 43 = .ok (.goto 4, 3) := by decide +kernel
theorem dX6_takes_46 : decode cX6_takes 46 = .ok (.iconst 0, 1) := by decide +kernel
theorem dX6_takes_47 : decode cX6_takes 47 = .ok (.putfield 187, 3) := by decide +kernel
theorem dX6_takes_50 : decode cX6_takes 50 = .ok (.aload_n 0, 1) := by decide +kernel
theorem dX6_takes_51 : decode cX6_takes 51 = .ok (.dup, 1) := by decide +kernel
theorem dX6_takes_52 : decode cX6_takes 52 = .ok (.getfield 191, 3) := by decide +kernel
theorem dX6_takes_55 : decode cX6_takes 55 = .ok (.aload_n 0, 1) := by decide +kernel
theorem dX6_takes_56 : decode cX6_takes 56 = .ok (.getfield 187, 3) := by decide +kernel
theorem dX6_takes_59 : decode cX6_takes 59 = .ok (.ifCond .eq 7, 3) := by decide +kernel
theorem dX6_takes_62 : decode cX6_takes 62 = .ok (.iconst 0, 1) := by decide +kernel
theorem dX6_takes_63 : decode cX6_takes 63 = .ok (.goto 4, 3) := by decide +kernel
theorem dX6_takes_66 : decode cX6_takes 66 = .ok (.iconst 1, 1) := by decide +kernel
theorem dX6_takes_67 : decode cX6_takes 67 = .ok (.iadd, 1) := by decide +kernel
theorem dX6_takes_68 : decode cX6_takes 68 = .ok (.putfield 191, 3) := by decide +kernel
theorem dX6_takes_71 : decode cX6_takes 71 = .ok (.iload_n 3, 1) := by decide +kernel
theorem dX6_takes_72 : decode cX6_takes 72 = .ok (.iload_n 1, 1) := by decide +kernel
theorem dX6_takes_73 : decode cX6_takes 73 = .ok (.isub, 1) := by decide +kernel
theorem dX6_takes_74 : decode cX6_takes 74 = .ok (.ireturn, 1) := by decide +kernel
theorem dX6_takesMany_0 : decode cX6_takesMany 0 = .ok (.iconst 1, 1) := by decide +kernel
theorem dX6_takesMany_1 : decode cX6_takesMany 1 = .ok (.aload_n 0, 1) := by decide +kernel
theorem dX6_takesMany_2 : decode cX6_takesMany 2 = .ok (.bipush 49, 2) := by decide +kernel
theorem dX6_takesMany_4 : decode cX6_takesMany 4 = .ok (.bipush 57, 2) := by decide +kernel
theorem dX6_takesMany_6 : decode cX6_takesMany 6 = .ok (.invokevirtual 194, 3) := by decide +kernel
theorem dX6_takesMany_9 : decode cX6_takesMany 9 = .ok (.iadd, 1) := by decide +kernel
theorem dX6_takesMany_10 : decode cX6_takesMany 10 = .ok (.istore_n 1, 1) := by decide +kernel
theorem dX6_takesMany_11 : decode cX6_takesMany 11 = .ok (.iload_n 1, 1) := by decide +kernel
theorem dX6_takesMany_12 : decode cX6_takesMany 12 = .ok (.iconst 1, 1) := by decide +kernel
theorem dX6_takesMany_13 : decode cX6_takesMany 13 = .ok (.if_icmp .ne 14, 3) := by decide +kernel
theorem dX6_takesMany_16 : decode cX6_takesMany 16 = .ok (.aload_n 0, 1) := by decide +kernel
theorem dX6_takesMany_17 : decode cX6_takesMany 17 = .ok (.bipush 48, 2) := by decide +kernel
theorem dX6_takesMany_19 : decode cX6_takesMany 19 = .ok (.bipush 57, 2) := by decide +kernel
theorem dX6_takesMany_21 : decode cX6_takesMany 21 = .ok (.invokevirtual 197, 3) := by decide +kernel
theorem dX6_takesMany_24 : decode cX6_takesMany 24 = .ok (.ifCond .ne 19, 3) := by decide +kernel
theorem dX6_takesMany_27 : decode cX6_takesMany 27 = .ok (.iload_n 1, 1) := by decide +kernel
theorem dX6_takesMany_28 : decode cX6_takesMany 28 = .ok (.iconst 2, 1) := by decide +kernel
theorem dX6_takesMany_29 : decode cX6_takesMany 29 = .ok (.if_icmp .ne 18, 3) := by decide +kernel
theorem dX6_takesMany_32 : decode cX6_takesMany 32 = .ok (.aload_n 0, 1) := by decide +kernel
theorem dX6_takesMany_33 : decode cX6_takesMany 33 = .ok (.bipush 48, 2) := by decide +kernel
theorem dX6_takesMany_35 : decode cX6_takesMany 35 = .ok (.bipush 48, 2) := by decide +kernel
theorem dX6_takesMany_37 : decode cX6_takesMany 37 = .ok (.invokevirtual 197, 3) := by decide +kernel
theorem dX6_takesMany_40 : decode cX6_takesMany 40 = .ok (.ifCond .eq 7, 3) := by decide +kernel
theorem dX6_takesMany_43 : decode cX6_takesMany 43 = .ok (.iconst 1, 1) := by decide +kernel
theorem dX6_takesMany_44 : decode cX6_takesMany 44 = .ok (.goto 4, 3) := by decide +kernel
theorem dX6_takesMany_47 : decode cX6_takesMany 47 = .ok (.iconst 0, 1) := by decide +kernel
theorem dX6_takesMany_48 : decode cX6_takesMany 48 = .ok (.istore_n 2, 1) := by decide +kernel
theorem dX6_takesMany_49 : decode cX6_takesMany 49 = .ok (.iload_n 2, 1) := by decide +kernel
theorem dX6_takesMany_50 : decode cX6_takesMany 50 = .ok (.ifCond .eq 19, 3) := by decide +kernel
theorem dX6_takesMany_53 : decode cX6_takesMany 53 = .ok (.bipush 10, 2) := by decide +kernel
theorem dX6_takesMany_55 : decode cX6_takesMany 55 = .ok (.iload_n 1, 1) := by decide +kernel
theorem dX6_takesMany_56 : decode cX6_takesMany 56 = .ok (.imul, 1) := by decide +kernel
theorem dX6_takesMany_57 : decode cX6_takesMany 57 = .ok (.aload_n 0, 1) := by decide +kernel
theorem dX6_takesMany_58 : decode cX6_takesMany 58 = .ok (.bipush 48, 2) := by decide +kernel
theorem dX6_takesMany_60 : decode cX6_takesMany 60 = .ok (.bipush 57, 2) := by decide +kernel
theorem dX6_takesMany_62 : decode cX6_takesMany 62 = .ok (.invokevirtual 194, 3) := by decide +kernel
theorem dX6_takesMany_65 : decode cX6_takesMany 65 = .ok (.iadd, 1) := by decide +kernel
theorem dX6_takesMany_66 : decode cX6_takesMany 66 = .ok (.goto 4, 3) := by decide +kernel
theorem dX6_takesMany_69 : decode cX6_takesMany 69 = .ok (.iload_n 1, 1) := by decide +kernel
theorem dX6_takesMany_70 : decode cX6_takesMany 70 = .ok (.ireturn, 1) := by decide +kernel
theorem dX6_part_0 : decode cX6_part 0 = .ok (.aload_n 0, 1) := by decide +kernel
theorem dX6_part_1 : decode cX6_part 1 = .ok (.bipush 97, 2) := by decide +kernel
theorem dX6_part_3 : decode cX6_part 3 = .ok (.bipush 102, 2) := by decide +kernel
theorem dX6_part_5 : decode cX6_part 5 = .ok (.invokevirtual 194, 3) := by decide +kernel
theorem dX6_part_8 : decode cX6_part 8 = .ok (.istore_n 2, 1) := by decide +kernel
theorem dX6_part_9 : decode cX6_part 9 = .ok (.iconst 1, 1) := by decide +kernel
theorem dX6_part_10 : decode cX6_part 10 = .ok (.istore_n 3, 1) := by decide +kernel
theorem dX6_part_11 : decode cX6_part 11 = .ok (.iload_n 3, 1) := by decide +kernel
theorem dX6_part_12 : decode cX6_part 12 = .ok (.ifCond .eq 110, 3) := by decide +kernel
theorem dX6_part_15 : decode cX6_part 15 = .ok (.aload_n 0, 1) := by decide +kernel
theorem dX6_part_16 : decode cX6_part 16 = .ok (.bipush 48, 2) := by decide +kernel
theorem dX6_part_18 : decode cX6_part 18 = .ok (.bipush 55, 2) := by decide +kernel
theorem dX6_part_20 : decode cX6_part 20 = .ok (.invokevirtual 194, 3) := by decide +kernel
theorem dX6_part_23 : decode cX6_part 23 = .ok (.istore 4, 2) := by decide +kernel
theorem dX6_part_25 : decode cX6_part 25 = .ok (.aload_n 0, 1) := by decide +kernel
theorem dX6_part_26 : decode cX6_part 26 = .ok (.bipush 58, 2) := by decide +kernel
theorem dX6_part_28 : decode cX6_part 28 = .ok (.bipush 58, 2) := by decide +kernel
theorem dX6_part_30 : decode cX6_part 30 = .ok (.invokevirtual 194, 3) := by decide +kernel
theorem dX6_part_33 : decode cX6_part 33 = .ok (.istore 5, 2) := by decide +kernel
theorem dX6_part_35 : decode cX6_part 35 = .ok (.aload_n 0, 1) := by decide +kernel
theorem dX6_part_36 : decode cX6_part 36 = .ok (.invokevirtual 200, 3) := by decide +kernel
theorem dX6_part_39 : decode cX6_part 39 = .ok (.istore 6, 2) := by decide +kernel
theorem dX6_part_41 : decode cX6_part 41 = .ok (.iload_n 1, 1) := by decide +kernel
theorem dX6_part_42 : decode cX6_part 42 = .ok (.ifCond .eq 50, 3) := by decide +kernel
theorem dX6_part_45 : decode cX6_part 45 = .ok (.aload_n 0, 1) := by decide +kernel
theorem dX6_part_46 : decode cX6_part 46 = .ok (.getfield 7, 3) := by decide +kernel
theorem dX6_part_49 : decode cX6_part 49 = .ok (.iload_n 2, 1) := by decide +kernel
theorem dX6_part_50 : decode cX6_part 50 = .ok (.bipush 14, 2) := by decide +kernel
theorem dX6_part_52 : decode cX6_part 52 = .ok (.iload 4, 2) := by decide +kernel
theorem dX6_part_54 : decode cX6_part 54 = .ok (.iadd, 1) := by decide +kernel
theorem dX6_part_55 : decode cX6_part 55 = .ok (.invokestatic 47, 3) := by decide +kernel
theorem dX6_part_58 : decode cX6_part 58 = .ok (.iaload, 1) := by decide +kernel
theorem dX6_part_59 : decode cX6_part 59 = .ok (.iload 6, 2) := by decide +kernel
theorem dX6_part_61 : decode cX6_part 61 = .ok (.iadd, 1) := by decide +kernel
theorem dX6_part_62 : decode cX6_part 62 = .ok (.istore 7, 2) := by decide +kernel
theorem dX6_part_64 : decode cX6_part 64 = .ok (.aload_n 0, 1) := by decide +kernel
theorem dX6_part_65 : decode cX6_part 65 = .ok (.getfield 7, 3) := by decide +kernel
theorem dX6_part_68 : decode cX6_part 68 = .ok (.iload_n 2, 1) := by decide +kernel
theorem dX6_part_69 : decode cX6_part 69 = .ok (.bipush 14, 2) := by decide +kernel
theorem dX6_part_71 : decode cX6_part 71 = .ok (.iload 4, 2) := by decide +kernel
theorem dX6_part_73 : decode cX6_part 73 = .ok (.iadd, 1) := by decide +kernel
theorem dX6_part_74 : decode cX6_part 74 = .ok (.invokestatic 47, 3) := by decide +kernel
theorem dX6_part_77 : decode cX6_part 77 = .ok (.iload 7, 2) := by decide +kernel
theorem dX6_part_79 : decode cX6_part 79 = .ok (.bipush 20, 2) := by decide +kernel
theorem dX6_part_81 : decode cX6_part 81 = .ok (.if_icmp .le 8, 3) := by decide +kernel
theorem dX6_part_84 : decode cX6_part 84 = .ok (.bipush 20, 2) := by decide +kernel
theorem dX6_part_86 : decode cX6_part 86 = .ok (.goto 5, 3) := by decide +kernel
theorem dX6_part_89 : decode cX6_part 89 = .ok (.iload 7, 2) := by decide +kernel
theorem dX6_part_91 : decode cX6_part 91 = .ok (.iastore, 1) := by decide +kernel
theorem dX6_part_92 : decode cX6_part 92 = .ok (.aload_n 0, 1) := by decide +kernel
theorem dX6_part_93 : decode cX6_part 93 = .ok (.bipush 44, 2) := by decide +kernel
theorem dX6_part_95 : decode cX6_part 95 = .ok (.bipush 44, 2) := by decide +kernel
theorem dX6_part_97 : decode cX6_part 97 = .ok (.invokevirtual 197, 3) := by decide +kernel
theorem dX6_part_100 : decode cX6_part 100 = .ok (.istore_n 3, 1) := by decide +kernel
theorem dX6_part_101 : decode cX6_part 101 = .ok (.aload_n 0, 1) := by decide +kernel
theorem dX6_part_102 : decode cX6_part 102 = .ok (.dup, 1) := by decide +kernel
theorem dX6_part_103 : decode cX6_part 103 = .ok (.getfield 191, 3) := by decide +kernel
theorem dX6_part_106 : decode cX6_part 106 = .ok (.iload_n 3, 1) := by decide +kernel
theorem dX6_part_107 : decode cX6_part 107 = .ok (.ifCond .eq 7, 3) := by decide +kernel
theorem dX6_part_110 : decode cX6_part 110 = .ok (.iconst 1, 1) := by decide +kernel
theorem dX6_part_111 : decode cX6_part 111 = .ok (.goto 4, 3) := by decide +kernel
theorem dX6_part_114 : decode cX6_part 114 = .ok (.iconst 0, 1) := by decide +kernel
theorem dX6_part_115 : decode cX6_part 115 = .ok (.iadd, 1) := by decide +kernel
theorem dX6_part_116 : decode cX6_part 116 = .ok (.putfield 191, 3) := by decide +kernel
theorem dX6_part_119 : decode cX6_part 119 = .ok (.goto (-108), 3) := by decide +kernel
theorem dX6_part_122 : decode cX6_part 122 = .ok (.return_, 1) := by decide +kernel
theorem dX6_goes_0 : decode cX6_goes 0 = .ok (.aload_n 0, 1) := by decide +kernel
theorem dX6_goes_1 : decode cX6_goes 1 = .ok (.iconst 0, 1) := by decide +kernel
theorem dX6_goes_2 : decode cX6_goes 2 = .ok (.putfield 191, 3) := by decide +kernel
theorem dX6_goes_5 : decode cX6_goes 5 = .ok (.aload_n 0, 1) := by decide +kernel
theorem dX6_goes_6 : decode cX6_goes 6 = .ok (.iconst 0, 1) := by decide +kernel
theorem dX6_goes_7 : decode cX6_goes 7 = .ok (.putfield 187, 3) := by decide +kernel
theorem dX6_goes_10 : decode cX6_goes 10 = .ok (.iconst 1, 1) := by decide +kernel
theorem dX6_goes_11 : decode cX6_goes 11 = .ok (.istore_n 2, 1) := by decide +kernel
theorem dX6_goes_12 : decode cX6_goes 12 = .ok (.iload_n 2, 1) := by decide +kernel
theorem dX6_goes_13 : decode cX6_goes 13 = .ok (.ifCond .eq 61, 3) := by decide +kernel
theorem dX6_goes_16 : decode cX6_goes 16 = .ok (.aload_n 0, 1) := by decide +kernel
theorem dX6_goes_17 : decode cX6_goes 17 = .ok (.iload_n 1, 1) := by decide +kernel
theorem dX6_goes_18 : decode cX6_goes 18 = .ok (.invokevirtual 203, 3) := by decide +kernel
theorem dX6_goes_21 : decode cX6_goes 21 = .ok (.aload_n 0, 1) := by decide +kernel
theorem dX6_goes_22 : decode cX6_goes 22 = .ok (.getfield 187, 3) := by decide +kernel
theorem dX6_goes_25 : decode cX6_goes 25 = .ok (.ifCond .ne 18, 3) := by decide +kernel
theorem dX6_goes_28 : decode cX6_goes 28 = .ok (.aload_n 0, 1) := by decide +kernel
theorem dX6_goes_29 : decode cX6_goes 29 = .ok (.getfield 191, 3) := by decide +kernel
theorem dX6_goes_32 : decode cX6_goes 32 = .ok (.aload_n 0, 1) := by decide +kernel
theorem dX6_goes_33 : decode cX6_goes 33 = .ok (.getfield 172, 3) := by decide +kernel
theorem dX6_goes_36 : decode cX6_goes 36 = .ok (.if_icmp .ge 7, 3) := by decide +kernel
theorem dX6_goes_39 : decode cX6_goes 39 = .ok (.iconst 1, 1) := by decide +kernel
theorem dX6_goes_40 : decode cX6_goes 40 = .ok (.goto 4, 3) := by decide +kernel
theorem dX6_goes_43 : decode cX6_goes 43 = .ok (.iconst 0, 1) := by decide +kernel
theorem dX6_goes_44 : decode cX6_goes 44 = .ok (.istore_n 2, 1) := by decide +kernel
theorem dX6_goes_45 : decode cX6_goes 45 = .ok (.iload_n 2, 1) := by decide +kernel
theorem dX6_goes_46 : decode cX6_goes 46 = .ok (.ifCond .eq (-34), 3) := by decide +kernel
theorem dX6_goes_49 : decode cX6_goes 49 = .ok (.aload_n 0, 1) := by decide +kernel
theorem dX6_goes_50 : decode cX6_goes 50 = .ok (.bipush 59, 2) := by decide +kernel
theorem dX6_goes_52 : decode cX6_goes 52 = .ok (.bipush 59, 2) := by decide +kernel
theorem dX6_goes_54 : decode cX6_goes 54 = .ok (.invokevirtual 194, 3) := by decide +kernel
theorem dX6_goes_57 : decode cX6_goes 57 = .ok (.istore_n 3, 1) := by decide +kernel
theorem dX6_goes_58 : decode cX6_goes 58 = .ok (.aload_n 0, 1) := by decide +kernel
theorem dX6_goes_59 : decode cX6_goes 59 = .ok (.getfield 187, 3) := by decide +kernel
theorem dX6_goes_62 : decode cX6_goes 62 = .ok (.ifCond .ne 7, 3) := by decide +kernel
theorem dX6_goes_65 : decode cX6_goes 65 = .ok (.iconst 1, 1) := by decide +kernel
theorem dX6_goes_66 : decode cX6_goes 66 = .ok (.goto 4, 3) := by decide +kernel
theorem dX6_goes_69 : decode cX6_goes 69 = .ok (.iconst 0, 1) := by decide +kernel
theorem dX6_goes_70 : decode cX6_goes 70 = .ok (.istore_n 2, 1) := by decide +kernel
theorem dX6_goes_71 : decode cX6_goes 71 = .ok (.goto (-59), 3) := by decide +kernel
theorem dX6_goes_74 : decode cX6_goes 74 = .ok (.return_, 1) := by decide +kernel
theorem dX6_fault_0 : decode cX6_fault 0 = .ok (.aload_n 0, 1) := by decide +kernel
theorem dX6_fault_1 : decode cX6_fault 1 = .ok (.iconst 0, 1) := by decide +kernel
theorem dX6_fault_2 : decode cX6_fault 2 = .ok (.invokevirtual 207, 3) := by decide +kernel
theorem dX6_fault_5 : decode cX6_fault 5 = .ok (.aload_n 0, 1) := by decide +kernel
theorem dX6_fault_6 : decode cX6_fault 6 = .ok (.getfield 187, 3) := by decide +kernel
theorem dX6_fault_9 : decode cX6_fault 9 = .ok (.ifCond .eq 10, 3) := by decide +kernel
theorem dX6_fault_12 : decode cX6_fault 12 = .ok (.aload_n 0, 1) := by decide +kernel
theorem dX6_fault_13 : decode cX6_fault 13 = .ok (.getfield 191, 3) := by decide +kernel
theorem dX6_fault_16 : decode cX6_fault 16 = .ok (.goto 5, 3) := by decide +kernel
theorem dX6_fault_19 : decode cX6_fault 19 = .ok (.ldc 178, 2) := by decide +kernel
theorem dX6_fault_21 : decode cX6_fault 21 = .ok (.ireturn, 1) := by decide +kernel
theorem dX6_read_0 : decode cX6_read 0 = .ok (.aload_n 0, 1) := by decide +kernel
theorem dX6_read_1 : decode cX6_read 1 = .ok (.iconst 0, 1) := by decide +kernel
theorem dX6_read_2 : decode cX6_read 2 = .ok (.invokevirtual 207, 3) := by decide +kernel
theorem dX6_read_5 : decode cX6_read 5 = .ok (.aload_n 0, 1) := by decide +kernel
theorem dX6_read_6 : decode cX6_read 6 = .ok (.getfield 187, 3) := by decide +kernel
theorem dX6_read_9 : decode cX6_read 9 = .ok (.ifCond .eq 6, 3) := by decide +kernel
theorem dX6_read_12 : decode cX6_read 12 = .ok (.ldc 210, 2) := by decide +kernel
theorem dX6_read_14 : decode cX6_read 14 = .ok (.ireturn, 1) := by decide +kernel
theorem dX6_read_15 : decode cX6_read 15 = .ok (.aload_n 0, 1) := by decide +kernel
theorem dX6_read_16 : decode cX6_read 16 = .ok (.invokevirtual 113, 3) := by decide +kernel
theorem dX6_read_19 : decode cX6_read 19 = .ok (.aload_n 0, 1) := by decide +kernel
theorem dX6_read_20 : decode cX6_read 20 = .ok (.iconst 1, 1) := by decide +kernel
theorem dX6_read_21 : decode cX6_read 21 = .ok (.invokevirtual 207, 3) := by decide +kernel
theorem dX6_read_24 : decode cX6_read 24 = .ok (.aload_n 0, 1) := by decide +kernel
theorem dX6_read_25 : decode cX6_read 25 = .ok (.iconst 0, 1) := by decide +kernel
theorem dX6_read_26 : decode cX6_read 26 = .ok (.putfield 172, 3) := by decide +kernel
theorem dX6_read_29 : decode cX6_read 29 = .ok (.aload_n 0, 1) := by decide +kernel
theorem dX6_read_30 : decode cX6_read 30 = .ok (.bipush 63, 2) := by decide +kernel
theorem dX6_read_32 : decode cX6_read 32 = .ok (.invokevirtual 140, 3) := by decide +kernel
theorem dX6_read_35 : decode cX6_read 35 = .ok (.ireturn, 1) := by decide +kernel
theorem dX6_undo_0 : decode cX6_undo 0 = .ok (.aload_n 0, 1) := by decide +kernel
theorem dX6_undo_1 : decode cX6_undo 1 = .ok (.getfield 39, 3) := by decide +kernel
theorem dX6_undo_4 : decode cX6_undo 4 = .ok (.ifCond .ne 6, 3) := by decide +kernel
theorem dX6_undo_7 : decode cX6_undo 7 = .ok (.ldc 133, 2) := by decide +kernel
theorem dX6_undo_9 : decode cX6_undo 9 = .ok (.ireturn, 1) := by decide +kernel
theorem dX6_undo_10 : decode cX6_undo 10 = .ok (.aload_n 0, 1) := by decide +kernel
theorem dX6_undo_11 : decode cX6_undo 11 = .ok (.dup, 1) := by decide +kernel
theorem dX6_undo_12 : decode cX6_undo 12 = .ok (.getfield 39, 3) := by decide +kernel
theorem dX6_undo_15 : decode cX6_undo 15 = .ok (.iconst 1, 1) := by decide +kernel
theorem dX6_undo_16 : decode cX6_undo 16 = .ok (.isub, 1) := by decide +kernel
theorem dX6_undo_17 : decode cX6_undo 17 = .ok (.putfield 39, 3) := by decide +kernel
theorem dX6_undo_20 : decode cX6_undo 20 = .ok (.iconst 0, 1) := by decide +kernel
theorem dX6_undo_21 : decode cX6_undo 21 = .ok (.istore_n 1, 1) := by decide +kernel
theorem dX6_undo_22 : decode cX6_undo 22 = .ok (.iload_n 1, 1) := by decide +kernel
theorem dX6_undo_23 : decode cX6_undo 23 = .ok (.sipush 402, 3) := by decide +kernel
theorem dX6_undo_26 : decode cX6_undo 26 = .ok (.if_icmp .ge 30, 3) := by decide +kernel
theorem dX6_undo_29 : decode cX6_undo 29 = .ok (.aload_n 0, 1) := by decide +kernel
theorem dX6_undo_30 : decode cX6_undo 30 = .ok (.getfield 7, 3) := by decide +kernel
theorem dX6_undo_33 : decode cX6_undo 33 = .ok (.iload_n 1, 1) := by decide +kernel
theorem dX6_undo_34 : decode cX6_undo 34 = .ok (.aload_n 0, 1) := by decide +kernel
theorem dX6_undo_35 : decode cX6_undo 35 = .ok (.getfield 16, 3) := by decide +kernel
theorem dX6_undo_38 : decode cX6_undo 38 = .ok (.sipush 402, 3) := by decide +kernel
theorem dX6_undo_41 : decode cX6_undo 41 = .ok (.aload_n 0, 1) := by decide +kernel
theorem dX6_undo_42 : decode cX6_undo 42 = .ok (.getfield 39, 3) := by decide +kernel
theorem dX6_undo_45 : decode cX6_undo 45 = .ok (.imul, 1) := by decide +kernel
theorem dX6_undo_46 : decode cX6_undo 46 = .ok (.iload_n 1, 1) := by decide +kernel
theorem dX6_undo_47 : decode cX6_undo 47 = .ok (.iadd, 1) := by decide +kernel
theorem dX6_undo_48 : decode cX6_undo 48 = .ok (.iaload, 1) := by decide +kernel
theorem dX6_undo_49 : decode cX6_undo 49 = .ok (.iastore, 1) := by decide +kernel
theorem dX6_undo_50 : decode cX6_undo 50 = .ok (.iinc 1 1, 3) := by decide +kernel
theorem dX6_undo_53 : decode cX6_undo 53 = .ok (.goto (-31), 3) := by decide +kernel
theorem dX6_undo_56 : decode cX6_undo 56 = .ok (.aload_n 0, 1) := by decide +kernel
theorem dX6_undo_57 : decode cX6_undo 57 = .ok (.getfield 39, 3) := by decide +kernel
theorem dX6_undo_60 : decode cX6_undo 60 = .ok (.ireturn, 1) := by decide +kernel
theorem dX6_save_0 : decode cX6_save 0 = .ok (.iload_n 1, 1) := by decide +kernel
theorem dX6_save_1 : decode cX6_save 1 = .ok (.iconst 0, 1) := by decide +kernel
theorem dX6_save_2 : decode cX6_save 2 = .ok (.iconst 1, 1) := by decide +kernel
theorem dX6_save_3 : decode cX6_save 3 = .ok (.invokestatic 35, 3) := by decide +kernel
theorem dX6_save_6 : decode cX6_save 6 = .ok (.ifCond .ne 6, 3) := by decide +kernel
theorem dX6_save_9 : decode cX6_save 9 = .ok (.ldc 125, 2) := by decide +kernel
theorem dX6_save_11 : decode cX6_save 11 = .ok (.ireturn, 1) := by decide +kernel
theorem dX6_save_12 : decode cX6_save 12 = .ok (.iconst 0, 1) := by decide +kernel
theorem dX6_save_13 : decode cX6_save 13 = .ok (.istore_n 2, 1) := by decide +kernel
theorem dX6_save_14 : decode cX6_save 14 = .ok (.iload_n 2, 1) := by decide +kernel
theorem dX6_save_15 : decode cX6_save 15 = .ok (.sipush 402, 3) := by decide +kernel
theorem dX6_save_18 : decode cX6_save 18 = .ok (.if_icmp .ge 27, 3) := by decide +kernel
theorem dX6_save_21 : decode cX6_save 21 = .ok (.aload_n 0, 1) := by decide +kernel
theorem dX6_save_22 : decode cX6_save 22 = .ok (.getfield 19, 3) := by decide +kernel
theorem dX6_save_25 : decode cX6_save 25 = .ok (.sipush 402, 3) := by decide +kernel
theorem dX6_save_28 : decode cX6_save 28 = .ok (.iload_n 1, 1) := by decide +kernel
theorem dX6_save_29 : decode cX6_save 29 = .ok (.imul, 1) := by decide +kernel
theorem dX6_save_30 : decode cX6_save 30 = .ok (.iload_n 2, 1) := by decide +kernel
theorem dX6_save_31 : decode cX6_save 31 = .ok (.iadd, 1) := by decide +kernel
theorem dX6_save_32 : decode cX6_save 32 = .ok (.aload_n 0, 1) := by decide +kernel
theorem dX6_save_33 : decode cX6_save 33 = .ok (.getfield 7, 3) := by decide +kernel
theorem dX6_save_36 : decode cX6_save 36 = .ok (.iload_n 2, 1) := by decide +kernel
theorem dX6_save_37 : decode cX6_save 37 = .ok (.iaload, 1) := by decide +kernel
theorem dX6_save_38 : decode cX6_save 38 = .ok (.iastore, 1) := by decide +kernel
theorem dX6_save_39 : decode cX6_save 39 = .ok (.iinc 2 1, 3) := by decide +kernel
theorem dX6_save_42 : decode cX6_save 42 = .ok (.goto (-28), 3) := by decide +kernel
theorem dX6_save_45 : decode cX6_save 45 = .ok (.aload_n 0, 1) := by decide +kernel
theorem dX6_save_46 : decode cX6_save 46 = .ok (.getfield 22, 3) := by decide +kernel
theorem dX6_save_49 : decode cX6_save 49 = .ok (.iload_n 1, 1) := by decide +kernel
theorem dX6_save_50 : decode cX6_save 50 = .ok (.iconst 1, 1) := by decide +kernel
theorem dX6_save_51 : decode cX6_save 51 = .ok (.bastore, 1) := by decide +kernel
theorem dX6_save_52 : decode cX6_save 52 = .ok (.aload_n 0, 1) := by decide +kernel
theorem dX6_save_53 : decode cX6_save 53 = .ok (.getfield 7, 3) := by decide +kernel
theorem dX6_save_56 : decode cX6_save 56 = .ok (.bipush 9, 2) := by decide +kernel
theorem dX6_save_58 : decode cX6_save 58 = .ok (.iaload, 1) := by decide +kernel
theorem dX6_save_59 : decode cX6_save 59 = .ok (.ireturn, 1) := by decide +kernel
theorem dX6_restore_0 : decode cX6_restore 0 = .ok (.iload_n 1, 1) := by decide +kernel
theorem dX6_restore_1 : decode cX6_restore 1 = .ok (.iconst 0, 1) := by decide +kernel
theorem dX6_restore_2 : decode cX6_restore 2 = .ok (.iconst 1, 1) := by decide +kernel
theorem dX6_restore_3 : decode cX6_restore 3 = .ok (.invokestatic 35, 3) := by decide +kernel
theorem dX6_restore_6 : decode cX6_restore 6 = .ok (.ifCond .ne 6, 3) := by decide +kernel
theorem dX6_restore_9 : decode cX6_restore 9 = .ok (.ldc 125, 2) := by decide +kernel
theorem dX6_restore_11 : decode cX6_restore 11 = .ok (.ireturn, 1) := by decide +kernel
theorem dX6_restore_12 : decode cX6_restore 12 = .ok (.aload_n 0, 1) := by decide +kernel
theorem dX6_restore_13 : decode cX6_restore 13 = .ok (.getfield 22, 3) := by decide +kernel
theorem dX6_restore_16 : decode cX6_restore 16 = .ok (.iload_n 1, 1) := by decide +kernel
theorem dX6_restore_17 : decode cX6_restore 17 = .ok (.baload, 1) := by decide +kernel
theorem dX6_restore_18 : decode cX6_restore 18 = .ok (.ifCond .ne 6, 3) := by decide +kernel
theorem dX6_restore_21 : decode cX6_restore 21 = .ok (.ldc 133, 2) := by decide +kernel
theorem dX6_restore_23 : decode cX6_restore 23 = .ok (.ireturn, 1) := by decide +kernel
theorem dX6_restore_24 : decode cX6_restore 24 = .ok (.aload_n 0, 1) := by decide +kernel
theorem dX6_restore_25 : decode cX6_restore 25 = .ok (.invokevirtual 113, 3) := by decide +kernel
theorem dX6_restore_28 : decode cX6_restore 28 = .ok (.iconst 0, 1) := by decide +kernel
theorem dX6_restore_29 : decode cX6_restore 29 = .ok (.istore_n 2, 1) := by decide +kernel
theorem dX6_restore_30 : decode cX6_restore 30 = .ok (.iload_n 2, 1) := by decide +kernel
theorem dX6_restore_31 : decode cX6_restore 31 = .ok (.sipush 402, 3) := by decide +kernel
theorem dX6_restore_34 : decode cX6_restore 34 = .ok (.if_icmp .ge 27, 3) := by decide +kernel
theorem dX6_restore_37 : decode cX6_restore 37 = .ok (.aload_n 0, 1) := by decide +kernel
theorem dX6_restore_38 : decode cX6_restore 38 = .ok (.getfield 7, 3) := by decide +kernel
theorem dX6_restore_41 : decode cX6_restore 41 = .ok (.iload_n 2, 1) := by decide +kernel
theorem dX6_restore_42 : decode cX6_restore 42 = .ok (.aload_n 0, 1) := by decide +kernel
theorem dX6_restore_43 : decode cX6_restore 43 = .ok (.getfield 19, 3) := by decide +kernel
theorem dX6_restore_46 : decode cX6_restore 46 = .ok (.sipush 402, 3) := by decide +kernel
theorem dX6_restore_49 : decode cX6_restore 49 = .ok (.iload_n 1, 1) := by decide +kernel
theorem dX6_restore_50 : decode cX6_restore 50 = .ok (.imul, 1) := by decide +kernel
theorem dX6_restore_51 : decode cX6_restore 51 = .ok (.iload_n 2, 1) := by decide +kernel
theorem dX6_restore_52 : decode cX6_restore 52 = .ok (.iadd, 1) := by decide +kernel
theorem dX6_restore_53 : decode cX6_restore 53 = .ok (.iaload, 1) := by decide +kernel
theorem dX6_restore_54 : decode cX6_restore 54 = .ok (.iastore, 1) := by decide +kernel
theorem dX6_restore_55 : decode cX6_restore 55 = .ok (.iinc 2 1, 3) := by decide +kernel
theorem dX6_restore_58 : decode cX6_restore 58 = .ok (.goto (-28), 3) := by decide +kernel
theorem dX6_restore_61 : decode cX6_restore 61 = .ok (.aload_n 0, 1) := by decide +kernel
theorem dX6_restore_62 : decode cX6_restore 62 = .ok (.getfield 7, 3) := by decide +kernel
theorem dX6_restore_65 : decode cX6_restore 65 = .ok (.bipush 9, 2) := by decide +kernel
theorem dX6_restore_67 : decode cX6_restore 67 = .ok (.iaload, 1) := by decide +kernel
theorem dX6_restore_68 : decode cX6_restore 68 = .ok (.ireturn, 1) := by decide +kernel
theorem dJ6_bitCount_0f7a4_0 : decode cJ6_bitCount_0f7a4 0 = .ok (.iload_n 0, 1) := by decide +kernel
theorem dJ6_bitCount_0f7a4_1 : decode cJ6_bitCount_0f7a4 1 = .ok (.iload_n 0, 1) := by decide +kernel
theorem dJ6_bitCount_0f7a4_2 : decode cJ6_bitCount_0f7a4 2 = .ok (.iconst 1, 1) := by decide +kernel
theorem dJ6_bitCount_0f7a4_3 : decode cJ6_bitCount_0f7a4 3 = .ok (.iushr, 1) := by decide +kernel
theorem dJ6_bitCount_0f7a4_4 : decode cJ6_bitCount_0f7a4 4 = .ok (.ldc_w 265, 3) := by decide +kernel
theorem dJ6_bitCount_0f7a4_7 : decode cJ6_bitCount_0f7a4 7 = .ok (.iand, 1) := by decide +kernel
theorem dJ6_bitCount_0f7a4_8 : decode cJ6_bitCount_0f7a4 8 = .ok (.isub, 1) := by decide +kernel
theorem dJ6_bitCount_0f7a4_9 : decode cJ6_bitCount_0f7a4 9 = .ok (.istore_n 0, 1) := by decide +kernel
theorem dJ6_bitCount_0f7a4_10 : decode cJ6_bitCount_0f7a4 10 = .ok (.iload_n 0, 1) := by decide +kernel
theorem dJ6_bitCount_0f7a4_11 : decode cJ6_bitCount_0f7a4 11 = .ok (.ldc_w 266, 3) := by decide +kernel
theorem dJ6_bitCount_0f7a4_14 : decode cJ6_bitCount_0f7a4 14 = .ok (.iand, 1) := by decide +kernel
theorem dJ6_bitCount_0f7a4_15 : decode cJ6_bitCount_0f7a4 15 = .ok (.iload_n 0, 1) := by decide +kernel
theorem dJ6_bitCount_0f7a4_16 : decode cJ6_bitCount_0f7a4 16 = .ok (.iconst 2, 1) := by decide +kernel
theorem dJ6_bitCount_0f7a4_17 : decode cJ6_bitCount_0f7a4 17 = .ok (.iushr, 1) := by decide +kernel
theorem dJ6_bitCount_0f7a4_18 : decode cJ6_bitCount_0f7a4 18 = .ok (.ldc_w 266, 3) := by decide +kernel
theorem dJ6_bitCount_0f7a4_21 : decode cJ6_bitCount_0f7a4 21 = .ok (.iand, 1) := by decide +kernel
theorem dJ6_bitCount_0f7a4_22 : decode cJ6_bitCount_0f7a4 22 = .ok (.iadd, 1) := by decide +kernel
theorem dJ6_bitCount_0f7a4_23 : decode cJ6_bitCount_0f7a4 23 = .ok (.istore_n 0, 1) := by decide +kernel
theorem dJ6_bitCount_0f7a4_24 : decode cJ6_bitCount_0f7a4 24 = .ok (.iload_n 0, 1) := by decide +kernel
theorem dJ6_bitCount_0f7a4_25 : decode cJ6_bitCount_0f7a4 25 = .ok (.iload_n 0, 1) := by decide +kernel
theorem dJ6_bitCount_0f7a4_26 : decode cJ6_bitCount_0f7a4 26 = .ok (.iconst 4, 1) := by decide +kernel
theorem dJ6_bitCount_0f7a4_27 : decode cJ6_bitCount_0f7a4 27 = .ok (.iushr, 1) := by decide +kernel
theorem dJ6_bitCount_0f7a4_28 : decode cJ6_bitCount_0f7a4 28 = .ok (.iadd, 1) := by decide +kernel
theorem dJ6_bitCount_0f7a4_29 : decode cJ6_bitCount_0f7a4 29 = .ok (.ldc_w 267, 3) := by decide +kernel
theorem dJ6_bitCount_0f7a4_32 : decode cJ6_bitCount_0f7a4 32 = .ok (.iand, 1) := by decide +kernel
theorem dJ6_bitCount_0f7a4_33 : decode cJ6_bitCount_0f7a4 33 = .ok (.istore_n 0, 1) := by decide +kernel
theorem dJ6_bitCount_0f7a4_34 : decode cJ6_bitCount_0f7a4 34 = .ok (.iload_n 0, 1) := by decide +kernel
theorem dJ6_bitCount_0f7a4_35 : decode cJ6_bitCount_0f7a4 35 = .ok (.iload_n 0, 1) := by decide +kernel
theorem dJ6_bitCount_0f7a4_36 : decode cJ6_bitCount_0f7a4 36 = .ok (.bipush 8, 2) := by decide +kernel
theorem dJ6_bitCount_0f7a4_38 : decode cJ6_bitCount_0f7a4 38 = .ok (.iushr, 1) := by decide +kernel
theorem dJ6_bitCount_0f7a4_39 : decode cJ6_bitCount_0f7a4 39 = .ok (.iadd, 1) := by decide +kernel
theorem dJ6_bitCount_0f7a4_40 : decode cJ6_bitCount_0f7a4 40 = .ok (.istore_n 0, 1) := by decide +kernel
theorem dJ6_bitCount_0f7a4_41 : decode cJ6_bitCount_0f7a4 41 = .ok (.iload_n 0, 1) := by decide +kernel
theorem dJ6_bitCount_0f7a4_42 : decode cJ6_bitCount_0f7a4 42 = .ok (.iload_n 0, 1) := by decide +kernel
theorem dJ6_bitCount_0f7a4_43 : decode cJ6_bitCount_0f7a4 43 = .ok (.bipush 16, 2) := by decide +kernel
theorem dJ6_bitCount_0f7a4_45 : decode cJ6_bitCount_0f7a4 45 = .ok (.iushr, 1) := by decide +kernel
theorem dJ6_bitCount_0f7a4_46 : decode cJ6_bitCount_0f7a4 46 = .ok (.iadd, 1) := by decide +kernel
theorem dJ6_bitCount_0f7a4_47 : decode cJ6_bitCount_0f7a4 47 = .ok (.istore_n 0, 1) := by decide +kernel
theorem dJ6_bitCount_0f7a4_48 : decode cJ6_bitCount_0f7a4 48 = .ok (.iload_n 0, 1) := by decide +kernel
theorem dJ6_bitCount_0f7a4_49 : decode cJ6_bitCount_0f7a4 49 = .ok (.bipush 63, 2) := by decide +kernel
theorem dJ6_bitCount_0f7a4_51 : decode cJ6_bitCount_0f7a4 51 = .ok (.iand, 1) := by decide +kernel
theorem dJ6_bitCount_0f7a4_52 : decode cJ6_bitCount_0f7a4 52 = .ok (.ireturn, 1) := by decide +kernel
theorem dJ9_abs_0f7a4_0 : decode cJ9_abs_0f7a4 0 = .ok (.iload_n 0, 1) := by decide +kernel
theorem dJ9_abs_0f7a4_1 : decode cJ9_abs_0f7a4 1 = .ok (.ifCond .ge 8, 3) := by decide +kernel
theorem dJ9_abs_0f7a4_4 : decode cJ9_abs_0f7a4 4 = .ok (.iload_n 0, 1) := by decide +kernel
theorem dJ9_abs_0f7a4_5 : decode cJ9_abs_0f7a4 5 = .ok (.ineg, 1) := by decide +kernel
theorem dJ9_abs_0f7a4_6 : decode cJ9_abs_0f7a4 6 = .ok (.goto 4, 3) := by decide +kernel
theorem dJ9_abs_0f7a4_9 : decode cJ9_abs_0f7a4 9 = .ok (.iload_n 0, 1) := by decide +kernel
theorem dJ9_abs_0f7a4_10 : decode cJ9_abs_0f7a4 10 = .ok (.ireturn, 1) := by decide +kernel
theorem dJ9_max_7cf53_0 : decode cJ9_max_7cf53 0 = .ok (.iload_n 0, 1) := by decide +kernel
theorem dJ9_max_7cf53_1 : decode cJ9_max_7cf53 1 = .ok (.iload_n 1, 1) := by decide +kernel
theorem dJ9_max_7cf53_2 : decode cJ9_max_7cf53 2 = .ok (.if_icmp .lt 7, 3) := by decide +kernel
theorem dJ9_max_7cf53_5 : decode cJ9_max_7cf53 5 = .ok (.iload_n 0, 1) := by decide +kernel
theorem dJ9_max_7cf53_6 : decode cJ9_max_7cf53 6 = .ok (.goto 4, 3) := by decide +kernel
theorem dJ9_max_7cf53_9 : decode cJ9_max_7cf53 9 = .ok (.iload_n 1, 1) := by decide +kernel
theorem dJ9_max_7cf53_10 : decode cJ9_max_7cf53 10 = .ok (.ireturn, 1) := by decide +kernel
theorem dJ9_min_7cf53_0 : decode cJ9_min_7cf53 0 = .ok (.iload_n 0, 1) := by decide +kernel
theorem dJ9_min_7cf53_1 : decode cJ9_min_7cf53 1 = .ok (.iload_n 1, 1) := by decide +kernel
theorem dJ9_min_7cf53_2 : decode cJ9_min_7cf53 2 = .ok (.if_icmp .gt 7, 3) := by decide +kernel
theorem dJ9_min_7cf53_5 : decode cJ9_min_7cf53 5 = .ok (.iload_n 0, 1) := by decide +kernel
theorem dJ9_min_7cf53_6 : decode cJ9_min_7cf53 6 = .ok (.goto 4, 3) := by decide +kernel
theorem dJ9_min_7cf53_9 : decode cJ9_min_7cf53 9 = .ok (.iload_n 1, 1) := by decide +kernel
theorem dJ9_min_7cf53_10 : decode cJ9_min_7cf53 10 = .ok (.ireturn, 1) := by decide +kernel
theorem dJ7_fill_53178_0 : decode cJ7_fill_53178 0 = .ok (.iconst 0, 1) := by decide +kernel
theorem dJ7_fill_53178_1 : decode cJ7_fill_53178 1 = .ok (.istore_n 2, 1) := by decide +kernel
theorem dJ7_fill_53178_2 : decode cJ7_fill_53178 2 = .ok (.aload_n 0, 1) := by decide +kernel
theorem dJ7_fill_53178_3 : decode cJ7_fill_53178 3 = .ok (.arraylength, 1) := by decide +kernel
theorem dJ7_fill_53178_4 : decode cJ7_fill_53178 4 = .ok (.istore_n 3, 1) := by decide +kernel
theorem dJ7_fill_53178_5 : decode cJ7_fill_53178 5 = .ok (.iload_n 2, 1) := by decide +kernel
theorem dJ7_fill_53178_6 : decode cJ7_fill_53178 6 = .ok (.iload_n 3, 1) := by decide +kernel
theorem dJ7_fill_53178_7 : decode cJ7_fill_53178 7 = .ok (.if_icmp .ge 13, 3) := by decide +kernel
theorem dJ7_fill_53178_10 : decode cJ7_fill_53178 10 = .ok (.aload_n 0, 1) := by decide +kernel
theorem dJ7_fill_53178_11 : decode cJ7_fill_53178 11 = .ok (.iload_n 2, 1) := by decide +kernel
theorem dJ7_fill_53178_12 : decode cJ7_fill_53178 12 = .ok (.iload_n 1, 1) := by decide +kernel
theorem dJ7_fill_53178_13 : decode cJ7_fill_53178 13 = .ok (.iastore, 1) := by decide +kernel
theorem dJ7_fill_53178_14 : decode cJ7_fill_53178 14 = .ok (.iinc 2 1, 3) := by decide +kernel
theorem dJ7_fill_53178_17 : decode cJ7_fill_53178 17 = .ok (.goto (-12), 3) := by decide +kernel
theorem dJ7_fill_53178_20 : decode cJ7_fill_53178 20 = .ok (.return_, 1) := by decide +kernel
theorem dL_law_0 : decode cL_law 0 = .ok (.new 7, 3) := by decide +kernel
theorem dL_law_3 : decode cL_law 3 = .ok (.dup, 1) := by decide +kernel
theorem dL_law_4 : decode cL_law 4 = .ok (.invokespecial 9, 3) := by decide +kernel
theorem dL_law_7 : decode cL_law 7 = .ok (.astore_n 1, 1) := by decide +kernel
theorem dL_law_8 : decode cL_law 8 = .ok (.new 10, 3) := by decide +kernel
theorem dL_law_11 : decode cL_law 11 = .ok (.dup, 1) := by decide +kernel
theorem dL_law_12 : decode cL_law 12 = .ok (.invokespecial 12, 3) := by decide +kernel
theorem dL_law_15 : decode cL_law 15 = .ok (.astore_n 2, 1) := by decide +kernel
theorem dL_law_16 : decode cL_law 16 = .ok (.iconst 0, 1) := by decide +kernel
theorem dL_law_17 : decode cL_law 17 = .ok (.istore_n 3, 1) := by decide +kernel
theorem dL_law_18 : decode cL_law 18 = .ok (.iload_n 3, 1) := by decide +kernel
theorem dL_law_19 : decode cL_law 19 = .ok (.aload_n 0, 1) := by decide +kernel
theorem dL_law_20 : decode cL_law 20 = .ok (.arraylength, 1) := by decide +kernel
theorem dL_law_21 : decode cL_law 21 = .ok (.iconst 5, 1) := by decide +kernel
theorem dL_law_22 : decode cL_law 22 = .ok (.isub, 1) := by decide +kernel
theorem dL_law_23 : decode cL_law 23 = .ok (.if_icmp .gt 919, 3) := by decide +kernel
theorem dL_law_26 : decode cL_law 26 = .ok (.aload_n 0, 1) := by decide +kernel
theorem dL_law_27 : decode cL_law 27 = .ok (.iload_n 3, 1) := by decide +kernel
theorem dL_law_28 : decode cL_law 28 = .ok (.iaload, 1) := by decide +kernel
theorem dL_law_29 : decode cL_law 29 = .ok (.bipush 31, 2) := by decide +kernel
theorem dL_law_31 : decode cL_law 31 = .ok (.iand, 1) := by decide +kernel
theorem dL_law_32 : decode cL_law 32 = .ok (.tableswitch 904 0 25 #[120, 153, 186, 229, 272, 285, 318, 371, 394, 417, 440, 473, 532, 565, 588, 621, 654, 697, 720, 753, 766, 819, 832, 845, 858, 881], 120) := by decide +kernel
theorem dL_law_152 : decode cL_law 152 = .ok (.aload_n 1, 1) := by decide +kernel
theorem dL_law_153 : decode cL_law 153 = .ok (.aload_n 0, 1) := by decide +kernel
theorem dL_law_154 : decode cL_law 154 = .ok (.iload_n 3, 1) := by decide +kernel
theorem dL_law_155 : decode cL_law 155 = .ok (.iconst 1, 1) := by decide +kernel
theorem dL_law_156 : decode cL_law 156 = .ok (.iadd, 1) := by decide +kernel
theorem dL_law_157 : decode cL_law 157 = .ok (.iaload, 1) := by decide +kernel
theorem dL_law_158 : decode cL_law 158 = .ok (.aload_n 0, 1) := by decide +kernel
theorem dL_law_159 : decode cL_law 159 = .ok (.iload_n 3, 1) := by decide +kernel
theorem dL_law_160 : decode cL_law 160 = .ok (.iconst 2, 1) := by decide +kernel
theorem dL_law_161 : decode cL_law 161 = .ok (.iadd, 1) := by decide +kernel
theorem dL_law_162 : decode cL_law 162 = .ok (.iaload, 1) := by decide +kernel
theorem dL_law_163 : decode cL_law 163 = .ok (.invokevirtual 13, 3) := by decide +kernel
theorem dL_law_166 : decode cL_law 166 = .ok (.aload_n 2, 1) := by decide +kernel
theorem dL_law_167 : decode cL_law 167 = .ok (.aload_n 0, 1) := by decide +kernel
theorem dL_law_168 : decode cL_law 168 = .ok (.iload_n 3, 1) := by decide +kernel
theorem dL_law_169 : decode cL_law 169 = .ok (.iconst 1, 1) := by decide +kernel
theorem dL_law_170 : decode cL_law 170 = .ok (.iadd, 1) := by decide +kernel
theorem dL_law_171 : decode cL_law 171 = .ok (.iaload, 1) := by decide +kernel
theorem dL_law_172 : decode cL_law 172 = .ok (.aload_n 0, 1) := by decide +kernel
theorem dL_law_173 : decode cL_law 173 = .ok (.iload_n 3, 1) := by decide +kernel
theorem dL_law_174 : decode cL_law 174 = .ok (.iconst 2, 1) := by decide +kernel
theorem dL_law_175 : decode cL_law 175 = .ok (.iadd, 1) := by decide +kernel
theorem dL_law_176 : decode cL_law 176 = .ok (.iaload, 1) := by decide +kernel
theorem dL_law_177 : decode cL_law 177 = .ok (.invokevirtual 17, 3) := by decide +kernel
theorem dL_law_180 : decode cL_law 180 = .ok (.if_icmp .eq 756, 3) := by decide +kernel
theorem dL_law_183 : decode cL_law 183 = .ok (.iconst 0, 1) := by decide +kernel
theorem dL_law_184 : decode cL_law 184 = .ok (.ireturn, 1) := by decide +kernel
theorem dL_law_185 : decode cL_law 185 = .ok (.aload_n 1, 1) := by decide +kernel
theorem dL_law_186 : decode cL_law 186 = .ok (.aload_n 0, 1) := by decide +kernel
theorem dL_law_187 : decode cL_law 187 = .ok (.iload_n 3, 1) := by decide +kernel
theorem dL_law_188 : decode cL_law 188 = .ok (.iconst 1, 1) := by decide +kernel
theorem dL_law_189 : decode cL_law 189 = .ok (.iadd, 1) := by decide +kernel
theorem dL_law_190 : decode cL_law 190 = .ok (.iaload, 1) := by decide +kernel
theorem dL_law_191 : decode cL_law 191 = .ok (.aload_n 0, 1) := by decide +kernel
theorem dL_law_192 : decode cL_law 192 = .ok (.iload_n 3, 1) := by decide +kernel
theorem dL_law_193 : decode cL_law 193 = .ok (.iconst 2, 1) := by decide +kernel
theorem dL_law_194 : decode cL_law 194 = .ok (.iadd, 1) := by decide +kernel
theorem dL_law_195 : decode cL_law 195 = .ok (.iaload, 1) := by decide +kernel
theorem dL_law_196 : decode cL_law 196 = .ok (.invokevirtual 18, 3) := by decide +kernel
theorem dL_law_199 : decode cL_law 199 = .ok (.aload_n 2, 1) := by decide +kernel
theorem dL_law_200 : decode cL_law 200 = .ok (.aload_n 0, 1) := by decide +kernel
theorem dL_law_201 : decode cL_law 201 = .ok (.iload_n 3, 1) := by decide +kernel
theorem dL_law_202 : decode cL_law 202 = .ok (.iconst 1, 1) := by decide +kernel
theorem dL_law_203 : decode cL_law 203 = .ok (.iadd, 1) := by decide +kernel
theorem dL_law_204 : decode cL_law 204 = .ok (.iaload, 1) := by decide +kernel
theorem dL_law_205 : decode cL_law 205 = .ok (.aload_n 0, 1) := by decide +kernel
theorem dL_law_206 : decode cL_law 206 = .ok (.iload_n 3, 1) := by decide +kernel
theorem dL_law_207 : decode cL_law 207 = .ok (.iconst 2, 1) := by decide +kernel
theorem dL_law_208 : decode cL_law 208 = .ok (.iadd, 1) := by decide +kernel
theorem dL_law_209 : decode cL_law 209 = .ok (.iaload, 1) := by decide +kernel
theorem dL_law_210 : decode cL_law 210 = .ok (.invokevirtual 21, 3) := by decide +kernel
theorem dL_law_213 : decode cL_law 213 = .ok (.if_icmp .eq 723, 3) := by decide +kernel
theorem dL_law_216 : decode cL_law 216 = .ok (.iconst 0, 1) := by decide +kernel
theorem dL_law_217 : decode cL_law 217 = .ok (.ireturn, 1) := by decide +kernel
theorem dL_law_218 : decode cL_law 218 = .ok (.aload_n 1, 1) := by decide +kernel
theorem dL_law_219 : decode cL_law 219 = .ok (.aload_n 0, 1) := by decide +kernel
theorem dL_law_220 : decode cL_law 220 = .ok (.iload_n 3, 1) := by decide +kernel
theorem dL_law_221 : decode cL_law 221 = .ok (.iconst 1, 1) := by decide +kernel
theorem dL_law_222 : decode cL_law 222 = .ok (.iadd, 1) := by decide +kernel
theorem dL_law_223 : decode cL_law 223 = .ok (.iaload, 1) := by decide +kernel
theorem dL_law_224 : decode cL_law 224 = .ok (.aload_n 0, 1) := by decide +kernel
theorem dL_law_225 : decode cL_law 225 = .ok (.iload_n 3, 1) := by decide +kernel
theorem dL_law_226 : decode cL_law 226 = .ok (.iconst 2, 1) := by decide +kernel
theorem dL_law_227 : decode cL_law 227 = .ok (.iadd, 1) := by decide +kernel
theorem dL_law_228 : decode cL_law 228 = .ok (.iaload, 1) := by decide +kernel
theorem dL_law_229 : decode cL_law 229 = .ok (.aload_n 0, 1) := by decide +kernel
theorem dL_law_230 : decode cL_law 230 = .ok (.iload_n 3, 1) := by decide +kernel
theorem dL_law_231 : decode cL_law 231 = .ok (.iconst 3, 1) := by decide +kernel
theorem dL_law_232 : decode cL_law 232 = .ok (.iadd, 1) := by decide +kernel
theorem dL_law_233 : decode cL_law 233 = .ok (.iaload, 1) := by decide +kernel
theorem dL_law_234 : decode cL_law 234 = .ok (.invokevirtual 22, 3) := by decide +kernel
theorem dL_law_237 : decode cL_law 237 = .ok (.aload_n 2, 1) := by decide +kernel
theorem dL_law_238 : decode cL_law 238 = .ok (.aload_n 0, 1) := by decide +kernel
theorem dL_law_239 : decode cL_law 239 = .ok (.iload_n 3, 1) := by decide +kernel
theorem dL_law_240 : decode cL_law 240 = .ok (.iconst 1, 1) := by decide +kernel
theorem dL_law_241 : decode cL_law 241 = .ok (.iadd, 1) := by decide +kernel
theorem dL_law_242 : decode cL_law 242 = .ok (.iaload, 1) := by decide +kernel
theorem dL_law_243 : decode cL_law 243 = .ok (.aload_n 0, 1) := by decide +kernel
theorem dL_law_244 : decode cL_law 244 = .ok (.iload_n 3, 1) := by decide +kernel
theorem dL_law_245 : decode cL_law 245 = .ok (.iconst 2, 1) := by decide +kernel
theorem dL_law_246 : decode cL_law 246 = .ok (.iadd, 1) := by decide +kernel
theorem dL_law_247 : decode cL_law 247 = .ok (.iaload, 1) := by decide +kernel
theorem dL_law_248 : decode cL_law 248 = .ok (.aload_n 0, 1) := by decide +kernel
theorem dL_law_249 : decode cL_law 249 = .ok (.iload_n 3, 1) := by decide +kernel
theorem dL_law_250 : decode cL_law 250 = .ok (.iconst 3, 1) := by decide +kernel
theorem dL_law_251 : decode cL_law 251 = .ok (.iadd, 1) := by decide +kernel
theorem dL_law_252 : decode cL_law 252 = .ok (.iaload, 1) := by decide +kernel
theorem dL_law_253 : decode cL_law 253 = .ok (.invokevirtual 26, 3) := by decide +kernel
theorem dL_law_256 : decode cL_law 256 = .ok (.if_icmp .eq 680, 3) := by decide +kernel
theorem dL_law_259 : decode cL_law 259 = .ok (.iconst 0, 1) := by decide +kernel
theorem dL_law_260 : decode cL_law 260 = .ok (.ireturn, 1) := by decide +kernel
theorem dL_law_261 : decode cL_law 261 = .ok (.aload_n 1, 1) := by decide +kernel
theorem dL_law_262 : decode cL_law 262 = .ok (.aload_n 0, 1) := by decide +kernel
theorem dL_law_263 : decode cL_law 263 = .ok (.iload_n 3, 1) := by decide +kernel
theorem dL_law_264 : decode cL_law 264 = .ok (.iconst 1, 1) := by decide +kernel
theorem dL_law_265 : decode cL_law 265 = .ok (.iadd, 1) := by decide +kernel
theorem dL_law_266 : decode cL_law 266 = .ok (.iaload, 1) := by decide +kernel
theorem dL_law_267 : decode cL_law 267 = .ok (.aload_n 0, 1) := by decide +kernel
theorem dL_law_268 : decode cL_law 268 = .ok (.iload_n 3, 1) := by decide +kernel
theorem dL_law_269 : decode cL_law 269 = .ok (.iconst 2, 1) := by decide +kernel
theorem dL_law_270 : decode cL_law 270 = .ok (.iadd, 1) := by decide +kernel
theorem dL_law_271 : decode cL_law 271 = .ok (.iaload, 1) := by decide +kernel
theorem dL_law_272 : decode cL_law 272 = .ok (.aload_n 0, 1) := by decide +kernel
theorem dL_law_273 : decode cL_law 273 = .ok (.iload_n 3, 1) := by decide +kernel
theorem dL_law_274 : decode cL_law 274 = .ok (.iconst 3, 1) := by decide +kernel
theorem dL_law_275 : decode cL_law 275 = .ok (.iadd, 1) := by decide +kernel
theorem dL_law_276 : decode cL_law 276 = .ok (.iaload, 1) := by decide +kernel
theorem dL_law_277 : decode cL_law 277 = .ok (.invokevirtual 27, 3) := by decide +kernel
theorem dL_law_280 : decode cL_law 280 = .ok (.aload_n 2, 1) := by decide +kernel
theorem dL_law_281 : decode cL_law 281 = .ok (.aload_n 0, 1) := by decide +kernel
theorem dL_law_282 : decode cL_law 282 = .ok (.iload_n 3, 1) := by decide +kernel
theorem dL_law_283 : decode cL_law 283 = .ok (.iconst 1, 1) := by decide +kernel
theorem dL_law_284 : decode cL_law 284 = .ok (.iadd, 1) := by decide +kernel
theorem dL_law_285 : decode cL_law 285 = .ok (.iaload, 1) := by decide +kernel
theorem dL_law_286 : decode cL_law 286 = .ok (.aload_n 0, 1) := by decide +kernel
theorem dL_law_287 : decode cL_law 287 = .ok (.iload_n 3, 1) := by decide +kernel
theorem dL_law_288 : decode cL_law 288 = .ok (.iconst 2, 1) := by decide +kernel
theorem dL_law_289 : decode cL_law 289 = .ok (.iadd, 1) := by decide +kernel
theorem dL_law_290 : decode cL_law 290 = .ok (.iaload, 1) := by decide +kernel
theorem dL_law_291 : decode cL_law 291 = .ok (.aload_n 0, 1) := by decide +kernel
theorem dL_law_292 : decode cL_law 292 = .ok (.iload_n 3, 1) := by decide +kernel
theorem dL_law_293 : decode cL_law 293 = .ok (.iconst 3, 1) := by decide +kernel
theorem dL_law_294 : decode cL_law 294 = .ok (.iadd, 1) := by decide +kernel
theorem dL_law_295 : decode cL_law 295 = .ok (.iaload, 1) := by decide +kernel
theorem dL_law_296 : decode cL_law 296 = .ok (.invokevirtual 30, 3) := by decide +kernel
theorem dL_law_299 : decode cL_law 299 = .ok (.if_icmp .eq 637, 3) := by decide +kernel
theorem dL_law_302 : decode cL_law 302 = .ok (.iconst 0, 1) := by decide +kernel
theorem dL_law_303 : decode cL_law 303 = .ok (.ireturn, 1) := by decide +kernel
theorem dL_law_304 : decode cL_law 304 = .ok (.aload_n 1, 1) := by decide +kernel
theorem dL_law_305 : decode cL_law 305 = .ok (.invokevirtual 31, 3) := by decide +kernel
theorem dL_law_308 : decode cL_law 308 = .ok (.aload_n 2, 1) := by decide +kernel
theorem dL_law_309 : decode cL_law 309 = .ok (.invokevirtual 35, 3) := by decide +kernel
theorem dL_law_312 : decode cL_law 312 = .ok (.if_icmp .eq 624, 3) := by decide +kernel
theorem dL_law_315 : decode cL_law 315 = .ok (.iconst 0, 1) := by decide +kernel
theorem dL_law_316 : decode cL_law 316 = .ok (.ireturn, 1) := by decide +kernel
theorem dL_law_317 : decode cL_law 317 = .ok (.aload_n 1, 1) := by decide +kernel
theorem dL_law_318 : decode cL_law 318 = .ok (.aload_n 0, 1) := by decide +kernel
theorem dL_law_319 : decode cL_law 319 = .ok (.iload_n 3, 1) := by decide +kernel
theorem dL_law_320 : decode cL_law 320 = .ok (.iconst 1, 1) := by decide +kernel
theorem dL_law_321 : decode cL_law 321 = .ok (.iadd, 1) := by decide +kernel
theorem dL_law_322 : decode cL_law 322 = .ok (.iaload, 1) := by decide +kernel
theorem dL_law_323 : decode cL_law 323 = .ok (.aload_n 0, 1) := by decide +kernel
theorem dL_law_324 : decode cL_law 324 = .ok (.iload_n 3, 1) := by decide +kernel
theorem dL_law_325 : decode cL_law 325 = .ok (.iconst 2, 1) := by decide +kernel
theorem dL_law_326 : decode cL_law 326 = .ok (.iadd, 1) := by decide +kernel
theorem dL_law_327 : decode cL_law 327 = .ok (.iaload, 1) := by decide +kernel
theorem dL_law_328 : decode cL_law 328 = .ok (.invokevirtual 36, 3) := by decide +kernel
theorem dL_law_331 : decode cL_law 331 = .ok (.aload_n 2, 1) := by decide +kernel
theorem dL_law_332 : decode cL_law 332 = .ok (.aload_n 0, 1) := by decide +kernel
theorem dL_law_333 : decode cL_law 333 = .ok (.iload_n 3, 1) := by decide +kernel
theorem dL_law_334 : decode cL_law 334 = .ok (.iconst 1, 1) := by decide +kernel
theorem dL_law_335 : decode cL_law 335 = .ok (.iadd, 1) := by decide +kernel
theorem dL_law_336 : decode cL_law 336 = .ok (.iaload, 1) := by decide +kernel
theorem dL_law_337 : decode cL_law 337 = .ok (.aload_n 0, 1) := by decide +kernel
theorem dL_law_338 : decode cL_law 338 = .ok (.iload_n 3, 1) := by decide +kernel
theorem dL_law_339 : decode cL_law 339 = .ok (.iconst 2, 1) := by decide +kernel
theorem dL_law_340 : decode cL_law 340 = .ok (.iadd, 1) := by decide +kernel
theorem dL_law_341 : decode cL_law 341 = .ok (.iaload, 1) := by decide +kernel
theorem dL_law_342 : decode cL_law 342 = .ok (.invokevirtual 39, 3) := by decide +kernel
theorem dL_law_345 : decode cL_law 345 = .ok (.if_icmp .eq 591, 3) := by decide +kernel
theorem dL_law_348 : decode cL_law 348 = .ok (.iconst 0, 1) := by decide +kernel
theorem dL_law_349 : decode cL_law 349 = .ok (.ireturn, 1) := by decide +kernel
theorem dL_law_350 : decode cL_law 350 = .ok (.aload_n 1, 1) := by decide +kernel
theorem dL_law_351 : decode cL_law 351 = .ok (.aload_n 0, 1) := by decide +kernel
theorem dL_law_352 : decode cL_law 352 = .ok (.iload_n 3, 1) := by decide +kernel
theorem dL_law_353 : decode cL_law 353 = .ok (.iconst 1, 1) := by decide +kernel
theorem dL_law_354 : decode cL_law 354 = .ok (.iadd, 1) := by decide +kernel
theorem dL_law_355 : decode cL_law 355 = .ok (.iaload, 1) := by decide +kernel
theorem dL_law_356 : decode cL_law 356 = .ok (.aload_n 0, 1) := by decide +kernel
theorem dL_law_357 : decode cL_law 357 = .ok (.iload_n 3, 1) := by decide +kernel
theorem dL_law_358 : decode cL_law 358 = .ok (.iconst 2, 1) := by decide +kernel
theorem dL_law_359 : decode cL_law 359 = .ok (.iadd, 1) := by decide +kernel
theorem dL_law_360 : decode cL_law 360 = .ok (.iaload, 1) := by decide +kernel
theorem dL_law_361 : decode cL_law 361 = .ok (.aload_n 0, 1) := by decide +kernel
theorem dL_law_362 : decode cL_law 362 = .ok (.iload_n 3, 1) := by decide +kernel
theorem dL_law_363 : decode cL_law 363 = .ok (.iconst 3, 1) := by decide +kernel
theorem dL_law_364 : decode cL_law 364 = .ok (.iadd, 1) := by decide +kernel
theorem dL_law_365 : decode cL_law 365 = .ok (.iaload, 1) := by decide +kernel
theorem dL_law_366 : decode cL_law 366 = .ok (.aload_n 0, 1) := by decide +kernel
theorem dL_law_367 : decode cL_law 367 = .ok (.iload_n 3, 1) := by decide +kernel
theorem dL_law_368 : decode cL_law 368 = .ok (.iconst 4, 1) := by decide +kernel
theorem dL_law_369 : decode cL_law 369 = .ok (.iadd, 1) := by decide +kernel
theorem dL_law_370 : decode cL_law 370 = .ok (.iaload, 1) := by decide +kernel
theorem dL_law_371 : decode cL_law 371 = .ok (.invokevirtual 40, 3) := by decide +kernel
theorem dL_law_374 : decode cL_law 374 = .ok (.aload_n 2, 1) := by decide +kernel
theorem dL_law_375 : decode cL_law 375 = .ok (.aload_n 0, 1) := by decide +kernel
theorem dL_law_376 : decode cL_law 376 = .ok (.iload_n 3, 1) := by decide +kernel
theorem dL_law_377 : decode cL_law 377 = .ok (.iconst 1, 1) := by decide +kernel
theorem dL_law_378 : decode cL_law 378 = .ok (.iadd, 1) := by decide +kernel
theorem dL_law_379 : decode cL_law 379 = .ok (.iaload, 1) := by decide +kernel
theorem dL_law_380 : decode cL_law 380 = .ok (.aload_n 0, 1) := by decide +kernel
theorem dL_law_381 : decode cL_law 381 = .ok (.iload_n 3, 1) := by decide +kernel
theorem dL_law_382 : decode cL_law 382 = .ok (.iconst 2, 1) := by decide +kernel
theorem dL_law_383 : decode cL_law 383 = .ok (.iadd, 1) := by decide +kernel
theorem dL_law_384 : decode cL_law 384 = .ok (.iaload, 1) := by decide +kernel
theorem dL_law_385 : decode cL_law 385 = .ok (.aload_n 0, 1) := by decide +kernel
theorem dL_law_386 : decode cL_law 386 = .ok (.iload_n 3, 1) := by decide +kernel
theorem dL_law_387 : decode cL_law 387 = .ok (.iconst 3, 1) := by decide +kernel
theorem dL_law_388 : decode cL_law 388 = .ok (.iadd, 1) := by decide +kernel
theorem dL_law_389 : decode cL_law 389 = .ok (.iaload, 1) := by decide +kernel
theorem dL_law_390 : decode cL_law 390 = .ok (.aload_n 0, 1) := by decide +kernel
theorem dL_law_391 : decode cL_law 391 = .ok (.iload_n 3, 1) := by decide +kernel
theorem dL_law_392 : decode cL_law 392 = .ok (.iconst 4, 1) := by decide +kernel
theorem dL_law_393 : decode cL_law 393 = .ok (.iadd, 1) := by decide +kernel
theorem dL_law_394 : decode cL_law 394 = .ok (.iaload, 1) := by decide +kernel
theorem dL_law_395 : decode cL_law 395 = .ok (.invokevirtual 44, 3) := by decide +kernel
theorem dL_law_398 : decode cL_law 398 = .ok (.if_icmp .eq 538, 3) := by decide +kernel
theorem dL_law_401 : decode cL_law 401 = .ok (.iconst 0, 1) := by decide +kernel
theorem dL_law_402 : decode cL_law 402 = .ok (.ireturn, 1) := by decide +kernel
theorem dL_law_403 : decode cL_law 403 = .ok (.aload_n 1, 1) := by decide +kernel
theorem dL_law_404 : decode cL_law 404 = .ok (.aload_n 0, 1) := by decide +kernel
theorem dL_law_405 : decode cL_law 405 = .ok (.iload_n 3, 1) := by decide +kernel
theorem dL_law_406 : decode cL_law 406 = .ok (.iconst 1, 1) := by decide +kernel
theorem dL_law_407 : decode cL_law 407 = .ok (.iadd, 1) := by decide +kernel
theorem dL_law_408 : decode cL_law 408 = .ok (.iaload, 1) := by decide +kernel
theorem dL_law_409 : decode cL_law 409 = .ok (.invokevirtual 45, 3) := by decide +kernel
theorem dL_law_412 : decode cL_law 412 = .ok (.aload_n 2, 1) := by decide +kernel
theorem dL_law_413 : decode cL_law 413 = .ok (.aload_n 0, 1) := by decide +kernel
theorem dL_law_414 : decode cL_law 414 = .ok (.iload_n 3, 1) := by decide +kernel
theorem dL_law_415 : decode cL_law 415 = .ok (.iconst 1, 1) := by decide +kernel
theorem dL_law_416 : decode cL_law 416 = .ok (.iadd, 1) := by decide +kernel
theorem dL_law_417 : decode cL_law 417 = .ok (.iaload, 1) := by decide +kernel
theorem dL_law_418 : decode cL_law 418 = .ok (.invokevirtual 49, 3) := by decide +kernel
theorem dL_law_421 : decode cL_law 421 = .ok (.if_icmp .eq 515, 3) := by decide +kernel
theorem dL_law_424 : decode cL_law 424 = .ok (.iconst 0, 1) := by decide +kernel
theorem dL_law_425 : decode cL_law 425 = .ok (.ireturn, 1) := by decide +kernel
theorem dL_law_426 : decode cL_law 426 = .ok (.aload_n 1, 1) := by decide +kernel
theorem dL_law_427 : decode cL_law 427 = .ok (.aload_n 0, 1) := by decide +kernel
theorem dL_law_428 : decode cL_law 428 = .ok (.iload_n 3, 1) := by decide +kernel
theorem dL_law_429 : decode cL_law 429 = .ok (.iconst 1, 1) := by decide +kernel
theorem dL_law_430 : decode cL_law 430 = .ok (.iadd, 1) := by decide +kernel
theorem dL_law_431 : decode cL_law 431 = .ok (.iaload, 1) := by decide +kernel
theorem dL_law_432 : decode cL_law 432 = .ok (.invokevirtual 50, 3) := by decide +kernel
theorem dL_law_435 : decode cL_law 435 = .ok (.aload_n 2, 1) := by decide +kernel
theorem dL_law_436 : decode cL_law 436 = .ok (.aload_n 0, 1) := by decide +kernel
theorem dL_law_437 : decode cL_law 437 = .ok (.iload_n 3, 1) := by decide +kernel
theorem dL_law_438 : decode cL_law 438 = .ok (.iconst 1, 1) := by decide +kernel
theorem dL_law_439 : decode cL_law 439 = .ok (.iadd, 1) := by decide +kernel
theorem dL_law_440 : decode cL_law 440 = .ok (.iaload, 1) := by decide +kernel
theorem dL_law_441 : decode cL_law 441 = .ok (.invokevirtual 53, 3) := by decide +kernel
theorem dL_law_444 : decode cL_law 444 = .ok (.if_icmp .eq 492, 3) := by decide +kernel
theorem dL_law_447 : decode cL_law 447 = .ok (.iconst 0, 1) := by decide +kernel
theorem dL_law_448 : decode cL_law 448 = .ok (.ireturn, 1) := by decide +kernel
theorem dL_law_449 : decode cL_law 449 = .ok (.aload_n 1, 1) := by decide +kernel
theorem dL_law_450 : decode cL_law 450 = .ok (.aload_n 0, 1) := by decide +kernel
theorem dL_law_451 : decode cL_law 451 = .ok (.iload_n 3, 1) := by decide +kernel
theorem dL_law_452 : decode cL_law 452 = .ok (.iconst 1, 1) := by decide +kernel
theorem dL_law_453 : decode cL_law 453 = .ok (.iadd, 1) := by decide +kernel
theorem dL_law_454 : decode cL_law 454 = .ok (.iaload, 1) := by decide +kernel
theorem dL_law_455 : decode cL_law 455 = .ok (.invokevirtual 54, 3) := by decide +kernel
theorem dL_law_458 : decode cL_law 458 = .ok (.aload_n 2, 1) := by decide +kernel
theorem dL_law_459 : decode cL_law 459 = .ok (.aload_n 0, 1) := by decide +kernel
theorem dL_law_460 : decode cL_law 460 = .ok (.iload_n 3, 1) := by decide +kernel
theorem dL_law_461 : decode cL_law 461 = .ok (.iconst 1, 1) := by decide +kernel
theorem dL_law_462 : decode cL_law 462 = .ok (.iadd, 1) := by decide +kernel
theorem dL_law_463 : decode cL_law 463 = .ok (.iaload, 1) := by decide +kernel
theorem dL_law_464 : decode cL_law 464 = .ok (.invokevirtual 57, 3) := by decide +kernel
theorem dL_law_467 : decode cL_law 467 = .ok (.if_icmp .eq 469, 3) := by decide +kernel
theorem dL_law_470 : decode cL_law 470 = .ok (.iconst 0, 1) := by decide +kernel
theorem dL_law_471 : decode cL_law 471 = .ok (.ireturn, 1) := by decide +kernel
theorem dL_law_472 : decode cL_law 472 = .ok (.aload_n 1, 1) := by decide +kernel
theorem dL_law_473 : decode cL_law 473 = .ok (.aload_n 0, 1) := by decide +kernel
theorem dL_law_474 : decode cL_law 474 = .ok (.iload_n 3, 1) := by decide +kernel
theorem dL_law_475 : decode cL_law 475 = .ok (.iconst 1, 1) := by decide +kernel
theorem dL_law_476 : decode cL_law 476 = .ok (.iadd, 1) := by decide +kernel
theorem dL_law_477 : decode cL_law 477 = .ok (.iaload, 1) := by decide +kernel
theorem dL_law_478 : decode cL_law 478 = .ok (.aload_n 0, 1) := by decide +kernel
theorem dL_law_479 : decode cL_law 479 = .ok (.iload_n 3, 1) := by decide +kernel
theorem dL_law_480 : decode cL_law 480 = .ok (.iconst 2, 1) := by decide +kernel
theorem dL_law_481 : decode cL_law 481 = .ok (.iadd, 1) := by decide +kernel
theorem dL_law_482 : decode cL_law 482 = .ok (.iaload, 1) := by decide +kernel
theorem dL_law_483 : decode cL_law 483 = .ok (.invokevirtual 58, 3) := by decide +kernel
theorem dL_law_486 : decode cL_law 486 = .ok (.aload_n 2, 1) := by decide +kernel
theorem dL_law_487 : decode cL_law 487 = .ok (.aload_n 0, 1) := by decide +kernel
theorem dL_law_488 : decode cL_law 488 = .ok (.iload_n 3, 1) := by decide +kernel
theorem dL_law_489 : decode cL_law 489 = .ok (.iconst 1, 1) := by decide +kernel
theorem dL_law_490 : decode cL_law 490 = .ok (.iadd, 1) := by decide +kernel
theorem dL_law_491 : decode cL_law 491 = .ok (.iaload, 1) := by decide +kernel
theorem dL_law_492 : decode cL_law 492 = .ok (.aload_n 0, 1) := by decide +kernel
theorem dL_law_493 : decode cL_law 493 = .ok (.iload_n 3, 1) := by decide +kernel
theorem dL_law_494 : decode cL_law 494 = .ok (.iconst 2, 1) := by decide +kernel
theorem dL_law_495 : decode cL_law 495 = .ok (.iadd, 1) := by decide +kernel
theorem dL_law_496 : decode cL_law 496 = .ok (.iaload, 1) := by decide +kernel
theorem dL_law_497 : decode cL_law 497 = .ok (.invokevirtual 61, 3) := by decide +kernel
theorem dL_law_500 : decode cL_law 500 = .ok (.if_icmp .eq 436, 3) := by decide +kernel
theorem dL_law_503 : decode cL_law 503 = .ok (.iconst 0, 1) := by decide +kernel
theorem dL_law_504 : decode cL_law 504 = .ok (.ireturn, 1) := by decide +kernel
theorem dL_law_505 : decode cL_law 505 = .ok (.aload_n 1, 1) := by decide +kernel
theorem dL_law_506 : decode cL_law 506 = .ok (.aload_n 0, 1) := by decide +kernel
theorem dL_law_507 : decode cL_law 507 = .ok (.iload_n 3, 1) := by decide +kernel
theorem dL_law_508 : decode cL_law 508 = .ok (.iconst 1, 1) := by decide +kernel
theorem dL_law_509 : decode cL_law 509 = .ok (.iadd, 1) := by decide +kernel
theorem dL_law_510 : decode cL_law 510 = .ok (.iaload, 1) := by decide +kernel
theorem dL_law_511 : decode cL_law 511 = .ok (.aload_n 0, 1) := by decide +kernel
theorem dL_law_512 : decode cL_law 512 = .ok (.iload_n 3, 1) := by decide +kernel
theorem dL_law_513 : decode cL_law 513 = .ok (.iconst 2, 1) := by decide +kernel
theorem dL_law_514 : decode cL_law 514 = .ok (.iadd, 1) := by decide +kernel
theorem dL_law_515 : decode cL_law 515 = .ok (.iaload, 1) := by decide +kernel
theorem dL_law_516 : decode cL_law 516 = .ok (.aload_n 0, 1) := by decide +kernel
theorem dL_law_517 : decode cL_law 517 = .ok (.iload_n 3, 1) := by decide +kernel
theorem dL_law_518 : decode cL_law 518 = .ok (.iconst 3, 1) := by decide +kernel
theorem dL_law_519 : decode cL_law 519 = .ok (.iadd, 1) := by decide +kernel
theorem dL_law_520 : decode cL_law 520 = .ok (.iaload, 1) := by decide +kernel
theorem dL_law_521 : decode cL_law 521 = .ok (.ifCond .eq 7, 3) := by decide +kernel
theorem dL_law_524 : decode cL_law 524 = .ok (.iconst 1, 1) := by decide +kernel
theorem dL_law_525 : decode cL_law 525 = .ok (.goto 4, 3) := by decide +kernel
theorem dL_law_528 : decode cL_law 528 = .ok (.iconst 0, 1) := by decide +kernel
theorem dL_law_529 : decode cL_law 529 = .ok (.invokevirtual 62, 3) := by decide +kernel
theorem dL_law_532 : decode cL_law 532 = .ok (.aload_n 2, 1) := by decide +kernel
theorem dL_law_533 : decode cL_law 533 = .ok (.aload_n 0, 1) := by decide +kernel
theorem dL_law_534 : decode cL_law 534 = .ok (.iload_n 3, 1) := by decide +kernel
theorem dL_law_535 : decode cL_law 535 = .ok (.iconst 1, 1) := by decide +kernel
theorem dL_law_536 : decode cL_law 536 = .ok (.iadd, 1) := by decide +kernel
theorem dL_law_537 : decode cL_law 537 = .ok (.iaload, 1) := by decide +kernel
theorem dL_law_538 : decode cL_law 538 = .ok (.aload_n 0, 1) := by decide +kernel
theorem dL_law_539 : decode cL_law 539 = .ok (.iload_n 3, 1) := by decide +kernel
theorem dL_law_540 : decode cL_law 540 = .ok (.iconst 2, 1) := by decide +kernel
theorem dL_law_541 : decode cL_law 541 = .ok (.iadd, 1) := by decide +kernel
theorem dL_law_542 : decode cL_law 542 = .ok (.iaload, 1) := by decide +kernel
theorem dL_law_543 : decode cL_law 543 = .ok (.aload_n 0, 1) := by decide +kernel
theorem dL_law_544 : decode cL_law 544 = .ok (.iload_n 3, 1) := by decide +kernel
theorem dL_law_545 : decode cL_law 545 = .ok (.iconst 3, 1) := by decide +kernel
theorem dL_law_546 : decode cL_law 546 = .ok (.iadd, 1) := by decide +kernel
theorem dL_law_547 : decode cL_law 547 = .ok (.iaload, 1) := by decide +kernel
theorem dL_law_548 : decode cL_law 548 = .ok (.ifCond .eq 7, 3) := by decide +kernel
theorem dL_law_551 : decode cL_law 551 = .ok (.iconst 1, 1) := by decide +kernel
theorem dL_law_552 : decode cL_law 552 = .ok (.goto 4, 3) := by decide +kernel
theorem dL_law_555 : decode cL_law 555 = .ok (.iconst 0, 1) := by decide +kernel
theorem dL_law_556 : decode cL_law 556 = .ok (.invokevirtual 66, 3) := by decide +kernel
theorem dL_law_559 : decode cL_law 559 = .ok (.if_icmp .eq 377, 3) := by decide +kernel
theorem dL_law_562 : decode cL_law 562 = .ok (.iconst 0, 1) := by decide +kernel
theorem dL_law_563 : decode cL_law 563 = .ok (.ireturn, 1) := by decide +kernel
theorem dL_law_564 : decode cL_law 564 = .ok (.aload_n 1, 1) := by decide +kernel
theorem dL_law_565 : decode cL_law 565 = .ok (.aload_n 0, 1) := by decide +kernel
theorem dL_law_566 : decode cL_law 566 = .ok (.iload_n 3, 1) := by decide +kernel
theorem dL_law_567 : decode cL_law 567 = .ok (.iconst 1, 1) := by decide +kernel
theorem dL_law_568 : decode cL_law 568 = .ok (.iadd, 1) := by decide +kernel
theorem dL_law_569 : decode cL_law 569 = .ok (.iaload, 1) := by decide +kernel
theorem dL_law_570 : decode cL_law 570 = .ok (.aload_n 0, 1) := by decide +kernel
theorem dL_law_571 : decode cL_law 571 = .ok (.iload_n 3, 1) := by decide +kernel
theorem dL_law_572 : decode cL_law 572 = .ok (.iconst 2, 1) := by decide +kernel
theorem dL_law_573 : decode cL_law 573 = .ok (.iadd, 1) := by decide +kernel
theorem dL_law_574 : decode cL_law 574 = .ok (.iaload, 1) := by decide +kernel
theorem dL_law_575 : decode cL_law 575 = .ok (.invokevirtual 67, 3) := by decide +kernel
theorem dL_law_578 : decode cL_law 578 = .ok (.aload_n 2, 1) := by decide +kernel
theorem dL_law_579 : decode cL_law 579 = .ok (.aload_n 0, 1) := by decide +kernel
theorem dL_law_580 : decode cL_law 580 = .ok (.iload_n 3, 1) := by decide +kernel
theorem dL_law_581 : decode cL_law 581 = .ok (.iconst 1, 1) := by decide +kernel
theorem dL_law_582 : decode cL_law 582 = .ok (.iadd, 1) := by decide +kernel
theorem dL_law_583 : decode cL_law 583 = .ok (.iaload, 1) := by decide +kernel
theorem dL_law_584 : decode cL_law 584 = .ok (.aload_n 0, 1) := by decide +kernel
theorem dL_law_585 : decode cL_law 585 = .ok (.iload_n 3, 1) := by decide +kernel
theorem dL_law_586 : decode cL_law 586 = .ok (.iconst 2, 1) := by decide +kernel
theorem dL_law_587 : decode cL_law 587 = .ok (.iadd, 1) := by decide +kernel
theorem dL_law_588 : decode cL_law 588 = .ok (.iaload, 1) := by decide +kernel
theorem dL_law_589 : decode cL_law 589 = .ok (.invokevirtual 70, 3) := by decide +kernel
theorem dL_law_592 : decode cL_law 592 = .ok (.if_icmp .eq 344, 3) := by decide +kernel
theorem dL_law_595 : decode cL_law 595 = .ok (.iconst 0, 1) := by decide +kernel
theorem dL_law_596 : decode cL_law 596 = .ok (.ireturn, 1) := by decide +kernel
theorem dL_law_597 : decode cL_law 597 = .ok (.aload_n 1, 1) := by decide +kernel
theorem dL_law_598 : decode cL_law 598 = .ok (.aload_n 0, 1) := by decide +kernel
theorem dL_law_599 : decode cL_law 599 = .ok (.iload_n 3, 1) := by decide +kernel
theorem dL_law_600 : decode cL_law 600 = .ok (.iconst 1, 1) := by decide +kernel
theorem dL_law_601 : decode cL_law 601 = .ok (.iadd, 1) := by decide +kernel
theorem dL_law_602 : decode cL_law 602 = .ok (.iaload, 1) := by decide +kernel
theorem dL_law_603 : decode cL_law 603 = .ok (.invokevirtual 71, 3) := by decide +kernel
theorem dL_law_606 : decode cL_law 606 = .ok (.aload_n 2, 1) := by decide +kernel
theorem dL_law_607 : decode cL_law 607 = .ok (.aload_n 0, 1) := by decide +kernel
theorem dL_law_608 : decode cL_law 608 = .ok (.iload_n 3, 1) := by decide +kernel
theorem dL_law_609 : decode cL_law 609 = .ok (.iconst 1, 1) := by decide +kernel
theorem dL_law_610 : decode cL_law 610 = .ok (.iadd, 1) := by decide +kernel
theorem dL_law_611 : decode cL_law 611 = .ok (.iaload, 1) := by decide +kernel
theorem dL_law_612 : decode cL_law 612 = .ok (.invokevirtual 74, 3) := by decide +kernel
theorem dL_law_615 : decode cL_law 615 = .ok (.if_icmp .eq 321, 3) := by decide +kernel
theorem dL_law_618 : decode cL_law 618 = .ok (.iconst 0, 1) := by decide +kernel
theorem dL_law_619 : decode cL_law 619 = .ok (.ireturn, 1) := by decide +kernel
theorem dL_law_620 : decode cL_law 620 = .ok (.aload_n 1, 1) := by decide +kernel
theorem dL_law_621 : decode cL_law 621 = .ok (.aload_n 0, 1) := by decide +kernel
theorem dL_law_622 : decode cL_law 622 = .ok (.iload_n 3, 1) := by decide +kernel
theorem dL_law_623 : decode cL_law 623 = .ok (.iconst 1, 1) := by decide +kernel
theorem dL_law_624 : decode cL_law 624 = .ok (.iadd, 1) := by decide +kernel
theorem dL_law_625 : decode cL_law 625 = .ok (.iaload, 1) := by decide +kernel
theorem dL_law_626 : decode cL_law 626 = .ok (.aload_n 0, 1) := by decide +kernel
theorem dL_law_627 : decode cL_law 627 = .ok (.iload_n 3, 1) := by decide +kernel
theorem dL_law_628 : decode cL_law 628 = .ok (.iconst 2, 1) := by decide +kernel
theorem dL_law_629 : decode cL_law 629 = .ok (.iadd, 1) := by decide +kernel
theorem dL_law_630 : decode cL_law 630 = .ok (.iaload, 1) := by decide +kernel
theorem dL_law_631 : decode cL_law 631 = .ok (.invokevirtual 75, 3) := by decide +kernel
theorem dL_law_634 : decode cL_law 634 = .ok (.aload_n 2, 1) := by decide +kernel
theorem dL_law_635 : decode cL_law 635 = .ok (.aload_n 0, 1) := by decide +kernel
theorem dL_law_636 : decode cL_law 636 = .ok (.iload_n 3, 1) := by decide +kernel
theorem dL_law_637 : decode cL_law 637 = .ok (.iconst 1, 1) := by decide +kernel
theorem dL_law_638 : decode cL_law 638 = .ok (.iadd, 1) := by decide +kernel
theorem dL_law_639 : decode cL_law 639 = .ok (.iaload, 1) := by decide +kernel
theorem dL_law_640 : decode cL_law 640 = .ok (.aload_n 0, 1) := by decide +kernel
theorem dL_law_641 : decode cL_law 641 = .ok (.iload_n 3, 1) := by decide +kernel
theorem dL_law_642 : decode cL_law 642 = .ok (.iconst 2, 1) := by decide +kernel
theorem dL_law_643 : decode cL_law 643 = .ok (.iadd, 1) := by decide +kernel
theorem dL_law_644 : decode cL_law 644 = .ok (.iaload, 1) := by decide +kernel
theorem dL_law_645 : decode cL_law 645 = .ok (.invokevirtual 78, 3) := by decide +kernel
theorem dL_law_648 : decode cL_law 648 = .ok (.if_icmp .eq 288, 3) := by decide +kernel
theorem dL_law_651 : decode cL_law 651 = .ok (.iconst 0, 1) := by decide +kernel
theorem dL_law_652 : decode cL_law 652 = .ok (.ireturn, 1) := by decide +kernel
theorem dL_law_653 : decode cL_law 653 = .ok (.aload_n 1, 1) := by decide +kernel
theorem dL_law_654 : decode cL_law 654 = .ok (.aload_n 0, 1) := by decide +kernel
theorem dL_law_655 : decode cL_law 655 = .ok (.iload_n 3, 1) := by decide +kernel
theorem dL_law_656 : decode cL_law 656 = .ok (.iconst 1, 1) := by decide +kernel
theorem dL_law_657 : decode cL_law 657 = .ok (.iadd, 1) := by decide +kernel
theorem dL_law_658 : decode cL_law 658 = .ok (.iaload, 1) := by decide +kernel
theorem dL_law_659 : decode cL_law 659 = .ok (.aload_n 0, 1) := by decide +kernel
theorem dL_law_660 : decode cL_law 660 = .ok (.iload_n 3, 1) := by decide +kernel
theorem dL_law_661 : decode cL_law 661 = .ok (.iconst 2, 1) := by decide +kernel
theorem dL_law_662 : decode cL_law 662 = .ok (.iadd, 1) := by decide +kernel
theorem dL_law_663 : decode cL_law 663 = .ok (.iaload, 1) := by decide +kernel
theorem dL_law_664 : decode cL_law 664 = .ok (.invokevirtual 79, 3) := by decide +kernel
theorem dL_law_667 : decode cL_law 667 = .ok (.aload_n 2, 1) := by decide +kernel
theorem dL_law_668 : decode cL_law 668 = .ok (.aload_n 0, 1) := by decide +kernel
theorem dL_law_669 : decode cL_law 669 = .ok (.iload_n 3, 1) := by decide +kernel
theorem dL_law_670 : decode cL_law 670 = .ok (.iconst 1, 1) := by decide +kernel
theorem dL_law_671 : decode cL_law 671 = .ok (.iadd, 1) := by decide +kernel
theorem dL_law_672 : decode cL_law 672 = .ok (.iaload, 1) := by decide +kernel
theorem dL_law_673 : decode cL_law 673 = .ok (.aload_n 0, 1) := by decide +kernel
theorem dL_law_674 : decode cL_law 674 = .ok (.iload_n 3, 1) := by decide +kernel
theorem dL_law_675 : decode cL_law 675 = .ok (.iconst 2, 1) := by decide +kernel
theorem dL_law_676 : decode cL_law 676 = .ok (.iadd, 1) := by decide +kernel
theorem dL_law_677 : decode cL_law 677 = .ok (.iaload, 1) := by decide +kernel
theorem dL_law_678 : decode cL_law 678 = .ok (.invokevirtual 82, 3) := by decide +kernel
theorem dL_law_681 : decode cL_law 681 = .ok (.if_icmp .eq 255, 3) := by decide +kernel
theorem dL_law_684 : decode cL_law 684 = .ok (.iconst 0, 1) := by decide +kernel
theorem dL_law_685 : decode cL_law 685 = .ok (.ireturn, 1) := by decide +kernel
theorem dL_law_686 : decode cL_law 686 = .ok (.aload_n 1, 1) := by decide +kernel
theorem dL_law_687 : decode cL_law 687 = .ok (.aload_n 0, 1) := by decide +kernel
theorem dL_law_688 : decode cL_law 688 = .ok (.iload_n 3, 1) := by decide +kernel
theorem dL_law_689 : decode cL_law 689 = .ok (.iconst 1, 1) := by decide +kernel
theorem dL_law_690 : decode cL_law 690 = .ok (.iadd, 1) := by decide +kernel
theorem dL_law_691 : decode cL_law 691 = .ok (.iaload, 1) := by decide +kernel
theorem dL_law_692 : decode cL_law 692 = .ok (.aload_n 0, 1) := by decide +kernel
theorem dL_law_693 : decode cL_law 693 = .ok (.iload_n 3, 1) := by decide +kernel
theorem dL_law_694 : decode cL_law 694 = .ok (.iconst 2, 1) := by decide +kernel
theorem dL_law_695 : decode cL_law 695 = .ok (.iadd, 1) := by decide +kernel
theorem dL_law_696 : decode cL_law 696 = .ok (.iaload, 1) := by decide +kernel
theorem dL_law_697 : decode cL_law 697 = .ok (.aload_n 0, 1) := by decide +kernel
theorem dL_law_698 : decode cL_law 698 = .ok (.iload_n 3, 1) := by decide +kernel
theorem dL_law_699 : decode cL_law 699 = .ok (.iconst 3, 1) := by decide +kernel
theorem dL_law_700 : decode cL_law 700 = .ok (.iadd, 1) := by decide +kernel
theorem dL_law_701 : decode cL_law 701 = .ok (.iaload, 1) := by decide +kernel
theorem dL_law_702 : decode cL_law 702 = .ok (.invokevirtual 83, 3) := by decide +kernel
theorem dL_law_705 : decode cL_law 705 = .ok (.aload_n 2, 1) := by decide +kernel
theorem dL_law_706 : decode cL_law 706 = .ok (.aload_n 0, 1) := by decide +kernel
theorem dL_law_707 : decode cL_law 707 = .ok (.iload_n 3, 1) := by decide +kernel
theorem dL_law_708 : decode cL_law 708 = .ok (.iconst 1, 1) := by decide +kernel
theorem dL_law_709 : decode cL_law 709 = .ok (.iadd, 1) := by decide +kernel
theorem dL_law_710 : decode cL_law 710 = .ok (.iaload, 1) := by decide +kernel
theorem dL_law_711 : decode cL_law 711 = .ok (.aload_n 0, 1) := by decide +kernel
theorem dL_law_712 : decode cL_law 712 = .ok (.iload_n 3, 1) := by decide +kernel
theorem dL_law_713 : decode cL_law 713 = .ok (.iconst 2, 1) := by decide +kernel
theorem dL_law_714 : decode cL_law 714 = .ok (.iadd, 1) := by decide +kernel
theorem dL_law_715 : decode cL_law 715 = .ok (.iaload, 1) := by decide +kernel
theorem dL_law_716 : decode cL_law 716 = .ok (.aload_n 0, 1) := by decide +kernel
theorem dL_law_717 : decode cL_law 717 = .ok (.iload_n 3, 1) := by decide +kernel
theorem dL_law_718 : decode cL_law 718 = .ok (.iconst 3, 1) := by decide +kernel
theorem dL_law_719 : decode cL_law 719 = .ok (.iadd, 1) := by decide +kernel
theorem dL_law_720 : decode cL_law 720 = .ok (.iaload, 1) := by decide +kernel
theorem dL_law_721 : decode cL_law 721 = .ok (.invokevirtual 86, 3) := by decide +kernel
theorem dL_law_724 : decode cL_law 724 = .ok (.if_icmp .eq 212, 3) := by decide +kernel
theorem dL_law_727 : decode cL_law 727 = .ok (.iconst 0, 1) := by decide +kernel
theorem dL_law_728 : decode cL_law 728 = .ok (.ireturn, 1) := by decide +kernel
theorem dL_law_729 : decode cL_law 729 = .ok (.aload_n 1, 1) := by decide +kernel
theorem dL_law_730 : decode cL_law 730 = .ok (.aload_n 0, 1) := by decide +kernel
theorem dL_law_731 : decode cL_law 731 = .ok (.iload_n 3, 1) := by decide +kernel
theorem dL_law_732 : decode cL_law 732 = .ok (.iconst 1, 1) := by decide +kernel
theorem dL_law_733 : decode cL_law 733 = .ok (.iadd, 1) := by decide +kernel
theorem dL_law_734 : decode cL_law 734 = .ok (.iaload, 1) := by decide +kernel
theorem dL_law_735 : decode cL_law 735 = .ok (.invokevirtual 87, 3) := by decide +kernel
theorem dL_law_738 : decode cL_law 738 = .ok (.aload_n 2, 1) := by decide +kernel
theorem dL_law_739 : decode cL_law 739 = .ok (.aload_n 0, 1) := by decide +kernel
theorem dL_law_740 : decode cL_law 740 = .ok (.iload_n 3, 1) := by decide +kernel
theorem dL_law_741 : decode cL_law 741 = .ok (.iconst 1, 1) := by decide +kernel
theorem dL_law_742 : decode cL_law 742 = .ok (.iadd, 1) := by decide +kernel
theorem dL_law_743 : decode cL_law 743 = .ok (.iaload, 1) := by decide +kernel
theorem dL_law_744 : decode cL_law 744 = .ok (.invokevirtual 90, 3) := by decide +kernel
theorem dL_law_747 : decode cL_law 747 = .ok (.if_icmp .eq 189, 3) := by decide +kernel
theorem dL_law_750 : decode cL_law 750 = .ok (.iconst 0, 1) := by decide +kernel
theorem dL_law_751 : decode cL_law 751 = .ok (.ireturn, 1) := by decide +kernel
theorem dL_law_752 : decode cL_law 752 = .ok (.aload_n 1, 1) := by decide +kernel
theorem dL_law_753 : decode cL_law 753 = .ok (.aload_n 0, 1) := by decide +kernel
theorem dL_law_754 : decode cL_law 754 = .ok (.iload_n 3, 1) := by decide +kernel
theorem dL_law_755 : decode cL_law 755 = .ok (.iconst 1, 1) := by decide +kernel
theorem dL_law_756 : decode cL_law 756 = .ok (.iadd, 1) := by decide +kernel
theorem dL_law_757 : decode cL_law 757 = .ok (.iaload, 1) := by decide +kernel
theorem dL_law_758 : decode cL_law 758 = .ok (.aload_n 0, 1) := by decide +kernel
theorem dL_law_759 : decode cL_law 759 = .ok (.iload_n 3, 1) := by decide +kernel
theorem dL_law_760 : decode cL_law 760 = .ok (.iconst 2, 1) := by decide +kernel
theorem dL_law_761 : decode cL_law 761 = .ok (.iadd, 1) := by decide +kernel
theorem dL_law_762 : decode cL_law 762 = .ok (.iaload, 1) := by decide +kernel
theorem dL_law_763 : decode cL_law 763 = .ok (.invokevirtual 91, 3) := by decide +kernel
theorem dL_law_766 : decode cL_law 766 = .ok (.aload_n 2, 1) := by decide +kernel
theorem dL_law_767 : decode cL_law 767 = .ok (.aload_n 0, 1) := by decide +kernel
theorem dL_law_768 : decode cL_law 768 = .ok (.iload_n 3, 1) := by decide +kernel
theorem dL_law_769 : decode cL_law 769 = .ok (.iconst 1, 1) := by decide +kernel
theorem dL_law_770 : decode cL_law 770 = .ok (.iadd, 1) := by decide +kernel
theorem dL_law_771 : decode cL_law 771 = .ok (.iaload, 1) := by decide +kernel
theorem dL_law_772 : decode cL_law 772 = .ok (.aload_n 0, 1) := by decide +kernel
theorem dL_law_773 : decode cL_law 773 = .ok (.iload_n 3, 1) := by decide +kernel
theorem dL_law_774 : decode cL_law 774 = .ok (.iconst 2, 1) := by decide +kernel
theorem dL_law_775 : decode cL_law 775 = .ok (.iadd, 1) := by decide +kernel
theorem dL_law_776 : decode cL_law 776 = .ok (.iaload, 1) := by decide +kernel
theorem dL_law_777 : decode cL_law 777 = .ok (.invokevirtual 94, 3) := by decide +kernel
theorem dL_law_780 : decode cL_law 780 = .ok (.if_icmp .eq 156, 3) := by decide +kernel
theorem dL_law_783 : decode cL_law 783 = .ok (.iconst 0, 1) := by decide +kernel
theorem dL_law_784 : decode cL_law 784 = .ok (.ireturn, 1) := by decide +kernel
theorem dL_law_785 : decode cL_law 785 = .ok (.aload_n 1, 1) := by decide +kernel
theorem dL_law_786 : decode cL_law 786 = .ok (.invokevirtual 95, 3) := by decide +kernel
theorem dL_law_789 : decode cL_law 789 = .ok (.aload_n 2, 1) := by decide +kernel
theorem dL_law_790 : decode cL_law 790 = .ok (.invokevirtual 98, 3) := by decide +kernel
theorem dL_law_793 : decode cL_law 793 = .ok (.if_icmp .eq 143, 3) := by decide +kernel
theorem dL_law_796 : decode cL_law 796 = .ok (.iconst 0, 1) := by decide +kernel
theorem dL_law_797 : decode cL_law 797 = .ok (.ireturn, 1) := by decide +kernel
theorem dL_law_798 : decode cL_law 798 = .ok (.aload_n 1, 1) := by decide +kernel
theorem dL_law_799 : decode cL_law 799 = .ok (.aload_n 0, 1) := by decide +kernel
theorem dL_law_800 : decode cL_law 800 = .ok (.iload_n 3, 1) := by decide +kernel
theorem dL_law_801 : decode cL_law 801 = .ok (.iconst 1, 1) := by decide +kernel
theorem dL_law_802 : decode cL_law 802 = .ok (.iadd, 1) := by decide +kernel
theorem dL_law_803 : decode cL_law 803 = .ok (.iaload, 1) := by decide +kernel
theorem dL_law_804 : decode cL_law 804 = .ok (.i2l, 1) := by decide +kernel
theorem dL_law_805 : decode cL_law 805 = .ok (.bipush 32, 2) := by decide +kernel
theorem dL_law_807 : decode cL_law 807 = .ok (.lshl, 1) := by decide +kernel
theorem dL_law_808 : decode cL_law 808 = .ok (.aload_n 0, 1) := by decide +kernel
theorem dL_law_809 : decode cL_law 809 = .ok (.iload_n 3, 1) := by decide +kernel
theorem dL_law_810 : decode cL_law 810 = .ok (.iconst 2, 1) := by decide +kernel
theorem dL_law_811 : decode cL_law 811 = .ok (.iadd, 1) := by decide +kernel
theorem dL_law_812 : decode cL_law 812 = .ok (.iaload, 1) := by decide +kernel
theorem dL_law_813 : decode cL_law 813 = .ok (.i2l, 1) := by decide +kernel
theorem dL_law_814 : decode cL_law 814 = .ok (.ldc2_w 99, 3) := by decide +kernel
theorem dL_law_817 : decode cL_law 817 = .ok (.land, 1) := by decide +kernel
theorem dL_law_818 : decode cL_law 818 = .ok (.lor, 1) := by decide +kernel
theorem dL_law_819 : decode cL_law 819 = .ok (.invokevirtual 101, 3) := by decide +kernel
theorem dL_law_822 : decode cL_law 822 = .ok (.aload_n 2, 1) := by decide +kernel
theorem dL_law_823 : decode cL_law 823 = .ok (.aload_n 0, 1) := by decide +kernel
theorem dL_law_824 : decode cL_law 824 = .ok (.iload_n 3, 1) := by decide +kernel
theorem dL_law_825 : decode cL_law 825 = .ok (.iconst 1, 1) := by decide +kernel
theorem dL_law_826 : decode cL_law 826 = .ok (.iadd, 1) := by decide +kernel
theorem dL_law_827 : decode cL_law 827 = .ok (.iaload, 1) := by decide +kernel
theorem dL_law_828 : decode cL_law 828 = .ok (.i2l, 1) := by decide +kernel
theorem dL_law_829 : decode cL_law 829 = .ok (.bipush 32, 2) := by decide +kernel
theorem dL_law_831 : decode cL_law 831 = .ok (.lshl, 1) := by decide +kernel
theorem dL_law_832 : decode cL_law 832 = .ok (.aload_n 0, 1) := by decide +kernel
theorem dL_law_833 : decode cL_law 833 = .ok (.iload_n 3, 1) := by decide +kernel
theorem dL_law_834 : decode cL_law 834 = .ok (.iconst 2, 1) := by decide +kernel
theorem dL_law_835 : decode cL_law 835 = .ok (.iadd, 1) := by decide +kernel
theorem dL_law_836 : decode cL_law 836 = .ok (.iaload, 1) := by decide +kernel
theorem dL_law_837 : decode cL_law 837 = .ok (.i2l, 1) := by decide +kernel
theorem dL_law_838 : decode cL_law 838 = .ok (.ldc2_w 99, 3) := by decide +kernel
theorem dL_law_841 : decode cL_law 841 = .ok (.land, 1) := by decide +kernel
theorem dL_law_842 : decode cL_law 842 = .ok (.lor, 1) := by decide +kernel
theorem dL_law_843 : decode cL_law 843 = .ok (.invokevirtual 105, 3) := by decide +kernel
theorem dL_law_846 : decode cL_law 846 = .ok (.if_icmp .eq 90, 3) := by decide +kernel
theorem dL_law_849 : decode cL_law 849 = .ok (.iconst 0, 1) := by decide +kernel
theorem dL_law_850 : decode cL_law 850 = .ok (.ireturn, 1) := by decide +kernel
theorem dL_law_851 : decode cL_law 851 = .ok (.aload_n 1, 1) := by decide +kernel
theorem dL_law_852 : decode cL_law 852 = .ok (.invokevirtual 106, 3) := by decide +kernel
theorem dL_law_855 : decode cL_law 855 = .ok (.aload_n 2, 1) := by decide +kernel
theorem dL_law_856 : decode cL_law 856 = .ok (.invokevirtual 109, 3) := by decide +kernel
theorem dL_law_859 : decode cL_law 859 = .ok (.if_icmp .eq 77, 3) := by decide +kernel
theorem dL_law_862 : decode cL_law 862 = .ok (.iconst 0, 1) := by decide +kernel
theorem dL_law_863 : decode cL_law 863 = .ok (.ireturn, 1) := by decide +kernel
theorem dL_law_864 : decode cL_law 864 = .ok (.aload_n 1, 1) := by decide +kernel
theorem dL_law_865 : decode cL_law 865 = .ok (.invokevirtual 110, 3) := by decide +kernel
theorem dL_law_868 : decode cL_law 868 = .ok (.aload_n 2, 1) := by decide +kernel
theorem dL_law_869 : decode cL_law 869 = .ok (.invokevirtual 113, 3) := by decide +kernel
theorem dL_law_872 : decode cL_law 872 = .ok (.if_icmp .eq 64, 3) := by decide +kernel
theorem dL_law_875 : decode cL_law 875 = .ok (.iconst 0, 1) := by decide +kernel
theorem dL_law_876 : decode cL_law 876 = .ok (.ireturn, 1) := by decide +kernel
theorem dL_law_877 : decode cL_law 877 = .ok (.aload_n 1, 1) := by decide +kernel
theorem dL_law_878 : decode cL_law 878 = .ok (.invokevirtual 114, 3) := by decide +kernel
theorem dL_law_881 : decode cL_law 881 = .ok (.aload_n 2, 1) := by decide +kernel
theorem dL_law_882 : decode cL_law 882 = .ok (.invokevirtual 117, 3) := by decide +kernel
theorem dL_law_885 : decode cL_law 885 = .ok (.if_icmp .eq 51, 3) := by decide +kernel
theorem dL_law_888 : decode cL_law 888 = .ok (.iconst 0, 1) := by decide +kernel
theorem dL_law_889 : decode cL_law 889 = .ok (.ireturn, 1) := by decide +kernel
theorem dL_law_890 : decode cL_law 890 = .ok (.aload_n 1, 1) := by decide +kernel
theorem dL_law_891 : decode cL_law 891 = .ok (.aload_n 0, 1) := by decide +kernel
theorem dL_law_892 : decode cL_law 892 = .ok (.iload_n 3, 1) := by decide +kernel
theorem dL_law_893 : decode cL_law 893 = .ok (.iconst 1, 1) := by decide +kernel
theorem dL_law_894 : decode cL_law 894 = .ok (.iadd, 1) := by decide +kernel
theorem dL_law_895 : decode cL_law 895 = .ok (.iaload, 1) := by decide +kernel
theorem dL_law_896 : decode cL_law 896 = .ok (.invokevirtual 118, 3) := by decide +kernel
theorem dL_law_899 : decode cL_law 899 = .ok (.aload_n 2, 1) := by decide +kernel
theorem dL_law_900 : decode cL_law 900 = .ok (.aload_n 0, 1) := by decide +kernel
theorem dL_law_901 : decode cL_law 901 = .ok (.iload_n 3, 1) := by decide +kernel
theorem dL_law_902 : decode cL_law 902 = .ok (.iconst 1, 1) := by decide +kernel
theorem dL_law_903 : decode cL_law 903 = .ok (.iadd, 1) := by decide +kernel
theorem dL_law_904 : decode cL_law 904 = .ok (.iaload, 1) := by decide +kernel
theorem dL_law_905 : decode cL_law 905 = .ok (.invokevirtual 121, 3) := by decide +kernel
theorem dL_law_908 : decode cL_law 908 = .ok (.if_icmp .eq 28, 3) := by decide +kernel
theorem dL_law_911 : decode cL_law 911 = .ok (.iconst 0, 1) := by decide +kernel
theorem dL_law_912 : decode cL_law 912 = .ok (.ireturn, 1) := by decide +kernel
theorem dL_law_913 : decode cL_law 913 = .ok (.aload_n 1, 1) := by decide +kernel
theorem dL_law_914 : decode cL_law 914 = .ok (.aload_n 0, 1) := by decide +kernel
theorem dL_law_915 : decode cL_law 915 = .ok (.iload_n 3, 1) := by decide +kernel
theorem dL_law_916 : decode cL_law 916 = .ok (.iconst 1, 1) := by decide +kernel
theorem dL_law_917 : decode cL_law 917 = .ok (.iadd, 1) := by decide +kernel
theorem dL_law_918 : decode cL_law 918 = .ok (.iaload, 1) := by decide +kernel
theorem dL_law_919 : decode cL_law 919 = .ok (.invokevirtual 122, 3) := by decide +kernel
theorem dL_law_922 : decode cL_law 922 = .ok (.aload_n 2, 1) := by decide +kernel
theorem dL_law_923 : decode cL_law 923 = .ok (.aload_n 0, 1) := by decide +kernel
theorem dL_law_924 : decode cL_law 924 = .ok (.iload_n 3, 1) := by decide +kernel
theorem dL_law_925 : decode cL_law 925 = .ok (.iconst 1, 1) := by decide +kernel
theorem dL_law_926 : decode cL_law 926 = .ok (.iadd, 1) := by decide +kernel
theorem dL_law_927 : decode cL_law 927 = .ok (.iaload, 1) := by decide +kernel
theorem dL_law_928 : decode cL_law 928 = .ok (.invokevirtual 125, 3) := by decide +kernel
theorem dL_law_931 : decode cL_law 931 = .ok (.if_icmp .eq 5, 3) := by decide +kernel
theorem dL_law_934 : decode cL_law 934 = .ok (.iconst 0, 1) := by decide +kernel
theorem dL_law_935 : decode cL_law 935 = .ok (.ireturn, 1) := by decide +kernel
theorem dL_law_936 : decode cL_law 936 = .ok (.iinc 3 5, 3) := by decide +kernel
theorem dL_law_939 : decode cL_law 939 = .ok (.goto (-921), 3) := by decide +kernel
theorem dL_law_942 : decode cL_law 942 = .ok (.iconst 1, 1) := by decide +kernel
theorem dL_law_943 : decode cL_law 943 = .ok (.ireturn, 1) := by decide +kernel
end
section
/-! memory as a partial map from addresses to what lies there; a method's contract over it; a row an instruction -/
abbrev zM : Type := Nat → Option va_E
abbrev zG : Type := va_G × (Nat → ClassId) × Heap
abbrev zK : Type := Program × Launch × Env × Room × State × MethodId × Array Value × List Frame × Method × Code
abbrev zI (c : ClassId) (n : Nat) (f : Nat → Int32) : va_E := .inl (c, n, .inl f)
abbrev zR (c : ClassId) (n : Nat) (f : Nat → Option Nat) : va_E := .inl (c, n, .inr (.inr (.inr (.inr f))))
abbrev zO (ci : Nat) (fs : List Value) : va_E := .inr (ci, fs)
def zTy (c : Nat → ClassId) : List (ClassId × FieldType) := [(c 0, .int), (c 1, .char), (c 2, .boolean), (c 3, .array .int), (c 4, .object "HarpOrders$Parcel"), (c 5, .object "HarpOrders$Club")]
def zu (M : zM) (a : Nat) (e : va_E) : zM := fun q => if q = a then some e else M q
theorem zu_self (M : zM) (a : Nat) (e : va_E) : zu M a e a = some e := by simp [zu]
theorem zu_ne (M : zM) {a b : Nat} (e : va_E) (h : b ≠ a) : zu M a e b = M b := by simp [zu, h]
theorem zu_same {M : zM} {a : Nat} {e : va_E} (h : M a = some e) : zu M a e = M := by
  funext q
  by_cases hq : q = a
  · subst hq; simp [zu, h]
  · simp [zu, hq]
theorem zu_zu (M : zM) (a : Nat) (e e' : va_E) : zu (zu M a e) a e' = zu M a e' := by
  funext q
  by_cases hq : q = a <;> simp [zu, hq]
/-- which words of the tables are carried along -/
def zgd : Cond → Bool
  | .methodLinkNest _ _ _ _ => true
  | .fieldLinkNest _ _ _ _ _ _ => true
  | .arrayOver (.object _) => true
  | .arrayOver (.array _) => true
  | .castable _ _ => true
  | w => goodWord w
theorem zAOA {u U : State} (hal : u.vm.Alike U.vm) {t : FieldType} {args args' : Array Value} (h : (Cond.arrayOver (.array t)).before args u = true) : (Cond.arrayOver (.array t)).before args' U = true := by
  unfold Cond.before Cond.holds at h ⊢
  simp only [Cond.value, beq_iff_eq] at h ⊢
  cases hc : u.vm.findClass (FieldType.array t).toString with
  | none => simp [hc] at h
  | some comp =>
    simp only [hc, Option.bind_some, Option.bind_eq_some_iff, Option.map_eq_some_iff] at h
    obtain ⟨c, hi, k, hk, hb⟩ := h
    obtain ⟨k', hk', he⟩ := hal.2.2 _ _ hk
    have f1 : U.vm.findClass (FieldType.array t).toString = some comp := by rw [hal.findClass]; exact hc
    rw [f1, Option.bind_some, Option.bind_eq_some_iff]
    refine ⟨c, ?_, ?_⟩
    · exact (hal.findIdx?_eqK _ (fun _ => rfl)).trans hi
    · rw [Option.map_eq_some_iff]
      refine ⟨k', hk', ?_⟩
      have hkk : k'.kind = k.kind := by rw [he]
      rw [hkk, hal.findClass]
      exact hb
def zTb (U : State) : Prop := ∀ w ∈ lw_tbl, zgd w = true → w.before #[] U = true
theorem zTb.any {u U : State} (h : zTb u) (hW : u.WarmedH U.vm) {w : Cond} (hw : w ∈ lw_tbl) (hg : zgd w = true) (args : Array Value) : w.before args U = true := by
  have h1 := h w hw hg
  cases w with
  | methodLinkNest a i x hh => exact va_Nw.use rfl (va_Nw.warmM hW h1)
  | castable C T => exact va_Nw.use rfl (va_Nw.warmC hW h1)
  | fieldLinkNest a i b n d hh => exact va_Nw.use rfl (va_Nw.warmF hW h1)
  | arrayOver t =>
    cases t with
    | object C => exact va_AO.use (va_AO.moved hW.alike h1)
    | array t => exact zAOA hW.alike h1
    | _ => exact word_at hW (good_of_word hg) h1
  | _ => exact word_at hW (good_of_word hg) h1
theorem zTb.use {s : State} (h : zTb s) {w : Cond} (hw : w ∈ lw_tbl) (hg : zgd w = true) (args : Array Value) : w.before args s = true := h.any (State.WarmedH.refl s) hw hg args
theorem zTb.warm {u U : State} (h : zTb u) (hW : u.WarmedH U.vm) : zTb U := fun _ hw hg => h.any hW hw hg #[]
def zLeast (j : Nat) : Int32 := ([2, 0, 0, 1, 0, 0, 0, 0, 0] : List Int32).getD j 0
def zFirst (j : Nat) : Int32 := ([5, 20, 1, 5, 7, 100, 20, 50, 20] : List Int32).getD j 0
def zMost (j : Nat) : Int32 := ([20, 99, 9, 20, 30, 500, 50, 100, 100] : List Int32).getD j 0
/-- a static table of 9 ints, in the old heap -/
def zS1 (G : zG) (U : State) (nm : String) (f : Nat → Int32) : Prop := ∃ t : Nat, va_Z RX5 nm "[I" (.ref t) (fun q => G.2.2.size ≤ q) U G.2.2 ∧ va_T .int t 9 (fun j => .int (f j)) (fun q => G.2.2.size ≤ q) U G.2.2
def zSt (G : zG) (U : State) : Prop := zS1 G U "LEAST_VALUES" zLeast ∧ zS1 G U "FIRST_VALUES" zFirst ∧ zS1 G U "MOST_VALUES" zMost
theorem zS1.warm {G : zG} {u U : State} {nm : String} {f : Nat → Int32} (h : zS1 G u nm f) (hW : u.WarmedH U.vm) : zS1 G U nm f := by
  obtain ⟨t, h1, h2⟩ := h
  exact ⟨t, h1.moved hW.alike, h2.moved hW.alike⟩
def zKw (G : zG) (U : State) : Prop := va_K G.1 vwCl (zTy G.2.1) U ∧ zTb U ∧ zSt G U
theorem zKw.warm {G : zG} {u U : State} (h : zKw G u) (hW : u.WarmedH U.vm) : zKw G U := ⟨h.1.moved hW.alike, h.2.1.warm hW, h.2.2.1.warm hW, h.2.2.2.1.warm hW, h.2.2.2.2.warm hW⟩
/-- the heap holds the memory; it has N cells; what was there before the start stays -/
def zHd (G : zG) (M : zM) (N : Nat) (H : Heap) : Prop := H.size = N ∧ (∀ q : Nat, q < G.2.2.size → H[q]? = G.2.2[q]?) ∧ G.2.2.size ≤ N ∧ ∀ (a : Nat) (e : va_E), M a = some e → G.2.2.size ≤ a ∧ va_at G.1 vwCl (a, e) H
theorem zHd.lt {G : zG} {M : zM} {N : Nat} {H : Heap} (h : zHd G M N H) {a : Nat} {e : va_E} (ha : M a = some e) : a < N := by
  have := (h.2.2.2 a e ha).2.lt
  rw [h.1] at this
  exact this
theorem zHd.fresh {G : zG} {M : zM} {N : Nat} {H : Heap} (h : zHd G M N H) : M N = none := by
  cases hM : M N with
  | none => rfl
  | some e => exact absurd (h.lt hM) (Nat.lt_irrefl _)
theorem zHd.put {G : zG} {M : zM} {N : Nat} {H H1 : Heap} (h : zHd G M N H) {a : Nat} {e0 e : va_E} (ha : M a = some e0) (z : H1.size = H.size) (oq : ∀ q : Nat, q ≠ a → H1[q]? = H[q]?) (he : va_at G.1 vwCl (a, e) H1) : zHd G (zu M a e) N H1 := by
  have hA := (h.2.2.2 a e0 ha).1
  refine ⟨by rw [z, h.1], fun q hq => ?_, h.2.2.1, fun b e' hb => ?_⟩
  · rw [oq q (by omega)]; exact h.2.1 q hq
  · by_cases hba : b = a
    · subst hba
      rw [zu_self] at hb
      cases hb
      exact ⟨hA, he⟩
    · rw [zu_ne M e hba] at hb
      obtain ⟨h1, h2⟩ := h.2.2.2 b e' hb
      exact ⟨h1, h2.kept (oq b hba)⟩
theorem zHd.grow {G : zG} {M : zM} {N : Nat} {H H1 : Heap} (h : zHd G M N H) {e : va_E} (z : H1.size = N + 1) (oq : ∀ q : Nat, q < N → H1[q]? = H[q]?) (he : va_at G.1 vwCl (N, e) H1) : zHd G (zu M N e) (N + 1) H1 := by
  have hs := h.2.2.1
  refine ⟨z, fun q hq => ?_, by omega, fun b e' hb => ?_⟩
  · rw [oq q (by omega)]; exact h.2.1 q hq
  · by_cases hba : b = N
    · subst hba
      rw [zu_self] at hb
      cases hb
      exact ⟨hs, he⟩
    · rw [zu_ne M e hba] at hb
      obtain ⟨h1, h2⟩ := h.2.2.2 b e' hb
      exact ⟨h1, h2.kept (oq b (h.lt hb))⟩
abbrev zF (G : zG) : Addr → Prop := fun q => G.2.2.size ≤ q
def zQc (G : zG) (N1 : Nat) (Post : Option Value → zM → Prop) : Array Value → State → Outcome → State → Prop := fun _ _ o t => ∃ r M', o = .returned r ∧ Post r M' ∧ zHd G M' N1 t.heap
/-- method y's contract: called with av in the memory M it returns, and Post says what and with which memory; mc cells of ms slots are new -/
def zC (l : Launch) (G : zG) (y : MethodName) (b : ByteArray) (n : Nat) (ret : Option FieldType) (f w mc ms : Nat) (av : List Value) (M : zM) (N : Nat) (Post : Option Value → zM → Prop) : Prop :=
  Met l y [.code y b n ret] { frames := f, cells := mc, slots := ms, locals := w } (va_Pc av (fun U => zKw G U ∧ zHd G M N U.heap)) (zQc G (N + mc) Post) mc ms (zF G)
/-- inside a body: from this frame, over every heap that holds the memory, the machine comes to Q -/
def zW (K : zK) (G : zG) (nL : Nat) (Q : State → Prop) (cells slots : Nat) (M : zM) (N pc : Nat) (lv : List (Nat × Value)) (st : List Value) : Prop :=
  ∀ (H : Heap) (locs : List Loc) (ls : Array Slot), zHd G M N H → (∀ q ∈ locs, G.2.2.size ≤ q.base) → lv_has ls nL lv →
    W K.1 K.2.1 K.2.2.1 K.2.2.2.1 K.2.2.2.2.1 K.2.2.2.2.2.1 K.2.2.2.2.2.2.1 K.2.2.2.2.2.2.2.1 K.2.2.2.2.2.2.2.2.1 K.2.2.2.2.2.2.2.2.2 H locs cells slots Q (F0 K.2.2.2.2.2.1 pc ls st)
/-- what holds all through a body of method y -/
def zOk (K : zK) (G : zG) (y : MethodName) (b : ByteArray) (n : Nat) (R : Room) (ret : Option FieldType) : Prop :=
  K.1.tables.exec = Jvm.exec ∧ K.2.2.2.2.2.2.2.2.2.code = b ∧ K.2.2.2.2.2.2.2.2.2.maxLocals = n ∧ K.2.2.2.2.1.vm.findClass y.cls = some K.2.2.2.2.2.1.cls ∧ zKw G K.2.2.2.2.1 ∧ K.2.2.2.1 = R ∧ K.2.2.2.2.2.2.2.2.1.sig.returnType = ret ∧ K.2.2.2.2.2.2.2.2.1.locks = false ∧ K.2.2.2.2.2.2.2.2.1.name = y.name
def zQ (K : zK) (G : zG) (N1 mc ms : Nat) (Post : Option Value → zM → Prop) : State → Prop := MQ K.2.2.2.2.2.2.2.1 (zQc G N1 Post) K.2.2.2.2.2.2.1 K.2.2.2.2.1 mc ms (zF G)
abbrev zRm (f w mc ms : Nat) : Room := { frames := f, cells := mc, slots := ms, locals := w }
theorem zC.of {l : Launch} {G : zG} {y : MethodName} {b : ByteArray} {n : Nat} {ret : Option FieldType} {f w mc ms : Nat} {av : List Value} {M : zM} {N : Nat} {Post : Option Value → zM → Prop} (hy : plainName y.cls = true) (hlen : (lg_sl av).length ≤ n)
    (body : ∀ K : zK, K.2.1 = l → zOk K G y b n (zRm f w mc ms) ret → zW K G n (zQ K G (N + mc) mc ms Post) 0 0 M N 0 (lv_args 0 av) []) : zC l G y b n ret f w mc ms av M N Post := by
  refine Met.ofW (cc := b) (maxL := n) (ret := ret) hy rfl ?_
  intro p e s m args below meth c s₁ B hml hv
  obtain ⟨rfl, hK, hH⟩ := hv
  have h := body (p, l, e, zRm f w mc ms, s, m, av.toArray, below, meth, c) rfl ⟨B.exec, B.bytes, hml, findClass_of_methodNamed B.named, hK, rfl, B.returns, B.notSynchronized, (name_of_methodNamed B.named B.method).1⟩
  rw [lg_entry_eq]
  exact h s.heap [] _ hH (fun q hq => by cases hq) (lv_entry av hlen)
end
section
section ZR
variable {K : zK} {G : zG} {y : MethodName} {b : ByteArray} {nL : Nat} {R : Room} {ret : Option FieldType} {Q : State → Prop} {cells slots : Nat} {M : zM} {N pc : Nat} {lv : List (Nat × Value)} {st : List Value}
theorem r_iconst (h : zOk K G y b nL R ret) {n : Int} (v : Int32) (hd : decode b pc = .ok (.iconst n, 1)) (hv : Int32.ofInt n = v) (k : zW K G nL Q cells slots M N (pc + 1) lv (.int v :: st)) : zW K G nL Q cells slots M N pc lv (st) := by
  obtain ⟨p, l, e, R0, s, m, args, below, meth, c⟩ := K
  obtain ⟨hx, hb, hml, hown, hK, hR, hret, hlk, hnm⟩ := h
  intro H locs ls hH hlo hl
  dsimp only at hx hb hml hown hK hR hret hlk hnm ⊢
  exact lv_iconst hx hb hd hv (k H locs ls hH hlo hl)
theorem r_bipush (h : zOk K G y b nL R ret) {n : Int} (v : Int32) (hd : decode b pc = .ok (.bipush n, 2)) (hv : (Int8.ofInt n).toInt32 = v) (k : zW K G nL Q cells slots M N (pc + 2) lv (.int v :: st)) : zW K G nL Q cells slots M N pc lv (st) := by
  obtain ⟨p, l, e, R0, s, m, args, below, meth, c⟩ := K
  obtain ⟨hx, hb, hml, hown, hK, hR, hret, hlk, hnm⟩ := h
  intro H locs ls hH hlo hl
  dsimp only at hx hb hml hown hK hR hret hlk hnm ⊢
  exact lv_bipush hx hb hd hv (k H locs ls hH hlo hl)
theorem r_sipush (h : zOk K G y b nL R ret) {n : Int} (v : Int32) (hd : decode b pc = .ok (.sipush n, 3)) (hv : (Int16.ofInt n).toInt32 = v) (k : zW K G nL Q cells slots M N (pc + 3) lv (.int v :: st)) : zW K G nL Q cells slots M N pc lv (st) := by
  obtain ⟨p, l, e, R0, s, m, args, below, meth, c⟩ := K
  obtain ⟨hx, hb, hml, hown, hK, hR, hret, hlk, hnm⟩ := h
  intro H locs ls hH hlo hl
  dsimp only at hx hb hml hown hK hR hret hlk hnm ⊢
  exact lv_sipush hx hb hd hv (k H locs ls hH hlo hl)
theorem r_lconst (h : zOk K G y b nL R ret) {n : Fin 2} (v : Int64) (hd : decode b pc = .ok (.lconst n, 1)) (hv : Int64.ofNat (n : Nat) = v) (k : zW K G nL Q cells slots M N (pc + 1) lv (.long v :: st)) : zW K G nL Q cells slots M N pc lv (st) := by
  obtain ⟨p, l, e, R0, s, m, args, below, meth, c⟩ := K
  obtain ⟨hx, hb, hml, hown, hK, hR, hret, hlk, hnm⟩ := h
  intro H locs ls hH hlo hl
  dsimp only at hx hb hml hown hK hR hret hlk hnm ⊢
  exact lv_lconst hx hb hd hv (k H locs ls hH hlo hl)
theorem r_ldc (h : zOk K G y b nL R ret) {index : Nat} {v : Int32} (hw : Cond.constant y.cls index v ∈ lw_tbl) (hd : decode b pc = .ok (.ldc index, 2)) (k : zW K G nL Q cells slots M N (pc + 2) lv (.int v :: st)) : zW K G nL Q cells slots M N pc lv (st) := by
  obtain ⟨p, l, e, R0, s, m, args, below, meth, c⟩ := K
  obtain ⟨hx, hb, hml, hown, hK, hR, hret, hlk, hnm⟩ := h
  intro H locs ls hH hlo hl
  dsimp only at hx hb hml hown hK hR hret hlk hnm ⊢
  exact lv_ldc hx hb hown (hK.2.1.use hw rfl args) hd (k H locs ls hH hlo hl)
theorem r_ldcw (h : zOk K G y b nL R ret) {index : Nat} {v : Int32} (hw : Cond.constant y.cls index v ∈ lw_tbl) (hd : decode b pc = .ok (.ldc_w index, 3)) (k : zW K G nL Q cells slots M N (pc + 3) lv (.int v :: st)) : zW K G nL Q cells slots M N pc lv (st) := by
  obtain ⟨p, l, e, R0, s, m, args, below, meth, c⟩ := K
  obtain ⟨hx, hb, hml, hown, hK, hR, hret, hlk, hnm⟩ := h
  intro H locs ls hH hlo hl
  dsimp only at hx hb hml hown hK hR hret hlk hnm ⊢
  exact lv_ldcw hx hb hown (hK.2.1.use hw rfl args) hd (k H locs ls hH hlo hl)
theorem r_ldc2 (h : zOk K G y b nL R ret) {index : Nat} {v : Int64} (hw : Cond.constantLong y.cls index v ∈ lw_tbl) (hd : decode b pc = .ok (.ldc2_w index, 3)) (k : zW K G nL Q cells slots M N (pc + 3) lv (.long v :: st)) : zW K G nL Q cells slots M N pc lv (st) := by
  obtain ⟨p, l, e, R0, s, m, args, below, meth, c⟩ := K
  obtain ⟨hx, hb, hml, hown, hK, hR, hret, hlk, hnm⟩ := h
  intro H locs ls hH hlo hl
  dsimp only at hx hb hml hown hK hR hret hlk hnm ⊢
  exact lv_ldc2 hx hb hown (hK.2.1.use hw rfl args) hd (k H locs ls hH hlo hl)
theorem r_iload_n (h : zOk K G y b nL R ret) {q : Fin 4} {i : Nat} {x : Int32} (hd : decode b pc = .ok (.iload_n q, 1)) (j : Nat) (hj : lv[j]? = some (i, .int x)) (hi : (q : Nat) = i) (k : zW K G nL Q cells slots M N (pc + 1) lv (.int x :: st)) : zW K G nL Q cells slots M N pc lv (st) := by
  obtain ⟨p, l, e, R0, s, m, args, below, meth, c⟩ := K
  obtain ⟨hx, hb, hml, hown, hK, hR, hret, hlk, hnm⟩ := h
  intro H locs ls hH hlo hl
  dsimp only at hx hb hml hown hK hR hret hlk hnm ⊢
  exact lv_iload_n hx hb hd hi (lv_at hl j hj) (k H locs ls hH hlo hl)
theorem r_iload (h : zOk K G y b nL R ret) {i : Nat} {x : Int32} (hd : decode b pc = .ok (.iload i, 2)) (j : Nat) (hj : lv[j]? = some (i, .int x)) (k : zW K G nL Q cells slots M N (pc + 2) lv (.int x :: st)) : zW K G nL Q cells slots M N pc lv (st) := by
  obtain ⟨p, l, e, R0, s, m, args, below, meth, c⟩ := K
  obtain ⟨hx, hb, hml, hown, hK, hR, hret, hlk, hnm⟩ := h
  intro H locs ls hH hlo hl
  dsimp only at hx hb hml hown hK hR hret hlk hnm ⊢
  exact lv_iload hx hb hd (lv_at hl j hj) (k H locs ls hH hlo hl)
theorem r_lload_n (h : zOk K G y b nL R ret) {q : Fin 4} {i : Nat} {x : Int64} (hd : decode b pc = .ok (.lload_n q, 1)) (j : Nat) (hj : lv[j]? = some (i, .long x)) (hi : (q : Nat) = i) (k : zW K G nL Q cells slots M N (pc + 1) lv (.long x :: st)) : zW K G nL Q cells slots M N pc lv (st) := by
  obtain ⟨p, l, e, R0, s, m, args, below, meth, c⟩ := K
  obtain ⟨hx, hb, hml, hown, hK, hR, hret, hlk, hnm⟩ := h
  intro H locs ls hH hlo hl
  dsimp only at hx hb hml hown hK hR hret hlk hnm ⊢
  exact lv_lload_n hx hb hd hi (lv_at hl j hj) (k H locs ls hH hlo hl)
theorem r_lload (h : zOk K G y b nL R ret) {i : Nat} {x : Int64} (hd : decode b pc = .ok (.lload i, 2)) (j : Nat) (hj : lv[j]? = some (i, .long x)) (k : zW K G nL Q cells slots M N (pc + 2) lv (.long x :: st)) : zW K G nL Q cells slots M N pc lv (st) := by
  obtain ⟨p, l, e, R0, s, m, args, below, meth, c⟩ := K
  obtain ⟨hx, hb, hml, hown, hK, hR, hret, hlk, hnm⟩ := h
  intro H locs ls hH hlo hl
  dsimp only at hx hb hml hown hK hR hret hlk hnm ⊢
  exact lv_lload hx hb hd (lv_at hl j hj) (k H locs ls hH hlo hl)
theorem r_aload_n (h : zOk K G y b nL R ret) {q : Fin 4} {i : Nat} {x : Nat} (hd : decode b pc = .ok (.aload_n q, 1)) (j : Nat) (hj : lv[j]? = some (i, .ref x)) (hi : (q : Nat) = i) (k : zW K G nL Q cells slots M N (pc + 1) lv (.ref x :: st)) : zW K G nL Q cells slots M N pc lv (st) := by
  obtain ⟨p, l, e, R0, s, m, args, below, meth, c⟩ := K
  obtain ⟨hx, hb, hml, hown, hK, hR, hret, hlk, hnm⟩ := h
  intro H locs ls hH hlo hl
  dsimp only at hx hb hml hown hK hR hret hlk hnm ⊢
  exact lv_aload_n hx hb hd hi (lv_at hl j hj) (k H locs ls hH hlo hl)
theorem r_aload (h : zOk K G y b nL R ret) {i : Nat} {x : Nat} (hd : decode b pc = .ok (.aload i, 2)) (j : Nat) (hj : lv[j]? = some (i, .ref x)) (k : zW K G nL Q cells slots M N (pc + 2) lv (.ref x :: st)) : zW K G nL Q cells slots M N pc lv (st) := by
  obtain ⟨p, l, e, R0, s, m, args, below, meth, c⟩ := K
  obtain ⟨hx, hb, hml, hown, hK, hR, hret, hlk, hnm⟩ := h
  intro H locs ls hH hlo hl
  dsimp only at hx hb hml hown hK hR hret hlk hnm ⊢
  exact lv_aload hx hb hd (lv_at hl j hj) (k H locs ls hH hlo hl)
theorem r_istore_n (h : zOk K G y b nL R ret) {q : Fin 4} {i : Nat} {x : Int32} (lv' : List (Nat × Value)) (hd : decode b pc = .ok (.istore_n q, 1)) (hi : (q : Nat) = i) (hn : i < nL) (hl' : (i, Value.int x) :: lv.filter (fun q => !(q.1 == i) && !(q.1 + 1 == i && q.2.category == 2)) = lv') (k : zW K G nL Q cells slots M N (pc + 1) lv' (st)) : zW K G nL Q cells slots M N pc lv (.int x :: st) := by
  obtain ⟨p, l, e, R0, s, m, args, below, meth, c⟩ := K
  obtain ⟨hx, hb, hml, hown, hK, hR, hret, hlk, hnm⟩ := h
  intro H locs ls hH hlo hl
  dsimp only at hx hb hml hown hK hR hret hlk hnm ⊢
  exact lv_istore_n hx hb hd hi hl hn hl' (fun ls hl => k H locs ls hH hlo hl)
theorem r_istore (h : zOk K G y b nL R ret) {i : Nat} {x : Int32} (lv' : List (Nat × Value)) (hd : decode b pc = .ok (.istore i, 2)) (hn : i < nL) (hl' : (i, Value.int x) :: lv.filter (fun q => !(q.1 == i) && !(q.1 + 1 == i && q.2.category == 2)) = lv') (k : zW K G nL Q cells slots M N (pc + 2) lv' (st)) : zW K G nL Q cells slots M N pc lv (.int x :: st) := by
  obtain ⟨p, l, e, R0, s, m, args, below, meth, c⟩ := K
  obtain ⟨hx, hb, hml, hown, hK, hR, hret, hlk, hnm⟩ := h
  intro H locs ls hH hlo hl
  dsimp only at hx hb hml hown hK hR hret hlk hnm ⊢
  exact lv_istore hx hb hd hl hn hl' (fun ls hl => k H locs ls hH hlo hl)
theorem r_astore_n (h : zOk K G y b nL R ret) {q : Fin 4} {i : Nat} {x : Nat} (lv' : List (Nat × Value)) (hd : decode b pc = .ok (.astore_n q, 1)) (hi : (q : Nat) = i) (hn : i < nL) (hl' : (i, Value.ref x) :: lv.filter (fun q => !(q.1 == i) && !(q.1 + 1 == i && q.2.category == 2)) = lv') (k : zW K G nL Q cells slots M N (pc + 1) lv' (st)) : zW K G nL Q cells slots M N pc lv (.ref x :: st) := by
  obtain ⟨p, l, e, R0, s, m, args, below, meth, c⟩ := K
  obtain ⟨hx, hb, hml, hown, hK, hR, hret, hlk, hnm⟩ := h
  intro H locs ls hH hlo hl
  dsimp only at hx hb hml hown hK hR hret hlk hnm ⊢
  exact lv_astore_n hx hb hd hi hl hn hl' (fun ls hl => k H locs ls hH hlo hl)
theorem r_astore (h : zOk K G y b nL R ret) {i : Nat} {x : Nat} (lv' : List (Nat × Value)) (hd : decode b pc = .ok (.astore i, 2)) (hn : i < nL) (hl' : (i, Value.ref x) :: lv.filter (fun q => !(q.1 == i) && !(q.1 + 1 == i && q.2.category == 2)) = lv') (k : zW K G nL Q cells slots M N (pc + 2) lv' (st)) : zW K G nL Q cells slots M N pc lv (.ref x :: st) := by
  obtain ⟨p, l, e, R0, s, m, args, below, meth, c⟩ := K
  obtain ⟨hx, hb, hml, hown, hK, hR, hret, hlk, hnm⟩ := h
  intro H locs ls hH hlo hl
  dsimp only at hx hb hml hown hK hR hret hlk hnm ⊢
  exact lv_astore hx hb hd hl hn hl' (fun ls hl => k H locs ls hH hlo hl)
theorem r_lstore_n (h : zOk K G y b nL R ret) {q : Fin 4} {i : Nat} {x : Int64} (lv' : List (Nat × Value)) (hd : decode b pc = .ok (.lstore_n q, 1)) (hi : (q : Nat) = i) (hn : i + 1 < nL) (hl' : (i, Value.long x) :: lv.filter (fun q => !(q.1 == i) && (!(q.1 == i + 1) && !(q.1 + 1 == i && q.2.category == 2))) = lv') (k : zW K G nL Q cells slots M N (pc + 1) lv' (st)) : zW K G nL Q cells slots M N pc lv (.long x :: st) := by
  obtain ⟨p, l, e, R0, s, m, args, below, meth, c⟩ := K
  obtain ⟨hx, hb, hml, hown, hK, hR, hret, hlk, hnm⟩ := h
  intro H locs ls hH hlo hl
  dsimp only at hx hb hml hown hK hR hret hlk hnm ⊢
  exact lv_lstore_n hx hb hd hi hl hn hl' (fun ls hl => k H locs ls hH hlo hl)
theorem r_iinc (h : zOk K G y b nL R ret) {i : Nat} {n : Int} {x : Int32} (v : Int32) (lv' : List (Nat × Value)) (hd : decode b pc = .ok (.iinc i n, 3)) (j : Nat) (hj : lv[j]? = some (i, .int x)) (hv : x + Int32.ofInt n = v) (hn : i < nL) (hl' : (i, Value.int v) :: lv.filter (fun q => !(q.1 == i) && !(q.1 + 1 == i && q.2.category == 2)) = lv') (k : zW K G nL Q cells slots M N (pc + 3) lv' (st)) : zW K G nL Q cells slots M N pc lv (st) := by
  obtain ⟨p, l, e, R0, s, m, args, below, meth, c⟩ := K
  obtain ⟨hx, hb, hml, hown, hK, hR, hret, hlk, hnm⟩ := h
  intro H locs ls hH hlo hl
  dsimp only at hx hb hml hown hK hR hret hlk hnm ⊢
  exact lv_iinc hx hb hd hl hj hv hn hl' (fun ls hl => k H locs ls hH hlo hl)
theorem r_iadd (h : zOk K G y b nL R ret) {x y' : Int32} (hd : decode b pc = .ok (.iadd, 1)) (k : zW K G nL Q cells slots M N (pc + 1) lv (.int (x + y') :: st)) : zW K G nL Q cells slots M N pc lv (.int y' :: .int x :: st) := by
  obtain ⟨p, l, e, R0, s, m, args, below, meth, c⟩ := K
  obtain ⟨hx, hb, hml, hown, hK, hR, hret, hlk, hnm⟩ := h
  intro H locs ls hH hlo hl
  dsimp only at hx hb hml hown hK hR hret hlk hnm ⊢
  exact lv_iadd hx hb hd (k H locs ls hH hlo hl)
theorem r_isub (h : zOk K G y b nL R ret) {x y' : Int32} (hd : decode b pc = .ok (.isub, 1)) (k : zW K G nL Q cells slots M N (pc + 1) lv (.int (x - y') :: st)) : zW K G nL Q cells slots M N pc lv (.int y' :: .int x :: st) := by
  obtain ⟨p, l, e, R0, s, m, args, below, meth, c⟩ := K
  obtain ⟨hx, hb, hml, hown, hK, hR, hret, hlk, hnm⟩ := h
  intro H locs ls hH hlo hl
  dsimp only at hx hb hml hown hK hR hret hlk hnm ⊢
  exact lv_isub hx hb hd (k H locs ls hH hlo hl)
theorem r_imul (h : zOk K G y b nL R ret) {x y' : Int32} (hd : decode b pc = .ok (.imul, 1)) (k : zW K G nL Q cells slots M N (pc + 1) lv (.int (x * y') :: st)) : zW K G nL Q cells slots M N pc lv (.int y' :: .int x :: st) := by
  obtain ⟨p, l, e, R0, s, m, args, below, meth, c⟩ := K
  obtain ⟨hx, hb, hml, hown, hK, hR, hret, hlk, hnm⟩ := h
  intro H locs ls hH hlo hl
  dsimp only at hx hb hml hown hK hR hret hlk hnm ⊢
  exact lv_imul hx hb hd (k H locs ls hH hlo hl)
theorem r_iand (h : zOk K G y b nL R ret) {x y' : Int32} (hd : decode b pc = .ok (.iand, 1)) (k : zW K G nL Q cells slots M N (pc + 1) lv (.int (x &&& y') :: st)) : zW K G nL Q cells slots M N pc lv (.int y' :: .int x :: st) := by
  obtain ⟨p, l, e, R0, s, m, args, below, meth, c⟩ := K
  obtain ⟨hx, hb, hml, hown, hK, hR, hret, hlk, hnm⟩ := h
  intro H locs ls hH hlo hl
  dsimp only at hx hb hml hown hK hR hret hlk hnm ⊢
  exact lv_iand hx hb hd (k H locs ls hH hlo hl)
theorem r_ior (h : zOk K G y b nL R ret) {x y' : Int32} (hd : decode b pc = .ok (.ior, 1)) (k : zW K G nL Q cells slots M N (pc + 1) lv (.int (x ||| y') :: st)) : zW K G nL Q cells slots M N pc lv (.int y' :: .int x :: st) := by
  obtain ⟨p, l, e, R0, s, m, args, below, meth, c⟩ := K
  obtain ⟨hx, hb, hml, hown, hK, hR, hret, hlk, hnm⟩ := h
  intro H locs ls hH hlo hl
  dsimp only at hx hb hml hown hK hR hret hlk hnm ⊢
  exact lv_ior hx hb hd (k H locs ls hH hlo hl)
theorem r_ixor (h : zOk K G y b nL R ret) {x y' : Int32} (hd : decode b pc = .ok (.ixor, 1)) (k : zW K G nL Q cells slots M N (pc + 1) lv (.int (x ^^^ y') :: st)) : zW K G nL Q cells slots M N pc lv (.int y' :: .int x :: st) := by
  obtain ⟨p, l, e, R0, s, m, args, below, meth, c⟩ := K
  obtain ⟨hx, hb, hml, hown, hK, hR, hret, hlk, hnm⟩ := h
  intro H locs ls hH hlo hl
  dsimp only at hx hb hml hown hK hR hret hlk hnm ⊢
  exact lv_ixor hx hb hd (k H locs ls hH hlo hl)
theorem r_ladd (h : zOk K G y b nL R ret) {x y' : Int64} (hd : decode b pc = .ok (.ladd, 1)) (k : zW K G nL Q cells slots M N (pc + 1) lv (.long (x + y') :: st)) : zW K G nL Q cells slots M N pc lv (.long y' :: .long x :: st) := by
  obtain ⟨p, l, e, R0, s, m, args, below, meth, c⟩ := K
  obtain ⟨hx, hb, hml, hown, hK, hR, hret, hlk, hnm⟩ := h
  intro H locs ls hH hlo hl
  dsimp only at hx hb hml hown hK hR hret hlk hnm ⊢
  exact lv_ladd hx hb hd (k H locs ls hH hlo hl)
theorem r_lmul (h : zOk K G y b nL R ret) {x y' : Int64} (hd : decode b pc = .ok (.lmul, 1)) (k : zW K G nL Q cells slots M N (pc + 1) lv (.long (x * y') :: st)) : zW K G nL Q cells slots M N pc lv (.long y' :: .long x :: st) := by
  obtain ⟨p, l, e, R0, s, m, args, below, meth, c⟩ := K
  obtain ⟨hx, hb, hml, hown, hK, hR, hret, hlk, hnm⟩ := h
  intro H locs ls hH hlo hl
  dsimp only at hx hb hml hown hK hR hret hlk hnm ⊢
  exact lv_lmul hx hb hd (k H locs ls hH hlo hl)
theorem r_land (h : zOk K G y b nL R ret) {x y' : Int64} (hd : decode b pc = .ok (.land, 1)) (k : zW K G nL Q cells slots M N (pc + 1) lv (.long (x &&& y') :: st)) : zW K G nL Q cells slots M N pc lv (.long y' :: .long x :: st) := by
  obtain ⟨p, l, e, R0, s, m, args, below, meth, c⟩ := K
  obtain ⟨hx, hb, hml, hown, hK, hR, hret, hlk, hnm⟩ := h
  intro H locs ls hH hlo hl
  dsimp only at hx hb hml hown hK hR hret hlk hnm ⊢
  exact lv_land hx hb hd (k H locs ls hH hlo hl)
theorem r_lor (h : zOk K G y b nL R ret) {x y' : Int64} (hd : decode b pc = .ok (.lor, 1)) (k : zW K G nL Q cells slots M N (pc + 1) lv (.long (x ||| y') :: st)) : zW K G nL Q cells slots M N pc lv (.long y' :: .long x :: st) := by
  obtain ⟨p, l, e, R0, s, m, args, below, meth, c⟩ := K
  obtain ⟨hx, hb, hml, hown, hK, hR, hret, hlk, hnm⟩ := h
  intro H locs ls hH hlo hl
  dsimp only at hx hb hml hown hK hR hret hlk hnm ⊢
  exact lv_lor hx hb hd (k H locs ls hH hlo hl)
end ZR
end
section
section ZR2
variable {K : zK} {G : zG} {y : MethodName} {b : ByteArray} {nL : Nat} {R : Room} {ret : Option FieldType} {Q : State → Prop} {cells slots : Nat} {M : zM} {N pc : Nat} {lv : List (Nat × Value)} {st : List Value}
theorem r_idiv (h : zOk K G y b nL R ret) {x y' : Int32} (hne : ¬ y' = 0) (hd : decode b pc = .ok (.idiv, 1)) (k : zW K G nL Q cells slots M N (pc + 1) lv (.int (x / y') :: st)) : zW K G nL Q cells slots M N pc lv (.int y' :: .int x :: st) := by
  obtain ⟨p, l, e, R0, s, m, args, below, meth, c⟩ := K
  obtain ⟨hx, hb, hml, hown, hK, hR, hret, hlk, hnm⟩ := h
  intro H locs ls hH hlo hl
  dsimp only at hx hb hml hown hK hR hret hlk hnm ⊢
  exact lv_idiv hx hb hd hne (k H locs ls hH hlo hl)
theorem r_irem (h : zOk K G y b nL R ret) {x y' : Int32} (hne : ¬ y' = 0) (hd : decode b pc = .ok (.irem, 1)) (k : zW K G nL Q cells slots M N (pc + 1) lv (.int (x - x / y' * y') :: st)) : zW K G nL Q cells slots M N pc lv (.int y' :: .int x :: st) := by
  obtain ⟨p, l, e, R0, s, m, args, below, meth, c⟩ := K
  obtain ⟨hx, hb, hml, hown, hK, hR, hret, hlk, hnm⟩ := h
  intro H locs ls hH hlo hl
  dsimp only at hx hb hml hown hK hR hret hlk hnm ⊢
  exact lv_irem hx hb hd hne (k H locs ls hH hlo hl)
theorem r_lrem (h : zOk K G y b nL R ret) {x y' : Int64} (hne : ¬ y' = 0) (hd : decode b pc = .ok (.lrem, 1)) (k : zW K G nL Q cells slots M N (pc + 1) lv (.long (x - x / y' * y') :: st)) : zW K G nL Q cells slots M N pc lv (.long y' :: .long x :: st) := by
  obtain ⟨p, l, e, R0, s, m, args, below, meth, c⟩ := K
  obtain ⟨hx, hb, hml, hown, hK, hR, hret, hlk, hnm⟩ := h
  intro H locs ls hH hlo hl
  dsimp only at hx hb hml hown hK hR hret hlk hnm ⊢
  exact lv_lrem hx hb hd hne (k H locs ls hH hlo hl)
theorem r_ishl (h : zOk K G y b nL R ret) {x y' : Int32} (hd : decode b pc = .ok (.ishl, 1)) (k : zW K G nL Q cells slots M N (pc + 1) lv (.int (x <<< (y' &&& 31)) :: st)) : zW K G nL Q cells slots M N pc lv (.int y' :: .int x :: st) := by
  obtain ⟨p, l, e, R0, s, m, args, below, meth, c⟩ := K
  obtain ⟨hx, hb, hml, hown, hK, hR, hret, hlk, hnm⟩ := h
  intro H locs ls hH hlo hl
  dsimp only at hx hb hml hown hK hR hret hlk hnm ⊢
  exact lv_ishl hx hb hd (k H locs ls hH hlo hl)
theorem r_ishr (h : zOk K G y b nL R ret) {x y' : Int32} (hd : decode b pc = .ok (.ishr, 1)) (k : zW K G nL Q cells slots M N (pc + 1) lv (.int (x >>> (y' &&& 31)) :: st)) : zW K G nL Q cells slots M N pc lv (.int y' :: .int x :: st) := by
  obtain ⟨p, l, e, R0, s, m, args, below, meth, c⟩ := K
  obtain ⟨hx, hb, hml, hown, hK, hR, hret, hlk, hnm⟩ := h
  intro H locs ls hH hlo hl
  dsimp only at hx hb hml hown hK hR hret hlk hnm ⊢
  exact lv_ishr hx hb hd (k H locs ls hH hlo hl)
theorem r_iushr (h : zOk K G y b nL R ret) {x y' : Int32} (hd : decode b pc = .ok (.iushr, 1)) (k : zW K G nL Q cells slots M N (pc + 1) lv (.int (x.toUInt32 >>> (y'.toUInt32 &&& Int32.toUInt32 31)).toInt32 :: st)) : zW K G nL Q cells slots M N pc lv (.int y' :: .int x :: st) := by
  obtain ⟨p, l, e, R0, s, m, args, below, meth, c⟩ := K
  obtain ⟨hx, hb, hml, hown, hK, hR, hret, hlk, hnm⟩ := h
  intro H locs ls hH hlo hl
  dsimp only at hx hb hml hown hK hR hret hlk hnm ⊢
  exact lv_iushr hx hb hd rfl (k H locs ls hH hlo hl)
theorem r_lushr (h : zOk K G y b nL R ret) {x : Int64} {y' : Int32} (hd : decode b pc = .ok (.lushr, 1)) (k : zW K G nL Q cells slots M N (pc + 1) lv (.long (x.toUInt64 >>> (y'.toInt64.toUInt64 &&& Int64.toUInt64 63)).toInt64 :: st)) : zW K G nL Q cells slots M N pc lv (.int y' :: .long x :: st) := by
  obtain ⟨p, l, e, R0, s, m, args, below, meth, c⟩ := K
  obtain ⟨hx, hb, hml, hown, hK, hR, hret, hlk, hnm⟩ := h
  intro H locs ls hH hlo hl
  dsimp only at hx hb hml hown hK hR hret hlk hnm ⊢
  exact lv_lushr hx hb hd rfl (k H locs ls hH hlo hl)
theorem r_lshl (h : zOk K G y b nL R ret) {x : Int64} {y' : Int32} (hd : decode b pc = .ok (.lshl, 1)) (k : zW K G nL Q cells slots M N (pc + 1) lv (.long (x <<< (y'.toInt64 &&& 63)) :: st)) : zW K G nL Q cells slots M N pc lv (.int y' :: .long x :: st) := by
  obtain ⟨p, l, e, R0, s, m, args, below, meth, c⟩ := K
  obtain ⟨hx, hb, hml, hown, hK, hR, hret, hlk, hnm⟩ := h
  intro H locs ls hH hlo hl
  dsimp only at hx hb hml hown hK hR hret hlk hnm ⊢
  exact lv_lshl hx hb hd rfl (k H locs ls hH hlo hl)
theorem r_i2l (h : zOk K G y b nL R ret) {x : Int32} (hd : decode b pc = .ok (.i2l, 1)) (k : zW K G nL Q cells slots M N (pc + 1) lv (.long x.toInt64 :: st)) : zW K G nL Q cells slots M N pc lv (.int x :: st) := by
  obtain ⟨p, l, e, R0, s, m, args, below, meth, c⟩ := K
  obtain ⟨hx, hb, hml, hown, hK, hR, hret, hlk, hnm⟩ := h
  intro H locs ls hH hlo hl
  dsimp only at hx hb hml hown hK hR hret hlk hnm ⊢
  exact lv_i2l hx hb hd rfl (k H locs ls hH hlo hl)
theorem r_l2i (h : zOk K G y b nL R ret) {x : Int64} (hd : decode b pc = .ok (.l2i, 1)) (k : zW K G nL Q cells slots M N (pc + 1) lv (.int x.toInt32 :: st)) : zW K G nL Q cells slots M N pc lv (.long x :: st) := by
  obtain ⟨p, l, e, R0, s, m, args, below, meth, c⟩ := K
  obtain ⟨hx, hb, hml, hown, hK, hR, hret, hlk, hnm⟩ := h
  intro H locs ls hH hlo hl
  dsimp only at hx hb hml hown hK hR hret hlk hnm ⊢
  exact lv_l2i hx hb hd rfl (k H locs ls hH hlo hl)
theorem r_i2c (h : zOk K G y b nL R ret) {x : Int32} (hd : decode b pc = .ok (.i2c, 1)) (k : zW K G nL Q cells slots M N (pc + 1) lv (.int (x.toUInt32 % 65536).toInt32 :: st)) : zW K G nL Q cells slots M N pc lv (.int x :: st) := by
  obtain ⟨p, l, e, R0, s, m, args, below, meth, c⟩ := K
  obtain ⟨hx, hb, hml, hown, hK, hR, hret, hlk, hnm⟩ := h
  intro H locs ls hH hlo hl
  dsimp only at hx hb hml hown hK hR hret hlk hnm ⊢
  exact lv_i2c hx hb hd rfl (k H locs ls hH hlo hl)
theorem r_lcmp (h : zOk K G y b nL R ret) {x y' : Int64} (hd : decode b pc = .ok (.lcmp, 1)) (k : zW K G nL Q cells slots M N (pc + 1) lv (.int (lg_cmp x y') :: st)) : zW K G nL Q cells slots M N pc lv (.long y' :: .long x :: st) := by
  obtain ⟨p, l, e, R0, s, m, args, below, meth, c⟩ := K
  obtain ⟨hx, hb, hml, hown, hK, hR, hret, hlk, hnm⟩ := h
  intro H locs ls hH hlo hl
  dsimp only at hx hb hml hown hK hR hret hlk hnm ⊢
  exact W.lcmp hx hb hd (k H locs ls hH hlo hl)
theorem r_dup (h : zOk K G y b nL R ret) {v : Value} (hd : decode b pc = .ok (.dup, 1)) (hv : v.category = 1) (k : zW K G nL Q cells slots M N (pc + 1) lv (v :: v :: st)) : zW K G nL Q cells slots M N pc lv (v :: st) := by
  obtain ⟨p, l, e, R0, s, m, args, below, meth, c⟩ := K
  obtain ⟨hx, hb, hml, hown, hK, hR, hret, hlk, hnm⟩ := h
  intro H locs ls hH hlo hl
  dsimp only at hx hb hml hown hK hR hret hlk hnm ⊢
  exact lv_dup hx hb hd hv (k H locs ls hH hlo hl)
theorem r_pop (h : zOk K G y b nL R ret) {v : Value} (hd : decode b pc = .ok (.pop, 1)) (hv : v.category = 1) (k : zW K G nL Q cells slots M N (pc + 1) lv (st)) : zW K G nL Q cells slots M N pc lv (v :: st) := by
  obtain ⟨p, l, e, R0, s, m, args, below, meth, c⟩ := K
  obtain ⟨hx, hb, hml, hown, hK, hR, hret, hlk, hnm⟩ := h
  intro H locs ls hH hlo hl
  dsimp only at hx hb hml hown hK hR hret hlk hnm ⊢
  exact lv_pop hx hb hd hv (k H locs ls hH hlo hl)
theorem r_dup2 (h : zOk K G y b nL R ret) {v v' : Value} (hd : decode b pc = .ok (.dup2, 1)) (hv : v.category = 1) (hv' : v'.category = 1) (k : zW K G nL Q cells slots M N (pc + 1) lv (v :: v' :: v :: v' :: st)) : zW K G nL Q cells slots M N pc lv (v :: v' :: st) := by
  obtain ⟨p, l, e, R0, s, m, args, below, meth, c⟩ := K
  obtain ⟨hx, hb, hml, hown, hK, hR, hret, hlk, hnm⟩ := h
  intro H locs ls hH hlo hl
  dsimp only at hx hb hml hown hK hR hret hlk hnm ⊢
  exact lv_dup2_11 hx hb hd hv hv' (k H locs ls hH hlo hl)
theorem r_if_eq (h : zOk K G y b nL R ret) {x : Int32} {off : Int} (tgt : Nat) (hd : decode b pc = .ok (.ifCond .eq off, 3)) (ht : (pc : Int) + off = (tgt : Int)) (kt : x = 0 → zW K G nL Q cells slots M N tgt lv (st)) (kf : ¬ x = 0 → zW K G nL Q cells slots M N (pc + 3) lv (st)) : zW K G nL Q cells slots M N pc lv (.int x :: st) := by
  obtain ⟨p, l, e, R0, s, m, args, below, meth, c⟩ := K
  obtain ⟨hx, hb, hml, hown, hK, hR, hret, hlk, hnm⟩ := h
  intro H locs ls hH hlo hl
  dsimp only at hx hb hml hown hK hR hret hlk hnm ⊢
  exact lv_if_eq hx hb hd ht (fun q => kt q H locs ls hH hlo hl) (fun q => kf q H locs ls hH hlo hl)
theorem r_icmp_eq (h : zOk K G y b nL R ret) {x y' : Int32} {off : Int} (tgt : Nat) (hd : decode b pc = .ok (.if_icmp .eq off, 3)) (ht : (pc : Int) + off = (tgt : Int)) (kt : x = y' → zW K G nL Q cells slots M N tgt lv (st)) (kf : ¬ x = y' → zW K G nL Q cells slots M N (pc + 3) lv (st)) : zW K G nL Q cells slots M N pc lv (.int y' :: .int x :: st) := by
  obtain ⟨p, l, e, R0, s, m, args, below, meth, c⟩ := K
  obtain ⟨hx, hb, hml, hown, hK, hR, hret, hlk, hnm⟩ := h
  intro H locs ls hH hlo hl
  dsimp only at hx hb hml hown hK hR hret hlk hnm ⊢
  exact lv_icmp_eq hx hb hd ht (fun q => kt q H locs ls hH hlo hl) (fun q => kf q H locs ls hH hlo hl)
theorem r_if_ne (h : zOk K G y b nL R ret) {x : Int32} {off : Int} (tgt : Nat) (hd : decode b pc = .ok (.ifCond .ne off, 3)) (ht : (pc : Int) + off = (tgt : Int)) (kt : ¬ x = 0 → zW K G nL Q cells slots M N tgt lv (st)) (kf : x = 0 → zW K G nL Q cells slots M N (pc + 3) lv (st)) : zW K G nL Q cells slots M N pc lv (.int x :: st) := by
  obtain ⟨p, l, e, R0, s, m, args, below, meth, c⟩ := K
  obtain ⟨hx, hb, hml, hown, hK, hR, hret, hlk, hnm⟩ := h
  intro H locs ls hH hlo hl
  dsimp only at hx hb hml hown hK hR hret hlk hnm ⊢
  exact lv_if_ne hx hb hd ht (fun q => kt q H locs ls hH hlo hl) (fun q => kf q H locs ls hH hlo hl)
theorem r_icmp_ne (h : zOk K G y b nL R ret) {x y' : Int32} {off : Int} (tgt : Nat) (hd : decode b pc = .ok (.if_icmp .ne off, 3)) (ht : (pc : Int) + off = (tgt : Int)) (kt : ¬ x = y' → zW K G nL Q cells slots M N tgt lv (st)) (kf : x = y' → zW K G nL Q cells slots M N (pc + 3) lv (st)) : zW K G nL Q cells slots M N pc lv (.int y' :: .int x :: st) := by
  obtain ⟨p, l, e, R0, s, m, args, below, meth, c⟩ := K
  obtain ⟨hx, hb, hml, hown, hK, hR, hret, hlk, hnm⟩ := h
  intro H locs ls hH hlo hl
  dsimp only at hx hb hml hown hK hR hret hlk hnm ⊢
  exact lv_icmp_ne hx hb hd ht (fun q => kt q H locs ls hH hlo hl) (fun q => kf q H locs ls hH hlo hl)
theorem r_if_lt (h : zOk K G y b nL R ret) {x : Int32} {off : Int} (tgt : Nat) (hd : decode b pc = .ok (.ifCond .lt off, 3)) (ht : (pc : Int) + off = (tgt : Int)) (kt : x < 0 → zW K G nL Q cells slots M N tgt lv (st)) (kf : ¬ x < 0 → zW K G nL Q cells slots M N (pc + 3) lv (st)) : zW K G nL Q cells slots M N pc lv (.int x :: st) := by
  obtain ⟨p, l, e, R0, s, m, args, below, meth, c⟩ := K
  obtain ⟨hx, hb, hml, hown, hK, hR, hret, hlk, hnm⟩ := h
  intro H locs ls hH hlo hl
  dsimp only at hx hb hml hown hK hR hret hlk hnm ⊢
  exact lv_if_lt hx hb hd ht (fun q => kt q H locs ls hH hlo hl) (fun q => kf q H locs ls hH hlo hl)
theorem r_icmp_lt (h : zOk K G y b nL R ret) {x y' : Int32} {off : Int} (tgt : Nat) (hd : decode b pc = .ok (.if_icmp .lt off, 3)) (ht : (pc : Int) + off = (tgt : Int)) (kt : x < y' → zW K G nL Q cells slots M N tgt lv (st)) (kf : ¬ x < y' → zW K G nL Q cells slots M N (pc + 3) lv (st)) : zW K G nL Q cells slots M N pc lv (.int y' :: .int x :: st) := by
  obtain ⟨p, l, e, R0, s, m, args, below, meth, c⟩ := K
  obtain ⟨hx, hb, hml, hown, hK, hR, hret, hlk, hnm⟩ := h
  intro H locs ls hH hlo hl
  dsimp only at hx hb hml hown hK hR hret hlk hnm ⊢
  exact lv_icmp_lt hx hb hd ht (fun q => kt q H locs ls hH hlo hl) (fun q => kf q H locs ls hH hlo hl)
theorem r_if_ge (h : zOk K G y b nL R ret) {x : Int32} {off : Int} (tgt : Nat) (hd : decode b pc = .ok (.ifCond .ge off, 3)) (ht : (pc : Int) + off = (tgt : Int)) (kt : 0 ≤ x → zW K G nL Q cells slots M N tgt lv (st)) (kf : ¬ 0 ≤ x → zW K G nL Q cells slots M N (pc + 3) lv (st)) : zW K G nL Q cells slots M N pc lv (.int x :: st) := by
  obtain ⟨p, l, e, R0, s, m, args, below, meth, c⟩ := K
  obtain ⟨hx, hb, hml, hown, hK, hR, hret, hlk, hnm⟩ := h
  intro H locs ls hH hlo hl
  dsimp only at hx hb hml hown hK hR hret hlk hnm ⊢
  exact lv_if_ge hx hb hd ht (fun q => kt q H locs ls hH hlo hl) (fun q => kf q H locs ls hH hlo hl)
theorem r_icmp_ge (h : zOk K G y b nL R ret) {x y' : Int32} {off : Int} (tgt : Nat) (hd : decode b pc = .ok (.if_icmp .ge off, 3)) (ht : (pc : Int) + off = (tgt : Int)) (kt : y' ≤ x → zW K G nL Q cells slots M N tgt lv (st)) (kf : ¬ y' ≤ x → zW K G nL Q cells slots M N (pc + 3) lv (st)) : zW K G nL Q cells slots M N pc lv (.int y' :: .int x :: st) := by
  obtain ⟨p, l, e, R0, s, m, args, below, meth, c⟩ := K
  obtain ⟨hx, hb, hml, hown, hK, hR, hret, hlk, hnm⟩ := h
  intro H locs ls hH hlo hl
  dsimp only at hx hb hml hown hK hR hret hlk hnm ⊢
  exact lv_icmp_ge hx hb hd ht (fun q => kt q H locs ls hH hlo hl) (fun q => kf q H locs ls hH hlo hl)
theorem r_if_gt (h : zOk K G y b nL R ret) {x : Int32} {off : Int} (tgt : Nat) (hd : decode b pc = .ok (.ifCond .gt off, 3)) (ht : (pc : Int) + off = (tgt : Int)) (kt : 0 < x → zW K G nL Q cells slots M N tgt lv (st)) (kf : ¬ 0 < x → zW K G nL Q cells slots M N (pc + 3) lv (st)) : zW K G nL Q cells slots M N pc lv (.int x :: st) := by
  obtain ⟨p, l, e, R0, s, m, args, below, meth, c⟩ := K
  obtain ⟨hx, hb, hml, hown, hK, hR, hret, hlk, hnm⟩ := h
  intro H locs ls hH hlo hl
  dsimp only at hx hb hml hown hK hR hret hlk hnm ⊢
  exact lv_if_gt hx hb hd ht (fun q => kt q H locs ls hH hlo hl) (fun q => kf q H locs ls hH hlo hl)
theorem r_icmp_gt (h : zOk K G y b nL R ret) {x y' : Int32} {off : Int} (tgt : Nat) (hd : decode b pc = .ok (.if_icmp .gt off, 3)) (ht : (pc : Int) + off = (tgt : Int)) (kt : y' < x → zW K G nL Q cells slots M N tgt lv (st)) (kf : ¬ y' < x → zW K G nL Q cells slots M N (pc + 3) lv (st)) : zW K G nL Q cells slots M N pc lv (.int y' :: .int x :: st) := by
  obtain ⟨p, l, e, R0, s, m, args, below, meth, c⟩ := K
  obtain ⟨hx, hb, hml, hown, hK, hR, hret, hlk, hnm⟩ := h
  intro H locs ls hH hlo hl
  dsimp only at hx hb hml hown hK hR hret hlk hnm ⊢
  exact lv_icmp_gt hx hb hd ht (fun q => kt q H locs ls hH hlo hl) (fun q => kf q H locs ls hH hlo hl)
theorem r_if_le (h : zOk K G y b nL R ret) {x : Int32} {off : Int} (tgt : Nat) (hd : decode b pc = .ok (.ifCond .le off, 3)) (ht : (pc : Int) + off = (tgt : Int)) (kt : x ≤ 0 → zW K G nL Q cells slots M N tgt lv (st)) (kf : ¬ x ≤ 0 → zW K G nL Q cells slots M N (pc + 3) lv (st)) : zW K G nL Q cells slots M N pc lv (.int x :: st) := by
  obtain ⟨p, l, e, R0, s, m, args, below, meth, c⟩ := K
  obtain ⟨hx, hb, hml, hown, hK, hR, hret, hlk, hnm⟩ := h
  intro H locs ls hH hlo hl
  dsimp only at hx hb hml hown hK hR hret hlk hnm ⊢
  exact lv_if_le hx hb hd ht (fun q => kt q H locs ls hH hlo hl) (fun q => kf q H locs ls hH hlo hl)
theorem r_icmp_le (h : zOk K G y b nL R ret) {x y' : Int32} {off : Int} (tgt : Nat) (hd : decode b pc = .ok (.if_icmp .le off, 3)) (ht : (pc : Int) + off = (tgt : Int)) (kt : x ≤ y' → zW K G nL Q cells slots M N tgt lv (st)) (kf : ¬ x ≤ y' → zW K G nL Q cells slots M N (pc + 3) lv (st)) : zW K G nL Q cells slots M N pc lv (.int y' :: .int x :: st) := by
  obtain ⟨p, l, e, R0, s, m, args, below, meth, c⟩ := K
  obtain ⟨hx, hb, hml, hown, hK, hR, hret, hlk, hnm⟩ := h
  intro H locs ls hH hlo hl
  dsimp only at hx hb hml hown hK hR hret hlk hnm ⊢
  exact lv_icmp_le hx hb hd ht (fun q => kt q H locs ls hH hlo hl) (fun q => kf q H locs ls hH hlo hl)
theorem r_ifeq_b (h : zOk K G y b nL R ret) {P : Prop} {dP : Decidable P} {off : Int} (tgt : Nat) (hd : decode b pc = .ok (.ifCond .eq off, 3)) (ht : (pc : Int) + off = (tgt : Int)) (kt : ¬ P → zW K G nL Q cells slots M N tgt lv (st)) (kf : P → zW K G nL Q cells slots M N (pc + 3) lv (st)) : zW K G nL Q cells slots M N pc lv (.int (if P then 1 else 0) :: st) := by
  by_cases hP : P
  · rw [if_pos hP]; exact r_if_eq h tgt hd ht (fun q => absurd q (by decide)) (fun _ => kf hP)
  · rw [if_neg hP]; exact r_if_eq h tgt hd ht (fun _ => kt hP) (fun q => absurd rfl q)
theorem r_ifne_b (h : zOk K G y b nL R ret) {P : Prop} {dP : Decidable P} {off : Int} (tgt : Nat) (hd : decode b pc = .ok (.ifCond .ne off, 3)) (ht : (pc : Int) + off = (tgt : Int)) (kt : P → zW K G nL Q cells slots M N tgt lv (st)) (kf : ¬ P → zW K G nL Q cells slots M N (pc + 3) lv (st)) : zW K G nL Q cells slots M N pc lv (.int (if P then 1 else 0) :: st) := by
  by_cases hP : P
  · rw [if_pos hP]; exact r_if_ne h tgt hd ht (fun _ => kt hP) (fun q => absurd q (by decide))
  · rw [if_neg hP]; exact r_if_ne h tgt hd ht (fun q => absurd rfl q) (fun _ => kf hP)
theorem r_goto (h : zOk K G y b nL R ret) {off : Int} (tgt : Nat) (hd : decode b pc = .ok (.goto off, 3)) (ht : (pc : Int) + off = (tgt : Int)) (k : zW K G nL Q cells slots M N tgt lv (st)) : zW K G nL Q cells slots M N pc lv (st) := by
  obtain ⟨p, l, e, R0, s, m, args, below, meth, c⟩ := K
  obtain ⟨hx, hb, hml, hown, hK, hR, hret, hlk, hnm⟩ := h
  intro H locs ls hH hlo hl
  dsimp only at hx hb hml hown hK hR hret hlk hnm ⊢
  exact lv_goto hx hb hd ht (k H locs ls hH hlo hl)
theorem r_table (h : zOk K G y b nL R ret) {dflt lo hi : Int} {offs : Array Int} {len : Nat} {x : Int32} (hd : decode b pc = .ok (.tableswitch dflt lo hi offs, len)) {t : Nat} (ht : (pc : Int) + (if x.toInt < lo ∨ hi < x.toInt then dflt else offs.getD (x.toInt - lo).toNat dflt) = (t : Int)) (hsz : (offs.size : Int) = hi - lo + 1) (k : zW K G nL Q cells slots M N t lv (st)) : zW K G nL Q cells slots M N pc lv (.int x :: st) := by
  obtain ⟨p, l, e, R0, s, m, args, below, meth, c⟩ := K
  obtain ⟨hx, hb, hml, hown, hK, hR, hret, hlk, hnm⟩ := h
  intro H locs ls hH hlo hl
  dsimp only at hx hb hml hown hK hR hret hlk hnm ⊢
  by_cases hc : x.toInt < lo ∨ hi < x.toInt
  · rw [if_pos hc] at ht
    exact lv_tableOut hx hb hd hc ht (k H locs ls hH hlo hl)
  · rw [if_neg hc] at ht
    have h1 : ¬ x.toInt < lo := fun q => hc (Or.inl q)
    have h2 : ¬ hi < x.toInt := fun q => hc (Or.inr q)
    have hlt : (x.toInt - lo).toNat < offs.size := by omega
    refine lv_tableIn hx hb hd h1 h2 (off := offs.getD (x.toInt - lo).toNat dflt) ?_ ht (k H locs ls hH hlo hl)
    rw [Array.getD_eq_getD_getElem?, Array.getElem?_eq_getElem hlt]
    rfl
theorem r_lookup (h : zOk K G y b nL R ret) {dflt : Int} {ps : Array (Int × Int)} {len : Nat} {x : Int32} (hd : decode b pc = .ok (.lookupswitch dflt ps, len)) (hp : (ps.toList.zip (ps.toList.drop 1)).all (fun (a, next) => a.1 < next.1) = true) {t : Nat} (ht : (pc : Int) + Op.lookupswitch.offset ps.toList dflt x.toInt = (t : Int)) (k : zW K G nL Q cells slots M N t lv (st)) : zW K G nL Q cells slots M N pc lv (.int x :: st) := by
  obtain ⟨p, l, e, R0, s, m, args, below, meth, c⟩ := K
  obtain ⟨hx, hb, hml, hown, hK, hR, hret, hlk, hnm⟩ := h
  intro H locs ls hH hlo hl
  dsimp only at hx hb hml hown hK hR hret hlk hnm ⊢
  exact lv_lookup hx hb hd hp rfl ht (k H locs ls hH hlo hl)
end ZR2
end
section
section ZM
variable {K : zK} {G : zG} {y : MethodName} {b : ByteArray} {nL : Nat} {R : Room} {ret : Option FieldType} {Q : State → Prop} {cells slots : Nat} {M : zM} {N pc : Nat} {lv : List (Nat × Value)} {st : List Value}
/-- a class of the world: its place, name, fields, number of slots, types -/
def zCi (ci : Nat) (C : String) (T : u_T) (n : Nat) (ty : Nat → FieldType) : Prop := vwCl[ci]? = some (C, T, n) ∧ (∀ w ∈ u_ws C T n, w ∈ lw_tbl) ∧ (∀ k, k < n → parseFieldDescriptor (T k).2.2.1 = some (ty k)) ∧ (∀ a, a < n → ∀ b, b < n → a ≠ b → (T a).2.1 ≠ (T b).2.1) ∧ (u_ws C T n).all zgd = true
theorem zKw.hts {s : State} (hK : zKw G s) {C : String} {T : u_T} {n ci : Nat} {ty : Nat → FieldType} (hc : zCi ci C T n ty) (args : Array Value) : ∀ w ∈ u_ws C T n, w.before args s = true := fun w hw => hK.2.1.use (hc.2.1 w hw) (List.all_eq_true.mp hc.2.2.2.2 w hw) args
theorem r_getf (h : zOk K G y b nL R ret) {a ci n k index : Nat} {fs : List Value} {C : String} {T : u_T} {ty : Nat → FieldType} {v : Value} (hc : zCi ci C T n ty) (hw : Cond.fieldLink y.cls index (T k).1 (T k).2.1 (T k).2.2.1 ∈ lw_tbl) (hk : k < n) (hd : decode b pc = .ok (.getfield index, 3)) (hM : M a = some (zO ci fs)) (hv : fs[k]? = some v) (kk : zW K G nL Q cells slots M N (pc + 3) lv (v :: st)) : zW K G nL Q cells slots M N pc lv (.ref a :: st) := by
  obtain ⟨p, l, e, R0, s, m, args, below, meth, c⟩ := K
  obtain ⟨hx, hb, hml, hown, hK, hR, hret, hlk, hnm⟩ := h
  intro H locs ls hH hlo hl
  dsimp only at hx hb hml hown hK hR hret hlk hnm ⊢
  have hP : va_P G.1 vwCl [(a, zO ci fs)] H := fun k q hq => by
    cases k with
    | zero => cases hq; exact (hH.2.2.2 a _ hM).2
    | succ k => cases hq
  exact va_get (Ts := u_ws C T n) hx hb (hK.hts hc args) (fun _ q => q) hown hK.1 hP 0 rfl hc.1 k hk (hK.2.1.use hw rfl args) (fun _ q => q) hv hd (kk H locs ls hH hlo hl)
theorem zPut (h : zOk K G y b nL R ret) {a ci n k index : Nat} {fs : List Value} {C : String} {T : u_T} {ty : Nat → FieldType} {v : Value} (hc : zCi ci C T n ty) (hw : Cond.fieldLink y.cls index (T k).1 (T k).2.1 (T k).2.2.1 ∈ lw_tbl) (hk : k < n) (hfin : (T k).2.2.2 = false ∨ (y.name = "<init>" ∧ (T k).1 = y.cls)) (hn : narrow (ty k) v = v) (hf : fits (ty k) v = true) (hlen : fs.length = n) (hd : decode b pc = .ok (.putfield index, 3)) (hM : M a = some (zO ci fs)) (kk : zW K G nL Q cells slots (zu M a (zO ci (fs.set k v))) N (pc + 3) lv st) : zW K G nL Q cells slots M N pc lv (v :: .ref a :: st) := by
  obtain ⟨p, l, e, R0, s, m, args, below, meth, c⟩ := K
  obtain ⟨hx, hb, hml, hown, hK, hR, hret, hlk, hnm⟩ := h
  intro H locs ls hH hlo hl
  dsimp only at hx hb hml hown hK hR hret hlk hnm ⊢
  have hts := hK.hts hc args
  have hap := va_apart (own := C) (Ts := u_ws C T n) hts (fun _ q => q) ty hc.2.2.1 hc.2.2.2.1 hK.1 hc.1
  obtain ⟨hsz, hat⟩ := hH.2.2.2 a _ hM
  obtain ⟨r, h1, cell, q1, q2, q3, q4⟩ := hat
  have hr : r = (C, T, n) := Option.some.inj (h1.symm.trans hc.1)
  subst hr
  obtain ⟨hS, hfc, kC, hkC, hkind⟩ := hK.1.1 ci _ hc.1
  obtain ⟨cf, kf, fi, f, hi, hsl⟩ := hS k hk
  have hlays := u_lays hts (fun _ q => q) hk
  have hst := (u_facts hfc hkC hlays hi).1
  have fin : ∀ (H' : Heap), H'[a]? = some (cell.setSlot f.slot v) → H'.size = H.size → (∀ q, q ≠ a → H'[q]? = H[q]?) → W p l e R0 s m args below meth c H' (locs ++ [⟨a, f.slot⟩]) cells slots Q (F0 m (pc + 3) ls st) := fun H' e1 e2 e3 => by
    rw [hsl] at e1
    refine kk H' _ ls (hH.put hM e2 e3 ⟨_, hc.1, t_OB.to (V := updV (vp_V fs) k v) ⟨_, e1, q2, q3, t_set q4 hap hk v⟩ (fun j _ => vp_updV_set (by omega) v j)⟩) (fun q hq => ?_) hl
    rcases List.mem_append.mp hq with hq | hq
    · exact hlo q hq
    · rw [List.mem_singleton.mp hq]; exact hsz
  have hlink := hK.2.1.use hw rfl args
  have hv : a < H.size := (Array.getElem?_eq_some_iff.mp q1).1
  rcases hfin with hfin | ⟨hi1, hi2⟩
  · have hlay := hts _ (u_in_lay hk)
    unfold u_lay at hlay
    rw [if_neg (by rw [hfin]; decide)] at hlay
    have h6 := u_store hfc hkC hkind hlay hi (hc.2.2.1 k hk) hn hf
    exact W.putK hx hb (f := f) ⟨hown, hlink, ⟨_, _, _, hi⟩, hst⟩ (by rw [q2]; exact h6) q1 q3 (by rw [hsl]; exact k2_hasslot (q4 k hk)) rfl rfl hd fin
  · have h6 := u_fits hfc hkC hkind hlays hi (hc.2.2.1 k hk) hn hf
    by_cases hfin : (T k).2.2.2 = false
    · have hlay := hts _ (u_in_lay hk)
      unfold u_lay at hlay
      rw [if_neg (by rw [hfin]; decide)] at hlay
      have h6 := u_store hfc hkC hkind hlay hi (hc.2.2.1 k hk) hn hf
      exact W.putK hx hb (f := f) ⟨hown, hlink, ⟨_, _, _, hi⟩, hst⟩ (by rw [q2]; exact h6) q1 q3 (by rw [hsl]; exact k2_hasslot (q4 k hk)) rfl rfl hd fin
    · have hfin : (T k).2.2.2 = true := by simpa using hfin
      have hlay := hts _ (u_in_lay hk)
      unfold u_lay at hlay
      rw [if_pos hfin] at hlay
      have hcf : m.cls = cf := by
        obtain ⟨_, _, c', _, _, _, -, -, hf', -, -, -, hown2, -⟩ := Cond.laysFinal_spec hlay
        have e1 : c' = cf := by have := hi.symm.trans hf'; simp at this; exact this.1.symm
        rw [hi2] at hown2
        rw [← e1]; exact Option.some.inj (hown.symm.trans hown2)
      exact W.putFinK hx hb hown hlink hi hst hcf (by rw [hnm]; exact hi1) (by rw [q2]; exact h6) q1 q3 (by rw [hsl]; exact k2_hasslot (q4 k hk)) rfl rfl hd fin
theorem r_putf (h : zOk K G y b nL R ret) {a ci n k index : Nat} {fs : List Value} {C : String} {T : u_T} {ty : Nat → FieldType} {v : Value} {M' : zM} (hc : zCi ci C T n ty) (hw : Cond.fieldLink y.cls index (T k).1 (T k).2.1 (T k).2.2.1 ∈ lw_tbl) (hk : k < n) (hfin : (T k).2.2.2 = false) (hn : narrow (ty k) v = v) (hf : fits (ty k) v = true) (hd : decode b pc = .ok (.putfield index, 3)) (hM : M a = some (zO ci fs)) (hlen : fs.length = n) (hM' : zu M a (zO ci (fs.set k v)) = M') (kk : zW K G nL Q cells slots M' N (pc + 3) lv st) : zW K G nL Q cells slots M N pc lv (v :: .ref a :: st) := by
  subst hM'
  exact zPut h hc hw hk (Or.inl hfin) hn hf hlen hd hM kk
/-! arrays -/
theorem zArr {cA : ClassId} {n : Nat} {f : Nat → Int32} {H : Heap} {a : Nat} (hH : zHd G M N H) (hM : M a = some (zI cA n f)) : H[a]? = some (arrV cA n (fun j => .int (f j))) := (hH.2.2.2 a _ hM).2
theorem zArrR {cA : ClassId} {n : Nat} {f : Nat → Option Nat} {H : Heap} {a : Nat} (hH : zHd G M N H) (hM : M a = some (zR cA n f)) : H[a]? = some (arrV cA n (fun j => va_rf (f j))) := (hH.2.2.2 a _ hM).2
theorem r_iald (h : zOk K G y b nL R ret) {a n : Nat} {f : Nat → Int32} {i : Int32} (hd : decode b pc = .ok (.iaload, 1)) (hM : M a = some (zI (G.2.1 0) n f)) (hin : vp_in i n) (kk : zW K G nL Q cells slots M N (pc + 1) lv (.int (f i.toNatClampNeg) :: st)) : zW K G nL Q cells slots M N pc lv (.int i :: .ref a :: st) := by
  obtain ⟨p, l, e, R0, s, m, args, below, meth, c⟩ := K
  obtain ⟨hx, hb, hml, hown, hK, hR, hret, hlk, hnm⟩ := h
  intro H locs ls hH hlo hl
  dsimp only at hx hb hml hown hK hR hret hlk hnm ⊢
  have hlt : i.toNatClampNeg < n := Nat.not_le.mp fun q => hin (Or.inr q)
  exact W.iald (v := .int (f i.toNatClampNeg)) hx hb (zArr hH hM) ((hK.1.2 0 _ rfl).1 n _) (fun q => by cases q) (by rw [arrV_size]; exact hin) (by rw [arrV_read _ _ hlt]) rfl rfl hd (kk H locs ls hH hlo hl)
theorem r_zald (h : zOk K G y b nL R ret) {a n : Nat} {f : Nat → Int32} {i : Int32} (hd : decode b pc = .ok (.baload, 1)) (hM : M a = some (zI (G.2.1 2) n f)) (hin : vp_in i n) (kk : zW K G nL Q cells slots M N (pc + 1) lv (.int (f i.toNatClampNeg) :: st)) : zW K G nL Q cells slots M N pc lv (.int i :: .ref a :: st) := by
  obtain ⟨p, l, e, R0, s, m, args, below, meth, c⟩ := K
  obtain ⟨hx, hb, hml, hown, hK, hR, hret, hlk, hnm⟩ := h
  intro H locs ls hH hlo hl
  dsimp only at hx hb hml hown hK hR hret hlk hnm ⊢
  have hlt : i.toNatClampNeg < n := Nat.not_le.mp fun q => hin (Or.inr q)
  exact W.zald (v := .int (f i.toNatClampNeg)) hx hb (zArr hH hM) ((hK.1.2 2 _ rfl).1 n _) (fun q => by cases q) (by rw [arrV_size]; exact hin) (by rw [arrV_read _ _ hlt]) rfl rfl hd (kk H locs ls hH hlo hl)
theorem r_cald (h : zOk K G y b nL R ret) {a n : Nat} {f : Nat → Int32} {i : Int32} (hd : decode b pc = .ok (.caload, 1)) (hM : M a = some (zI (G.2.1 1) n f)) (hin : vp_in i n) (kk : zW K G nL Q cells slots M N (pc + 1) lv (.int (f i.toNatClampNeg) :: st)) : zW K G nL Q cells slots M N pc lv (.int i :: .ref a :: st) := by
  obtain ⟨p, l, e, R0, s, m, args, below, meth, c⟩ := K
  obtain ⟨hx, hb, hml, hown, hK, hR, hret, hlk, hnm⟩ := h
  intro H locs ls hH hlo hl
  dsimp only at hx hb hml hown hK hR hret hlk hnm ⊢
  have hlt : i.toNatClampNeg < n := Nat.not_le.mp fun q => hin (Or.inr q)
  exact W.cald (v := .int (f i.toNatClampNeg)) hx hb (zArr hH hM) ((hK.1.2 1 _ rfl).1 n _) (fun q => by cases q) (by rw [arrV_size]; exact hin) (by rw [arrV_read _ _ hlt]) rfl rfl hd (kk H locs ls hH hlo hl)
/-- which of the array classes holds references -/
def zRt (t : Nat) : Prop := t = 3 ∨ t = 4 ∨ t = 5
theorem r_aald (h : zOk K G y b nL R ret) {a n : Nat} {f : Nat → Option Nat} {i : Int32} (t : Nat) (ht : zRt t) (v : Nat) (hd : decode b pc = .ok (.aaload, 1)) (hM : M a = some (zR (G.2.1 t) n f)) (hin : vp_in i n) (hv : f i.toNatClampNeg = some v) (kk : zW K G nL Q cells slots M N (pc + 1) lv (.ref v :: st)) : zW K G nL Q cells slots M N pc lv (.int i :: .ref a :: st) := by
  obtain ⟨p, l, e, R0, s, m, args, below, meth, c⟩ := K
  obtain ⟨hx, hb, hml, hown, hK, hR, hret, hlk, hnm⟩ := h
  intro H locs ls hH hlo hl
  dsimp only at hx hb hml hown hK hR hret hlk hnm ⊢
  have hlt : i.toNatClampNeg < n := Nat.not_le.mp fun q => hin (Or.inr q)
  have hr : va_rf (f i.toNatClampNeg) = .ref v := by rw [hv]; rfl
  rcases ht with rfl | rfl | rfl
  · exact W.aald (v := .ref v) (ty := .array .int) hx hb (zArrR hH hM) ((hK.1.2 3 _ rfl).1 n _) rfl (fun q => by cases q) (by rw [arrV_size]; exact hin) (by rw [arrV_read _ _ hlt, hr]) rfl rfl hd (kk H locs ls hH hlo hl)
  · exact W.aald (v := .ref v) (ty := .object "HarpOrders$Parcel") hx hb (zArrR hH hM) ((hK.1.2 4 _ rfl).1 n _) rfl (fun q => by cases q) (by rw [arrV_size]; exact hin) (by rw [arrV_read _ _ hlt, hr]) rfl rfl hd (kk H locs ls hH hlo hl)
  · exact W.aald (v := .ref v) (ty := .object "HarpOrders$Club") hx hb (zArrR hH hM) ((hK.1.2 5 _ rfl).1 n _) rfl (fun q => by cases q) (by rw [arrV_size]; exact hin) (by rw [arrV_read _ _ hlt, hr]) rfl rfl hd (kk H locs ls hH hlo hl)
theorem r_alen (h : zOk K G y b nL R ret) {a n t : Nat} {ty : FieldType} {f : Nat → Int32} (v : Int32) (ht : (zTy G.2.1)[t]? = some (G.2.1 t, ty)) (hd : decode b pc = .ok (.arraylength, 1)) (hM : M a = some (zI (G.2.1 t) n f)) (hv : Int32.ofNat n = v) (kk : zW K G nL Q cells slots M N (pc + 1) lv (.int v :: st)) : zW K G nL Q cells slots M N pc lv (.ref a :: st) := by
  obtain ⟨p, l, e, R0, s, m, args, below, meth, c⟩ := K
  obtain ⟨hx, hb, hml, hown, hK, hR, hret, hlk, hnm⟩ := h
  intro H locs ls hH hlo hl
  dsimp only at hx hb hml hown hK hR hret hlk hnm ⊢
  exact W.alen (n := v) hx hb (zArr hH hM) ((hK.1.2 t _ ht).1 n _) (by rw [arrV_size]; exact hv) rfl rfl hd (kk H locs ls hH hlo hl)
theorem r_alenR (h : zOk K G y b nL R ret) {a n t : Nat} {ty : FieldType} {f : Nat → Option Nat} (v : Int32) (ht : (zTy G.2.1)[t]? = some (G.2.1 t, ty)) (hd : decode b pc = .ok (.arraylength, 1)) (hM : M a = some (zR (G.2.1 t) n f)) (hv : Int32.ofNat n = v) (kk : zW K G nL Q cells slots M N (pc + 1) lv (.int v :: st)) : zW K G nL Q cells slots M N pc lv (.ref a :: st) := by
  obtain ⟨p, l, e, R0, s, m, args, below, meth, c⟩ := K
  obtain ⟨hx, hb, hml, hown, hK, hR, hret, hlk, hnm⟩ := h
  intro H locs ls hH hlo hl
  dsimp only at hx hb hml hown hK hR hret hlk hnm ⊢
  exact W.alen (n := v) hx hb (zArrR hH hM) ((hK.1.2 t _ ht).1 n _) (by rw [arrV_size]; exact hv) rfl rfl hd (kk H locs ls hH hlo hl)
theorem r_iast (h : zOk K G y b nL R ret) {a n : Nat} {f : Nat → Int32} {i x : Int32} {M' : zM} (hd : decode b pc = .ok (.iastore, 1)) (hM : M a = some (zI (G.2.1 0) n f)) (hin : vp_in i n) (hM' : zu M a (zI (G.2.1 0) n (upd f i.toNatClampNeg x)) = M') (kk : zW K G nL Q cells slots M' N (pc + 1) lv st) : zW K G nL Q cells slots M N pc lv (.int x :: .int i :: .ref a :: st) := by
  subst hM'
  obtain ⟨p, l, e, R0, s, m, args, below, meth, c⟩ := K
  obtain ⟨hx, hb, hml, hown, hK, hR, hret, hlk, hnm⟩ := h
  intro H locs ls hH hlo hl
  dsimp only at hx hb hml hown hK hR hret hlk hnm ⊢
  refine W.iast hx hb (zArr hH hM) ((hK.1.2 0 _ rfl).1 n _) (fun q => by cases q) (by rw [arrV_size]; exact hin) rfl rfl hd fun H1 e z oq => ?_
  refine kk H1 _ ls (hH.put hM z oq ?_) (fun q hq => ?_) hl
  · show H1[a]? = some (vp_cell _ _)
    rw [e, vp_cell_i, arrV_store]
    congr 2
    funext q
    by_cases hq : q = i.toNatClampNeg <;> simp [updV, upd, hq]
  · rcases List.mem_append.mp hq with hq | hq
    · exact hlo q hq
    · rw [List.mem_singleton.mp hq]; exact (hH.2.2.2 a _ hM).1
theorem r_zast (h : zOk K G y b nL R ret) {a n : Nat} {f : Nat → Int32} {i x : Int32} {M' : zM} (hd : decode b pc = .ok (.bastore, 1)) (hM : M a = some (zI (G.2.1 2) n f)) (hin : vp_in i n) (hx2 : narrow .boolean (.int x) = .int x) (hM' : zu M a (zI (G.2.1 2) n (upd f i.toNatClampNeg x)) = M') (kk : zW K G nL Q cells slots M' N (pc + 1) lv st) : zW K G nL Q cells slots M N pc lv (.int x :: .int i :: .ref a :: st) := by
  subst hM'
  obtain ⟨p, l, e, R0, s, m, args, below, meth, c⟩ := K
  obtain ⟨hx, hb, hml, hown, hK, hR, hret, hlk, hnm⟩ := h
  intro H locs ls hH hlo hl
  dsimp only at hx hb hml hown hK hR hret hlk hnm ⊢
  refine W.zast hx hb (zArr hH hM) ((hK.1.2 2 _ rfl).1 n _) (fun q => by cases q) (by rw [arrV_size]; exact hin) rfl rfl hd fun H1 e z oq => ?_
  rw [hx2] at e
  refine kk H1 _ ls (hH.put hM z oq ?_) (fun q hq => ?_) hl
  · show H1[a]? = some (vp_cell _ _)
    rw [e, vp_cell_i, arrV_store]
    congr 2
    funext q
    by_cases hq : q = i.toNatClampNeg <;> simp [updV, upd, hq]
  · rcases List.mem_append.mp hq with hq | hq
    · exact hlo q hq
    · rw [List.mem_singleton.mp hq]; exact (hH.2.2.2 a _ hM).1
theorem r_cast (h : zOk K G y b nL R ret) {a n : Nat} {f : Nat → Int32} {i x : Int32} {M' : zM} (hd : decode b pc = .ok (.castore, 1)) (hM : M a = some (zI (G.2.1 1) n f)) (hin : vp_in i n) (hx2 : narrow .char (.int x) = .int x) (hM' : zu M a (zI (G.2.1 1) n (upd f i.toNatClampNeg x)) = M') (kk : zW K G nL Q cells slots M' N (pc + 1) lv st) : zW K G nL Q cells slots M N pc lv (.int x :: .int i :: .ref a :: st) := by
  subst hM'
  obtain ⟨p, l, e, R0, s, m, args, below, meth, c⟩ := K
  obtain ⟨hx, hb, hml, hown, hK, hR, hret, hlk, hnm⟩ := h
  intro H locs ls hH hlo hl
  dsimp only at hx hb hml hown hK hR hret hlk hnm ⊢
  refine W.cast hx hb (zArr hH hM) ((hK.1.2 1 _ rfl).1 n _) (fun q => by cases q) (by rw [arrV_size]; exact hin) rfl rfl hd fun H1 e z oq => ?_
  rw [hx2] at e
  refine kk H1 _ ls (hH.put hM z oq ?_) (fun q hq => ?_) hl
  · show H1[a]? = some (vp_cell _ _)
    rw [e, vp_cell_i, arrV_store]
    congr 2
    funext q
    by_cases hq : q = i.toNatClampNeg <;> simp [updV, upd, hq]
  · rcases List.mem_append.mp hq with hq | hq
    · exact hlo q hq
    · rw [List.mem_singleton.mp hq]; exact (hH.2.2.2 a _ hM).1
/-- an object of class ci goes into an array of its class -/
theorem r_aast (h : zOk K G y b nL R ret) {a n v ci n2 : Nat} {fs : List Value} {C : String} {T : u_T} {ty : Nat → FieldType} {f : Nat → Option Nat} {i : Int32} {M' : zM} (t : Nat) (hc : zCi ci C T n2 ty) (ht : (zTy G.2.1)[t]? = some (G.2.1 t, .object C)) (hd : decode b pc = .ok (.aastore, 1)) (hM : M a = some (zR (G.2.1 t) n f)) (hin : vp_in i n) (hv : M v = some (zO ci fs)) (hM' : zu M a (zR (G.2.1 t) n (va_up f i.toNatClampNeg (some v))) = M') (kk : zW K G nL Q cells slots M' N (pc + 1) lv st) : zW K G nL Q cells slots M N pc lv (.ref v :: .int i :: .ref a :: st) := by
  subst hM'
  obtain ⟨p, l, e, R0, s, m, args, below, meth, c⟩ := K
  obtain ⟨hx, hb, hml, hown, hK, hR, hret, hlk, hnm⟩ := h
  intro H locs ls hH hlo hl
  dsimp only at hx hb hml hown hK hR hret hlk hnm ⊢
  have hlt : i.toNatClampNeg < n := Nat.not_le.mp fun q => hin (Or.inr q)
  have h0 : ¬ i < 0 := fun q => hin (Or.inl q)
  obtain ⟨r', hr', cellV, g1, g2, g3, -⟩ := (hH.2.2.2 v _ hv).2
  have hcls := (hK.1.1 ci _ hc.1).2
  obtain ⟨kA, comp, k1, k2, k3, -⟩ := (hK.1.2 t _ ht).2
  have hcomp : comp = G.1.1 ci := Option.some.inj (k3.symm.trans hcls.1)
  subst hcomp
  obtain ⟨kC, hkC, -⟩ := hcls.2
  refine W.aast hx hb (zArrR hH hM) (fun q h => by cases h) (fun h => by cases h) k1 k2 rfl hkC ⟨h0, by rw [arrV_size]; exact hlt⟩ g1 (fun q h => by rw [g3] at h; cases h) (by rw [g2]; exact hkC) (by rw [g2]; exact va_assign hcls) rfl rfl hd fun H1 e z oq => ?_
  refine kk H1 _ ls (hH.put hM z oq ?_) (fun q hq => ?_) hl
  · show H1[a]? = some (vp_cell _ _)
    rw [e, vp_cell_q, arrV_store]
    congr 2
    funext q
    by_cases hq : q = i.toNatClampNeg
    · subst hq; simp [updV, va_up, va_rf]
    · simp [updV, va_up, hq]
  · rcases List.mem_append.mp hq with hq | hq
    · exact hlo q hq
    · rw [List.mem_singleton.mp hq]; exact (hH.2.2.2 a _ hM).1
/-! ends -/
theorem r_iret {Post : Option Value → zM → Prop} {N1 mc ms : Nat} {v : Int32} (h : zOk K G y b nL R (some .int)) (hd : decode b pc = .ok (.ireturn, 1)) (hN : N = N1) (hP : Post (some (.int v)) M) : zW K G nL (zQ K G N1 mc ms Post) mc ms M N pc lv [.int v] := by
  subst hN
  obtain ⟨p, l, e, R0, s, m, args, below, meth, c⟩ := K
  obtain ⟨hx, hb, hml, hown, hK, hR, hret, hlk, hnm⟩ := h
  intro H locs ls hH hlo hl
  dsimp only at hx hb hml hown hK hR hret hlk hnm ⊢
  exact W.iret hx hb hret (fun t ht _ => ⟨_, M, rfl, hP, by rw [ht]; exact hH⟩) hlo hd hlk
theorem r_zret {Post : Option Value → zM → Prop} {N1 mc ms : Nat} {v : Int32} (h : zOk K G y b nL R (some .boolean)) (hd : decode b pc = .ok (.ireturn, 1)) (hn : narrow .boolean (.int v) = .int v) (hN : N = N1) (hP : Post (some (.int v)) M) : zW K G nL (zQ K G N1 mc ms Post) mc ms M N pc lv [.int v] := by
  subst hN
  obtain ⟨p, l, e, R0, s, m, args, below, meth, c⟩ := K
  obtain ⟨hx, hb, hml, hown, hK, hR, hret, hlk, hnm⟩ := h
  intro H locs ls hH hlo hl
  dsimp only at hx hb hml hown hK hR hret hlk hnm ⊢
  exact W.zret hx hb hret hn (fun t ht _ => ⟨_, M, rfl, hP, by rw [ht]; exact hH⟩) hlo hd hlk
theorem r_vret {Post : Option Value → zM → Prop} {N1 mc ms : Nat} (h : zOk K G y b nL R none) (hd : decode b pc = .ok (.return_, 1)) (hN : N = N1) (hP : Post none M) : zW K G nL (zQ K G N1 mc ms Post) mc ms M N pc lv [] := by
  subst hN
  obtain ⟨p, l, e, R0, s, m, args, below, meth, c⟩ := K
  obtain ⟨hx, hb, hml, hown, hK, hR, hret, hlk, hnm⟩ := h
  intro H locs ls hH hlo hl
  dsimp only at hx hb hml hown hK hR hret hlk hnm ⊢
  exact W.vret hx hb hret (fun t ht _ => ⟨_, M, rfl, hP, by rw [ht]; exact hH⟩) hlo hd hlk
end ZM
end
section
section ZC
variable {K : zK} {G : zG} {y : MethodName} {b : ByteArray} {nL : Nat} {R : Room} {ret : Option FieldType} {Q : State → Prop} {cells slots : Nat} {M : zM} {N pc : Nat} {lv : List (Nat × Value)} {st : List Value}
/-- what the tables say of a method that is called -/
def zMi (x : MethodName) (bx : ByteArray) (n : Nat) (rx : Option FieldType) (np : Nat) : Prop := Cond.code x bx n rx ∈ lw_tbl ∧ Cond.initialized x.cls ∈ lw_tbl ∧ (x.cls ≠ "java/lang/invoke/MethodHandle" ∧ x.cls ≠ "java/lang/invoke/VarHandle") ∧ (parseMethodDescriptor x.desc).map (fun d => d.parameters.length) = some np
theorem zKw.blind {G : zG} {av : List Value} {M : zM} {N : Nat} : FrameBlind (va_Pc av (fun U => zKw G U ∧ zHd G M N U.heap)) := fun a U g mk q => ⟨q.1, zKw.warm (u := U) (U := U.calling g mk a) q.2.1 (State.WarmedH.refl U), q.2.2⟩
theorem zCode {s : State} (hT : zTb s) {x : MethodName} {bx : ByteArray} {n : Nat} {rx : Option FieldType} (hc : Cond.code x bx n rx ∈ lw_tbl) : ∀ w ∈ [Cond.code x bx n rx], ∀ (a' : Array Value) (U : State), s.WarmedH U.vm → w.before a' U = true := fun w hw a' U hW => by
  rw [List.mem_singleton.mp hw]
  exact hT.any hW hc rfl a'
theorem zCallB {s : State} (hT : zTb s) {own : String} {index : Nat} {x : MethodName} {bx : ByteArray} {n : Nat} {rx : Option FieldType} {np : Nat} (hm : zMi x bx n rx np) (hlk : Cond.methodLink own index x ∈ lw_tbl) (args : Array Value) {R : Room} {f w mc ms : Nat} (hR : f + 1 ≤ R.frames ∧ 8 + (n + 11) + w ≤ R.locals) : CallB R s args own index x bx n rx [.code x bx n rx] (zRm f w mc ms) mc ms np :=
  ⟨rfl, rfl, hR.1, hR.2, zCode hT hm.1, List.mem_cons_self, hT.use hm.1 rfl args, hT.use hm.2.1 rfl args, hm.2.2.1, fun sig h => by have h2 := hm.2.2.2; rw [h] at h2; exact (Option.some.inj h2).symm, hT.use hlk rfl args⟩
theorem zCallN {s : State} (hT : zTb s) {own host : String} {index : Nat} {x : MethodName} {bx : ByteArray} {n : Nat} {rx : Option FieldType} {np : Nat} (hm : zMi x bx n rx np) (hlk : Cond.methodLinkNest own index x host ∈ lw_tbl) (args : Array Value) {R : Room} {f w mc ms : Nat} (hR : f + 1 ≤ R.frames ∧ 8 + (n + 11) + w ≤ R.locals) : va_CN R s args own index x host bx n rx [.code x bx n rx] (zRm f w mc ms) mc ms np :=
  ⟨⟨rfl, rfl, hR.1, hR.2, zCode hT hm.1, List.mem_cons_self⟩, hT.use hm.1 rfl args, hT.use hm.2.1 rfl args, hm.2.2.1, fun sig h => by have h2 := hm.2.2.2; rw [h] at h2; exact (Option.some.inj h2).symm, hT.use hlk rfl args⟩
/-- behind a call -/
theorem zGo {K : zK} {G : zG} {nL : Nat} {Q : State → Prop} {cells slots mc ms : Nat} {M : zM} {N pc : Nat} {lv : List (Nat × Value)} {st rest : List Value} {Post : Option Value → zM → Prop} {ax : Array Value}
    (hr : ∀ (H : Heap) (locs : List Loc) (ls : Array Slot), zHd G M N H → lv_has ls nL lv → va_Run K.1 K.2.1 K.2.2.1 K.2.2.2.1 K.2.2.2.2.1 K.2.2.2.2.2.1 K.2.2.2.2.2.2.1 K.2.2.2.2.2.2.2.1 K.2.2.2.2.2.2.2.2.1 K.2.2.2.2.2.2.2.2.2 H locs cells slots mc ms (F0 K.2.2.2.2.2.1 pc ls st) rest (zQc G (N + mc) Post ax) (zF G))
    (kk : ∀ (r : Option Value) (M' : zM), Post r M' → zW K G nL Q (cells + mc) (slots + ms) M' (N + mc) (pc + 3) lv (r.toList ++ rest)) : zW K G nL Q cells slots M N pc lv st := by
  obtain ⟨p, l, e, R0, s, m, args, below, meth, c⟩ := K
  intro H locs ls hH hlo hl T hT X
  obtain ⟨v, st₀, t, T', L, h0, X', hL, e1, e2, ⟨r, M', hv, hp, hH'⟩, stp⟩ := hr H locs ls hH hl T hT X
  cases hv
  obtain ⟨t2, a1, b1⟩ := kk v M' hp t.heap (locs ++ L) ls hH' (fun q hq => (List.mem_append.mp hq).elim (hlo q) (hL q)) hl T' e1 X'
  exact ⟨t2, stp t2 a1, b1⟩
/-- an instance method of class C (not of another class' private ones) -/
theorem r_callV (h : zOk K G y b nL R ret) {x : MethodName} {bx : ByteArray} {n np : Nat} {rx : Option FieldType} {f w mc ms ci n2 index a : Nat} {fs : List Value} {T : u_T} {ty : Nat → FieldType} {As rest : List Value} {Post : Option Value → zM → Prop} (hm : zMi x bx n rx np) (hc : zCi ci x.cls T n2 ty) (hlk : Cond.methodLink y.cls index x ∈ lw_tbl) (hin : Cond.instanceMethod x ∈ lw_tbl) (hsel : Cond.selects x.cls x x ∈ lw_tbl) (hd : decode b pc = .ok (.invokevirtual index, 3)) (hC : zC K.2.1 G x bx n rx f w mc ms (.ref a :: As) M N Post) (hM : M a = some (zO ci fs)) (hnp : As.length = np) (hst : st = As.reverse ++ .ref a :: rest) (hR : f + 1 ≤ R.frames ∧ 8 + (n + 11) + w ≤ R.locals) (hW : (rest.map fun v => v.category).sum ≤ 8) (hf : cells + mc ≤ R.cells ∧ slots + ms ≤ R.slots)
    (kk : ∀ (r : Option Value) (M' : zM), Post r M' → zW K G nL Q (cells + mc) (slots + ms) M' (N + mc) (pc + 3) lv (r.toList ++ rest)) : zW K G nL Q cells slots M N pc lv st := by
  refine zGo (Post := Post) (ax := (Value.ref a :: As).toArray) (rest := rest) (fun H locs ls hH hl => ?_) kk
  clear kk
  obtain ⟨p, l, e, R0, s, m, args, below, meth, c⟩ := K
  obtain ⟨hx, hb, hml, hown, hK, hR0, hret, hlo, hnm⟩ := h
  dsimp only at hx hb hml hown hK hR0 hret hlo hnm hC ⊢
  subst hR0
  have hP : va_P G.1 vwCl [(a, zO ci fs)] H := fun k q hq => by
    cases k with
    | zero => cases hq; exact (hH.2.2.2 a _ hM).2
    | succ k => cases hq
  refine va_runV (Ts := []) ⟨hx, hb, hml, hown, fun w hw => by cases hw⟩ hC ⟨zCallB hK.2.1 hm hlk args hR, hK.2.1.use hin rfl args, hK.2.1.use hsel rfl args⟩ ⟨zKw.blind, va_recv hK.1 hP hc.1 (q0 := 0) rfl, fun U hU hW => ⟨rfl, hK.warm hW, by rw [hU]; exact hH⟩⟩ rfl hnp hl.1 hst ?_ hd hf
  exact lv_room hW
theorem r_callVN (h : zOk K G y b nL R ret) {x : MethodName} {host : String} {bx : ByteArray} {n np : Nat} {rx : Option FieldType} {f w mc ms ci n2 index a : Nat} {fs : List Value} {T : u_T} {ty : Nat → FieldType} {As rest : List Value} {Post : Option Value → zM → Prop} (hm : zMi x bx n rx np) (hc : zCi ci x.cls T n2 ty) (hlk : Cond.methodLinkNest y.cls index x host ∈ lw_tbl) (hin : Cond.instanceMethod x ∈ lw_tbl) (hsel : Cond.selects x.cls x x ∈ lw_tbl) (hd : decode b pc = .ok (.invokevirtual index, 3)) (hC : zC K.2.1 G x bx n rx f w mc ms (.ref a :: As) M N Post) (hM : M a = some (zO ci fs)) (hnp : As.length = np) (hst : st = As.reverse ++ .ref a :: rest) (hR : f + 1 ≤ R.frames ∧ 8 + (n + 11) + w ≤ R.locals) (hW : (rest.map fun v => v.category).sum ≤ 8) (hf : cells + mc ≤ R.cells ∧ slots + ms ≤ R.slots)
    (kk : ∀ (r : Option Value) (M' : zM), Post r M' → zW K G nL Q (cells + mc) (slots + ms) M' (N + mc) (pc + 3) lv (r.toList ++ rest)) : zW K G nL Q cells slots M N pc lv st := by
  refine zGo (Post := Post) (ax := (Value.ref a :: As).toArray) (rest := rest) (fun H locs ls hH hl => ?_) kk
  clear kk
  obtain ⟨p, l, e, R0, s, m, args, below, meth, c⟩ := K
  obtain ⟨hx, hb, hml, hown, hK, hR0, hret, hlo, hnm⟩ := h
  dsimp only at hx hb hml hown hK hR0 hret hlo hnm hC ⊢
  subst hR0
  have hP : va_P G.1 vwCl [(a, zO ci fs)] H := fun k q hq => by
    cases k with
    | zero => cases hq; exact (hH.2.2.2 a _ hM).2
    | succ k => cases hq
  refine va_runVN (Ts := []) ⟨hx, hb, hml, hown, fun w hw => by cases hw⟩ hC ⟨zCallN hK.2.1 hm hlk args hR, hK.2.1.use hin rfl args, hK.2.1.use hsel rfl args⟩ ⟨zKw.blind, va_recv hK.1 hP hc.1 (q0 := 0) rfl, fun U hU hW => ⟨rfl, hK.warm hW, by rw [hU]; exact hH⟩⟩ rfl hnp hl.1 hst ?_ hd hf
  exact lv_room hW
theorem r_callS (h : zOk K G y b nL R ret) {x : MethodName} {bx : ByteArray} {n np : Nat} {rx : Option FieldType} {f w mc ms index : Nat} {As rest : List Value} {Post : Option Value → zM → Prop} (hm : zMi x bx n rx np) (hlk : Cond.methodLink y.cls index x ∈ lw_tbl) (hstc : Cond.static x ∈ lw_tbl) (hd : decode b pc = .ok (.invokestatic index, 3)) (hC : zC K.2.1 G x bx n rx f w mc ms As M N Post) (hnp : As.length = np) (hst : st = As.reverse ++ rest) (hR : f + 1 ≤ R.frames ∧ 8 + (n + 11) + w ≤ R.locals) (hW : (rest.map fun v => v.category).sum ≤ 8) (hf : cells + mc ≤ R.cells ∧ slots + ms ≤ R.slots)
    (kk : ∀ (r : Option Value) (M' : zM), Post r M' → zW K G nL Q (cells + mc) (slots + ms) M' (N + mc) (pc + 3) lv (r.toList ++ rest)) : zW K G nL Q cells slots M N pc lv st := by
  refine zGo (Post := Post) (ax := As.toArray) (rest := rest) (fun H locs ls hH hl => ?_) kk
  clear kk
  obtain ⟨p, l, e, R0, s, m, args, below, meth, c⟩ := K
  obtain ⟨hx, hb, hml, hown, hK, hR0, hret, hlo, hnm⟩ := h
  dsimp only at hx hb hml hown hK hR0 hret hlo hnm hC ⊢
  subst hR0
  refine va_runS (Ts := []) ⟨hx, hb, hml, hown, fun w hw => by cases hw⟩ hC ⟨zCallB hK.2.1 hm hlk args hR, hK.2.1.use hstc rfl args⟩ ⟨zKw.blind, fun U hU hW => ⟨rfl, hK.warm hW, by rw [hU]; exact hH⟩⟩ rfl hnp hl.1 hst ?_ hd hf
  exact lv_room hW
theorem r_callSN (h : zOk K G y b nL R ret) {x : MethodName} {host : String} {bx : ByteArray} {n np : Nat} {rx : Option FieldType} {f w mc ms index : Nat} {As rest : List Value} {Post : Option Value → zM → Prop} (hm : zMi x bx n rx np) (hlk : Cond.methodLinkNest y.cls index x host ∈ lw_tbl) (hstc : Cond.static x ∈ lw_tbl) (hd : decode b pc = .ok (.invokestatic index, 3)) (hC : zC K.2.1 G x bx n rx f w mc ms As M N Post) (hnp : As.length = np) (hst : st = As.reverse ++ rest) (hR : f + 1 ≤ R.frames ∧ 8 + (n + 11) + w ≤ R.locals) (hW : (rest.map fun v => v.category).sum ≤ 8) (hf : cells + mc ≤ R.cells ∧ slots + ms ≤ R.slots)
    (kk : ∀ (r : Option Value) (M' : zM), Post r M' → zW K G nL Q (cells + mc) (slots + ms) M' (N + mc) (pc + 3) lv (r.toList ++ rest)) : zW K G nL Q cells slots M N pc lv st := by
  refine zGo (Post := Post) (ax := As.toArray) (rest := rest) (fun H locs ls hH hl => ?_) kk
  clear kk
  obtain ⟨p, l, e, R0, s, m, args, below, meth, c⟩ := K
  obtain ⟨hx, hb, hml, hown, hK, hR0, hret, hlo, hnm⟩ := h
  dsimp only at hx hb hml hown hK hR0 hret hlo hnm hC ⊢
  subst hR0
  refine va_runSN (Ts := []) ⟨hx, hb, hml, hown, fun w hw => by cases hw⟩ hC ⟨zCallN hK.2.1 hm hlk args hR, hK.2.1.use hstc rfl args, trivial⟩ ⟨zKw.blind, fun U hU hW => ⟨rfl, hK.warm hW, by rw [hU]; exact hH⟩⟩ rfl hnp hl.1 hst ?_ hd hf
  exact lv_room hW
theorem r_callI (h : zOk K G y b nL R ret) {x : MethodName} {bx : ByteArray} {n np : Nat} {f w mc ms index a : Nat} {As rest : List Value} {Post : Option Value → zM → Prop} (hm : zMi x bx n none np) (hlk : Cond.methodLink y.cls index x ∈ lw_tbl) (hin : Cond.instanceMethod x ∈ lw_tbl) (hnm1 : x.name = "<init>") (hd : decode b pc = .ok (.invokespecial index, 3)) (hC : zC K.2.1 G x bx n none f w mc ms (.ref a :: As) M N Post) (hnp : As.length = np) (hst : st = As.reverse ++ .ref a :: rest) (hR : f + 1 ≤ R.frames ∧ 8 + (n + 11) + w ≤ R.locals) (hW : (rest.map fun v => v.category).sum ≤ 8) (hf : cells + mc ≤ R.cells ∧ slots + ms ≤ R.slots)
    (kk : ∀ (r : Option Value) (M' : zM), Post r M' → zW K G nL Q (cells + mc) (slots + ms) M' (N + mc) (pc + 3) lv (r.toList ++ rest)) : zW K G nL Q cells slots M N pc lv st := by
  refine zGo (Post := Post) (ax := (Value.ref a :: As).toArray) (rest := rest) (fun H locs ls hH hl => ?_) kk
  clear kk
  obtain ⟨p, l, e, R0, s, m, args, below, meth, c⟩ := K
  obtain ⟨hx, hb, hml, hown, hK, hR0, hret, hlo, hnm⟩ := h
  dsimp only at hx hb hml hown hK hR0 hret hlo hnm hC ⊢
  subst hR0
  refine va_runI (Ts := []) ⟨hx, hb, hml, hown, fun w hw => by cases hw⟩ hC ⟨zCallB hK.2.1 hm hlk args hR, hnm1, hK.2.1.use hin rfl args⟩ ⟨zKw.blind, fun U hU hW => ⟨rfl, hK.warm hW, by rw [hU]; exact hH⟩⟩ rfl hnp hl.1 hst ?_ hd hf
  exact lv_room hW
theorem r_callIN (h : zOk K G y b nL R ret) {x : MethodName} {host : String} {bx : ByteArray} {n np : Nat} {f w mc ms index a : Nat} {As rest : List Value} {Post : Option Value → zM → Prop} (hm : zMi x bx n none np) (hlk : Cond.methodLinkNest y.cls index x host ∈ lw_tbl) (hin : Cond.instanceMethod x ∈ lw_tbl) (hnm1 : x.name = "<init>") (hd : decode b pc = .ok (.invokespecial index, 3)) (hC : zC K.2.1 G x bx n none f w mc ms (.ref a :: As) M N Post) (hnp : As.length = np) (hst : st = As.reverse ++ .ref a :: rest) (hR : f + 1 ≤ R.frames ∧ 8 + (n + 11) + w ≤ R.locals) (hW : (rest.map fun v => v.category).sum ≤ 8) (hf : cells + mc ≤ R.cells ∧ slots + ms ≤ R.slots)
    (kk : ∀ (r : Option Value) (M' : zM), Post r M' → zW K G nL Q (cells + mc) (slots + ms) M' (N + mc) (pc + 3) lv (r.toList ++ rest)) : zW K G nL Q cells slots M N pc lv st := by
  refine zGo (Post := Post) (ax := (Value.ref a :: As).toArray) (rest := rest) (fun H locs ls hH hl => ?_) kk
  clear kk
  obtain ⟨p, l, e, R0, s, m, args, below, meth, c⟩ := K
  obtain ⟨hx, hb, hml, hown, hK, hR0, hret, hlo, hnm⟩ := h
  dsimp only at hx hb hml hown hK hR0 hret hlo hnm hC ⊢
  subst hR0
  refine va_runIN (Ts := []) ⟨hx, hb, hml, hown, fun w hw => by cases hw⟩ hC ⟨zCallN hK.2.1 hm hlk args hR, hnm1, hK.2.1.use hin rfl args⟩ ⟨zKw.blind, fun U hU hW => ⟨rfl, hK.warm hW, by rw [hU]; exact hH⟩⟩ rfl hnp hl.1 hst ?_ hd hf
  exact lv_room hW
/-- a contract whose end is one value, one memory -/
def zP (v : Option Value) (M : zM) : Option Value → zM → Prop := fun r M' => r = v ∧ M' = M
theorem zP.rf {v : Option Value} {M : zM} : zP v M v M := ⟨rfl, rfl⟩
/-- the calls of such ones: nothing is new -/
theorem r_cV (h : zOk K G y b nL R ret) {x : MethodName} {bx : ByteArray} {n np : Nat} {rx : Option FieldType} {f w ci n2 index a : Nat} {fs : List Value} {T : u_T} {ty : Nat → FieldType} {As rest : List Value} {v : Option Value} {M' : zM} (hm : zMi x bx n rx np) (hc : zCi ci x.cls T n2 ty) (hlk : Cond.methodLink y.cls index x ∈ lw_tbl) (hin : Cond.instanceMethod x ∈ lw_tbl) (hsel : Cond.selects x.cls x x ∈ lw_tbl) (hd : decode b pc = .ok (.invokevirtual index, 3)) (hC : zC K.2.1 G x bx n rx f w 0 0 (.ref a :: As) M N (zP v M')) (hM : M a = some (zO ci fs)) (hnp : As.length = np) (hst : st = As.reverse ++ .ref a :: rest) (hR : f + 1 ≤ R.frames ∧ 8 + (n + 11) + w ≤ R.locals) (hW : (rest.map fun v => v.category).sum ≤ 8) (hf : cells ≤ R.cells ∧ slots ≤ R.slots)
    (kk : zW K G nL Q cells slots M' N (pc + 3) lv (v.toList ++ rest)) : zW K G nL Q cells slots M N pc lv st := r_callV h hm hc hlk hin hsel hd hC hM hnp hst hR hW hf (fun r M1 hP => by obtain ⟨rfl, rfl⟩ := hP; exact kk)
theorem r_cVN (h : zOk K G y b nL R ret) {x : MethodName} {host : String} {bx : ByteArray} {n np : Nat} {rx : Option FieldType} {f w ci n2 index a : Nat} {fs : List Value} {T : u_T} {ty : Nat → FieldType} {As rest : List Value} {v : Option Value} {M' : zM} (hm : zMi x bx n rx np) (hc : zCi ci x.cls T n2 ty) (hlk : Cond.methodLinkNest y.cls index x host ∈ lw_tbl) (hin : Cond.instanceMethod x ∈ lw_tbl) (hsel : Cond.selects x.cls x x ∈ lw_tbl) (hd : decode b pc = .ok (.invokevirtual index, 3)) (hC : zC K.2.1 G x bx n rx f w 0 0 (.ref a :: As) M N (zP v M')) (hM : M a = some (zO ci fs)) (hnp : As.length = np) (hst : st = As.reverse ++ .ref a :: rest) (hR : f + 1 ≤ R.frames ∧ 8 + (n + 11) + w ≤ R.locals) (hW : (rest.map fun v => v.category).sum ≤ 8) (hf : cells ≤ R.cells ∧ slots ≤ R.slots)
    (kk : zW K G nL Q cells slots M' N (pc + 3) lv (v.toList ++ rest)) : zW K G nL Q cells slots M N pc lv st := r_callVN h hm hc hlk hin hsel hd hC hM hnp hst hR hW hf (fun r M1 hP => by obtain ⟨rfl, rfl⟩ := hP; exact kk)
theorem r_cS (h : zOk K G y b nL R ret) {x : MethodName} {bx : ByteArray} {n np : Nat} {rx : Option FieldType} {f w index : Nat} {As rest : List Value} {v : Option Value} {M' : zM} (hm : zMi x bx n rx np) (hlk : Cond.methodLink y.cls index x ∈ lw_tbl) (hstc : Cond.static x ∈ lw_tbl) (hd : decode b pc = .ok (.invokestatic index, 3)) (hC : zC K.2.1 G x bx n rx f w 0 0 As M N (zP v M')) (hnp : As.length = np) (hst : st = As.reverse ++ rest) (hR : f + 1 ≤ R.frames ∧ 8 + (n + 11) + w ≤ R.locals) (hW : (rest.map fun v => v.category).sum ≤ 8) (hf : cells ≤ R.cells ∧ slots ≤ R.slots)
    (kk : zW K G nL Q cells slots M' N (pc + 3) lv (v.toList ++ rest)) : zW K G nL Q cells slots M N pc lv st := r_callS h hm hlk hstc hd hC hnp hst hR hW hf (fun r M1 hP => by obtain ⟨rfl, rfl⟩ := hP; exact kk)
theorem r_cSN (h : zOk K G y b nL R ret) {x : MethodName} {host : String} {bx : ByteArray} {n np : Nat} {rx : Option FieldType} {f w index : Nat} {As rest : List Value} {v : Option Value} {M' : zM} (hm : zMi x bx n rx np) (hlk : Cond.methodLinkNest y.cls index x host ∈ lw_tbl) (hstc : Cond.static x ∈ lw_tbl) (hd : decode b pc = .ok (.invokestatic index, 3)) (hC : zC K.2.1 G x bx n rx f w 0 0 As M N (zP v M')) (hnp : As.length = np) (hst : st = As.reverse ++ rest) (hR : f + 1 ≤ R.frames ∧ 8 + (n + 11) + w ≤ R.locals) (hW : (rest.map fun v => v.category).sum ≤ 8) (hf : cells ≤ R.cells ∧ slots ≤ R.slots)
    (kk : zW K G nL Q cells slots M' N (pc + 3) lv (v.toList ++ rest)) : zW K G nL Q cells slots M N pc lv st := r_callSN h hm hlk hstc hd hC hnp hst hR hW hf (fun r M1 hP => by obtain ⟨rfl, rfl⟩ := hP; exact kk)
theorem zW.to {M' : zM} {lv' : List (Nat × Value)} {st' : List Value} (kk : zW K G nL Q cells slots M' N pc lv' st') (hM : M = M') (hl : lv = lv') (hs : st = st') : zW K G nL Q cells slots M N pc lv st := by
  subst hM; subst hl; subst hs; exact kk
/-- fewer locals are known -/
theorem zW.forget {lv' : List (Nat × Value)} (kk : zW K G nL Q cells slots M N pc lv' st) (ks : List Nat) (hl : lv_pick lv ks = lv') : zW K G nL Q cells slots M N pc lv st := fun H locs ls hH hlo hl' => kk H locs ls hH hlo (lv_sub hl' ks hl)
end ZC
end
section
theorem in_L : Cond.initialized RL ∈ lw_tbl := List.mem_of_getElem? (i := 46) (by decide +kernel)
theorem in_X5 : Cond.initialized RX5 ∈ lw_tbl := List.mem_of_getElem? (i := 47) (by decide +kernel)
theorem in_X0 : Cond.initialized RX0 ∈ lw_tbl := List.mem_of_getElem? (i := 48) (by decide +kernel)
theorem in_X4 : Cond.initialized RX4 ∈ lw_tbl := List.mem_of_getElem? (i := 49) (by decide +kernel)
theorem in_X3 : Cond.initialized RX3 ∈ lw_tbl := List.mem_of_getElem? (i := 50) (by decide +kernel)
theorem in_X2 : Cond.initialized RX2 ∈ lw_tbl := List.mem_of_getElem? (i := 51) (by decide +kernel)
theorem in_X1 : Cond.initialized RX1 ∈ lw_tbl := List.mem_of_getElem? (i := 52) (by decide +kernel)
theorem in_X6 : Cond.initialized RX6 ∈ lw_tbl := List.mem_of_getElem? (i := 53) (by decide +kernel)
theorem in_java_lang_Math : Cond.initialized "java/lang/Math" ∈ lw_tbl := List.mem_of_getElem? (i := 54) (by decide +kernel)
theorem in_java_lang_System : Cond.initialized "java/lang/System" ∈ lw_tbl := List.mem_of_getElem? (i := 55) (by decide +kernel)
theorem in_J6 : Cond.initialized RJ6 ∈ lw_tbl := List.mem_of_getElem? (i := 56) (by decide +kernel)
theorem in_J7 : Cond.initialized RJ7 ∈ lw_tbl := List.mem_of_getElem? (i := 57) (by decide +kernel)
theorem kl_L_7 : Cond.classLink RL 7 RX5 ∈ lw_tbl := List.mem_of_getElem? (i := 58) (by decide +kernel)
theorem ia_X5 : Cond.instantiable RX5 8 ∈ lw_tbl := List.mem_of_getElem? (i := 59) (by decide +kernel)
theorem ml_L_9 : Cond.methodLink RL 9 yX5_init ∈ lw_tbl := List.mem_of_getElem? (i := 60) (by decide +kernel)
theorem im_X5_init : Cond.instanceMethod yX5_init ∈ lw_tbl := List.mem_of_getElem? (i := 61) (by decide +kernel)
theorem cd_X5_init : Cond.code yX5_init cX5_init 2 (none) ∈ lw_tbl := List.mem_of_getElem? (i := 62) (by decide +kernel)
theorem ml_X5_1 : Cond.methodLink RX5 1 ⟨"java/lang/Object", "<init>", "()V"⟩ ∈ lw_tbl := List.mem_of_getElem? (i := 63) (by decide +kernel)
theorem im_Object__init____V : Cond.instanceMethod ⟨"java/lang/Object", "<init>", "()V"⟩ ∈ lw_tbl := List.mem_of_getElem? (i := 64) (by decide +kernel)
theorem cd_Object__init____V : Cond.code ⟨"java/lang/Object", "<init>", "()V"⟩ object_method_1_code 1 (none) ∈ lw_tbl := List.mem_of_getElem? (i := 65) (by decide +kernel)
theorem kl_X5_7 : Cond.classLink RX5 7 RX0 ∈ lw_tbl := List.mem_of_getElem? (i := 66) (by decide +kernel)
theorem ia_X0 : Cond.instantiable RX0 15 ∈ lw_tbl := List.mem_of_getElem? (i := 67) (by decide +kernel)
theorem ml_X5_9 : Cond.methodLink RX5 9 yX0_init ∈ lw_tbl := List.mem_of_getElem? (i := 68) (by decide +kernel)
theorem im_X0_init : Cond.instanceMethod yX0_init ∈ lw_tbl := List.mem_of_getElem? (i := 69) (by decide +kernel)
theorem cd_X0_init : Cond.code yX0_init cX0_init 2 (none) ∈ lw_tbl := List.mem_of_getElem? (i := 70) (by decide +kernel)
theorem ml_X0_3 : Cond.methodLink RX0 3 ⟨"java/lang/Object", "<init>", "()V"⟩ ∈ lw_tbl := List.mem_of_getElem? (i := 71) (by decide +kernel)
theorem fn_X0_9 : Cond.fieldLinkNest RX0 9 "HarpOrders" "FIRST_VALUES" "[I" "HarpOrders" ∈ lw_tbl := List.mem_of_getElem? (i := 72) (by decide +kernel)
theorem ls_FIRST_VALUES : Cond.laysStatic "HarpOrders" "FIRST_VALUES" "[I" ∈ lw_tbl := List.mem_of_getElem? (i := 73) (by decide +kernel)
theorem ml_X0_13 : Cond.methodLink RX0 13 ⟨"[I", "clone", "()Ljava/lang/Object;"⟩ ∈ lw_tbl := List.mem_of_getElem? (i := 74) (by decide +kernel)
theorem sa_29 : Cond.sameMethod "[I" "java/lang/Object" "clone" "()Ljava/lang/Object;" ∈ lw_tbl := List.mem_of_getElem? (i := 75) (by decide +kernel)
theorem nt_Object_clone___Ljava_lang_Object_ : Cond.native ⟨"java/lang/Object", "clone", "()Ljava/lang/Object;"⟩ ∈ lw_tbl := List.mem_of_getElem? (i := 76) (by decide +kernel)
theorem im_Object_clone___Ljava_lang_Object_ : Cond.instanceMethod ⟨"java/lang/Object", "clone", "()Ljava/lang/Object;"⟩ ∈ lw_tbl := List.mem_of_getElem? (i := 77) (by decide +kernel)
theorem sx__I_clone___Ljava_lang_Object_ : Cond.selects "[I" ⟨"[I", "clone", "()Ljava/lang/Object;"⟩ ⟨"java/lang/Object", "clone", "()Ljava/lang/Object;"⟩ ∈ lw_tbl := List.mem_of_getElem? (i := 78) (by decide +kernel)
theorem ct_33 : Cond.castable "[I" "java/lang/Cloneable" ∈ lw_tbl := List.mem_of_getElem? (i := 79) (by decide +kernel)
theorem kl_X0_14 : Cond.classLink RX0 14 "[I" ∈ lw_tbl := List.mem_of_getElem? (i := 80) (by decide +kernel)
theorem kl_X0_30 : Cond.classLink RX0 30 "[[I" ∈ lw_tbl := List.mem_of_getElem? (i := 81) (by decide +kernel)
theorem ao_36 : Cond.arrayOver (.array .int) ∈ lw_tbl := List.mem_of_getElem? (i := 82) (by decide +kernel)
theorem kl_X0_53 : Cond.classLink RX0 53 RX3 ∈ lw_tbl := List.mem_of_getElem? (i := 83) (by decide +kernel)
theorem ao_38 : Cond.arrayOver (.object "HarpOrders$Parcel") ∈ lw_tbl := List.mem_of_getElem? (i := 84) (by decide +kernel)
theorem kl_X0_59 : Cond.classLink RX0 59 RX4 ∈ lw_tbl := List.mem_of_getElem? (i := 85) (by decide +kernel)
theorem ia_X4 : Cond.instantiable RX4 2 ∈ lw_tbl := List.mem_of_getElem? (i := 86) (by decide +kernel)
theorem mn_X0_61 : Cond.methodLinkNest RX0 61 yX4_init "HarpOrders" ∈ lw_tbl := List.mem_of_getElem? (i := 87) (by decide +kernel)
theorem im_X4_init : Cond.instanceMethod yX4_init ∈ lw_tbl := List.mem_of_getElem? (i := 88) (by decide +kernel)
theorem cd_X4_init : Cond.code yX4_init cX4_init 1 (none) ∈ lw_tbl := List.mem_of_getElem? (i := 89) (by decide +kernel)
theorem ml_X4_3 : Cond.methodLink RX4 3 ⟨"java/lang/Object", "<init>", "()V"⟩ ∈ lw_tbl := List.mem_of_getElem? (i := 90) (by decide +kernel)
theorem fl_X4_9 : Cond.fieldLink RX4 9 (TX4 0).1 (TX4 0).2.1 (TX4 0).2.2.1 ∈ lw_tbl := List.mem_of_getElem? (i := 91) (by decide +kernel)
theorem fl_X1_68 : Cond.fieldLink RX1 68 (TX4 0).1 (TX4 0).2.1 (TX4 0).2.2.1 ∈ lw_tbl := List.mem_of_getElem? (i := 92) (by decide +kernel)
theorem fl_X0_175 : Cond.fieldLink RX0 175 (TX4 0).1 (TX4 0).2.1 (TX4 0).2.2.1 ∈ lw_tbl := List.mem_of_getElem? (i := 93) (by decide +kernel)
theorem fl_X4_15 : Cond.fieldLink RX4 15 (TX4 1).1 (TX4 1).2.1 (TX4 1).2.2.1 ∈ lw_tbl := List.mem_of_getElem? (i := 94) (by decide +kernel)
theorem fl_X0_149 : Cond.fieldLink RX0 149 (TX4 1).1 (TX4 1).2.1 (TX4 1).2.2.1 ∈ lw_tbl := List.mem_of_getElem? (i := 95) (by decide +kernel)
theorem fl_X5_212 : Cond.fieldLink RX5 212 (TX4 1).1 (TX4 1).2.1 (TX4 1).2.2.1 ∈ lw_tbl := List.mem_of_getElem? (i := 96) (by decide +kernel)
theorem ac_56 : Cond.arrayClass .int ∈ lw_tbl := List.mem_of_getElem? (i := 102) (by decide +kernel)
theorem ia_X3 : Cond.instantiable RX3 4 ∈ lw_tbl := List.mem_of_getElem? (i := 103) (by decide +kernel)
theorem mn_X0_66 : Cond.methodLinkNest RX0 66 yX3_init "HarpOrders" ∈ lw_tbl := List.mem_of_getElem? (i := 104) (by decide +kernel)
theorem im_X3_init : Cond.instanceMethod yX3_init ∈ lw_tbl := List.mem_of_getElem? (i := 105) (by decide +kernel)
theorem cd_X3_init : Cond.code yX3_init cX3_init 1 (none) ∈ lw_tbl := List.mem_of_getElem? (i := 106) (by decide +kernel)
theorem ml_X3_3 : Cond.methodLink RX3 3 ⟨"java/lang/Object", "<init>", "()V"⟩ ∈ lw_tbl := List.mem_of_getElem? (i := 107) (by decide +kernel)
theorem kl_X3_9 : Cond.classLink RX3 9 "[[I" ∈ lw_tbl := List.mem_of_getElem? (i := 108) (by decide +kernel)
theorem fl_X3_11 : Cond.fieldLink RX3 11 (TX3 0).1 (TX3 0).2.1 (TX3 0).2.2.1 ∈ lw_tbl := List.mem_of_getElem? (i := 109) (by decide +kernel)
theorem fl_X0_94 : Cond.fieldLink RX0 94 (TX3 0).1 (TX3 0).2.1 (TX3 0).2.2.1 ∈ lw_tbl := List.mem_of_getElem? (i := 110) (by decide +kernel)
theorem fl_X3_20 : Cond.fieldLink RX3 20 (TX3 1).1 (TX3 1).2.1 (TX3 1).2.2.1 ∈ lw_tbl := List.mem_of_getElem? (i := 111) (by decide +kernel)
theorem fl_X0_123 : Cond.fieldLink RX0 123 (TX3 1).1 (TX3 1).2.1 (TX3 1).2.2.1 ∈ lw_tbl := List.mem_of_getElem? (i := 112) (by decide +kernel)
theorem fl_X5_172 : Cond.fieldLink RX5 172 (TX3 1).1 (TX3 1).2.1 (TX3 1).2.2.1 ∈ lw_tbl := List.mem_of_getElem? (i := 113) (by decide +kernel)
theorem fl_X3_24 : Cond.fieldLink RX3 24 (TX3 2).1 (TX3 2).2.1 (TX3 2).2.2.1 ∈ lw_tbl := List.mem_of_getElem? (i := 114) (by decide +kernel)
theorem fl_X0_124 : Cond.fieldLink RX0 124 (TX3 2).1 (TX3 2).2.1 (TX3 2).2.2.1 ∈ lw_tbl := List.mem_of_getElem? (i := 115) (by decide +kernel)
theorem fl_X5_178 : Cond.fieldLink RX5 178 (TX3 2).1 (TX3 2).2.1 (TX3 2).2.2.1 ∈ lw_tbl := List.mem_of_getElem? (i := 116) (by decide +kernel)
theorem fl_X3_27 : Cond.fieldLink RX3 27 (TX3 3).1 (TX3 3).2.1 (TX3 3).2.2.1 ∈ lw_tbl := List.mem_of_getElem? (i := 117) (by decide +kernel)
theorem fl_X0_127 : Cond.fieldLink RX0 127 (TX3 3).1 (TX3 3).2.1 (TX3 3).2.2.1 ∈ lw_tbl := List.mem_of_getElem? (i := 118) (by decide +kernel)
theorem fl_X5_181 : Cond.fieldLink RX5 181 (TX3 3).1 (TX3 3).2.1 (TX3 3).2.2.1 ∈ lw_tbl := List.mem_of_getElem? (i := 119) (by decide +kernel)
theorem fl_X0_18 : Cond.fieldLink RX0 18 (TX0 0).1 (TX0 0).2.1 (TX0 0).2.2.1 ∈ lw_tbl := List.mem_of_getElem? (i := 129) (by decide +kernel)
theorem fl_X1_45 : Cond.fieldLink RX1 45 (TX0 0).1 (TX0 0).2.1 (TX0 0).2.2.1 ∈ lw_tbl := List.mem_of_getElem? (i := 130) (by decide +kernel)
theorem fl_X5_55 : Cond.fieldLink RX5 55 (TX0 0).1 (TX0 0).2.1 (TX0 0).2.2.1 ∈ lw_tbl := List.mem_of_getElem? (i := 131) (by decide +kernel)
theorem fl_X0_71 : Cond.fieldLink RX0 71 (TX0 1).1 (TX0 1).2.1 (TX0 1).2.2.1 ∈ lw_tbl := List.mem_of_getElem? (i := 132) (by decide +kernel)
theorem fl_X5_140 : Cond.fieldLink RX5 140 (TX0 1).1 (TX0 1).2.1 (TX0 1).2.2.1 ∈ lw_tbl := List.mem_of_getElem? (i := 133) (by decide +kernel)
theorem fl_X0_23 : Cond.fieldLink RX0 23 (TX0 2).1 (TX0 2).2.1 (TX0 2).2.2.1 ∈ lw_tbl := List.mem_of_getElem? (i := 134) (by decide +kernel)
theorem fl_X5_146 : Cond.fieldLink RX5 146 (TX0 2).1 (TX0 2).2.1 (TX0 2).2.2.1 ∈ lw_tbl := List.mem_of_getElem? (i := 135) (by decide +kernel)
theorem fl_X0_27 : Cond.fieldLink RX0 27 (TX0 3).1 (TX0 3).2.1 (TX0 3).2.2.1 ∈ lw_tbl := List.mem_of_getElem? (i := 136) (by decide +kernel)
theorem fl_X5_66 : Cond.fieldLink RX5 66 (TX0 3).1 (TX0 3).2.1 (TX0 3).2.2.1 ∈ lw_tbl := List.mem_of_getElem? (i := 137) (by decide +kernel)
theorem fl_X0_32 : Cond.fieldLink RX0 32 (TX0 4).1 (TX0 4).2.1 (TX0 4).2.2.1 ∈ lw_tbl := List.mem_of_getElem? (i := 138) (by decide +kernel)
theorem fl_X5_85 : Cond.fieldLink RX5 85 (TX0 4).1 (TX0 4).2.1 (TX0 4).2.2.1 ∈ lw_tbl := List.mem_of_getElem? (i := 139) (by decide +kernel)
theorem fl_X0_35 : Cond.fieldLink RX0 35 (TX0 5).1 (TX0 5).2.1 (TX0 5).2.2.1 ∈ lw_tbl := List.mem_of_getElem? (i := 140) (by decide +kernel)
theorem fl_X1_35 : Cond.fieldLink RX1 35 (TX0 5).1 (TX0 5).2.1 (TX0 5).2.2.1 ∈ lw_tbl := List.mem_of_getElem? (i := 141) (by decide +kernel)
theorem fl_X5_89 : Cond.fieldLink RX5 89 (TX0 5).1 (TX0 5).2.1 (TX0 5).2.2.1 ∈ lw_tbl := List.mem_of_getElem? (i := 142) (by decide +kernel)
theorem fl_X0_38 : Cond.fieldLink RX0 38 (TX0 6).1 (TX0 6).2.1 (TX0 6).2.2.1 ∈ lw_tbl := List.mem_of_getElem? (i := 143) (by decide +kernel)
theorem fl_X5_109 : Cond.fieldLink RX5 109 (TX0 6).1 (TX0 6).2.1 (TX0 6).2.2.1 ∈ lw_tbl := List.mem_of_getElem? (i := 144) (by decide +kernel)
theorem fl_X0_41 : Cond.fieldLink RX0 41 (TX0 7).1 (TX0 7).2.1 (TX0 7).2.2.1 ∈ lw_tbl := List.mem_of_getElem? (i := 145) (by decide +kernel)
theorem fl_X5_152 : Cond.fieldLink RX5 152 (TX0 7).1 (TX0 7).2.1 (TX0 7).2.2.1 ∈ lw_tbl := List.mem_of_getElem? (i := 146) (by decide +kernel)
theorem fl_X0_44 : Cond.fieldLink RX0 44 (TX0 8).1 (TX0 8).2.1 (TX0 8).2.2.1 ∈ lw_tbl := List.mem_of_getElem? (i := 147) (by decide +kernel)
theorem fl_X5_155 : Cond.fieldLink RX5 155 (TX0 8).1 (TX0 8).2.1 (TX0 8).2.2.1 ∈ lw_tbl := List.mem_of_getElem? (i := 148) (by decide +kernel)
theorem fl_X0_47 : Cond.fieldLink RX0 47 (TX0 9).1 (TX0 9).2.1 (TX0 9).2.2.1 ∈ lw_tbl := List.mem_of_getElem? (i := 149) (by decide +kernel)
theorem fl_X5_158 : Cond.fieldLink RX5 158 (TX0 9).1 (TX0 9).2.1 (TX0 9).2.2.1 ∈ lw_tbl := List.mem_of_getElem? (i := 150) (by decide +kernel)
theorem fl_X0_50 : Cond.fieldLink RX0 50 (TX0 10).1 (TX0 10).2.1 (TX0 10).2.2.1 ∈ lw_tbl := List.mem_of_getElem? (i := 151) (by decide +kernel)
theorem fl_X5_161 : Cond.fieldLink RX5 161 (TX0 10).1 (TX0 10).2.1 (TX0 10).2.2.1 ∈ lw_tbl := List.mem_of_getElem? (i := 152) (by decide +kernel)
theorem fl_X0_55 : Cond.fieldLink RX0 55 (TX0 11).1 (TX0 11).2.1 (TX0 11).2.2.1 ∈ lw_tbl := List.mem_of_getElem? (i := 153) (by decide +kernel)
theorem fl_X5_164 : Cond.fieldLink RX5 164 (TX0 11).1 (TX0 11).2.1 (TX0 11).2.2.1 ∈ lw_tbl := List.mem_of_getElem? (i := 154) (by decide +kernel)
theorem fl_X0_78 : Cond.fieldLink RX0 78 (TX0 12).1 (TX0 12).2.1 (TX0 12).2.2.1 ∈ lw_tbl := List.mem_of_getElem? (i := 155) (by decide +kernel)
theorem fl_X5_132 : Cond.fieldLink RX5 132 (TX0 12).1 (TX0 12).2.1 (TX0 12).2.2.1 ∈ lw_tbl := List.mem_of_getElem? (i := 156) (by decide +kernel)
theorem fl_X0_81 : Cond.fieldLink RX0 81 (TX0 13).1 (TX0 13).2.1 (TX0 13).2.2.1 ∈ lw_tbl := List.mem_of_getElem? (i := 157) (by decide +kernel)
theorem fl_X5_185 : Cond.fieldLink RX5 185 (TX0 13).1 (TX0 13).2.1 (TX0 13).2.2.1 ∈ lw_tbl := List.mem_of_getElem? (i := 158) (by decide +kernel)
theorem fl_X0_62 : Cond.fieldLink RX0 62 (TX0 14).1 (TX0 14).2.1 (TX0 14).2.2.1 ∈ lw_tbl := List.mem_of_getElem? (i := 159) (by decide +kernel)
theorem ao_145 : Cond.arrayOver (.object "HarpOrders$Club") ∈ lw_tbl := List.mem_of_getElem? (i := 191) (by decide +kernel)
theorem kl_X5_30 : Cond.classLink RX5 30 RX2 ∈ lw_tbl := List.mem_of_getElem? (i := 192) (by decide +kernel)
theorem ia_X2 : Cond.instantiable RX2 2 ∈ lw_tbl := List.mem_of_getElem? (i := 193) (by decide +kernel)
theorem mn_X5_32 : Cond.methodLinkNest RX5 32 yX2_init "HarpOrders" ∈ lw_tbl := List.mem_of_getElem? (i := 194) (by decide +kernel)
theorem im_X2_init : Cond.instanceMethod yX2_init ∈ lw_tbl := List.mem_of_getElem? (i := 195) (by decide +kernel)
theorem cd_X2_init : Cond.code yX2_init cX2_init 1 (none) ∈ lw_tbl := List.mem_of_getElem? (i := 196) (by decide +kernel)
theorem ml_X2_3 : Cond.methodLink RX2 3 ⟨"java/lang/Object", "<init>", "()V"⟩ ∈ lw_tbl := List.mem_of_getElem? (i := 197) (by decide +kernel)
theorem fl_X2_11 : Cond.fieldLink RX2 11 (TX2 0).1 (TX2 0).2.1 (TX2 0).2.2.1 ∈ lw_tbl := List.mem_of_getElem? (i := 198) (by decide +kernel)
theorem fl_X2_21 : Cond.fieldLink RX2 21 (TX2 1).1 (TX2 1).2.1 (TX2 1).2.2.1 ∈ lw_tbl := List.mem_of_getElem? (i := 199) (by decide +kernel)
theorem fl_X5_105 : Cond.fieldLink RX5 105 (TX2 1).1 (TX2 1).2.1 (TX2 1).2.2.1 ∈ lw_tbl := List.mem_of_getElem? (i := 200) (by decide +kernel)
theorem ac_160 : Cond.arrayClass .boolean ∈ lw_tbl := List.mem_of_getElem? (i := 206) (by decide +kernel)
theorem ac_161 : Cond.arrayClass .char ∈ lw_tbl := List.mem_of_getElem? (i := 207) (by decide +kernel)
theorem kl_X5_37 : Cond.classLink RX5 37 RX1 ∈ lw_tbl := List.mem_of_getElem? (i := 208) (by decide +kernel)
theorem ia_X1 : Cond.instantiable RX1 6 ∈ lw_tbl := List.mem_of_getElem? (i := 209) (by decide +kernel)
theorem mn_X5_39 : Cond.methodLinkNest RX5 39 yX1_init "HarpOrders" ∈ lw_tbl := List.mem_of_getElem? (i := 210) (by decide +kernel)
theorem im_X1_init : Cond.instanceMethod yX1_init ∈ lw_tbl := List.mem_of_getElem? (i := 211) (by decide +kernel)
theorem cd_X1_init : Cond.code yX1_init cX1_init 1 (none) ∈ lw_tbl := List.mem_of_getElem? (i := 212) (by decide +kernel)
theorem ml_X1_3 : Cond.methodLink RX1 3 ⟨"java/lang/Object", "<init>", "()V"⟩ ∈ lw_tbl := List.mem_of_getElem? (i := 213) (by decide +kernel)
theorem kl_X1_18 : Cond.classLink RX1 18 RX4 ∈ lw_tbl := List.mem_of_getElem? (i := 214) (by decide +kernel)
theorem mn_X1_20 : Cond.methodLinkNest RX1 20 yX4_init "HarpOrders" ∈ lw_tbl := List.mem_of_getElem? (i := 215) (by decide +kernel)
theorem fl_X1_9 : Cond.fieldLink RX1 9 (TX1 0).1 (TX1 0).2.1 (TX1 0).2.2.1 ∈ lw_tbl := List.mem_of_getElem? (i := 216) (by decide +kernel)
theorem fl_X5_217 : Cond.fieldLink RX5 217 (TX1 0).1 (TX1 0).2.1 (TX1 0).2.2.1 ∈ lw_tbl := List.mem_of_getElem? (i := 217) (by decide +kernel)
theorem fl_X1_15 : Cond.fieldLink RX1 15 (TX1 1).1 (TX1 1).2.1 (TX1 1).2.2.1 ∈ lw_tbl := List.mem_of_getElem? (i := 218) (by decide +kernel)
theorem fl_X1_51 : Cond.fieldLink RX1 51 (TX1 2).1 (TX1 2).2.1 (TX1 2).2.2.1 ∈ lw_tbl := List.mem_of_getElem? (i := 219) (by decide +kernel)
theorem fl_X5_122 : Cond.fieldLink RX5 122 (TX1 2).1 (TX1 2).2.1 (TX1 2).2.2.1 ∈ lw_tbl := List.mem_of_getElem? (i := 220) (by decide +kernel)
theorem fl_X1_55 : Cond.fieldLink RX1 55 (TX1 3).1 (TX1 3).2.1 (TX1 3).2.2.1 ∈ lw_tbl := List.mem_of_getElem? (i := 221) (by decide +kernel)
theorem fl_X0_120 : Cond.fieldLink RX0 120 (TX1 3).1 (TX1 3).2.1 (TX1 3).2.2.1 ∈ lw_tbl := List.mem_of_getElem? (i := 222) (by decide +kernel)
theorem fl_X5_194 : Cond.fieldLink RX5 194 (TX1 3).1 (TX1 3).2.1 (TX1 3).2.2.1 ∈ lw_tbl := List.mem_of_getElem? (i := 223) (by decide +kernel)
theorem fl_X1_65 : Cond.fieldLink RX1 65 (TX1 4).1 (TX1 4).2.1 (TX1 4).2.2.1 ∈ lw_tbl := List.mem_of_getElem? (i := 224) (by decide +kernel)
theorem fl_X5_195 : Cond.fieldLink RX5 195 (TX1 4).1 (TX1 4).2.1 (TX1 4).2.2.1 ∈ lw_tbl := List.mem_of_getElem? (i := 225) (by decide +kernel)
theorem fl_X1_21 : Cond.fieldLink RX1 21 (TX1 5).1 (TX1 5).2.1 (TX1 5).2.2.1 ∈ lw_tbl := List.mem_of_getElem? (i := 226) (by decide +kernel)
theorem fl_X0_148 : Cond.fieldLink RX0 148 (TX1 5).1 (TX1 5).2.1 (TX1 5).2.2.1 ∈ lw_tbl := List.mem_of_getElem? (i := 227) (by decide +kernel)
theorem fl_X5_208 : Cond.fieldLink RX5 208 (TX1 5).1 (TX1 5).2.1 (TX1 5).2.2.1 ∈ lw_tbl := List.mem_of_getElem? (i := 228) (by decide +kernel)
theorem fl_X5_10 : Cond.fieldLink RX5 10 (TX5 0).1 (TX5 0).2.1 (TX5 0).2.2.1 ∈ lw_tbl := List.mem_of_getElem? (i := 242) (by decide +kernel)
theorem fl_X5_16 : Cond.fieldLink RX5 16 (TX5 1).1 (TX5 1).2.1 (TX5 1).2.2.1 ∈ lw_tbl := List.mem_of_getElem? (i := 243) (by decide +kernel)
theorem fl_X5_19 : Cond.fieldLink RX5 19 (TX5 2).1 (TX5 2).2.1 (TX5 2).2.2.1 ∈ lw_tbl := List.mem_of_getElem? (i := 244) (by decide +kernel)
theorem fl_X5_191 : Cond.fieldLink RX5 191 (TX5 3).1 (TX5 3).2.1 (TX5 3).2.2.1 ∈ lw_tbl := List.mem_of_getElem? (i := 245) (by decide +kernel)
theorem fl_X5_23 : Cond.fieldLink RX5 23 (TX5 4).1 (TX5 4).2.1 (TX5 4).2.2.1 ∈ lw_tbl := List.mem_of_getElem? (i := 246) (by decide +kernel)
theorem fl_X5_26 : Cond.fieldLink RX5 26 (TX5 5).1 (TX5 5).2.1 (TX5 5).2.2.1 ∈ lw_tbl := List.mem_of_getElem? (i := 247) (by decide +kernel)
theorem fl_X5_33 : Cond.fieldLink RX5 33 (TX5 6).1 (TX5 6).2.1 (TX5 6).2.2.1 ∈ lw_tbl := List.mem_of_getElem? (i := 248) (by decide +kernel)
theorem fl_X5_40 : Cond.fieldLink RX5 40 (TX5 7).1 (TX5 7).2.1 (TX5 7).2.2.1 ∈ lw_tbl := List.mem_of_getElem? (i := 249) (by decide +kernel)
theorem ml_L_13 : Cond.methodLink RL 13 yX5_set ∈ lw_tbl := List.mem_of_getElem? (i := 267) (by decide +kernel)
theorem im_X5_set : Cond.instanceMethod yX5_set ∈ lw_tbl := List.mem_of_getElem? (i := 268) (by decide +kernel)
theorem se_X5_set : Cond.selects RX5 yX5_set yX5_set ∈ lw_tbl := List.mem_of_getElem? (i := 269) (by decide +kernel)
theorem cd_X5_set : Cond.code yX5_set cX5_set 4 (some .int) ∈ lw_tbl := List.mem_of_getElem? (i := 270) (by decide +kernel)
theorem fl_X5_44 : Cond.fieldLink RX5 44 "HarpOrders" "LEAST_VALUES" "[I" ∈ lw_tbl := List.mem_of_getElem? (i := 271) (by decide +kernel)
theorem ls_LEAST_VALUES : Cond.laysStatic "HarpOrders" "LEAST_VALUES" "[I" ∈ lw_tbl := List.mem_of_getElem? (i := 272) (by decide +kernel)
theorem ck_X5_48 : Cond.constant RX5 48 (-100002) ∈ lw_tbl := List.mem_of_getElem? (i := 273) (by decide +kernel)
theorem fl_X5_49 : Cond.fieldLink RX5 49 "HarpOrders" "MOST_VALUES" "[I" ∈ lw_tbl := List.mem_of_getElem? (i := 274) (by decide +kernel)
theorem ls_MOST_VALUES : Cond.laysStatic "HarpOrders" "MOST_VALUES" "[I" ∈ lw_tbl := List.mem_of_getElem? (i := 275) (by decide +kernel)
theorem ml_X5_52 : Cond.methodLink RX5 52 yX5_remember ∈ lw_tbl := List.mem_of_getElem? (i := 276) (by decide +kernel)
theorem im_X5_remember : Cond.instanceMethod yX5_remember ∈ lw_tbl := List.mem_of_getElem? (i := 278) (by decide +kernel)
theorem cd_X5_remember : Cond.code yX5_remember cX5_remember 3 (none) ∈ lw_tbl := List.mem_of_getElem? (i := 279) (by decide +kernel)
theorem ml_X5_227 : Cond.methodLink RX5 227 yX0_copyFrom ∈ lw_tbl := List.mem_of_getElem? (i := 280) (by decide +kernel)
theorem im_X0_copyFrom : Cond.instanceMethod yX0_copyFrom ∈ lw_tbl := List.mem_of_getElem? (i := 281) (by decide +kernel)
theorem se_X0_copyFrom : Cond.selects RX0 yX0_copyFrom yX0_copyFrom ∈ lw_tbl := List.mem_of_getElem? (i := 282) (by decide +kernel)
theorem cd_X0_copyFrom : Cond.code yX0_copyFrom cX0_copyFrom 3 (none) ∈ lw_tbl := List.mem_of_getElem? (i := 283) (by decide +kernel)
theorem mn_X0_67 : Cond.methodLinkNest RX0 67 yX5_copyRow "HarpOrders" ∈ lw_tbl := List.mem_of_getElem? (i := 284) (by decide +kernel)
theorem sm_X5_copyRow : Cond.static yX5_copyRow ∈ lw_tbl := List.mem_of_getElem? (i := 285) (by decide +kernel)
theorem cd_X5_copyRow : Cond.code yX5_copyRow cX5_copyRow 2 (none) ∈ lw_tbl := List.mem_of_getElem? (i := 286) (by decide +kernel)
theorem ml_X5_245 : Cond.methodLink RX5 245 ⟨"java/lang/Math", "min", "(II)I"⟩ ∈ lw_tbl := List.mem_of_getElem? (i := 287) (by decide +kernel)
theorem sm_Math_min__II_I : Cond.static ⟨"java/lang/Math", "min", "(II)I"⟩ ∈ lw_tbl := List.mem_of_getElem? (i := 288) (by decide +kernel)
theorem cd_Math_min__II_I : Cond.code ⟨"java/lang/Math", "min", "(II)I"⟩ cJ9_min_7cf53 2 (some .int) ∈ lw_tbl := List.mem_of_getElem? (i := 289) (by decide +kernel)
theorem ml_X5_248 : Cond.methodLink RX5 248 ⟨"java/lang/System", "arraycopy", "(Ljava/lang/Object;ILjava/lang/Object;II)V"⟩ ∈ lw_tbl := List.mem_of_getElem? (i := 290) (by decide +kernel)
theorem sm_System_arraycopy__Ljava_lang_Object_ILjava_lang_Object_II_V : Cond.static ⟨"java/lang/System", "arraycopy", "(Ljava/lang/Object;ILjava/lang/Object;II)V"⟩ ∈ lw_tbl := List.mem_of_getElem? (i := 291) (by decide +kernel)
theorem nt_System_arraycopy__Ljava_lang_Object_ILjava_lang_Object_II_V : Cond.native ⟨"java/lang/System", "arraycopy", "(Ljava/lang/Object;ILjava/lang/Object;II)V"⟩ ∈ lw_tbl := List.mem_of_getElem? (i := 292) (by decide +kernel)
theorem mn_X0_74 : Cond.methodLinkNest RX0 74 yX5_copyTable "HarpOrders" ∈ lw_tbl := List.mem_of_getElem? (i := 293) (by decide +kernel)
theorem sm_X5_copyTable : Cond.static yX5_copyTable ∈ lw_tbl := List.mem_of_getElem? (i := 294) (by decide +kernel)
theorem cd_X5_copyTable : Cond.code yX5_copyTable cX5_copyTable 3 (none) ∈ lw_tbl := List.mem_of_getElem? (i := 295) (by decide +kernel)
theorem ml_X5_254 : Cond.methodLink RX5 254 yX5_copyRow ∈ lw_tbl := List.mem_of_getElem? (i := 296) (by decide +kernel)
theorem ml_X0_84 : Cond.methodLink RX0 84 yX3_copyFrom ∈ lw_tbl := List.mem_of_getElem? (i := 297) (by decide +kernel)
theorem im_X3_copyFrom : Cond.instanceMethod yX3_copyFrom ∈ lw_tbl := List.mem_of_getElem? (i := 298) (by decide +kernel)
theorem se_X3_copyFrom : Cond.selects RX3 yX3_copyFrom yX3_copyFrom ∈ lw_tbl := List.mem_of_getElem? (i := 299) (by decide +kernel)
theorem cd_X3_copyFrom : Cond.code yX3_copyFrom cX3_copyFrom 2 (none) ∈ lw_tbl := List.mem_of_getElem? (i := 300) (by decide +kernel)
theorem mn_X3_16 : Cond.methodLinkNest RX3 16 yX5_copyTable "HarpOrders" ∈ lw_tbl := List.mem_of_getElem? (i := 301) (by decide +kernel)
theorem ml_L_18 : Cond.methodLink RL 18 yX5_snap ∈ lw_tbl := List.mem_of_getElem? (i := 302) (by decide +kernel)
theorem im_X5_snap : Cond.instanceMethod yX5_snap ∈ lw_tbl := List.mem_of_getElem? (i := 303) (by decide +kernel)
theorem se_X5_snap : Cond.selects RX5 yX5_snap yX5_snap ∈ lw_tbl := List.mem_of_getElem? (i := 304) (by decide +kernel)
theorem cd_X5_snap : Cond.code yX5_snap cX5_snap 3 (some .int) ∈ lw_tbl := List.mem_of_getElem? (i := 305) (by decide +kernel)
theorem ml_X5_58 : Cond.methodLink RX5 58 yX5_isMember ∈ lw_tbl := List.mem_of_getElem? (i := 306) (by decide +kernel)
theorem sm_X5_isMember : Cond.static yX5_isMember ∈ lw_tbl := List.mem_of_getElem? (i := 307) (by decide +kernel)
theorem cd_X5_isMember : Cond.code yX5_isMember cX5_isMember 1 (some .boolean) ∈ lw_tbl := List.mem_of_getElem? (i := 308) (by decide +kernel)
theorem ml_X5_62 : Cond.methodLink RX5 62 yX5_isGauge ∈ lw_tbl := List.mem_of_getElem? (i := 309) (by decide +kernel)
theorem sm_X5_isGauge : Cond.static yX5_isGauge ∈ lw_tbl := List.mem_of_getElem? (i := 310) (by decide +kernel)
theorem cd_X5_isGauge : Cond.code yX5_isGauge cX5_isGauge 1 (some .boolean) ∈ lw_tbl := List.mem_of_getElem? (i := 311) (by decide +kernel)
theorem ck_X5_65 : Cond.constant RX5 65 (-100001) ∈ lw_tbl := List.mem_of_getElem? (i := 312) (by decide +kernel)
theorem ml_X5_69 : Cond.methodLink RX5 69 yX5_isIn ∈ lw_tbl := List.mem_of_getElem? (i := 313) (by decide +kernel)
theorem sm_X5_isIn : Cond.static yX5_isIn ∈ lw_tbl := List.mem_of_getElem? (i := 314) (by decide +kernel)
theorem cd_X5_isIn : Cond.code yX5_isIn cX5_isIn 2 (some .boolean) ∈ lw_tbl := List.mem_of_getElem? (i := 315) (by decide +kernel)
theorem ck_X5_73 : Cond.constant RX5 73 (-100005) ∈ lw_tbl := List.mem_of_getElem? (i := 316) (by decide +kernel)
theorem ml_X5_74 : Cond.methodLink RX5 74 yJ6_bitCount_0f7a4 ∈ lw_tbl := List.mem_of_getElem? (i := 317) (by decide +kernel)
theorem sm_J6_bitCount_0f7a4 : Cond.static yJ6_bitCount_0f7a4 ∈ lw_tbl := List.mem_of_getElem? (i := 318) (by decide +kernel)
theorem cd_J6_bitCount_0f7a4 : Cond.code yJ6_bitCount_0f7a4 cJ6_bitCount_0f7a4 1 (some .int) ∈ lw_tbl := List.mem_of_getElem? (i := 319) (by decide +kernel)
theorem ck_J6_265 : Cond.constant RJ6 265 (1431655765) ∈ lw_tbl := List.mem_of_getElem? (i := 320) (by decide +kernel)
theorem ck_J6_266 : Cond.constant RJ6 266 (858993459) ∈ lw_tbl := List.mem_of_getElem? (i := 321) (by decide +kernel)
theorem ck_J6_267 : Cond.constant RJ6 267 (252645135) ∈ lw_tbl := List.mem_of_getElem? (i := 322) (by decide +kernel)
theorem ml_L_22 : Cond.methodLink RL 22 yX5_fit ∈ lw_tbl := List.mem_of_getElem? (i := 323) (by decide +kernel)
theorem im_X5_fit : Cond.instanceMethod yX5_fit ∈ lw_tbl := List.mem_of_getElem? (i := 324) (by decide +kernel)
theorem se_X5_fit : Cond.selects RX5 yX5_fit yX5_fit ∈ lw_tbl := List.mem_of_getElem? (i := 325) (by decide +kernel)
theorem cd_X5_fit : Cond.code yX5_fit cX5_fit 4 (some .int) ∈ lw_tbl := List.mem_of_getElem? (i := 326) (by decide +kernel)
theorem ml_X5_80 : Cond.methodLink RX5 80 ⟨"java/lang/Math", "abs", "(I)I"⟩ ∈ lw_tbl := List.mem_of_getElem? (i := 327) (by decide +kernel)
theorem sm_Math_abs__I_I : Cond.static ⟨"java/lang/Math", "abs", "(I)I"⟩ ∈ lw_tbl := List.mem_of_getElem? (i := 328) (by decide +kernel)
theorem cd_Math_abs__I_I : Cond.code ⟨"java/lang/Math", "abs", "(I)I"⟩ cJ9_abs_0f7a4 1 (some .int) ∈ lw_tbl := List.mem_of_getElem? (i := 329) (by decide +kernel)
theorem ml_L_27 : Cond.methodLink RL 27 yX5_want ∈ lw_tbl := List.mem_of_getElem? (i := 330) (by decide +kernel)
theorem im_X5_want : Cond.instanceMethod yX5_want ∈ lw_tbl := List.mem_of_getElem? (i := 331) (by decide +kernel)
theorem se_X5_want : Cond.selects RX5 yX5_want yX5_want ∈ lw_tbl := List.mem_of_getElem? (i := 332) (by decide +kernel)
theorem cd_X5_want : Cond.code yX5_want cX5_want 4 (some .int) ∈ lw_tbl := List.mem_of_getElem? (i := 333) (by decide +kernel)
theorem ml_X5_92 : Cond.methodLink RX5 92 yX5_costOf ∈ lw_tbl := List.mem_of_getElem? (i := 334) (by decide +kernel)
theorem im_X5_costOf : Cond.instanceMethod yX5_costOf ∈ lw_tbl := List.mem_of_getElem? (i := 336) (by decide +kernel)
theorem cd_X5_costOf : Cond.code yX5_costOf cX5_costOf 2 (some .int) ∈ lw_tbl := List.mem_of_getElem? (i := 337) (by decide +kernel)
theorem ml_X5_118 : Cond.methodLink RX5 118 yX1_gather ∈ lw_tbl := List.mem_of_getElem? (i := 338) (by decide +kernel)
theorem im_X1_gather : Cond.instanceMethod yX1_gather ∈ lw_tbl := List.mem_of_getElem? (i := 339) (by decide +kernel)
theorem se_X1_gather : Cond.selects RX1 yX1_gather yX1_gather ∈ lw_tbl := List.mem_of_getElem? (i := 340) (by decide +kernel)
theorem cd_X1_gather : Cond.code yX1_gather cX1_gather 4 (none) ∈ lw_tbl := List.mem_of_getElem? (i := 341) (by decide +kernel)
theorem ml_X1_25 : Cond.methodLink RX1 25 yJ7_fill_53178 ∈ lw_tbl := List.mem_of_getElem? (i := 342) (by decide +kernel)
theorem sm_J7_fill_53178 : Cond.static yJ7_fill_53178 ∈ lw_tbl := List.mem_of_getElem? (i := 343) (by decide +kernel)
theorem cd_J7_fill_53178 : Cond.code yJ7_fill_53178 cJ7_fill_53178 4 (none) ∈ lw_tbl := List.mem_of_getElem? (i := 344) (by decide +kernel)
theorem mn_X1_31 : Cond.methodLinkNest RX1 31 yX5_isIn "HarpOrders" ∈ lw_tbl := List.mem_of_getElem? (i := 345) (by decide +kernel)
theorem ml_X1_41 : Cond.methodLink RX1 41 yX1_addRow ∈ lw_tbl := List.mem_of_getElem? (i := 346) (by decide +kernel)
theorem im_X1_addRow : Cond.instanceMethod yX1_addRow ∈ lw_tbl := List.mem_of_getElem? (i := 348) (by decide +kernel)
theorem cd_X1_addRow : Cond.code yX1_addRow cX1_addRow 3 (none) ∈ lw_tbl := List.mem_of_getElem? (i := 349) (by decide +kernel)
theorem ml_X1_48 : Cond.methodLink RX1 48 yX1_reckon ∈ lw_tbl := List.mem_of_getElem? (i := 350) (by decide +kernel)
theorem im_X1_reckon : Cond.instanceMethod yX1_reckon ∈ lw_tbl := List.mem_of_getElem? (i := 351) (by decide +kernel)
theorem se_X1_reckon : Cond.selects RX1 yX1_reckon yX1_reckon ∈ lw_tbl := List.mem_of_getElem? (i := 352) (by decide +kernel)
theorem cd_X1_reckon : Cond.code yX1_reckon cX1_reckon 5 (none) ∈ lw_tbl := List.mem_of_getElem? (i := 353) (by decide +kernel)
theorem mn_X1_58 : Cond.methodLinkNest RX1 58 yX5_priceOf "HarpOrders" ∈ lw_tbl := List.mem_of_getElem? (i := 354) (by decide +kernel)
theorem sm_X5_priceOf : Cond.static yX5_priceOf ∈ lw_tbl := List.mem_of_getElem? (i := 355) (by decide +kernel)
theorem cd_X5_priceOf : Cond.code yX5_priceOf cX5_priceOf 1 (some .int) ∈ lw_tbl := List.mem_of_getElem? (i := 356) (by decide +kernel)
theorem mn_X1_62 : Cond.methodLinkNest RX1 62 yX5_weightOf "HarpOrders" ∈ lw_tbl := List.mem_of_getElem? (i := 357) (by decide +kernel)
theorem sm_X5_weightOf : Cond.static yX5_weightOf ∈ lw_tbl := List.mem_of_getElem? (i := 358) (by decide +kernel)
theorem cd_X5_weightOf : Cond.code yX5_weightOf cX5_weightOf 1 (some .int) ∈ lw_tbl := List.mem_of_getElem? (i := 359) (by decide +kernel)
theorem ml_X5_125 : Cond.methodLink RX5 125 yX1_cost ∈ lw_tbl := List.mem_of_getElem? (i := 360) (by decide +kernel)
theorem im_X1_cost : Cond.instanceMethod yX1_cost ∈ lw_tbl := List.mem_of_getElem? (i := 361) (by decide +kernel)
theorem se_X1_cost : Cond.selects RX1 yX1_cost yX1_cost ∈ lw_tbl := List.mem_of_getElem? (i := 362) (by decide +kernel)
theorem cd_X1_cost : Cond.code yX1_cost cX1_cost 1 (some .int) ∈ lw_tbl := List.mem_of_getElem? (i := 363) (by decide +kernel)
theorem ml_L_31 : Cond.methodLink RL 31 yX5_read ∈ lw_tbl := List.mem_of_getElem? (i := 364) (by decide +kernel)
theorem im_X5_read : Cond.instanceMethod yX5_read ∈ lw_tbl := List.mem_of_getElem? (i := 365) (by decide +kernel)
theorem se_X5_read : Cond.selects RX5 yX5_read yX5_read ∈ lw_tbl := List.mem_of_getElem? (i := 366) (by decide +kernel)
theorem cd_X5_read : Cond.code yX5_read cX5_read 1 (some .int) ∈ lw_tbl := List.mem_of_getElem? (i := 367) (by decide +kernel)
theorem ml_X5_95 : Cond.methodLink RX5 95 yX2_faultIndex ∈ lw_tbl := List.mem_of_getElem? (i := 368) (by decide +kernel)
theorem im_X2_faultIndex : Cond.instanceMethod yX2_faultIndex ∈ lw_tbl := List.mem_of_getElem? (i := 369) (by decide +kernel)
theorem se_X2_faultIndex : Cond.selects RX2 yX2_faultIndex yX2_faultIndex ∈ lw_tbl := List.mem_of_getElem? (i := 370) (by decide +kernel)
theorem cd_X2_faultIndex : Cond.code yX2_faultIndex cX2_faultIndex 3 (some .int) ∈ lw_tbl := List.mem_of_getElem? (i := 371) (by decide +kernel)
theorem ml_X2_25 : Cond.methodLink RX2 25 yX2_placeAfter ∈ lw_tbl := List.mem_of_getElem? (i := 372) (by decide +kernel)
theorem sm_X2_placeAfter : Cond.static yX2_placeAfter ∈ lw_tbl := List.mem_of_getElem? (i := 373) (by decide +kernel)
theorem cd_X2_placeAfter : Cond.code yX2_placeAfter cX2_placeAfter 2 (some .int) ∈ lw_tbl := List.mem_of_getElem? (i := 374) (by decide +kernel)
theorem ml_X2_30 : Cond.methodLink RX2 30 yX2_placeAfterFirstDigit ∈ lw_tbl := List.mem_of_getElem? (i := 375) (by decide +kernel)
theorem sm_X2_placeAfterFirstDigit : Cond.static yX2_placeAfterFirstDigit ∈ lw_tbl := List.mem_of_getElem? (i := 376) (by decide +kernel)
theorem cd_X2_placeAfterFirstDigit : Cond.code yX2_placeAfterFirstDigit cX2_placeAfterFirstDigit 1 (some .int) ∈ lw_tbl := List.mem_of_getElem? (i := 377) (by decide +kernel)
theorem ml_X2_34 : Cond.methodLink RX2 34 yX2_placeAfterWant ∈ lw_tbl := List.mem_of_getElem? (i := 378) (by decide +kernel)
theorem sm_X2_placeAfterWant : Cond.static yX2_placeAfterWant ∈ lw_tbl := List.mem_of_getElem? (i := 379) (by decide +kernel)
theorem cd_X2_placeAfterWant : Cond.code yX2_placeAfterWant cX2_placeAfterWant 1 (some .int) ∈ lw_tbl := List.mem_of_getElem? (i := 380) (by decide +kernel)
theorem ck_X2_29 : Cond.constant RX2 29 (-100006) ∈ lw_tbl := List.mem_of_getElem? (i := 381) (by decide +kernel)
theorem ck_X5_99 : Cond.constant RX5 99 (-100006) ∈ lw_tbl := List.mem_of_getElem? (i := 382) (by decide +kernel)
theorem ck_X5_100 : Cond.constant RX5 100 (-100003) ∈ lw_tbl := List.mem_of_getElem? (i := 383) (by decide +kernel)
theorem ml_X5_101 : Cond.methodLink RX5 101 yX2_addWants ∈ lw_tbl := List.mem_of_getElem? (i := 384) (by decide +kernel)
theorem im_X2_addWants : Cond.instanceMethod yX2_addWants ∈ lw_tbl := List.mem_of_getElem? (i := 385) (by decide +kernel)
theorem se_X2_addWants : Cond.selects RX2 yX2_addWants yX2_addWants ∈ lw_tbl := List.mem_of_getElem? (i := 386) (by decide +kernel)
theorem cd_X2_addWants : Cond.code yX2_addWants cX2_addWants 8 (none) ∈ lw_tbl := List.mem_of_getElem? (i := 387) (by decide +kernel)
theorem ml_X2_37 : Cond.methodLink RX2 37 yX0_addWant ∈ lw_tbl := List.mem_of_getElem? (i := 388) (by decide +kernel)
theorem im_X0_addWant : Cond.instanceMethod yX0_addWant ∈ lw_tbl := List.mem_of_getElem? (i := 389) (by decide +kernel)
theorem se_X0_addWant : Cond.selects RX0 yX0_addWant yX0_addWant ∈ lw_tbl := List.mem_of_getElem? (i := 390) (by decide +kernel)
theorem cd_X0_addWant : Cond.code yX0_addWant cX0_addWant 4 (none) ∈ lw_tbl := List.mem_of_getElem? (i := 391) (by decide +kernel)
theorem mn_X0_101 : Cond.methodLinkNest RX0 101 yX5_isMember "HarpOrders" ∈ lw_tbl := List.mem_of_getElem? (i := 392) (by decide +kernel)
theorem mn_X0_105 : Cond.methodLinkNest RX0 105 yX5_isGauge "HarpOrders" ∈ lw_tbl := List.mem_of_getElem? (i := 393) (by decide +kernel)
theorem ml_X0_108 : Cond.methodLink RX0 108 ⟨"java/lang/Math", "min", "(II)I"⟩ ∈ lw_tbl := List.mem_of_getElem? (i := 394) (by decide +kernel)
theorem ml_L_36 : Cond.methodLink RL 36 yX5_pay ∈ lw_tbl := List.mem_of_getElem? (i := 395) (by decide +kernel)
theorem im_X5_pay : Cond.instanceMethod yX5_pay ∈ lw_tbl := List.mem_of_getElem? (i := 396) (by decide +kernel)
theorem se_X5_pay : Cond.selects RX5 yX5_pay yX5_pay ∈ lw_tbl := List.mem_of_getElem? (i := 397) (by decide +kernel)
theorem cd_X5_pay : Cond.code yX5_pay cX5_pay 3 (some .int) ∈ lw_tbl := List.mem_of_getElem? (i := 398) (by decide +kernel)
theorem ml_L_40 : Cond.methodLink RL 40 yX5_give ∈ lw_tbl := List.mem_of_getElem? (i := 399) (by decide +kernel)
theorem im_X5_give : Cond.instanceMethod yX5_give ∈ lw_tbl := List.mem_of_getElem? (i := 400) (by decide +kernel)
theorem se_X5_give : Cond.selects RX5 yX5_give yX5_give ∈ lw_tbl := List.mem_of_getElem? (i := 401) (by decide +kernel)
theorem cd_X5_give : Cond.code yX5_give cX5_give 5 (some .int) ∈ lw_tbl := List.mem_of_getElem? (i := 402) (by decide +kernel)
theorem ml_X5_112 : Cond.methodLink RX5 112 yX5_priceOf ∈ lw_tbl := List.mem_of_getElem? (i := 403) (by decide +kernel)
theorem ml_L_45 : Cond.methodLink RL 45 yX5_send ∈ lw_tbl := List.mem_of_getElem? (i := 404) (by decide +kernel)
theorem im_X5_send : Cond.instanceMethod yX5_send ∈ lw_tbl := List.mem_of_getElem? (i := 405) (by decide +kernel)
theorem se_X5_send : Cond.selects RX5 yX5_send yX5_send ∈ lw_tbl := List.mem_of_getElem? (i := 406) (by decide +kernel)
theorem cd_X5_send : Cond.code yX5_send cX5_send 2 (some .int) ∈ lw_tbl := List.mem_of_getElem? (i := 407) (by decide +kernel)
theorem ml_X5_115 : Cond.methodLink RX5 115 yX5_isSet ∈ lw_tbl := List.mem_of_getElem? (i := 408) (by decide +kernel)
theorem sm_X5_isSet : Cond.static yX5_isSet ∈ lw_tbl := List.mem_of_getElem? (i := 409) (by decide +kernel)
theorem cd_X5_isSet : Cond.code yX5_isSet cX5_isSet 1 (some .boolean) ∈ lw_tbl := List.mem_of_getElem? (i := 410) (by decide +kernel)
theorem ml_X5_128 : Cond.methodLink RX5 128 yX5_sumOf ∈ lw_tbl := List.mem_of_getElem? (i := 411) (by decide +kernel)
theorem sm_X5_sumOf : Cond.static yX5_sumOf ∈ lw_tbl := List.mem_of_getElem? (i := 412) (by decide +kernel)
theorem cd_X5_sumOf : Cond.code yX5_sumOf cX5_sumOf 6 (some .int) ∈ lw_tbl := List.mem_of_getElem? (i := 413) (by decide +kernel)
theorem ck_X5_135 : Cond.constant RX5 135 (-100004) ∈ lw_tbl := List.mem_of_getElem? (i := 414) (by decide +kernel)
theorem ml_X5_136 : Cond.methodLink RX5 136 yX0_dispatch ∈ lw_tbl := List.mem_of_getElem? (i := 415) (by decide +kernel)
theorem im_X0_dispatch : Cond.instanceMethod yX0_dispatch ∈ lw_tbl := List.mem_of_getElem? (i := 416) (by decide +kernel)
theorem se_X0_dispatch : Cond.selects RX0 yX0_dispatch yX0_dispatch ∈ lw_tbl := List.mem_of_getElem? (i := 417) (by decide +kernel)
theorem cd_X0_dispatch : Cond.code yX0_dispatch cX0_dispatch 5 (none) ∈ lw_tbl := List.mem_of_getElem? (i := 418) (by decide +kernel)
theorem ml_X0_114 : Cond.methodLink RX0 114 yX1_sharePost ∈ lw_tbl := List.mem_of_getElem? (i := 419) (by decide +kernel)
theorem im_X1_sharePost : Cond.instanceMethod yX1_sharePost ∈ lw_tbl := List.mem_of_getElem? (i := 420) (by decide +kernel)
theorem se_X1_sharePost : Cond.selects RX1 yX1_sharePost yX1_sharePost ∈ lw_tbl := List.mem_of_getElem? (i := 421) (by decide +kernel)
theorem cd_X1_sharePost : Cond.code yX1_sharePost cX1_sharePost 4 (none) ∈ lw_tbl := List.mem_of_getElem? (i := 422) (by decide +kernel)
theorem ml_X1_71 : Cond.methodLink RX1 71 yX1_weightOfAll ∈ lw_tbl := List.mem_of_getElem? (i := 423) (by decide +kernel)
theorem sm_X1_weightOfAll : Cond.static yX1_weightOfAll ∈ lw_tbl := List.mem_of_getElem? (i := 424) (by decide +kernel)
theorem cd_X1_weightOfAll : Cond.code yX1_weightOfAll cX1_weightOfAll 3 (some .int) ∈ lw_tbl := List.mem_of_getElem? (i := 425) (by decide +kernel)
theorem ml_X1_75 : Cond.methodLink RX1 75 yX4_divide ∈ lw_tbl := List.mem_of_getElem? (i := 426) (by decide +kernel)
theorem im_X4_divide : Cond.instanceMethod yX4_divide ∈ lw_tbl := List.mem_of_getElem? (i := 427) (by decide +kernel)
theorem se_X4_divide : Cond.selects RX4 yX4_divide yX4_divide ∈ lw_tbl := List.mem_of_getElem? (i := 428) (by decide +kernel)
theorem cd_X4_divide : Cond.code yX4_divide cX4_divide 5 (none) ∈ lw_tbl := List.mem_of_getElem? (i := 429) (by decide +kernel)
theorem ml_X4_18 : Cond.methodLink RX4 18 yJ7_fill_53178 ∈ lw_tbl := List.mem_of_getElem? (i := 430) (by decide +kernel)
theorem mn_X4_24 : Cond.methodLinkNest RX4 24 yX5_sumOf "HarpOrders" ∈ lw_tbl := List.mem_of_getElem? (i := 431) (by decide +kernel)
theorem ml_X0_131 : Cond.methodLink RX0 131 yJ7_fill_53178 ∈ lw_tbl := List.mem_of_getElem? (i := 432) (by decide +kernel)
theorem mn_X0_137 : Cond.methodLinkNest RX0 137 yX5_isIn "HarpOrders" ∈ lw_tbl := List.mem_of_getElem? (i := 433) (by decide +kernel)
theorem ml_X0_141 : Cond.methodLink RX0 141 yX0_charge ∈ lw_tbl := List.mem_of_getElem? (i := 434) (by decide +kernel)
theorem im_X0_charge : Cond.instanceMethod yX0_charge ∈ lw_tbl := List.mem_of_getElem? (i := 436) (by decide +kernel)
theorem cd_X0_charge : Cond.code yX0_charge cX0_charge 5 (none) ∈ lw_tbl := List.mem_of_getElem? (i := 437) (by decide +kernel)
theorem ml_X0_145 : Cond.methodLink RX0 145 yX1_ownCost ∈ lw_tbl := List.mem_of_getElem? (i := 438) (by decide +kernel)
theorem im_X1_ownCost : Cond.instanceMethod yX1_ownCost ∈ lw_tbl := List.mem_of_getElem? (i := 439) (by decide +kernel)
theorem se_X1_ownCost : Cond.selects RX1 yX1_ownCost yX1_ownCost ∈ lw_tbl := List.mem_of_getElem? (i := 440) (by decide +kernel)
theorem cd_X1_ownCost : Cond.code yX1_ownCost cX1_ownCost 4 (some .int) ∈ lw_tbl := List.mem_of_getElem? (i := 441) (by decide +kernel)
theorem ml_L_50 : Cond.methodLink RL 50 yX5_pass ∈ lw_tbl := List.mem_of_getElem? (i := 442) (by decide +kernel)
theorem im_X5_pass : Cond.instanceMethod yX5_pass ∈ lw_tbl := List.mem_of_getElem? (i := 443) (by decide +kernel)
theorem se_X5_pass : Cond.selects RX5 yX5_pass yX5_pass ∈ lw_tbl := List.mem_of_getElem? (i := 444) (by decide +kernel)
theorem cd_X5_pass : Cond.code yX5_pass cX5_pass 4 (some .int) ∈ lw_tbl := List.mem_of_getElem? (i := 445) (by decide +kernel)
theorem ml_X5_143 : Cond.methodLink RX5 143 yX0_beginDay ∈ lw_tbl := List.mem_of_getElem? (i := 446) (by decide +kernel)
theorem im_X0_beginDay : Cond.instanceMethod yX0_beginDay ∈ lw_tbl := List.mem_of_getElem? (i := 447) (by decide +kernel)
theorem se_X0_beginDay : Cond.selects RX0 yX0_beginDay yX0_beginDay ∈ lw_tbl := List.mem_of_getElem? (i := 448) (by decide +kernel)
theorem cd_X0_beginDay : Cond.code yX0_beginDay cX0_beginDay 5 (some .int) ∈ lw_tbl := List.mem_of_getElem? (i := 449) (by decide +kernel)
theorem ml_X0_152 : Cond.methodLink RX0 152 yX0_comesHome ∈ lw_tbl := List.mem_of_getElem? (i := 450) (by decide +kernel)
theorem im_X0_comesHome : Cond.instanceMethod yX0_comesHome ∈ lw_tbl := List.mem_of_getElem? (i := 452) (by decide +kernel)
theorem cd_X0_comesHome : Cond.code yX0_comesHome cX0_comesHome 2 (some .boolean) ∈ lw_tbl := List.mem_of_getElem? (i := 453) (by decide +kernel)
theorem ml_X0_159 : Cond.methodLink RX0 159 yX0_draw ∈ lw_tbl := List.mem_of_getElem? (i := 454) (by decide +kernel)
theorem im_X0_draw : Cond.instanceMethod yX0_draw ∈ lw_tbl := List.mem_of_getElem? (i := 456) (by decide +kernel)
theorem cd_X0_draw : Cond.code yX0_draw cX0_draw 2 (some .int) ∈ lw_tbl := List.mem_of_getElem? (i := 457) (by decide +kernel)
theorem cl_X0_192 : Cond.constantLong RX0 192 (1103515245) ∈ lw_tbl := List.mem_of_getElem? (i := 458) (by decide +kernel)
theorem cl_X0_194 : Cond.constantLong RX0 194 (12345) ∈ lw_tbl := List.mem_of_getElem? (i := 459) (by decide +kernel)
theorem cl_X0_196 : Cond.constantLong RX0 196 (2147483648) ∈ lw_tbl := List.mem_of_getElem? (i := 460) (by decide +kernel)
theorem ck_X0_198 : Cond.constant RX0 198 (65536) ∈ lw_tbl := List.mem_of_getElem? (i := 461) (by decide +kernel)
theorem ml_X0_162 : Cond.methodLink RX0 162 yX0_openAtCustoms ∈ lw_tbl := List.mem_of_getElem? (i := 462) (by decide +kernel)
theorem im_X0_openAtCustoms : Cond.instanceMethod yX0_openAtCustoms ∈ lw_tbl := List.mem_of_getElem? (i := 464) (by decide +kernel)
theorem cd_X0_openAtCustoms : Cond.code yX0_openAtCustoms cX0_openAtCustoms 3 (none) ∈ lw_tbl := List.mem_of_getElem? (i := 465) (by decide +kernel)
theorem ml_X0_165 : Cond.methodLink RX0 165 yX0_payDuty ∈ lw_tbl := List.mem_of_getElem? (i := 466) (by decide +kernel)
theorem im_X0_payDuty : Cond.instanceMethod yX0_payDuty ∈ lw_tbl := List.mem_of_getElem? (i := 468) (by decide +kernel)
theorem cd_X0_payDuty : Cond.code yX0_payDuty cX0_payDuty 3 (none) ∈ lw_tbl := List.mem_of_getElem? (i := 469) (by decide +kernel)
theorem ml_X0_178 : Cond.methodLink RX0 178 yX0_fullPriceOf ∈ lw_tbl := List.mem_of_getElem? (i := 470) (by decide +kernel)
theorem sm_X0_fullPriceOf : Cond.static yX0_fullPriceOf ∈ lw_tbl := List.mem_of_getElem? (i := 471) (by decide +kernel)
theorem cd_X0_fullPriceOf : Cond.code yX0_fullPriceOf cX0_fullPriceOf 3 (some .int) ∈ lw_tbl := List.mem_of_getElem? (i := 472) (by decide +kernel)
theorem mn_X0_189 : Cond.methodLinkNest RX0 189 yX5_priceOf "HarpOrders" ∈ lw_tbl := List.mem_of_getElem? (i := 473) (by decide +kernel)
theorem mn_X0_181 : Cond.methodLinkNest RX0 181 yX5_dutyOn "HarpOrders" ∈ lw_tbl := List.mem_of_getElem? (i := 474) (by decide +kernel)
theorem sm_X5_dutyOn : Cond.static yX5_dutyOn ∈ lw_tbl := List.mem_of_getElem? (i := 475) (by decide +kernel)
theorem cd_X5_dutyOn : Cond.code yX5_dutyOn cX5_dutyOn 2 (some .int) ∈ lw_tbl := List.mem_of_getElem? (i := 476) (by decide +kernel)
theorem ml_X5_241 : Cond.methodLink RX5 241 ⟨"java/lang/Math", "max", "(II)I"⟩ ∈ lw_tbl := List.mem_of_getElem? (i := 477) (by decide +kernel)
theorem sm_Math_max__II_I : Cond.static ⟨"java/lang/Math", "max", "(II)I"⟩ ∈ lw_tbl := List.mem_of_getElem? (i := 478) (by decide +kernel)
theorem cd_Math_max__II_I : Cond.code ⟨"java/lang/Math", "max", "(II)I"⟩ cJ9_max_7cf53 2 (some .int) ∈ lw_tbl := List.mem_of_getElem? (i := 479) (by decide +kernel)
theorem ml_X0_185 : Cond.methodLink RX0 185 yX4_divide ∈ lw_tbl := List.mem_of_getElem? (i := 480) (by decide +kernel)
theorem ml_X0_168 : Cond.methodLink RX0 168 yX3_pieces ∈ lw_tbl := List.mem_of_getElem? (i := 481) (by decide +kernel)
theorem im_X3_pieces : Cond.instanceMethod yX3_pieces ∈ lw_tbl := List.mem_of_getElem? (i := 482) (by decide +kernel)
theorem se_X3_pieces : Cond.selects RX3 yX3_pieces yX3_pieces ∈ lw_tbl := List.mem_of_getElem? (i := 483) (by decide +kernel)
theorem cd_X3_pieces : Cond.code yX3_pieces cX3_pieces 3 (some .int) ∈ lw_tbl := List.mem_of_getElem? (i := 484) (by decide +kernel)
theorem mn_X3_31 : Cond.methodLinkNest RX3 31 yX5_sumOf "HarpOrders" ∈ lw_tbl := List.mem_of_getElem? (i := 485) (by decide +kernel)
theorem ml_X0_172 : Cond.methodLink RX0 172 yX3_loseString ∈ lw_tbl := List.mem_of_getElem? (i := 486) (by decide +kernel)
theorem im_X3_loseString : Cond.instanceMethod yX3_loseString ∈ lw_tbl := List.mem_of_getElem? (i := 487) (by decide +kernel)
theorem se_X3_loseString : Cond.selects RX3 yX3_loseString yX3_loseString ∈ lw_tbl := List.mem_of_getElem? (i := 488) (by decide +kernel)
theorem cd_X3_loseString : Cond.code yX3_loseString cX3_loseString 5 (some .int) ∈ lw_tbl := List.mem_of_getElem? (i := 489) (by decide +kernel)
theorem ml_X0_156 : Cond.methodLink RX0 156 yX0_unpack ∈ lw_tbl := List.mem_of_getElem? (i := 490) (by decide +kernel)
theorem im_X0_unpack : Cond.instanceMethod yX0_unpack ∈ lw_tbl := List.mem_of_getElem? (i := 492) (by decide +kernel)
theorem cd_X0_unpack : Cond.code yX0_unpack cX0_unpack 5 (none) ∈ lw_tbl := List.mem_of_getElem? (i := 493) (by decide +kernel)
theorem ml_L_54 : Cond.methodLink RL 54 yX5_shuffle ∈ lw_tbl := List.mem_of_getElem? (i := 494) (by decide +kernel)
theorem im_X5_shuffle : Cond.instanceMethod yX5_shuffle ∈ lw_tbl := List.mem_of_getElem? (i := 495) (by decide +kernel)
theorem se_X5_shuffle : Cond.selects RX5 yX5_shuffle yX5_shuffle ∈ lw_tbl := List.mem_of_getElem? (i := 496) (by decide +kernel)
theorem cd_X5_shuffle : Cond.code yX5_shuffle cX5_shuffle 3 (some .int) ∈ lw_tbl := List.mem_of_getElem? (i := 497) (by decide +kernel)
theorem ml_L_58 : Cond.methodLink RL 58 yX5_member ∈ lw_tbl := List.mem_of_getElem? (i := 498) (by decide +kernel)
theorem im_X5_member : Cond.instanceMethod yX5_member ∈ lw_tbl := List.mem_of_getElem? (i := 499) (by decide +kernel)
theorem se_X5_member : Cond.selects RX5 yX5_member yX5_member ∈ lw_tbl := List.mem_of_getElem? (i := 500) (by decide +kernel)
theorem cd_X5_member : Cond.code yX5_member cX5_member 3 (some .int) ∈ lw_tbl := List.mem_of_getElem? (i := 501) (by decide +kernel)
theorem ml_X5_149 : Cond.methodLink RX5 149 yX0_underwayOf ∈ lw_tbl := List.mem_of_getElem? (i := 502) (by decide +kernel)
theorem im_X0_underwayOf : Cond.instanceMethod yX0_underwayOf ∈ lw_tbl := List.mem_of_getElem? (i := 503) (by decide +kernel)
theorem se_X0_underwayOf : Cond.selects RX0 yX0_underwayOf yX0_underwayOf ∈ lw_tbl := List.mem_of_getElem? (i := 504) (by decide +kernel)
theorem cd_X0_underwayOf : Cond.code yX0_underwayOf cX0_underwayOf 4 (some .int) ∈ lw_tbl := List.mem_of_getElem? (i := 505) (by decide +kernel)
theorem mn_X0_97 : Cond.methodLinkNest RX0 97 yX5_sumOf "HarpOrders" ∈ lw_tbl := List.mem_of_getElem? (i := 506) (by decide +kernel)
theorem ml_L_62 : Cond.methodLink RL 62 yX5_strings ∈ lw_tbl := List.mem_of_getElem? (i := 507) (by decide +kernel)
theorem im_X5_strings : Cond.instanceMethod yX5_strings ∈ lw_tbl := List.mem_of_getElem? (i := 508) (by decide +kernel)
theorem se_X5_strings : Cond.selects RX5 yX5_strings yX5_strings ∈ lw_tbl := List.mem_of_getElem? (i := 509) (by decide +kernel)
theorem cd_X5_strings : Cond.code yX5_strings cX5_strings 4 (some .int) ∈ lw_tbl := List.mem_of_getElem? (i := 510) (by decide +kernel)
theorem ml_L_67 : Cond.methodLink RL 67 yX5_parcel ∈ lw_tbl := List.mem_of_getElem? (i := 511) (by decide +kernel)
theorem im_X5_parcel : Cond.instanceMethod yX5_parcel ∈ lw_tbl := List.mem_of_getElem? (i := 512) (by decide +kernel)
theorem se_X5_parcel : Cond.selects RX5 yX5_parcel yX5_parcel ∈ lw_tbl := List.mem_of_getElem? (i := 513) (by decide +kernel)
theorem cd_X5_parcel : Cond.code yX5_parcel cX5_parcel 4 (some .int) ∈ lw_tbl := List.mem_of_getElem? (i := 514) (by decide +kernel)
theorem ml_X5_168 : Cond.methodLink RX5 168 yX3_pieces ∈ lw_tbl := List.mem_of_getElem? (i := 515) (by decide +kernel)
theorem ml_X5_175 : Cond.methodLink RX5 175 yX3_owners ∈ lw_tbl := List.mem_of_getElem? (i := 516) (by decide +kernel)
theorem im_X3_owners : Cond.instanceMethod yX3_owners ∈ lw_tbl := List.mem_of_getElem? (i := 517) (by decide +kernel)
theorem se_X3_owners : Cond.selects RX3 yX3_owners yX3_owners ∈ lw_tbl := List.mem_of_getElem? (i := 518) (by decide +kernel)
theorem cd_X3_owners : Cond.code yX3_owners cX3_owners 3 (some .int) ∈ lw_tbl := List.mem_of_getElem? (i := 519) (by decide +kernel)
theorem ml_L_71 : Cond.methodLink RL 71 yX5_count ∈ lw_tbl := List.mem_of_getElem? (i := 520) (by decide +kernel)
theorem im_X5_count : Cond.instanceMethod yX5_count ∈ lw_tbl := List.mem_of_getElem? (i := 521) (by decide +kernel)
theorem se_X5_count : Cond.selects RX5 yX5_count yX5_count ∈ lw_tbl := List.mem_of_getElem? (i := 522) (by decide +kernel)
theorem cd_X5_count : Cond.code yX5_count cX5_count 2 (some .int) ∈ lw_tbl := List.mem_of_getElem? (i := 523) (by decide +kernel)
theorem ml_X5_188 : Cond.methodLink RX5 188 yX0_brokenStrings ∈ lw_tbl := List.mem_of_getElem? (i := 524) (by decide +kernel)
theorem im_X0_brokenStrings : Cond.instanceMethod yX0_brokenStrings ∈ lw_tbl := List.mem_of_getElem? (i := 525) (by decide +kernel)
theorem se_X0_brokenStrings : Cond.selects RX0 yX0_brokenStrings yX0_brokenStrings ∈ lw_tbl := List.mem_of_getElem? (i := 526) (by decide +kernel)
theorem cd_X0_brokenStrings : Cond.code yX0_brokenStrings cX0_brokenStrings 6 (some .int) ∈ lw_tbl := List.mem_of_getElem? (i := 527) (by decide +kernel)
theorem ml_X0_88 : Cond.methodLink RX0 88 yJ6_bitCount_0f7a4 ∈ lw_tbl := List.mem_of_getElem? (i := 528) (by decide +kernel)
theorem ml_L_75 : Cond.methodLink RL 75 yX5_order ∈ lw_tbl := List.mem_of_getElem? (i := 529) (by decide +kernel)
theorem im_X5_order : Cond.instanceMethod yX5_order ∈ lw_tbl := List.mem_of_getElem? (i := 530) (by decide +kernel)
theorem se_X5_order : Cond.selects RX5 yX5_order yX5_order ∈ lw_tbl := List.mem_of_getElem? (i := 531) (by decide +kernel)
theorem cd_X5_order : Cond.code yX5_order cX5_order 3 (some .int) ∈ lw_tbl := List.mem_of_getElem? (i := 532) (by decide +kernel)
theorem ml_X5_198 : Cond.methodLink RX5 198 yX5_dutyOn ∈ lw_tbl := List.mem_of_getElem? (i := 533) (by decide +kernel)
theorem ml_L_79 : Cond.methodLink RL 79 yX5_share ∈ lw_tbl := List.mem_of_getElem? (i := 534) (by decide +kernel)
theorem im_X5_share : Cond.instanceMethod yX5_share ∈ lw_tbl := List.mem_of_getElem? (i := 535) (by decide +kernel)
theorem se_X5_share : Cond.selects RX5 yX5_share yX5_share ∈ lw_tbl := List.mem_of_getElem? (i := 536) (by decide +kernel)
theorem cd_X5_share : Cond.code yX5_share cX5_share 3 (some .int) ∈ lw_tbl := List.mem_of_getElem? (i := 537) (by decide +kernel)
theorem ml_X5_202 : Cond.methodLink RX5 202 yX1_sharePost ∈ lw_tbl := List.mem_of_getElem? (i := 538) (by decide +kernel)
theorem ml_X5_205 : Cond.methodLink RX5 205 yX1_ownCost ∈ lw_tbl := List.mem_of_getElem? (i := 539) (by decide +kernel)
theorem ml_L_83 : Cond.methodLink RL 83 yX5_ifMore ∈ lw_tbl := List.mem_of_getElem? (i := 540) (by decide +kernel)
theorem im_X5_ifMore : Cond.instanceMethod yX5_ifMore ∈ lw_tbl := List.mem_of_getElem? (i := 541) (by decide +kernel)
theorem se_X5_ifMore : Cond.selects RX5 yX5_ifMore yX5_ifMore ∈ lw_tbl := List.mem_of_getElem? (i := 542) (by decide +kernel)
theorem cd_X5_ifMore : Cond.code yX5_ifMore cX5_ifMore 5 (some .int) ∈ lw_tbl := List.mem_of_getElem? (i := 543) (by decide +kernel)
theorem ml_X5_220 : Cond.methodLink RX5 220 yX1_reckon ∈ lw_tbl := List.mem_of_getElem? (i := 544) (by decide +kernel)
theorem ml_L_87 : Cond.methodLink RL 87 yX5_bestParting ∈ lw_tbl := List.mem_of_getElem? (i := 545) (by decide +kernel)
theorem im_X5_bestParting : Cond.instanceMethod yX5_bestParting ∈ lw_tbl := List.mem_of_getElem? (i := 546) (by decide +kernel)
theorem se_X5_bestParting : Cond.selects RX5 yX5_bestParting yX5_bestParting ∈ lw_tbl := List.mem_of_getElem? (i := 547) (by decide +kernel)
theorem cd_X5_bestParting : Cond.code yX5_bestParting cX5_bestParting 6 (some .int) ∈ lw_tbl := List.mem_of_getElem? (i := 548) (by decide +kernel)
theorem ml_X5_224 : Cond.methodLink RX5 224 yX5_pencePartedAt ∈ lw_tbl := List.mem_of_getElem? (i := 549) (by decide +kernel)
theorem im_X5_pencePartedAt : Cond.instanceMethod yX5_pencePartedAt ∈ lw_tbl := List.mem_of_getElem? (i := 551) (by decide +kernel)
theorem cd_X5_pencePartedAt : Cond.code yX5_pencePartedAt cX5_pencePartedAt 2 (some .int) ∈ lw_tbl := List.mem_of_getElem? (i := 552) (by decide +kernel)
theorem ml_X5_238 : Cond.methodLink RX5 238 yX5_costWithDuty ∈ lw_tbl := List.mem_of_getElem? (i := 553) (by decide +kernel)
theorem im_X5_costWithDuty : Cond.instanceMethod yX5_costWithDuty ∈ lw_tbl := List.mem_of_getElem? (i := 555) (by decide +kernel)
theorem cd_X5_costWithDuty : Cond.code yX5_costWithDuty cX5_costWithDuty 2 (some .int) ∈ lw_tbl := List.mem_of_getElem? (i := 556) (by decide +kernel)
theorem ml_L_91 : Cond.methodLink RL 91 yX5_standIn ∈ lw_tbl := List.mem_of_getElem? (i := 557) (by decide +kernel)
theorem im_X5_standIn : Cond.instanceMethod yX5_standIn ∈ lw_tbl := List.mem_of_getElem? (i := 558) (by decide +kernel)
theorem se_X5_standIn : Cond.selects RX5 yX5_standIn yX5_standIn ∈ lw_tbl := List.mem_of_getElem? (i := 559) (by decide +kernel)
theorem cd_X5_standIn : Cond.code yX5_standIn cX5_standIn 4 (some .int) ∈ lw_tbl := List.mem_of_getElem? (i := 560) (by decide +kernel)
theorem ml_L_95 : Cond.methodLink RL 95 yX5_untilHome ∈ lw_tbl := List.mem_of_getElem? (i := 561) (by decide +kernel)
theorem im_X5_untilHome : Cond.instanceMethod yX5_untilHome ∈ lw_tbl := List.mem_of_getElem? (i := 562) (by decide +kernel)
theorem se_X5_untilHome : Cond.selects RX5 yX5_untilHome yX5_untilHome ∈ lw_tbl := List.mem_of_getElem? (i := 563) (by decide +kernel)
theorem cd_X5_untilHome : Cond.code yX5_untilHome cX5_untilHome 2 (some .int) ∈ lw_tbl := List.mem_of_getElem? (i := 564) (by decide +kernel)
theorem ml_L_101 : Cond.methodLink RL 101 yX5_put ∈ lw_tbl := List.mem_of_getElem? (i := 565) (by decide +kernel)
theorem im_X5_put : Cond.instanceMethod yX5_put ∈ lw_tbl := List.mem_of_getElem? (i := 566) (by decide +kernel)
theorem se_X5_put : Cond.selects RX5 yX5_put yX5_put ∈ lw_tbl := List.mem_of_getElem? (i := 567) (by decide +kernel)
theorem cd_X5_put : Cond.code yX5_put cX5_put 4 (some .int) ∈ lw_tbl := List.mem_of_getElem? (i := 568) (by decide +kernel)
theorem ml_X5_230 : Cond.methodLink RX5 230 yX2_charactersIn ∈ lw_tbl := List.mem_of_getElem? (i := 569) (by decide +kernel)
theorem sm_X2_charactersIn : Cond.static yX2_charactersIn ∈ lw_tbl := List.mem_of_getElem? (i := 570) (by decide +kernel)
theorem cd_X2_charactersIn : Cond.code yX2_charactersIn cX2_charactersIn 4 (some .int) ∈ lw_tbl := List.mem_of_getElem? (i := 571) (by decide +kernel)
theorem ml_X2_15 : Cond.methodLink RX2 15 yX2_characterAt ∈ lw_tbl := List.mem_of_getElem? (i := 572) (by decide +kernel)
theorem sm_X2_characterAt : Cond.static yX2_characterAt ∈ lw_tbl := List.mem_of_getElem? (i := 573) (by decide +kernel)
theorem cd_X2_characterAt : Cond.code yX2_characterAt cX2_characterAt 3 (some .int) ∈ lw_tbl := List.mem_of_getElem? (i := 574) (by decide +kernel)
theorem cl_X2_19 : Cond.constantLong RX2 19 (255) ∈ lw_tbl := List.mem_of_getElem? (i := 575) (by decide +kernel)
theorem ml_X5_234 : Cond.methodLink RX5 234 yX2_append ∈ lw_tbl := List.mem_of_getElem? (i := 576) (by decide +kernel)
theorem im_X2_append : Cond.instanceMethod yX2_append ∈ lw_tbl := List.mem_of_getElem? (i := 577) (by decide +kernel)
theorem se_X2_append : Cond.selects RX2 yX2_append yX2_append ∈ lw_tbl := List.mem_of_getElem? (i := 578) (by decide +kernel)
theorem cd_X2_append : Cond.code yX2_append cX2_append 5 (none) ∈ lw_tbl := List.mem_of_getElem? (i := 579) (by decide +kernel)
theorem ml_L_106 : Cond.methodLink RL 106 yX5_wipe ∈ lw_tbl := List.mem_of_getElem? (i := 580) (by decide +kernel)
theorem im_X5_wipe : Cond.instanceMethod yX5_wipe ∈ lw_tbl := List.mem_of_getElem? (i := 581) (by decide +kernel)
theorem se_X5_wipe : Cond.selects RX5 yX5_wipe yX5_wipe ∈ lw_tbl := List.mem_of_getElem? (i := 582) (by decide +kernel)
theorem cd_X5_wipe : Cond.code yX5_wipe cX5_wipe 2 (some .int) ∈ lw_tbl := List.mem_of_getElem? (i := 583) (by decide +kernel)
theorem ml_L_110 : Cond.methodLink RL 110 yX5_fault ∈ lw_tbl := List.mem_of_getElem? (i := 584) (by decide +kernel)
theorem im_X5_fault : Cond.instanceMethod yX5_fault ∈ lw_tbl := List.mem_of_getElem? (i := 585) (by decide +kernel)
theorem se_X5_fault : Cond.selects RX5 yX5_fault yX5_fault ∈ lw_tbl := List.mem_of_getElem? (i := 586) (by decide +kernel)
theorem cd_X5_fault : Cond.code yX5_fault cX5_fault 1 (some .int) ∈ lw_tbl := List.mem_of_getElem? (i := 587) (by decide +kernel)
theorem ml_L_114 : Cond.methodLink RL 114 yX5_undo ∈ lw_tbl := List.mem_of_getElem? (i := 588) (by decide +kernel)
theorem im_X5_undo : Cond.instanceMethod yX5_undo ∈ lw_tbl := List.mem_of_getElem? (i := 589) (by decide +kernel)
theorem se_X5_undo : Cond.selects RX5 yX5_undo yX5_undo ∈ lw_tbl := List.mem_of_getElem? (i := 590) (by decide +kernel)
theorem cd_X5_undo : Cond.code yX5_undo cX5_undo 1 (some .int) ∈ lw_tbl := List.mem_of_getElem? (i := 591) (by decide +kernel)
theorem ml_L_118 : Cond.methodLink RL 118 yX5_save ∈ lw_tbl := List.mem_of_getElem? (i := 592) (by decide +kernel)
theorem im_X5_save : Cond.instanceMethod yX5_save ∈ lw_tbl := List.mem_of_getElem? (i := 593) (by decide +kernel)
theorem se_X5_save : Cond.selects RX5 yX5_save yX5_save ∈ lw_tbl := List.mem_of_getElem? (i := 594) (by decide +kernel)
theorem cd_X5_save : Cond.code yX5_save cX5_save 2 (some .int) ∈ lw_tbl := List.mem_of_getElem? (i := 595) (by decide +kernel)
theorem ml_L_122 : Cond.methodLink RL 122 yX5_restore ∈ lw_tbl := List.mem_of_getElem? (i := 596) (by decide +kernel)
theorem im_X5_restore : Cond.instanceMethod yX5_restore ∈ lw_tbl := List.mem_of_getElem? (i := 597) (by decide +kernel)
theorem se_X5_restore : Cond.selects RX5 yX5_restore yX5_restore ∈ lw_tbl := List.mem_of_getElem? (i := 598) (by decide +kernel)
theorem cd_X5_restore : Cond.code yX5_restore cX5_restore 2 (some .int) ∈ lw_tbl := List.mem_of_getElem? (i := 599) (by decide +kernel)
theorem kl_L_10 : Cond.classLink RL 10 RX6 ∈ lw_tbl := List.mem_of_getElem? (i := 600) (by decide +kernel)
theorem ia_X6 : Cond.instantiable RX6 12 ∈ lw_tbl := List.mem_of_getElem? (i := 601) (by decide +kernel)
theorem ml_L_12 : Cond.methodLink RL 12 yX6_init ∈ lw_tbl := List.mem_of_getElem? (i := 602) (by decide +kernel)
theorem im_X6_init : Cond.instanceMethod yX6_init ∈ lw_tbl := List.mem_of_getElem? (i := 603) (by decide +kernel)
theorem cd_X6_init : Cond.code yX6_init cX6_init 1 (none) ∈ lw_tbl := List.mem_of_getElem? (i := 604) (by decide +kernel)
theorem ml_X6_1 : Cond.methodLink RX6 1 ⟨"java/lang/Object", "<init>", "()V"⟩ ∈ lw_tbl := List.mem_of_getElem? (i := 605) (by decide +kernel)
theorem fl_X6_7 : Cond.fieldLink RX6 7 (TX6 0).1 (TX6 0).2.1 (TX6 0).2.2.1 ∈ lw_tbl := List.mem_of_getElem? (i := 606) (by decide +kernel)
theorem fl_X6_13 : Cond.fieldLink RX6 13 (TX6 1).1 (TX6 1).2.1 (TX6 1).2.2.1 ∈ lw_tbl := List.mem_of_getElem? (i := 607) (by decide +kernel)
theorem fl_X6_16 : Cond.fieldLink RX6 16 (TX6 2).1 (TX6 2).2.1 (TX6 2).2.2.1 ∈ lw_tbl := List.mem_of_getElem? (i := 608) (by decide +kernel)
theorem fl_X6_39 : Cond.fieldLink RX6 39 (TX6 3).1 (TX6 3).2.1 (TX6 3).2.2.1 ∈ lw_tbl := List.mem_of_getElem? (i := 609) (by decide +kernel)
theorem fl_X6_19 : Cond.fieldLink RX6 19 (TX6 4).1 (TX6 4).2.1 (TX6 4).2.2.1 ∈ lw_tbl := List.mem_of_getElem? (i := 610) (by decide +kernel)
theorem fl_X6_22 : Cond.fieldLink RX6 22 (TX6 5).1 (TX6 5).2.1 (TX6 5).2.2.1 ∈ lw_tbl := List.mem_of_getElem? (i := 611) (by decide +kernel)
theorem fl_X6_26 : Cond.fieldLink RX6 26 (TX6 6).1 (TX6 6).2.1 (TX6 6).2.2.1 ∈ lw_tbl := List.mem_of_getElem? (i := 612) (by decide +kernel)
theorem fl_X6_172 : Cond.fieldLink RX6 172 (TX6 7).1 (TX6 7).2.1 (TX6 7).2.2.1 ∈ lw_tbl := List.mem_of_getElem? (i := 613) (by decide +kernel)
theorem fl_X6_29 : Cond.fieldLink RX6 29 (TX6 8).1 (TX6 8).2.1 (TX6 8).2.2.1 ∈ lw_tbl := List.mem_of_getElem? (i := 614) (by decide +kernel)
theorem fl_X6_32 : Cond.fieldLink RX6 32 (TX6 9).1 (TX6 9).2.1 (TX6 9).2.2.1 ∈ lw_tbl := List.mem_of_getElem? (i := 615) (by decide +kernel)
theorem fl_X6_191 : Cond.fieldLink RX6 191 (TX6 10).1 (TX6 10).2.1 (TX6 10).2.2.1 ∈ lw_tbl := List.mem_of_getElem? (i := 616) (by decide +kernel)
theorem fl_X6_187 : Cond.fieldLink RX6 187 (TX6 11).1 (TX6 11).2.1 (TX6 11).2.2.1 ∈ lw_tbl := List.mem_of_getElem? (i := 617) (by decide +kernel)
theorem ml_L_17 : Cond.methodLink RL 17 yX6_set ∈ lw_tbl := List.mem_of_getElem? (i := 643) (by decide +kernel)
theorem im_X6_set : Cond.instanceMethod yX6_set ∈ lw_tbl := List.mem_of_getElem? (i := 644) (by decide +kernel)
theorem se_X6_set : Cond.selects RX6 yX6_set yX6_set ∈ lw_tbl := List.mem_of_getElem? (i := 645) (by decide +kernel)
theorem cd_X6_set : Cond.code yX6_set cX6_set 3 (some .int) ∈ lw_tbl := List.mem_of_getElem? (i := 646) (by decide +kernel)
theorem ml_X6_35 : Cond.methodLink RX6 35 yX6_in ∈ lw_tbl := List.mem_of_getElem? (i := 647) (by decide +kernel)
theorem sm_X6_in : Cond.static yX6_in ∈ lw_tbl := List.mem_of_getElem? (i := 648) (by decide +kernel)
theorem cd_X6_in : Cond.code yX6_in cX6_in 3 (some .boolean) ∈ lw_tbl := List.mem_of_getElem? (i := 649) (by decide +kernel)
theorem ml_X6_116 : Cond.methodLink RX6 116 yX6_least ∈ lw_tbl := List.mem_of_getElem? (i := 650) (by decide +kernel)
theorem sm_X6_least : Cond.static yX6_least ∈ lw_tbl := List.mem_of_getElem? (i := 651) (by decide +kernel)
theorem cd_X6_least : Cond.code yX6_least cX6_least 1 (some .int) ∈ lw_tbl := List.mem_of_getElem? (i := 652) (by decide +kernel)
theorem ml_X6_119 : Cond.methodLink RX6 119 yX6_most ∈ lw_tbl := List.mem_of_getElem? (i := 653) (by decide +kernel)
theorem sm_X6_most : Cond.static yX6_most ∈ lw_tbl := List.mem_of_getElem? (i := 654) (by decide +kernel)
theorem cd_X6_most : Cond.code yX6_most cX6_most 1 (some .int) ∈ lw_tbl := List.mem_of_getElem? (i := 655) (by decide +kernel)
theorem ml_X6_122 : Cond.methodLink RX6 122 yX6_lays ∈ lw_tbl := List.mem_of_getElem? (i := 656) (by decide +kernel)
theorem im_X6_lays : Cond.instanceMethod yX6_lays ∈ lw_tbl := List.mem_of_getElem? (i := 658) (by decide +kernel)
theorem cd_X6_lays : Cond.code yX6_lays cX6_lays 4 (some .int) ∈ lw_tbl := List.mem_of_getElem? (i := 659) (by decide +kernel)
theorem ml_X6_113 : Cond.methodLink RX6 113 yX6_record ∈ lw_tbl := List.mem_of_getElem? (i := 660) (by decide +kernel)
theorem im_X6_record : Cond.instanceMethod yX6_record ∈ lw_tbl := List.mem_of_getElem? (i := 662) (by decide +kernel)
theorem cd_X6_record : Cond.code yX6_record cX6_record 2 (none) ∈ lw_tbl := List.mem_of_getElem? (i := 663) (by decide +kernel)
theorem ck_X6_125 : Cond.constant RX6 125 (-100002) ∈ lw_tbl := List.mem_of_getElem? (i := 664) (by decide +kernel)
theorem ml_L_21 : Cond.methodLink RL 21 yX6_snap ∈ lw_tbl := List.mem_of_getElem? (i := 665) (by decide +kernel)
theorem im_X6_snap : Cond.instanceMethod yX6_snap ∈ lw_tbl := List.mem_of_getElem? (i := 666) (by decide +kernel)
theorem se_X6_snap : Cond.selects RX6 yX6_snap yX6_snap ∈ lw_tbl := List.mem_of_getElem? (i := 667) (by decide +kernel)
theorem cd_X6_snap : Cond.code yX6_snap cX6_snap 3 (some .int) ∈ lw_tbl := List.mem_of_getElem? (i := 668) (by decide +kernel)
theorem ml_X6_126 : Cond.methodLink RX6 126 yX6_isMember ∈ lw_tbl := List.mem_of_getElem? (i := 669) (by decide +kernel)
theorem sm_X6_isMember : Cond.static yX6_isMember ∈ lw_tbl := List.mem_of_getElem? (i := 670) (by decide +kernel)
theorem cd_X6_isMember : Cond.code yX6_isMember cX6_isMember 1 (some .boolean) ∈ lw_tbl := List.mem_of_getElem? (i := 671) (by decide +kernel)
theorem ml_X6_129 : Cond.methodLink RX6 129 yX6_isGauge ∈ lw_tbl := List.mem_of_getElem? (i := 672) (by decide +kernel)
theorem sm_X6_isGauge : Cond.static yX6_isGauge ∈ lw_tbl := List.mem_of_getElem? (i := 673) (by decide +kernel)
theorem cd_X6_isGauge : Cond.code yX6_isGauge cX6_isGauge 1 (some .boolean) ∈ lw_tbl := List.mem_of_getElem? (i := 674) (by decide +kernel)
theorem ck_X6_132 : Cond.constant RX6 132 (-100001) ∈ lw_tbl := List.mem_of_getElem? (i := 675) (by decide +kernel)
theorem ml_X6_47 : Cond.methodLink RX6 47 yX6_of ∈ lw_tbl := List.mem_of_getElem? (i := 676) (by decide +kernel)
theorem sm_X6_of : Cond.static yX6_of ∈ lw_tbl := List.mem_of_getElem? (i := 677) (by decide +kernel)
theorem cd_X6_of : Cond.code yX6_of cX6_of 2 (some .int) ∈ lw_tbl := List.mem_of_getElem? (i := 678) (by decide +kernel)
theorem ml_X6_43 : Cond.methodLink RX6 43 yX6_has ∈ lw_tbl := List.mem_of_getElem? (i := 679) (by decide +kernel)
theorem sm_X6_has : Cond.static yX6_has ∈ lw_tbl := List.mem_of_getElem? (i := 680) (by decide +kernel)
theorem cd_X6_has : Cond.code yX6_has cX6_has 2 (some .boolean) ∈ lw_tbl := List.mem_of_getElem? (i := 681) (by decide +kernel)
theorem ck_X6_133 : Cond.constant RX6 133 (-100005) ∈ lw_tbl := List.mem_of_getElem? (i := 682) (by decide +kernel)
theorem ml_X6_134 : Cond.methodLink RX6 134 yX6_bits ∈ lw_tbl := List.mem_of_getElem? (i := 683) (by decide +kernel)
theorem sm_X6_bits : Cond.static yX6_bits ∈ lw_tbl := List.mem_of_getElem? (i := 684) (by decide +kernel)
theorem cd_X6_bits : Cond.code yX6_bits cX6_bits 3 (some .int) ∈ lw_tbl := List.mem_of_getElem? (i := 685) (by decide +kernel)
theorem ml_L_26 : Cond.methodLink RL 26 yX6_fit ∈ lw_tbl := List.mem_of_getElem? (i := 686) (by decide +kernel)
theorem im_X6_fit : Cond.instanceMethod yX6_fit ∈ lw_tbl := List.mem_of_getElem? (i := 687) (by decide +kernel)
theorem se_X6_fit : Cond.selects RX6 yX6_fit yX6_fit ∈ lw_tbl := List.mem_of_getElem? (i := 688) (by decide +kernel)
theorem cd_X6_fit : Cond.code yX6_fit cX6_fit 4 (some .int) ∈ lw_tbl := List.mem_of_getElem? (i := 689) (by decide +kernel)
theorem ml_X6_137 : Cond.methodLink RX6 137 yX6_does ∈ lw_tbl := List.mem_of_getElem? (i := 690) (by decide +kernel)
theorem im_X6_does : Cond.instanceMethod yX6_does ∈ lw_tbl := List.mem_of_getElem? (i := 692) (by decide +kernel)
theorem cd_X6_does : Cond.code yX6_does cX6_does 4 (some .boolean) ∈ lw_tbl := List.mem_of_getElem? (i := 693) (by decide +kernel)
theorem ml_L_30 : Cond.methodLink RL 30 yX6_want ∈ lw_tbl := List.mem_of_getElem? (i := 694) (by decide +kernel)
theorem im_X6_want : Cond.instanceMethod yX6_want ∈ lw_tbl := List.mem_of_getElem? (i := 695) (by decide +kernel)
theorem se_X6_want : Cond.selects RX6 yX6_want yX6_want ∈ lw_tbl := List.mem_of_getElem? (i := 696) (by decide +kernel)
theorem cd_X6_want : Cond.code yX6_want cX6_want 5 (some .int) ∈ lw_tbl := List.mem_of_getElem? (i := 697) (by decide +kernel)
theorem ml_X6_140 : Cond.methodLink RX6 140 yX6_costOf ∈ lw_tbl := List.mem_of_getElem? (i := 698) (by decide +kernel)
theorem im_X6_costOf : Cond.instanceMethod yX6_costOf ∈ lw_tbl := List.mem_of_getElem? (i := 700) (by decide +kernel)
theorem cd_X6_costOf : Cond.code yX6_costOf cX6_costOf 2 (some .int) ∈ lw_tbl := List.mem_of_getElem? (i := 701) (by decide +kernel)
theorem ml_X6_67 : Cond.methodLink RX6 67 yX6_valueOf ∈ lw_tbl := List.mem_of_getElem? (i := 702) (by decide +kernel)
theorem im_X6_valueOf : Cond.instanceMethod yX6_valueOf ∈ lw_tbl := List.mem_of_getElem? (i := 704) (by decide +kernel)
theorem cd_X6_valueOf : Cond.code yX6_valueOf cX6_valueOf 4 (some .int) ∈ lw_tbl := List.mem_of_getElem? (i := 705) (by decide +kernel)
theorem ml_X6_51 : Cond.methodLink RX6 51 yX6_wanted ∈ lw_tbl := List.mem_of_getElem? (i := 706) (by decide +kernel)
theorem im_X6_wanted : Cond.instanceMethod yX6_wanted ∈ lw_tbl := List.mem_of_getElem? (i := 708) (by decide +kernel)
theorem cd_X6_wanted : Cond.code yX6_wanted cX6_wanted 5 (some .int) ∈ lw_tbl := List.mem_of_getElem? (i := 709) (by decide +kernel)
theorem ml_X6_58 : Cond.methodLink RX6 58 yX6_priceIn ∈ lw_tbl := List.mem_of_getElem? (i := 710) (by decide +kernel)
theorem im_X6_priceIn : Cond.instanceMethod yX6_priceIn ∈ lw_tbl := List.mem_of_getElem? (i := 712) (by decide +kernel)
theorem cd_X6_priceIn : Cond.code yX6_priceIn cX6_priceIn 3 (some .int) ∈ lw_tbl := List.mem_of_getElem? (i := 713) (by decide +kernel)
theorem ml_X6_54 : Cond.methodLink RX6 54 yX6_price ∈ lw_tbl := List.mem_of_getElem? (i := 714) (by decide +kernel)
theorem sm_X6_price : Cond.static yX6_price ∈ lw_tbl := List.mem_of_getElem? (i := 715) (by decide +kernel)
theorem cd_X6_price : Cond.code yX6_price cX6_price 1 (some .int) ∈ lw_tbl := List.mem_of_getElem? (i := 716) (by decide +kernel)
theorem ml_X6_70 : Cond.methodLink RX6 70 yX6_postOf ∈ lw_tbl := List.mem_of_getElem? (i := 717) (by decide +kernel)
theorem im_X6_postOf : Cond.instanceMethod yX6_postOf ∈ lw_tbl := List.mem_of_getElem? (i := 719) (by decide +kernel)
theorem cd_X6_postOf : Cond.code yX6_postOf cX6_postOf 2 (some .int) ∈ lw_tbl := List.mem_of_getElem? (i := 720) (by decide +kernel)
theorem ml_X6_61 : Cond.methodLink RX6 61 yX6_stringsOf ∈ lw_tbl := List.mem_of_getElem? (i := 721) (by decide +kernel)
theorem im_X6_stringsOf : Cond.instanceMethod yX6_stringsOf ∈ lw_tbl := List.mem_of_getElem? (i := 723) (by decide +kernel)
theorem cd_X6_stringsOf : Cond.code yX6_stringsOf cX6_stringsOf 4 (some .int) ∈ lw_tbl := List.mem_of_getElem? (i := 724) (by decide +kernel)
theorem ml_X6_64 : Cond.methodLink RX6 64 yX6_weightOf ∈ lw_tbl := List.mem_of_getElem? (i := 725) (by decide +kernel)
theorem im_X6_weightOf : Cond.instanceMethod yX6_weightOf ∈ lw_tbl := List.mem_of_getElem? (i := 727) (by decide +kernel)
theorem cd_X6_weightOf : Cond.code yX6_weightOf cX6_weightOf 4 (some .int) ∈ lw_tbl := List.mem_of_getElem? (i := 728) (by decide +kernel)
theorem ml_L_39 : Cond.methodLink RL 39 yX6_pay ∈ lw_tbl := List.mem_of_getElem? (i := 729) (by decide +kernel)
theorem im_X6_pay : Cond.instanceMethod yX6_pay ∈ lw_tbl := List.mem_of_getElem? (i := 730) (by decide +kernel)
theorem se_X6_pay : Cond.selects RX6 yX6_pay yX6_pay ∈ lw_tbl := List.mem_of_getElem? (i := 731) (by decide +kernel)
theorem cd_X6_pay : Cond.code yX6_pay cX6_pay 3 (some .int) ∈ lw_tbl := List.mem_of_getElem? (i := 732) (by decide +kernel)
theorem ml_L_44 : Cond.methodLink RL 44 yX6_give ∈ lw_tbl := List.mem_of_getElem? (i := 733) (by decide +kernel)
theorem im_X6_give : Cond.instanceMethod yX6_give ∈ lw_tbl := List.mem_of_getElem? (i := 734) (by decide +kernel)
theorem se_X6_give : Cond.selects RX6 yX6_give yX6_give ∈ lw_tbl := List.mem_of_getElem? (i := 735) (by decide +kernel)
theorem cd_X6_give : Cond.code yX6_give cX6_give 5 (some .int) ∈ lw_tbl := List.mem_of_getElem? (i := 736) (by decide +kernel)
theorem ml_L_49 : Cond.methodLink RL 49 yX6_send ∈ lw_tbl := List.mem_of_getElem? (i := 737) (by decide +kernel)
theorem im_X6_send : Cond.instanceMethod yX6_send ∈ lw_tbl := List.mem_of_getElem? (i := 738) (by decide +kernel)
theorem se_X6_send : Cond.selects RX6 yX6_send yX6_send ∈ lw_tbl := List.mem_of_getElem? (i := 739) (by decide +kernel)
theorem cd_X6_send : Cond.code yX6_send cX6_send 3 (some .int) ∈ lw_tbl := List.mem_of_getElem? (i := 740) (by decide +kernel)
theorem ml_X6_149 : Cond.methodLink RX6 149 yX6_chest ∈ lw_tbl := List.mem_of_getElem? (i := 741) (by decide +kernel)
theorem im_X6_chest : Cond.instanceMethod yX6_chest ∈ lw_tbl := List.mem_of_getElem? (i := 743) (by decide +kernel)
theorem cd_X6_chest : Cond.code yX6_chest cX6_chest 3 (some .int) ∈ lw_tbl := List.mem_of_getElem? (i := 744) (by decide +kernel)
theorem ck_X6_153 : Cond.constant RX6 153 (-100004) ∈ lw_tbl := List.mem_of_getElem? (i := 745) (by decide +kernel)
theorem ml_X6_154 : Cond.methodLink RX6 154 yX6_sends ∈ lw_tbl := List.mem_of_getElem? (i := 746) (by decide +kernel)
theorem im_X6_sends : Cond.instanceMethod yX6_sends ∈ lw_tbl := List.mem_of_getElem? (i := 748) (by decide +kernel)
theorem cd_X6_sends : Cond.code yX6_sends cX6_sends 6 (none) ∈ lw_tbl := List.mem_of_getElem? (i := 749) (by decide +kernel)
theorem ml_X6_84 : Cond.methodLink RX6 84 yX6_ofParcel ∈ lw_tbl := List.mem_of_getElem? (i := 750) (by decide +kernel)
theorem sm_X6_ofParcel : Cond.static yX6_ofParcel ∈ lw_tbl := List.mem_of_getElem? (i := 751) (by decide +kernel)
theorem cd_X6_ofParcel : Cond.code yX6_ofParcel cX6_ofParcel 2 (some .int) ∈ lw_tbl := List.mem_of_getElem? (i := 752) (by decide +kernel)
theorem ml_X6_143 : Cond.methodLink RX6 143 yX6_sharesPost ∈ lw_tbl := List.mem_of_getElem? (i := 753) (by decide +kernel)
theorem im_X6_sharesPost : Cond.instanceMethod yX6_sharesPost ∈ lw_tbl := List.mem_of_getElem? (i := 755) (by decide +kernel)
theorem cd_X6_sharesPost : Cond.code yX6_sharesPost cX6_sharesPost 3 (none) ∈ lw_tbl := List.mem_of_getElem? (i := 756) (by decide +kernel)
theorem ml_X6_73 : Cond.methodLink RX6 73 yX6_shares ∈ lw_tbl := List.mem_of_getElem? (i := 757) (by decide +kernel)
theorem im_X6_shares : Cond.instanceMethod yX6_shares ∈ lw_tbl := List.mem_of_getElem? (i := 759) (by decide +kernel)
theorem cd_X6_shares : Cond.code yX6_shares cX6_shares 6 (none) ∈ lw_tbl := List.mem_of_getElem? (i := 760) (by decide +kernel)
theorem ml_X6_146 : Cond.methodLink RX6 146 yX6_ownOf ∈ lw_tbl := List.mem_of_getElem? (i := 761) (by decide +kernel)
theorem im_X6_ownOf : Cond.instanceMethod yX6_ownOf ∈ lw_tbl := List.mem_of_getElem? (i := 763) (by decide +kernel)
theorem cd_X6_ownOf : Cond.code yX6_ownOf cX6_ownOf 5 (some .int) ∈ lw_tbl := List.mem_of_getElem? (i := 764) (by decide +kernel)
theorem ml_L_53 : Cond.methodLink RL 53 yX6_pass ∈ lw_tbl := List.mem_of_getElem? (i := 765) (by decide +kernel)
theorem im_X6_pass : Cond.instanceMethod yX6_pass ∈ lw_tbl := List.mem_of_getElem? (i := 766) (by decide +kernel)
theorem se_X6_pass : Cond.selects RX6 yX6_pass yX6_pass ∈ lw_tbl := List.mem_of_getElem? (i := 767) (by decide +kernel)
theorem cd_X6_pass : Cond.code yX6_pass cX6_pass 4 (some .int) ∈ lw_tbl := List.mem_of_getElem? (i := 768) (by decide +kernel)
theorem ml_X6_157 : Cond.methodLink RX6 157 yX6_day ∈ lw_tbl := List.mem_of_getElem? (i := 769) (by decide +kernel)
theorem im_X6_day : Cond.instanceMethod yX6_day ∈ lw_tbl := List.mem_of_getElem? (i := 771) (by decide +kernel)
theorem cd_X6_day : Cond.code yX6_day cX6_day 5 (some .int) ∈ lw_tbl := List.mem_of_getElem? (i := 772) (by decide +kernel)
theorem ml_X6_106 : Cond.methodLink RX6 106 yX6_comesToCustoms ∈ lw_tbl := List.mem_of_getElem? (i := 773) (by decide +kernel)
theorem im_X6_comesToCustoms : Cond.instanceMethod yX6_comesToCustoms ∈ lw_tbl := List.mem_of_getElem? (i := 775) (by decide +kernel)
theorem cd_X6_comesToCustoms : Cond.code yX6_comesToCustoms cX6_comesToCustoms 2 (some .boolean) ∈ lw_tbl := List.mem_of_getElem? (i := 776) (by decide +kernel)
theorem ml_X6_97 : Cond.methodLink RX6 97 yX6_draw ∈ lw_tbl := List.mem_of_getElem? (i := 777) (by decide +kernel)
theorem im_X6_draw : Cond.instanceMethod yX6_draw ∈ lw_tbl := List.mem_of_getElem? (i := 779) (by decide +kernel)
theorem cd_X6_draw : Cond.code yX6_draw cX6_draw 4 (some .int) ∈ lw_tbl := List.mem_of_getElem? (i := 780) (by decide +kernel)
theorem cl_X6_77 : Cond.constantLong RX6 77 (1103515245) ∈ lw_tbl := List.mem_of_getElem? (i := 781) (by decide +kernel)
theorem cl_X6_79 : Cond.constantLong RX6 79 (12345) ∈ lw_tbl := List.mem_of_getElem? (i := 782) (by decide +kernel)
theorem cl_X6_81 : Cond.constantLong RX6 81 (2147483648) ∈ lw_tbl := List.mem_of_getElem? (i := 783) (by decide +kernel)
theorem ck_X6_83 : Cond.constant RX6 83 (65536) ∈ lw_tbl := List.mem_of_getElem? (i := 784) (by decide +kernel)
theorem ml_X6_100 : Cond.methodLink RX6 100 yX6_paysDuty ∈ lw_tbl := List.mem_of_getElem? (i := 785) (by decide +kernel)
theorem im_X6_paysDuty : Cond.instanceMethod yX6_paysDuty ∈ lw_tbl := List.mem_of_getElem? (i := 787) (by decide +kernel)
theorem cd_X6_paysDuty : Cond.code yX6_paysDuty cX6_paysDuty 5 (none) ∈ lw_tbl := List.mem_of_getElem? (i := 788) (by decide +kernel)
theorem ml_X6_91 : Cond.methodLink RX6 91 yX6_dutyOn ∈ lw_tbl := List.mem_of_getElem? (i := 789) (by decide +kernel)
theorem im_X6_dutyOn : Cond.instanceMethod yX6_dutyOn ∈ lw_tbl := List.mem_of_getElem? (i := 791) (by decide +kernel)
theorem cd_X6_dutyOn : Cond.code yX6_dutyOn cX6_dutyOn 2 (some .int) ∈ lw_tbl := List.mem_of_getElem? (i := 792) (by decide +kernel)
theorem ml_X6_87 : Cond.methodLink RX6 87 yX6_ofString ∈ lw_tbl := List.mem_of_getElem? (i := 793) (by decide +kernel)
theorem sm_X6_ofString : Cond.static yX6_ofString ∈ lw_tbl := List.mem_of_getElem? (i := 794) (by decide +kernel)
theorem cd_X6_ofString : Cond.code yX6_ofString cX6_ofString 3 (some .int) ∈ lw_tbl := List.mem_of_getElem? (i := 795) (by decide +kernel)
theorem ml_X6_103 : Cond.methodLink RX6 103 yX6_loses ∈ lw_tbl := List.mem_of_getElem? (i := 796) (by decide +kernel)
theorem im_X6_loses : Cond.instanceMethod yX6_loses ∈ lw_tbl := List.mem_of_getElem? (i := 798) (by decide +kernel)
theorem cd_X6_loses : Cond.code yX6_loses cX6_loses 4 (none) ∈ lw_tbl := List.mem_of_getElem? (i := 799) (by decide +kernel)
theorem ml_X6_94 : Cond.methodLink RX6 94 yX6_stringsIn ∈ lw_tbl := List.mem_of_getElem? (i := 800) (by decide +kernel)
theorem im_X6_stringsIn : Cond.instanceMethod yX6_stringsIn ∈ lw_tbl := List.mem_of_getElem? (i := 802) (by decide +kernel)
theorem cd_X6_stringsIn : Cond.code yX6_stringsIn cX6_stringsIn 4 (some .int) ∈ lw_tbl := List.mem_of_getElem? (i := 803) (by decide +kernel)
theorem ml_X6_110 : Cond.methodLink RX6 110 yX6_comesHome ∈ lw_tbl := List.mem_of_getElem? (i := 804) (by decide +kernel)
theorem im_X6_comesHome : Cond.instanceMethod yX6_comesHome ∈ lw_tbl := List.mem_of_getElem? (i := 806) (by decide +kernel)
theorem cd_X6_comesHome : Cond.code yX6_comesHome cX6_comesHome 6 (none) ∈ lw_tbl := List.mem_of_getElem? (i := 807) (by decide +kernel)
theorem ml_L_57 : Cond.methodLink RL 57 yX6_shuffle ∈ lw_tbl := List.mem_of_getElem? (i := 808) (by decide +kernel)
theorem im_X6_shuffle : Cond.instanceMethod yX6_shuffle ∈ lw_tbl := List.mem_of_getElem? (i := 809) (by decide +kernel)
theorem se_X6_shuffle : Cond.selects RX6 yX6_shuffle yX6_shuffle ∈ lw_tbl := List.mem_of_getElem? (i := 810) (by decide +kernel)
theorem cd_X6_shuffle : Cond.code yX6_shuffle cX6_shuffle 2 (some .int) ∈ lw_tbl := List.mem_of_getElem? (i := 811) (by decide +kernel)
theorem ml_L_61 : Cond.methodLink RL 61 yX6_member ∈ lw_tbl := List.mem_of_getElem? (i := 812) (by decide +kernel)
theorem im_X6_member : Cond.instanceMethod yX6_member ∈ lw_tbl := List.mem_of_getElem? (i := 813) (by decide +kernel)
theorem se_X6_member : Cond.selects RX6 yX6_member yX6_member ∈ lw_tbl := List.mem_of_getElem? (i := 814) (by decide +kernel)
theorem cd_X6_member : Cond.code yX6_member cX6_member 3 (some .int) ∈ lw_tbl := List.mem_of_getElem? (i := 815) (by decide +kernel)
theorem ml_X6_160 : Cond.methodLink RX6 160 yX6_sum ∈ lw_tbl := List.mem_of_getElem? (i := 816) (by decide +kernel)
theorem im_X6_sum : Cond.instanceMethod yX6_sum ∈ lw_tbl := List.mem_of_getElem? (i := 818) (by decide +kernel)
theorem cd_X6_sum : Cond.code yX6_sum cX6_sum 5 (some .int) ∈ lw_tbl := List.mem_of_getElem? (i := 819) (by decide +kernel)
theorem ml_X6_163 : Cond.methodLink RX6 163 yX6_onTheWay ∈ lw_tbl := List.mem_of_getElem? (i := 820) (by decide +kernel)
theorem im_X6_onTheWay : Cond.instanceMethod yX6_onTheWay ∈ lw_tbl := List.mem_of_getElem? (i := 822) (by decide +kernel)
theorem cd_X6_onTheWay : Cond.code yX6_onTheWay cX6_onTheWay 4 (some .int) ∈ lw_tbl := List.mem_of_getElem? (i := 823) (by decide +kernel)
theorem ml_L_66 : Cond.methodLink RL 66 yX6_strings ∈ lw_tbl := List.mem_of_getElem? (i := 824) (by decide +kernel)
theorem im_X6_strings : Cond.instanceMethod yX6_strings ∈ lw_tbl := List.mem_of_getElem? (i := 825) (by decide +kernel)
theorem se_X6_strings : Cond.selects RX6 yX6_strings yX6_strings ∈ lw_tbl := List.mem_of_getElem? (i := 826) (by decide +kernel)
theorem cd_X6_strings : Cond.code yX6_strings cX6_strings 4 (some .int) ∈ lw_tbl := List.mem_of_getElem? (i := 827) (by decide +kernel)
theorem ml_L_70 : Cond.methodLink RL 70 yX6_parcel ∈ lw_tbl := List.mem_of_getElem? (i := 828) (by decide +kernel)
theorem im_X6_parcel : Cond.instanceMethod yX6_parcel ∈ lw_tbl := List.mem_of_getElem? (i := 829) (by decide +kernel)
theorem se_X6_parcel : Cond.selects RX6 yX6_parcel yX6_parcel ∈ lw_tbl := List.mem_of_getElem? (i := 830) (by decide +kernel)
theorem cd_X6_parcel : Cond.code yX6_parcel cX6_parcel 3 (some .int) ∈ lw_tbl := List.mem_of_getElem? (i := 831) (by decide +kernel)
theorem ml_X6_166 : Cond.methodLink RX6 166 yX6_membersOf ∈ lw_tbl := List.mem_of_getElem? (i := 832) (by decide +kernel)
theorem im_X6_membersOf : Cond.instanceMethod yX6_membersOf ∈ lw_tbl := List.mem_of_getElem? (i := 834) (by decide +kernel)
theorem cd_X6_membersOf : Cond.code yX6_membersOf cX6_membersOf 4 (some .int) ∈ lw_tbl := List.mem_of_getElem? (i := 835) (by decide +kernel)
theorem ml_L_74 : Cond.methodLink RL 74 yX6_count ∈ lw_tbl := List.mem_of_getElem? (i := 836) (by decide +kernel)
theorem im_X6_count : Cond.instanceMethod yX6_count ∈ lw_tbl := List.mem_of_getElem? (i := 837) (by decide +kernel)
theorem se_X6_count : Cond.selects RX6 yX6_count yX6_count ∈ lw_tbl := List.mem_of_getElem? (i := 838) (by decide +kernel)
theorem cd_X6_count : Cond.code yX6_count cX6_count 2 (some .int) ∈ lw_tbl := List.mem_of_getElem? (i := 839) (by decide +kernel)
theorem ml_X6_169 : Cond.methodLink RX6 169 yX6_broken ∈ lw_tbl := List.mem_of_getElem? (i := 840) (by decide +kernel)
theorem im_X6_broken : Cond.instanceMethod yX6_broken ∈ lw_tbl := List.mem_of_getElem? (i := 842) (by decide +kernel)
theorem cd_X6_broken : Cond.code yX6_broken cX6_broken 3 (some .int) ∈ lw_tbl := List.mem_of_getElem? (i := 843) (by decide +kernel)
theorem ml_L_78 : Cond.methodLink RL 78 yX6_order ∈ lw_tbl := List.mem_of_getElem? (i := 844) (by decide +kernel)
theorem im_X6_order : Cond.instanceMethod yX6_order ∈ lw_tbl := List.mem_of_getElem? (i := 845) (by decide +kernel)
theorem se_X6_order : Cond.selects RX6 yX6_order yX6_order ∈ lw_tbl := List.mem_of_getElem? (i := 846) (by decide +kernel)
theorem cd_X6_order : Cond.code yX6_order cX6_order 3 (some .int) ∈ lw_tbl := List.mem_of_getElem? (i := 847) (by decide +kernel)
theorem ml_L_82 : Cond.methodLink RL 82 yX6_share ∈ lw_tbl := List.mem_of_getElem? (i := 848) (by decide +kernel)
theorem im_X6_share : Cond.instanceMethod yX6_share ∈ lw_tbl := List.mem_of_getElem? (i := 849) (by decide +kernel)
theorem se_X6_share : Cond.selects RX6 yX6_share yX6_share ∈ lw_tbl := List.mem_of_getElem? (i := 850) (by decide +kernel)
theorem cd_X6_share : Cond.code yX6_share cX6_share 3 (some .int) ∈ lw_tbl := List.mem_of_getElem? (i := 851) (by decide +kernel)
theorem ml_L_86 : Cond.methodLink RL 86 yX6_ifMore ∈ lw_tbl := List.mem_of_getElem? (i := 852) (by decide +kernel)
theorem im_X6_ifMore : Cond.instanceMethod yX6_ifMore ∈ lw_tbl := List.mem_of_getElem? (i := 853) (by decide +kernel)
theorem se_X6_ifMore : Cond.selects RX6 yX6_ifMore yX6_ifMore ∈ lw_tbl := List.mem_of_getElem? (i := 854) (by decide +kernel)
theorem cd_X6_ifMore : Cond.code yX6_ifMore cX6_ifMore 6 (some .int) ∈ lw_tbl := List.mem_of_getElem? (i := 855) (by decide +kernel)
theorem ml_L_90 : Cond.methodLink RL 90 yX6_bestParting ∈ lw_tbl := List.mem_of_getElem? (i := 856) (by decide +kernel)
theorem im_X6_bestParting : Cond.instanceMethod yX6_bestParting ∈ lw_tbl := List.mem_of_getElem? (i := 857) (by decide +kernel)
theorem se_X6_bestParting : Cond.selects RX6 yX6_bestParting yX6_bestParting ∈ lw_tbl := List.mem_of_getElem? (i := 858) (by decide +kernel)
theorem cd_X6_bestParting : Cond.code yX6_bestParting cX6_bestParting 4 (some .int) ∈ lw_tbl := List.mem_of_getElem? (i := 859) (by decide +kernel)
theorem ml_X6_175 : Cond.methodLink RX6 175 yX6_parted ∈ lw_tbl := List.mem_of_getElem? (i := 860) (by decide +kernel)
theorem im_X6_parted : Cond.instanceMethod yX6_parted ∈ lw_tbl := List.mem_of_getElem? (i := 862) (by decide +kernel)
theorem cd_X6_parted : Cond.code yX6_parted cX6_parted 3 (some .int) ∈ lw_tbl := List.mem_of_getElem? (i := 863) (by decide +kernel)
theorem ml_L_94 : Cond.methodLink RL 94 yX6_standIn ∈ lw_tbl := List.mem_of_getElem? (i := 864) (by decide +kernel)
theorem im_X6_standIn : Cond.instanceMethod yX6_standIn ∈ lw_tbl := List.mem_of_getElem? (i := 865) (by decide +kernel)
theorem se_X6_standIn : Cond.selects RX6 yX6_standIn yX6_standIn ∈ lw_tbl := List.mem_of_getElem? (i := 866) (by decide +kernel)
theorem cd_X6_standIn : Cond.code yX6_standIn cX6_standIn 3 (some .int) ∈ lw_tbl := List.mem_of_getElem? (i := 867) (by decide +kernel)
theorem ck_X6_178 : Cond.constant RX6 178 (-100006) ∈ lw_tbl := List.mem_of_getElem? (i := 868) (by decide +kernel)
theorem ml_L_98 : Cond.methodLink RL 98 yX6_untilHome ∈ lw_tbl := List.mem_of_getElem? (i := 869) (by decide +kernel)
theorem im_X6_untilHome : Cond.instanceMethod yX6_untilHome ∈ lw_tbl := List.mem_of_getElem? (i := 870) (by decide +kernel)
theorem se_X6_untilHome : Cond.selects RX6 yX6_untilHome yX6_untilHome ∈ lw_tbl := List.mem_of_getElem? (i := 871) (by decide +kernel)
theorem cd_X6_untilHome : Cond.code yX6_untilHome cX6_untilHome 3 (some .int) ∈ lw_tbl := List.mem_of_getElem? (i := 872) (by decide +kernel)
theorem ml_X6_179 : Cond.methodLink RX6 179 yX6_putAside ∈ lw_tbl := List.mem_of_getElem? (i := 873) (by decide +kernel)
theorem im_X6_putAside : Cond.instanceMethod yX6_putAside ∈ lw_tbl := List.mem_of_getElem? (i := 875) (by decide +kernel)
theorem cd_X6_putAside : Cond.code yX6_putAside cX6_putAside 2 (none) ∈ lw_tbl := List.mem_of_getElem? (i := 876) (by decide +kernel)
theorem ml_X6_182 : Cond.methodLink RX6 182 yX6_putBack ∈ lw_tbl := List.mem_of_getElem? (i := 877) (by decide +kernel)
theorem im_X6_putBack : Cond.instanceMethod yX6_putBack ∈ lw_tbl := List.mem_of_getElem? (i := 879) (by decide +kernel)
theorem cd_X6_putBack : Cond.code yX6_putBack cX6_putBack 2 (none) ∈ lw_tbl := List.mem_of_getElem? (i := 880) (by decide +kernel)
theorem ml_L_105 : Cond.methodLink RL 105 yX6_put ∈ lw_tbl := List.mem_of_getElem? (i := 881) (by decide +kernel)
theorem im_X6_put : Cond.instanceMethod yX6_put ∈ lw_tbl := List.mem_of_getElem? (i := 882) (by decide +kernel)
theorem se_X6_put : Cond.selects RX6 yX6_put yX6_put ∈ lw_tbl := List.mem_of_getElem? (i := 883) (by decide +kernel)
theorem cd_X6_put : Cond.code yX6_put cX6_put 8 (some .int) ∈ lw_tbl := List.mem_of_getElem? (i := 884) (by decide +kernel)
theorem cl_X6_185 : Cond.constantLong RX6 185 (255) ∈ lw_tbl := List.mem_of_getElem? (i := 885) (by decide +kernel)
theorem ml_L_109 : Cond.methodLink RL 109 yX6_wipe ∈ lw_tbl := List.mem_of_getElem? (i := 886) (by decide +kernel)
theorem im_X6_wipe : Cond.instanceMethod yX6_wipe ∈ lw_tbl := List.mem_of_getElem? (i := 887) (by decide +kernel)
theorem se_X6_wipe : Cond.selects RX6 yX6_wipe yX6_wipe ∈ lw_tbl := List.mem_of_getElem? (i := 888) (by decide +kernel)
theorem cd_X6_wipe : Cond.code yX6_wipe cX6_wipe 2 (some .int) ∈ lw_tbl := List.mem_of_getElem? (i := 889) (by decide +kernel)
theorem ml_L_113 : Cond.methodLink RL 113 yX6_fault ∈ lw_tbl := List.mem_of_getElem? (i := 890) (by decide +kernel)
theorem im_X6_fault : Cond.instanceMethod yX6_fault ∈ lw_tbl := List.mem_of_getElem? (i := 891) (by decide +kernel)
theorem se_X6_fault : Cond.selects RX6 yX6_fault yX6_fault ∈ lw_tbl := List.mem_of_getElem? (i := 892) (by decide +kernel)
theorem cd_X6_fault : Cond.code yX6_fault cX6_fault 1 (some .int) ∈ lw_tbl := List.mem_of_getElem? (i := 893) (by decide +kernel)
theorem ml_X6_207 : Cond.methodLink RX6 207 yX6_goes ∈ lw_tbl := List.mem_of_getElem? (i := 894) (by decide +kernel)
theorem im_X6_goes : Cond.instanceMethod yX6_goes ∈ lw_tbl := List.mem_of_getElem? (i := 896) (by decide +kernel)
theorem cd_X6_goes : Cond.code yX6_goes cX6_goes 4 (none) ∈ lw_tbl := List.mem_of_getElem? (i := 897) (by decide +kernel)
theorem ml_X6_203 : Cond.methodLink RX6 203 yX6_part ∈ lw_tbl := List.mem_of_getElem? (i := 898) (by decide +kernel)
theorem im_X6_part : Cond.instanceMethod yX6_part ∈ lw_tbl := List.mem_of_getElem? (i := 900) (by decide +kernel)
theorem cd_X6_part : Cond.code yX6_part cX6_part 8 (none) ∈ lw_tbl := List.mem_of_getElem? (i := 901) (by decide +kernel)
theorem ml_X6_194 : Cond.methodLink RX6 194 yX6_takes ∈ lw_tbl := List.mem_of_getElem? (i := 902) (by decide +kernel)
theorem im_X6_takes : Cond.instanceMethod yX6_takes ∈ lw_tbl := List.mem_of_getElem? (i := 904) (by decide +kernel)
theorem cd_X6_takes : Cond.code yX6_takes cX6_takes 4 (some .int) ∈ lw_tbl := List.mem_of_getElem? (i := 905) (by decide +kernel)
theorem ml_X6_200 : Cond.methodLink RX6 200 yX6_takesMany ∈ lw_tbl := List.mem_of_getElem? (i := 906) (by decide +kernel)
theorem im_X6_takesMany : Cond.instanceMethod yX6_takesMany ∈ lw_tbl := List.mem_of_getElem? (i := 908) (by decide +kernel)
theorem cd_X6_takesMany : Cond.code yX6_takesMany cX6_takesMany 3 (some .int) ∈ lw_tbl := List.mem_of_getElem? (i := 909) (by decide +kernel)
theorem ml_X6_197 : Cond.methodLink RX6 197 yX6_isNext ∈ lw_tbl := List.mem_of_getElem? (i := 910) (by decide +kernel)
theorem im_X6_isNext : Cond.instanceMethod yX6_isNext ∈ lw_tbl := List.mem_of_getElem? (i := 912) (by decide +kernel)
theorem cd_X6_isNext : Cond.code yX6_isNext cX6_isNext 3 (some .boolean) ∈ lw_tbl := List.mem_of_getElem? (i := 913) (by decide +kernel)
theorem ml_L_35 : Cond.methodLink RL 35 yX6_read ∈ lw_tbl := List.mem_of_getElem? (i := 914) (by decide +kernel)
theorem im_X6_read : Cond.instanceMethod yX6_read ∈ lw_tbl := List.mem_of_getElem? (i := 915) (by decide +kernel)
theorem se_X6_read : Cond.selects RX6 yX6_read yX6_read ∈ lw_tbl := List.mem_of_getElem? (i := 916) (by decide +kernel)
theorem cd_X6_read : Cond.code yX6_read cX6_read 1 (some .int) ∈ lw_tbl := List.mem_of_getElem? (i := 917) (by decide +kernel)
theorem ck_X6_210 : Cond.constant RX6 210 (-100003) ∈ lw_tbl := List.mem_of_getElem? (i := 918) (by decide +kernel)
theorem ml_L_117 : Cond.methodLink RL 117 yX6_undo ∈ lw_tbl := List.mem_of_getElem? (i := 919) (by decide +kernel)
theorem im_X6_undo : Cond.instanceMethod yX6_undo ∈ lw_tbl := List.mem_of_getElem? (i := 920) (by decide +kernel)
theorem se_X6_undo : Cond.selects RX6 yX6_undo yX6_undo ∈ lw_tbl := List.mem_of_getElem? (i := 921) (by decide +kernel)
theorem cd_X6_undo : Cond.code yX6_undo cX6_undo 2 (some .int) ∈ lw_tbl := List.mem_of_getElem? (i := 922) (by decide +kernel)
theorem ml_L_121 : Cond.methodLink RL 121 yX6_save ∈ lw_tbl := List.mem_of_getElem? (i := 923) (by decide +kernel)
theorem im_X6_save : Cond.instanceMethod yX6_save ∈ lw_tbl := List.mem_of_getElem? (i := 924) (by decide +kernel)
theorem se_X6_save : Cond.selects RX6 yX6_save yX6_save ∈ lw_tbl := List.mem_of_getElem? (i := 925) (by decide +kernel)
theorem cd_X6_save : Cond.code yX6_save cX6_save 3 (some .int) ∈ lw_tbl := List.mem_of_getElem? (i := 926) (by decide +kernel)
theorem ml_L_125 : Cond.methodLink RL 125 yX6_restore ∈ lw_tbl := List.mem_of_getElem? (i := 927) (by decide +kernel)
theorem im_X6_restore : Cond.instanceMethod yX6_restore ∈ lw_tbl := List.mem_of_getElem? (i := 928) (by decide +kernel)
theorem se_X6_restore : Cond.selects RX6 yX6_restore yX6_restore ∈ lw_tbl := List.mem_of_getElem? (i := 929) (by decide +kernel)
theorem cd_X6_restore : Cond.code yX6_restore cX6_restore 3 (some .int) ∈ lw_tbl := List.mem_of_getElem? (i := 930) (by decide +kernel)
theorem cl_L_99 : Cond.constantLong RL 99 (4294967295) ∈ lw_tbl := List.mem_of_getElem? (i := 931) (by decide +kernel)
theorem se_X5_remember : Cond.selects RX5 yX5_remember yX5_remember ∈ lw_tbl := List.mem_of_getElem? (i := 0) (by decide +kernel)
theorem se_X5_costOf : Cond.selects RX5 yX5_costOf yX5_costOf ∈ lw_tbl := List.mem_of_getElem? (i := 1) (by decide +kernel)
theorem se_X1_addRow : Cond.selects RX1 yX1_addRow yX1_addRow ∈ lw_tbl := List.mem_of_getElem? (i := 2) (by decide +kernel)
theorem se_X0_charge : Cond.selects RX0 yX0_charge yX0_charge ∈ lw_tbl := List.mem_of_getElem? (i := 3) (by decide +kernel)
theorem se_X0_comesHome : Cond.selects RX0 yX0_comesHome yX0_comesHome ∈ lw_tbl := List.mem_of_getElem? (i := 4) (by decide +kernel)
theorem se_X0_draw : Cond.selects RX0 yX0_draw yX0_draw ∈ lw_tbl := List.mem_of_getElem? (i := 5) (by decide +kernel)
theorem se_X0_openAtCustoms : Cond.selects RX0 yX0_openAtCustoms yX0_openAtCustoms ∈ lw_tbl := List.mem_of_getElem? (i := 6) (by decide +kernel)
theorem se_X0_payDuty : Cond.selects RX0 yX0_payDuty yX0_payDuty ∈ lw_tbl := List.mem_of_getElem? (i := 7) (by decide +kernel)
theorem se_X0_unpack : Cond.selects RX0 yX0_unpack yX0_unpack ∈ lw_tbl := List.mem_of_getElem? (i := 8) (by decide +kernel)
theorem se_X5_pencePartedAt : Cond.selects RX5 yX5_pencePartedAt yX5_pencePartedAt ∈ lw_tbl := List.mem_of_getElem? (i := 9) (by decide +kernel)
theorem se_X5_costWithDuty : Cond.selects RX5 yX5_costWithDuty yX5_costWithDuty ∈ lw_tbl := List.mem_of_getElem? (i := 10) (by decide +kernel)
theorem se_X6_lays : Cond.selects RX6 yX6_lays yX6_lays ∈ lw_tbl := List.mem_of_getElem? (i := 11) (by decide +kernel)
theorem se_X6_record : Cond.selects RX6 yX6_record yX6_record ∈ lw_tbl := List.mem_of_getElem? (i := 12) (by decide +kernel)
theorem se_X6_does : Cond.selects RX6 yX6_does yX6_does ∈ lw_tbl := List.mem_of_getElem? (i := 13) (by decide +kernel)
theorem se_X6_costOf : Cond.selects RX6 yX6_costOf yX6_costOf ∈ lw_tbl := List.mem_of_getElem? (i := 14) (by decide +kernel)
theorem se_X6_valueOf : Cond.selects RX6 yX6_valueOf yX6_valueOf ∈ lw_tbl := List.mem_of_getElem? (i := 15) (by decide +kernel)
theorem se_X6_wanted : Cond.selects RX6 yX6_wanted yX6_wanted ∈ lw_tbl := List.mem_of_getElem? (i := 16) (by decide +kernel)
theorem se_X6_priceIn : Cond.selects RX6 yX6_priceIn yX6_priceIn ∈ lw_tbl := List.mem_of_getElem? (i := 17) (by decide +kernel)
theorem se_X6_postOf : Cond.selects RX6 yX6_postOf yX6_postOf ∈ lw_tbl := List.mem_of_getElem? (i := 18) (by decide +kernel)
theorem se_X6_stringsOf : Cond.selects RX6 yX6_stringsOf yX6_stringsOf ∈ lw_tbl := List.mem_of_getElem? (i := 19) (by decide +kernel)
theorem se_X6_weightOf : Cond.selects RX6 yX6_weightOf yX6_weightOf ∈ lw_tbl := List.mem_of_getElem? (i := 20) (by decide +kernel)
theorem se_X6_chest : Cond.selects RX6 yX6_chest yX6_chest ∈ lw_tbl := List.mem_of_getElem? (i := 21) (by decide +kernel)
theorem se_X6_sends : Cond.selects RX6 yX6_sends yX6_sends ∈ lw_tbl := List.mem_of_getElem? (i := 22) (by decide +kernel)
theorem se_X6_sharesPost : Cond.selects RX6 yX6_sharesPost yX6_sharesPost ∈ lw_tbl := List.mem_of_getElem? (i := 23) (by decide +kernel)
theorem se_X6_shares : Cond.selects RX6 yX6_shares yX6_shares ∈ lw_tbl := List.mem_of_getElem? (i := 24) (by decide +kernel)
theorem se_X6_ownOf : Cond.selects RX6 yX6_ownOf yX6_ownOf ∈ lw_tbl := List.mem_of_getElem? (i := 25) (by decide +kernel)
theorem se_X6_day : Cond.selects RX6 yX6_day yX6_day ∈ lw_tbl := List.mem_of_getElem? (i := 26) (by decide +kernel)
theorem se_X6_comesToCustoms : Cond.selects RX6 yX6_comesToCustoms yX6_comesToCustoms ∈ lw_tbl := List.mem_of_getElem? (i := 27) (by decide +kernel)
theorem se_X6_draw : Cond.selects RX6 yX6_draw yX6_draw ∈ lw_tbl := List.mem_of_getElem? (i := 28) (by decide +kernel)
theorem se_X6_paysDuty : Cond.selects RX6 yX6_paysDuty yX6_paysDuty ∈ lw_tbl := List.mem_of_getElem? (i := 29) (by decide +kernel)
theorem se_X6_dutyOn : Cond.selects RX6 yX6_dutyOn yX6_dutyOn ∈ lw_tbl := List.mem_of_getElem? (i := 30) (by decide +kernel)
theorem se_X6_loses : Cond.selects RX6 yX6_loses yX6_loses ∈ lw_tbl := List.mem_of_getElem? (i := 31) (by decide +kernel)
theorem se_X6_stringsIn : Cond.selects RX6 yX6_stringsIn yX6_stringsIn ∈ lw_tbl := List.mem_of_getElem? (i := 32) (by decide +kernel)
theorem se_X6_comesHome : Cond.selects RX6 yX6_comesHome yX6_comesHome ∈ lw_tbl := List.mem_of_getElem? (i := 33) (by decide +kernel)
theorem se_X6_sum : Cond.selects RX6 yX6_sum yX6_sum ∈ lw_tbl := List.mem_of_getElem? (i := 34) (by decide +kernel)
theorem se_X6_onTheWay : Cond.selects RX6 yX6_onTheWay yX6_onTheWay ∈ lw_tbl := List.mem_of_getElem? (i := 35) (by decide +kernel)
theorem se_X6_membersOf : Cond.selects RX6 yX6_membersOf yX6_membersOf ∈ lw_tbl := List.mem_of_getElem? (i := 36) (by decide +kernel)
theorem se_X6_broken : Cond.selects RX6 yX6_broken yX6_broken ∈ lw_tbl := List.mem_of_getElem? (i := 37) (by decide +kernel)
theorem se_X6_parted : Cond.selects RX6 yX6_parted yX6_parted ∈ lw_tbl := List.mem_of_getElem? (i := 38) (by decide +kernel)
theorem se_X6_putAside : Cond.selects RX6 yX6_putAside yX6_putAside ∈ lw_tbl := List.mem_of_getElem? (i := 39) (by decide +kernel)
theorem se_X6_putBack : Cond.selects RX6 yX6_putBack yX6_putBack ∈ lw_tbl := List.mem_of_getElem? (i := 40) (by decide +kernel)
theorem se_X6_goes : Cond.selects RX6 yX6_goes yX6_goes ∈ lw_tbl := List.mem_of_getElem? (i := 41) (by decide +kernel)
theorem se_X6_part : Cond.selects RX6 yX6_part yX6_part ∈ lw_tbl := List.mem_of_getElem? (i := 42) (by decide +kernel)
theorem se_X6_takes : Cond.selects RX6 yX6_takes yX6_takes ∈ lw_tbl := List.mem_of_getElem? (i := 43) (by decide +kernel)
theorem se_X6_takesMany : Cond.selects RX6 yX6_takesMany yX6_takesMany ∈ lw_tbl := List.mem_of_getElem? (i := 44) (by decide +kernel)
theorem se_X6_isNext : Cond.selects RX6 yX6_isNext yX6_isNext ∈ lw_tbl := List.mem_of_getElem? (i := 45) (by decide +kernel)
theorem mi_X5_init : zMi yX5_init cX5_init 2 (none) 0 := ⟨cd_X5_init, in_X5, ⟨by decide +kernel, by decide +kernel⟩, by decide +kernel⟩
theorem mi_X0_init : zMi yX0_init cX0_init 2 (none) 0 := ⟨cd_X0_init, in_X0, ⟨by decide +kernel, by decide +kernel⟩, by decide +kernel⟩
theorem mi_X4_init : zMi yX4_init cX4_init 1 (none) 0 := ⟨cd_X4_init, in_X4, ⟨by decide +kernel, by decide +kernel⟩, by decide +kernel⟩
theorem mi_X3_init : zMi yX3_init cX3_init 1 (none) 0 := ⟨cd_X3_init, in_X3, ⟨by decide +kernel, by decide +kernel⟩, by decide +kernel⟩
theorem mi_X2_init : zMi yX2_init cX2_init 1 (none) 0 := ⟨cd_X2_init, in_X2, ⟨by decide +kernel, by decide +kernel⟩, by decide +kernel⟩
theorem mi_X1_init : zMi yX1_init cX1_init 1 (none) 0 := ⟨cd_X1_init, in_X1, ⟨by decide +kernel, by decide +kernel⟩, by decide +kernel⟩
theorem mi_X5_set : zMi yX5_set cX5_set 4 (some .int) 2 := ⟨cd_X5_set, in_X5, ⟨by decide +kernel, by decide +kernel⟩, by decide +kernel⟩
theorem mi_X5_remember : zMi yX5_remember cX5_remember 3 (none) 0 := ⟨cd_X5_remember, in_X5, ⟨by decide +kernel, by decide +kernel⟩, by decide +kernel⟩
theorem mi_X0_copyFrom : zMi yX0_copyFrom cX0_copyFrom 3 (none) 1 := ⟨cd_X0_copyFrom, in_X0, ⟨by decide +kernel, by decide +kernel⟩, by decide +kernel⟩
theorem mi_X5_copyRow : zMi yX5_copyRow cX5_copyRow 2 (none) 2 := ⟨cd_X5_copyRow, in_X5, ⟨by decide +kernel, by decide +kernel⟩, by decide +kernel⟩
theorem mi_X5_copyTable : zMi yX5_copyTable cX5_copyTable 3 (none) 2 := ⟨cd_X5_copyTable, in_X5, ⟨by decide +kernel, by decide +kernel⟩, by decide +kernel⟩
theorem mi_X3_copyFrom : zMi yX3_copyFrom cX3_copyFrom 2 (none) 1 := ⟨cd_X3_copyFrom, in_X3, ⟨by decide +kernel, by decide +kernel⟩, by decide +kernel⟩
theorem mi_X5_snap : zMi yX5_snap cX5_snap 3 (some .int) 2 := ⟨cd_X5_snap, in_X5, ⟨by decide +kernel, by decide +kernel⟩, by decide +kernel⟩
theorem mi_X5_isMember : zMi yX5_isMember cX5_isMember 1 (some .boolean) 1 := ⟨cd_X5_isMember, in_X5, ⟨by decide +kernel, by decide +kernel⟩, by decide +kernel⟩
theorem mi_X5_isGauge : zMi yX5_isGauge cX5_isGauge 1 (some .boolean) 1 := ⟨cd_X5_isGauge, in_X5, ⟨by decide +kernel, by decide +kernel⟩, by decide +kernel⟩
theorem mi_X5_isIn : zMi yX5_isIn cX5_isIn 2 (some .boolean) 2 := ⟨cd_X5_isIn, in_X5, ⟨by decide +kernel, by decide +kernel⟩, by decide +kernel⟩
theorem mi_J6_bitCount_0f7a4 : zMi yJ6_bitCount_0f7a4 cJ6_bitCount_0f7a4 1 (some .int) 1 := ⟨cd_J6_bitCount_0f7a4, in_J6, ⟨by decide +kernel, by decide +kernel⟩, by decide +kernel⟩
theorem mi_X5_fit : zMi yX5_fit cX5_fit 4 (some .int) 3 := ⟨cd_X5_fit, in_X5, ⟨by decide +kernel, by decide +kernel⟩, by decide +kernel⟩
theorem mi_X5_want : zMi yX5_want cX5_want 4 (some .int) 3 := ⟨cd_X5_want, in_X5, ⟨by decide +kernel, by decide +kernel⟩, by decide +kernel⟩
theorem mi_X5_costOf : zMi yX5_costOf cX5_costOf 2 (some .int) 1 := ⟨cd_X5_costOf, in_X5, ⟨by decide +kernel, by decide +kernel⟩, by decide +kernel⟩
theorem mi_X1_gather : zMi yX1_gather cX1_gather 4 (none) 2 := ⟨cd_X1_gather, in_X1, ⟨by decide +kernel, by decide +kernel⟩, by decide +kernel⟩
theorem mi_J7_fill_53178 : zMi yJ7_fill_53178 cJ7_fill_53178 4 (none) 2 := ⟨cd_J7_fill_53178, in_J7, ⟨by decide +kernel, by decide +kernel⟩, by decide +kernel⟩
theorem mi_X1_addRow : zMi yX1_addRow cX1_addRow 3 (none) 1 := ⟨cd_X1_addRow, in_X1, ⟨by decide +kernel, by decide +kernel⟩, by decide +kernel⟩
theorem mi_X1_reckon : zMi yX1_reckon cX1_reckon 5 (none) 1 := ⟨cd_X1_reckon, in_X1, ⟨by decide +kernel, by decide +kernel⟩, by decide +kernel⟩
theorem mi_X5_priceOf : zMi yX5_priceOf cX5_priceOf 1 (some .int) 1 := ⟨cd_X5_priceOf, in_X5, ⟨by decide +kernel, by decide +kernel⟩, by decide +kernel⟩
theorem mi_X5_weightOf : zMi yX5_weightOf cX5_weightOf 1 (some .int) 1 := ⟨cd_X5_weightOf, in_X5, ⟨by decide +kernel, by decide +kernel⟩, by decide +kernel⟩
theorem mi_X1_cost : zMi yX1_cost cX1_cost 1 (some .int) 0 := ⟨cd_X1_cost, in_X1, ⟨by decide +kernel, by decide +kernel⟩, by decide +kernel⟩
theorem mi_X5_read : zMi yX5_read cX5_read 1 (some .int) 0 := ⟨cd_X5_read, in_X5, ⟨by decide +kernel, by decide +kernel⟩, by decide +kernel⟩
theorem mi_X2_faultIndex : zMi yX2_faultIndex cX2_faultIndex 3 (some .int) 0 := ⟨cd_X2_faultIndex, in_X2, ⟨by decide +kernel, by decide +kernel⟩, by decide +kernel⟩
theorem mi_X2_placeAfter : zMi yX2_placeAfter cX2_placeAfter 2 (some .int) 2 := ⟨cd_X2_placeAfter, in_X2, ⟨by decide +kernel, by decide +kernel⟩, by decide +kernel⟩
theorem mi_X2_placeAfterFirstDigit : zMi yX2_placeAfterFirstDigit cX2_placeAfterFirstDigit 1 (some .int) 1 := ⟨cd_X2_placeAfterFirstDigit, in_X2, ⟨by decide +kernel, by decide +kernel⟩, by decide +kernel⟩
theorem mi_X2_placeAfterWant : zMi yX2_placeAfterWant cX2_placeAfterWant 1 (some .int) 1 := ⟨cd_X2_placeAfterWant, in_X2, ⟨by decide +kernel, by decide +kernel⟩, by decide +kernel⟩
theorem mi_X2_addWants : zMi yX2_addWants cX2_addWants 8 (none) 1 := ⟨cd_X2_addWants, in_X2, ⟨by decide +kernel, by decide +kernel⟩, by decide +kernel⟩
theorem mi_X0_addWant : zMi yX0_addWant cX0_addWant 4 (none) 3 := ⟨cd_X0_addWant, in_X0, ⟨by decide +kernel, by decide +kernel⟩, by decide +kernel⟩
theorem mi_X5_pay : zMi yX5_pay cX5_pay 3 (some .int) 2 := ⟨cd_X5_pay, in_X5, ⟨by decide +kernel, by decide +kernel⟩, by decide +kernel⟩
theorem mi_X5_give : zMi yX5_give cX5_give 5 (some .int) 4 := ⟨cd_X5_give, in_X5, ⟨by decide +kernel, by decide +kernel⟩, by decide +kernel⟩
theorem mi_X5_send : zMi yX5_send cX5_send 2 (some .int) 1 := ⟨cd_X5_send, in_X5, ⟨by decide +kernel, by decide +kernel⟩, by decide +kernel⟩
theorem mi_X5_isSet : zMi yX5_isSet cX5_isSet 1 (some .boolean) 1 := ⟨cd_X5_isSet, in_X5, ⟨by decide +kernel, by decide +kernel⟩, by decide +kernel⟩
theorem mi_X5_sumOf : zMi yX5_sumOf cX5_sumOf 6 (some .int) 1 := ⟨cd_X5_sumOf, in_X5, ⟨by decide +kernel, by decide +kernel⟩, by decide +kernel⟩
theorem mi_X0_dispatch : zMi yX0_dispatch cX0_dispatch 5 (none) 2 := ⟨cd_X0_dispatch, in_X0, ⟨by decide +kernel, by decide +kernel⟩, by decide +kernel⟩
theorem mi_X1_sharePost : zMi yX1_sharePost cX1_sharePost 4 (none) 2 := ⟨cd_X1_sharePost, in_X1, ⟨by decide +kernel, by decide +kernel⟩, by decide +kernel⟩
theorem mi_X1_weightOfAll : zMi yX1_weightOfAll cX1_weightOfAll 3 (some .int) 1 := ⟨cd_X1_weightOfAll, in_X1, ⟨by decide +kernel, by decide +kernel⟩, by decide +kernel⟩
theorem mi_X4_divide : zMi yX4_divide cX4_divide 5 (none) 1 := ⟨cd_X4_divide, in_X4, ⟨by decide +kernel, by decide +kernel⟩, by decide +kernel⟩
theorem mi_X0_charge : zMi yX0_charge cX0_charge 5 (none) 2 := ⟨cd_X0_charge, in_X0, ⟨by decide +kernel, by decide +kernel⟩, by decide +kernel⟩
theorem mi_X1_ownCost : zMi yX1_ownCost cX1_ownCost 4 (some .int) 1 := ⟨cd_X1_ownCost, in_X1, ⟨by decide +kernel, by decide +kernel⟩, by decide +kernel⟩
theorem mi_X5_pass : zMi yX5_pass cX5_pass 4 (some .int) 1 := ⟨cd_X5_pass, in_X5, ⟨by decide +kernel, by decide +kernel⟩, by decide +kernel⟩
theorem mi_X0_beginDay : zMi yX0_beginDay cX0_beginDay 5 (some .int) 0 := ⟨cd_X0_beginDay, in_X0, ⟨by decide +kernel, by decide +kernel⟩, by decide +kernel⟩
theorem mi_X0_comesHome : zMi yX0_comesHome cX0_comesHome 2 (some .boolean) 1 := ⟨cd_X0_comesHome, in_X0, ⟨by decide +kernel, by decide +kernel⟩, by decide +kernel⟩
theorem mi_X0_draw : zMi yX0_draw cX0_draw 2 (some .int) 1 := ⟨cd_X0_draw, in_X0, ⟨by decide +kernel, by decide +kernel⟩, by decide +kernel⟩
theorem mi_X0_openAtCustoms : zMi yX0_openAtCustoms cX0_openAtCustoms 3 (none) 1 := ⟨cd_X0_openAtCustoms, in_X0, ⟨by decide +kernel, by decide +kernel⟩, by decide +kernel⟩
theorem mi_X0_payDuty : zMi yX0_payDuty cX0_payDuty 3 (none) 1 := ⟨cd_X0_payDuty, in_X0, ⟨by decide +kernel, by decide +kernel⟩, by decide +kernel⟩
theorem mi_X0_fullPriceOf : zMi yX0_fullPriceOf cX0_fullPriceOf 3 (some .int) 1 := ⟨cd_X0_fullPriceOf, in_X0, ⟨by decide +kernel, by decide +kernel⟩, by decide +kernel⟩
theorem mi_X5_dutyOn : zMi yX5_dutyOn cX5_dutyOn 2 (some .int) 2 := ⟨cd_X5_dutyOn, in_X5, ⟨by decide +kernel, by decide +kernel⟩, by decide +kernel⟩
theorem mi_X3_pieces : zMi yX3_pieces cX3_pieces 3 (some .int) 0 := ⟨cd_X3_pieces, in_X3, ⟨by decide +kernel, by decide +kernel⟩, by decide +kernel⟩
theorem mi_X3_loseString : zMi yX3_loseString cX3_loseString 5 (some .int) 1 := ⟨cd_X3_loseString, in_X3, ⟨by decide +kernel, by decide +kernel⟩, by decide +kernel⟩
theorem mi_X0_unpack : zMi yX0_unpack cX0_unpack 5 (none) 1 := ⟨cd_X0_unpack, in_X0, ⟨by decide +kernel, by decide +kernel⟩, by decide +kernel⟩
theorem mi_X5_shuffle : zMi yX5_shuffle cX5_shuffle 3 (some .int) 1 := ⟨cd_X5_shuffle, in_X5, ⟨by decide +kernel, by decide +kernel⟩, by decide +kernel⟩
theorem mi_X5_member : zMi yX5_member cX5_member 3 (some .int) 2 := ⟨cd_X5_member, in_X5, ⟨by decide +kernel, by decide +kernel⟩, by decide +kernel⟩
theorem mi_X0_underwayOf : zMi yX0_underwayOf cX0_underwayOf 4 (some .int) 1 := ⟨cd_X0_underwayOf, in_X0, ⟨by decide +kernel, by decide +kernel⟩, by decide +kernel⟩
theorem mi_X5_strings : zMi yX5_strings cX5_strings 4 (some .int) 3 := ⟨cd_X5_strings, in_X5, ⟨by decide +kernel, by decide +kernel⟩, by decide +kernel⟩
theorem mi_X5_parcel : zMi yX5_parcel cX5_parcel 4 (some .int) 2 := ⟨cd_X5_parcel, in_X5, ⟨by decide +kernel, by decide +kernel⟩, by decide +kernel⟩
theorem mi_X3_owners : zMi yX3_owners cX3_owners 3 (some .int) 0 := ⟨cd_X3_owners, in_X3, ⟨by decide +kernel, by decide +kernel⟩, by decide +kernel⟩
theorem mi_X5_count : zMi yX5_count cX5_count 2 (some .int) 1 := ⟨cd_X5_count, in_X5, ⟨by decide +kernel, by decide +kernel⟩, by decide +kernel⟩
theorem mi_X0_brokenStrings : zMi yX0_brokenStrings cX0_brokenStrings 6 (some .int) 0 := ⟨cd_X0_brokenStrings, in_X0, ⟨by decide +kernel, by decide +kernel⟩, by decide +kernel⟩
theorem mi_X5_order : zMi yX5_order cX5_order 3 (some .int) 2 := ⟨cd_X5_order, in_X5, ⟨by decide +kernel, by decide +kernel⟩, by decide +kernel⟩
theorem mi_X5_share : zMi yX5_share cX5_share 3 (some .int) 2 := ⟨cd_X5_share, in_X5, ⟨by decide +kernel, by decide +kernel⟩, by decide +kernel⟩
theorem mi_X5_ifMore : zMi yX5_ifMore cX5_ifMore 5 (some .int) 3 := ⟨cd_X5_ifMore, in_X5, ⟨by decide +kernel, by decide +kernel⟩, by decide +kernel⟩
theorem mi_X5_bestParting : zMi yX5_bestParting cX5_bestParting 6 (some .int) 1 := ⟨cd_X5_bestParting, in_X5, ⟨by decide +kernel, by decide +kernel⟩, by decide +kernel⟩
theorem mi_X5_pencePartedAt : zMi yX5_pencePartedAt cX5_pencePartedAt 2 (some .int) 1 := ⟨cd_X5_pencePartedAt, in_X5, ⟨by decide +kernel, by decide +kernel⟩, by decide +kernel⟩
theorem mi_X5_costWithDuty : zMi yX5_costWithDuty cX5_costWithDuty 2 (some .int) 1 := ⟨cd_X5_costWithDuty, in_X5, ⟨by decide +kernel, by decide +kernel⟩, by decide +kernel⟩
theorem mi_X5_standIn : zMi yX5_standIn cX5_standIn 4 (some .int) 2 := ⟨cd_X5_standIn, in_X5, ⟨by decide +kernel, by decide +kernel⟩, by decide +kernel⟩
theorem mi_X5_untilHome : zMi yX5_untilHome cX5_untilHome 2 (some .int) 0 := ⟨cd_X5_untilHome, in_X5, ⟨by decide +kernel, by decide +kernel⟩, by decide +kernel⟩
theorem mi_X5_put : zMi yX5_put cX5_put 4 (some .int) 1 := ⟨cd_X5_put, in_X5, ⟨by decide +kernel, by decide +kernel⟩, by decide +kernel⟩
theorem mi_X2_charactersIn : zMi yX2_charactersIn cX2_charactersIn 4 (some .int) 1 := ⟨cd_X2_charactersIn, in_X2, ⟨by decide +kernel, by decide +kernel⟩, by decide +kernel⟩
theorem mi_X2_characterAt : zMi yX2_characterAt cX2_characterAt 3 (some .int) 2 := ⟨cd_X2_characterAt, in_X2, ⟨by decide +kernel, by decide +kernel⟩, by decide +kernel⟩
theorem mi_X2_append : zMi yX2_append cX2_append 5 (none) 2 := ⟨cd_X2_append, in_X2, ⟨by decide +kernel, by decide +kernel⟩, by decide +kernel⟩
theorem mi_X5_wipe : zMi yX5_wipe cX5_wipe 2 (some .int) 0 := ⟨cd_X5_wipe, in_X5, ⟨by decide +kernel, by decide +kernel⟩, by decide +kernel⟩
theorem mi_X5_fault : zMi yX5_fault cX5_fault 1 (some .int) 0 := ⟨cd_X5_fault, in_X5, ⟨by decide +kernel, by decide +kernel⟩, by decide +kernel⟩
theorem mi_X5_undo : zMi yX5_undo cX5_undo 1 (some .int) 0 := ⟨cd_X5_undo, in_X5, ⟨by decide +kernel, by decide +kernel⟩, by decide +kernel⟩
theorem mi_X5_save : zMi yX5_save cX5_save 2 (some .int) 1 := ⟨cd_X5_save, in_X5, ⟨by decide +kernel, by decide +kernel⟩, by decide +kernel⟩
theorem mi_X5_restore : zMi yX5_restore cX5_restore 2 (some .int) 1 := ⟨cd_X5_restore, in_X5, ⟨by decide +kernel, by decide +kernel⟩, by decide +kernel⟩
theorem mi_X6_init : zMi yX6_init cX6_init 1 (none) 0 := ⟨cd_X6_init, in_X6, ⟨by decide +kernel, by decide +kernel⟩, by decide +kernel⟩
theorem mi_X6_set : zMi yX6_set cX6_set 3 (some .int) 2 := ⟨cd_X6_set, in_X6, ⟨by decide +kernel, by decide +kernel⟩, by decide +kernel⟩
theorem mi_X6_in : zMi yX6_in cX6_in 3 (some .boolean) 3 := ⟨cd_X6_in, in_X6, ⟨by decide +kernel, by decide +kernel⟩, by decide +kernel⟩
theorem mi_X6_least : zMi yX6_least cX6_least 1 (some .int) 1 := ⟨cd_X6_least, in_X6, ⟨by decide +kernel, by decide +kernel⟩, by decide +kernel⟩
theorem mi_X6_most : zMi yX6_most cX6_most 1 (some .int) 1 := ⟨cd_X6_most, in_X6, ⟨by decide +kernel, by decide +kernel⟩, by decide +kernel⟩
theorem mi_X6_lays : zMi yX6_lays cX6_lays 4 (some .int) 2 := ⟨cd_X6_lays, in_X6, ⟨by decide +kernel, by decide +kernel⟩, by decide +kernel⟩
theorem mi_X6_record : zMi yX6_record cX6_record 2 (none) 0 := ⟨cd_X6_record, in_X6, ⟨by decide +kernel, by decide +kernel⟩, by decide +kernel⟩
theorem mi_X6_snap : zMi yX6_snap cX6_snap 3 (some .int) 2 := ⟨cd_X6_snap, in_X6, ⟨by decide +kernel, by decide +kernel⟩, by decide +kernel⟩
theorem mi_X6_isMember : zMi yX6_isMember cX6_isMember 1 (some .boolean) 1 := ⟨cd_X6_isMember, in_X6, ⟨by decide +kernel, by decide +kernel⟩, by decide +kernel⟩
theorem mi_X6_isGauge : zMi yX6_isGauge cX6_isGauge 1 (some .boolean) 1 := ⟨cd_X6_isGauge, in_X6, ⟨by decide +kernel, by decide +kernel⟩, by decide +kernel⟩
theorem mi_X6_of : zMi yX6_of cX6_of 2 (some .int) 2 := ⟨cd_X6_of, in_X6, ⟨by decide +kernel, by decide +kernel⟩, by decide +kernel⟩
theorem mi_X6_has : zMi yX6_has cX6_has 2 (some .boolean) 2 := ⟨cd_X6_has, in_X6, ⟨by decide +kernel, by decide +kernel⟩, by decide +kernel⟩
theorem mi_X6_bits : zMi yX6_bits cX6_bits 3 (some .int) 1 := ⟨cd_X6_bits, in_X6, ⟨by decide +kernel, by decide +kernel⟩, by decide +kernel⟩
theorem mi_X6_fit : zMi yX6_fit cX6_fit 4 (some .int) 3 := ⟨cd_X6_fit, in_X6, ⟨by decide +kernel, by decide +kernel⟩, by decide +kernel⟩
theorem mi_X6_does : zMi yX6_does cX6_does 4 (some .boolean) 3 := ⟨cd_X6_does, in_X6, ⟨by decide +kernel, by decide +kernel⟩, by decide +kernel⟩
theorem mi_X6_want : zMi yX6_want cX6_want 5 (some .int) 3 := ⟨cd_X6_want, in_X6, ⟨by decide +kernel, by decide +kernel⟩, by decide +kernel⟩
theorem mi_X6_costOf : zMi yX6_costOf cX6_costOf 2 (some .int) 1 := ⟨cd_X6_costOf, in_X6, ⟨by decide +kernel, by decide +kernel⟩, by decide +kernel⟩
theorem mi_X6_valueOf : zMi yX6_valueOf cX6_valueOf 4 (some .int) 1 := ⟨cd_X6_valueOf, in_X6, ⟨by decide +kernel, by decide +kernel⟩, by decide +kernel⟩
theorem mi_X6_wanted : zMi yX6_wanted cX6_wanted 5 (some .int) 2 := ⟨cd_X6_wanted, in_X6, ⟨by decide +kernel, by decide +kernel⟩, by decide +kernel⟩
theorem mi_X6_priceIn : zMi yX6_priceIn cX6_priceIn 3 (some .int) 2 := ⟨cd_X6_priceIn, in_X6, ⟨by decide +kernel, by decide +kernel⟩, by decide +kernel⟩
theorem mi_X6_price : zMi yX6_price cX6_price 1 (some .int) 1 := ⟨cd_X6_price, in_X6, ⟨by decide +kernel, by decide +kernel⟩, by decide +kernel⟩
theorem mi_X6_postOf : zMi yX6_postOf cX6_postOf 2 (some .int) 1 := ⟨cd_X6_postOf, in_X6, ⟨by decide +kernel, by decide +kernel⟩, by decide +kernel⟩
theorem mi_X6_stringsOf : zMi yX6_stringsOf cX6_stringsOf 4 (some .int) 1 := ⟨cd_X6_stringsOf, in_X6, ⟨by decide +kernel, by decide +kernel⟩, by decide +kernel⟩
theorem mi_X6_weightOf : zMi yX6_weightOf cX6_weightOf 4 (some .int) 1 := ⟨cd_X6_weightOf, in_X6, ⟨by decide +kernel, by decide +kernel⟩, by decide +kernel⟩
theorem mi_X6_pay : zMi yX6_pay cX6_pay 3 (some .int) 2 := ⟨cd_X6_pay, in_X6, ⟨by decide +kernel, by decide +kernel⟩, by decide +kernel⟩
theorem mi_X6_give : zMi yX6_give cX6_give 5 (some .int) 4 := ⟨cd_X6_give, in_X6, ⟨by decide +kernel, by decide +kernel⟩, by decide +kernel⟩
theorem mi_X6_send : zMi yX6_send cX6_send 3 (some .int) 1 := ⟨cd_X6_send, in_X6, ⟨by decide +kernel, by decide +kernel⟩, by decide +kernel⟩
theorem mi_X6_chest : zMi yX6_chest cX6_chest 3 (some .int) 0 := ⟨cd_X6_chest, in_X6, ⟨by decide +kernel, by decide +kernel⟩, by decide +kernel⟩
theorem mi_X6_sends : zMi yX6_sends cX6_sends 6 (none) 1 := ⟨cd_X6_sends, in_X6, ⟨by decide +kernel, by decide +kernel⟩, by decide +kernel⟩
theorem mi_X6_ofParcel : zMi yX6_ofParcel cX6_ofParcel 2 (some .int) 2 := ⟨cd_X6_ofParcel, in_X6, ⟨by decide +kernel, by decide +kernel⟩, by decide +kernel⟩
theorem mi_X6_sharesPost : zMi yX6_sharesPost cX6_sharesPost 3 (none) 1 := ⟨cd_X6_sharesPost, in_X6, ⟨by decide +kernel, by decide +kernel⟩, by decide +kernel⟩
theorem mi_X6_shares : zMi yX6_shares cX6_shares 6 (none) 1 := ⟨cd_X6_shares, in_X6, ⟨by decide +kernel, by decide +kernel⟩, by decide +kernel⟩
theorem mi_X6_ownOf : zMi yX6_ownOf cX6_ownOf 5 (some .int) 2 := ⟨cd_X6_ownOf, in_X6, ⟨by decide +kernel, by decide +kernel⟩, by decide +kernel⟩
theorem mi_X6_pass : zMi yX6_pass cX6_pass 4 (some .int) 1 := ⟨cd_X6_pass, in_X6, ⟨by decide +kernel, by decide +kernel⟩, by decide +kernel⟩
theorem mi_X6_day : zMi yX6_day cX6_day 5 (some .int) 0 := ⟨cd_X6_day, in_X6, ⟨by decide +kernel, by decide +kernel⟩, by decide +kernel⟩
theorem mi_X6_comesToCustoms : zMi yX6_comesToCustoms cX6_comesToCustoms 2 (some .boolean) 1 := ⟨cd_X6_comesToCustoms, in_X6, ⟨by decide +kernel, by decide +kernel⟩, by decide +kernel⟩
theorem mi_X6_draw : zMi yX6_draw cX6_draw 4 (some .int) 1 := ⟨cd_X6_draw, in_X6, ⟨by decide +kernel, by decide +kernel⟩, by decide +kernel⟩
theorem mi_X6_paysDuty : zMi yX6_paysDuty cX6_paysDuty 5 (none) 1 := ⟨cd_X6_paysDuty, in_X6, ⟨by decide +kernel, by decide +kernel⟩, by decide +kernel⟩
theorem mi_X6_dutyOn : zMi yX6_dutyOn cX6_dutyOn 2 (some .int) 1 := ⟨cd_X6_dutyOn, in_X6, ⟨by decide +kernel, by decide +kernel⟩, by decide +kernel⟩
theorem mi_X6_ofString : zMi yX6_ofString cX6_ofString 3 (some .int) 3 := ⟨cd_X6_ofString, in_X6, ⟨by decide +kernel, by decide +kernel⟩, by decide +kernel⟩
theorem mi_X6_loses : zMi yX6_loses cX6_loses 4 (none) 1 := ⟨cd_X6_loses, in_X6, ⟨by decide +kernel, by decide +kernel⟩, by decide +kernel⟩
theorem mi_X6_stringsIn : zMi yX6_stringsIn cX6_stringsIn 4 (some .int) 1 := ⟨cd_X6_stringsIn, in_X6, ⟨by decide +kernel, by decide +kernel⟩, by decide +kernel⟩
theorem mi_X6_comesHome : zMi yX6_comesHome cX6_comesHome 6 (none) 1 := ⟨cd_X6_comesHome, in_X6, ⟨by decide +kernel, by decide +kernel⟩, by decide +kernel⟩
theorem mi_X6_shuffle : zMi yX6_shuffle cX6_shuffle 2 (some .int) 1 := ⟨cd_X6_shuffle, in_X6, ⟨by decide +kernel, by decide +kernel⟩, by decide +kernel⟩
theorem mi_X6_member : zMi yX6_member cX6_member 3 (some .int) 2 := ⟨cd_X6_member, in_X6, ⟨by decide +kernel, by decide +kernel⟩, by decide +kernel⟩
theorem mi_X6_sum : zMi yX6_sum cX6_sum 5 (some .int) 2 := ⟨cd_X6_sum, in_X6, ⟨by decide +kernel, by decide +kernel⟩, by decide +kernel⟩
theorem mi_X6_onTheWay : zMi yX6_onTheWay cX6_onTheWay 4 (some .int) 1 := ⟨cd_X6_onTheWay, in_X6, ⟨by decide +kernel, by decide +kernel⟩, by decide +kernel⟩
theorem mi_X6_strings : zMi yX6_strings cX6_strings 4 (some .int) 3 := ⟨cd_X6_strings, in_X6, ⟨by decide +kernel, by decide +kernel⟩, by decide +kernel⟩
theorem mi_X6_parcel : zMi yX6_parcel cX6_parcel 3 (some .int) 2 := ⟨cd_X6_parcel, in_X6, ⟨by decide +kernel, by decide +kernel⟩, by decide +kernel⟩
theorem mi_X6_membersOf : zMi yX6_membersOf cX6_membersOf 4 (some .int) 1 := ⟨cd_X6_membersOf, in_X6, ⟨by decide +kernel, by decide +kernel⟩, by decide +kernel⟩
theorem mi_X6_count : zMi yX6_count cX6_count 2 (some .int) 1 := ⟨cd_X6_count, in_X6, ⟨by decide +kernel, by decide +kernel⟩, by decide +kernel⟩
theorem mi_X6_broken : zMi yX6_broken cX6_broken 3 (some .int) 0 := ⟨cd_X6_broken, in_X6, ⟨by decide +kernel, by decide +kernel⟩, by decide +kernel⟩
theorem mi_X6_order : zMi yX6_order cX6_order 3 (some .int) 2 := ⟨cd_X6_order, in_X6, ⟨by decide +kernel, by decide +kernel⟩, by decide +kernel⟩
theorem mi_X6_share : zMi yX6_share cX6_share 3 (some .int) 2 := ⟨cd_X6_share, in_X6, ⟨by decide +kernel, by decide +kernel⟩, by decide +kernel⟩
theorem mi_X6_ifMore : zMi yX6_ifMore cX6_ifMore 6 (some .int) 3 := ⟨cd_X6_ifMore, in_X6, ⟨by decide +kernel, by decide +kernel⟩, by decide +kernel⟩
theorem mi_X6_bestParting : zMi yX6_bestParting cX6_bestParting 4 (some .int) 1 := ⟨cd_X6_bestParting, in_X6, ⟨by decide +kernel, by decide +kernel⟩, by decide +kernel⟩
theorem mi_X6_parted : zMi yX6_parted cX6_parted 3 (some .int) 1 := ⟨cd_X6_parted, in_X6, ⟨by decide +kernel, by decide +kernel⟩, by decide +kernel⟩
theorem mi_X6_standIn : zMi yX6_standIn cX6_standIn 3 (some .int) 2 := ⟨cd_X6_standIn, in_X6, ⟨by decide +kernel, by decide +kernel⟩, by decide +kernel⟩
theorem mi_X6_untilHome : zMi yX6_untilHome cX6_untilHome 3 (some .int) 0 := ⟨cd_X6_untilHome, in_X6, ⟨by decide +kernel, by decide +kernel⟩, by decide +kernel⟩
theorem mi_X6_putAside : zMi yX6_putAside cX6_putAside 2 (none) 0 := ⟨cd_X6_putAside, in_X6, ⟨by decide +kernel, by decide +kernel⟩, by decide +kernel⟩
theorem mi_X6_putBack : zMi yX6_putBack cX6_putBack 2 (none) 0 := ⟨cd_X6_putBack, in_X6, ⟨by decide +kernel, by decide +kernel⟩, by decide +kernel⟩
theorem mi_X6_put : zMi yX6_put cX6_put 8 (some .int) 1 := ⟨cd_X6_put, in_X6, ⟨by decide +kernel, by decide +kernel⟩, by decide +kernel⟩
theorem mi_X6_wipe : zMi yX6_wipe cX6_wipe 2 (some .int) 0 := ⟨cd_X6_wipe, in_X6, ⟨by decide +kernel, by decide +kernel⟩, by decide +kernel⟩
theorem mi_X6_fault : zMi yX6_fault cX6_fault 1 (some .int) 0 := ⟨cd_X6_fault, in_X6, ⟨by decide +kernel, by decide +kernel⟩, by decide +kernel⟩
theorem mi_X6_goes : zMi yX6_goes cX6_goes 4 (none) 1 := ⟨cd_X6_goes, in_X6, ⟨by decide +kernel, by decide +kernel⟩, by decide +kernel⟩
theorem mi_X6_part : zMi yX6_part cX6_part 8 (none) 1 := ⟨cd_X6_part, in_X6, ⟨by decide +kernel, by decide +kernel⟩, by decide +kernel⟩
theorem mi_X6_takes : zMi yX6_takes cX6_takes 4 (some .int) 2 := ⟨cd_X6_takes, in_X6, ⟨by decide +kernel, by decide +kernel⟩, by decide +kernel⟩
theorem mi_X6_takesMany : zMi yX6_takesMany cX6_takesMany 3 (some .int) 0 := ⟨cd_X6_takesMany, in_X6, ⟨by decide +kernel, by decide +kernel⟩, by decide +kernel⟩
theorem mi_X6_isNext : zMi yX6_isNext cX6_isNext 3 (some .boolean) 2 := ⟨cd_X6_isNext, in_X6, ⟨by decide +kernel, by decide +kernel⟩, by decide +kernel⟩
theorem mi_X6_read : zMi yX6_read cX6_read 1 (some .int) 0 := ⟨cd_X6_read, in_X6, ⟨by decide +kernel, by decide +kernel⟩, by decide +kernel⟩
theorem mi_X6_undo : zMi yX6_undo cX6_undo 2 (some .int) 0 := ⟨cd_X6_undo, in_X6, ⟨by decide +kernel, by decide +kernel⟩, by decide +kernel⟩
theorem mi_X6_save : zMi yX6_save cX6_save 3 (some .int) 1 := ⟨cd_X6_save, in_X6, ⟨by decide +kernel, by decide +kernel⟩, by decide +kernel⟩
theorem mi_X6_restore : zMi yX6_restore cX6_restore 3 (some .int) 1 := ⟨cd_X6_restore, in_X6, ⟨by decide +kernel, by decide +kernel⟩, by decide +kernel⟩
theorem ci_X0 : zCi 0 RX0 TX0 15 tyX0 := ⟨rfl, inX0, tyX0_ok, nmX0, by decide +kernel⟩
theorem ci_X1 : zCi 1 RX1 TX1 6 tyX1 := ⟨rfl, inX1, tyX1_ok, nmX1, by decide +kernel⟩
theorem ci_X2 : zCi 2 RX2 TX2 2 tyX2 := ⟨rfl, inX2, tyX2_ok, nmX2, by decide +kernel⟩
theorem ci_X3 : zCi 3 RX3 TX3 4 tyX3 := ⟨rfl, inX3, tyX3_ok, nmX3, by decide +kernel⟩
theorem ci_X4 : zCi 4 RX4 TX4 2 tyX4 := ⟨rfl, inX4, tyX4_ok, nmX4, by decide +kernel⟩
theorem ci_X5 : zCi 5 RX5 TX5 8 tyX5 := ⟨rfl, inX5, tyX5_ok, nmX5, by decide +kernel⟩
theorem ci_X6 : zCi 6 RX6 TX6 12 tyX6 := ⟨rfl, inX6, tyX6_ok, nmX6, by decide +kernel⟩
end
section
/-! rows for ints that are known as naturals, and for truth values -/
def zb (x : Bool) : Int32 := if x then 1 else 0
theorem zb_t : zb true = 1 := rfl
theorem zb_f : zb false = 0 := rfl
theorem zb_n (x : Bool) : narrow .boolean (.int (zb x)) = .int (zb x) := by cases x <;> rfl
theorem zb_fit (x : Bool) : fits .boolean (.int (zb x)) = true := by cases x <;> rfl
theorem zb_inj {x w : Bool} : zb x = zb w ↔ x = w := by cases x <;> cases w <;> decide
/-- an int as an index below n -/
def zix (v : Int32) (n : Nat) : Option Nat := if 0 ≤ v.toInt ∧ v.toInt < n then some v.toInt.toNat else none
theorem zix_some {v : Int32} {n i : Nat} (h : zix v n = some i) (hn : n < 2 ^ 31) : i < n ∧ v = nI i := by
  unfold zix at h
  split at h
  · rename_i hc
    have h1 := Option.some.inj h
    refine ⟨by omega, Int32.toInt_inj.mp ?_⟩
    rw [nI_toInt (by omega)]
    omega
  · cases h
theorem zix_nI {n i : Nat} (h : i < n) (hn : n < 2 ^ 31) : zix (nI i) n = some i := by
  unfold zix
  rw [nI_toInt (by omega), if_pos (by omega)]
  simp
theorem zix_none {n i : Nat} (h : ¬ i < n) (hi : i < 2 ^ 31) : zix (nI i) n = none := by
  unfold zix
  rw [nI_toInt hi, if_neg (by omega)]
/-- v lies between two ints -/
def zbe (v lo hi : Int32) : Bool := decide (lo ≤ v) && decide (v ≤ hi)
theorem zbe_ix (v : Int32) {n : Nat} (hn : n + 1 < 2 ^ 31) : zbe v 0 (nI n) = (zix v (n + 1)).isSome := by
  unfold zbe zix
  have h2 := nI_toInt (n := n) (by omega)
  by_cases h : 0 ≤ v.toInt ∧ v.toInt < ((n + 1 : Nat) : Int)
  · rw [if_pos h]
    have a1 : (0 : Int32) ≤ v := Int32.le_iff_toInt_le.mpr (by simpa using h.1)
    have a2 : v ≤ nI n := Int32.le_iff_toInt_le.mpr (by rw [h2]; omega)
    simp [a1, a2]
  · rw [if_neg h]
    by_cases b1 : (0 : Int32) ≤ v
    · have h1 : 0 ≤ v.toInt := by simpa using Int32.le_iff_toInt_le.mp b1
      have a2 : ¬ v ≤ nI n := fun q => by have := Int32.le_iff_toInt_le.mp q; rw [h2] at this; omega
      simp [a2]
    · simp [b1]
/-- whether bit k is in a set -/
def zHas (x : Int32) (k : Nat) : Bool := decide ((x >>> (nI k &&& 31)) &&& 1 = 1)
def lsum (f : Nat → Int32) : Nat → Int32
  | 0 => 0
  | k + 1 => lsum f k + f k
theorem lsum_s (f : Nat → Int32) (k : Nat) : lsum f (k + 1) = lsum f k + f k := rfl
theorem lsum_congr {f g : Nat → Int32} : ∀ {n : Nat}, (∀ k, k < n → f k = g k) → lsum f n = lsum g n
  | 0, _ => rfl
  | n + 1, h => by rw [lsum_s, lsum_s, lsum_congr (fun k hk => h k (by omega)), h n (by omega)]
def ub (f : Nat → Bool) (k : Nat) (x : Bool) : Nat → Bool := fun j => if j = k then x else f j
theorem ub_zb (f : Nat → Bool) (k : Nat) (x : Bool) : upd (fun j => zb (f j)) k (zb x) = fun j => zb (ub f k x j) := by
  funext j
  by_cases h : j = k <;> simp [upd, ub, h]
section ZN
variable {K : zK} {G : zG} {y : MethodName} {b : ByteArray} {nL : Nat} {R : Room} {ret : Option FieldType} {Q : State → Prop} {cells slots : Nat} {M : zM} {N pc : Nat} {lv : List (Nat × Value)} {st : List Value}
theorem r_iaddN (h : zOk K G y b nL R ret) {i j : Nat} (hd : decode b pc = .ok (.iadd, 1)) (k : zW K G nL Q cells slots M N (pc + 1) lv (.int (nI (i + j)) :: st)) : zW K G nL Q cells slots M N pc lv (.int (nI j) :: .int (nI i) :: st) := r_iadd h hd (by rw [nI_add]; exact k)
theorem r_isubN (h : zOk K G y b nL R ret) {i j : Nat} (hij : j ≤ i) (hd : decode b pc = .ok (.isub, 1)) (k : zW K G nL Q cells slots M N (pc + 1) lv (.int (nI (i - j)) :: st)) : zW K G nL Q cells slots M N pc lv (.int (nI j) :: .int (nI i) :: st) := r_isub h hd (by rw [pk_sub hij]; exact k)
theorem r_imulN (h : zOk K G y b nL R ret) {i j : Nat} (hd : decode b pc = .ok (.imul, 1)) (k : zW K G nL Q cells slots M N (pc + 1) lv (.int (nI (i * j)) :: st)) : zW K G nL Q cells slots M N pc lv (.int (nI j) :: .int (nI i) :: st) := r_imul h hd (by rw [pk_mul]; exact k)
theorem r_idivN (h : zOk K G y b nL R ret) {i j : Nat} (hi : i < 2 ^ 31) (h0 : 0 < j) (hj : j < 2 ^ 31) (hd : decode b pc = .ok (.idiv, 1)) (k : zW K G nL Q cells slots M N (pc + 1) lv (.int (nI (i / j)) :: st)) : zW K G nL Q cells slots M N pc lv (.int (nI j) :: .int (nI i) :: st) := r_idiv h (nI_ne0 h0 hj) hd (by rw [pk_div hi h0 hj]; exact k)
theorem r_iremN (h : zOk K G y b nL R ret) {i j : Nat} (hi : i < 2 ^ 31) (h0 : 0 < j) (hj : j < 2 ^ 31) (hd : decode b pc = .ok (.irem, 1)) (k : zW K G nL Q cells slots M N (pc + 1) lv (.int (nI (i % j)) :: st)) : zW K G nL Q cells slots M N pc lv (.int (nI j) :: .int (nI i) :: st) := r_irem h (nI_ne0 h0 hj) hd (by rw [pk_rem hi h0 hj]; exact k)
theorem r_iincN (h : zOk K G y b nL R ret) {i c : Nat} {n : Int} {x : Nat} (lv' : List (Nat × Value)) (hd : decode b pc = .ok (.iinc i n, 3)) (j : Nat) (hj : lv[j]? = some (i, .int (nI x))) (hn : Int32.ofInt n = nI c) (hi : i < nL) (hl : (i, Value.int (nI (x + c))) :: lv.filter (fun q => !(q.1 == i) && !(q.1 + 1 == i && q.2.category == 2)) = lv') (k : zW K G nL Q cells slots M N (pc + 3) lv' st) : zW K G nL Q cells slots M N pc lv st := r_iinc h (nI (x + c)) lv' hd j hj (by rw [hn, nI_add]) hi hl k
theorem r_iincM (h : zOk K G y b nL R ret) {i : Nat} {x : Nat} (lv' : List (Nat × Value)) (hd : decode b pc = .ok (.iinc i (-1), 3)) (j : Nat) (hj : lv[j]? = some (i, .int (nI (x + 1)))) (hi : i < nL) (hl : (i, Value.int (nI x)) :: lv.filter (fun q => !(q.1 == i) && !(q.1 + 1 == i && q.2.category == 2)) = lv') (k : zW K G nL Q cells slots M N (pc + 3) lv' st) : zW K G nL Q cells slots M N pc lv st := r_iinc h (nI x) lv' hd j hj (pk_m1 x) hi hl k
theorem r_ialdN (h : zOk K G y b nL R ret) {a n : Nat} {f : Nat → Int32} {i : Nat} (hi : i < n) (hn : n < 2 ^ 31) (hd : decode b pc = .ok (.iaload, 1)) (hM : M a = some (zI (G.2.1 0) n f)) (kk : zW K G nL Q cells slots M N (pc + 1) lv (.int (f i) :: st)) : zW K G nL Q cells slots M N pc lv (.int (nI i) :: .ref a :: st) := r_iald h hd hM (vp_in_nI hi hn) (by rw [nI_clamp (by omega)]; exact kk)
theorem r_zaldN (h : zOk K G y b nL R ret) {a n : Nat} {f : Nat → Bool} {i : Nat} (hi : i < n) (hn : n < 2 ^ 31) (hd : decode b pc = .ok (.baload, 1)) (hM : M a = some (zI (G.2.1 2) n (fun j => zb (f j)))) (kk : zW K G nL Q cells slots M N (pc + 1) lv (.int (zb (f i)) :: st)) : zW K G nL Q cells slots M N pc lv (.int (nI i) :: .ref a :: st) := r_zald h hd hM (vp_in_nI hi hn) (by rw [nI_clamp (by omega)]; exact kk)
theorem r_caldN (h : zOk K G y b nL R ret) {a n : Nat} {f : Nat → Int32} {i : Nat} (hi : i < n) (hn : n < 2 ^ 31) (hd : decode b pc = .ok (.caload, 1)) (hM : M a = some (zI (G.2.1 1) n f)) (kk : zW K G nL Q cells slots M N (pc + 1) lv (.int (f i) :: st)) : zW K G nL Q cells slots M N pc lv (.int (nI i) :: .ref a :: st) := r_cald h hd hM (vp_in_nI hi hn) (by rw [nI_clamp (by omega)]; exact kk)
theorem r_aaldN (h : zOk K G y b nL R ret) {a n : Nat} {f : Nat → Option Nat} {i : Nat} (t : Nat) (ht : zRt t) (v : Nat) (hi : i < n) (hn : n < 2 ^ 31) (hd : decode b pc = .ok (.aaload, 1)) (hM : M a = some (zR (G.2.1 t) n f)) (hv : f i = some v) (kk : zW K G nL Q cells slots M N (pc + 1) lv (.ref v :: st)) : zW K G nL Q cells slots M N pc lv (.int (nI i) :: .ref a :: st) := r_aald h t ht v hd hM (vp_in_nI hi hn) (by rw [nI_clamp (by omega)]; exact hv) kk
theorem r_iastN (h : zOk K G y b nL R ret) {a n : Nat} {f : Nat → Int32} {i : Nat} {x : Int32} {M' : zM} (hi : i < n) (hn : n < 2 ^ 31) (hd : decode b pc = .ok (.iastore, 1)) (hM : M a = some (zI (G.2.1 0) n f)) (hM' : zu M a (zI (G.2.1 0) n (upd f i x)) = M') (kk : zW K G nL Q cells slots M' N (pc + 1) lv st) : zW K G nL Q cells slots M N pc lv (.int x :: .int (nI i) :: .ref a :: st) := r_iast h hd hM (vp_in_nI hi hn) (by rw [nI_clamp (by omega)]; exact hM') kk
theorem r_zastN (h : zOk K G y b nL R ret) {a n : Nat} {f : Nat → Bool} {i : Nat} {x : Bool} {M' : zM} (hi : i < n) (hn : n < 2 ^ 31) (hd : decode b pc = .ok (.bastore, 1)) (hM : M a = some (zI (G.2.1 2) n (fun j => zb (f j)))) (hM' : zu M a (zI (G.2.1 2) n (fun j => zb (ub f i x j))) = M') (kk : zW K G nL Q cells slots M' N (pc + 1) lv st) : zW K G nL Q cells slots M N pc lv (.int (zb x) :: .int (nI i) :: .ref a :: st) := r_zast h hd hM (vp_in_nI hi hn) (zb_n x) (by rw [nI_clamp (by omega), ub_zb]; exact hM') kk
theorem r_castN (h : zOk K G y b nL R ret) {a n : Nat} {f : Nat → Int32} {i : Nat} {x : Int32} {M' : zM} (hi : i < n) (hn : n < 2 ^ 31) (hx : narrow .char (.int x) = .int x) (hd : decode b pc = .ok (.castore, 1)) (hM : M a = some (zI (G.2.1 1) n f)) (hM' : zu M a (zI (G.2.1 1) n (upd f i x)) = M') (kk : zW K G nL Q cells slots M' N (pc + 1) lv st) : zW K G nL Q cells slots M N pc lv (.int x :: .int (nI i) :: .ref a :: st) := r_cast h hd hM (vp_in_nI hi hn) hx (by rw [nI_clamp (by omega)]; exact hM') kk
/-! branches on truth values -/
theorem r_ifeqZ (h : zOk K G y b nL R ret) {x : Bool} {off : Int} (tgt : Nat) (hd : decode b pc = .ok (.ifCond .eq off, 3)) (ht : (pc : Int) + off = (tgt : Int)) (kt : x = false → zW K G nL Q cells slots M N tgt lv st) (kf : x = true → zW K G nL Q cells slots M N (pc + 3) lv st) : zW K G nL Q cells slots M N pc lv (.int (zb x) :: st) := by
  cases x
  · exact r_if_eq h tgt hd ht (fun _ => kt rfl) (fun q => absurd rfl q)
  · exact r_if_eq h tgt hd ht (fun q => absurd q (by decide)) (fun _ => kf rfl)
theorem r_ifneZ (h : zOk K G y b nL R ret) {x : Bool} {off : Int} (tgt : Nat) (hd : decode b pc = .ok (.ifCond .ne off, 3)) (ht : (pc : Int) + off = (tgt : Int)) (kt : x = true → zW K G nL Q cells slots M N tgt lv st) (kf : x = false → zW K G nL Q cells slots M N (pc + 3) lv st) : zW K G nL Q cells slots M N pc lv (.int (zb x) :: st) := by
  cases x
  · exact r_if_ne h tgt hd ht (fun q => absurd rfl q) (fun _ => kf rfl)
  · exact r_if_ne h tgt hd ht (fun _ => kt rfl) (fun q => absurd q (by decide))
theorem r_icmp_eqN (h : zOk K G y b nL R ret) {i j : Nat} {off : Int} (tgt : Nat) (hi : i < 2 ^ 31) (hj : j < 2 ^ 31) (hd : decode b pc = .ok (.if_icmp .eq off, 3)) (ht : (pc : Int) + off = (tgt : Int)) (kt : i = j → zW K G nL Q cells slots M N tgt lv st) (kf : i ≠ j → zW K G nL Q cells slots M N (pc + 3) lv st) : zW K G nL Q cells slots M N pc lv (.int (nI j) :: .int (nI i) :: st) := r_icmp_eq h tgt hd ht (fun q => kt ((nI_eq hi hj).mp q)) (fun q => kf (fun z => q (by rw [z])))
theorem r_icmp_neN (h : zOk K G y b nL R ret) {i j : Nat} {off : Int} (tgt : Nat) (hi : i < 2 ^ 31) (hj : j < 2 ^ 31) (hd : decode b pc = .ok (.if_icmp .ne off, 3)) (ht : (pc : Int) + off = (tgt : Int)) (kt : i ≠ j → zW K G nL Q cells slots M N tgt lv st) (kf : i = j → zW K G nL Q cells slots M N (pc + 3) lv st) : zW K G nL Q cells slots M N pc lv (.int (nI j) :: .int (nI i) :: st) := r_icmp_ne h tgt hd ht (fun q => kt (fun z => q (by rw [z]))) (fun q => kf ((nI_eq hi hj).mp q))
theorem r_icmp_ltN (h : zOk K G y b nL R ret) {i j : Nat} {off : Int} (tgt : Nat) (hi : i < 2 ^ 31) (hj : j < 2 ^ 31) (hd : decode b pc = .ok (.if_icmp .lt off, 3)) (ht : (pc : Int) + off = (tgt : Int)) (kt : i < j → zW K G nL Q cells slots M N tgt lv st) (kf : j ≤ i → zW K G nL Q cells slots M N (pc + 3) lv st) : zW K G nL Q cells slots M N pc lv (.int (nI j) :: .int (nI i) :: st) := r_icmp_lt h tgt hd ht (fun q => kt ((nI_ltI hi hj).mp q)) (fun q => kf (Nat.le_of_not_lt fun z => q ((nI_ltI hi hj).mpr z)))
theorem r_icmp_geN (h : zOk K G y b nL R ret) {i j : Nat} {off : Int} (tgt : Nat) (hi : i < 2 ^ 31) (hj : j < 2 ^ 31) (hd : decode b pc = .ok (.if_icmp .ge off, 3)) (ht : (pc : Int) + off = (tgt : Int)) (kt : j ≤ i → zW K G nL Q cells slots M N tgt lv st) (kf : i < j → zW K G nL Q cells slots M N (pc + 3) lv st) : zW K G nL Q cells slots M N pc lv (.int (nI j) :: .int (nI i) :: st) := r_icmp_ge h tgt hd ht (fun q => kt ((nI_leI hj hi).mp q)) (fun q => kf (Nat.lt_of_not_le fun z => q ((nI_leI hj hi).mpr z)))
theorem r_icmp_gtN (h : zOk K G y b nL R ret) {i j : Nat} {off : Int} (tgt : Nat) (hi : i < 2 ^ 31) (hj : j < 2 ^ 31) (hd : decode b pc = .ok (.if_icmp .gt off, 3)) (ht : (pc : Int) + off = (tgt : Int)) (kt : j < i → zW K G nL Q cells slots M N tgt lv st) (kf : i ≤ j → zW K G nL Q cells slots M N (pc + 3) lv st) : zW K G nL Q cells slots M N pc lv (.int (nI j) :: .int (nI i) :: st) := r_icmp_gt h tgt hd ht (fun q => kt ((nI_ltI hj hi).mp q)) (fun q => kf (Nat.le_of_not_lt fun z => q ((nI_ltI hj hi).mpr z)))
theorem r_icmp_leN (h : zOk K G y b nL R ret) {i j : Nat} {off : Int} (tgt : Nat) (hi : i < 2 ^ 31) (hj : j < 2 ^ 31) (hd : decode b pc = .ok (.if_icmp .le off, 3)) (ht : (pc : Int) + off = (tgt : Int)) (kt : i ≤ j → zW K G nL Q cells slots M N tgt lv st) (kf : j < i → zW K G nL Q cells slots M N (pc + 3) lv st) : zW K G nL Q cells slots M N pc lv (.int (nI j) :: .int (nI i) :: st) := r_icmp_le h tgt hd ht (fun q => kt ((nI_leI hi hj).mp q)) (fun q => kf (Nat.lt_of_not_le fun z => q ((nI_leI hi hj).mpr z)))
theorem r_if_eqN (h : zOk K G y b nL R ret) {i : Nat} {off : Int} (tgt : Nat) (hi : i < 2 ^ 31) (hd : decode b pc = .ok (.ifCond .eq off, 3)) (ht : (pc : Int) + off = (tgt : Int)) (kt : i = 0 → zW K G nL Q cells slots M N tgt lv st) (kf : i ≠ 0 → zW K G nL Q cells slots M N (pc + 3) lv st) : zW K G nL Q cells slots M N pc lv (.int (nI i) :: st) := by
  have h0 := nI_toInt hi
  have e : (0 : Int32).toInt = 0 := rfl
  refine r_if_eq h tgt hd ht (fun q => kt ?_) (fun q => kf ?_) <;> first | trivial | (simp only [Int32.lt_iff_toInt_lt, Int32.le_iff_toInt_le, ← Int32.toInt_inj, h0, e] at q; omega)
theorem r_if_neN (h : zOk K G y b nL R ret) {i : Nat} {off : Int} (tgt : Nat) (hi : i < 2 ^ 31) (hd : decode b pc = .ok (.ifCond .ne off, 3)) (ht : (pc : Int) + off = (tgt : Int)) (kt : i ≠ 0 → zW K G nL Q cells slots M N tgt lv st) (kf : i = 0 → zW K G nL Q cells slots M N (pc + 3) lv st) : zW K G nL Q cells slots M N pc lv (.int (nI i) :: st) := by
  have h0 := nI_toInt hi
  have e : (0 : Int32).toInt = 0 := rfl
  refine r_if_ne h tgt hd ht (fun q => kt ?_) (fun q => kf ?_) <;> first | trivial | (simp only [Int32.lt_iff_toInt_lt, Int32.le_iff_toInt_le, ← Int32.toInt_inj, h0, e] at q; omega)
theorem r_if_ltN (h : zOk K G y b nL R ret) {i : Nat} {off : Int} (tgt : Nat) (hi : i < 2 ^ 31) (hd : decode b pc = .ok (.ifCond .lt off, 3)) (ht : (pc : Int) + off = (tgt : Int)) (kt : False → zW K G nL Q cells slots M N tgt lv st) (kf : True → zW K G nL Q cells slots M N (pc + 3) lv st) : zW K G nL Q cells slots M N pc lv (.int (nI i) :: st) := by
  have h0 := nI_toInt hi
  have e : (0 : Int32).toInt = 0 := rfl
  refine r_if_lt h tgt hd ht (fun q => kt ?_) (fun q => kf ?_) <;> first | trivial | (simp only [Int32.lt_iff_toInt_lt, Int32.le_iff_toInt_le, ← Int32.toInt_inj, h0, e] at q; omega)
theorem r_if_geN (h : zOk K G y b nL R ret) {i : Nat} {off : Int} (tgt : Nat) (hi : i < 2 ^ 31) (hd : decode b pc = .ok (.ifCond .ge off, 3)) (ht : (pc : Int) + off = (tgt : Int)) (kt : True → zW K G nL Q cells slots M N tgt lv st) (kf : False → zW K G nL Q cells slots M N (pc + 3) lv st) : zW K G nL Q cells slots M N pc lv (.int (nI i) :: st) := by
  have h0 := nI_toInt hi
  have e : (0 : Int32).toInt = 0 := rfl
  refine r_if_ge h tgt hd ht (fun q => kt ?_) (fun q => kf ?_) <;> first | trivial | (simp only [Int32.lt_iff_toInt_lt, Int32.le_iff_toInt_le, ← Int32.toInt_inj, h0, e] at q; omega)
theorem r_if_gtN (h : zOk K G y b nL R ret) {i : Nat} {off : Int} (tgt : Nat) (hi : i < 2 ^ 31) (hd : decode b pc = .ok (.ifCond .gt off, 3)) (ht : (pc : Int) + off = (tgt : Int)) (kt : 0 < i → zW K G nL Q cells slots M N tgt lv st) (kf : i = 0 → zW K G nL Q cells slots M N (pc + 3) lv st) : zW K G nL Q cells slots M N pc lv (.int (nI i) :: st) := by
  have h0 := nI_toInt hi
  have e : (0 : Int32).toInt = 0 := rfl
  refine r_if_gt h tgt hd ht (fun q => kt ?_) (fun q => kf ?_) <;> first | trivial | (simp only [Int32.lt_iff_toInt_lt, Int32.le_iff_toInt_le, ← Int32.toInt_inj, h0, e] at q; omega)
theorem r_if_leN (h : zOk K G y b nL R ret) {i : Nat} {off : Int} (tgt : Nat) (hi : i < 2 ^ 31) (hd : decode b pc = .ok (.ifCond .le off, 3)) (ht : (pc : Int) + off = (tgt : Int)) (kt : i = 0 → zW K G nL Q cells slots M N tgt lv st) (kf : 0 < i → zW K G nL Q cells slots M N (pc + 3) lv st) : zW K G nL Q cells slots M N pc lv (.int (nI i) :: st) := by
  have h0 := nI_toInt hi
  have e : (0 : Int32).toInt = 0 := rfl
  refine r_if_le h tgt hd ht (fun q => kt ?_) (fun q => kf ?_) <;> first | trivial | (simp only [Int32.lt_iff_toInt_lt, Int32.le_iff_toInt_le, ← Int32.toInt_inj, h0, e] at q; omega)
end ZN
end
section
/-! the reference's object and its rows, over any memory: the object at a, its rows behind it -/
def mdO (a : Nat) (kp ln po : Int32) (wr : Bool) : List Value := [.ref (a + 1), .ref (a + 2), .ref (a + 3), .int kp, .ref (a + 4), .ref (a + 5), .ref (a + 6), .int ln, .ref (a + 7), .ref (a + 8), .int po, .int (zb wr)]
def mdM (G : zG) (M : zM) (a : Nat) (s sA sH sL : Nat → Int32) (sI : Nat → Bool) (sP sT sG : Nat → Int32) (kp ln po : Int32) (wr : Bool) : zM := fun q =>
  if q = a then some (zO 6 (mdO a kp ln po wr)) else if q = a + 1 then some (zI (G.2.1 0) 402 s) else if q = a + 2 then some (zI (G.2.1 0) 402 sA) else if q = a + 3 then some (zI (G.2.1 0) 2412 sH) else if q = a + 4 then some (zI (G.2.1 0) 804 sL)
  else if q = a + 5 then some (zI (G.2.1 2) 2 (fun j => zb (sI j))) else if q = a + 6 then some (zI (G.2.1 0) 60 sP) else if q = a + 7 then some (zI (G.2.1 0) 6 sT) else if q = a + 8 then some (zI (G.2.1 0) 6 sG) else M q
section ZMD
variable {G : zG} {M : zM} {a : Nat} {s sA sH sL : Nat → Int32} {sI : Nat → Bool} {sP sT sG : Nat → Int32} {kp ln po : Int32} {wr : Bool}
theorem md_o : mdM G M a s sA sH sL sI sP sT sG kp ln po wr a = some (zO 6 (mdO a kp ln po wr)) := by simp [mdM]
theorem md_s : mdM G M a s sA sH sL sI sP sT sG kp ln po wr (a + 1) = some (zI (G.2.1 0) 402 s) := by simp [mdM]
theorem md_sA : mdM G M a s sA sH sL sI sP sT sG kp ln po wr (a + 2) = some (zI (G.2.1 0) 402 sA) := by simp [mdM]
theorem md_sH : mdM G M a s sA sH sL sI sP sT sG kp ln po wr (a + 3) = some (zI (G.2.1 0) 2412 sH) := by simp [mdM]
theorem md_sL : mdM G M a s sA sH sL sI sP sT sG kp ln po wr (a + 4) = some (zI (G.2.1 0) 804 sL) := by simp [mdM]
theorem md_sI : mdM G M a s sA sH sL sI sP sT sG kp ln po wr (a + 5) = some (zI (G.2.1 2) 2 (fun j => zb (sI j))) := by simp [mdM]
theorem md_sP : mdM G M a s sA sH sL sI sP sT sG kp ln po wr (a + 6) = some (zI (G.2.1 0) 60 sP) := by simp [mdM]
theorem md_sT : mdM G M a s sA sH sL sI sP sT sG kp ln po wr (a + 7) = some (zI (G.2.1 0) 6 sT) := by simp [mdM]
theorem md_sG : mdM G M a s sA sH sL sI sP sT sG kp ln po wr (a + 8) = some (zI (G.2.1 0) 6 sG) := by simp [mdM]
theorem mdw_o (kp' ln' po' : Int32) (wr' : Bool) : zu (mdM G M a s sA sH sL sI sP sT sG kp ln po wr) a (zO 6 (mdO a kp' ln' po' wr')) = mdM G M a s sA sH sL sI sP sT sG kp' ln' po' wr' := by
  funext q; simp only [zu, mdM]; split <;> rfl
theorem mdw_s (f' : Nat → Int32) : zu (mdM G M a s sA sH sL sI sP sT sG kp ln po wr) (a + 1) (zI (G.2.1 0) 402 f') = mdM G M a f' sA sH sL sI sP sT sG kp ln po wr := by
  funext q
  by_cases hq : q = a + 1
  · subst hq; simp [zu, mdM]
  · simp only [zu, mdM, if_neg hq]
theorem mdw_sA (f' : Nat → Int32) : zu (mdM G M a s sA sH sL sI sP sT sG kp ln po wr) (a + 2) (zI (G.2.1 0) 402 f') = mdM G M a s f' sH sL sI sP sT sG kp ln po wr := by
  funext q
  by_cases hq : q = a + 2
  · subst hq; simp [zu, mdM]
  · simp only [zu, mdM, if_neg hq]
theorem mdw_sH (f' : Nat → Int32) : zu (mdM G M a s sA sH sL sI sP sT sG kp ln po wr) (a + 3) (zI (G.2.1 0) 2412 f') = mdM G M a s sA f' sL sI sP sT sG kp ln po wr := by
  funext q
  by_cases hq : q = a + 3
  · subst hq; simp [zu, mdM]
  · simp only [zu, mdM, if_neg hq]
theorem mdw_sL (f' : Nat → Int32) : zu (mdM G M a s sA sH sL sI sP sT sG kp ln po wr) (a + 4) (zI (G.2.1 0) 804 f') = mdM G M a s sA sH f' sI sP sT sG kp ln po wr := by
  funext q
  by_cases hq : q = a + 4
  · subst hq; simp [zu, mdM]
  · simp only [zu, mdM, if_neg hq]
theorem mdw_sP (f' : Nat → Int32) : zu (mdM G M a s sA sH sL sI sP sT sG kp ln po wr) (a + 6) (zI (G.2.1 0) 60 f') = mdM G M a s sA sH sL sI f' sT sG kp ln po wr := by
  funext q
  by_cases hq : q = a + 6
  · subst hq; simp [zu, mdM]
  · simp only [zu, mdM, if_neg hq]
theorem mdw_sT (f' : Nat → Int32) : zu (mdM G M a s sA sH sL sI sP sT sG kp ln po wr) (a + 7) (zI (G.2.1 0) 6 f') = mdM G M a s sA sH sL sI sP f' sG kp ln po wr := by
  funext q
  by_cases hq : q = a + 7
  · subst hq; simp [zu, mdM]
  · simp only [zu, mdM, if_neg hq]
theorem mdw_sG (f' : Nat → Int32) : zu (mdM G M a s sA sH sL sI sP sT sG kp ln po wr) (a + 8) (zI (G.2.1 0) 6 f') = mdM G M a s sA sH sL sI sP sT f' kp ln po wr := by
  funext q
  by_cases hq : q = a + 8
  · subst hq; simp [zu, mdM]
  · simp only [zu, mdM, if_neg hq]
theorem mdw_sI (f' : Nat → Bool) : zu (mdM G M a s sA sH sL sI sP sT sG kp ln po wr) (a + 5) (zI (G.2.1 2) 2 (fun j => zb (f' j))) = mdM G M a s sA sH sL f' sP sT sG kp ln po wr := by
  funext q
  by_cases hq : q = a + 5
  · subst hq; simp [zu, mdM]
  · simp only [zu, mdM, if_neg hq]
end ZMD
end
section
section ZC1
variable {K : zK} {G : zG} {y : MethodName} {b : ByteArray} {nL : Nat} {R : Room} {ret : Option FieldType} {Q : State → Prop} {cells slots : Nat} {M : zM} {N pc : Nat} {lv : List (Nat × Value)} {st : List Value}
theorem r_cV1 (h : zOk K G y b nL R ret) {x : MethodName} {bx : ByteArray} {n np : Nat} {rx : Option FieldType} {f w ci n2 index a : Nat} {fs : List Value} {T : u_T} {ty : Nat → FieldType} {As : List Value} {v : Value} {M' : zM} (rest : List Value) (hm : zMi x bx n rx np) (hc : zCi ci x.cls T n2 ty) (hlk : Cond.methodLink y.cls index x ∈ lw_tbl) (hin : Cond.instanceMethod x ∈ lw_tbl) (hsel : Cond.selects x.cls x x ∈ lw_tbl) (hd : decode b pc = .ok (.invokevirtual index, 3)) (hC : zC K.2.1 G x bx n rx f w 0 0 (.ref a :: As) M N (zP (some v) M')) (hM : M a = some (zO ci fs)) (hnp : As.length = np) (hst : st = As.reverse ++ .ref a :: rest) (hR : f + 1 ≤ R.frames ∧ 8 + (n + 11) + w ≤ R.locals) (hW : (rest.map fun v => v.category).sum ≤ 8) (hf : cells ≤ R.cells ∧ slots ≤ R.slots)
    (kk : zW K G nL Q cells slots M' N (pc + 3) lv (v :: rest)) : zW K G nL Q cells slots M N pc lv st := r_cV h hm hc hlk hin hsel hd hC hM hnp hst hR hW hf kk
theorem r_cV0 (h : zOk K G y b nL R ret) {x : MethodName} {bx : ByteArray} {n np : Nat} {rx : Option FieldType} {f w ci n2 index a : Nat} {fs : List Value} {T : u_T} {ty : Nat → FieldType} {As : List Value} {M' : zM} (rest : List Value) (hm : zMi x bx n rx np) (hc : zCi ci x.cls T n2 ty) (hlk : Cond.methodLink y.cls index x ∈ lw_tbl) (hin : Cond.instanceMethod x ∈ lw_tbl) (hsel : Cond.selects x.cls x x ∈ lw_tbl) (hd : decode b pc = .ok (.invokevirtual index, 3)) (hC : zC K.2.1 G x bx n rx f w 0 0 (.ref a :: As) M N (zP none M')) (hM : M a = some (zO ci fs)) (hnp : As.length = np) (hst : st = As.reverse ++ .ref a :: rest) (hR : f + 1 ≤ R.frames ∧ 8 + (n + 11) + w ≤ R.locals) (hW : (rest.map fun v => v.category).sum ≤ 8) (hf : cells ≤ R.cells ∧ slots ≤ R.slots)
    (kk : zW K G nL Q cells slots M' N (pc + 3) lv rest) : zW K G nL Q cells slots M N pc lv st := r_cV h hm hc hlk hin hsel hd hC hM hnp hst hR hW hf kk
theorem r_cS1 (h : zOk K G y b nL R ret) {x : MethodName} {bx : ByteArray} {n np : Nat} {rx : Option FieldType} {f w index : Nat} {As : List Value} {v : Value} {M' : zM} (rest : List Value) (hm : zMi x bx n rx np) (hlk : Cond.methodLink y.cls index x ∈ lw_tbl) (hstc : Cond.static x ∈ lw_tbl) (hd : decode b pc = .ok (.invokestatic index, 3)) (hC : zC K.2.1 G x bx n rx f w 0 0 As M N (zP (some v) M')) (hnp : As.length = np) (hst : st = As.reverse ++ rest) (hR : f + 1 ≤ R.frames ∧ 8 + (n + 11) + w ≤ R.locals) (hW : (rest.map fun v => v.category).sum ≤ 8) (hf : cells ≤ R.cells ∧ slots ≤ R.slots)
    (kk : zW K G nL Q cells slots M' N (pc + 3) lv (v :: rest)) : zW K G nL Q cells slots M N pc lv st := r_cS h hm hlk hstc hd hC hnp hst hR hW hf kk
theorem r_cS0 (h : zOk K G y b nL R ret) {x : MethodName} {bx : ByteArray} {n np : Nat} {rx : Option FieldType} {f w index : Nat} {As : List Value} {M' : zM} (rest : List Value) (hm : zMi x bx n rx np) (hlk : Cond.methodLink y.cls index x ∈ lw_tbl) (hstc : Cond.static x ∈ lw_tbl) (hd : decode b pc = .ok (.invokestatic index, 3)) (hC : zC K.2.1 G x bx n rx f w 0 0 As M N (zP none M')) (hnp : As.length = np) (hst : st = As.reverse ++ rest) (hR : f + 1 ≤ R.frames ∧ 8 + (n + 11) + w ≤ R.locals) (hW : (rest.map fun v => v.category).sum ≤ 8) (hf : cells ≤ R.cells ∧ slots ≤ R.slots)
    (kk : zW K G nL Q cells slots M' N (pc + 3) lv rest) : zW K G nL Q cells slots M N pc lv st := r_cS h hm hlk hstc hd hC hnp hst hR hW hf kk
theorem r_cVN1 (h : zOk K G y b nL R ret) {x : MethodName} {host : String} {bx : ByteArray} {n np : Nat} {rx : Option FieldType} {f w ci n2 index a : Nat} {fs : List Value} {T : u_T} {ty : Nat → FieldType} {As : List Value} {v : Value} {M' : zM} (rest : List Value) (hm : zMi x bx n rx np) (hc : zCi ci x.cls T n2 ty) (hlk : Cond.methodLinkNest y.cls index x host ∈ lw_tbl) (hin : Cond.instanceMethod x ∈ lw_tbl) (hsel : Cond.selects x.cls x x ∈ lw_tbl) (hd : decode b pc = .ok (.invokevirtual index, 3)) (hC : zC K.2.1 G x bx n rx f w 0 0 (.ref a :: As) M N (zP (some v) M')) (hM : M a = some (zO ci fs)) (hnp : As.length = np) (hst : st = As.reverse ++ .ref a :: rest) (hR : f + 1 ≤ R.frames ∧ 8 + (n + 11) + w ≤ R.locals) (hW : (rest.map fun v => v.category).sum ≤ 8) (hf : cells ≤ R.cells ∧ slots ≤ R.slots)
    (kk : zW K G nL Q cells slots M' N (pc + 3) lv (v :: rest)) : zW K G nL Q cells slots M N pc lv st := r_cVN h hm hc hlk hin hsel hd hC hM hnp hst hR hW hf kk
theorem r_cSN1 (h : zOk K G y b nL R ret) {x : MethodName} {host : String} {bx : ByteArray} {n np : Nat} {rx : Option FieldType} {f w index : Nat} {As : List Value} {v : Value} {M' : zM} (rest : List Value) (hm : zMi x bx n rx np) (hlk : Cond.methodLinkNest y.cls index x host ∈ lw_tbl) (hstc : Cond.static x ∈ lw_tbl) (hd : decode b pc = .ok (.invokestatic index, 3)) (hC : zC K.2.1 G x bx n rx f w 0 0 As M N (zP (some v) M')) (hnp : As.length = np) (hst : st = As.reverse ++ rest) (hR : f + 1 ≤ R.frames ∧ 8 + (n + 11) + w ≤ R.locals) (hW : (rest.map fun v => v.category).sum ≤ 8) (hf : cells ≤ R.cells ∧ slots ≤ R.slots)
    (kk : zW K G nL Q cells slots M' N (pc + 3) lv (v :: rest)) : zW K G nL Q cells slots M N pc lv st := r_cSN h hm hlk hstc hd hC hnp hst hR hW hf kk
theorem r_cSN0 (h : zOk K G y b nL R ret) {x : MethodName} {host : String} {bx : ByteArray} {n np : Nat} {rx : Option FieldType} {f w index : Nat} {As : List Value} {M' : zM} (rest : List Value) (hm : zMi x bx n rx np) (hlk : Cond.methodLinkNest y.cls index x host ∈ lw_tbl) (hstc : Cond.static x ∈ lw_tbl) (hd : decode b pc = .ok (.invokestatic index, 3)) (hC : zC K.2.1 G x bx n rx f w 0 0 As M N (zP none M')) (hnp : As.length = np) (hst : st = As.reverse ++ rest) (hR : f + 1 ≤ R.frames ∧ 8 + (n + 11) + w ≤ R.locals) (hW : (rest.map fun v => v.category).sum ≤ 8) (hf : cells ≤ R.cells ∧ slots ≤ R.slots)
    (kk : zW K G nL Q cells slots M' N (pc + 3) lv rest) : zW K G nL Q cells slots M N pc lv st := r_cSN h hm hlk hstc hd hC hnp hst hR hW hf kk
end ZC1
end
section
/-! what the reference reckons, as functions of its row of numbers -/
theorem zbe_lt {v lo hi : Int32} (h : v < lo) : zbe v lo hi = false := by
  unfold zbe
  have : ¬ lo ≤ v := Int32.not_le.mpr h
  simp [this]
theorem zbe_gt {v lo hi : Int32} (h : hi < v) : zbe v lo hi = false := by
  unfold zbe
  have : ¬ v ≤ hi := Int32.not_le.mpr h
  simp [this]
theorem zbe_ok {v lo hi : Int32} (h1 : ¬ v < lo) (h2 : ¬ hi < v) : zbe v lo hi = true := by
  unfold zbe
  have a := Int32.not_lt.mp h1
  have b := Int32.not_lt.mp h2
  simp [a, b]
def zWantT (s : Nat → Int32) (mm : Int32) (g m : Nat) : Int32 := if zHas mm m = true then s (15 + 22 * m + (14 + g)) else 0
def zWant (s : Nat → Int32) (mm : Int32) (g : Nat) : Int32 := lsum (zWantT s mm g) 6
def zPriceIn (s : Nat → Int32) (mm : Int32) (g : Nat) : Int32 := if s 0 ≤ zWant s mm g then nI (10 + 5 * g) - nI ((10 + 5 * g) / 5) else nI (10 + 5 * g)
def zStr (s : Nat → Int32) (mm : Int32) : Int32 := lsum (fun g => zWant s mm g) 8
def zWei (s : Nat → Int32) (mm : Int32) : Int32 := lsum (fun g => nI (1 + g) * zWant s mm g) 8
def zVal (s : Nat → Int32) (mm : Int32) : Int32 := lsum (fun g => zWant s mm g * zPriceIn s mm g) 8
def zPost (s : Nat → Int32) (mm : Int32) : Int32 := if zStr s mm = 0 then 0 else s 1 + s 2 * zWei s mm
def zCost (s : Nat → Int32) (mm : Int32) : Int32 := zVal s mm + zPost s mm
def zDuty (s : Nat → Int32) (v : Int32) : Int32 := if s 5 < v then (v - s 5) * s 6 / 100 else 0
theorem upd_lt (f g : Nat → Int32) (k : Nat) : upd (fun j => if j < k then f j else g j) k (f k) = fun j => if j < k + 1 then f j else g j := by
  funext j
  unfold upd
  by_cases h : j = k
  · subst h; simp
  · by_cases h2 : j < k
    · simp [h, h2, Nat.lt_succ_of_lt h2]
    · simp [h, h2, show ¬ j < k + 1 by omega]
end
section
theorem upd_upd (f : Nat → Int32) (i : Nat) (x w : Int32) : upd (upd f i x) i w = upd f i w := by
  funext j
  by_cases h : j = i <;> simp [upd, h]
/-- the first k of f, then those of d -/
def zC0 (d f : Nat → Int32) (k : Nat) : Nat → Int32 := fun j => if j < k then f j else d j
theorem zC0_0 (d f : Nat → Int32) : zC0 d f 0 = d := by funext j; simp [zC0]
theorem zC0_s (d f : Nat → Int32) (k : Nat) : upd (zC0 d f k) k (f k) = zC0 d f (k + 1) := upd_lt f d k
theorem zC0_lt {d f : Nat → Int32} {k j : Nat} (h : j < k) : zC0 d f k j = f j := if_pos h
theorem zC0_ge {d f : Nat → Int32} {k j : Nat} (h : k ≤ j) : zC0 d f k j = d j := if_neg (by omega)
/-- k of f from place b on, else d -/
def zCp (d f : Nat → Int32) (b k : Nat) : Nat → Int32 := fun j => if b ≤ j ∧ j < b + k then f (j - b) else d j
theorem zCp_0 (d f : Nat → Int32) (b : Nat) : zCp d f b 0 = d := by
  funext j
  have : ¬ (b ≤ j ∧ j < b + 0) := by omega
  simp only [zCp, if_neg this]
theorem zCp_s (d f : Nat → Int32) (b k : Nat) : upd (zCp d f b k) (b + k) (f k) = zCp d f b (k + 1) := by
  funext j
  unfold upd zCp
  by_cases h : j = b + k
  · subst h
    rw [if_pos rfl, if_pos (by omega), show b + k - b = k by omega]
  · rw [if_neg h]
    by_cases h2 : b ≤ j ∧ j < b + k
    · rw [if_pos h2, if_pos (by omega)]
    · rw [if_neg h2, if_neg (by omega)]
/-- steps by number -/
def zIt {α : Type} (f : Nat → α → α) (x : α) : Nat → α
  | 0 => x
  | k + 1 => f k (zIt f x k)
theorem zIt_s {α : Type} (f : Nat → α → α) (x : α) (k : Nat) : zIt f x (k + 1) = f k (zIt f x k) := rfl
/-! sharing -/
def zBase (am : Int32) (t : Nat → Int32) (m : Nat) : Int32 := if lsum t 6 = 0 then 0 else am * t m / lsum t 6
def zLft (am : Int32) (t : Nat → Int32) : Nat → Int32
  | 0 => am
  | k + 1 => zLft am t k - zBase am t k
def zGiv (t : Nat → Int32) (l : Int32) (m : Nat) : Bool := decide (¬ lsum t 6 ≤ 0) && decide (¬ t m ≤ 0) && decide (¬ l ≤ 0)
def zLf2 (am : Int32) (t : Nat → Int32) : Nat → Int32
  | 0 => zLft am t 6
  | k + 1 => if zGiv t (zLf2 am t k) k = true then zLf2 am t k - 1 else zLf2 am t k
def zGet (am : Int32) (t : Nat → Int32) (m : Nat) : Int32 := if zGiv t (zLf2 am t m) m = true then zBase am t m + 1 else zBase am t m
def zG2 (am : Int32) (t sG : Nat → Int32) (k : Nat) : Nat → Int32 := zC0 (zC0 sG (zBase am t) 6) (zGet am t) k
def zGets (am : Int32) (t sG : Nat → Int32) : Nat → Int32 := zC0 (zC0 sG (zBase am t) 6) (zGet am t) 6
theorem zG2_at (am : Int32) (t sG : Nat → Int32) {k : Nat} (h : k < 6) : zG2 am t sG k k = zBase am t k := by
  unfold zG2
  rw [zC0_ge (Nat.le_refl _), zC0_lt h]
theorem zG2_s (am : Int32) (t sG : Nat → Int32) (k : Nat) : upd (zG2 am t sG k) k (zGet am t k) = zG2 am t sG (k + 1) := zC0_s _ _ _
theorem zG2_le (am : Int32) (t sG : Nat → Int32) (k : Nat) (hk : k ≤ 6) (h : lsum t 6 ≤ 0) : zG2 am t sG k = zGets am t sG := by
  funext j
  unfold zG2 zGets zC0
  by_cases h1 : j < k
  · rw [if_pos h1, if_pos (by omega)]
  · rw [if_neg h1]
    by_cases h2 : j < 6
    · rw [if_pos h2, if_pos h2]
      simp [zGet, zGiv, h]
    · rw [if_neg h2, if_neg h2]
def zOwnT (s : Nat → Int32) (mm : Int32) (m g : Nat) : Int32 := if zHas mm m = true then s (15 + 22 * m + (14 + g)) * zPriceIn s mm g else 0
def zOwn (s : Nat → Int32) (mm : Int32) (m : Nat) : Int32 := lsum (zOwnT s mm m) 8
theorem lsum_0 {f : Nat → Int32} (h : ∀ k, f k = 0) : ∀ n, lsum f n = 0
  | 0 => rfl
  | n + 1 => by rw [lsum_s, lsum_0 h n, h n]; rfl
theorem zOwn_no {s : Nat → Int32} {mm : Int32} {m : Nat} (h : zHas mm m = false) (k : Nat) : lsum (zOwnT s mm m) k = zOwn s mm m := by
  have : ∀ g, zOwnT s mm m g = 0 := fun g => by simp [zOwnT, h]
  unfold zOwn
  rw [lsum_0 this, lsum_0 this]
def zPart (s : Nat → Int32) (mm : Int32) (m : Nat) : Int32 := if zHas mm m = true then zWei s (1 <<< (nI m &&& 31)) else 0
def zParts (s : Nat → Int32) (mm : Int32) (sT : Nat → Int32) : Nat → Int32 := zC0 sT (zPart s mm) 6
def zAccT (s : Nat → Int32) (m : Nat) : Int32 := s (15 + 22 * m + 0)
def zChest (s : Nat → Int32) : Int32 := lsum (zAccT s) 6
def zNx (x : Int32) : Int32 := (x.toInt64 * 1103515245 + 12345 - (x.toInt64 * 1103515245 + 12345) / 2147483648 * 2147483648).toInt32
def zDr (x many : Int32) : Int32 := x / 65536 - x / 65536 / many * many
def zPcsT (s : Nat → Int32) (p k : Nat) : Int32 := s (147 + 51 * p + (3 + k))
def zPcs (s : Nat → Int32) (p : Nat) : Int32 := lsum (zPcsT s p) 48
def zPrcT (s : Nat → Int32) (p m g : Nat) : Int32 := nI (10 + 5 * g) * s (147 + 51 * p + (3 + 8 * m + g))
def zPrc (s : Nat → Int32) (p m : Nat) : Int32 := lsum (zPrcT s p m) 8
def zPayD (s gt : Nat → Int32) : Nat → (Nat → Int32)
  | 0 => s
  | k + 1 => upd (upd (zPayD s gt k) (15 + 22 * k + 0) (zPayD s gt k (15 + 22 * k + 0) - gt k)) (15 + 22 * k + 4) (upd (zPayD s gt k) (15 + 22 * k + 0) (zPayD s gt k (15 + 22 * k + 0) - gt k) (15 + 22 * k + 4) + gt k)
theorem zPayD_lo {s gt : Nat → Int32} {i : Nat} (h : i < 15) : ∀ {k : Nat}, zPayD s gt k i = s i
  | 0 => rfl
  | k + 1 => by
    show upd (upd _ _ _) _ _ i = _
    rw [pk_un (by omega), pk_un (by omega)]
    exact zPayD_lo h
def zDutyOf (s : Nat → Int32) (p : Nat) : Int32 := zDuty s (s (147 + 51 * p + 0))
def zPdG (s sT sG : Nat → Int32) (p : Nat) : Nat → Int32 := zGets (zDutyOf s p) (zC0 sT (zPrc s p) 6) sG
def zPd (s sT sG : Nat → Int32) (p : Nat) : Nat → Int32 := upd (zPayD s (zPdG s sT sG p) 6) 12 (s 12 + zDutyOf s p)
/-! the history -/
def zSh (d : Nat → Int32) (k : Nat) : Nat → Int32 := zC0 d (fun j => d (j + 402)) k
theorem zSh_s (d : Nat → Int32) (k : Nat) : upd (zSh d k) k (zSh d k (k + 402)) = zSh d (k + 1) := by
  have : zSh d k (k + 402) = (fun j => d (j + 402)) k := zC0_ge (by omega)
  rw [this]
  exact zC0_s _ _ _
def zRecH (s sH : Nat → Int32) (kn : Nat) : Nat → Int32 := zCp (if kn = 6 then zSh sH 2010 else sH) s (402 * (if kn = 6 then 5 else kn)) 402
def zRecK (kn : Nat) : Nat := if kn = 6 then 6 else kn + 1
theorem zRecK_le {kn : Nat} (h : kn ≤ 6) : zRecK kn ≤ 6 := by unfold zRecK; split <;> omega
theorem nI_one : nI 1 = 1 := rfl
theorem zLeast_eq : ∀ i, i < 9 → zLeast i = if i = 0 then 2 else if i = 3 then 1 else 0 := by decide +kernel
def zMostI (v : Int32) : Int32 := if v = 0 then 20 else if v = 1 then 99 else if v = 2 then 9 else if v = 3 then 20 else if v = 4 then 30 else if v = 5 then 500 else if v = 6 then 50 else 100
theorem zMostI_eq : ∀ i, i < 9 → zMostI (nI i) = zMost i := by decide +kernel
end
section
set_option maxHeartbeats 4000000 in
set_option maxRecDepth 100000 in
theorem c_X6_in (l : Launch) (G : zG) (M : zM) (N : Nat)  (v : Int32) (lo : Int32) (hi : Int32)  : zC l G yX6_in cX6_in 3 (some .boolean) 0 0 0 0 [.int (v), .int (lo), .int (hi)] (M) N (zP (some (.int (zb (zbe v lo hi)))) (M)) := by
  refine zC.of (by decide +kernel) (Nat.le_of_ble_eq_true rfl) ?_
  intro K hKl ok
  subst hKl
  show zW K G 3 _ 0 0 _ N 0 [(0, .int (v)), (1, .int (lo)), (2, .int (hi))] []
  refine r_iload_n ok dX6_in_0 0 rfl rfl ?_
  refine r_iload_n ok dX6_in_1 1 rfl rfl ?_
  refine r_icmp_lt ok 14 dX6_in_2 (by decide) (fun c2_1 => ?_) (fun c2_1 => ?_)
  · skip
    refine r_iconst ok (nI 0) dX6_in_14 (by rfl) ?_
    refine zW.to (st' := [.int (zb false)]) ?_ rfl rfl rfl
    exact r_zret ok dX6_in_15 (zb_n _) rfl ⟨congrArg (fun z => some (Value.int (zb z))) (show false = zbe v lo hi from by first | exact (zbe_lt (by assumption)).symm | exact (zbe_gt (by assumption)).symm | exact (zbe_ok (by assumption) (by assumption)).symm), rfl⟩
  · skip
    refine r_iload_n ok dX6_in_5 0 rfl rfl ?_
    refine r_iload_n ok dX6_in_6 2 rfl rfl ?_
    refine r_icmp_gt ok 14 dX6_in_7 (by decide) (fun c7_2 => ?_) (fun c7_2 => ?_)
    · skip
      refine r_iconst ok (nI 0) dX6_in_14 (by rfl) ?_
      refine zW.to (st' := [.int (zb false)]) ?_ rfl rfl rfl
      exact r_zret ok dX6_in_15 (zb_n _) rfl ⟨congrArg (fun z => some (Value.int (zb z))) (show false = zbe v lo hi from by first | exact (zbe_lt (by assumption)).symm | exact (zbe_gt (by assumption)).symm | exact (zbe_ok (by assumption) (by assumption)).symm), rfl⟩
    · skip
      refine r_iconst ok (nI 1) dX6_in_10 (by rfl) ?_
      refine r_goto ok 15 dX6_in_11 (by decide) ?_
      refine zW.to (st' := [.int (zb true)]) ?_ rfl rfl rfl
      exact r_zret ok dX6_in_15 (zb_n _) rfl ⟨congrArg (fun z => some (Value.int (zb z))) (show true = zbe v lo hi from by first | exact (zbe_lt (by assumption)).symm | exact (zbe_gt (by assumption)).symm | exact (zbe_ok (by assumption) (by assumption)).symm), rfl⟩
set_option maxHeartbeats 4000000 in
set_option maxRecDepth 100000 in
theorem c_X6_isMember (l : Launch) (G : zG) (M : zM) (N : Nat)  (v : Int32)  : zC l G yX6_isMember cX6_isMember 1 (some .boolean) 1 22 0 0 [.int (v)] (M) N (zP (some (.int (zb ((zix v 6).isSome)))) (M)) := by
  refine zC.of (by decide +kernel) (Nat.le_of_ble_eq_true rfl) ?_
  intro K hKl ok
  subst hKl
  show zW K G 1 _ 0 0 _ N 0 [(0, .int (v))] []
  refine r_iload_n ok dX6_isMember_0 0 rfl rfl ?_
  refine r_iconst ok (nI 0) dX6_isMember_1 (by rfl) ?_
  refine r_iconst ok (nI 5) dX6_isMember_2 (by rfl) ?_
  refine r_cS1 ok [] mi_X6_in ml_X6_35 sm_X6_in dX6_isMember_3 (c_X6_in K.2.1 G (M) N  v (nI 0) (nI 5) ) rfl rfl ⟨Nat.le_of_ble_eq_true rfl, Nat.le_of_ble_eq_true rfl⟩ (Nat.le_of_ble_eq_true rfl) ⟨Nat.zero_le _, Nat.zero_le _⟩ ?_
  exact r_zret ok dX6_isMember_6 (zb_n _) rfl ⟨congrArg (fun z => some (Value.int (zb z))) (show zbe v (nI 0) (nI 5) = (zix v 6).isSome from by exact zbe_ix v (n := 5) (by omega)), rfl⟩
set_option maxHeartbeats 4000000 in
set_option maxRecDepth 100000 in
theorem c_X6_isGauge (l : Launch) (G : zG) (M : zM) (N : Nat)  (v : Int32)  : zC l G yX6_isGauge cX6_isGauge 1 (some .boolean) 1 22 0 0 [.int (v)] (M) N (zP (some (.int (zb ((zix v 8).isSome)))) (M)) := by
  refine zC.of (by decide +kernel) (Nat.le_of_ble_eq_true rfl) ?_
  intro K hKl ok
  subst hKl
  show zW K G 1 _ 0 0 _ N 0 [(0, .int (v))] []
  refine r_iload_n ok dX6_isGauge_0 0 rfl rfl ?_
  refine r_iconst ok (nI 0) dX6_isGauge_1 (by rfl) ?_
  refine r_bipush ok (nI 7) dX6_isGauge_2 (by rfl) ?_
  refine r_cS1 ok [] mi_X6_in ml_X6_35 sm_X6_in dX6_isGauge_4 (c_X6_in K.2.1 G (M) N  v (nI 0) (nI 7) ) rfl rfl ⟨Nat.le_of_ble_eq_true rfl, Nat.le_of_ble_eq_true rfl⟩ (Nat.le_of_ble_eq_true rfl) ⟨Nat.zero_le _, Nat.zero_le _⟩ ?_
  exact r_zret ok dX6_isGauge_7 (zb_n _) rfl ⟨congrArg (fun z => some (Value.int (zb z))) (show zbe v (nI 0) (nI 7) = (zix v 8).isSome from by exact zbe_ix v (n := 7) (by omega)), rfl⟩
set_option maxHeartbeats 4000000 in
set_option maxRecDepth 100000 in
theorem c_X6_of (l : Launch) (G : zG) (M : zM) (N : Nat)  (m : Nat) (w : Nat)  : zC l G yX6_of cX6_of 2 (some .int) 0 0 0 0 [.int (nI (m)), .int (nI (w))] (M) N (zP (some (.int (nI (15 + 22 * m + w)))) (M)) := by
  refine zC.of (by decide +kernel) (Nat.le_of_ble_eq_true rfl) ?_
  intro K hKl ok
  subst hKl
  show zW K G 2 _ 0 0 _ N 0 [(0, .int (nI (m))), (1, .int (nI (w)))] []
  refine r_bipush ok (nI 15) dX6_of_0 (by rfl) ?_
  refine r_bipush ok (nI 22) dX6_of_2 (by rfl) ?_
  refine r_iload_n ok dX6_of_4 0 rfl rfl ?_
  refine r_imulN ok dX6_of_5 ?_
  refine r_iaddN ok dX6_of_6 ?_
  refine r_iload_n ok dX6_of_7 1 rfl rfl ?_
  refine r_iaddN ok dX6_of_8 ?_
  exact r_iret ok dX6_of_9 rfl ⟨congrArg (fun z => some (Value.int z)) (show nI ((15 + (22 * m)) + w) = nI (15 + 22 * m + w) from by first | rfl | (simp [*]; done)), rfl⟩
set_option maxHeartbeats 4000000 in
set_option maxRecDepth 100000 in
theorem c_X6_ofParcel (l : Launch) (G : zG) (M : zM) (N : Nat)  (p : Nat) (w : Nat)  : zC l G yX6_ofParcel cX6_ofParcel 2 (some .int) 0 0 0 0 [.int (nI (p)), .int (nI (w))] (M) N (zP (some (.int (nI (147 + 51 * p + w)))) (M)) := by
  refine zC.of (by decide +kernel) (Nat.le_of_ble_eq_true rfl) ?_
  intro K hKl ok
  subst hKl
  show zW K G 2 _ 0 0 _ N 0 [(0, .int (nI (p))), (1, .int (nI (w)))] []
  refine r_sipush ok (nI 147) dX6_ofParcel_0 (by rfl) ?_
  refine r_bipush ok (nI 51) dX6_ofParcel_3 (by rfl) ?_
  refine r_iload_n ok dX6_ofParcel_5 0 rfl rfl ?_
  refine r_imulN ok dX6_ofParcel_6 ?_
  refine r_iaddN ok dX6_ofParcel_7 ?_
  refine r_iload_n ok dX6_ofParcel_8 1 rfl rfl ?_
  refine r_iaddN ok dX6_ofParcel_9 ?_
  exact r_iret ok dX6_ofParcel_10 rfl ⟨congrArg (fun z => some (Value.int z)) (show nI ((147 + (51 * p)) + w) = nI (147 + 51 * p + w) from by first | rfl | (simp [*]; done)), rfl⟩
set_option maxHeartbeats 4000000 in
set_option maxRecDepth 100000 in
theorem c_X6_price (l : Launch) (G : zG) (M : zM) (N : Nat)  (g : Nat)  : zC l G yX6_price cX6_price 1 (some .int) 0 0 0 0 [.int (nI (g))] (M) N (zP (some (.int (nI (10 + 5 * g)))) (M)) := by
  refine zC.of (by decide +kernel) (Nat.le_of_ble_eq_true rfl) ?_
  intro K hKl ok
  subst hKl
  show zW K G 1 _ 0 0 _ N 0 [(0, .int (nI (g)))] []
  refine r_bipush ok (nI 10) dX6_price_0 (by rfl) ?_
  refine r_iconst ok (nI 5) dX6_price_2 (by rfl) ?_
  refine r_iload_n ok dX6_price_3 0 rfl rfl ?_
  refine r_imulN ok dX6_price_4 ?_
  refine r_iaddN ok dX6_price_5 ?_
  exact r_iret ok dX6_price_6 rfl ⟨congrArg (fun z => some (Value.int z)) (show nI (10 + (5 * g)) = nI (10 + 5 * g) from by first | rfl | (simp [*]; done)), rfl⟩
set_option maxHeartbeats 4000000 in
set_option maxRecDepth 100000 in
theorem c_X6_has (l : Launch) (G : zG) (M : zM) (N : Nat)  (x : Int32) (k : Nat)  : zC l G yX6_has cX6_has 2 (some .boolean) 0 0 0 0 [.int (x), .int (nI (k))] (M) N (zP (some (.int (zb (zHas x k)))) (M)) := by
  refine zC.of (by decide +kernel) (Nat.le_of_ble_eq_true rfl) ?_
  intro K hKl ok
  subst hKl
  show zW K G 2 _ 0 0 _ N 0 [(0, .int (x)), (1, .int (nI (k)))] []
  refine r_iload_n ok dX6_has_0 0 rfl rfl ?_
  refine r_iload_n ok dX6_has_1 1 rfl rfl ?_
  refine r_ishr ok dX6_has_2 ?_
  refine r_iconst ok (nI 1) dX6_has_3 (by rfl) ?_
  refine r_iand ok dX6_has_4 ?_
  refine r_iconst ok (nI 1) dX6_has_5 (by rfl) ?_
  refine r_icmp_ne ok 13 dX6_has_6 (by decide) (fun c6_1 => ?_) (fun c6_1 => ?_)
  · skip
    refine r_iconst ok (nI 0) dX6_has_13 (by rfl) ?_
    refine zW.to (st' := [.int (zb false)]) ?_ rfl rfl rfl
    exact r_zret ok dX6_has_14 (zb_n _) rfl ⟨congrArg (fun z => some (Value.int (zb z))) (show false = zHas x k from by unfold zHas; first | exact (decide_eq_true (by assumption)).symm | exact (decide_eq_false (by assumption)).symm), rfl⟩
  · skip
    refine r_iconst ok (nI 1) dX6_has_9 (by rfl) ?_
    refine r_goto ok 14 dX6_has_10 (by decide) ?_
    refine zW.to (st' := [.int (zb true)]) ?_ rfl rfl rfl
    exact r_zret ok dX6_has_14 (zb_n _) rfl ⟨congrArg (fun z => some (Value.int (zb z))) (show true = zHas x k from by unfold zHas; first | exact (decide_eq_true (by assumption)).symm | exact (decide_eq_false (by assumption)).symm), rfl⟩
set_option maxHeartbeats 4000000 in
set_option maxRecDepth 100000 in
theorem c_X6_wanted (l : Launch) (G : zG) (M : zM) (N a : Nat) (s sA sH sL : Nat → Int32) (sI : Nat → Bool) (sP sT sG : Nat → Int32) (kp ln po : Int32) (wr : Bool)  (mm : Int32) (g : Nat) (hg : g < 8) : zC l G yX6_wanted cX6_wanted 5 (some .int) 1 21 0 0 [.ref a, .int (mm), .int (nI (g))] (mdM G M a s sA sH sL sI sP sT sG kp ln po wr) N (zP (some (.int (zWant s mm g))) (mdM G M a s sA sH sL sI sP sT sG kp ln po wr)) := by
  refine zC.of (by decide +kernel) (Nat.le_of_ble_eq_true rfl) ?_
  intro K hKl ok
  subst hKl
  show zW K G 5 _ 0 0 _ N 0 [(0, .ref a), (1, .int (mm)), (2, .int (nI (g)))] []
  refine r_iconst ok (nI 0) dX6_wanted_0 (by rfl) ?_
  refine r_istore_n ok [(3, .int (nI 0)), (0, .ref a), (1, .int (mm)), (2, .int (nI (g)))] dX6_wanted_1 rfl (by decide) rfl ?_
  refine r_iconst ok (nI 0) dX6_wanted_2 (by rfl) ?_
  refine r_istore ok [(4, .int (nI 0)), (3, .int (nI 0)), (0, .ref a), (1, .int (mm)), (2, .int (nI (g)))] dX6_wanted_3 (by decide) rfl ?_
  have L1 : ∀ (nL1 : Nat) (k : Nat), ((k + nL1 = 6)) → zW K G 5 (zQ K G (N + 0) 0 0 (zP (some (.int (zWant s mm g))) (mdM G M a s sA sH sL sI sP sT sG kp ln po wr))) 0 0 (mdM G M a s sA sH sL sI sP sT sG kp ln po wr) N 5 [(0, .ref a), (1, .int (mm)), (2, .int (nI (g))), (3, .int (lsum (zWantT s mm g) k)), (4, .int (nI (k)))] [] := by
    intro nL1
    induction nL1 with
    | zero =>
      intro k hk_k
      obtain rfl : k = 6 := by omega
      refine r_iload ok dX6_wanted_5 4 rfl ?_
      refine r_bipush ok (nI 6) dX6_wanted_7 (by rfl) ?_
      refine r_icmp_geN ok 48 (by omega) (by omega) dX6_wanted_9 (by decide) (fun _ => ?_) (fun c => absurd c (by decide))
      refine r_iload_n ok dX6_wanted_48 3 rfl rfl ?_
      exact r_iret ok dX6_wanted_49 rfl ⟨congrArg (fun z => some (Value.int z)) (show lsum (zWantT s mm g) 6 = zWant s mm g from by rfl), rfl⟩
    | succ nL1 ihL1 =>
      intro k hk_k
      refine r_iload ok dX6_wanted_5 4 rfl ?_
      refine r_bipush ok (nI 6) dX6_wanted_7 (by rfl) ?_
      refine r_icmp_geN ok 48 (by omega) (by omega) dX6_wanted_9 (by decide) (fun c9_3 => ?_) (fun c9_3 => ?_)
      · skip
        exact absurd c9_3 (by omega)
      · skip
        refine r_iload_n ok dX6_wanted_12 3 rfl rfl ?_
        refine r_iload_n ok dX6_wanted_13 1 rfl rfl ?_
        refine r_iload ok dX6_wanted_14 4 rfl ?_
        refine r_cS1 ok [.int (lsum (zWantT s mm g) k)] mi_X6_has ml_X6_43 sm_X6_has dX6_wanted_16 (c_X6_has K.2.1 G (mdM G M a s sA sH sL sI sP sT sG kp ln po wr) N  mm k ) rfl rfl ⟨Nat.le_of_ble_eq_true rfl, Nat.le_of_ble_eq_true rfl⟩ (Nat.le_of_ble_eq_true rfl) ⟨Nat.zero_le _, Nat.zero_le _⟩ ?_
        refine r_ifeqZ ok 39 dX6_wanted_19 (by decide) (fun c19_4 => ?_) (fun c19_4 => ?_)
        · skip
          refine r_iconst ok (nI 0) dX6_wanted_39 (by rfl) ?_
          refine r_iadd ok dX6_wanted_40 ?_
          refine r_istore_n ok [(3, .int ((lsum (zWantT s mm g) k) + (nI 0))), (0, .ref a), (1, .int (mm)), (2, .int (nI (g))), (4, .int (nI (k)))] dX6_wanted_41 rfl (by decide) rfl ?_
          refine r_iincN ok (c := 1) [(4, .int (nI (k + 1))), (3, .int ((lsum (zWantT s mm g) k) + (nI 0))), (0, .ref a), (1, .int (mm)), (2, .int (nI (g)))] dX6_wanted_42 4 rfl (by rfl) (by decide) rfl ?_
          refine r_goto ok 5 dX6_wanted_45 (by decide) ?_
          have q5 : Value.int ((lsum (zWantT s mm g) k) + (nI 0)) = Value.int (lsum (zWantT s mm g) (k + 1)) := by first | with_reducible rfl | (simp [lsum_s, zWantT, nI_0, *])
          refine zW.forget (lv' := [(0, .ref a), (1, .int (mm)), (2, .int (nI (g))), (3, .int ((lsum (zWantT s mm g) k) + (nI 0))), (4, .int (nI (k + 1)))]) ?_ [2, 3, 4, 1, 0] rfl
          refine zW.to (lv' := [(0, .ref a), (1, .int (mm)), (2, .int (nI (g))), (3, .int (lsum (zWantT s mm g) (k + 1))), (4, .int (nI (k + 1)))]) ?_ rfl (congrArg (fun z => ([(0, .ref a), (1, .int (mm)), (2, .int (nI (g))), (3, z), (4, .int (nI (k + 1)))] : List (Nat × Value))) q5) rfl
          exact ihL1 (k + 1) (by omega)
        · skip
          refine r_aload_n ok dX6_wanted_22 0 rfl rfl ?_
          refine r_getf ok ci_X6 fl_X6_7 (by decide) dX6_wanted_23 md_o rfl ?_
          refine r_iload ok dX6_wanted_26 4 rfl ?_
          refine r_bipush ok (nI 14) dX6_wanted_28 (by rfl) ?_
          refine r_iload_n ok dX6_wanted_30 2 rfl rfl ?_
          refine r_iaddN ok dX6_wanted_31 ?_
          refine r_cS1 ok [.ref (a + 1), .int (lsum (zWantT s mm g) k)] mi_X6_of ml_X6_47 sm_X6_of dX6_wanted_32 (c_X6_of K.2.1 G (mdM G M a s sA sH sL sI sP sT sG kp ln po wr) N  k (14 + g) ) rfl rfl ⟨Nat.le_of_ble_eq_true rfl, Nat.le_of_ble_eq_true rfl⟩ (Nat.le_of_ble_eq_true rfl) ⟨Nat.zero_le _, Nat.zero_le _⟩ ?_
          refine r_ialdN ok (by omega) (by omega) dX6_wanted_35 md_s ?_
          refine r_goto ok 40 dX6_wanted_36 (by decide) ?_
          refine r_iadd ok dX6_wanted_40 ?_
          refine r_istore_n ok [(3, .int ((lsum (zWantT s mm g) k) + (s (15 + 22 * k + (14 + g))))), (0, .ref a), (1, .int (mm)), (2, .int (nI (g))), (4, .int (nI (k)))] dX6_wanted_41 rfl (by decide) rfl ?_
          refine r_iincN ok (c := 1) [(4, .int (nI (k + 1))), (3, .int ((lsum (zWantT s mm g) k) + (s (15 + 22 * k + (14 + g))))), (0, .ref a), (1, .int (mm)), (2, .int (nI (g)))] dX6_wanted_42 4 rfl (by rfl) (by decide) rfl ?_
          refine r_goto ok 5 dX6_wanted_45 (by decide) ?_
          have q6 : Value.int ((lsum (zWantT s mm g) k) + (s (15 + 22 * k + (14 + g)))) = Value.int (lsum (zWantT s mm g) (k + 1)) := by first | with_reducible rfl | (simp [lsum_s, zWantT, nI_0, *])
          refine zW.forget (lv' := [(0, .ref a), (1, .int (mm)), (2, .int (nI (g))), (3, .int ((lsum (zWantT s mm g) k) + (s (15 + 22 * k + (14 + g))))), (4, .int (nI (k + 1)))]) ?_ [2, 3, 4, 1, 0] rfl
          refine zW.to (lv' := [(0, .ref a), (1, .int (mm)), (2, .int (nI (g))), (3, .int (lsum (zWantT s mm g) (k + 1))), (4, .int (nI (k + 1)))]) ?_ rfl (congrArg (fun z => ([(0, .ref a), (1, .int (mm)), (2, .int (nI (g))), (3, z), (4, .int (nI (k + 1)))] : List (Nat × Value))) q6) rfl
          exact ihL1 (k + 1) (by omega)
  have q7 : Value.int (nI 0) = Value.int (lsum (zWantT s mm g) 0) := by first | with_reducible rfl | (rfl)
  refine zW.forget (lv' := [(0, .ref a), (1, .int (mm)), (2, .int (nI (g))), (3, .int (nI 0)), (4, .int (nI 0))]) ?_ [2, 3, 4, 1, 0] rfl
  refine zW.to (lv' := [(0, .ref a), (1, .int (mm)), (2, .int (nI (g))), (3, .int (lsum (zWantT s mm g) 0)), (4, .int (nI 0))]) ?_ rfl (congrArg (fun z => ([(0, .ref a), (1, .int (mm)), (2, .int (nI (g))), (3, z), (4, .int (nI 0))] : List (Nat × Value))) q7) rfl
  exact L1 6 0 (by omega)
set_option maxHeartbeats 4000000 in
set_option maxRecDepth 100000 in
theorem c_X6_priceIn (l : Launch) (G : zG) (M : zM) (N a : Nat) (s sA sH sL : Nat → Int32) (sI : Nat → Bool) (sP sT sG : Nat → Int32) (kp ln po : Int32) (wr : Bool)  (mm : Int32) (g : Nat) (hg : g < 8) : zC l G yX6_priceIn cX6_priceIn 3 (some .int) 2 45 0 0 [.ref a, .int (mm), .int (nI (g))] (mdM G M a s sA sH sL sI sP sT sG kp ln po wr) N (zP (some (.int (zPriceIn s mm g))) (mdM G M a s sA sH sL sI sP sT sG kp ln po wr)) := by
  refine zC.of (by decide +kernel) (Nat.le_of_ble_eq_true rfl) ?_
  intro K hKl ok
  subst hKl
  show zW K G 3 _ 0 0 _ N 0 [(0, .ref a), (1, .int (mm)), (2, .int (nI (g)))] []
  refine r_aload_n ok dX6_priceIn_0 0 rfl rfl ?_
  refine r_iload_n ok dX6_priceIn_1 1 rfl rfl ?_
  refine r_iload_n ok dX6_priceIn_2 2 rfl rfl ?_
  refine r_cV1 ok [] mi_X6_wanted ci_X6 ml_X6_51 im_X6_wanted se_X6_wanted dX6_priceIn_3 (c_X6_wanted K.2.1 G M N a s sA sH sL sI sP sT sG kp ln po wr  mm g (by omega)) md_o rfl rfl ⟨Nat.le_of_ble_eq_true rfl, Nat.le_of_ble_eq_true rfl⟩ (Nat.le_of_ble_eq_true rfl) ⟨Nat.zero_le _, Nat.zero_le _⟩ ?_
  refine r_aload_n ok dX6_priceIn_6 0 rfl rfl ?_
  refine r_getf ok ci_X6 fl_X6_7 (by decide) dX6_priceIn_7 md_o rfl ?_
  refine r_iconst ok (nI 0) dX6_priceIn_10 (by rfl) ?_
  refine r_ialdN ok (by omega) (by omega) dX6_priceIn_11 md_s ?_
  refine r_icmp_lt ok 29 dX6_priceIn_12 (by decide) (fun c12_1 => ?_) (fun c12_1 => ?_)
  · skip
    refine r_iload_n ok dX6_priceIn_29 2 rfl rfl ?_
    refine r_cS1 ok [] mi_X6_price ml_X6_54 sm_X6_price dX6_priceIn_30 (c_X6_price K.2.1 G (mdM G M a s sA sH sL sI sP sT sG kp ln po wr) N  g ) rfl rfl ⟨Nat.le_of_ble_eq_true rfl, Nat.le_of_ble_eq_true rfl⟩ (Nat.le_of_ble_eq_true rfl) ⟨Nat.zero_le _, Nat.zero_le _⟩ ?_
    exact r_iret ok dX6_priceIn_33 rfl ⟨congrArg (fun z => some (Value.int z)) (show nI (10 + 5 * g) = zPriceIn s mm g from by unfold zPriceIn; split <;> first | rfl | (exfalso; simp only [Int32.lt_iff_toInt_lt, Int32.le_iff_toInt_le] at *; omega)), rfl⟩
  · skip
    refine r_iload_n ok dX6_priceIn_15 2 rfl rfl ?_
    refine r_cS1 ok [] mi_X6_price ml_X6_54 sm_X6_price dX6_priceIn_16 (c_X6_price K.2.1 G (mdM G M a s sA sH sL sI sP sT sG kp ln po wr) N  g ) rfl rfl ⟨Nat.le_of_ble_eq_true rfl, Nat.le_of_ble_eq_true rfl⟩ (Nat.le_of_ble_eq_true rfl) ⟨Nat.zero_le _, Nat.zero_le _⟩ ?_
    refine r_iload_n ok dX6_priceIn_19 2 rfl rfl ?_
    refine r_cS1 ok [.int (nI (10 + 5 * g))] mi_X6_price ml_X6_54 sm_X6_price dX6_priceIn_20 (c_X6_price K.2.1 G (mdM G M a s sA sH sL sI sP sT sG kp ln po wr) N  g ) rfl rfl ⟨Nat.le_of_ble_eq_true rfl, Nat.le_of_ble_eq_true rfl⟩ (Nat.le_of_ble_eq_true rfl) ⟨Nat.zero_le _, Nat.zero_le _⟩ ?_
    refine r_iconst ok (nI 5) dX6_priceIn_23 (by rfl) ?_
    refine r_idivN ok (by omega) (by omega) (by omega) dX6_priceIn_24 ?_
    refine r_isub ok dX6_priceIn_25 ?_
    refine r_goto ok 33 dX6_priceIn_26 (by decide) ?_
    exact r_iret ok dX6_priceIn_33 rfl ⟨congrArg (fun z => some (Value.int z)) (show (nI (10 + 5 * g)) - (nI ((10 + 5 * g) / 5)) = zPriceIn s mm g from by unfold zPriceIn; split <;> first | rfl | (exfalso; simp only [Int32.lt_iff_toInt_lt, Int32.le_iff_toInt_le] at *; omega)), rfl⟩
set_option maxHeartbeats 4000000 in
set_option maxRecDepth 100000 in
theorem c_X6_stringsOf (l : Launch) (G : zG) (M : zM) (N a : Nat) (s sA sH sL : Nat → Int32) (sI : Nat → Bool) (sP sT sG : Nat → Int32) (kp ln po : Int32) (wr : Bool)  (mm : Int32)  : zC l G yX6_stringsOf cX6_stringsOf 4 (some .int) 2 45 0 0 [.ref a, .int (mm)] (mdM G M a s sA sH sL sI sP sT sG kp ln po wr) N (zP (some (.int (zStr s mm))) (mdM G M a s sA sH sL sI sP sT sG kp ln po wr)) := by
  refine zC.of (by decide +kernel) (Nat.le_of_ble_eq_true rfl) ?_
  intro K hKl ok
  subst hKl
  show zW K G 4 _ 0 0 _ N 0 [(0, .ref a), (1, .int (mm))] []
  refine r_iconst ok (nI 0) dX6_stringsOf_0 (by rfl) ?_
  refine r_istore_n ok [(2, .int (nI 0)), (0, .ref a), (1, .int (mm))] dX6_stringsOf_1 rfl (by decide) rfl ?_
  refine r_iconst ok (nI 0) dX6_stringsOf_2 (by rfl) ?_
  refine r_istore_n ok [(3, .int (nI 0)), (2, .int (nI 0)), (0, .ref a), (1, .int (mm))] dX6_stringsOf_3 rfl (by decide) rfl ?_
  have L1 : ∀ (nL1 : Nat) (k : Nat), ((k + nL1 = 8)) → zW K G 4 (zQ K G (N + 0) 0 0 (zP (some (.int (zStr s mm))) (mdM G M a s sA sH sL sI sP sT sG kp ln po wr))) 0 0 (mdM G M a s sA sH sL sI sP sT sG kp ln po wr) N 4 [(0, .ref a), (1, .int (mm)), (2, .int (lsum (fun g => zWant s mm g) k)), (3, .int (nI (k)))] [] := by
    intro nL1
    induction nL1 with
    | zero =>
      intro k hk_k
      obtain rfl : k = 8 := by omega
      refine r_iload_n ok dX6_stringsOf_4 3 rfl rfl ?_
      refine r_bipush ok (nI 8) dX6_stringsOf_5 (by rfl) ?_
      refine r_icmp_geN ok 25 (by omega) (by omega) dX6_stringsOf_7 (by decide) (fun _ => ?_) (fun c => absurd c (by decide))
      refine r_iload_n ok dX6_stringsOf_25 2 rfl rfl ?_
      exact r_iret ok dX6_stringsOf_26 rfl ⟨congrArg (fun z => some (Value.int z)) (show lsum (fun g => zWant s mm g) 8 = zStr s mm from by rfl), rfl⟩
    | succ nL1 ihL1 =>
      intro k hk_k
      refine r_iload_n ok dX6_stringsOf_4 3 rfl rfl ?_
      refine r_bipush ok (nI 8) dX6_stringsOf_5 (by rfl) ?_
      refine r_icmp_geN ok 25 (by omega) (by omega) dX6_stringsOf_7 (by decide) (fun c7_3 => ?_) (fun c7_3 => ?_)
      · skip
        exact absurd c7_3 (by omega)
      · skip
        refine r_iload_n ok dX6_stringsOf_10 2 rfl rfl ?_
        refine r_aload_n ok dX6_stringsOf_11 0 rfl rfl ?_
        refine r_iload_n ok dX6_stringsOf_12 1 rfl rfl ?_
        refine r_iload_n ok dX6_stringsOf_13 3 rfl rfl ?_
        refine r_cV1 ok [.int (lsum (fun g => zWant s mm g) k)] mi_X6_wanted ci_X6 ml_X6_51 im_X6_wanted se_X6_wanted dX6_stringsOf_14 (c_X6_wanted K.2.1 G M N a s sA sH sL sI sP sT sG kp ln po wr  mm k (by omega)) md_o rfl rfl ⟨Nat.le_of_ble_eq_true rfl, Nat.le_of_ble_eq_true rfl⟩ (Nat.le_of_ble_eq_true rfl) ⟨Nat.zero_le _, Nat.zero_le _⟩ ?_
        refine r_iadd ok dX6_stringsOf_17 ?_
        refine r_istore_n ok [(2, .int ((lsum (fun g => zWant s mm g) k) + (zWant s mm k))), (0, .ref a), (1, .int (mm)), (3, .int (nI (k)))] dX6_stringsOf_18 rfl (by decide) rfl ?_
        refine r_iincN ok (c := 1) [(3, .int (nI (k + 1))), (2, .int ((lsum (fun g => zWant s mm g) k) + (zWant s mm k))), (0, .ref a), (1, .int (mm))] dX6_stringsOf_19 3 rfl (by rfl) (by decide) rfl ?_
        refine r_goto ok 4 dX6_stringsOf_22 (by decide) ?_
        have q4 : Value.int ((lsum (fun g => zWant s mm g) k) + (zWant s mm k)) = Value.int (lsum (fun g => zWant s mm g) (k + 1)) := by first | with_reducible rfl | (simp [lsum_s, nI_0, *])
        refine zW.forget (lv' := [(0, .ref a), (1, .int (mm)), (2, .int ((lsum (fun g => zWant s mm g) k) + (zWant s mm k))), (3, .int (nI (k + 1)))]) ?_ [2, 3, 1, 0] rfl
        refine zW.to (lv' := [(0, .ref a), (1, .int (mm)), (2, .int (lsum (fun g => zWant s mm g) (k + 1))), (3, .int (nI (k + 1)))]) ?_ rfl (congrArg (fun z => ([(0, .ref a), (1, .int (mm)), (2, z), (3, .int (nI (k + 1)))] : List (Nat × Value))) q4) rfl
        exact ihL1 (k + 1) (by omega)
  have q5 : Value.int (nI 0) = Value.int (lsum (fun g => zWant s mm g) 0) := by first | with_reducible rfl | (rfl)
  refine zW.forget (lv' := [(0, .ref a), (1, .int (mm)), (2, .int (nI 0)), (3, .int (nI 0))]) ?_ [2, 3, 1, 0] rfl
  refine zW.to (lv' := [(0, .ref a), (1, .int (mm)), (2, .int (lsum (fun g => zWant s mm g) 0)), (3, .int (nI 0))]) ?_ rfl (congrArg (fun z => ([(0, .ref a), (1, .int (mm)), (2, z), (3, .int (nI 0))] : List (Nat × Value))) q5) rfl
  exact L1 8 0 (by omega)
set_option maxHeartbeats 4000000 in
set_option maxRecDepth 100000 in
theorem c_X6_weightOf (l : Launch) (G : zG) (M : zM) (N a : Nat) (s sA sH sL : Nat → Int32) (sI : Nat → Bool) (sP sT sG : Nat → Int32) (kp ln po : Int32) (wr : Bool)  (mm : Int32)  : zC l G yX6_weightOf cX6_weightOf 4 (some .int) 2 45 0 0 [.ref a, .int (mm)] (mdM G M a s sA sH sL sI sP sT sG kp ln po wr) N (zP (some (.int (zWei s mm))) (mdM G M a s sA sH sL sI sP sT sG kp ln po wr)) := by
  refine zC.of (by decide +kernel) (Nat.le_of_ble_eq_true rfl) ?_
  intro K hKl ok
  subst hKl
  show zW K G 4 _ 0 0 _ N 0 [(0, .ref a), (1, .int (mm))] []
  refine r_iconst ok (nI 0) dX6_weightOf_0 (by rfl) ?_
  refine r_istore_n ok [(2, .int (nI 0)), (0, .ref a), (1, .int (mm))] dX6_weightOf_1 rfl (by decide) rfl ?_
  refine r_iconst ok (nI 0) dX6_weightOf_2 (by rfl) ?_
  refine r_istore_n ok [(3, .int (nI 0)), (2, .int (nI 0)), (0, .ref a), (1, .int (mm))] dX6_weightOf_3 rfl (by decide) rfl ?_
  have L1 : ∀ (nL1 : Nat) (k : Nat), ((k + nL1 = 8)) → zW K G 4 (zQ K G (N + 0) 0 0 (zP (some (.int (zWei s mm))) (mdM G M a s sA sH sL sI sP sT sG kp ln po wr))) 0 0 (mdM G M a s sA sH sL sI sP sT sG kp ln po wr) N 4 [(0, .ref a), (1, .int (mm)), (2, .int (lsum (fun g => nI (1 + g) * zWant s mm g) k)), (3, .int (nI (k)))] [] := by
    intro nL1
    induction nL1 with
    | zero =>
      intro k hk_k
      obtain rfl : k = 8 := by omega
      refine r_iload_n ok dX6_weightOf_4 3 rfl rfl ?_
      refine r_bipush ok (nI 8) dX6_weightOf_5 (by rfl) ?_
      refine r_icmp_geN ok 29 (by omega) (by omega) dX6_weightOf_7 (by decide) (fun _ => ?_) (fun c => absurd c (by decide))
      refine r_iload_n ok dX6_weightOf_29 2 rfl rfl ?_
      exact r_iret ok dX6_weightOf_30 rfl ⟨congrArg (fun z => some (Value.int z)) (show lsum (fun g => nI (1 + g) * zWant s mm g) 8 = zWei s mm from by rfl), rfl⟩
    | succ nL1 ihL1 =>
      intro k hk_k
      refine r_iload_n ok dX6_weightOf_4 3 rfl rfl ?_
      refine r_bipush ok (nI 8) dX6_weightOf_5 (by rfl) ?_
      refine r_icmp_geN ok 29 (by omega) (by omega) dX6_weightOf_7 (by decide) (fun c7_3 => ?_) (fun c7_3 => ?_)
      · skip
        exact absurd c7_3 (by omega)
      · skip
        refine r_iload_n ok dX6_weightOf_10 2 rfl rfl ?_
        refine r_iconst ok (nI 1) dX6_weightOf_11 (by rfl) ?_
        refine r_iload_n ok dX6_weightOf_12 3 rfl rfl ?_
        refine r_iaddN ok dX6_weightOf_13 ?_
        refine r_aload_n ok dX6_weightOf_14 0 rfl rfl ?_
        refine r_iload_n ok dX6_weightOf_15 1 rfl rfl ?_
        refine r_iload_n ok dX6_weightOf_16 3 rfl rfl ?_
        refine r_cV1 ok [.int (nI (1 + k)), .int (lsum (fun g => nI (1 + g) * zWant s mm g) k)] mi_X6_wanted ci_X6 ml_X6_51 im_X6_wanted se_X6_wanted dX6_weightOf_17 (c_X6_wanted K.2.1 G M N a s sA sH sL sI sP sT sG kp ln po wr  mm k (by omega)) md_o rfl rfl ⟨Nat.le_of_ble_eq_true rfl, Nat.le_of_ble_eq_true rfl⟩ (Nat.le_of_ble_eq_true rfl) ⟨Nat.zero_le _, Nat.zero_le _⟩ ?_
        refine r_imul ok dX6_weightOf_20 ?_
        refine r_iadd ok dX6_weightOf_21 ?_
        refine r_istore_n ok [(2, .int ((lsum (fun g => nI (1 + g) * zWant s mm g) k) + ((nI (1 + k)) * (zWant s mm k)))), (0, .ref a), (1, .int (mm)), (3, .int (nI (k)))] dX6_weightOf_22 rfl (by decide) rfl ?_
        refine r_iincN ok (c := 1) [(3, .int (nI (k + 1))), (2, .int ((lsum (fun g => nI (1 + g) * zWant s mm g) k) + ((nI (1 + k)) * (zWant s mm k)))), (0, .ref a), (1, .int (mm))] dX6_weightOf_23 3 rfl (by rfl) (by decide) rfl ?_
        refine r_goto ok 4 dX6_weightOf_26 (by decide) ?_
        have q4 : Value.int ((lsum (fun g => nI (1 + g) * zWant s mm g) k) + ((nI (1 + k)) * (zWant s mm k))) = Value.int (lsum (fun g => nI (1 + g) * zWant s mm g) (k + 1)) := by first | with_reducible rfl | (simp [lsum_s, nI_0, *])
        refine zW.forget (lv' := [(0, .ref a), (1, .int (mm)), (2, .int ((lsum (fun g => nI (1 + g) * zWant s mm g) k) + ((nI (1 + k)) * (zWant s mm k)))), (3, .int (nI (k + 1)))]) ?_ [2, 3, 1, 0] rfl
        refine zW.to (lv' := [(0, .ref a), (1, .int (mm)), (2, .int (lsum (fun g => nI (1 + g) * zWant s mm g) (k + 1))), (3, .int (nI (k + 1)))]) ?_ rfl (congrArg (fun z => ([(0, .ref a), (1, .int (mm)), (2, z), (3, .int (nI (k + 1)))] : List (Nat × Value))) q4) rfl
        exact ihL1 (k + 1) (by omega)
  have q5 : Value.int (nI 0) = Value.int (lsum (fun g => nI (1 + g) * zWant s mm g) 0) := by first | with_reducible rfl | (rfl)
  refine zW.forget (lv' := [(0, .ref a), (1, .int (mm)), (2, .int (nI 0)), (3, .int (nI 0))]) ?_ [2, 3, 1, 0] rfl
  refine zW.to (lv' := [(0, .ref a), (1, .int (mm)), (2, .int (lsum (fun g => nI (1 + g) * zWant s mm g) 0)), (3, .int (nI 0))]) ?_ rfl (congrArg (fun z => ([(0, .ref a), (1, .int (mm)), (2, z), (3, .int (nI 0))] : List (Nat × Value))) q5) rfl
  exact L1 8 0 (by omega)
set_option maxHeartbeats 4000000 in
set_option maxRecDepth 100000 in
theorem c_X6_valueOf (l : Launch) (G : zG) (M : zM) (N a : Nat) (s sA sH sL : Nat → Int32) (sI : Nat → Bool) (sP sT sG : Nat → Int32) (kp ln po : Int32) (wr : Bool)  (mm : Int32)  : zC l G yX6_valueOf cX6_valueOf 4 (some .int) 3 67 0 0 [.ref a, .int (mm)] (mdM G M a s sA sH sL sI sP sT sG kp ln po wr) N (zP (some (.int (zVal s mm))) (mdM G M a s sA sH sL sI sP sT sG kp ln po wr)) := by
  refine zC.of (by decide +kernel) (Nat.le_of_ble_eq_true rfl) ?_
  intro K hKl ok
  subst hKl
  show zW K G 4 _ 0 0 _ N 0 [(0, .ref a), (1, .int (mm))] []
  refine r_iconst ok (nI 0) dX6_valueOf_0 (by rfl) ?_
  refine r_istore_n ok [(2, .int (nI 0)), (0, .ref a), (1, .int (mm))] dX6_valueOf_1 rfl (by decide) rfl ?_
  refine r_iconst ok (nI 0) dX6_valueOf_2 (by rfl) ?_
  refine r_istore_n ok [(3, .int (nI 0)), (2, .int (nI 0)), (0, .ref a), (1, .int (mm))] dX6_valueOf_3 rfl (by decide) rfl ?_
  have L1 : ∀ (nL1 : Nat) (k : Nat), ((k + nL1 = 8)) → zW K G 4 (zQ K G (N + 0) 0 0 (zP (some (.int (zVal s mm))) (mdM G M a s sA sH sL sI sP sT sG kp ln po wr))) 0 0 (mdM G M a s sA sH sL sI sP sT sG kp ln po wr) N 4 [(0, .ref a), (1, .int (mm)), (2, .int (lsum (fun g => zWant s mm g * zPriceIn s mm g) k)), (3, .int (nI (k)))] [] := by
    intro nL1
    induction nL1 with
    | zero =>
      intro k hk_k
      obtain rfl : k = 8 := by omega
      refine r_iload_n ok dX6_valueOf_4 3 rfl rfl ?_
      refine r_bipush ok (nI 8) dX6_valueOf_5 (by rfl) ?_
      refine r_icmp_geN ok 32 (by omega) (by omega) dX6_valueOf_7 (by decide) (fun _ => ?_) (fun c => absurd c (by decide))
      refine r_iload_n ok dX6_valueOf_32 2 rfl rfl ?_
      exact r_iret ok dX6_valueOf_33 rfl ⟨congrArg (fun z => some (Value.int z)) (show lsum (fun g => zWant s mm g * zPriceIn s mm g) 8 = zVal s mm from by rfl), rfl⟩
    | succ nL1 ihL1 =>
      intro k hk_k
      refine r_iload_n ok dX6_valueOf_4 3 rfl rfl ?_
      refine r_bipush ok (nI 8) dX6_valueOf_5 (by rfl) ?_
      refine r_icmp_geN ok 32 (by omega) (by omega) dX6_valueOf_7 (by decide) (fun c7_3 => ?_) (fun c7_3 => ?_)
      · skip
        exact absurd c7_3 (by omega)
      · skip
        refine r_iload_n ok dX6_valueOf_10 2 rfl rfl ?_
        refine r_aload_n ok dX6_valueOf_11 0 rfl rfl ?_
        refine r_iload_n ok dX6_valueOf_12 1 rfl rfl ?_
        refine r_iload_n ok dX6_valueOf_13 3 rfl rfl ?_
        refine r_cV1 ok [.int (lsum (fun g => zWant s mm g * zPriceIn s mm g) k)] mi_X6_wanted ci_X6 ml_X6_51 im_X6_wanted se_X6_wanted dX6_valueOf_14 (c_X6_wanted K.2.1 G M N a s sA sH sL sI sP sT sG kp ln po wr  mm k (by omega)) md_o rfl rfl ⟨Nat.le_of_ble_eq_true rfl, Nat.le_of_ble_eq_true rfl⟩ (Nat.le_of_ble_eq_true rfl) ⟨Nat.zero_le _, Nat.zero_le _⟩ ?_
        refine r_aload_n ok dX6_valueOf_17 0 rfl rfl ?_
        refine r_iload_n ok dX6_valueOf_18 1 rfl rfl ?_
        refine r_iload_n ok dX6_valueOf_19 3 rfl rfl ?_
        refine r_cV1 ok [.int (zWant s mm k), .int (lsum (fun g => zWant s mm g * zPriceIn s mm g) k)] mi_X6_priceIn ci_X6 ml_X6_58 im_X6_priceIn se_X6_priceIn dX6_valueOf_20 (c_X6_priceIn K.2.1 G M N a s sA sH sL sI sP sT sG kp ln po wr  mm k (by omega)) md_o rfl rfl ⟨Nat.le_of_ble_eq_true rfl, Nat.le_of_ble_eq_true rfl⟩ (Nat.le_of_ble_eq_true rfl) ⟨Nat.zero_le _, Nat.zero_le _⟩ ?_
        refine r_imul ok dX6_valueOf_23 ?_
        refine r_iadd ok dX6_valueOf_24 ?_
        refine r_istore_n ok [(2, .int ((lsum (fun g => zWant s mm g * zPriceIn s mm g) k) + ((zWant s mm k) * (zPriceIn s mm k)))), (0, .ref a), (1, .int (mm)), (3, .int (nI (k)))] dX6_valueOf_25 rfl (by decide) rfl ?_
        refine r_iincN ok (c := 1) [(3, .int (nI (k + 1))), (2, .int ((lsum (fun g => zWant s mm g * zPriceIn s mm g) k) + ((zWant s mm k) * (zPriceIn s mm k)))), (0, .ref a), (1, .int (mm))] dX6_valueOf_26 3 rfl (by rfl) (by decide) rfl ?_
        refine r_goto ok 4 dX6_valueOf_29 (by decide) ?_
        have q4 : Value.int ((lsum (fun g => zWant s mm g * zPriceIn s mm g) k) + ((zWant s mm k) * (zPriceIn s mm k))) = Value.int (lsum (fun g => zWant s mm g * zPriceIn s mm g) (k + 1)) := by first | with_reducible rfl | (simp [lsum_s, nI_0, *])
        refine zW.forget (lv' := [(0, .ref a), (1, .int (mm)), (2, .int ((lsum (fun g => zWant s mm g * zPriceIn s mm g) k) + ((zWant s mm k) * (zPriceIn s mm k)))), (3, .int (nI (k + 1)))]) ?_ [2, 3, 1, 0] rfl
        refine zW.to (lv' := [(0, .ref a), (1, .int (mm)), (2, .int (lsum (fun g => zWant s mm g * zPriceIn s mm g) (k + 1))), (3, .int (nI (k + 1)))]) ?_ rfl (congrArg (fun z => ([(0, .ref a), (1, .int (mm)), (2, z), (3, .int (nI (k + 1)))] : List (Nat × Value))) q4) rfl
        exact ihL1 (k + 1) (by omega)
  have q5 : Value.int (nI 0) = Value.int (lsum (fun g => zWant s mm g * zPriceIn s mm g) 0) := by first | with_reducible rfl | (rfl)
  refine zW.forget (lv' := [(0, .ref a), (1, .int (mm)), (2, .int (nI 0)), (3, .int (nI 0))]) ?_ [2, 3, 1, 0] rfl
  refine zW.to (lv' := [(0, .ref a), (1, .int (mm)), (2, .int (lsum (fun g => zWant s mm g * zPriceIn s mm g) 0)), (3, .int (nI 0))]) ?_ rfl (congrArg (fun z => ([(0, .ref a), (1, .int (mm)), (2, z), (3, .int (nI 0))] : List (Nat × Value))) q5) rfl
  exact L1 8 0 (by omega)
set_option maxHeartbeats 4000000 in
set_option maxRecDepth 100000 in
theorem c_X6_postOf (l : Launch) (G : zG) (M : zM) (N a : Nat) (s sA sH sL : Nat → Int32) (sI : Nat → Bool) (sP sT sG : Nat → Int32) (kp ln po : Int32) (wr : Bool)  (mm : Int32)  : zC l G yX6_postOf cX6_postOf 2 (some .int) 3 68 0 0 [.ref a, .int (mm)] (mdM G M a s sA sH sL sI sP sT sG kp ln po wr) N (zP (some (.int (zPost s mm))) (mdM G M a s sA sH sL sI sP sT sG kp ln po wr)) := by
  refine zC.of (by decide +kernel) (Nat.le_of_ble_eq_true rfl) ?_
  intro K hKl ok
  subst hKl
  show zW K G 2 _ 0 0 _ N 0 [(0, .ref a), (1, .int (mm))] []
  refine r_aload_n ok dX6_postOf_0 0 rfl rfl ?_
  refine r_iload_n ok dX6_postOf_1 1 rfl rfl ?_
  refine r_cV1 ok [] mi_X6_stringsOf ci_X6 ml_X6_61 im_X6_stringsOf se_X6_stringsOf dX6_postOf_2 (c_X6_stringsOf K.2.1 G M N a s sA sH sL sI sP sT sG kp ln po wr  mm ) md_o rfl rfl ⟨Nat.le_of_ble_eq_true rfl, Nat.le_of_ble_eq_true rfl⟩ (Nat.le_of_ble_eq_true rfl) ⟨Nat.zero_le _, Nat.zero_le _⟩ ?_
  refine r_if_ne ok 12 dX6_postOf_5 (by decide) (fun c5_1 => ?_) (fun c5_1 => ?_)
  · skip
    refine r_aload_n ok dX6_postOf_12 0 rfl rfl ?_
    refine r_getf ok ci_X6 fl_X6_7 (by decide) dX6_postOf_13 md_o rfl ?_
    refine r_iconst ok (nI 1) dX6_postOf_16 (by rfl) ?_
    refine r_ialdN ok (by omega) (by omega) dX6_postOf_17 md_s ?_
    refine r_aload_n ok dX6_postOf_18 0 rfl rfl ?_
    refine r_getf ok ci_X6 fl_X6_7 (by decide) dX6_postOf_19 md_o rfl ?_
    refine r_iconst ok (nI 2) dX6_postOf_22 (by rfl) ?_
    refine r_ialdN ok (by omega) (by omega) dX6_postOf_23 md_s ?_
    refine r_aload_n ok dX6_postOf_24 0 rfl rfl ?_
    refine r_iload_n ok dX6_postOf_25 1 rfl rfl ?_
    refine r_cV1 ok [.int (s 2), .int (s 1)] mi_X6_weightOf ci_X6 ml_X6_64 im_X6_weightOf se_X6_weightOf dX6_postOf_26 (c_X6_weightOf K.2.1 G M N a s sA sH sL sI sP sT sG kp ln po wr  mm ) md_o rfl rfl ⟨Nat.le_of_ble_eq_true rfl, Nat.le_of_ble_eq_true rfl⟩ (Nat.le_of_ble_eq_true rfl) ⟨Nat.zero_le _, Nat.zero_le _⟩ ?_
    refine r_imul ok dX6_postOf_29 ?_
    refine r_iadd ok dX6_postOf_30 ?_
    exact r_iret ok dX6_postOf_31 rfl ⟨congrArg (fun z => some (Value.int z)) (show (s 1) + ((s 2) * (zWei s mm)) = zPost s mm from by unfold zPost; first | exact (if_pos (by assumption)).symm | exact (if_neg (by assumption)).symm), rfl⟩
  · skip
    refine r_iconst ok (nI 0) dX6_postOf_8 (by rfl) ?_
    refine r_goto ok 31 dX6_postOf_9 (by decide) ?_
    exact r_iret ok dX6_postOf_31 rfl ⟨congrArg (fun z => some (Value.int z)) (show nI 0 = zPost s mm from by unfold zPost; first | exact (if_pos (by assumption)).symm | exact (if_neg (by assumption)).symm), rfl⟩
set_option maxHeartbeats 4000000 in
set_option maxRecDepth 100000 in
theorem c_X6_costOf (l : Launch) (G : zG) (M : zM) (N a : Nat) (s sA sH sL : Nat → Int32) (sI : Nat → Bool) (sP sT sG : Nat → Int32) (kp ln po : Int32) (wr : Bool)  (mm : Int32)  : zC l G yX6_costOf cX6_costOf 2 (some .int) 4 90 0 0 [.ref a, .int (mm)] (mdM G M a s sA sH sL sI sP sT sG kp ln po wr) N (zP (some (.int (zCost s mm))) (mdM G M a s sA sH sL sI sP sT sG kp ln po wr)) := by
  refine zC.of (by decide +kernel) (Nat.le_of_ble_eq_true rfl) ?_
  intro K hKl ok
  subst hKl
  show zW K G 2 _ 0 0 _ N 0 [(0, .ref a), (1, .int (mm))] []
  refine r_aload_n ok dX6_costOf_0 0 rfl rfl ?_
  refine r_iload_n ok dX6_costOf_1 1 rfl rfl ?_
  refine r_cV1 ok [] mi_X6_valueOf ci_X6 ml_X6_67 im_X6_valueOf se_X6_valueOf dX6_costOf_2 (c_X6_valueOf K.2.1 G M N a s sA sH sL sI sP sT sG kp ln po wr  mm ) md_o rfl rfl ⟨Nat.le_of_ble_eq_true rfl, Nat.le_of_ble_eq_true rfl⟩ (Nat.le_of_ble_eq_true rfl) ⟨Nat.zero_le _, Nat.zero_le _⟩ ?_
  refine r_aload_n ok dX6_costOf_5 0 rfl rfl ?_
  refine r_iload_n ok dX6_costOf_6 1 rfl rfl ?_
  refine r_cV1 ok [.int (zVal s mm)] mi_X6_postOf ci_X6 ml_X6_70 im_X6_postOf se_X6_postOf dX6_costOf_7 (c_X6_postOf K.2.1 G M N a s sA sH sL sI sP sT sG kp ln po wr  mm ) md_o rfl rfl ⟨Nat.le_of_ble_eq_true rfl, Nat.le_of_ble_eq_true rfl⟩ (Nat.le_of_ble_eq_true rfl) ⟨Nat.zero_le _, Nat.zero_le _⟩ ?_
  refine r_iadd ok dX6_costOf_10 ?_
  exact r_iret ok dX6_costOf_11 rfl ⟨congrArg (fun z => some (Value.int z)) (show (zVal s mm) + (zPost s mm) = zCost s mm from by rfl), rfl⟩
set_option maxHeartbeats 4000000 in
set_option maxRecDepth 100000 in
theorem c_X6_dutyOn (l : Launch) (G : zG) (M : zM) (N a : Nat) (s sA sH sL : Nat → Int32) (sI : Nat → Bool) (sP sT sG : Nat → Int32) (kp ln po : Int32) (wr : Bool)  (v : Int32)  : zC l G yX6_dutyOn cX6_dutyOn 2 (some .int) 0 0 0 0 [.ref a, .int (v)] (mdM G M a s sA sH sL sI sP sT sG kp ln po wr) N (zP (some (.int (zDuty s v))) (mdM G M a s sA sH sL sI sP sT sG kp ln po wr)) := by
  refine zC.of (by decide +kernel) (Nat.le_of_ble_eq_true rfl) ?_
  intro K hKl ok
  subst hKl
  show zW K G 2 _ 0 0 _ N 0 [(0, .ref a), (1, .int (v))] []
  refine r_iload_n ok dX6_dutyOn_0 1 rfl rfl ?_
  refine r_aload_n ok dX6_dutyOn_1 0 rfl rfl ?_
  refine r_getf ok ci_X6 fl_X6_7 (by decide) dX6_dutyOn_2 md_o rfl ?_
  refine r_iconst ok (nI 5) dX6_dutyOn_5 (by rfl) ?_
  refine r_ialdN ok (by omega) (by omega) dX6_dutyOn_6 md_s ?_
  refine r_icmp_le ok 32 dX6_dutyOn_7 (by decide) (fun c7_1 => ?_) (fun c7_1 => ?_)
  · skip
    refine r_iconst ok (nI 0) dX6_dutyOn_32 (by rfl) ?_
    exact r_iret ok dX6_dutyOn_33 rfl ⟨congrArg (fun z => some (Value.int z)) (show nI 0 = zDuty s v from by unfold zDuty; split <;> first | rfl | (exfalso; simp only [Int32.lt_iff_toInt_lt, Int32.le_iff_toInt_le] at *; omega)), rfl⟩
  · skip
    refine r_iload_n ok dX6_dutyOn_10 1 rfl rfl ?_
    refine r_aload_n ok dX6_dutyOn_11 0 rfl rfl ?_
    refine r_getf ok ci_X6 fl_X6_7 (by decide) dX6_dutyOn_12 md_o rfl ?_
    refine r_iconst ok (nI 5) dX6_dutyOn_15 (by rfl) ?_
    refine r_ialdN ok (by omega) (by omega) dX6_dutyOn_16 md_s ?_
    refine r_isub ok dX6_dutyOn_17 ?_
    refine r_aload_n ok dX6_dutyOn_18 0 rfl rfl ?_
    refine r_getf ok ci_X6 fl_X6_7 (by decide) dX6_dutyOn_19 md_o rfl ?_
    refine r_bipush ok (nI 6) dX6_dutyOn_22 (by rfl) ?_
    refine r_ialdN ok (by omega) (by omega) dX6_dutyOn_24 md_s ?_
    refine r_imul ok dX6_dutyOn_25 ?_
    refine r_bipush ok (nI 100) dX6_dutyOn_26 (by rfl) ?_
    refine r_idiv ok (by decide) dX6_dutyOn_28 ?_
    refine r_goto ok 33 dX6_dutyOn_29 (by decide) ?_
    exact r_iret ok dX6_dutyOn_33 rfl ⟨congrArg (fun z => some (Value.int z)) (show ((v - (s 5)) * (s 6)) / (nI 100) = zDuty s v from by unfold zDuty; split <;> first | rfl | (exfalso; simp only [Int32.lt_iff_toInt_lt, Int32.le_iff_toInt_le] at *; omega)), rfl⟩
end
section
set_option maxHeartbeats 4000000 in
set_option maxRecDepth 100000 in
theorem c_X6_shares (l : Launch) (G : zG) (M : zM) (N a : Nat) (s sA sH sL : Nat → Int32) (sI : Nat → Bool) (sP sT sG : Nat → Int32) (kp ln po : Int32) (wr : Bool)  (am : Int32)  : zC l G yX6_shares cX6_shares 6 (none) 0 0 0 0 [.ref a, .int (am)] (mdM G M a s sA sH sL sI sP sT sG kp ln po wr) N (zP none (mdM G M a s sA sH sL sI sP sT (zGets am sT sG) kp ln po wr)) := by
  refine zC.of (by decide +kernel) (Nat.le_of_ble_eq_true rfl) ?_
  intro K hKl ok
  subst hKl
  show zW K G 6 _ 0 0 _ N 0 [(0, .ref a), (1, .int (am))] []
  refine r_iconst ok (nI 0) dX6_shares_0 (by rfl) ?_
  refine r_istore_n ok [(2, .int (nI 0)), (0, .ref a), (1, .int (am))] dX6_shares_1 rfl (by decide) rfl ?_
  refine r_iconst ok (nI 0) dX6_shares_2 (by rfl) ?_
  refine r_istore_n ok [(3, .int (nI 0)), (2, .int (nI 0)), (0, .ref a), (1, .int (am))] dX6_shares_3 rfl (by decide) rfl ?_
  have L1 : ∀ (nL1 : Nat) (k : Nat), ((k + nL1 = 6)) → zW K G 6 (zQ K G (N + 0) 0 0 (zP none (mdM G M a s sA sH sL sI sP sT (zGets am sT sG) kp ln po wr))) 0 0 (mdM G M a s sA sH sL sI sP sT sG kp ln po wr) N 4 [(0, .ref a), (1, .int (am)), (2, .int (lsum sT k)), (3, .int (nI (k)))] [] := by
    intro nL1
    induction nL1 with
    | zero =>
      intro k hk_k
      obtain rfl : k = 6 := by omega
      refine r_iload_n ok dX6_shares_4 3 rfl rfl ?_
      refine r_bipush ok (nI 6) dX6_shares_5 (by rfl) ?_
      refine r_icmp_geN ok 25 (by omega) (by omega) dX6_shares_7 (by decide) (fun _ => ?_) (fun c => absurd c (by decide))
      refine r_iload_n ok dX6_shares_25 1 rfl rfl ?_
      refine r_istore_n ok [(3, .int (am)), (0, .ref a), (1, .int (am)), (2, .int (lsum sT 6))] dX6_shares_26 rfl (by decide) rfl ?_
      refine r_iconst ok (nI 0) dX6_shares_27 (by rfl) ?_
      refine r_istore ok [(4, .int (nI 0)), (3, .int (am)), (0, .ref a), (1, .int (am)), (2, .int (lsum sT 6))] dX6_shares_28 (by decide) rfl ?_
      have L3 : ∀ (nL3 : Nat) (k : Nat), ((k + nL3 = 6)) → zW K G 6 (zQ K G (N + 0) 0 0 (zP none (mdM G M a s sA sH sL sI sP sT (zGets am sT sG) kp ln po wr))) 0 0 (mdM G M a s sA sH sL sI sP sT (zC0 sG (zBase am sT) k) kp ln po wr) N 30 [(0, .ref a), (1, .int (am)), (2, .int (lsum sT 6)), (3, .int (zLft am sT k)), (4, .int (nI (k)))] [] := by
        intro nL3
        induction nL3 with
        | zero =>
          intro k hk_k
          obtain rfl : k = 6 := by omega
          refine r_iload ok dX6_shares_30 4 rfl ?_
          refine r_bipush ok (nI 6) dX6_shares_32 (by rfl) ?_
          refine r_icmp_geN ok 79 (by omega) (by omega) dX6_shares_34 (by decide) (fun _ => ?_) (fun c => absurd c (by decide))
          refine r_iconst ok (nI 0) dX6_shares_79 (by rfl) ?_
          refine r_istore ok [(4, .int (nI 0)), (0, .ref a), (1, .int (am)), (2, .int (lsum sT 6)), (3, .int (zLft am sT 6))] dX6_shares_80 (by decide) rfl ?_
          have L5 : ∀ (nL5 : Nat) (k : Nat), ((k + nL5 = 6)) → zW K G 6 (zQ K G (N + 0) 0 0 (zP none (mdM G M a s sA sH sL sI sP sT (zGets am sT sG) kp ln po wr))) 0 0 (mdM G M a s sA sH sL sI sP sT (zG2 am sT sG k) kp ln po wr) N 82 [(0, .ref a), (1, .int (am)), (2, .int (lsum sT 6)), (3, .int (zLf2 am sT k)), (4, .int (nI (k)))] [] := by
            intro nL5
            induction nL5 with
            | zero =>
              intro k hk_k
              obtain rfl : k = 6 := by omega
              refine r_iload ok dX6_shares_82 4 rfl ?_
              refine r_bipush ok (nI 6) dX6_shares_84 (by rfl) ?_
              refine r_icmp_geN ok 153 (by omega) (by omega) dX6_shares_86 (by decide) (fun _ => ?_) (fun c => absurd c (by decide))
              exact r_vret ok dX6_shares_153 rfl ⟨rfl, (by first | rfl | (rw [zG2_le _ _ _ _ (by omega) (by assumption)]))⟩
            | succ nL5 ihL5 =>
              intro k hk_k
              refine r_iload ok dX6_shares_82 4 rfl ?_
              refine r_bipush ok (nI 6) dX6_shares_84 (by rfl) ?_
              refine r_icmp_geN ok 153 (by omega) (by omega) dX6_shares_86 (by decide) (fun c86_7 => ?_) (fun c86_7 => ?_)
              · skip
                exact absurd c86_7 (by omega)
              · skip
                refine r_iload_n ok dX6_shares_89 2 rfl rfl ?_
                refine r_if_le ok 153 dX6_shares_90 (by decide) (fun c90_8 => ?_) (fun c90_8 => ?_)
                · skip
                  exact r_vret ok dX6_shares_153 rfl ⟨rfl, (by first | rfl | (rw [zG2_le _ _ _ _ (by omega) (by assumption)]))⟩
                · skip
                  refine r_aload_n ok dX6_shares_93 0 rfl rfl ?_
                  refine r_getf ok ci_X6 fl_X6_29 (by decide) dX6_shares_94 md_o rfl ?_
                  refine r_iload ok dX6_shares_97 4 rfl ?_
                  refine r_ialdN ok (by omega) (by omega) dX6_shares_99 md_sT ?_
                  refine r_if_le ok 111 dX6_shares_100 (by decide) (fun c100_9 => ?_) (fun c100_9 => ?_)
                  · skip
                    refine r_iconst ok (nI 0) dX6_shares_111 (by rfl) ?_
                    refine r_istore ok [(5, .int (nI 0)), (0, .ref a), (1, .int (am)), (2, .int (lsum sT 6)), (3, .int (zLf2 am sT k)), (4, .int (nI (k)))] dX6_shares_112 (by decide) rfl ?_
                    refine r_aload_n ok dX6_shares_114 1 rfl rfl ?_
                    refine r_getf ok ci_X6 fl_X6_32 (by decide) dX6_shares_115 md_o rfl ?_
                    refine r_iload ok dX6_shares_118 5 rfl ?_
                    refine r_dup2 ok dX6_shares_120 rfl rfl ?_
                    refine r_ialdN ok (by omega) (by omega) dX6_shares_121 md_sG ?_
                    refine zW.to (st' := [.int (zBase am sT k), .int (nI (k)), .ref (a + 8)]) ?_ rfl rfl (congrArg (fun z => (Value.int z :: [.int (nI (k)), .ref (a + 8)] : List Value)) (show (zG2 am sT sG k) k = zBase am sT k from (zG2_at am sT sG (by omega))))
                    refine r_iload ok dX6_shares_122 0 rfl ?_
                    refine r_if_eqN ok 131 (by omega) dX6_shares_124 (by decide) (fun _ => ?_) (fun c => absurd c (by decide))
                    refine r_iconst ok (nI 0) dX6_shares_131 (by rfl) ?_
                    refine r_iadd ok dX6_shares_132 ?_
                    refine r_iastN ok (by omega) (by omega) dX6_shares_133 md_sG (mdw_sG _) ?_
                    refine r_iload_n ok dX6_shares_134 4 rfl rfl ?_
                    refine r_iload ok dX6_shares_135 0 rfl ?_
                    refine r_if_eqN ok 144 (by omega) dX6_shares_137 (by decide) (fun _ => ?_) (fun c => absurd c (by decide))
                    refine r_iconst ok (nI 0) dX6_shares_144 (by rfl) ?_
                    refine r_isub ok dX6_shares_145 ?_
                    refine r_istore_n ok [(3, .int ((zLf2 am sT k) - (nI 0))), (5, .int (nI 0)), (0, .ref a), (1, .int (am)), (2, .int (lsum sT 6)), (4, .int (nI (k)))] dX6_shares_146 rfl (by decide) rfl ?_
                    refine r_iincN ok (c := 1) [(4, .int (nI (k + 1))), (3, .int ((zLf2 am sT k) - (nI 0))), (5, .int (nI 0)), (0, .ref a), (1, .int (am)), (2, .int (lsum sT 6))] dX6_shares_147 5 rfl (by rfl) (by decide) rfl ?_
                    refine r_goto ok 82 dX6_shares_150 (by decide) ?_
                    have q12 : Value.int ((zLf2 am sT k) - (nI 0)) = Value.int (zLf2 am sT (k + 1)) := by first | with_reducible rfl | (first | (rw [← zG2_s]; simp [zGet, zGiv, nI_0, nI_one, *]; done) | simp [zLf2, zGiv, nI_0, nI_one, *])
                    have q13 : mdM G M a s sA sH sL sI sP sT (upd (zG2 am sT sG k) k ((zBase am sT k) + (nI 0))) kp ln po wr = mdM G M a s sA sH sL sI sP sT (zG2 am sT sG (k + 1)) kp ln po wr := by first | with_reducible rfl | (first | (rw [← zG2_s]; simp [zGet, zGiv, nI_0, nI_one, *]; done) | simp [zLf2, zGiv, nI_0, nI_one, *])
                    refine zW.forget (lv' := [(0, .ref a), (1, .int (am)), (2, .int (lsum sT 6)), (3, .int ((zLf2 am sT k) - (nI 0))), (4, .int (nI (k + 1)))]) ?_ [3, 4, 5, 1, 0] rfl
                    refine zW.to (lv' := [(0, .ref a), (1, .int (am)), (2, .int (lsum sT 6)), (3, .int (zLf2 am sT (k + 1))), (4, .int (nI (k + 1)))]) ?_ rfl (congrArg (fun z => ([(0, .ref a), (1, .int (am)), (2, .int (lsum sT 6)), (3, z), (4, .int (nI (k + 1)))] : List (Nat × Value))) q12) rfl
                    refine zW.to ?_ q13 rfl rfl
                    exact ihL5 (k + 1) (by omega)
                  · skip
                    refine r_iload_n ok dX6_shares_103 3 rfl rfl ?_
                    refine r_if_le ok 111 dX6_shares_104 (by decide) (fun c104_14 => ?_) (fun c104_14 => ?_)
                    · skip
                      refine r_iconst ok (nI 0) dX6_shares_111 (by rfl) ?_
                      refine r_istore ok [(5, .int (nI 0)), (0, .ref a), (1, .int (am)), (2, .int (lsum sT 6)), (3, .int (zLf2 am sT k)), (4, .int (nI (k)))] dX6_shares_112 (by decide) rfl ?_
                      refine r_aload_n ok dX6_shares_114 1 rfl rfl ?_
                      refine r_getf ok ci_X6 fl_X6_32 (by decide) dX6_shares_115 md_o rfl ?_
                      refine r_iload ok dX6_shares_118 5 rfl ?_
                      refine r_dup2 ok dX6_shares_120 rfl rfl ?_
                      refine r_ialdN ok (by omega) (by omega) dX6_shares_121 md_sG ?_
                      refine zW.to (st' := [.int (zBase am sT k), .int (nI (k)), .ref (a + 8)]) ?_ rfl rfl (congrArg (fun z => (Value.int z :: [.int (nI (k)), .ref (a + 8)] : List Value)) (show (zG2 am sT sG k) k = zBase am sT k from (zG2_at am sT sG (by omega))))
                      refine r_iload ok dX6_shares_122 0 rfl ?_
                      refine r_if_eqN ok 131 (by omega) dX6_shares_124 (by decide) (fun _ => ?_) (fun c => absurd c (by decide))
                      refine r_iconst ok (nI 0) dX6_shares_131 (by rfl) ?_
                      refine r_iadd ok dX6_shares_132 ?_
                      refine r_iastN ok (by omega) (by omega) dX6_shares_133 md_sG (mdw_sG _) ?_
                      refine r_iload_n ok dX6_shares_134 4 rfl rfl ?_
                      refine r_iload ok dX6_shares_135 0 rfl ?_
                      refine r_if_eqN ok 144 (by omega) dX6_shares_137 (by decide) (fun _ => ?_) (fun c => absurd c (by decide))
                      refine r_iconst ok (nI 0) dX6_shares_144 (by rfl) ?_
                      refine r_isub ok dX6_shares_145 ?_
                      refine r_istore_n ok [(3, .int ((zLf2 am sT k) - (nI 0))), (5, .int (nI 0)), (0, .ref a), (1, .int (am)), (2, .int (lsum sT 6)), (4, .int (nI (k)))] dX6_shares_146 rfl (by decide) rfl ?_
                      refine r_iincN ok (c := 1) [(4, .int (nI (k + 1))), (3, .int ((zLf2 am sT k) - (nI 0))), (5, .int (nI 0)), (0, .ref a), (1, .int (am)), (2, .int (lsum sT 6))] dX6_shares_147 5 rfl (by rfl) (by decide) rfl ?_
                      refine r_goto ok 82 dX6_shares_150 (by decide) ?_
                      have q17 : Value.int ((zLf2 am sT k) - (nI 0)) = Value.int (zLf2 am sT (k + 1)) := by first | with_reducible rfl | (first | (rw [← zG2_s]; simp [zGet, zGiv, nI_0, nI_one, *]; done) | simp [zLf2, zGiv, nI_0, nI_one, *])
                      have q18 : mdM G M a s sA sH sL sI sP sT (upd (zG2 am sT sG k) k ((zBase am sT k) + (nI 0))) kp ln po wr = mdM G M a s sA sH sL sI sP sT (zG2 am sT sG (k + 1)) kp ln po wr := by first | with_reducible rfl | (first | (rw [← zG2_s]; simp [zGet, zGiv, nI_0, nI_one, *]; done) | simp [zLf2, zGiv, nI_0, nI_one, *])
                      refine zW.forget (lv' := [(0, .ref a), (1, .int (am)), (2, .int (lsum sT 6)), (3, .int ((zLf2 am sT k) - (nI 0))), (4, .int (nI (k + 1)))]) ?_ [3, 4, 5, 1, 0] rfl
                      refine zW.to (lv' := [(0, .ref a), (1, .int (am)), (2, .int (lsum sT 6)), (3, .int (zLf2 am sT (k + 1))), (4, .int (nI (k + 1)))]) ?_ rfl (congrArg (fun z => ([(0, .ref a), (1, .int (am)), (2, .int (lsum sT 6)), (3, z), (4, .int (nI (k + 1)))] : List (Nat × Value))) q17) rfl
                      refine zW.to ?_ q18 rfl rfl
                      exact ihL5 (k + 1) (by omega)
                    · skip
                      refine r_iconst ok (nI 1) dX6_shares_107 (by rfl) ?_
                      refine r_goto ok 112 dX6_shares_108 (by decide) ?_
                      refine r_istore ok [(5, .int (nI 1)), (0, .ref a), (1, .int (am)), (2, .int (lsum sT 6)), (3, .int (zLf2 am sT k)), (4, .int (nI (k)))] dX6_shares_112 (by decide) rfl ?_
                      refine r_aload_n ok dX6_shares_114 1 rfl rfl ?_
                      refine r_getf ok ci_X6 fl_X6_32 (by decide) dX6_shares_115 md_o rfl ?_
                      refine r_iload ok dX6_shares_118 5 rfl ?_
                      refine r_dup2 ok dX6_shares_120 rfl rfl ?_
                      refine r_ialdN ok (by omega) (by omega) dX6_shares_121 md_sG ?_
                      refine zW.to (st' := [.int (zBase am sT k), .int (nI (k)), .ref (a + 8)]) ?_ rfl rfl (congrArg (fun z => (Value.int z :: [.int (nI (k)), .ref (a + 8)] : List Value)) (show (zG2 am sT sG k) k = zBase am sT k from (zG2_at am sT sG (by omega))))
                      refine r_iload ok dX6_shares_122 0 rfl ?_
                      refine r_if_eqN ok 131 (by omega) dX6_shares_124 (by decide) (fun c => absurd c (by decide)) (fun _ => ?_)
                      refine r_iconst ok (nI 1) dX6_shares_127 (by rfl) ?_
                      refine r_goto ok 132 dX6_shares_128 (by decide) ?_
                      refine r_iadd ok dX6_shares_132 ?_
                      refine r_iastN ok (by omega) (by omega) dX6_shares_133 md_sG (mdw_sG _) ?_
                      refine r_iload_n ok dX6_shares_134 4 rfl rfl ?_
                      refine r_iload ok dX6_shares_135 0 rfl ?_
                      refine r_if_eqN ok 144 (by omega) dX6_shares_137 (by decide) (fun c => absurd c (by decide)) (fun _ => ?_)
                      refine r_iconst ok (nI 1) dX6_shares_140 (by rfl) ?_
                      refine r_goto ok 145 dX6_shares_141 (by decide) ?_
                      refine r_isub ok dX6_shares_145 ?_
                      refine r_istore_n ok [(3, .int ((zLf2 am sT k) - (nI 1))), (5, .int (nI 1)), (0, .ref a), (1, .int (am)), (2, .int (lsum sT 6)), (4, .int (nI (k)))] dX6_shares_146 rfl (by decide) rfl ?_
                      refine r_iincN ok (c := 1) [(4, .int (nI (k + 1))), (3, .int ((zLf2 am sT k) - (nI 1))), (5, .int (nI 1)), (0, .ref a), (1, .int (am)), (2, .int (lsum sT 6))] dX6_shares_147 5 rfl (by rfl) (by decide) rfl ?_
                      refine r_goto ok 82 dX6_shares_150 (by decide) ?_
                      have q21 : Value.int ((zLf2 am sT k) - (nI 1)) = Value.int (zLf2 am sT (k + 1)) := by first | with_reducible rfl | (first | (rw [← zG2_s]; simp [zGet, zGiv, nI_0, nI_one, *]; done) | simp [zLf2, zGiv, nI_0, nI_one, *])
                      have q22 : mdM G M a s sA sH sL sI sP sT (upd (zG2 am sT sG k) k ((zBase am sT k) + (nI 1))) kp ln po wr = mdM G M a s sA sH sL sI sP sT (zG2 am sT sG (k + 1)) kp ln po wr := by first | with_reducible rfl | (first | (rw [← zG2_s]; simp [zGet, zGiv, nI_0, nI_one, *]; done) | simp [zLf2, zGiv, nI_0, nI_one, *])
                      refine zW.forget (lv' := [(0, .ref a), (1, .int (am)), (2, .int (lsum sT 6)), (3, .int ((zLf2 am sT k) - (nI 1))), (4, .int (nI (k + 1)))]) ?_ [3, 4, 5, 1, 0] rfl
                      refine zW.to (lv' := [(0, .ref a), (1, .int (am)), (2, .int (lsum sT 6)), (3, .int (zLf2 am sT (k + 1))), (4, .int (nI (k + 1)))]) ?_ rfl (congrArg (fun z => ([(0, .ref a), (1, .int (am)), (2, .int (lsum sT 6)), (3, z), (4, .int (nI (k + 1)))] : List (Nat × Value))) q21) rfl
                      refine zW.to ?_ q22 rfl rfl
                      exact ihL5 (k + 1) (by omega)
          have q23 : Value.int (zLft am sT 6) = Value.int (zLf2 am sT 0) := by first | with_reducible rfl | (first | rfl | (unfold zG2; rw [zC0_0]))
          have q24 : mdM G M a s sA sH sL sI sP sT (zC0 sG (zBase am sT) 6) kp ln po wr = mdM G M a s sA sH sL sI sP sT (zG2 am sT sG 0) kp ln po wr := by first | with_reducible rfl | (first | rfl | (unfold zG2; rw [zC0_0]))
          refine zW.forget (lv' := [(0, .ref a), (1, .int (am)), (2, .int (lsum sT 6)), (3, .int (zLft am sT 6)), (4, .int (nI 0))]) ?_ [1, 2, 3, 4, 0] rfl
          refine zW.to (lv' := [(0, .ref a), (1, .int (am)), (2, .int (lsum sT 6)), (3, .int (zLf2 am sT 0)), (4, .int (nI 0))]) ?_ rfl (congrArg (fun z => ([(0, .ref a), (1, .int (am)), (2, .int (lsum sT 6)), (3, z), (4, .int (nI 0))] : List (Nat × Value))) q23) rfl
          refine zW.to ?_ q24 rfl rfl
          exact L5 6 0 (by omega)
        | succ nL3 ihL3 =>
          intro k hk_k
          refine r_iload ok dX6_shares_30 4 rfl ?_
          refine r_bipush ok (nI 6) dX6_shares_32 (by rfl) ?_
          refine r_icmp_geN ok 79 (by omega) (by omega) dX6_shares_34 (by decide) (fun c34_25 => ?_) (fun c34_25 => ?_)
          · skip
            exact absurd c34_25 (by omega)
          · skip
            refine r_aload_n ok dX6_shares_37 0 rfl rfl ?_
            refine r_getf ok ci_X6 fl_X6_32 (by decide) dX6_shares_38 md_o rfl ?_
            refine r_iload ok dX6_shares_41 4 rfl ?_
            refine r_iload_n ok dX6_shares_43 2 rfl rfl ?_
            refine r_if_ne ok 51 dX6_shares_44 (by decide) (fun c44_26 => ?_) (fun c44_26 => ?_)
            · skip
              refine r_iload_n ok dX6_shares_51 1 rfl rfl ?_
              refine r_aload_n ok dX6_shares_52 0 rfl rfl ?_
              refine r_getf ok ci_X6 fl_X6_29 (by decide) dX6_shares_53 md_o rfl ?_
              refine r_iload ok dX6_shares_56 4 rfl ?_
              refine r_ialdN ok (by omega) (by omega) dX6_shares_58 md_sT ?_
              refine r_imul ok dX6_shares_59 ?_
              refine r_iload_n ok dX6_shares_60 2 rfl rfl ?_
              refine r_idiv ok (by assumption) dX6_shares_61 ?_
              refine r_iastN ok (by omega) (by omega) dX6_shares_62 md_sG (mdw_sG _) ?_
              refine r_iload_n ok dX6_shares_63 3 rfl rfl ?_
              refine r_aload_n ok dX6_shares_64 0 rfl rfl ?_
              refine r_getf ok ci_X6 fl_X6_32 (by decide) dX6_shares_65 md_o rfl ?_
              refine r_iload ok dX6_shares_68 4 rfl ?_
              refine r_ialdN ok (by omega) (by omega) dX6_shares_70 md_sG ?_
              refine zW.to (st' := [.int ((am * (sT k)) / (lsum sT 6)), .int (zLft am sT k)]) ?_ rfl rfl (congrArg (fun z => (Value.int z :: [.int (zLft am sT k)] : List Value)) (show (upd (zC0 sG (zBase am sT) k) k ((am * (sT k)) / (lsum sT 6))) k = (am * (sT k)) / (lsum sT 6) from pk_us))
              refine r_isub ok dX6_shares_71 ?_
              refine r_istore_n ok [(3, .int ((zLft am sT k) - ((am * (sT k)) / (lsum sT 6)))), (0, .ref a), (1, .int (am)), (2, .int (lsum sT 6)), (4, .int (nI (k)))] dX6_shares_72 rfl (by decide) rfl ?_
              refine r_iincN ok (c := 1) [(4, .int (nI (k + 1))), (3, .int ((zLft am sT k) - ((am * (sT k)) / (lsum sT 6)))), (0, .ref a), (1, .int (am)), (2, .int (lsum sT 6))] dX6_shares_73 4 rfl (by rfl) (by decide) rfl ?_
              refine r_goto ok 30 dX6_shares_76 (by decide) ?_
              have q27 : Value.int ((zLft am sT k) - ((am * (sT k)) / (lsum sT 6))) = Value.int (zLft am sT (k + 1)) := by first | with_reducible rfl | (first | (rw [← zC0_s]; simp [zBase, nI_0, *]; done) | simp [zLft, zBase, nI_0, *])
              have q28 : mdM G M a s sA sH sL sI sP sT (upd (zC0 sG (zBase am sT) k) k ((am * (sT k)) / (lsum sT 6))) kp ln po wr = mdM G M a s sA sH sL sI sP sT (zC0 sG (zBase am sT) (k + 1)) kp ln po wr := by first | with_reducible rfl | (first | (rw [← zC0_s]; simp [zBase, nI_0, *]; done) | simp [zLft, zBase, nI_0, *])
              refine zW.forget (lv' := [(0, .ref a), (1, .int (am)), (2, .int (lsum sT 6)), (3, .int ((zLft am sT k) - ((am * (sT k)) / (lsum sT 6)))), (4, .int (nI (k + 1)))]) ?_ [2, 3, 4, 1, 0] rfl
              refine zW.to (lv' := [(0, .ref a), (1, .int (am)), (2, .int (lsum sT 6)), (3, .int (zLft am sT (k + 1))), (4, .int (nI (k + 1)))]) ?_ rfl (congrArg (fun z => ([(0, .ref a), (1, .int (am)), (2, .int (lsum sT 6)), (3, z), (4, .int (nI (k + 1)))] : List (Nat × Value))) q27) rfl
              refine zW.to ?_ q28 rfl rfl
              exact ihL3 (k + 1) (by omega)
            · skip
              refine r_iconst ok (nI 0) dX6_shares_47 (by rfl) ?_
              refine r_goto ok 62 dX6_shares_48 (by decide) ?_
              refine r_iastN ok (by omega) (by omega) dX6_shares_62 md_sG (mdw_sG _) ?_
              refine r_iload_n ok dX6_shares_63 3 rfl rfl ?_
              refine r_aload_n ok dX6_shares_64 0 rfl rfl ?_
              refine r_getf ok ci_X6 fl_X6_32 (by decide) dX6_shares_65 md_o rfl ?_
              refine r_iload ok dX6_shares_68 4 rfl ?_
              refine r_ialdN ok (by omega) (by omega) dX6_shares_70 md_sG ?_
              refine zW.to (st' := [.int (nI 0), .int (zLft am sT k)]) ?_ rfl rfl (congrArg (fun z => (Value.int z :: [.int (zLft am sT k)] : List Value)) (show (upd (zC0 sG (zBase am sT) k) k (nI 0)) k = nI 0 from pk_us))
              refine r_isub ok dX6_shares_71 ?_
              refine r_istore_n ok [(3, .int ((zLft am sT k) - (nI 0))), (0, .ref a), (1, .int (am)), (2, .int (lsum sT 6)), (4, .int (nI (k)))] dX6_shares_72 rfl (by decide) rfl ?_
              refine r_iincN ok (c := 1) [(4, .int (nI (k + 1))), (3, .int ((zLft am sT k) - (nI 0))), (0, .ref a), (1, .int (am)), (2, .int (lsum sT 6))] dX6_shares_73 4 rfl (by rfl) (by decide) rfl ?_
              refine r_goto ok 30 dX6_shares_76 (by decide) ?_
              have q29 : Value.int ((zLft am sT k) - (nI 0)) = Value.int (zLft am sT (k + 1)) := by first | with_reducible rfl | (first | (rw [← zC0_s]; simp [zBase, nI_0, *]; done) | simp [zLft, zBase, nI_0, *])
              have q30 : mdM G M a s sA sH sL sI sP sT (upd (zC0 sG (zBase am sT) k) k (nI 0)) kp ln po wr = mdM G M a s sA sH sL sI sP sT (zC0 sG (zBase am sT) (k + 1)) kp ln po wr := by first | with_reducible rfl | (first | (rw [← zC0_s]; simp [zBase, nI_0, *]; done) | simp [zLft, zBase, nI_0, *])
              refine zW.forget (lv' := [(0, .ref a), (1, .int (am)), (2, .int (lsum sT 6)), (3, .int ((zLft am sT k) - (nI 0))), (4, .int (nI (k + 1)))]) ?_ [2, 3, 4, 1, 0] rfl
              refine zW.to (lv' := [(0, .ref a), (1, .int (am)), (2, .int (lsum sT 6)), (3, .int (zLft am sT (k + 1))), (4, .int (nI (k + 1)))]) ?_ rfl (congrArg (fun z => ([(0, .ref a), (1, .int (am)), (2, .int (lsum sT 6)), (3, z), (4, .int (nI (k + 1)))] : List (Nat × Value))) q29) rfl
              refine zW.to ?_ q30 rfl rfl
              exact ihL3 (k + 1) (by omega)
      have q31 : Value.int (am) = Value.int (zLft am sT 0) := by first | with_reducible rfl | (first | rfl | rw [zC0_0])
      have q32 : mdM G M a s sA sH sL sI sP sT sG kp ln po wr = mdM G M a s sA sH sL sI sP sT (zC0 sG (zBase am sT) 0) kp ln po wr := by first | with_reducible rfl | (first | rfl | rw [zC0_0])
      refine zW.forget (lv' := [(0, .ref a), (1, .int (am)), (2, .int (lsum sT 6)), (3, .int (am)), (4, .int (nI 0))]) ?_ [2, 3, 4, 1, 0] rfl
      refine zW.to (lv' := [(0, .ref a), (1, .int (am)), (2, .int (lsum sT 6)), (3, .int (zLft am sT 0)), (4, .int (nI 0))]) ?_ rfl (congrArg (fun z => ([(0, .ref a), (1, .int (am)), (2, .int (lsum sT 6)), (3, z), (4, .int (nI 0))] : List (Nat × Value))) q31) rfl
      refine zW.to ?_ q32 rfl rfl
      exact L3 6 0 (by omega)
    | succ nL1 ihL1 =>
      intro k hk_k
      refine r_iload_n ok dX6_shares_4 3 rfl rfl ?_
      refine r_bipush ok (nI 6) dX6_shares_5 (by rfl) ?_
      refine r_icmp_geN ok 25 (by omega) (by omega) dX6_shares_7 (by decide) (fun c7_33 => ?_) (fun c7_33 => ?_)
      · skip
        exact absurd c7_33 (by omega)
      · skip
        refine r_iload_n ok dX6_shares_10 2 rfl rfl ?_
        refine r_aload_n ok dX6_shares_11 0 rfl rfl ?_
        refine r_getf ok ci_X6 fl_X6_29 (by decide) dX6_shares_12 md_o rfl ?_
        refine r_iload_n ok dX6_shares_15 3 rfl rfl ?_
        refine r_ialdN ok (by omega) (by omega) dX6_shares_16 md_sT ?_
        refine r_iadd ok dX6_shares_17 ?_
        refine r_istore_n ok [(2, .int ((lsum sT k) + (sT k))), (0, .ref a), (1, .int (am)), (3, .int (nI (k)))] dX6_shares_18 rfl (by decide) rfl ?_
        refine r_iincN ok (c := 1) [(3, .int (nI (k + 1))), (2, .int ((lsum sT k) + (sT k))), (0, .ref a), (1, .int (am))] dX6_shares_19 3 rfl (by rfl) (by decide) rfl ?_
        refine r_goto ok 4 dX6_shares_22 (by decide) ?_
        have q34 : Value.int ((lsum sT k) + (sT k)) = Value.int (lsum sT (k + 1)) := by first | with_reducible rfl | (simp [lsum_s, *])
        refine zW.forget (lv' := [(0, .ref a), (1, .int (am)), (2, .int ((lsum sT k) + (sT k))), (3, .int (nI (k + 1)))]) ?_ [2, 3, 1, 0] rfl
        refine zW.to (lv' := [(0, .ref a), (1, .int (am)), (2, .int (lsum sT (k + 1))), (3, .int (nI (k + 1)))]) ?_ rfl (congrArg (fun z => ([(0, .ref a), (1, .int (am)), (2, z), (3, .int (nI (k + 1)))] : List (Nat × Value))) q34) rfl
        exact ihL1 (k + 1) (by omega)
  have q35 : Value.int (nI 0) = Value.int (lsum sT 0) := by first | with_reducible rfl | (rfl)
  refine zW.forget (lv' := [(0, .ref a), (1, .int (am)), (2, .int (nI 0)), (3, .int (nI 0))]) ?_ [2, 3, 1, 0] rfl
  refine zW.to (lv' := [(0, .ref a), (1, .int (am)), (2, .int (lsum sT 0)), (3, .int (nI 0))]) ?_ rfl (congrArg (fun z => ([(0, .ref a), (1, .int (am)), (2, z), (3, .int (nI 0))] : List (Nat × Value))) q35) rfl
  exact L1 6 0 (by omega)
set_option maxHeartbeats 4000000 in
set_option maxRecDepth 100000 in
theorem c_X6_ownOf (l : Launch) (G : zG) (M : zM) (N a : Nat) (s sA sH sL : Nat → Int32) (sI : Nat → Bool) (sP sT sG : Nat → Int32) (kp ln po : Int32) (wr : Bool)  (mm : Int32) (m : Nat) (hm : m < 6) : zC l G yX6_ownOf cX6_ownOf 5 (some .int) 3 67 0 0 [.ref a, .int (mm), .int (nI (m))] (mdM G M a s sA sH sL sI sP sT sG kp ln po wr) N (zP (some (.int (zOwn s mm m))) (mdM G M a s sA sH sL sI sP sT sG kp ln po wr)) := by
  refine zC.of (by decide +kernel) (Nat.le_of_ble_eq_true rfl) ?_
  intro K hKl ok
  subst hKl
  show zW K G 5 _ 0 0 _ N 0 [(0, .ref a), (1, .int (mm)), (2, .int (nI (m)))] []
  refine r_iconst ok (nI 0) dX6_ownOf_0 (by rfl) ?_
  refine r_istore_n ok [(3, .int (nI 0)), (0, .ref a), (1, .int (mm)), (2, .int (nI (m)))] dX6_ownOf_1 rfl (by decide) rfl ?_
  refine r_iconst ok (nI 0) dX6_ownOf_2 (by rfl) ?_
  refine r_istore ok [(4, .int (nI 0)), (3, .int (nI 0)), (0, .ref a), (1, .int (mm)), (2, .int (nI (m)))] dX6_ownOf_3 (by decide) rfl ?_
  have L1 : ∀ (nL1 : Nat) (k : Nat), ((k + nL1 = 8)) → zW K G 5 (zQ K G (N + 0) 0 0 (zP (some (.int (zOwn s mm m))) (mdM G M a s sA sH sL sI sP sT sG kp ln po wr))) 0 0 (mdM G M a s sA sH sL sI sP sT sG kp ln po wr) N 5 [(0, .ref a), (1, .int (mm)), (2, .int (nI (m))), (3, .int (lsum (zOwnT s mm m) k)), (4, .int (nI (k)))] [] := by
    intro nL1
    induction nL1 with
    | zero =>
      intro k hk_k
      obtain rfl : k = 8 := by omega
      refine r_iload ok dX6_ownOf_5 4 rfl ?_
      refine r_bipush ok (nI 8) dX6_ownOf_7 (by rfl) ?_
      refine r_icmp_geN ok 51 (by omega) (by omega) dX6_ownOf_9 (by decide) (fun _ => ?_) (fun c => absurd c (by decide))
      refine r_iload_n ok dX6_ownOf_51 3 rfl rfl ?_
      exact r_iret ok dX6_ownOf_52 rfl ⟨congrArg (fun z => some (Value.int z)) (show lsum (zOwnT s mm m) 8 = zOwn s mm m from by first | rfl | exact zOwn_no (by assumption) _), rfl⟩
    | succ nL1 ihL1 =>
      intro k hk_k
      refine r_iload ok dX6_ownOf_5 4 rfl ?_
      refine r_bipush ok (nI 8) dX6_ownOf_7 (by rfl) ?_
      refine r_icmp_geN ok 51 (by omega) (by omega) dX6_ownOf_9 (by decide) (fun c9_3 => ?_) (fun c9_3 => ?_)
      · skip
        exact absurd c9_3 (by omega)
      · skip
        refine r_iload_n ok dX6_ownOf_12 1 rfl rfl ?_
        refine r_iload_n ok dX6_ownOf_13 2 rfl rfl ?_
        refine r_cS1 ok [] mi_X6_has ml_X6_43 sm_X6_has dX6_ownOf_14 (c_X6_has K.2.1 G (mdM G M a s sA sH sL sI sP sT sG kp ln po wr) N  mm m ) rfl rfl ⟨Nat.le_of_ble_eq_true rfl, Nat.le_of_ble_eq_true rfl⟩ (Nat.le_of_ble_eq_true rfl) ⟨Nat.zero_le _, Nat.zero_le _⟩ ?_
        refine r_ifeqZ ok 51 dX6_ownOf_17 (by decide) (fun c17_4 => ?_) (fun c17_4 => ?_)
        · skip
          refine r_iload_n ok dX6_ownOf_51 3 rfl rfl ?_
          exact r_iret ok dX6_ownOf_52 rfl ⟨congrArg (fun z => some (Value.int z)) (show lsum (zOwnT s mm m) k = zOwn s mm m from by first | rfl | exact zOwn_no (by assumption) _), rfl⟩
        · skip
          refine r_iload_n ok dX6_ownOf_20 3 rfl rfl ?_
          refine r_aload_n ok dX6_ownOf_21 0 rfl rfl ?_
          refine r_getf ok ci_X6 fl_X6_7 (by decide) dX6_ownOf_22 md_o rfl ?_
          refine r_iload_n ok dX6_ownOf_25 2 rfl rfl ?_
          refine r_bipush ok (nI 14) dX6_ownOf_26 (by rfl) ?_
          refine r_iload ok dX6_ownOf_28 4 rfl ?_
          refine r_iaddN ok dX6_ownOf_30 ?_
          refine r_cS1 ok [.ref (a + 1), .int (lsum (zOwnT s mm m) k)] mi_X6_of ml_X6_47 sm_X6_of dX6_ownOf_31 (c_X6_of K.2.1 G (mdM G M a s sA sH sL sI sP sT sG kp ln po wr) N  m (14 + k) ) rfl rfl ⟨Nat.le_of_ble_eq_true rfl, Nat.le_of_ble_eq_true rfl⟩ (Nat.le_of_ble_eq_true rfl) ⟨Nat.zero_le _, Nat.zero_le _⟩ ?_
          refine r_ialdN ok (by omega) (by omega) dX6_ownOf_34 md_s ?_
          refine r_aload_n ok dX6_ownOf_35 0 rfl rfl ?_
          refine r_iload_n ok dX6_ownOf_36 1 rfl rfl ?_
          refine r_iload ok dX6_ownOf_37 4 rfl ?_
          refine r_cV1 ok [.int (s (15 + 22 * m + (14 + k))), .int (lsum (zOwnT s mm m) k)] mi_X6_priceIn ci_X6 ml_X6_58 im_X6_priceIn se_X6_priceIn dX6_ownOf_39 (c_X6_priceIn K.2.1 G M N a s sA sH sL sI sP sT sG kp ln po wr  mm k (by omega)) md_o rfl rfl ⟨Nat.le_of_ble_eq_true rfl, Nat.le_of_ble_eq_true rfl⟩ (Nat.le_of_ble_eq_true rfl) ⟨Nat.zero_le _, Nat.zero_le _⟩ ?_
          refine r_imul ok dX6_ownOf_42 ?_
          refine r_iadd ok dX6_ownOf_43 ?_
          refine r_istore_n ok [(3, .int ((lsum (zOwnT s mm m) k) + ((s (15 + 22 * m + (14 + k))) * (zPriceIn s mm k)))), (0, .ref a), (1, .int (mm)), (2, .int (nI (m))), (4, .int (nI (k)))] dX6_ownOf_44 rfl (by decide) rfl ?_
          refine r_iincN ok (c := 1) [(4, .int (nI (k + 1))), (3, .int ((lsum (zOwnT s mm m) k) + ((s (15 + 22 * m + (14 + k))) * (zPriceIn s mm k)))), (0, .ref a), (1, .int (mm)), (2, .int (nI (m)))] dX6_ownOf_45 4 rfl (by rfl) (by decide) rfl ?_
          refine r_goto ok 5 dX6_ownOf_48 (by decide) ?_
          have q5 : Value.int ((lsum (zOwnT s mm m) k) + ((s (15 + 22 * m + (14 + k))) * (zPriceIn s mm k))) = Value.int (lsum (zOwnT s mm m) (k + 1)) := by first | with_reducible rfl | (simp [lsum_s, zOwnT, nI_0, *])
          refine zW.forget (lv' := [(0, .ref a), (1, .int (mm)), (2, .int (nI (m))), (3, .int ((lsum (zOwnT s mm m) k) + ((s (15 + 22 * m + (14 + k))) * (zPriceIn s mm k)))), (4, .int (nI (k + 1)))]) ?_ [2, 3, 4, 1, 0] rfl
          refine zW.to (lv' := [(0, .ref a), (1, .int (mm)), (2, .int (nI (m))), (3, .int (lsum (zOwnT s mm m) (k + 1))), (4, .int (nI (k + 1)))]) ?_ rfl (congrArg (fun z => ([(0, .ref a), (1, .int (mm)), (2, .int (nI (m))), (3, z), (4, .int (nI (k + 1)))] : List (Nat × Value))) q5) rfl
          exact ihL1 (k + 1) (by omega)
  have q6 : Value.int (nI 0) = Value.int (lsum (zOwnT s mm m) 0) := by first | with_reducible rfl | (rfl)
  refine zW.forget (lv' := [(0, .ref a), (1, .int (mm)), (2, .int (nI (m))), (3, .int (nI 0)), (4, .int (nI 0))]) ?_ [2, 3, 4, 1, 0] rfl
  refine zW.to (lv' := [(0, .ref a), (1, .int (mm)), (2, .int (nI (m))), (3, .int (lsum (zOwnT s mm m) 0)), (4, .int (nI 0))]) ?_ rfl (congrArg (fun z => ([(0, .ref a), (1, .int (mm)), (2, .int (nI (m))), (3, z), (4, .int (nI 0))] : List (Nat × Value))) q6) rfl
  exact L1 8 0 (by omega)
set_option maxHeartbeats 4000000 in
set_option maxRecDepth 100000 in
theorem c_X6_sharesPost (l : Launch) (G : zG) (M : zM) (N a : Nat) (s sA sH sL : Nat → Int32) (sI : Nat → Bool) (sP sT sG : Nat → Int32) (kp ln po : Int32) (wr : Bool)  (mm : Int32)  : zC l G yX6_sharesPost cX6_sharesPost 3 (none) 4 89 0 0 [.ref a, .int (mm)] (mdM G M a s sA sH sL sI sP sT sG kp ln po wr) N (zP none (mdM G M a s sA sH sL sI sP (zParts s mm sT) (zGets (zPost s mm) (zParts s mm sT) sG) kp ln po wr)) := by
  refine zC.of (by decide +kernel) (Nat.le_of_ble_eq_true rfl) ?_
  intro K hKl ok
  subst hKl
  show zW K G 3 _ 0 0 _ N 0 [(0, .ref a), (1, .int (mm))] []
  refine r_iconst ok (nI 0) dX6_sharesPost_0 (by rfl) ?_
  refine r_istore_n ok [(2, .int (nI 0)), (0, .ref a), (1, .int (mm))] dX6_sharesPost_1 rfl (by decide) rfl ?_
  have L1 : ∀ (nL1 : Nat) (k : Nat), ((k + nL1 = 6)) → zW K G 3 (zQ K G (N + 0) 0 0 (zP none (mdM G M a s sA sH sL sI sP (zParts s mm sT) (zGets (zPost s mm) (zParts s mm sT) sG) kp ln po wr))) 0 0 (mdM G M a s sA sH sL sI sP (zC0 sT (zPart s mm) k) sG kp ln po wr) N 2 [(0, .ref a), (1, .int (mm)), (2, .int (nI (k)))] [] := by
    intro nL1
    induction nL1 with
    | zero =>
      intro k hk_k
      obtain rfl : k = 6 := by omega
      refine r_iload_n ok dX6_sharesPost_2 2 rfl rfl ?_
      refine r_bipush ok (nI 6) dX6_sharesPost_3 (by rfl) ?_
      refine r_icmp_geN ok 39 (by omega) (by omega) dX6_sharesPost_5 (by decide) (fun _ => ?_) (fun c => absurd c (by decide))
      refine r_aload_n ok dX6_sharesPost_39 0 rfl rfl ?_
      refine r_aload_n ok dX6_sharesPost_40 0 rfl rfl ?_
      refine r_iload_n ok dX6_sharesPost_41 1 rfl rfl ?_
      refine r_cV1 ok [.ref a] mi_X6_postOf ci_X6 ml_X6_70 im_X6_postOf se_X6_postOf dX6_sharesPost_42 (c_X6_postOf K.2.1 G M N a s sA sH sL sI sP (zC0 sT (zPart s mm) 6) sG kp ln po wr  mm ) md_o rfl rfl ⟨Nat.le_of_ble_eq_true rfl, Nat.le_of_ble_eq_true rfl⟩ (Nat.le_of_ble_eq_true rfl) ⟨Nat.zero_le _, Nat.zero_le _⟩ ?_
      refine r_cV0 ok [] mi_X6_shares ci_X6 ml_X6_73 im_X6_shares se_X6_shares dX6_sharesPost_45 (c_X6_shares K.2.1 G M N a s sA sH sL sI sP (zC0 sT (zPart s mm) 6) sG kp ln po wr  (zPost s mm) ) md_o rfl rfl ⟨Nat.le_of_ble_eq_true rfl, Nat.le_of_ble_eq_true rfl⟩ (Nat.le_of_ble_eq_true rfl) ⟨Nat.zero_le _, Nat.zero_le _⟩ ?_
      exact r_vret ok dX6_sharesPost_48 rfl ⟨rfl, (by rfl)⟩
    | succ nL1 ihL1 =>
      intro k hk_k
      refine r_iload_n ok dX6_sharesPost_2 2 rfl rfl ?_
      refine r_bipush ok (nI 6) dX6_sharesPost_3 (by rfl) ?_
      refine r_icmp_geN ok 39 (by omega) (by omega) dX6_sharesPost_5 (by decide) (fun c5_3 => ?_) (fun c5_3 => ?_)
      · skip
        exact absurd c5_3 (by omega)
      · skip
        refine r_aload_n ok dX6_sharesPost_8 0 rfl rfl ?_
        refine r_getf ok ci_X6 fl_X6_29 (by decide) dX6_sharesPost_9 md_o rfl ?_
        refine r_iload_n ok dX6_sharesPost_12 2 rfl rfl ?_
        refine r_iload_n ok dX6_sharesPost_13 1 rfl rfl ?_
        refine r_iload_n ok dX6_sharesPost_14 2 rfl rfl ?_
        refine r_cS1 ok [.int (nI (k)), .ref (a + 7)] mi_X6_has ml_X6_43 sm_X6_has dX6_sharesPost_15 (c_X6_has K.2.1 G (mdM G M a s sA sH sL sI sP (zC0 sT (zPart s mm) k) sG kp ln po wr) N  mm k ) rfl rfl ⟨Nat.le_of_ble_eq_true rfl, Nat.le_of_ble_eq_true rfl⟩ (Nat.le_of_ble_eq_true rfl) ⟨Nat.zero_le _, Nat.zero_le _⟩ ?_
        refine r_ifeqZ ok 31 dX6_sharesPost_18 (by decide) (fun c18_4 => ?_) (fun c18_4 => ?_)
        · skip
          refine r_iconst ok (nI 0) dX6_sharesPost_31 (by rfl) ?_
          refine r_iastN ok (by omega) (by omega) dX6_sharesPost_32 md_sT (mdw_sT _) ?_
          refine r_iincN ok (c := 1) [(2, .int (nI (k + 1))), (0, .ref a), (1, .int (mm))] dX6_sharesPost_33 2 rfl (by rfl) (by decide) rfl ?_
          refine r_goto ok 2 dX6_sharesPost_36 (by decide) ?_
          have q5 : mdM G M a s sA sH sL sI sP (upd (zC0 sT (zPart s mm) k) k (nI 0)) sG kp ln po wr = mdM G M a s sA sH sL sI sP (zC0 sT (zPart s mm) (k + 1)) sG kp ln po wr := by first | with_reducible rfl | ((rw [← zC0_s]; simp [zPart, nI_0, nI_one, *]))
          refine zW.forget (lv' := [(0, .ref a), (1, .int (mm)), (2, .int (nI (k + 1)))]) ?_ [1, 2, 0] rfl
          refine zW.to ?_ q5 rfl rfl
          exact ihL1 (k + 1) (by omega)
        · skip
          refine r_aload_n ok dX6_sharesPost_21 0 rfl rfl ?_
          refine r_iconst ok (nI 1) dX6_sharesPost_22 (by rfl) ?_
          refine r_iload_n ok dX6_sharesPost_23 2 rfl rfl ?_
          refine r_ishl ok dX6_sharesPost_24 ?_
          refine r_cV1 ok [.int (nI (k)), .ref (a + 7)] mi_X6_weightOf ci_X6 ml_X6_64 im_X6_weightOf se_X6_weightOf dX6_sharesPost_25 (c_X6_weightOf K.2.1 G M N a s sA sH sL sI sP (zC0 sT (zPart s mm) k) sG kp ln po wr  ((nI 1) <<< ((nI (k)) &&& 31)) ) md_o rfl rfl ⟨Nat.le_of_ble_eq_true rfl, Nat.le_of_ble_eq_true rfl⟩ (Nat.le_of_ble_eq_true rfl) ⟨Nat.zero_le _, Nat.zero_le _⟩ ?_
          refine r_goto ok 32 dX6_sharesPost_28 (by decide) ?_
          refine r_iastN ok (by omega) (by omega) dX6_sharesPost_32 md_sT (mdw_sT _) ?_
          refine r_iincN ok (c := 1) [(2, .int (nI (k + 1))), (0, .ref a), (1, .int (mm))] dX6_sharesPost_33 2 rfl (by rfl) (by decide) rfl ?_
          refine r_goto ok 2 dX6_sharesPost_36 (by decide) ?_
          have q6 : mdM G M a s sA sH sL sI sP (upd (zC0 sT (zPart s mm) k) k (zWei s ((nI 1) <<< ((nI (k)) &&& 31)))) sG kp ln po wr = mdM G M a s sA sH sL sI sP (zC0 sT (zPart s mm) (k + 1)) sG kp ln po wr := by first | with_reducible rfl | ((rw [← zC0_s]; simp [zPart, nI_0, nI_one, *]))
          refine zW.forget (lv' := [(0, .ref a), (1, .int (mm)), (2, .int (nI (k + 1)))]) ?_ [1, 2, 0] rfl
          refine zW.to ?_ q6 rfl rfl
          exact ihL1 (k + 1) (by omega)
  have q7 : mdM G M a s sA sH sL sI sP sT sG kp ln po wr = mdM G M a s sA sH sL sI sP (zC0 sT (zPart s mm) 0) sG kp ln po wr := by first | with_reducible rfl | (rw [zC0_0])
  refine zW.forget (lv' := [(0, .ref a), (1, .int (mm)), (2, .int (nI 0))]) ?_ [1, 2, 0] rfl
  refine zW.to ?_ q7 rfl rfl
  exact L1 6 0 (by omega)
set_option maxHeartbeats 4000000 in
set_option maxRecDepth 100000 in
theorem c_X6_chest (l : Launch) (G : zG) (M : zM) (N a : Nat) (s sA sH sL : Nat → Int32) (sI : Nat → Bool) (sP sT sG : Nat → Int32) (kp ln po : Int32) (wr : Bool)    : zC l G yX6_chest cX6_chest 3 (some .int) 1 21 0 0 [.ref a] (mdM G M a s sA sH sL sI sP sT sG kp ln po wr) N (zP (some (.int (zChest s))) (mdM G M a s sA sH sL sI sP sT sG kp ln po wr)) := by
  refine zC.of (by decide +kernel) (Nat.le_of_ble_eq_true rfl) ?_
  intro K hKl ok
  subst hKl
  show zW K G 3 _ 0 0 _ N 0 [(0, .ref a)] []
  refine r_iconst ok (nI 0) dX6_chest_0 (by rfl) ?_
  refine r_istore_n ok [(1, .int (nI 0)), (0, .ref a)] dX6_chest_1 rfl (by decide) rfl ?_
  refine r_iconst ok (nI 0) dX6_chest_2 (by rfl) ?_
  refine r_istore_n ok [(2, .int (nI 0)), (1, .int (nI 0)), (0, .ref a)] dX6_chest_3 rfl (by decide) rfl ?_
  have L1 : ∀ (nL1 : Nat) (k : Nat), ((k + nL1 = 6)) → zW K G 3 (zQ K G (N + 0) 0 0 (zP (some (.int (zChest s))) (mdM G M a s sA sH sL sI sP sT sG kp ln po wr))) 0 0 (mdM G M a s sA sH sL sI sP sT sG kp ln po wr) N 4 [(0, .ref a), (1, .int (lsum (zAccT s) k)), (2, .int (nI (k)))] [] := by
    intro nL1
    induction nL1 with
    | zero =>
      intro k hk_k
      obtain rfl : k = 6 := by omega
      refine r_iload_n ok dX6_chest_4 2 rfl rfl ?_
      refine r_bipush ok (nI 6) dX6_chest_5 (by rfl) ?_
      refine r_icmp_geN ok 29 (by omega) (by omega) dX6_chest_7 (by decide) (fun _ => ?_) (fun c => absurd c (by decide))
      refine r_iload_n ok dX6_chest_29 1 rfl rfl ?_
      exact r_iret ok dX6_chest_30 rfl ⟨congrArg (fun z => some (Value.int z)) (show lsum (zAccT s) 6 = zChest s from by rfl), rfl⟩
    | succ nL1 ihL1 =>
      intro k hk_k
      refine r_iload_n ok dX6_chest_4 2 rfl rfl ?_
      refine r_bipush ok (nI 6) dX6_chest_5 (by rfl) ?_
      refine r_icmp_geN ok 29 (by omega) (by omega) dX6_chest_7 (by decide) (fun c7_3 => ?_) (fun c7_3 => ?_)
      · skip
        exact absurd c7_3 (by omega)
      · skip
        refine r_iload_n ok dX6_chest_10 1 rfl rfl ?_
        refine r_aload_n ok dX6_chest_11 0 rfl rfl ?_
        refine r_getf ok ci_X6 fl_X6_7 (by decide) dX6_chest_12 md_o rfl ?_
        refine r_iload_n ok dX6_chest_15 2 rfl rfl ?_
        refine r_iconst ok (nI 0) dX6_chest_16 (by rfl) ?_
        refine r_cS1 ok [.ref (a + 1), .int (lsum (zAccT s) k)] mi_X6_of ml_X6_47 sm_X6_of dX6_chest_17 (c_X6_of K.2.1 G (mdM G M a s sA sH sL sI sP sT sG kp ln po wr) N  k 0 ) rfl rfl ⟨Nat.le_of_ble_eq_true rfl, Nat.le_of_ble_eq_true rfl⟩ (Nat.le_of_ble_eq_true rfl) ⟨Nat.zero_le _, Nat.zero_le _⟩ ?_
        refine r_ialdN ok (by omega) (by omega) dX6_chest_20 md_s ?_
        refine r_iadd ok dX6_chest_21 ?_
        refine r_istore_n ok [(1, .int ((lsum (zAccT s) k) + (s (15 + 22 * k + 0)))), (0, .ref a), (2, .int (nI (k)))] dX6_chest_22 rfl (by decide) rfl ?_
        refine r_iincN ok (c := 1) [(2, .int (nI (k + 1))), (1, .int ((lsum (zAccT s) k) + (s (15 + 22 * k + 0)))), (0, .ref a)] dX6_chest_23 2 rfl (by rfl) (by decide) rfl ?_
        refine r_goto ok 4 dX6_chest_26 (by decide) ?_
        have q4 : Value.int ((lsum (zAccT s) k) + (s (15 + 22 * k + 0))) = Value.int (lsum (zAccT s) (k + 1)) := by first | with_reducible rfl | (simp [lsum_s, zAccT, *])
        refine zW.forget (lv' := [(0, .ref a), (1, .int ((lsum (zAccT s) k) + (s (15 + 22 * k + 0)))), (2, .int (nI (k + 1)))]) ?_ [2, 1, 0] rfl
        refine zW.to (lv' := [(0, .ref a), (1, .int (lsum (zAccT s) (k + 1))), (2, .int (nI (k + 1)))]) ?_ rfl (congrArg (fun z => ([(0, .ref a), (1, z), (2, .int (nI (k + 1)))] : List (Nat × Value))) q4) rfl
        exact ihL1 (k + 1) (by omega)
  have q5 : Value.int (nI 0) = Value.int (lsum (zAccT s) 0) := by first | with_reducible rfl | (rfl)
  refine zW.forget (lv' := [(0, .ref a), (1, .int (nI 0)), (2, .int (nI 0))]) ?_ [2, 1, 0] rfl
  refine zW.to (lv' := [(0, .ref a), (1, .int (lsum (zAccT s) 0)), (2, .int (nI 0))]) ?_ rfl (congrArg (fun z => ([(0, .ref a), (1, z), (2, .int (nI 0))] : List (Nat × Value))) q5) rfl
  exact L1 6 0 (by omega)
set_option maxHeartbeats 4000000 in
set_option maxRecDepth 100000 in
theorem c_X6_draw (l : Launch) (G : zG) (M : zM) (N a : Nat) (s sA sH sL : Nat → Int32) (sI : Nat → Bool) (sP sT sG : Nat → Int32) (kp ln po : Int32) (wr : Bool)  (many : Int32) (hm : ¬ many = 0) : zC l G yX6_draw cX6_draw 4 (some .int) 0 0 0 0 [.ref a, .int (many)] (mdM G M a s sA sH sL sI sP sT sG kp ln po wr) N (zP (some (.int (zDr (zNx (s 10)) many))) (mdM G M a (upd s 10 (zNx (s 10))) sA sH sL sI sP sT sG kp ln po wr)) := by
  refine zC.of (by decide +kernel) (Nat.le_of_ble_eq_true rfl) ?_
  intro K hKl ok
  subst hKl
  show zW K G 4 _ 0 0 _ N 0 [(0, .ref a), (1, .int (many))] []
  refine r_aload_n ok dX6_draw_0 0 rfl rfl ?_
  refine r_getf ok ci_X6 fl_X6_7 (by decide) dX6_draw_1 md_o rfl ?_
  refine r_bipush ok (nI 10) dX6_draw_4 (by rfl) ?_
  refine r_ialdN ok (by omega) (by omega) dX6_draw_6 md_s ?_
  refine r_i2l ok dX6_draw_7 ?_
  refine r_ldc2 ok cl_X6_77 dX6_draw_8 ?_
  refine r_lmul ok dX6_draw_11 ?_
  refine r_ldc2 ok cl_X6_79 dX6_draw_12 ?_
  refine r_ladd ok dX6_draw_15 ?_
  refine r_ldc2 ok cl_X6_81 dX6_draw_16 ?_
  refine r_lrem ok (by decide) dX6_draw_19 ?_
  refine r_lstore_n ok [(2, .long (((((s 10).toInt64) * 1103515245) + 12345) - ((((s 10).toInt64) * 1103515245) + 12345) / 2147483648 * 2147483648)), (0, .ref a), (1, .int (many))] dX6_draw_20 rfl (by decide) rfl ?_
  refine r_aload_n ok dX6_draw_21 1 rfl rfl ?_
  refine r_getf ok ci_X6 fl_X6_7 (by decide) dX6_draw_22 md_o rfl ?_
  refine r_bipush ok (nI 10) dX6_draw_25 (by rfl) ?_
  refine r_lload_n ok dX6_draw_27 0 rfl rfl ?_
  refine r_l2i ok dX6_draw_28 ?_
  refine r_iastN ok (by omega) (by omega) dX6_draw_29 md_s (mdw_s _) ?_
  refine r_aload_n ok dX6_draw_30 1 rfl rfl ?_
  refine r_getf ok ci_X6 fl_X6_7 (by decide) dX6_draw_31 md_o rfl ?_
  refine r_bipush ok (nI 10) dX6_draw_34 (by rfl) ?_
  refine r_ialdN ok (by omega) (by omega) dX6_draw_36 md_s ?_
  refine zW.to (st' := [.int ((((((s 10).toInt64) * 1103515245) + 12345) - ((((s 10).toInt64) * 1103515245) + 12345) / 2147483648 * 2147483648).toInt32)]) ?_ rfl rfl (congrArg (fun z => (Value.int z :: [] : List Value)) (show (upd s 10 ((((((s 10).toInt64) * 1103515245) + 12345) - ((((s 10).toInt64) * 1103515245) + 12345) / 2147483648 * 2147483648).toInt32)) 10 = (((((s 10).toInt64) * 1103515245) + 12345) - ((((s 10).toInt64) * 1103515245) + 12345) / 2147483648 * 2147483648).toInt32 from pk_us))
  refine r_ldc ok ck_X6_83 dX6_draw_37 ?_
  refine zW.to (st' := [.int (nI 65536), .int ((((((s 10).toInt64) * 1103515245) + 12345) - ((((s 10).toInt64) * 1103515245) + 12345) / 2147483648 * 2147483648).toInt32)]) ?_ rfl rfl rfl
  refine r_idiv ok (by decide) dX6_draw_39 ?_
  refine r_iload_n ok dX6_draw_40 2 rfl rfl ?_
  refine r_irem ok hm dX6_draw_41 ?_
  exact r_iret ok dX6_draw_42 rfl ⟨congrArg (fun z => some (Value.int z)) (show (((((((s 10).toInt64) * 1103515245) + 12345) - ((((s 10).toInt64) * 1103515245) + 12345) / 2147483648 * 2147483648).toInt32) / (nI 65536)) - (((((((s 10).toInt64) * 1103515245) + 12345) - ((((s 10).toInt64) * 1103515245) + 12345) / 2147483648 * 2147483648).toInt32) / (nI 65536)) / many * many = zDr (zNx (s 10)) many from by rfl), (by rfl)⟩
set_option maxHeartbeats 4000000 in
set_option maxRecDepth 100000 in
theorem c_X6_ofString (l : Launch) (G : zG) (M : zM) (N : Nat)  (p : Nat) (m : Nat) (g : Nat)  : zC l G yX6_ofString cX6_ofString 3 (some .int) 1 21 0 0 [.int (nI (p)), .int (nI (m)), .int (nI (g))] (M) N (zP (some (.int (nI (147 + 51 * p + (3 + 8 * m + g))))) (M)) := by
  refine zC.of (by decide +kernel) (Nat.le_of_ble_eq_true rfl) ?_
  intro K hKl ok
  subst hKl
  show zW K G 3 _ 0 0 _ N 0 [(0, .int (nI (p))), (1, .int (nI (m))), (2, .int (nI (g)))] []
  refine r_iload_n ok dX6_ofString_0 0 rfl rfl ?_
  refine r_iconst ok (nI 3) dX6_ofString_1 (by rfl) ?_
  refine r_bipush ok (nI 8) dX6_ofString_2 (by rfl) ?_
  refine r_iload_n ok dX6_ofString_4 1 rfl rfl ?_
  refine r_imulN ok dX6_ofString_5 ?_
  refine r_iaddN ok dX6_ofString_6 ?_
  refine r_iload_n ok dX6_ofString_7 2 rfl rfl ?_
  refine r_iaddN ok dX6_ofString_8 ?_
  refine r_cS1 ok [] mi_X6_ofParcel ml_X6_84 sm_X6_ofParcel dX6_ofString_9 (c_X6_ofParcel K.2.1 G (M) N  p ((3 + (8 * m)) + g) ) rfl rfl ⟨Nat.le_of_ble_eq_true rfl, Nat.le_of_ble_eq_true rfl⟩ (Nat.le_of_ble_eq_true rfl) ⟨Nat.zero_le _, Nat.zero_le _⟩ ?_
  exact r_iret ok dX6_ofString_12 rfl ⟨congrArg (fun z => some (Value.int z)) (show nI (147 + 51 * p + ((3 + (8 * m)) + g)) = nI (147 + 51 * p + (3 + 8 * m + g)) from by first | rfl | (simp [*]; done)), rfl⟩
set_option maxHeartbeats 4000000 in
set_option maxRecDepth 100000 in
theorem c_X6_stringsIn (l : Launch) (G : zG) (M : zM) (N a : Nat) (s sA sH sL : Nat → Int32) (sI : Nat → Bool) (sP sT sG : Nat → Int32) (kp ln po : Int32) (wr : Bool)  (p : Nat) (hp : p < 5) : zC l G yX6_stringsIn cX6_stringsIn 4 (some .int) 1 21 0 0 [.ref a, .int (nI (p))] (mdM G M a s sA sH sL sI sP sT sG kp ln po wr) N (zP (some (.int (zPcs s p))) (mdM G M a s sA sH sL sI sP sT sG kp ln po wr)) := by
  refine zC.of (by decide +kernel) (Nat.le_of_ble_eq_true rfl) ?_
  intro K hKl ok
  subst hKl
  show zW K G 4 _ 0 0 _ N 0 [(0, .ref a), (1, .int (nI (p)))] []
  refine r_iconst ok (nI 0) dX6_stringsIn_0 (by rfl) ?_
  refine r_istore_n ok [(2, .int (nI 0)), (0, .ref a), (1, .int (nI (p)))] dX6_stringsIn_1 rfl (by decide) rfl ?_
  refine r_iconst ok (nI 0) dX6_stringsIn_2 (by rfl) ?_
  refine r_istore_n ok [(3, .int (nI 0)), (2, .int (nI 0)), (0, .ref a), (1, .int (nI (p)))] dX6_stringsIn_3 rfl (by decide) rfl ?_
  have L1 : ∀ (nL1 : Nat) (k : Nat), ((k + nL1 = 48)) → zW K G 4 (zQ K G (N + 0) 0 0 (zP (some (.int (zPcs s p))) (mdM G M a s sA sH sL sI sP sT sG kp ln po wr))) 0 0 (mdM G M a s sA sH sL sI sP sT sG kp ln po wr) N 4 [(0, .ref a), (1, .int (nI (p))), (2, .int (lsum (zPcsT s p) k)), (3, .int (nI (k)))] [] := by
    intro nL1
    induction nL1 with
    | zero =>
      intro k hk_k
      obtain rfl : k = 48 := by omega
      refine r_iload_n ok dX6_stringsIn_4 3 rfl rfl ?_
      refine r_bipush ok (nI 48) dX6_stringsIn_5 (by rfl) ?_
      refine r_icmp_geN ok 31 (by omega) (by omega) dX6_stringsIn_7 (by decide) (fun _ => ?_) (fun c => absurd c (by decide))
      refine r_iload_n ok dX6_stringsIn_31 2 rfl rfl ?_
      exact r_iret ok dX6_stringsIn_32 rfl ⟨congrArg (fun z => some (Value.int z)) (show lsum (zPcsT s p) 48 = zPcs s p from by rfl), rfl⟩
    | succ nL1 ihL1 =>
      intro k hk_k
      refine r_iload_n ok dX6_stringsIn_4 3 rfl rfl ?_
      refine r_bipush ok (nI 48) dX6_stringsIn_5 (by rfl) ?_
      refine r_icmp_geN ok 31 (by omega) (by omega) dX6_stringsIn_7 (by decide) (fun c7_3 => ?_) (fun c7_3 => ?_)
      · skip
        exact absurd c7_3 (by omega)
      · skip
        refine r_iload_n ok dX6_stringsIn_10 2 rfl rfl ?_
        refine r_aload_n ok dX6_stringsIn_11 0 rfl rfl ?_
        refine r_getf ok ci_X6 fl_X6_7 (by decide) dX6_stringsIn_12 md_o rfl ?_
        refine r_iload_n ok dX6_stringsIn_15 1 rfl rfl ?_
        refine r_iconst ok (nI 3) dX6_stringsIn_16 (by rfl) ?_
        refine r_iload_n ok dX6_stringsIn_17 3 rfl rfl ?_
        refine r_iaddN ok dX6_stringsIn_18 ?_
        refine r_cS1 ok [.ref (a + 1), .int (lsum (zPcsT s p) k)] mi_X6_ofParcel ml_X6_84 sm_X6_ofParcel dX6_stringsIn_19 (c_X6_ofParcel K.2.1 G (mdM G M a s sA sH sL sI sP sT sG kp ln po wr) N  p (3 + k) ) rfl rfl ⟨Nat.le_of_ble_eq_true rfl, Nat.le_of_ble_eq_true rfl⟩ (Nat.le_of_ble_eq_true rfl) ⟨Nat.zero_le _, Nat.zero_le _⟩ ?_
        refine r_ialdN ok (by omega) (by omega) dX6_stringsIn_22 md_s ?_
        refine r_iadd ok dX6_stringsIn_23 ?_
        refine r_istore_n ok [(2, .int ((lsum (zPcsT s p) k) + (s (147 + 51 * p + (3 + k))))), (0, .ref a), (1, .int (nI (p))), (3, .int (nI (k)))] dX6_stringsIn_24 rfl (by decide) rfl ?_
        refine r_iincN ok (c := 1) [(3, .int (nI (k + 1))), (2, .int ((lsum (zPcsT s p) k) + (s (147 + 51 * p + (3 + k))))), (0, .ref a), (1, .int (nI (p)))] dX6_stringsIn_25 3 rfl (by rfl) (by decide) rfl ?_
        refine r_goto ok 4 dX6_stringsIn_28 (by decide) ?_
        have q4 : Value.int ((lsum (zPcsT s p) k) + (s (147 + 51 * p + (3 + k)))) = Value.int (lsum (zPcsT s p) (k + 1)) := by first | with_reducible rfl | (simp [lsum_s, zPcsT, *])
        refine zW.forget (lv' := [(0, .ref a), (1, .int (nI (p))), (2, .int ((lsum (zPcsT s p) k) + (s (147 + 51 * p + (3 + k))))), (3, .int (nI (k + 1)))]) ?_ [2, 3, 1, 0] rfl
        refine zW.to (lv' := [(0, .ref a), (1, .int (nI (p))), (2, .int (lsum (zPcsT s p) (k + 1))), (3, .int (nI (k + 1)))]) ?_ rfl (congrArg (fun z => ([(0, .ref a), (1, .int (nI (p))), (2, z), (3, .int (nI (k + 1)))] : List (Nat × Value))) q4) rfl
        exact ihL1 (k + 1) (by omega)
  have q5 : Value.int (nI 0) = Value.int (lsum (zPcsT s p) 0) := by first | with_reducible rfl | (rfl)
  refine zW.forget (lv' := [(0, .ref a), (1, .int (nI (p))), (2, .int (nI 0)), (3, .int (nI 0))]) ?_ [2, 3, 1, 0] rfl
  refine zW.to (lv' := [(0, .ref a), (1, .int (nI (p))), (2, .int (lsum (zPcsT s p) 0)), (3, .int (nI 0))]) ?_ rfl (congrArg (fun z => ([(0, .ref a), (1, .int (nI (p))), (2, z), (3, .int (nI 0))] : List (Nat × Value))) q5) rfl
  exact L1 48 0 (by omega)
set_option maxHeartbeats 4000000 in
set_option maxRecDepth 100000 in
theorem c_X6_paysDuty (l : Launch) (G : zG) (M : zM) (N a : Nat) (s sA sH sL : Nat → Int32) (sI : Nat → Bool) (sP sT sG : Nat → Int32) (kp ln po : Int32) (wr : Bool)  (p : Nat) (hp : p < 5) : zC l G yX6_paysDuty cX6_paysDuty 5 (none) 2 43 0 0 [.ref a, .int (nI (p))] (mdM G M a s sA sH sL sI sP sT sG kp ln po wr) N (zP none (mdM G M a (zPd s sT sG p) sA sH sL sI sP (zC0 sT (zPrc s p) 6) (zPdG s sT sG p) kp ln po wr)) := by
  refine zC.of (by decide +kernel) (Nat.le_of_ble_eq_true rfl) ?_
  intro K hKl ok
  subst hKl
  show zW K G 5 _ 0 0 _ N 0 [(0, .ref a), (1, .int (nI (p)))] []
  refine r_aload_n ok dX6_paysDuty_0 0 rfl rfl ?_
  refine r_aload_n ok dX6_paysDuty_1 0 rfl rfl ?_
  refine r_getf ok ci_X6 fl_X6_7 (by decide) dX6_paysDuty_2 md_o rfl ?_
  refine r_iload_n ok dX6_paysDuty_5 1 rfl rfl ?_
  refine r_iconst ok (nI 0) dX6_paysDuty_6 (by rfl) ?_
  refine r_cS1 ok [.ref (a + 1), .ref a] mi_X6_ofParcel ml_X6_84 sm_X6_ofParcel dX6_paysDuty_7 (c_X6_ofParcel K.2.1 G (mdM G M a s sA sH sL sI sP sT sG kp ln po wr) N  p 0 ) rfl rfl ⟨Nat.le_of_ble_eq_true rfl, Nat.le_of_ble_eq_true rfl⟩ (Nat.le_of_ble_eq_true rfl) ⟨Nat.zero_le _, Nat.zero_le _⟩ ?_
  refine r_ialdN ok (by omega) (by omega) dX6_paysDuty_10 md_s ?_
  refine r_cV1 ok [] mi_X6_dutyOn ci_X6 ml_X6_91 im_X6_dutyOn se_X6_dutyOn dX6_paysDuty_11 (c_X6_dutyOn K.2.1 G M N a s sA sH sL sI sP sT sG kp ln po wr  (s (147 + 51 * p + 0)) ) md_o rfl rfl ⟨Nat.le_of_ble_eq_true rfl, Nat.le_of_ble_eq_true rfl⟩ (Nat.le_of_ble_eq_true rfl) ⟨Nat.zero_le _, Nat.zero_le _⟩ ?_
  refine r_istore_n ok [(2, .int (zDuty s (s (147 + 51 * p + 0)))), (0, .ref a), (1, .int (nI (p)))] dX6_paysDuty_14 rfl (by decide) rfl ?_
  refine r_iconst ok (nI 0) dX6_paysDuty_15 (by rfl) ?_
  refine r_istore_n ok [(3, .int (nI 0)), (2, .int (zDuty s (s (147 + 51 * p + 0)))), (0, .ref a), (1, .int (nI (p)))] dX6_paysDuty_16 rfl (by decide) rfl ?_
  have L1 : ∀ (nL1 : Nat) (m : Nat), ((m + nL1 = 6)) → zW K G 5 (zQ K G (N + 0) 0 0 (zP none (mdM G M a (zPd s sT sG p) sA sH sL sI sP (zC0 sT (zPrc s p) 6) (zPdG s sT sG p) kp ln po wr))) 0 0 (mdM G M a s sA sH sL sI sP (zC0 sT (zPrc s p) m) sG kp ln po wr) N 17 [(0, .ref a), (1, .int (nI (p))), (2, .int (zDutyOf s p)), (3, .int (nI (m)))] [] := by
    intro nL1
    induction nL1 with
    | zero =>
      intro m hk_m
      obtain rfl : m = 6 := by omega
      refine r_iload_n ok dX6_paysDuty_17 3 rfl rfl ?_
      refine r_bipush ok (nI 6) dX6_paysDuty_18 (by rfl) ?_
      refine r_icmp_geN ok 79 (by omega) (by omega) dX6_paysDuty_20 (by decide) (fun _ => ?_) (fun c => absurd c (by decide))
      refine r_aload_n ok dX6_paysDuty_79 0 rfl rfl ?_
      refine r_iload_n ok dX6_paysDuty_80 2 rfl rfl ?_
      refine r_cV0 ok [] mi_X6_shares ci_X6 ml_X6_73 im_X6_shares se_X6_shares dX6_paysDuty_81 (c_X6_shares K.2.1 G M N a s sA sH sL sI sP (zC0 sT (zPrc s p) 6) sG kp ln po wr  (zDutyOf s p) ) md_o rfl rfl ⟨Nat.le_of_ble_eq_true rfl, Nat.le_of_ble_eq_true rfl⟩ (Nat.le_of_ble_eq_true rfl) ⟨Nat.zero_le _, Nat.zero_le _⟩ ?_
      refine r_iconst ok (nI 0) dX6_paysDuty_84 (by rfl) ?_
      refine r_istore_n ok [(3, .int (nI 0)), (0, .ref a), (1, .int (nI (p))), (2, .int (zDutyOf s p))] dX6_paysDuty_85 rfl (by decide) rfl ?_
      have L3 : ∀ (nL3 : Nat) (k : Nat), ((k + nL3 = 6)) → zW K G 5 (zQ K G (N + 0) 0 0 (zP none (mdM G M a (zPd s sT sG p) sA sH sL sI sP (zC0 sT (zPrc s p) 6) (zPdG s sT sG p) kp ln po wr))) 0 0 (mdM G M a (zPayD s (zPdG s sT sG p) k) sA sH sL sI sP (zC0 sT (zPrc s p) 6) (zPdG s sT sG p) kp ln po wr) N 86 [(0, .ref a), (1, .int (nI (p))), (2, .int (zDutyOf s p)), (3, .int (nI (k)))] [] := by
        intro nL3
        induction nL3 with
        | zero =>
          intro k hk_k
          obtain rfl : k = 6 := by omega
          refine r_iload_n ok dX6_paysDuty_86 3 rfl rfl ?_
          refine r_bipush ok (nI 6) dX6_paysDuty_87 (by rfl) ?_
          refine r_icmp_geN ok 136 (by omega) (by omega) dX6_paysDuty_89 (by decide) (fun _ => ?_) (fun c => absurd c (by decide))
          refine r_aload_n ok dX6_paysDuty_136 0 rfl rfl ?_
          refine r_getf ok ci_X6 fl_X6_7 (by decide) dX6_paysDuty_137 md_o rfl ?_
          refine r_bipush ok (nI 12) dX6_paysDuty_140 (by rfl) ?_
          refine r_dup2 ok dX6_paysDuty_142 rfl rfl ?_
          refine r_ialdN ok (by omega) (by omega) dX6_paysDuty_143 md_s ?_
          refine zW.to (st' := [.int (s 12), .int (nI 12), .ref (a + 1)]) ?_ rfl rfl (congrArg (fun z => (Value.int z :: [.int (nI 12), .ref (a + 1)] : List Value)) (show (zPayD s (zPdG s sT sG p) 6) 12 = s 12 from (zPayD_lo (by omega))))
          refine r_iload_n ok dX6_paysDuty_144 2 rfl rfl ?_
          refine r_iadd ok dX6_paysDuty_145 ?_
          refine r_iastN ok (by omega) (by omega) dX6_paysDuty_146 md_s (mdw_s _) ?_
          exact r_vret ok dX6_paysDuty_147 rfl ⟨rfl, (by rfl)⟩
        | succ nL3 ihL3 =>
          intro k hk_k
          refine r_iload_n ok dX6_paysDuty_86 3 rfl rfl ?_
          refine r_bipush ok (nI 6) dX6_paysDuty_87 (by rfl) ?_
          refine r_icmp_geN ok 136 (by omega) (by omega) dX6_paysDuty_89 (by decide) (fun c89_5 => ?_) (fun c89_5 => ?_)
          · skip
            exact absurd c89_5 (by omega)
          · skip
            refine r_aload_n ok dX6_paysDuty_92 0 rfl rfl ?_
            refine r_getf ok ci_X6 fl_X6_7 (by decide) dX6_paysDuty_93 md_o rfl ?_
            refine r_iload_n ok dX6_paysDuty_96 3 rfl rfl ?_
            refine r_iconst ok (nI 0) dX6_paysDuty_97 (by rfl) ?_
            refine r_cS1 ok [.ref (a + 1)] mi_X6_of ml_X6_47 sm_X6_of dX6_paysDuty_98 (c_X6_of K.2.1 G (mdM G M a (zPayD s (zPdG s sT sG p) k) sA sH sL sI sP (zC0 sT (zPrc s p) 6) (zPdG s sT sG p) kp ln po wr) N  k 0 ) rfl rfl ⟨Nat.le_of_ble_eq_true rfl, Nat.le_of_ble_eq_true rfl⟩ (Nat.le_of_ble_eq_true rfl) ⟨Nat.zero_le _, Nat.zero_le _⟩ ?_
            refine r_dup2 ok dX6_paysDuty_101 rfl rfl ?_
            refine r_ialdN ok (by omega) (by omega) dX6_paysDuty_102 md_s ?_
            refine r_aload_n ok dX6_paysDuty_103 0 rfl rfl ?_
            refine r_getf ok ci_X6 fl_X6_32 (by decide) dX6_paysDuty_104 md_o rfl ?_
            refine r_iload_n ok dX6_paysDuty_107 3 rfl rfl ?_
            refine r_ialdN ok (by omega) (by omega) dX6_paysDuty_108 md_sG ?_
            refine r_isub ok dX6_paysDuty_109 ?_
            refine r_iastN ok (by omega) (by omega) dX6_paysDuty_110 md_s (mdw_s _) ?_
            refine r_aload_n ok dX6_paysDuty_111 0 rfl rfl ?_
            refine r_getf ok ci_X6 fl_X6_7 (by decide) dX6_paysDuty_112 md_o rfl ?_
            refine r_iload_n ok dX6_paysDuty_115 3 rfl rfl ?_
            refine r_iconst ok (nI 4) dX6_paysDuty_116 (by rfl) ?_
            refine r_cS1 ok [.ref (a + 1)] mi_X6_of ml_X6_47 sm_X6_of dX6_paysDuty_117 (c_X6_of K.2.1 G (mdM G M a (upd (zPayD s (zPdG s sT sG p) k) (15 + 22 * k + 0) (((zPayD s (zPdG s sT sG p) k) (15 + 22 * k + 0)) - ((zPdG s sT sG p) k))) sA sH sL sI sP (zC0 sT (zPrc s p) 6) (zPdG s sT sG p) kp ln po wr) N  k 4 ) rfl rfl ⟨Nat.le_of_ble_eq_true rfl, Nat.le_of_ble_eq_true rfl⟩ (Nat.le_of_ble_eq_true rfl) ⟨Nat.zero_le _, Nat.zero_le _⟩ ?_
            refine r_dup2 ok dX6_paysDuty_120 rfl rfl ?_
            refine r_ialdN ok (by omega) (by omega) dX6_paysDuty_121 md_s ?_
            refine r_aload_n ok dX6_paysDuty_122 0 rfl rfl ?_
            refine r_getf ok ci_X6 fl_X6_32 (by decide) dX6_paysDuty_123 md_o rfl ?_
            refine r_iload_n ok dX6_paysDuty_126 3 rfl rfl ?_
            refine r_ialdN ok (by omega) (by omega) dX6_paysDuty_127 md_sG ?_
            refine r_iadd ok dX6_paysDuty_128 ?_
            refine r_iastN ok (by omega) (by omega) dX6_paysDuty_129 md_s (mdw_s _) ?_
            refine r_iincN ok (c := 1) [(3, .int (nI (k + 1))), (0, .ref a), (1, .int (nI (p))), (2, .int (zDutyOf s p))] dX6_paysDuty_130 3 rfl (by rfl) (by decide) rfl ?_
            refine r_goto ok 86 dX6_paysDuty_133 (by decide) ?_
            have q6 : mdM G M a (upd (upd (zPayD s (zPdG s sT sG p) k) (15 + 22 * k + 0) (((zPayD s (zPdG s sT sG p) k) (15 + 22 * k + 0)) - ((zPdG s sT sG p) k))) (15 + 22 * k + 4) (((upd (zPayD s (zPdG s sT sG p) k) (15 + 22 * k + 0) (((zPayD s (zPdG s sT sG p) k) (15 + 22 * k + 0)) - ((zPdG s sT sG p) k))) (15 + 22 * k + 4)) + ((zPdG s sT sG p) k))) sA sH sL sI sP (zC0 sT (zPrc s p) 6) (zPdG s sT sG p) kp ln po wr = mdM G M a (zPayD s (zPdG s sT sG p) (k + 1)) sA sH sL sI sP (zC0 sT (zPrc s p) 6) (zPdG s sT sG p) kp ln po wr := by first | with_reducible rfl | (rfl)
            refine zW.forget (lv' := [(0, .ref a), (1, .int (nI (p))), (2, .int (zDutyOf s p)), (3, .int (nI (k + 1)))]) ?_ [1, 2, 3, 0] rfl
            refine zW.to ?_ q6 rfl rfl
            exact ihL3 (k + 1) (by omega)
      have q7 : mdM G M a s sA sH sL sI sP (zC0 sT (zPrc s p) 6) (zGets (zDutyOf s p) (zC0 sT (zPrc s p) 6) sG) kp ln po wr = mdM G M a (zPayD s (zPdG s sT sG p) 0) sA sH sL sI sP (zC0 sT (zPrc s p) 6) (zPdG s sT sG p) kp ln po wr := by first | with_reducible rfl | (rfl)
      refine zW.forget (lv' := [(0, .ref a), (1, .int (nI (p))), (2, .int (zDutyOf s p)), (3, .int (nI 0))]) ?_ [1, 2, 3, 0] rfl
      refine zW.to ?_ q7 rfl rfl
      exact L3 6 0 (by omega)
    | succ nL1 ihL1 =>
      intro m hk_m
      refine r_iload_n ok dX6_paysDuty_17 3 rfl rfl ?_
      refine r_bipush ok (nI 6) dX6_paysDuty_18 (by rfl) ?_
      refine r_icmp_geN ok 79 (by omega) (by omega) dX6_paysDuty_20 (by decide) (fun c20_8 => ?_) (fun c20_8 => ?_)
      · skip
        exact absurd c20_8 (by omega)
      · skip
        refine r_aload_n ok dX6_paysDuty_23 0 rfl rfl ?_
        refine r_getf ok ci_X6 fl_X6_29 (by decide) dX6_paysDuty_24 md_o rfl ?_
        refine r_iload_n ok dX6_paysDuty_27 3 rfl rfl ?_
        refine r_iconst ok (nI 0) dX6_paysDuty_28 (by rfl) ?_
        refine r_iastN ok (by omega) (by omega) dX6_paysDuty_29 md_sT (mdw_sT _) ?_
        refine r_iconst ok (nI 0) dX6_paysDuty_30 (by rfl) ?_
        refine r_istore ok [(4, .int (nI 0)), (0, .ref a), (1, .int (nI (p))), (2, .int (zDutyOf s p)), (3, .int (nI (m)))] dX6_paysDuty_31 (by decide) rfl ?_
        have L9 : ∀ (nL9 : Nat) (g : Nat), ((g + nL9 = 8)) → zW K G 5 (zQ K G (N + 0) 0 0 (zP none (mdM G M a (zPd s sT sG p) sA sH sL sI sP (zC0 sT (zPrc s p) 6) (zPdG s sT sG p) kp ln po wr))) 0 0 (mdM G M a s sA sH sL sI sP (upd (zC0 sT (zPrc s p) m) m (lsum (zPrcT s p m) g)) sG kp ln po wr) N 33 [(0, .ref a), (1, .int (nI (p))), (2, .int (zDutyOf s p)), (3, .int (nI (m))), (4, .int (nI (g)))] [] := by
          intro nL9
          induction nL9 with
          | zero =>
            intro g hk_g
            obtain rfl : g = 8 := by omega
            refine r_iload ok dX6_paysDuty_33 4 rfl ?_
            refine r_bipush ok (nI 8) dX6_paysDuty_35 (by rfl) ?_
            refine r_icmp_geN ok 73 (by omega) (by omega) dX6_paysDuty_37 (by decide) (fun _ => ?_) (fun c => absurd c (by decide))
            refine r_iincN ok (c := 1) [(3, .int (nI (m + 1))), (0, .ref a), (1, .int (nI (p))), (2, .int (zDutyOf s p)), (4, .int (nI (8)))] dX6_paysDuty_73 3 rfl (by rfl) (by decide) rfl ?_
            refine r_goto ok 17 dX6_paysDuty_76 (by decide) ?_
            have q11 : mdM G M a s sA sH sL sI sP (upd (zC0 sT (zPrc s p) m) m (lsum (zPrcT s p m) 8)) sG kp ln po wr = mdM G M a s sA sH sL sI sP (zC0 sT (zPrc s p) (m + 1)) sG kp ln po wr := by first | with_reducible rfl | (first | rfl | (rw [← zC0_s]; rfl))
            refine zW.forget (lv' := [(0, .ref a), (1, .int (nI (p))), (2, .int (zDutyOf s p)), (3, .int (nI (m + 1)))]) ?_ [1, 2, 3, 0] rfl
            refine zW.to ?_ q11 rfl rfl
            exact ihL1 (m + 1) (by omega)
          | succ nL9 ihL9 =>
            intro g hk_g
            refine r_iload ok dX6_paysDuty_33 4 rfl ?_
            refine r_bipush ok (nI 8) dX6_paysDuty_35 (by rfl) ?_
            refine r_icmp_geN ok 73 (by omega) (by omega) dX6_paysDuty_37 (by decide) (fun c37_12 => ?_) (fun c37_12 => ?_)
            · skip
              exact absurd c37_12 (by omega)
            · skip
              refine r_aload_n ok dX6_paysDuty_40 0 rfl rfl ?_
              refine r_getf ok ci_X6 fl_X6_29 (by decide) dX6_paysDuty_41 md_o rfl ?_
              refine r_iload_n ok dX6_paysDuty_44 3 rfl rfl ?_
              refine r_dup2 ok dX6_paysDuty_45 rfl rfl ?_
              refine r_ialdN ok (by omega) (by omega) dX6_paysDuty_46 md_sT ?_
              refine zW.to (st' := [.int (lsum (zPrcT s p m) g), .int (nI (m)), .ref (a + 7)]) ?_ rfl rfl (congrArg (fun z => (Value.int z :: [.int (nI (m)), .ref (a + 7)] : List Value)) (show (upd (zC0 sT (zPrc s p) m) m (lsum (zPrcT s p m) g)) m = lsum (zPrcT s p m) g from pk_us))
              refine r_iload ok dX6_paysDuty_47 4 rfl ?_
              refine r_cS1 ok [.int (lsum (zPrcT s p m) g), .int (nI (m)), .ref (a + 7)] mi_X6_price ml_X6_54 sm_X6_price dX6_paysDuty_49 (c_X6_price K.2.1 G (mdM G M a s sA sH sL sI sP (upd (zC0 sT (zPrc s p) m) m (lsum (zPrcT s p m) g)) sG kp ln po wr) N  g ) rfl rfl ⟨Nat.le_of_ble_eq_true rfl, Nat.le_of_ble_eq_true rfl⟩ (Nat.le_of_ble_eq_true rfl) ⟨Nat.zero_le _, Nat.zero_le _⟩ ?_
              refine r_aload_n ok dX6_paysDuty_52 0 rfl rfl ?_
              refine r_getf ok ci_X6 fl_X6_7 (by decide) dX6_paysDuty_53 md_o rfl ?_
              refine r_iload_n ok dX6_paysDuty_56 1 rfl rfl ?_
              refine r_iload_n ok dX6_paysDuty_57 3 rfl rfl ?_
              refine r_iload ok dX6_paysDuty_58 4 rfl ?_
              refine r_cS1 ok [.ref (a + 1), .int (nI (10 + 5 * g)), .int (lsum (zPrcT s p m) g), .int (nI (m)), .ref (a + 7)] mi_X6_ofString ml_X6_87 sm_X6_ofString dX6_paysDuty_60 (c_X6_ofString K.2.1 G (mdM G M a s sA sH sL sI sP (upd (zC0 sT (zPrc s p) m) m (lsum (zPrcT s p m) g)) sG kp ln po wr) N  p m g ) rfl rfl ⟨Nat.le_of_ble_eq_true rfl, Nat.le_of_ble_eq_true rfl⟩ (Nat.le_of_ble_eq_true rfl) ⟨Nat.zero_le _, Nat.zero_le _⟩ ?_
              refine r_ialdN ok (by omega) (by omega) dX6_paysDuty_63 md_s ?_
              refine r_imul ok dX6_paysDuty_64 ?_
              refine r_iadd ok dX6_paysDuty_65 ?_
              refine r_iastN ok (by omega) (by omega) dX6_paysDuty_66 md_sT (mdw_sT _) ?_
              refine r_iincN ok (c := 1) [(4, .int (nI (g + 1))), (0, .ref a), (1, .int (nI (p))), (2, .int (zDutyOf s p)), (3, .int (nI (m)))] dX6_paysDuty_67 4 rfl (by rfl) (by decide) rfl ?_
              refine r_goto ok 33 dX6_paysDuty_70 (by decide) ?_
              have q13 : mdM G M a s sA sH sL sI sP (upd (upd (zC0 sT (zPrc s p) m) m (lsum (zPrcT s p m) g)) m ((lsum (zPrcT s p m) g) + ((nI (10 + 5 * g)) * (s (147 + 51 * p + (3 + 8 * m + g)))))) sG kp ln po wr = mdM G M a s sA sH sL sI sP (upd (zC0 sT (zPrc s p) m) m (lsum (zPrcT s p m) (g + 1))) sG kp ln po wr := by first | with_reducible rfl | (simp [upd_upd, lsum_s, zPrcT])
              refine zW.forget (lv' := [(0, .ref a), (1, .int (nI (p))), (2, .int (zDutyOf s p)), (3, .int (nI (m))), (4, .int (nI (g + 1)))]) ?_ [1, 2, 3, 4, 0] rfl
              refine zW.to ?_ q13 rfl rfl
              exact ihL9 (g + 1) (by omega)
        have q14 : mdM G M a s sA sH sL sI sP (upd (zC0 sT (zPrc s p) m) m (nI 0)) sG kp ln po wr = mdM G M a s sA sH sL sI sP (upd (zC0 sT (zPrc s p) m) m (lsum (zPrcT s p m) 0)) sG kp ln po wr := by first | with_reducible rfl | (rfl)
        refine zW.forget (lv' := [(0, .ref a), (1, .int (nI (p))), (2, .int (zDutyOf s p)), (3, .int (nI (m))), (4, .int (nI 0))]) ?_ [1, 2, 3, 4, 0] rfl
        refine zW.to ?_ q14 rfl rfl
        exact L9 8 0 (by omega)
  have q15 : Value.int (zDuty s (s (147 + 51 * p + 0))) = Value.int (zDutyOf s p) := by first | with_reducible rfl | (first | rfl | rw [zC0_0])
  have q16 : mdM G M a s sA sH sL sI sP sT sG kp ln po wr = mdM G M a s sA sH sL sI sP (zC0 sT (zPrc s p) 0) sG kp ln po wr := by first | with_reducible rfl | (first | rfl | rw [zC0_0])
  refine zW.forget (lv' := [(0, .ref a), (1, .int (nI (p))), (2, .int (zDuty s (s (147 + 51 * p + 0)))), (3, .int (nI 0))]) ?_ [2, 3, 1, 0] rfl
  refine zW.to (lv' := [(0, .ref a), (1, .int (nI (p))), (2, .int (zDutyOf s p)), (3, .int (nI 0))]) ?_ rfl (congrArg (fun z => ([(0, .ref a), (1, .int (nI (p))), (2, z), (3, .int (nI 0))] : List (Nat × Value))) q15) rfl
  refine zW.to ?_ q16 rfl rfl
  exact L1 6 0 (by omega)
set_option maxHeartbeats 4000000 in
set_option maxRecDepth 100000 in
theorem c_X6_record (l : Launch) (G : zG) (M : zM) (N a : Nat) (s sA sH sL : Nat → Int32) (sI : Nat → Bool) (sP sT sG : Nat → Int32) (kp ln po : Int32) (wr : Bool) (kn : Nat)  (hk : kn ≤ 6) : zC l G yX6_record cX6_record 2 (none) 0 0 0 0 [.ref a] (mdM G M a s sA sH sL sI sP sT sG (nI kn) ln po wr) N (zP none (mdM G M a s sA (zRecH s sH kn) sL sI sP sT sG (nI (zRecK kn)) ln po wr)) := by
  refine zC.of (by decide +kernel) (Nat.le_of_ble_eq_true rfl) ?_
  intro K hKl ok
  subst hKl
  show zW K G 2 _ 0 0 _ N 0 [(0, .ref a)] []
  refine r_aload_n ok dX6_record_0 0 rfl rfl ?_
  refine r_getf ok ci_X6 fl_X6_39 (by decide) dX6_record_1 md_o rfl ?_
  refine r_bipush ok (nI 6) dX6_record_4 (by rfl) ?_
  refine r_icmp_neN ok 50 (by omega) (by omega) dX6_record_6 (by decide) (fun c6_1 => ?_) (fun c6_1 => ?_)
  · skip
    refine r_iconst ok (nI 0) dX6_record_50 (by rfl) ?_
    refine r_istore_n ok [(1, .int (nI 0)), (0, .ref a)] dX6_record_51 rfl (by decide) rfl ?_
    have L2 : ∀ (nL2 : Nat) (k : Nat), ((k + nL2 = 402)) → zW K G 2 (zQ K G (N + 0) 0 0 (zP none (mdM G M a s sA (zRecH s sH kn) sL sI sP sT sG (nI (zRecK kn)) ln po wr))) 0 0 (mdM G M a s sA (zCp sH s (402 * kn) k) sL sI sP sT sG (nI kn) ln po wr) N 52 [(0, .ref a), (1, .int (nI (k)))] [] := by
      intro nL2
      induction nL2 with
      | zero =>
        intro k hk_k
        obtain rfl : k = 402 := by omega
        refine r_iload_n ok dX6_record_52 1 rfl rfl ?_
        refine r_sipush ok (nI 402) dX6_record_53 (by rfl) ?_
        refine r_icmp_geN ok 86 (by omega) (by omega) dX6_record_56 (by decide) (fun _ => ?_) (fun c => absurd c (by decide))
        refine r_aload_n ok dX6_record_86 0 rfl rfl ?_
        refine r_dup ok dX6_record_87 rfl ?_
        refine r_getf ok ci_X6 fl_X6_39 (by decide) dX6_record_88 md_o rfl ?_
        refine r_iconst ok (nI 1) dX6_record_91 (by rfl) ?_
        refine r_iaddN ok dX6_record_92 ?_
        refine r_putf ok ci_X6 fl_X6_39 (by decide) rfl rfl rfl dX6_record_93 md_o rfl (mdw_o (nI (kn + 1)) ln po wr) ?_
        exact r_vret ok dX6_record_96 rfl ⟨rfl, (by first | rfl | simp [zRecH, zRecK, *])⟩
      | succ nL2 ihL2 =>
        intro k hk_k
        refine r_iload_n ok dX6_record_52 1 rfl rfl ?_
        refine r_sipush ok (nI 402) dX6_record_53 (by rfl) ?_
        refine r_icmp_geN ok 86 (by omega) (by omega) dX6_record_56 (by decide) (fun c56_4 => ?_) (fun c56_4 => ?_)
        · skip
          exact absurd c56_4 (by omega)
        · skip
          refine r_aload_n ok dX6_record_59 0 rfl rfl ?_
          refine r_getf ok ci_X6 fl_X6_16 (by decide) dX6_record_60 md_o rfl ?_
          refine r_sipush ok (nI 402) dX6_record_63 (by rfl) ?_
          refine r_aload_n ok dX6_record_66 0 rfl rfl ?_
          refine r_getf ok ci_X6 fl_X6_39 (by decide) dX6_record_67 md_o rfl ?_
          refine r_imulN ok dX6_record_70 ?_
          refine r_iload_n ok dX6_record_71 1 rfl rfl ?_
          refine r_iaddN ok dX6_record_72 ?_
          refine r_aload_n ok dX6_record_73 0 rfl rfl ?_
          refine r_getf ok ci_X6 fl_X6_7 (by decide) dX6_record_74 md_o rfl ?_
          refine r_iload_n ok dX6_record_77 1 rfl rfl ?_
          refine r_ialdN ok (by omega) (by omega) dX6_record_78 md_s ?_
          refine r_iastN ok (by omega) (by omega) dX6_record_79 md_sH (mdw_sH _) ?_
          refine r_iincN ok (c := 1) [(1, .int (nI (k + 1))), (0, .ref a)] dX6_record_80 1 rfl (by rfl) (by decide) rfl ?_
          refine r_goto ok 52 dX6_record_83 (by decide) ?_
          have q5 : mdM G M a s sA (upd (zCp sH s (402 * kn) k) ((402 * kn) + k) (s k)) sL sI sP sT sG (nI kn) ln po wr = mdM G M a s sA (zCp sH s (402 * kn) (k + 1)) sL sI sP sT sG (nI kn) ln po wr := by first | with_reducible rfl | (rw [zCp_s])
          refine zW.forget (lv' := [(0, .ref a), (1, .int (nI (k + 1)))]) ?_ [1, 0] rfl
          refine zW.to ?_ q5 rfl rfl
          exact ihL2 (k + 1) (by omega)
    have q6 : mdM G M a s sA sH sL sI sP sT sG (nI kn) ln po wr = mdM G M a s sA (zCp sH s (402 * kn) 0) sL sI sP sT sG (nI kn) ln po wr := by first | with_reducible rfl | (rw [zCp_0])
    refine zW.forget (lv' := [(0, .ref a), (1, .int (nI 0))]) ?_ [1, 0] rfl
    refine zW.to ?_ q6 rfl rfl
    exact L2 402 0 (by omega)
  · skip
    obtain rfl : kn = 6 := by omega
    refine r_iconst ok (nI 0) dX6_record_9 (by rfl) ?_
    refine r_istore_n ok [(1, .int (nI 0)), (0, .ref a)] dX6_record_10 rfl (by decide) rfl ?_
    have L7 : ∀ (nL7 : Nat) (k : Nat), ((k + nL7 = 2010)) → zW K G 2 (zQ K G (N + 0) 0 0 (zP none (mdM G M a s sA (zRecH s sH 6) sL sI sP sT sG (nI (zRecK 6)) ln po wr))) 0 0 (mdM G M a s sA (zSh sH k) sL sI sP sT sG (nI 6) ln po wr) N 11 [(0, .ref a), (1, .int (nI (k)))] [] := by
      intro nL7
      induction nL7 with
      | zero =>
        intro k hk_k
        obtain rfl : k = 2010 := by omega
        refine r_iload_n ok dX6_record_11 1 rfl rfl ?_
        refine r_sipush ok (nI 2010) dX6_record_12 (by rfl) ?_
        refine r_icmp_geN ok 40 (by omega) (by omega) dX6_record_15 (by decide) (fun _ => ?_) (fun c => absurd c (by decide))
        refine r_aload_n ok dX6_record_40 0 rfl rfl ?_
        refine r_dup ok dX6_record_41 rfl ?_
        refine r_getf ok ci_X6 fl_X6_39 (by decide) dX6_record_42 md_o rfl ?_
        refine r_iconst ok (nI 1) dX6_record_45 (by rfl) ?_
        refine r_isubN ok (by omega) dX6_record_46 ?_
        refine r_putf ok ci_X6 fl_X6_39 (by decide) rfl rfl rfl dX6_record_47 md_o rfl (mdw_o (nI (6 - 1)) ln po wr) ?_
        refine r_iconst ok (nI 0) dX6_record_50 (by rfl) ?_
        refine r_istore_n ok [(1, .int (nI 0)), (0, .ref a)] dX6_record_51 rfl (by decide) rfl ?_
        have L9 : ∀ (nL9 : Nat) (k : Nat), ((k + nL9 = 402)) → zW K G 2 (zQ K G (N + 0) 0 0 (zP none (mdM G M a s sA (zRecH s sH 6) sL sI sP sT sG (nI (zRecK 6)) ln po wr))) 0 0 (mdM G M a s sA (zCp (zSh sH 2010) s (402 * (6 - 1)) k) sL sI sP sT sG (nI (6 - 1)) ln po wr) N 52 [(0, .ref a), (1, .int (nI (k)))] [] := by
          intro nL9
          induction nL9 with
          | zero =>
            intro k hk_k
            obtain rfl : k = 402 := by omega
            refine r_iload_n ok dX6_record_52 1 rfl rfl ?_
            refine r_sipush ok (nI 402) dX6_record_53 (by rfl) ?_
            refine r_icmp_geN ok 86 (by omega) (by omega) dX6_record_56 (by decide) (fun _ => ?_) (fun c => absurd c (by decide))
            refine r_aload_n ok dX6_record_86 0 rfl rfl ?_
            refine r_dup ok dX6_record_87 rfl ?_
            refine r_getf ok ci_X6 fl_X6_39 (by decide) dX6_record_88 md_o rfl ?_
            refine r_iconst ok (nI 1) dX6_record_91 (by rfl) ?_
            refine r_iaddN ok dX6_record_92 ?_
            refine r_putf ok ci_X6 fl_X6_39 (by decide) rfl rfl rfl dX6_record_93 md_o rfl (mdw_o (nI ((6 - 1) + 1)) ln po wr) ?_
            exact r_vret ok dX6_record_96 rfl ⟨rfl, (by first | rfl | simp [zRecH, zRecK, *])⟩
          | succ nL9 ihL9 =>
            intro k hk_k
            refine r_iload_n ok dX6_record_52 1 rfl rfl ?_
            refine r_sipush ok (nI 402) dX6_record_53 (by rfl) ?_
            refine r_icmp_geN ok 86 (by omega) (by omega) dX6_record_56 (by decide) (fun c56_11 => ?_) (fun c56_11 => ?_)
            · skip
              exact absurd c56_11 (by omega)
            · skip
              refine r_aload_n ok dX6_record_59 0 rfl rfl ?_
              refine r_getf ok ci_X6 fl_X6_16 (by decide) dX6_record_60 md_o rfl ?_
              refine r_sipush ok (nI 402) dX6_record_63 (by rfl) ?_
              refine r_aload_n ok dX6_record_66 0 rfl rfl ?_
              refine r_getf ok ci_X6 fl_X6_39 (by decide) dX6_record_67 md_o rfl ?_
              refine r_imulN ok dX6_record_70 ?_
              refine r_iload_n ok dX6_record_71 1 rfl rfl ?_
              refine r_iaddN ok dX6_record_72 ?_
              refine r_aload_n ok dX6_record_73 0 rfl rfl ?_
              refine r_getf ok ci_X6 fl_X6_7 (by decide) dX6_record_74 md_o rfl ?_
              refine r_iload_n ok dX6_record_77 1 rfl rfl ?_
              refine r_ialdN ok (by omega) (by omega) dX6_record_78 md_s ?_
              refine r_iastN ok (by omega) (by omega) dX6_record_79 md_sH (mdw_sH _) ?_
              refine r_iincN ok (c := 1) [(1, .int (nI (k + 1))), (0, .ref a)] dX6_record_80 1 rfl (by rfl) (by decide) rfl ?_
              refine r_goto ok 52 dX6_record_83 (by decide) ?_
              have q12 : mdM G M a s sA (upd (zCp (zSh sH 2010) s (402 * (6 - 1)) k) ((402 * (6 - 1)) + k) (s k)) sL sI sP sT sG (nI (6 - 1)) ln po wr = mdM G M a s sA (zCp (zSh sH 2010) s (402 * (6 - 1)) (k + 1)) sL sI sP sT sG (nI (6 - 1)) ln po wr := by first | with_reducible rfl | (rw [zCp_s])
              refine zW.forget (lv' := [(0, .ref a), (1, .int (nI (k + 1)))]) ?_ [1, 0] rfl
              refine zW.to ?_ q12 rfl rfl
              exact ihL9 (k + 1) (by omega)
        have q13 : mdM G M a s sA (zSh sH 2010) sL sI sP sT sG (nI (6 - 1)) ln po wr = mdM G M a s sA (zCp (zSh sH 2010) s (402 * (6 - 1)) 0) sL sI sP sT sG (nI (6 - 1)) ln po wr := by first | with_reducible rfl | (rw [zCp_0])
        refine zW.forget (lv' := [(0, .ref a), (1, .int (nI 0))]) ?_ [1, 0] rfl
        refine zW.to ?_ q13 rfl rfl
        exact L9 402 0 (by omega)
      | succ nL7 ihL7 =>
        intro k hk_k
        refine r_iload_n ok dX6_record_11 1 rfl rfl ?_
        refine r_sipush ok (nI 2010) dX6_record_12 (by rfl) ?_
        refine r_icmp_geN ok 40 (by omega) (by omega) dX6_record_15 (by decide) (fun c15_14 => ?_) (fun c15_14 => ?_)
        · skip
          exact absurd c15_14 (by omega)
        · skip
          refine r_aload_n ok dX6_record_18 0 rfl rfl ?_
          refine r_getf ok ci_X6 fl_X6_16 (by decide) dX6_record_19 md_o rfl ?_
          refine r_iload_n ok dX6_record_22 1 rfl rfl ?_
          refine r_aload_n ok dX6_record_23 0 rfl rfl ?_
          refine r_getf ok ci_X6 fl_X6_16 (by decide) dX6_record_24 md_o rfl ?_
          refine r_iload_n ok dX6_record_27 1 rfl rfl ?_
          refine r_sipush ok (nI 402) dX6_record_28 (by rfl) ?_
          refine r_iaddN ok dX6_record_31 ?_
          refine r_ialdN ok (by omega) (by omega) dX6_record_32 md_sH ?_
          refine r_iastN ok (by omega) (by omega) dX6_record_33 md_sH (mdw_sH _) ?_
          refine r_iincN ok (c := 1) [(1, .int (nI (k + 1))), (0, .ref a)] dX6_record_34 1 rfl (by rfl) (by decide) rfl ?_
          refine r_goto ok 11 dX6_record_37 (by decide) ?_
          have q15 : mdM G M a s sA (upd (zSh sH k) k ((zSh sH k) (k + 402))) sL sI sP sT sG (nI 6) ln po wr = mdM G M a s sA (zSh sH (k + 1)) sL sI sP sT sG (nI 6) ln po wr := by first | with_reducible rfl | (rw [zSh_s])
          refine zW.forget (lv' := [(0, .ref a), (1, .int (nI (k + 1)))]) ?_ [1, 0] rfl
          refine zW.to ?_ q15 rfl rfl
          exact ihL7 (k + 1) (by omega)
    have q16 : mdM G M a s sA sH sL sI sP sT sG (nI 6) ln po wr = mdM G M a s sA (zSh sH 0) sL sI sP sT sG (nI 6) ln po wr := by first | with_reducible rfl | (exact congrArg (fun z => mdM G M a s sA z sL sI sP sT sG _ ln po wr) (zC0_0 _ _).symm)
    refine zW.forget (lv' := [(0, .ref a), (1, .int (nI 0))]) ?_ [1, 0] rfl
    refine zW.to ?_ q16 rfl rfl
    exact L7 2010 0 (by omega)
set_option maxHeartbeats 4000000 in
set_option maxRecDepth 100000 in
theorem c_X6_putAside (l : Launch) (G : zG) (M : zM) (N a : Nat) (s sA sH sL : Nat → Int32) (sI : Nat → Bool) (sP sT sG : Nat → Int32) (kp ln po : Int32) (wr : Bool)    : zC l G yX6_putAside cX6_putAside 2 (none) 0 0 0 0 [.ref a] (mdM G M a s sA sH sL sI sP sT sG kp ln po wr) N (zP none (mdM G M a s (zC0 sA s 402) sH sL sI sP sT sG kp ln po wr)) := by
  refine zC.of (by decide +kernel) (Nat.le_of_ble_eq_true rfl) ?_
  intro K hKl ok
  subst hKl
  show zW K G 2 _ 0 0 _ N 0 [(0, .ref a)] []
  refine r_iconst ok (nI 0) dX6_putAside_0 (by rfl) ?_
  refine r_istore_n ok [(1, .int (nI 0)), (0, .ref a)] dX6_putAside_1 rfl (by decide) rfl ?_
  have L1 : ∀ (nL1 : Nat) (k : Nat), ((k + nL1 = 402)) → zW K G 2 (zQ K G (N + 0) 0 0 (zP none (mdM G M a s (zC0 sA s 402) sH sL sI sP sT sG kp ln po wr))) 0 0 (mdM G M a s (zC0 sA s k) sH sL sI sP sT sG kp ln po wr) N 2 [(0, .ref a), (1, .int (nI (k)))] [] := by
    intro nL1
    induction nL1 with
    | zero =>
      intro k hk_k
      obtain rfl : k = 402 := by omega
      refine r_iload_n ok dX6_putAside_2 1 rfl rfl ?_
      refine r_sipush ok (nI 402) dX6_putAside_3 (by rfl) ?_
      refine r_icmp_geN ok 27 (by omega) (by omega) dX6_putAside_6 (by decide) (fun _ => ?_) (fun c => absurd c (by decide))
      exact r_vret ok dX6_putAside_27 rfl ⟨rfl, rfl⟩
    | succ nL1 ihL1 =>
      intro k hk_k
      refine r_iload_n ok dX6_putAside_2 1 rfl rfl ?_
      refine r_sipush ok (nI 402) dX6_putAside_3 (by rfl) ?_
      refine r_icmp_geN ok 27 (by omega) (by omega) dX6_putAside_6 (by decide) (fun c6_3 => ?_) (fun c6_3 => ?_)
      · skip
        exact absurd c6_3 (by omega)
      · skip
        refine r_aload_n ok dX6_putAside_9 0 rfl rfl ?_
        refine r_getf ok ci_X6 fl_X6_13 (by decide) dX6_putAside_10 md_o rfl ?_
        refine r_iload_n ok dX6_putAside_13 1 rfl rfl ?_
        refine r_aload_n ok dX6_putAside_14 0 rfl rfl ?_
        refine r_getf ok ci_X6 fl_X6_7 (by decide) dX6_putAside_15 md_o rfl ?_
        refine r_iload_n ok dX6_putAside_18 1 rfl rfl ?_
        refine r_ialdN ok (by omega) (by omega) dX6_putAside_19 md_s ?_
        refine r_iastN ok (by omega) (by omega) dX6_putAside_20 md_sA (mdw_sA _) ?_
        refine r_iincN ok (c := 1) [(1, .int (nI (k + 1))), (0, .ref a)] dX6_putAside_21 1 rfl (by rfl) (by decide) rfl ?_
        refine r_goto ok 2 dX6_putAside_24 (by decide) ?_
        have q4 : mdM G M a s (upd (zC0 sA s k) k (s k)) sH sL sI sP sT sG kp ln po wr = mdM G M a s (zC0 sA s (k + 1)) sH sL sI sP sT sG kp ln po wr := by first | with_reducible rfl | (rw [zC0_s])
        refine zW.forget (lv' := [(0, .ref a), (1, .int (nI (k + 1)))]) ?_ [1, 0] rfl
        refine zW.to ?_ q4 rfl rfl
        exact ihL1 (k + 1) (by omega)
  have q5 : mdM G M a s sA sH sL sI sP sT sG kp ln po wr = mdM G M a s (zC0 sA s 0) sH sL sI sP sT sG kp ln po wr := by first | with_reducible rfl | (rw [zC0_0])
  refine zW.forget (lv' := [(0, .ref a), (1, .int (nI 0))]) ?_ [1, 0] rfl
  refine zW.to ?_ q5 rfl rfl
  exact L1 402 0 (by omega)
set_option maxHeartbeats 4000000 in
set_option maxRecDepth 100000 in
theorem c_X6_putBack (l : Launch) (G : zG) (M : zM) (N a : Nat) (s sA sH sL : Nat → Int32) (sI : Nat → Bool) (sP sT sG : Nat → Int32) (kp ln po : Int32) (wr : Bool)    : zC l G yX6_putBack cX6_putBack 2 (none) 0 0 0 0 [.ref a] (mdM G M a s sA sH sL sI sP sT sG kp ln po wr) N (zP none (mdM G M a (zC0 s sA 402) sA sH sL sI sP sT sG kp ln po wr)) := by
  refine zC.of (by decide +kernel) (Nat.le_of_ble_eq_true rfl) ?_
  intro K hKl ok
  subst hKl
  show zW K G 2 _ 0 0 _ N 0 [(0, .ref a)] []
  refine r_iconst ok (nI 0) dX6_putBack_0 (by rfl) ?_
  refine r_istore_n ok [(1, .int (nI 0)), (0, .ref a)] dX6_putBack_1 rfl (by decide) rfl ?_
  have L1 : ∀ (nL1 : Nat) (k : Nat), ((k + nL1 = 402)) → zW K G 2 (zQ K G (N + 0) 0 0 (zP none (mdM G M a (zC0 s sA 402) sA sH sL sI sP sT sG kp ln po wr))) 0 0 (mdM G M a (zC0 s sA k) sA sH sL sI sP sT sG kp ln po wr) N 2 [(0, .ref a), (1, .int (nI (k)))] [] := by
    intro nL1
    induction nL1 with
    | zero =>
      intro k hk_k
      obtain rfl : k = 402 := by omega
      refine r_iload_n ok dX6_putBack_2 1 rfl rfl ?_
      refine r_sipush ok (nI 402) dX6_putBack_3 (by rfl) ?_
      refine r_icmp_geN ok 27 (by omega) (by omega) dX6_putBack_6 (by decide) (fun _ => ?_) (fun c => absurd c (by decide))
      exact r_vret ok dX6_putBack_27 rfl ⟨rfl, rfl⟩
    | succ nL1 ihL1 =>
      intro k hk_k
      refine r_iload_n ok dX6_putBack_2 1 rfl rfl ?_
      refine r_sipush ok (nI 402) dX6_putBack_3 (by rfl) ?_
      refine r_icmp_geN ok 27 (by omega) (by omega) dX6_putBack_6 (by decide) (fun c6_3 => ?_) (fun c6_3 => ?_)
      · skip
        exact absurd c6_3 (by omega)
      · skip
        refine r_aload_n ok dX6_putBack_9 0 rfl rfl ?_
        refine r_getf ok ci_X6 fl_X6_7 (by decide) dX6_putBack_10 md_o rfl ?_
        refine r_iload_n ok dX6_putBack_13 1 rfl rfl ?_
        refine r_aload_n ok dX6_putBack_14 0 rfl rfl ?_
        refine r_getf ok ci_X6 fl_X6_13 (by decide) dX6_putBack_15 md_o rfl ?_
        refine r_iload_n ok dX6_putBack_18 1 rfl rfl ?_
        refine r_ialdN ok (by omega) (by omega) dX6_putBack_19 md_sA ?_
        refine r_iastN ok (by omega) (by omega) dX6_putBack_20 md_s (mdw_s _) ?_
        refine r_iincN ok (c := 1) [(1, .int (nI (k + 1))), (0, .ref a)] dX6_putBack_21 1 rfl (by rfl) (by decide) rfl ?_
        refine r_goto ok 2 dX6_putBack_24 (by decide) ?_
        have q4 : mdM G M a (upd (zC0 s sA k) k (sA k)) sA sH sL sI sP sT sG kp ln po wr = mdM G M a (zC0 s sA (k + 1)) sA sH sL sI sP sT sG kp ln po wr := by first | with_reducible rfl | (rw [zC0_s])
        refine zW.forget (lv' := [(0, .ref a), (1, .int (nI (k + 1)))]) ?_ [1, 0] rfl
        refine zW.to ?_ q4 rfl rfl
        exact ihL1 (k + 1) (by omega)
  have q5 : mdM G M a s sA sH sL sI sP sT sG kp ln po wr = mdM G M a (zC0 s sA 0) sA sH sL sI sP sT sG kp ln po wr := by first | with_reducible rfl | (rw [zC0_0])
  refine zW.forget (lv' := [(0, .ref a), (1, .int (nI 0))]) ?_ [1, 0] rfl
  refine zW.to ?_ q5 rfl rfl
  exact L1 402 0 (by omega)
set_option maxHeartbeats 4000000 in
set_option maxRecDepth 100000 in
theorem c_X6_lays (l : Launch) (G : zG) (M : zM) (N a : Nat) (s sA sH sL : Nat → Int32) (sI : Nat → Bool) (sP sT sG : Nat → Int32) (kp ln po : Int32) (wr : Bool) (kn : Nat) (ix : Nat) (v : Int32) (hk : kn ≤ 6) (hix : ix < 402) : zC l G yX6_lays cX6_lays 4 (some .int) 1 21 0 0 [.ref a, .int (nI (ix)), .int (v)] (mdM G M a s sA sH sL sI sP sT sG (nI kn) ln po wr) N (zP (some (.int (s ix))) (mdM G M a (upd s ix v) sA (zRecH s sH kn) sL sI sP sT sG (nI (zRecK kn)) ln po wr)) := by
  refine zC.of (by decide +kernel) (Nat.le_of_ble_eq_true rfl) ?_
  intro K hKl ok
  subst hKl
  show zW K G 4 _ 0 0 _ N 0 [(0, .ref a), (1, .int (nI (ix))), (2, .int (v))] []
  refine r_aload_n ok dX6_lays_0 0 rfl rfl ?_
  refine r_cV0 ok [] mi_X6_record ci_X6 ml_X6_113 im_X6_record se_X6_record dX6_lays_1 (c_X6_record K.2.1 G M N a s sA sH sL sI sP sT sG (nI kn) ln po wr kn  (by omega)) md_o rfl rfl ⟨Nat.le_of_ble_eq_true rfl, Nat.le_of_ble_eq_true rfl⟩ (Nat.le_of_ble_eq_true rfl) ⟨Nat.zero_le _, Nat.zero_le _⟩ ?_
  refine r_aload_n ok dX6_lays_4 0 rfl rfl ?_
  refine r_getf ok ci_X6 fl_X6_7 (by decide) dX6_lays_5 md_o rfl ?_
  refine r_iload_n ok dX6_lays_8 1 rfl rfl ?_
  refine r_ialdN ok (by omega) (by omega) dX6_lays_9 md_s ?_
  refine r_istore_n ok [(3, .int (s ix)), (0, .ref a), (1, .int (nI (ix))), (2, .int (v))] dX6_lays_10 rfl (by decide) rfl ?_
  refine r_aload_n ok dX6_lays_11 1 rfl rfl ?_
  refine r_getf ok ci_X6 fl_X6_7 (by decide) dX6_lays_12 md_o rfl ?_
  refine r_iload_n ok dX6_lays_15 2 rfl rfl ?_
  refine r_iload_n ok dX6_lays_16 3 rfl rfl ?_
  refine r_iastN ok (by omega) (by omega) dX6_lays_17 md_s (mdw_s _) ?_
  refine r_iload_n ok dX6_lays_18 0 rfl rfl ?_
  exact r_iret ok dX6_lays_19 rfl ⟨rfl, rfl⟩
set_option maxHeartbeats 4000000 in
set_option maxRecDepth 100000 in
theorem c_X6_least (l : Launch) (G : zG) (M : zM) (N : Nat)  (i : Nat) (hi : i < 9) : zC l G yX6_least cX6_least 1 (some .int) 0 0 0 0 [.int (nI (i))] (M) N (zP (some (.int (zLeast i))) (M)) := by
  refine zC.of (by decide +kernel) (Nat.le_of_ble_eq_true rfl) ?_
  intro K hKl ok
  subst hKl
  show zW K G 1 _ 0 0 _ N 0 [(0, .int (nI (i)))] []
  refine r_iload_n ok dX6_least_0 0 rfl rfl ?_
  refine r_if_neN ok 8 (by omega) dX6_least_1 (by decide) (fun c1_1 => ?_) (fun c1_1 => ?_)
  · skip
    refine r_iload_n ok dX6_least_8 0 rfl rfl ?_
    refine r_iconst ok (nI 3) dX6_least_9 (by rfl) ?_
    refine r_icmp_neN ok 17 (by omega) (by omega) dX6_least_10 (by decide) (fun c10_2 => ?_) (fun c10_2 => ?_)
    · skip
      refine r_iconst ok (nI 0) dX6_least_17 (by rfl) ?_
      exact r_iret ok dX6_least_18 rfl ⟨congrArg (fun z => some (Value.int z)) (show nI 0 = zLeast i from by (subst_vars; first | rfl | (rw [zLeast_eq _ (by omega), if_neg (by omega), if_neg (by omega)]; rfl))), rfl⟩
    · skip
      refine r_iconst ok (nI 1) dX6_least_13 (by rfl) ?_
      refine r_goto ok 18 dX6_least_14 (by decide) ?_
      exact r_iret ok dX6_least_18 rfl ⟨congrArg (fun z => some (Value.int z)) (show nI 1 = zLeast i from by (subst_vars; first | rfl | (rw [zLeast_eq _ (by omega), if_neg (by omega), if_neg (by omega)]; rfl))), rfl⟩
  · skip
    refine r_iconst ok (nI 2) dX6_least_4 (by rfl) ?_
    refine r_goto ok 18 dX6_least_5 (by decide) ?_
    exact r_iret ok dX6_least_18 rfl ⟨congrArg (fun z => some (Value.int z)) (show nI 2 = zLeast i from by (subst_vars; first | rfl | (rw [zLeast_eq _ (by omega), if_neg (by omega), if_neg (by omega)]; rfl))), rfl⟩
set_option maxHeartbeats 4000000 in
set_option maxRecDepth 100000 in
theorem c_X6_most (l : Launch) (G : zG) (M : zM) (N : Nat)  (v : Int32)  : zC l G yX6_most cX6_most 1 (some .int) 0 0 0 0 [.int (v)] (M) N (zP (some (.int (zMostI v))) (M)) := by
  refine zC.of (by decide +kernel) (Nat.le_of_ble_eq_true rfl) ?_
  intro K hKl ok
  subst hKl
  show zW K G 1 _ 0 0 _ N 0 [(0, .int (v))] []
  refine r_iload_n ok dX6_most_0 0 rfl rfl ?_
  by_cases c1_1 : v = 0
  · skip
    subst c1_1
    refine r_table ok dX6_most_1 (t := 44) (by decide) (by decide) ?_
    refine r_bipush ok (nI 20) dX6_most_44 (by rfl) ?_
    exact r_iret ok dX6_most_46 rfl ⟨congrArg (fun z => some (Value.int z)) (show nI 20 = zMostI ((0 : Int32)) from by first | rfl | (show (100 : Int32) = _; simp [zMostI, *])), rfl⟩
  by_cases c1_2 : v = 1
  · skip
    subst c1_2
    refine r_table ok dX6_most_1 (t := 47) (by decide) (by decide) ?_
    refine r_bipush ok (nI 99) dX6_most_47 (by rfl) ?_
    exact r_iret ok dX6_most_49 rfl ⟨congrArg (fun z => some (Value.int z)) (show nI 99 = zMostI ((1 : Int32)) from by first | rfl | (show (100 : Int32) = _; simp [zMostI, *])), rfl⟩
  by_cases c1_3 : v = 2
  · skip
    subst c1_3
    refine r_table ok dX6_most_1 (t := 50) (by decide) (by decide) ?_
    refine r_bipush ok (nI 9) dX6_most_50 (by rfl) ?_
    exact r_iret ok dX6_most_52 rfl ⟨congrArg (fun z => some (Value.int z)) (show nI 9 = zMostI ((2 : Int32)) from by first | rfl | (show (100 : Int32) = _; simp [zMostI, *])), rfl⟩
  by_cases c1_4 : v = 3
  · skip
    subst c1_4
    refine r_table ok dX6_most_1 (t := 44) (by decide) (by decide) ?_
    refine r_bipush ok (nI 20) dX6_most_44 (by rfl) ?_
    exact r_iret ok dX6_most_46 rfl ⟨congrArg (fun z => some (Value.int z)) (show nI 20 = zMostI ((3 : Int32)) from by first | rfl | (show (100 : Int32) = _; simp [zMostI, *])), rfl⟩
  by_cases c1_5 : v = 4
  · skip
    subst c1_5
    refine r_table ok dX6_most_1 (t := 53) (by decide) (by decide) ?_
    refine r_bipush ok (nI 30) dX6_most_53 (by rfl) ?_
    exact r_iret ok dX6_most_55 rfl ⟨congrArg (fun z => some (Value.int z)) (show nI 30 = zMostI ((4 : Int32)) from by first | rfl | (show (100 : Int32) = _; simp [zMostI, *])), rfl⟩
  by_cases c1_6 : v = 5
  · skip
    subst c1_6
    refine r_table ok dX6_most_1 (t := 56) (by decide) (by decide) ?_
    refine r_sipush ok (nI 500) dX6_most_56 (by rfl) ?_
    exact r_iret ok dX6_most_59 rfl ⟨congrArg (fun z => some (Value.int z)) (show nI 500 = zMostI ((5 : Int32)) from by first | rfl | (show (100 : Int32) = _; simp [zMostI, *])), rfl⟩
  by_cases c1_7 : v = 6
  · skip
    subst c1_7
    refine r_table ok dX6_most_1 (t := 60) (by decide) (by decide) ?_
    refine r_bipush ok (nI 50) dX6_most_60 (by rfl) ?_
    exact r_iret ok dX6_most_62 rfl ⟨congrArg (fun z => some (Value.int z)) (show nI 50 = zMostI ((6 : Int32)) from by first | rfl | (show (100 : Int32) = _; simp [zMostI, *])), rfl⟩
  have hd1 : v.toInt < 0 ∨ 6 < v.toInt := by
    rcases Int.lt_or_le v.toInt 0 with q | q
    · exact Or.inl q
    rcases Int.lt_or_le 6 v.toInt with q2 | q2
    · exact Or.inr q2
    have w0 : v.toInt ≠ 0 := fun z => c1_1 (Int32.toInt_inj.mp (z.trans (by decide)))
    have w1 : v.toInt ≠ 1 := fun z => c1_2 (Int32.toInt_inj.mp (z.trans (by decide)))
    have w2 : v.toInt ≠ 2 := fun z => c1_3 (Int32.toInt_inj.mp (z.trans (by decide)))
    have w3 : v.toInt ≠ 3 := fun z => c1_4 (Int32.toInt_inj.mp (z.trans (by decide)))
    have w4 : v.toInt ≠ 4 := fun z => c1_5 (Int32.toInt_inj.mp (z.trans (by decide)))
    have w5 : v.toInt ≠ 5 := fun z => c1_6 (Int32.toInt_inj.mp (z.trans (by decide)))
    have w6 : v.toInt ≠ 6 := fun z => c1_7 (Int32.toInt_inj.mp (z.trans (by decide)))
    omega
  refine r_table ok dX6_most_1 (t := 63) (by rw [if_pos hd1]; decide) (by decide) ?_
  refine r_bipush ok (nI 100) dX6_most_63 (by rfl) ?_
  exact r_iret ok dX6_most_65 rfl ⟨congrArg (fun z => some (Value.int z)) (show nI 100 = zMostI v from by first | rfl | (show (100 : Int32) = _; simp [zMostI, *])), rfl⟩
end
