section
-- ===== PART A: goes FIRST, ahead of the names: the tables' words, and 'selects' of the private methods out of them =====
/-- a private method of a class that the tables say can be made, by its rows of tables_1 -/
def lw_okq (q : MethodName × Nat) : Prop := (q.1.cls ≠ "java/lang/invoke/MethodHandle" ∧ q.1.cls ≠ "java/lang/invoke/VarHandle") ∧ Cond.instantiable q.1.cls q.2 ∈ tables_1 ∧ Cond.privateMethod q.1 ∈ tables_1 ∧ Cond.instanceMethod q.1 ∈ tables_1
theorem lw_p0 : lw_okq (⟨"LeftTurns$Reader", "advance", "()V"⟩, 11) := ⟨⟨by decide +kernel, by decide +kernel⟩, List.mem_of_getElem? (i := 241) (by decide +kernel), List.mem_of_getElem? (i := 491) (by decide +kernel), List.mem_of_getElem? (i := 492) (by decide +kernel)⟩
theorem lw_p1 : lw_okq (⟨"LeftTurns$Reader", "isSmall", "(I)Z"⟩, 11) := ⟨⟨by decide +kernel, by decide +kernel⟩, List.mem_of_getElem? (i := 241) (by decide +kernel), List.mem_of_getElem? (i := 495) (by decide +kernel), List.mem_of_getElem? (i := 496) (by decide +kernel)⟩
theorem lw_p2 : lw_okq (⟨"LeftTurns$Reader", "isDigit", "(I)Z"⟩, 11) := ⟨⟨by decide +kernel, by decide +kernel⟩, List.mem_of_getElem? (i := 241) (by decide +kernel), List.mem_of_getElem? (i := 499) (by decide +kernel), List.mem_of_getElem? (i := 500) (by decide +kernel)⟩
theorem lw_p3 : lw_okq (⟨"LeftTurns$Reader", "fail", "(I)V"⟩, 11) := ⟨⟨by decide +kernel, by decide +kernel⟩, List.mem_of_getElem? (i := 241) (by decide +kernel), List.mem_of_getElem? (i := 503) (by decide +kernel), List.mem_of_getElem? (i := 504) (by decide +kernel)⟩
theorem lw_p4 : lw_okq (⟨"LeftTurns$Reader", "line", "()V"⟩, 11) := ⟨⟨by decide +kernel, by decide +kernel⟩, List.mem_of_getElem? (i := 241) (by decide +kernel), List.mem_of_getElem? (i := 594) (by decide +kernel), List.mem_of_getElem? (i := 595) (by decide +kernel)⟩
theorem lw_p5 : lw_okq (⟨"LeftTurns$Reader", "isWord", "(Ljava/lang/String;)Z"⟩, 11) := ⟨⟨by decide +kernel, by decide +kernel⟩, List.mem_of_getElem? (i := 241) (by decide +kernel), List.mem_of_getElem? (i := 599) (by decide +kernel), List.mem_of_getElem? (i := 600) (by decide +kernel)⟩
theorem lw_p6 : lw_okq (⟨"LeftTurns$Reader", "cityLine", "()V"⟩, 11) := ⟨⟨by decide +kernel, by decide +kernel⟩, List.mem_of_getElem? (i := 241) (by decide +kernel), List.mem_of_getElem? (i := 624) (by decide +kernel), List.mem_of_getElem? (i := 625) (by decide +kernel)⟩
theorem lw_p7 : lw_okq (⟨"LeftTurns$Reader", "bounded", "(II)I"⟩, 11) := ⟨⟨by decide +kernel, by decide +kernel⟩, List.mem_of_getElem? (i := 241) (by decide +kernel), List.mem_of_getElem? (i := 628) (by decide +kernel), List.mem_of_getElem? (i := 629) (by decide +kernel)⟩
theorem lw_p8 : lw_okq (⟨"LeftTurns$Reader", "wallLine", "()V"⟩, 11) := ⟨⟨by decide +kernel, by decide +kernel⟩, List.mem_of_getElem? (i := 241) (by decide +kernel), List.mem_of_getElem? (i := 637) (by decide +kernel), List.mem_of_getElem? (i := 638) (by decide +kernel)⟩
theorem lw_p9 : lw_okq (⟨"LeftTurns$Reader", "crossingTold", "()I"⟩, 11) := ⟨⟨by decide +kernel, by decide +kernel⟩, List.mem_of_getElem? (i := 241) (by decide +kernel), List.mem_of_getElem? (i := 641) (by decide +kernel), List.mem_of_getElem? (i := 642) (by decide +kernel)⟩
theorem lw_p10 : lw_okq (⟨"LeftTurns$Reader", "freeLine", "()V"⟩, 11) := ⟨⟨by decide +kernel, by decide +kernel⟩, List.mem_of_getElem? (i := 241) (by decide +kernel), List.mem_of_getElem? (i := 654) (by decide +kernel), List.mem_of_getElem? (i := 655) (by decide +kernel)⟩
theorem lw_p11 : lw_okq (⟨"LeftTurns$Reader", "personLine", "()V"⟩, 11) := ⟨⟨by decide +kernel, by decide +kernel⟩, List.mem_of_getElem? (i := 241) (by decide +kernel), List.mem_of_getElem? (i := 663) (by decide +kernel), List.mem_of_getElem? (i := 664) (by decide +kernel)⟩
theorem lw_p12 : lw_okq (⟨"LeftTurns$Reader", "heading", "()I"⟩, 11) := ⟨⟨by decide +kernel, by decide +kernel⟩, List.mem_of_getElem? (i := 241) (by decide +kernel), List.mem_of_getElem? (i := 667) (by decide +kernel), List.mem_of_getElem? (i := 668) (by decide +kernel)⟩
theorem lw_p13 : lw_okq (⟨"LeftTurns$Reader", "beginLaw", "(LLeftTurns$Law;)V"⟩, 11) := ⟨⟨by decide +kernel, by decide +kernel⟩, List.mem_of_getElem? (i := 241) (by decide +kernel), List.mem_of_getElem? (i := 682) (by decide +kernel), List.mem_of_getElem? (i := 683) (by decide +kernel)⟩
theorem lw_p14 : lw_okq (⟨"LeftTurns$Reader", "sign", "(C)V"⟩, 11) := ⟨⟨by decide +kernel, by decide +kernel⟩, List.mem_of_getElem? (i := 241) (by decide +kernel), List.mem_of_getElem? (i := 687) (by decide +kernel), List.mem_of_getElem? (i := 688) (by decide +kernel)⟩
theorem lw_p15 : lw_okq (⟨"LeftTurns$Reader", "sum", "(I)V"⟩, 11) := ⟨⟨by decide +kernel, by decide +kernel⟩, List.mem_of_getElem? (i := 241) (by decide +kernel), List.mem_of_getElem? (i := 691) (by decide +kernel), List.mem_of_getElem? (i := 692) (by decide +kernel)⟩
def lw_privs_1 : List (MethodName × Nat) := [(⟨"LeftTurns$Reader", "advance", "()V"⟩, 11), (⟨"LeftTurns$Reader", "isSmall", "(I)Z"⟩, 11), (⟨"LeftTurns$Reader", "isDigit", "(I)Z"⟩, 11), (⟨"LeftTurns$Reader", "fail", "(I)V"⟩, 11), (⟨"LeftTurns$Reader", "line", "()V"⟩, 11), (⟨"LeftTurns$Reader", "isWord", "(Ljava/lang/String;)Z"⟩, 11), (⟨"LeftTurns$Reader", "cityLine", "()V"⟩, 11), (⟨"LeftTurns$Reader", "bounded", "(II)I"⟩, 11), (⟨"LeftTurns$Reader", "wallLine", "()V"⟩, 11), (⟨"LeftTurns$Reader", "crossingTold", "()I"⟩, 11), (⟨"LeftTurns$Reader", "freeLine", "()V"⟩, 11), (⟨"LeftTurns$Reader", "personLine", "()V"⟩, 11), (⟨"LeftTurns$Reader", "heading", "()I"⟩, 11), (⟨"LeftTurns$Reader", "beginLaw", "(LLeftTurns$Law;)V"⟩, 11), (⟨"LeftTurns$Reader", "sign", "(C)V"⟩, 11), (⟨"LeftTurns$Reader", "sum", "(I)V"⟩, 11)]
theorem lw_r1 : ∀ q ∈ lw_privs_1, lw_okq q := List.forall_mem_cons.mpr ⟨lw_p0, List.forall_mem_cons.mpr ⟨lw_p1, List.forall_mem_cons.mpr ⟨lw_p2, List.forall_mem_cons.mpr ⟨lw_p3, List.forall_mem_cons.mpr ⟨lw_p4, List.forall_mem_cons.mpr ⟨lw_p5, List.forall_mem_cons.mpr ⟨lw_p6, List.forall_mem_cons.mpr ⟨lw_p7, List.forall_mem_cons.mpr ⟨lw_p8, List.forall_mem_cons.mpr ⟨lw_p9, List.forall_mem_cons.mpr ⟨lw_p10, List.forall_mem_cons.mpr ⟨lw_p11, List.forall_mem_cons.mpr ⟨lw_p12, List.forall_mem_cons.mpr ⟨lw_p13, List.forall_mem_cons.mpr ⟨lw_p14, List.forall_mem_cons.mpr ⟨lw_p15, fun _ h => absurd h List.not_mem_nil⟩⟩⟩⟩⟩⟩⟩⟩⟩⟩⟩⟩⟩⟩⟩⟩
theorem lw_p16 : lw_okq (⟨"LeftTurns$Reader", "term", "(I)V"⟩, 11) := ⟨⟨by decide +kernel, by decide +kernel⟩, List.mem_of_getElem? (i := 241) (by decide +kernel), List.mem_of_getElem? (i := 695) (by decide +kernel), List.mem_of_getElem? (i := 696) (by decide +kernel)⟩
theorem lw_p17 : lw_okq (⟨"LeftTurns$Reader", "atom", "(I)V"⟩, 11) := ⟨⟨by decide +kernel, by decide +kernel⟩, List.mem_of_getElem? (i := 241) (by decide +kernel), List.mem_of_getElem? (i := 699) (by decide +kernel), List.mem_of_getElem? (i := 700) (by decide +kernel)⟩
theorem lw_p18 : lw_okq (⟨"LeftTurns$Reader", "tooDeep", "(I)Z"⟩, 11) := ⟨⟨by decide +kernel, by decide +kernel⟩, List.mem_of_getElem? (i := 241) (by decide +kernel), List.mem_of_getElem? (i := 707) (by decide +kernel), List.mem_of_getElem? (i := 708) (by decide +kernel)⟩
theorem lw_p19 : lw_okq (⟨"LeftTurns$Reader", "truth", "(I)V"⟩, 11) := ⟨⟨by decide +kernel, by decide +kernel⟩, List.mem_of_getElem? (i := 241) (by decide +kernel), List.mem_of_getElem? (i := 718) (by decide +kernel), List.mem_of_getElem? (i := 719) (by decide +kernel)⟩
theorem lw_p20 : lw_okq (⟨"LeftTurns$Reader", "both", "(I)V"⟩, 11) := ⟨⟨by decide +kernel, by decide +kernel⟩, List.mem_of_getElem? (i := 241) (by decide +kernel), List.mem_of_getElem? (i := 722) (by decide +kernel), List.mem_of_getElem? (i := 723) (by decide +kernel)⟩
theorem lw_p21 : lw_okq (⟨"LeftTurns$Reader", "unit", "(I)V"⟩, 11) := ⟨⟨by decide +kernel, by decide +kernel⟩, List.mem_of_getElem? (i := 241) (by decide +kernel), List.mem_of_getElem? (i := 726) (by decide +kernel), List.mem_of_getElem? (i := 727) (by decide +kernel)⟩
theorem lw_p22 : lw_okq (⟨"LeftTurns", "startAnew", "()V"⟩, 19) := ⟨⟨by decide +kernel, by decide +kernel⟩, List.mem_of_getElem? (i := 24) (by decide +kernel), List.mem_of_getElem? (i := 750) (by decide +kernel), List.mem_of_getElem? (i := 751) (by decide +kernel)⟩
theorem lw_p23 : lw_okq (⟨"LeftTurns", "isPerson", "(I)Z"⟩, 19) := ⟨⟨by decide +kernel, by decide +kernel⟩, List.mem_of_getElem? (i := 24) (by decide +kernel), List.mem_of_getElem? (i := 778) (by decide +kernel), List.mem_of_getElem? (i := 779) (by decide +kernel)⟩
theorem lw_p24 : lw_okq (⟨"LeftTurns", "isStand", "(II)Z"⟩, 19) := ⟨⟨by decide +kernel, by decide +kernel⟩, List.mem_of_getElem? (i := 24) (by decide +kernel), List.mem_of_getElem? (i := 786) (by decide +kernel), List.mem_of_getElem? (i := 787) (by decide +kernel)⟩
theorem lw_p25 : lw_okq (⟨"LeftTurns", "isCrossing", "(I)Z"⟩, 19) := ⟨⟨by decide +kernel, by decide +kernel⟩, List.mem_of_getElem? (i := 24) (by decide +kernel), List.mem_of_getElem? (i := 790) (by decide +kernel), List.mem_of_getElem? (i := 791) (by decide +kernel)⟩
theorem lw_p26 : lw_okq (⟨"LeftTurns$City", "leftsTaken", "(II)I"⟩, 9) := ⟨⟨by decide +kernel, by decide +kernel⟩, List.mem_of_getElem? (i := 32) (by decide +kernel), List.mem_of_getElem? (i := 851) (by decide +kernel), List.mem_of_getElem? (i := 852) (by decide +kernel)⟩
theorem lw_p27 : lw_okq (⟨"LeftTurns", "keep", "(LLeftTurns$Folk;)V"⟩, 19) := ⟨⟨by decide +kernel, by decide +kernel⟩, List.mem_of_getElem? (i := 24) (by decide +kernel), List.mem_of_getElem? (i := 860) (by decide +kernel), List.mem_of_getElem? (i := 861) (by decide +kernel)⟩
theorem lw_p28 : lw_okq (⟨"LeftTurns", "goWalk", "(LLeftTurns$Tray;)I"⟩, 19) := ⟨⟨by decide +kernel, by decide +kernel⟩, List.mem_of_getElem? (i := 24) (by decide +kernel), List.mem_of_getElem? (i := 877) (by decide +kernel), List.mem_of_getElem? (i := 878) (by decide +kernel)⟩
theorem lw_p29 : lw_okq (⟨"LeftTurns", "liveOnce", "()Z"⟩, 19) := ⟨⟨by decide +kernel, by decide +kernel⟩, List.mem_of_getElem? (i := 24) (by decide +kernel), List.mem_of_getElem? (i := 929) (by decide +kernel), List.mem_of_getElem? (i := 930) (by decide +kernel)⟩
theorem lw_p30 : lw_okq (⟨"LeftTurns", "draw", "()I"⟩, 19) := ⟨⟨by decide +kernel, by decide +kernel⟩, List.mem_of_getElem? (i := 24) (by decide +kernel), List.mem_of_getElem? (i := 933) (by decide +kernel), List.mem_of_getElem? (i := 934) (by decide +kernel)⟩
theorem lw_p31 : lw_okq (⟨"LeftTurns$Spread", "begin", "(I)V"⟩, 7) := ⟨⟨by decide +kernel, by decide +kernel⟩, List.mem_of_getElem? (i := 185) (by decide +kernel), List.mem_of_getElem? (i := 955) (by decide +kernel), List.mem_of_getElem? (i := 956) (by decide +kernel)⟩
def lw_privs_2 : List (MethodName × Nat) := [(⟨"LeftTurns$Reader", "term", "(I)V"⟩, 11), (⟨"LeftTurns$Reader", "atom", "(I)V"⟩, 11), (⟨"LeftTurns$Reader", "tooDeep", "(I)Z"⟩, 11), (⟨"LeftTurns$Reader", "truth", "(I)V"⟩, 11), (⟨"LeftTurns$Reader", "both", "(I)V"⟩, 11), (⟨"LeftTurns$Reader", "unit", "(I)V"⟩, 11), (⟨"LeftTurns", "startAnew", "()V"⟩, 19), (⟨"LeftTurns", "isPerson", "(I)Z"⟩, 19), (⟨"LeftTurns", "isStand", "(II)Z"⟩, 19), (⟨"LeftTurns", "isCrossing", "(I)Z"⟩, 19), (⟨"LeftTurns$City", "leftsTaken", "(II)I"⟩, 9), (⟨"LeftTurns", "keep", "(LLeftTurns$Folk;)V"⟩, 19), (⟨"LeftTurns", "goWalk", "(LLeftTurns$Tray;)I"⟩, 19), (⟨"LeftTurns", "liveOnce", "()Z"⟩, 19), (⟨"LeftTurns", "draw", "()I"⟩, 19), (⟨"LeftTurns$Spread", "begin", "(I)V"⟩, 7)]
theorem lw_r2 : ∀ q ∈ lw_privs_2, lw_okq q := List.forall_mem_cons.mpr ⟨lw_p16, List.forall_mem_cons.mpr ⟨lw_p17, List.forall_mem_cons.mpr ⟨lw_p18, List.forall_mem_cons.mpr ⟨lw_p19, List.forall_mem_cons.mpr ⟨lw_p20, List.forall_mem_cons.mpr ⟨lw_p21, List.forall_mem_cons.mpr ⟨lw_p22, List.forall_mem_cons.mpr ⟨lw_p23, List.forall_mem_cons.mpr ⟨lw_p24, List.forall_mem_cons.mpr ⟨lw_p25, List.forall_mem_cons.mpr ⟨lw_p26, List.forall_mem_cons.mpr ⟨lw_p27, List.forall_mem_cons.mpr ⟨lw_p28, List.forall_mem_cons.mpr ⟨lw_p29, List.forall_mem_cons.mpr ⟨lw_p30, List.forall_mem_cons.mpr ⟨lw_p31, fun _ h => absurd h List.not_mem_nil⟩⟩⟩⟩⟩⟩⟩⟩⟩⟩⟩⟩⟩⟩⟩⟩
theorem lw_p32 : lw_okq (⟨"LeftTurns$Spread", "lowest", "(II)I"⟩, 7) := ⟨⟨by decide +kernel, by decide +kernel⟩, List.mem_of_getElem? (i := 185) (by decide +kernel), List.mem_of_getElem? (i := 959) (by decide +kernel), List.mem_of_getElem? (i := 960) (by decide +kernel)⟩
theorem lw_p33 : lw_okq (⟨"LeftTurns$Spread", "anyHeading", "(I)I"⟩, 7) := ⟨⟨by decide +kernel, by decide +kernel⟩, List.mem_of_getElem? (i := 185) (by decide +kernel), List.mem_of_getElem? (i := 963) (by decide +kernel), List.mem_of_getElem? (i := 964) (by decide +kernel)⟩
theorem lw_p34 : lw_okq (⟨"LeftTurns$Spread", "goOn", "(III)V"⟩, 7) := ⟨⟨by decide +kernel, by decide +kernel⟩, List.mem_of_getElem? (i := 185) (by decide +kernel), List.mem_of_getElem? (i := 967) (by decide +kernel), List.mem_of_getElem? (i := 968) (by decide +kernel)⟩
theorem lw_p35 : lw_okq (⟨"LeftTurns$Forecast", "beginUpTo", "(I)V"⟩, 5) := ⟨⟨by decide +kernel, by decide +kernel⟩, List.mem_of_getElem? (i := 163) (by decide +kernel), List.mem_of_getElem? (i := 975) (by decide +kernel), List.mem_of_getElem? (i := 976) (by decide +kernel)⟩
theorem lw_p36 : lw_okq (⟨"LeftTurns$Spread", "goByRights", "(I)V"⟩, 7) := ⟨⟨by decide +kernel, by decide +kernel⟩, List.mem_of_getElem? (i := 185) (by decide +kernel), List.mem_of_getElem? (i := 980) (by decide +kernel), List.mem_of_getElem? (i := 981) (by decide +kernel)⟩
theorem lw_p37 : lw_okq (⟨"LeftTurns$Spread", "goByLeft", "(IIIII)V"⟩, 7) := ⟨⟨by decide +kernel, by decide +kernel⟩, List.mem_of_getElem? (i := 185) (by decide +kernel), List.mem_of_getElem? (i := 988) (by decide +kernel), List.mem_of_getElem? (i := 989) (by decide +kernel)⟩
theorem lw_p38 : lw_okq (⟨"LeftTurns$Law", "asks", "(I)Z"⟩, 5) := ⟨⟨by decide +kernel, by decide +kernel⟩, List.mem_of_getElem? (i := 38) (by decide +kernel), List.mem_of_getElem? (i := 1002) (by decide +kernel), List.mem_of_getElem? (i := 1003) (by decide +kernel)⟩
theorem lw_p39 : lw_okq (⟨"LeftTurns$Spread", "change", "(I)V"⟩, 7) := ⟨⟨by decide +kernel, by decide +kernel⟩, List.mem_of_getElem? (i := 185) (by decide +kernel), List.mem_of_getElem? (i := 1012) (by decide +kernel), List.mem_of_getElem? (i := 1013) (by decide +kernel)⟩
theorem lw_p40 : lw_okq (⟨"LeftTurns$Spread", "thin", "()V"⟩, 7) := ⟨⟨by decide +kernel, by decide +kernel⟩, List.mem_of_getElem? (i := 185) (by decide +kernel), List.mem_of_getElem? (i := 1016) (by decide +kernel), List.mem_of_getElem? (i := 1017) (by decide +kernel)⟩
theorem lw_p41 : lw_okq (⟨"LeftTurns$Routes", "lookBack", "(III)V"⟩, 7) := ⟨⟨by decide +kernel, by decide +kernel⟩, List.mem_of_getElem? (i := 213) (by decide +kernel), List.mem_of_getElem? (i := 1034) (by decide +kernel), List.mem_of_getElem? (i := 1035) (by decide +kernel)⟩
theorem lw_p42 : lw_okq (⟨"LeftTurns$Routes", "comeFrom", "(IIII)V"⟩, 7) := ⟨⟨by decide +kernel, by decide +kernel⟩, List.mem_of_getElem? (i := 213) (by decide +kernel), List.mem_of_getElem? (i := 1042) (by decide +kernel), List.mem_of_getElem? (i := 1043) (by decide +kernel)⟩
theorem lw_p43 : lw_okq (⟨"LeftTurns$Routes", "thin", "(I)V"⟩, 7) := ⟨⟨by decide +kernel, by decide +kernel⟩, List.mem_of_getElem? (i := 213) (by decide +kernel), List.mem_of_getElem? (i := 1048) (by decide +kernel), List.mem_of_getElem? (i := 1049) (by decide +kernel)⟩
theorem lw_p44 : lw_okq (⟨"LeftTurns$Routes", "follow", "(III)V"⟩, 7) := ⟨⟨by decide +kernel, by decide +kernel⟩, List.mem_of_getElem? (i := 213) (by decide +kernel), List.mem_of_getElem? (i := 1052) (by decide +kernel), List.mem_of_getElem? (i := 1053) (by decide +kernel)⟩
theorem lw_p45 : lw_okq (⟨"LeftTurns$Routes", "comes", "(III)Z"⟩, 7) := ⟨⟨by decide +kernel, by decide +kernel⟩, List.mem_of_getElem? (i := 213) (by decide +kernel), List.mem_of_getElem? (i := 1067) (by decide +kernel), List.mem_of_getElem? (i := 1068) (by decide +kernel)⟩
theorem lw_p46 : lw_okq (⟨"LeftTurns$Tally", "addCoins", "(II)V"⟩, 5) := ⟨⟨by decide +kernel, by decide +kernel⟩, List.mem_of_getElem? (i := 319) (by decide +kernel), List.mem_of_getElem? (i := 1094) (by decide +kernel), List.mem_of_getElem? (i := 1095) (by decide +kernel)⟩
theorem lw_p47 : lw_okq (⟨"LeftTurns$Tally", "addWays", "(II)V"⟩, 5) := ⟨⟨by decide +kernel, by decide +kernel⟩, List.mem_of_getElem? (i := 319) (by decide +kernel), List.mem_of_getElem? (i := 1112) (by decide +kernel), List.mem_of_getElem? (i := 1113) (by decide +kernel)⟩
def lw_privs_3 : List (MethodName × Nat) := [(⟨"LeftTurns$Spread", "lowest", "(II)I"⟩, 7), (⟨"LeftTurns$Spread", "anyHeading", "(I)I"⟩, 7), (⟨"LeftTurns$Spread", "goOn", "(III)V"⟩, 7), (⟨"LeftTurns$Forecast", "beginUpTo", "(I)V"⟩, 5), (⟨"LeftTurns$Spread", "goByRights", "(I)V"⟩, 7), (⟨"LeftTurns$Spread", "goByLeft", "(IIIII)V"⟩, 7), (⟨"LeftTurns$Law", "asks", "(I)Z"⟩, 5), (⟨"LeftTurns$Spread", "change", "(I)V"⟩, 7), (⟨"LeftTurns$Spread", "thin", "()V"⟩, 7), (⟨"LeftTurns$Routes", "lookBack", "(III)V"⟩, 7), (⟨"LeftTurns$Routes", "comeFrom", "(IIII)V"⟩, 7), (⟨"LeftTurns$Routes", "thin", "(I)V"⟩, 7), (⟨"LeftTurns$Routes", "follow", "(III)V"⟩, 7), (⟨"LeftTurns$Routes", "comes", "(III)Z"⟩, 7), (⟨"LeftTurns$Tally", "addCoins", "(II)V"⟩, 5), (⟨"LeftTurns$Tally", "addWays", "(II)V"⟩, 5)]
theorem lw_r3 : ∀ q ∈ lw_privs_3, lw_okq q := List.forall_mem_cons.mpr ⟨lw_p32, List.forall_mem_cons.mpr ⟨lw_p33, List.forall_mem_cons.mpr ⟨lw_p34, List.forall_mem_cons.mpr ⟨lw_p35, List.forall_mem_cons.mpr ⟨lw_p36, List.forall_mem_cons.mpr ⟨lw_p37, List.forall_mem_cons.mpr ⟨lw_p38, List.forall_mem_cons.mpr ⟨lw_p39, List.forall_mem_cons.mpr ⟨lw_p40, List.forall_mem_cons.mpr ⟨lw_p41, List.forall_mem_cons.mpr ⟨lw_p42, List.forall_mem_cons.mpr ⟨lw_p43, List.forall_mem_cons.mpr ⟨lw_p44, List.forall_mem_cons.mpr ⟨lw_p45, List.forall_mem_cons.mpr ⟨lw_p46, List.forall_mem_cons.mpr ⟨lw_p47, fun _ h => absurd h List.not_mem_nil⟩⟩⟩⟩⟩⟩⟩⟩⟩⟩⟩⟩⟩⟩⟩⟩
theorem lw_p48 : lw_okq (⟨"LeftTurns$Tally", "addWaysBy", "(IIIII)V"⟩, 5) := ⟨⟨by decide +kernel, by decide +kernel⟩, List.mem_of_getElem? (i := 319) (by decide +kernel), List.mem_of_getElem? (i := 1116) (by decide +kernel), List.mem_of_getElem? (i := 1117) (by decide +kernel)⟩
theorem lw_p49 : lw_okq (⟨"LeftTurns$Spread", "survey", "(II)V"⟩, 7) := ⟨⟨by decide +kernel, by decide +kernel⟩, List.mem_of_getElem? (i := 185) (by decide +kernel), List.mem_of_getElem? (i := 1129) (by decide +kernel), List.mem_of_getElem? (i := 1130) (by decide +kernel)⟩
theorem lw_p50 : lw_okq (⟨"LeftTurns$Rounds", "tour", "(IIII)V"⟩, 10) := ⟨⟨by decide +kernel, by decide +kernel⟩, List.mem_of_getElem? (i := 282) (by decide +kernel), List.mem_of_getElem? (i := 1165) (by decide +kernel), List.mem_of_getElem? (i := 1166) (by decide +kernel)⟩
theorem lw_p51 : lw_okq (⟨"LeftTurns$Rounds", "compare", "(II)V"⟩, 10) := ⟨⟨by decide +kernel, by decide +kernel⟩, List.mem_of_getElem? (i := 282) (by decide +kernel), List.mem_of_getElem? (i := 1169) (by decide +kernel), List.mem_of_getElem? (i := 1170) (by decide +kernel)⟩
theorem lw_p52 : lw_okq (⟨"LeftTurns$Spread", "goLeaving", "(IIILLeftTurns$Tray;)V"⟩, 7) := ⟨⟨by decide +kernel, by decide +kernel⟩, List.mem_of_getElem? (i := 185) (by decide +kernel), List.mem_of_getElem? (i := 1227) (by decide +kernel), List.mem_of_getElem? (i := 1228) (by decide +kernel)⟩
theorem lw_p53 : lw_okq (⟨"LeftTurns$Hunt", "workOut", "(I)V"⟩, 5) := ⟨⟨by decide +kernel, by decide +kernel⟩, List.mem_of_getElem? (i := 346) (by decide +kernel), List.mem_of_getElem? (i := 1240) (by decide +kernel), List.mem_of_getElem? (i := 1241) (by decide +kernel)⟩
theorem lw_p54 : lw_okq (⟨"LeftTurns$Hunt", "watchGoes", "(II)I"⟩, 5) := ⟨⟨by decide +kernel, by decide +kernel⟩, List.mem_of_getElem? (i := 346) (by decide +kernel), List.mem_of_getElem? (i := 1245) (by decide +kernel), List.mem_of_getElem? (i := 1246) (by decide +kernel)⟩
theorem lw_p55 : lw_okq (⟨"LeftTurns$Hunt", "isLikeTheLast", "(I)Z"⟩, 5) := ⟨⟨by decide +kernel, by decide +kernel⟩, List.mem_of_getElem? (i := 346) (by decide +kernel), List.mem_of_getElem? (i := 1251) (by decide +kernel), List.mem_of_getElem? (i := 1252) (by decide +kernel)⟩
theorem lw_p56 : lw_okq (⟨"LeftTurnsModel", "next", "()V"⟩, 44) := ⟨⟨by decide +kernel, by decide +kernel⟩, List.mem_of_getElem? (i := 1306) (by decide +kernel), List.mem_of_getElem? (i := 1459) (by decide +kernel), List.mem_of_getElem? (i := 1460) (by decide +kernel)⟩
theorem lw_p57 : lw_okq (⟨"LeftTurnsModel", "see", "(I)I"⟩, 44) := ⟨⟨by decide +kernel, by decide +kernel⟩, List.mem_of_getElem? (i := 1306) (by decide +kernel), List.mem_of_getElem? (i := 1463) (by decide +kernel), List.mem_of_getElem? (i := 1464) (by decide +kernel)⟩
theorem lw_p58 : lw_okq (⟨"LeftTurnsModel", "keyAt", "()I"⟩, 44) := ⟨⟨by decide +kernel, by decide +kernel⟩, List.mem_of_getElem? (i := 1306) (by decide +kernel), List.mem_of_getElem? (i := 1470) (by decide +kernel), List.mem_of_getElem? (i := 1471) (by decide +kernel)⟩
theorem lw_p59 : lw_okq (⟨"LeftTurnsModel", "readLine", "()V"⟩, 44) := ⟨⟨by decide +kernel, by decide +kernel⟩, List.mem_of_getElem? (i := 1306) (by decide +kernel), List.mem_of_getElem? (i := 1481) (by decide +kernel), List.mem_of_getElem? (i := 1482) (by decide +kernel)⟩
theorem lw_p60 : lw_okq (⟨"LeftTurnsModel", "is", "(I)Z"⟩, 44) := ⟨⟨by decide +kernel, by decide +kernel⟩, List.mem_of_getElem? (i := 1306) (by decide +kernel), List.mem_of_getElem? (i := 1485) (by decide +kernel), List.mem_of_getElem? (i := 1486) (by decide +kernel)⟩
theorem lw_p61 : lw_okq (⟨"LeftTurnsModel", "readCity", "()V"⟩, 44) := ⟨⟨by decide +kernel, by decide +kernel⟩, List.mem_of_getElem? (i := 1306) (by decide +kernel), List.mem_of_getElem? (i := 1489) (by decide +kernel), List.mem_of_getElem? (i := 1490) (by decide +kernel)⟩
theorem lw_p62 : lw_okq (⟨"LeftTurnsModel", "takes", "(II)I"⟩, 44) := ⟨⟨by decide +kernel, by decide +kernel⟩, List.mem_of_getElem? (i := 1306) (by decide +kernel), List.mem_of_getElem? (i := 1493) (by decide +kernel), List.mem_of_getElem? (i := 1494) (by decide +kernel)⟩
theorem lw_p63 : lw_okq (⟨"LeftTurnsModel", "fails", "(I)V"⟩, 44) := ⟨⟨by decide +kernel, by decide +kernel⟩, List.mem_of_getElem? (i := 1306) (by decide +kernel), List.mem_of_getElem? (i := 1497) (by decide +kernel), List.mem_of_getElem? (i := 1498) (by decide +kernel)⟩
def lw_privs_4 : List (MethodName × Nat) := [(⟨"LeftTurns$Tally", "addWaysBy", "(IIIII)V"⟩, 5), (⟨"LeftTurns$Spread", "survey", "(II)V"⟩, 7), (⟨"LeftTurns$Rounds", "tour", "(IIII)V"⟩, 10), (⟨"LeftTurns$Rounds", "compare", "(II)V"⟩, 10), (⟨"LeftTurns$Spread", "goLeaving", "(IIILLeftTurns$Tray;)V"⟩, 7), (⟨"LeftTurns$Hunt", "workOut", "(I)V"⟩, 5), (⟨"LeftTurns$Hunt", "watchGoes", "(II)I"⟩, 5), (⟨"LeftTurns$Hunt", "isLikeTheLast", "(I)Z"⟩, 5), (⟨"LeftTurnsModel", "next", "()V"⟩, 44), (⟨"LeftTurnsModel", "see", "(I)I"⟩, 44), (⟨"LeftTurnsModel", "keyAt", "()I"⟩, 44), (⟨"LeftTurnsModel", "readLine", "()V"⟩, 44), (⟨"LeftTurnsModel", "is", "(I)Z"⟩, 44), (⟨"LeftTurnsModel", "readCity", "()V"⟩, 44), (⟨"LeftTurnsModel", "takes", "(II)I"⟩, 44), (⟨"LeftTurnsModel", "fails", "(I)V"⟩, 44)]
theorem lw_r4 : ∀ q ∈ lw_privs_4, lw_okq q := List.forall_mem_cons.mpr ⟨lw_p48, List.forall_mem_cons.mpr ⟨lw_p49, List.forall_mem_cons.mpr ⟨lw_p50, List.forall_mem_cons.mpr ⟨lw_p51, List.forall_mem_cons.mpr ⟨lw_p52, List.forall_mem_cons.mpr ⟨lw_p53, List.forall_mem_cons.mpr ⟨lw_p54, List.forall_mem_cons.mpr ⟨lw_p55, List.forall_mem_cons.mpr ⟨lw_p56, List.forall_mem_cons.mpr ⟨lw_p57, List.forall_mem_cons.mpr ⟨lw_p58, List.forall_mem_cons.mpr ⟨lw_p59, List.forall_mem_cons.mpr ⟨lw_p60, List.forall_mem_cons.mpr ⟨lw_p61, List.forall_mem_cons.mpr ⟨lw_p62, List.forall_mem_cons.mpr ⟨lw_p63, fun _ h => absurd h List.not_mem_nil⟩⟩⟩⟩⟩⟩⟩⟩⟩⟩⟩⟩⟩⟩⟩⟩
theorem lw_p64 : lw_okq (⟨"LeftTurnsModel", "readWall", "()V"⟩, 44) := ⟨⟨by decide +kernel, by decide +kernel⟩, List.mem_of_getElem? (i := 1306) (by decide +kernel), List.mem_of_getElem? (i := 1501) (by decide +kernel), List.mem_of_getElem? (i := 1502) (by decide +kernel)⟩
theorem lw_p65 : lw_okq (⟨"LeftTurnsModel", "takesCrossing", "()I"⟩, 44) := ⟨⟨by decide +kernel, by decide +kernel⟩, List.mem_of_getElem? (i := 1306) (by decide +kernel), List.mem_of_getElem? (i := 1505) (by decide +kernel), List.mem_of_getElem? (i := 1506) (by decide +kernel)⟩
theorem lw_p66 : lw_okq (⟨"LeftTurnsModel", "readPerson", "()V"⟩, 44) := ⟨⟨by decide +kernel, by decide +kernel⟩, List.mem_of_getElem? (i := 1306) (by decide +kernel), List.mem_of_getElem? (i := 1512) (by decide +kernel), List.mem_of_getElem? (i := 1513) (by decide +kernel)⟩
theorem lw_p67 : lw_okq (⟨"LeftTurnsModel", "eats", "(I)Z"⟩, 44) := ⟨⟨by decide +kernel, by decide +kernel⟩, List.mem_of_getElem? (i := 1306) (by decide +kernel), List.mem_of_getElem? (i := 1518) (by decide +kernel), List.mem_of_getElem? (i := 1519) (by decide +kernel)⟩
theorem lw_p68 : lw_okq (⟨"LeftTurnsModel", "readLaw", "(I)V"⟩, 44) := ⟨⟨by decide +kernel, by decide +kernel⟩, List.mem_of_getElem? (i := 1306) (by decide +kernel), List.mem_of_getElem? (i := 1522) (by decide +kernel), List.mem_of_getElem? (i := 1523) (by decide +kernel)⟩
theorem lw_p69 : lw_okq (⟨"LeftTurnsModel", "readSum", "(I)V"⟩, 44) := ⟨⟨by decide +kernel, by decide +kernel⟩, List.mem_of_getElem? (i := 1306) (by decide +kernel), List.mem_of_getElem? (i := 1526) (by decide +kernel), List.mem_of_getElem? (i := 1527) (by decide +kernel)⟩
theorem lw_p70 : lw_okq (⟨"LeftTurnsModel", "readTerm", "(I)V"⟩, 44) := ⟨⟨by decide +kernel, by decide +kernel⟩, List.mem_of_getElem? (i := 1306) (by decide +kernel), List.mem_of_getElem? (i := 1530) (by decide +kernel), List.mem_of_getElem? (i := 1531) (by decide +kernel)⟩
theorem lw_p71 : lw_okq (⟨"LeftTurnsModel", "readAtom", "(I)V"⟩, 44) := ⟨⟨by decide +kernel, by decide +kernel⟩, List.mem_of_getElem? (i := 1306) (by decide +kernel), List.mem_of_getElem? (i := 1534) (by decide +kernel), List.mem_of_getElem? (i := 1535) (by decide +kernel)⟩
theorem lw_p72 : lw_okq (⟨"LeftTurnsModel", "codes", "(I)V"⟩, 44) := ⟨⟨by decide +kernel, by decide +kernel⟩, List.mem_of_getElem? (i := 1306) (by decide +kernel), List.mem_of_getElem? (i := 1538) (by decide +kernel), List.mem_of_getElem? (i := 1539) (by decide +kernel)⟩
theorem lw_p73 : lw_okq (⟨"LeftTurnsModel", "goesIn", "(I)Z"⟩, 44) := ⟨⟨by decide +kernel, by decide +kernel⟩, List.mem_of_getElem? (i := 1306) (by decide +kernel), List.mem_of_getElem? (i := 1544) (by decide +kernel), List.mem_of_getElem? (i := 1545) (by decide +kernel)⟩
theorem lw_p74 : lw_okq (⟨"LeftTurnsModel", "readTruth", "(I)V"⟩, 44) := ⟨⟨by decide +kernel, by decide +kernel⟩, List.mem_of_getElem? (i := 1306) (by decide +kernel), List.mem_of_getElem? (i := 1548) (by decide +kernel), List.mem_of_getElem? (i := 1549) (by decide +kernel)⟩
theorem lw_p75 : lw_okq (⟨"LeftTurnsModel", "readBoth", "(I)V"⟩, 44) := ⟨⟨by decide +kernel, by decide +kernel⟩, List.mem_of_getElem? (i := 1306) (by decide +kernel), List.mem_of_getElem? (i := 1552) (by decide +kernel), List.mem_of_getElem? (i := 1553) (by decide +kernel)⟩
theorem lw_p76 : lw_okq (⟨"LeftTurnsModel", "readUnit", "(I)V"⟩, 44) := ⟨⟨by decide +kernel, by decide +kernel⟩, List.mem_of_getElem? (i := 1306) (by decide +kernel), List.mem_of_getElem? (i := 1556) (by decide +kernel), List.mem_of_getElem? (i := 1557) (by decide +kernel)⟩
theorem lw_p77 : lw_okq (⟨"LeftTurnsModel", "isPerson", "(J)Z"⟩, 44) := ⟨⟨by decide +kernel, by decide +kernel⟩, List.mem_of_getElem? (i := 1306) (by decide +kernel), List.mem_of_getElem? (i := 1568) (by decide +kernel), List.mem_of_getElem? (i := 1569) (by decide +kernel)⟩
theorem lw_p78 : lw_okq (⟨"LeftTurnsModel", "isCrossing", "(J)Z"⟩, 44) := ⟨⟨by decide +kernel, by decide +kernel⟩, List.mem_of_getElem? (i := 1306) (by decide +kernel), List.mem_of_getElem? (i := 1576) (by decide +kernel), List.mem_of_getElem? (i := 1577) (by decide +kernel)⟩
theorem lw_p79 : lw_okq (⟨"LeftTurnsModel", "crossings", "()I"⟩, 44) := ⟨⟨by decide +kernel, by decide +kernel⟩, List.mem_of_getElem? (i := 1306) (by decide +kernel), List.mem_of_getElem? (i := 1580) (by decide +kernel), List.mem_of_getElem? (i := 1581) (by decide +kernel)⟩
def lw_privs_5 : List (MethodName × Nat) := [(⟨"LeftTurnsModel", "readWall", "()V"⟩, 44), (⟨"LeftTurnsModel", "takesCrossing", "()I"⟩, 44), (⟨"LeftTurnsModel", "readPerson", "()V"⟩, 44), (⟨"LeftTurnsModel", "eats", "(I)Z"⟩, 44), (⟨"LeftTurnsModel", "readLaw", "(I)V"⟩, 44), (⟨"LeftTurnsModel", "readSum", "(I)V"⟩, 44), (⟨"LeftTurnsModel", "readTerm", "(I)V"⟩, 44), (⟨"LeftTurnsModel", "readAtom", "(I)V"⟩, 44), (⟨"LeftTurnsModel", "codes", "(I)V"⟩, 44), (⟨"LeftTurnsModel", "goesIn", "(I)Z"⟩, 44), (⟨"LeftTurnsModel", "readTruth", "(I)V"⟩, 44), (⟨"LeftTurnsModel", "readBoth", "(I)V"⟩, 44), (⟨"LeftTurnsModel", "readUnit", "(I)V"⟩, 44), (⟨"LeftTurnsModel", "isPerson", "(J)Z"⟩, 44), (⟨"LeftTurnsModel", "isCrossing", "(J)Z"⟩, 44), (⟨"LeftTurnsModel", "crossings", "()I"⟩, 44)]
theorem lw_r5 : ∀ q ∈ lw_privs_5, lw_okq q := List.forall_mem_cons.mpr ⟨lw_p64, List.forall_mem_cons.mpr ⟨lw_p65, List.forall_mem_cons.mpr ⟨lw_p66, List.forall_mem_cons.mpr ⟨lw_p67, List.forall_mem_cons.mpr ⟨lw_p68, List.forall_mem_cons.mpr ⟨lw_p69, List.forall_mem_cons.mpr ⟨lw_p70, List.forall_mem_cons.mpr ⟨lw_p71, List.forall_mem_cons.mpr ⟨lw_p72, List.forall_mem_cons.mpr ⟨lw_p73, List.forall_mem_cons.mpr ⟨lw_p74, List.forall_mem_cons.mpr ⟨lw_p75, List.forall_mem_cons.mpr ⟨lw_p76, List.forall_mem_cons.mpr ⟨lw_p77, List.forall_mem_cons.mpr ⟨lw_p78, List.forall_mem_cons.mpr ⟨lw_p79, fun _ h => absurd h List.not_mem_nil⟩⟩⟩⟩⟩⟩⟩⟩⟩⟩⟩⟩⟩⟩⟩⟩
theorem lw_p80 : lw_okq (⟨"LeftTurnsModel", "streetFrom", "(II)I"⟩, 44) := ⟨⟨by decide +kernel, by decide +kernel⟩, List.mem_of_getElem? (i := 1306) (by decide +kernel), List.mem_of_getElem? (i := 1588) (by decide +kernel), List.mem_of_getElem? (i := 1589) (by decide +kernel)⟩
theorem lw_p81 : lw_okq (⟨"LeftTurnsModel", "priceOf", "(III)I"⟩, 44) := ⟨⟨by decide +kernel, by decide +kernel⟩, List.mem_of_getElem? (i := 1306) (by decide +kernel), List.mem_of_getElem? (i := 1599) (by decide +kernel), List.mem_of_getElem? (i := 1600) (by decide +kernel)⟩
theorem lw_p82 : lw_okq (⟨"LeftTurnsModel", "reckons", "(IIII)I"⟩, 44) := ⟨⟨by decide +kernel, by decide +kernel⟩, List.mem_of_getElem? (i := 1306) (by decide +kernel), List.mem_of_getElem? (i := 1603) (by decide +kernel), List.mem_of_getElem? (i := 1604) (by decide +kernel)⟩
theorem lw_p83 : lw_okq (⟨"LeftTurnsModel", "wordOf", "(IIII)I"⟩, 44) := ⟨⟨by decide +kernel, by decide +kernel⟩, List.mem_of_getElem? (i := 1306) (by decide +kernel), List.mem_of_getElem? (i := 1607) (by decide +kernel), List.mem_of_getElem? (i := 1608) (by decide +kernel)⟩
theorem lw_p84 : lw_okq (⟨"LeftTurnsModel", "isFreeIn", "(II)Z"⟩, 44) := ⟨⟨by decide +kernel, by decide +kernel⟩, List.mem_of_getElem? (i := 1306) (by decide +kernel), List.mem_of_getElem? (i := 1616) (by decide +kernel), List.mem_of_getElem? (i := 1617) (by decide +kernel)⟩
theorem lw_p85 : lw_okq (⟨"LeftTurnsModel", "streetsFrom", "(I)I"⟩, 44) := ⟨⟨by decide +kernel, by decide +kernel⟩, List.mem_of_getElem? (i := 1306) (by decide +kernel), List.mem_of_getElem? (i := 1620) (by decide +kernel), List.mem_of_getElem? (i := 1621) (by decide +kernel)⟩
theorem lw_p86 : lw_okq (⟨"LeftTurnsModel", "whyNot", "(JJ)I"⟩, 44) := ⟨⟨by decide +kernel, by decide +kernel⟩, List.mem_of_getElem? (i := 1306) (by decide +kernel), List.mem_of_getElem? (i := 1633) (by decide +kernel), List.mem_of_getElem? (i := 1634) (by decide +kernel)⟩
theorem lw_p87 : lw_okq (⟨"LeftTurnsModel", "mayTurn", "(III)Z"⟩, 44) := ⟨⟨by decide +kernel, by decide +kernel⟩, List.mem_of_getElem? (i := 1306) (by decide +kernel), List.mem_of_getElem? (i := 1641) (by decide +kernel), List.mem_of_getElem? (i := 1642) (by decide +kernel)⟩
theorem lw_p88 : lw_okq (⟨"LeftTurnsModel", "keeps", "()V"⟩, 44) := ⟨⟨by decide +kernel, by decide +kernel⟩, List.mem_of_getElem? (i := 1306) (by decide +kernel), List.mem_of_getElem? (i := 1652) (by decide +kernel), List.mem_of_getElem? (i := 1653) (by decide +kernel)⟩
theorem lw_p89 : lw_okq (⟨"LeftTurnsModel", "goes", "(II)I"⟩, 44) := ⟨⟨by decide +kernel, by decide +kernel⟩, List.mem_of_getElem? (i := 1306) (by decide +kernel), List.mem_of_getElem? (i := 1656) (by decide +kernel), List.mem_of_getElem? (i := 1657) (by decide +kernel)⟩
theorem lw_p90 : lw_okq (⟨"LeftTurnsModel", "notes", "()V"⟩, 44) := ⟨⟨by decide +kernel, by decide +kernel⟩, List.mem_of_getElem? (i := 1306) (by decide +kernel), List.mem_of_getElem? (i := 1663) (by decide +kernel), List.mem_of_getElem? (i := 1664) (by decide +kernel)⟩
theorem lw_p91 : lw_okq (⟨"LeftTurnsModel", "noTray", "(I)I"⟩, 44) := ⟨⟨by decide +kernel, by decide +kernel⟩, List.mem_of_getElem? (i := 1306) (by decide +kernel), List.mem_of_getElem? (i := 1671) (by decide +kernel), List.mem_of_getElem? (i := 1672) (by decide +kernel)⟩
theorem lw_p92 : lw_okq (⟨"LeftTurnsModel", "tells", "(I)I"⟩, 44) := ⟨⟨by decide +kernel, by decide +kernel⟩, List.mem_of_getElem? (i := 1306) (by decide +kernel), List.mem_of_getElem? (i := 1675) (by decide +kernel), List.mem_of_getElem? (i := 1676) (by decide +kernel)⟩
theorem lw_p93 : lw_okq (⟨"LeftTurnsModel", "isAgain", "()V"⟩, 44) := ⟨⟨by decide +kernel, by decide +kernel⟩, List.mem_of_getElem? (i := 1306) (by decide +kernel), List.mem_of_getElem? (i := 1679) (by decide +kernel), List.mem_of_getElem? (i := 1680) (by decide +kernel)⟩
theorem lw_p94 : lw_okq (⟨"LeftTurnsModel", "boughtBy", "(II)I"⟩, 44) := ⟨⟨by decide +kernel, by decide +kernel⟩, List.mem_of_getElem? (i := 1306) (by decide +kernel), List.mem_of_getElem? (i := 1691) (by decide +kernel), List.mem_of_getElem? (i := 1692) (by decide +kernel)⟩
theorem lw_p95 : lw_okq (⟨"LeftTurnsModel", "buys", "(II)J"⟩, 44) := ⟨⟨by decide +kernel, by decide +kernel⟩, List.mem_of_getElem? (i := 1306) (by decide +kernel), List.mem_of_getElem? (i := 1695) (by decide +kernel), List.mem_of_getElem? (i := 1696) (by decide +kernel)⟩
def lw_privs_6 : List (MethodName × Nat) := [(⟨"LeftTurnsModel", "streetFrom", "(II)I"⟩, 44), (⟨"LeftTurnsModel", "priceOf", "(III)I"⟩, 44), (⟨"LeftTurnsModel", "reckons", "(IIII)I"⟩, 44), (⟨"LeftTurnsModel", "wordOf", "(IIII)I"⟩, 44), (⟨"LeftTurnsModel", "isFreeIn", "(II)Z"⟩, 44), (⟨"LeftTurnsModel", "streetsFrom", "(I)I"⟩, 44), (⟨"LeftTurnsModel", "whyNot", "(JJ)I"⟩, 44), (⟨"LeftTurnsModel", "mayTurn", "(III)Z"⟩, 44), (⟨"LeftTurnsModel", "keeps", "()V"⟩, 44), (⟨"LeftTurnsModel", "goes", "(II)I"⟩, 44), (⟨"LeftTurnsModel", "notes", "()V"⟩, 44), (⟨"LeftTurnsModel", "noTray", "(I)I"⟩, 44), (⟨"LeftTurnsModel", "tells", "(I)I"⟩, 44), (⟨"LeftTurnsModel", "isAgain", "()V"⟩, 44), (⟨"LeftTurnsModel", "boughtBy", "(II)I"⟩, 44), (⟨"LeftTurnsModel", "buys", "(II)J"⟩, 44)]
theorem lw_r6 : ∀ q ∈ lw_privs_6, lw_okq q := List.forall_mem_cons.mpr ⟨lw_p80, List.forall_mem_cons.mpr ⟨lw_p81, List.forall_mem_cons.mpr ⟨lw_p82, List.forall_mem_cons.mpr ⟨lw_p83, List.forall_mem_cons.mpr ⟨lw_p84, List.forall_mem_cons.mpr ⟨lw_p85, List.forall_mem_cons.mpr ⟨lw_p86, List.forall_mem_cons.mpr ⟨lw_p87, List.forall_mem_cons.mpr ⟨lw_p88, List.forall_mem_cons.mpr ⟨lw_p89, List.forall_mem_cons.mpr ⟨lw_p90, List.forall_mem_cons.mpr ⟨lw_p91, List.forall_mem_cons.mpr ⟨lw_p92, List.forall_mem_cons.mpr ⟨lw_p93, List.forall_mem_cons.mpr ⟨lw_p94, List.forall_mem_cons.mpr ⟨lw_p95, fun _ h => absurd h List.not_mem_nil⟩⟩⟩⟩⟩⟩⟩⟩⟩⟩⟩⟩⟩⟩⟩⟩
theorem lw_p96 : lw_okq (⟨"LeftTurnsModel", "freeMany", "()I"⟩, 44) := ⟨⟨by decide +kernel, by decide +kernel⟩, List.mem_of_getElem? (i := 1306) (by decide +kernel), List.mem_of_getElem? (i := 1712) (by decide +kernel), List.mem_of_getElem? (i := 1713) (by decide +kernel)⟩
theorem lw_p97 : lw_okq (⟨"LeftTurnsModel", "isDrawn", "()Z"⟩, 44) := ⟨⟨by decide +kernel, by decide +kernel⟩, List.mem_of_getElem? (i := 1306) (by decide +kernel), List.mem_of_getElem? (i := 1730) (by decide +kernel), List.mem_of_getElem? (i := 1731) (by decide +kernel)⟩
theorem lw_p98 : lw_okq (⟨"LeftTurnsModel", "draw", "(I)I"⟩, 44) := ⟨⟨by decide +kernel, by decide +kernel⟩, List.mem_of_getElem? (i := 1306) (by decide +kernel), List.mem_of_getElem? (i := 1734) (by decide +kernel), List.mem_of_getElem? (i := 1735) (by decide +kernel)⟩
theorem lw_p99 : lw_okq (⟨"LeftTurnsModel", "areThere", "(II)Z"⟩, 44) := ⟨⟨by decide +kernel, by decide +kernel⟩, List.mem_of_getElem? (i := 1306) (by decide +kernel), List.mem_of_getElem? (i := 1743) (by decide +kernel), List.mem_of_getElem? (i := 1744) (by decide +kernel)⟩
theorem lw_p100 : lw_okq (⟨"LeftTurnsModel", "wayOf", "(III)I"⟩, 44) := ⟨⟨by decide +kernel, by decide +kernel⟩, List.mem_of_getElem? (i := 1306) (by decide +kernel), List.mem_of_getElem? (i := 1748) (by decide +kernel), List.mem_of_getElem? (i := 1749) (by decide +kernel)⟩
theorem lw_p101 : lw_okq (⟨"LeftTurnsModel", "laysFor", "(IIZ)V"⟩, 44) := ⟨⟨by decide +kernel, by decide +kernel⟩, List.mem_of_getElem? (i := 1306) (by decide +kernel), List.mem_of_getElem? (i := 1752) (by decide +kernel), List.mem_of_getElem? (i := 1753) (by decide +kernel)⟩
theorem lw_p102 : lw_okq (⟨"LeftTurnsModel", "laysLaws", "(I)V"⟩, 44) := ⟨⟨by decide +kernel, by decide +kernel⟩, List.mem_of_getElem? (i := 1306) (by decide +kernel), List.mem_of_getElem? (i := 1756) (by decide +kernel), List.mem_of_getElem? (i := 1757) (by decide +kernel)⟩
theorem lw_p103 : lw_okq (⟨"LeftTurnsModel", "laysSofar", "(IIIZ)V"⟩, 44) := ⟨⟨by decide +kernel, by decide +kernel⟩, List.mem_of_getElem? (i := 1306) (by decide +kernel), List.mem_of_getElem? (i := 1760) (by decide +kernel), List.mem_of_getElem? (i := 1761) (by decide +kernel)⟩
theorem lw_p104 : lw_okq (⟨"LeftTurnsModel", "costOf", "(IIIIZ)I"⟩, 44) := ⟨⟨by decide +kernel, by decide +kernel⟩, List.mem_of_getElem? (i := 1306) (by decide +kernel), List.mem_of_getElem? (i := 1765) (by decide +kernel), List.mem_of_getElem? (i := 1766) (by decide +kernel)⟩
theorem lw_p105 : lw_okq (⟨"LeftTurnsModel", "soonestBy", "(II)I"⟩, 44) := ⟨⟨by decide +kernel, by decide +kernel⟩, List.mem_of_getElem? (i := 1306) (by decide +kernel), List.mem_of_getElem? (i := 1769) (by decide +kernel), List.mem_of_getElem? (i := 1770) (by decide +kernel)⟩
theorem lw_p106 : lw_okq (⟨"LeftTurnsModel", "leastAt", "(II)I"⟩, 44) := ⟨⟨by decide +kernel, by decide +kernel⟩, List.mem_of_getElem? (i := 1306) (by decide +kernel), List.mem_of_getElem? (i := 1773) (by decide +kernel), List.mem_of_getElem? (i := 1774) (by decide +kernel)⟩
theorem lw_p107 : lw_okq (⟨"LeftTurnsModel", "laysWay", "(III)I"⟩, 44) := ⟨⟨by decide +kernel, by decide +kernel⟩, List.mem_of_getElem? (i := 1306) (by decide +kernel), List.mem_of_getElem? (i := 1781) (by decide +kernel), List.mem_of_getElem? (i := 1782) (by decide +kernel)⟩
theorem lw_p108 : lw_okq (⟨"LeftTurnsModel", "laysTurns", "(IIIII)V"⟩, 44) := ⟨⟨by decide +kernel, by decide +kernel⟩, List.mem_of_getElem? (i := 1306) (by decide +kernel), List.mem_of_getElem? (i := 1785) (by decide +kernel), List.mem_of_getElem? (i := 1786) (by decide +kernel)⟩
theorem lw_p109 : lw_okq (⟨"LeftTurnsModel", "laysStill", "(II)V"⟩, 44) := ⟨⟨by decide +kernel, by decide +kernel⟩, List.mem_of_getElem? (i := 1306) (by decide +kernel), List.mem_of_getElem? (i := 1789) (by decide +kernel), List.mem_of_getElem? (i := 1790) (by decide +kernel)⟩
theorem lw_p110 : lw_okq (⟨"LeftTurnsModel", "stillBy", "(II)I"⟩, 44) := ⟨⟨by decide +kernel, by decide +kernel⟩, List.mem_of_getElem? (i := 1306) (by decide +kernel), List.mem_of_getElem? (i := 1793) (by decide +kernel), List.mem_of_getElem? (i := 1794) (by decide +kernel)⟩
theorem lw_p111 : lw_okq (⟨"LeftTurnsModel", "leastWithin", "(II)I"⟩, 44) := ⟨⟨by decide +kernel, by decide +kernel⟩, List.mem_of_getElem? (i := 1306) (by decide +kernel), List.mem_of_getElem? (i := 1801) (by decide +kernel), List.mem_of_getElem? (i := 1802) (by decide +kernel)⟩
def lw_privs_7 : List (MethodName × Nat) := [(⟨"LeftTurnsModel", "freeMany", "()I"⟩, 44), (⟨"LeftTurnsModel", "isDrawn", "()Z"⟩, 44), (⟨"LeftTurnsModel", "draw", "(I)I"⟩, 44), (⟨"LeftTurnsModel", "areThere", "(II)Z"⟩, 44), (⟨"LeftTurnsModel", "wayOf", "(III)I"⟩, 44), (⟨"LeftTurnsModel", "laysFor", "(IIZ)V"⟩, 44), (⟨"LeftTurnsModel", "laysLaws", "(I)V"⟩, 44), (⟨"LeftTurnsModel", "laysSofar", "(IIIZ)V"⟩, 44), (⟨"LeftTurnsModel", "costOf", "(IIIIZ)I"⟩, 44), (⟨"LeftTurnsModel", "soonestBy", "(II)I"⟩, 44), (⟨"LeftTurnsModel", "leastAt", "(II)I"⟩, 44), (⟨"LeftTurnsModel", "laysWay", "(III)I"⟩, 44), (⟨"LeftTurnsModel", "laysTurns", "(IIIII)V"⟩, 44), (⟨"LeftTurnsModel", "laysStill", "(II)V"⟩, 44), (⟨"LeftTurnsModel", "stillBy", "(II)I"⟩, 44), (⟨"LeftTurnsModel", "leastWithin", "(II)I"⟩, 44)]
theorem lw_r7 : ∀ q ∈ lw_privs_7, lw_okq q := List.forall_mem_cons.mpr ⟨lw_p96, List.forall_mem_cons.mpr ⟨lw_p97, List.forall_mem_cons.mpr ⟨lw_p98, List.forall_mem_cons.mpr ⟨lw_p99, List.forall_mem_cons.mpr ⟨lw_p100, List.forall_mem_cons.mpr ⟨lw_p101, List.forall_mem_cons.mpr ⟨lw_p102, List.forall_mem_cons.mpr ⟨lw_p103, List.forall_mem_cons.mpr ⟨lw_p104, List.forall_mem_cons.mpr ⟨lw_p105, List.forall_mem_cons.mpr ⟨lw_p106, List.forall_mem_cons.mpr ⟨lw_p107, List.forall_mem_cons.mpr ⟨lw_p108, List.forall_mem_cons.mpr ⟨lw_p109, List.forall_mem_cons.mpr ⟨lw_p110, List.forall_mem_cons.mpr ⟨lw_p111, fun _ h => absurd h List.not_mem_nil⟩⟩⟩⟩⟩⟩⟩⟩⟩⟩⟩⟩⟩⟩⟩⟩
theorem lw_p112 : lw_okq (⟨"LeftTurnsModel", "countsOn", "(III)V"⟩, 44) := ⟨⟨by decide +kernel, by decide +kernel⟩, List.mem_of_getElem? (i := 1306) (by decide +kernel), List.mem_of_getElem? (i := 1819) (by decide +kernel), List.mem_of_getElem? (i := 1820) (by decide +kernel)⟩
theorem lw_p113 : lw_okq (⟨"LeftTurnsModel", "goesRound", "(IIIIII)V"⟩, 44) := ⟨⟨by decide +kernel, by decide +kernel⟩, List.mem_of_getElem? (i := 1306) (by decide +kernel), List.mem_of_getElem? (i := 1841) (by decide +kernel), List.mem_of_getElem? (i := 1842) (by decide +kernel)⟩
theorem lw_p114 : lw_okq (⟨"LeftTurnsModel", "leg", "(III)I"⟩, 44) := ⟨⟨by decide +kernel, by decide +kernel⟩, List.mem_of_getElem? (i := 1306) (by decide +kernel), List.mem_of_getElem? (i := 1845) (by decide +kernel), List.mem_of_getElem? (i := 1846) (by decide +kernel)⟩
theorem lw_p115 : lw_okq (⟨"LeftTurnsModel", "freesBy", "(IIIIII)I"⟩, 44) := ⟨⟨by decide +kernel, by decide +kernel⟩, List.mem_of_getElem? (i := 1306) (by decide +kernel), List.mem_of_getElem? (i := 1853) (by decide +kernel), List.mem_of_getElem? (i := 1854) (by decide +kernel)⟩
theorem lw_p116 : lw_okq (⟨"LeftTurnsModel", "comesFree", "(IIII)Z"⟩, 44) := ⟨⟨by decide +kernel, by decide +kernel⟩, List.mem_of_getElem? (i := 1306) (by decide +kernel), List.mem_of_getElem? (i := 1857) (by decide +kernel), List.mem_of_getElem? (i := 1858) (by decide +kernel)⟩
theorem lw_p117 : lw_okq (⟨"LeftTurnsModel", "findsOn", "(III)V"⟩, 44) := ⟨⟨by decide +kernel, by decide +kernel⟩, List.mem_of_getElem? (i := 1306) (by decide +kernel), List.mem_of_getElem? (i := 1882) (by decide +kernel), List.mem_of_getElem? (i := 1883) (by decide +kernel)⟩
theorem lw_p118 : lw_okq (⟨"LeftTurnsModel", "lie", "(IIII)Z"⟩, 44) := ⟨⟨by decide +kernel, by decide +kernel⟩, List.mem_of_getElem? (i := 1306) (by decide +kernel), List.mem_of_getElem? (i := 1886) (by decide +kernel), List.mem_of_getElem? (i := 1887) (by decide +kernel)⟩
theorem lw_p119 : lw_okq (⟨"LeftTurnsModel", "laysCatches", "(I)V"⟩, 44) := ⟨⟨by decide +kernel, by decide +kernel⟩, List.mem_of_getElem? (i := 1306) (by decide +kernel), List.mem_of_getElem? (i := 1894) (by decide +kernel), List.mem_of_getElem? (i := 1895) (by decide +kernel)⟩
theorem lw_p120 : lw_okq (⟨"LeftTurnsModel", "isSure", "(III)Z"⟩, 44) := ⟨⟨by decide +kernel, by decide +kernel⟩, List.mem_of_getElem? (i := 1306) (by decide +kernel), List.mem_of_getElem? (i := 1898) (by decide +kernel), List.mem_of_getElem? (i := 1899) (by decide +kernel)⟩
theorem lw_p121 : lw_okq (⟨"LeftTurnsModel", "goesOn", "(II)I"⟩, 44) := ⟨⟨by decide +kernel, by decide +kernel⟩, List.mem_of_getElem? (i := 1306) (by decide +kernel), List.mem_of_getElem? (i := 1902) (by decide +kernel), List.mem_of_getElem? (i := 1903) (by decide +kernel)⟩
theorem lw_p122 : lw_okq (⟨"LeftTurnsModel", "soldMany", "()I"⟩, 44) := ⟨⟨by decide +kernel, by decide +kernel⟩, List.mem_of_getElem? (i := 1306) (by decide +kernel), List.mem_of_getElem? (i := 1938) (by decide +kernel), List.mem_of_getElem? (i := 1939) (by decide +kernel)⟩
theorem lw_p123 : lw_okq (⟨"LeftTurnsModel", "allLefts", "()I"⟩, 44) := ⟨⟨by decide +kernel, by decide +kernel⟩, List.mem_of_getElem? (i := 1306) (by decide +kernel), List.mem_of_getElem? (i := 1942) (by decide +kernel), List.mem_of_getElem? (i := 1943) (by decide +kernel)⟩
def lw_privs_8 : List (MethodName × Nat) := [(⟨"LeftTurnsModel", "countsOn", "(III)V"⟩, 44), (⟨"LeftTurnsModel", "goesRound", "(IIIIII)V"⟩, 44), (⟨"LeftTurnsModel", "leg", "(III)I"⟩, 44), (⟨"LeftTurnsModel", "freesBy", "(IIIIII)I"⟩, 44), (⟨"LeftTurnsModel", "comesFree", "(IIII)Z"⟩, 44), (⟨"LeftTurnsModel", "findsOn", "(III)V"⟩, 44), (⟨"LeftTurnsModel", "lie", "(IIII)Z"⟩, 44), (⟨"LeftTurnsModel", "laysCatches", "(I)V"⟩, 44), (⟨"LeftTurnsModel", "isSure", "(III)Z"⟩, 44), (⟨"LeftTurnsModel", "goesOn", "(II)I"⟩, 44), (⟨"LeftTurnsModel", "soldMany", "()I"⟩, 44), (⟨"LeftTurnsModel", "allLefts", "()I"⟩, 44)]
theorem lw_r8 : ∀ q ∈ lw_privs_8, lw_okq q := List.forall_mem_cons.mpr ⟨lw_p112, List.forall_mem_cons.mpr ⟨lw_p113, List.forall_mem_cons.mpr ⟨lw_p114, List.forall_mem_cons.mpr ⟨lw_p115, List.forall_mem_cons.mpr ⟨lw_p116, List.forall_mem_cons.mpr ⟨lw_p117, List.forall_mem_cons.mpr ⟨lw_p118, List.forall_mem_cons.mpr ⟨lw_p119, List.forall_mem_cons.mpr ⟨lw_p120, List.forall_mem_cons.mpr ⟨lw_p121, List.forall_mem_cons.mpr ⟨lw_p122, List.forall_mem_cons.mpr ⟨lw_p123, fun _ h => absurd h List.not_mem_nil⟩⟩⟩⟩⟩⟩⟩⟩⟩⟩⟩⟩
def lw_privs : List (MethodName × Nat) := lw_privs_1 ++ (lw_privs_2 ++ (lw_privs_3 ++ (lw_privs_4 ++ (lw_privs_5 ++ (lw_privs_6 ++ (lw_privs_7 ++ (lw_privs_8)))))))
def lw_tbl : List Cond := k2_sels lw_privs ++ tables_1
theorem lw_privs_ok : ∀ q ∈ lw_privs, lw_okq q := by
  show ∀ q ∈ lw_privs_1 ++ (lw_privs_2 ++ (lw_privs_3 ++ (lw_privs_4 ++ (lw_privs_5 ++ (lw_privs_6 ++ (lw_privs_7 ++ (lw_privs_8))))))), lw_okq q
  exact List.forall_mem_append.mpr ⟨lw_r1, List.forall_mem_append.mpr ⟨lw_r2, List.forall_mem_append.mpr ⟨lw_r3, List.forall_mem_append.mpr ⟨lw_r4, List.forall_mem_append.mpr ⟨lw_r5, List.forall_mem_append.mpr ⟨lw_r6, List.forall_mem_append.mpr ⟨lw_r7, lw_r8⟩⟩⟩⟩⟩⟩⟩
end
section
def RX0 : String := "LeftTurns$City"
def TX0 : u_T := fun k => match k with
  | 0 => ("LeftTurns$City", "priceLaw", "LLeftTurns$Law;", true)
  | 1 => ("LeftTurns$City", "mayLaw", "LLeftTurns$Law;", true)
  | 2 => ("LeftTurns$City", "folk", "LLeftTurns$Folk;", true)
  | 3 => ("LeftTurns$City", "streets", "[I", true)
  | 4 => ("LeftTurns$City", "strides", "[I", true)
  | 5 => ("LeftTurns$City", "wide", "I", false)
  | 6 => ("LeftTurns$City", "high", "I", false)
  | 7 => ("LeftTurns$City", "lines", "I", false)
  | _ => ("LeftTurns$City", "toldFree", "I", false)
def tyX0 : Nat → FieldType := fun k => match k with
  | 0 => .object "LeftTurns$Law"
  | 1 => .object "LeftTurns$Law"
  | 2 => .object "LeftTurns$Folk"
  | 3 => .array .int
  | 4 => .array .int
  | 5 => .int
  | 6 => .int
  | 7 => .int
  | _ => .int
abbrev wsX00 : List Cond := u_ws RX0 TX0 9
theorem nmX0 : ∀ a, a < 9 → ∀ b, b < 9 → a ≠ b → (TX0 a).2.1 ≠ (TX0 b).2.1 := by decide +kernel
theorem tyX0_ok : ∀ k, k < 9 → parseFieldDescriptor (TX0 k).2.2.1 = some (tyX0 k) := by decide +kernel
abbrev cX0_init : ByteArray := prog_2_method_1_code
def yX0_init : MethodName := ⟨RX0, "<init>", "()V"⟩
abbrev cX0_clear : ByteArray := prog_2_method_2_code
def yX0_clear : MethodName := ⟨RX0, "clear", "()V"⟩
abbrev cX0_copy : ByteArray := prog_2_method_3_code
def yX0_copy : MethodName := ⟨RX0, "copy", "(LLeftTurns$City;)V"⟩
abbrev cX0_lay : ByteArray := prog_2_method_4_code
def yX0_lay : MethodName := ⟨RX0, "lay", "(II)V"⟩
abbrev cX0_block : ByteArray := prog_2_method_5_code
def yX0_block : MethodName := ⟨RX0, "block", "(II)V"⟩
abbrev cX0_makeToldFree : ByteArray := prog_2_method_6_code
def yX0_makeToldFree : MethodName := ⟨RX0, "makeToldFree", "(I)V"⟩
abbrev cX0_crossings : ByteArray := prog_2_method_7_code
def yX0_crossings : MethodName := ⟨RX0, "crossings", "()I"⟩
abbrev cX0_to : ByteArray := prog_2_method_8_code
def yX0_to : MethodName := ⟨RX0, "to", "(II)I"⟩
abbrev cX0_standAfter : ByteArray := prog_2_method_9_code
def yX0_standAfter : MethodName := ⟨RX0, "standAfter", "(II)I"⟩
abbrev cX0_streetsFrom : ByteArray := prog_2_method_10_code
def yX0_streetsFrom : MethodName := ⟨RX0, "streetsFrom", "(I)I"⟩
abbrev cX0_moved : ByteArray := prog_2_method_11_code
def yX0_moved : MethodName := ⟨RX0, "moved", "(II)I"⟩
abbrev cX0_movedBack : ByteArray := prog_2_method_12_code
def yX0_movedBack : MethodName := ⟨RX0, "movedBack", "(II)I"⟩
abbrev cX0_cost : ByteArray := prog_2_method_13_code
def yX0_cost : MethodName := ⟨RX0, "cost", "(IIII)I"⟩
abbrev cX0_costTo : ByteArray := prog_2_method_14_code
def yX0_costTo : MethodName := ⟨RX0, "costTo", "(II)I"⟩
abbrev cX0_allows : ByteArray := prog_2_method_15_code
def yX0_allows : MethodName := ⟨RX0, "allows", "(III)Z"⟩
abbrev cX0_freeBits : ByteArray := prog_2_method_16_code
def yX0_freeBits : MethodName := ⟨RX0, "freeBits", "(I)I"⟩
abbrev cX0_leftsTaken : ByteArray := prog_2_method_17_code
def yX0_leftsTaken : MethodName := ⟨RX0, "leftsTaken", "(II)I"⟩
abbrev cX0_hindrance : ByteArray := prog_2_method_18_code
def yX0_hindrance : MethodName := ⟨RX0, "hindrance", "(II)I"⟩
abbrev cX0_step : ByteArray := prog_2_method_19_code
def yX0_step : MethodName := ⟨RX0, "step", "(II)I"⟩
abbrev cX0_buysOne : ByteArray := prog_2_method_20_code
def yX0_buysOne : MethodName := ⟨RX0, "buysOne", "(I)Z"⟩
def RX1 : String := "LeftTurns$Folk"
def TX1 : u_T := fun k => match k with
  | 0 => ("LeftTurns$Folk", "at", "[I", true)
  | 1 => ("LeftTurns$Folk", "heads", "[I", true)
  | 2 => ("LeftTurns$Folk", "lefts", "[I", true)
  | 3 => ("LeftTurns$Folk", "coins", "[I", true)
  | 4 => ("LeftTurns$Folk", "used", "[I", true)
  | 5 => ("LeftTurns$Folk", "sold", "[I", true)
  | 6 => ("LeftTurns$Folk", "fogEnds", "[I", true)
  | 7 => ("LeftTurns$Folk", "people", "I", false)
  | _ => ("LeftTurns$Folk", "hours", "I", false)
def tyX1 : Nat → FieldType := fun k => match k with
  | 0 => .array .int
  | 1 => .array .int
  | 2 => .array .int
  | 3 => .array .int
  | 4 => .array .int
  | 5 => .array .int
  | 6 => .array .int
  | 7 => .int
  | _ => .int
abbrev wsX10 : List Cond := u_ws RX1 TX1 9
theorem nmX1 : ∀ a, a < 9 → ∀ b, b < 9 → a ≠ b → (TX1 a).2.1 ≠ (TX1 b).2.1 := by decide +kernel
theorem tyX1_ok : ∀ k, k < 9 → parseFieldDescriptor (TX1 k).2.2.1 = some (tyX1 k) := by decide +kernel
abbrev cX1_init : ByteArray := prog_3_method_1_code
def yX1_init : MethodName := ⟨RX1, "<init>", "()V"⟩
abbrev cX1_clear : ByteArray := prog_3_method_2_code
def yX1_clear : MethodName := ⟨RX1, "clear", "()V"⟩
abbrev cX1_copy : ByteArray := prog_3_method_3_code
def yX1_copy : MethodName := ⟨RX1, "copy", "(LLeftTurns$Folk;)V"⟩
abbrev cX1_settle : ByteArray := prog_3_method_4_code
def yX1_settle : MethodName := ⟨RX1, "settle", "(IIII)V"⟩
abbrev cX1_stand : ByteArray := prog_3_method_5_code
def yX1_stand : MethodName := ⟨RX1, "stand", "(I)I"⟩
abbrev cX1_allSold : ByteArray := prog_3_method_6_code
def yX1_allSold : MethodName := ⟨RX1, "allSold", "()I"⟩
abbrev cX1_allLefts : ByteArray := prog_3_method_7_code
def yX1_allLefts : MethodName := ⟨RX1, "allLefts", "()I"⟩
def RX2 : String := "LeftTurns$Forecast"
def TX2 : u_T := fun k => match k with
  | 0 => ("LeftTurns$Forecast", "city", "LLeftTurns$City;", true)
  | 1 => ("LeftTurns$Forecast", "free", "[I", true)
  | 2 => ("LeftTurns$Forecast", "asked", "[I", true)
  | 3 => ("LeftTurns$Forecast", "allowed", "[I", true)
  | _ => ("LeftTurns$Forecast", "begun", "I", false)
def tyX2 : Nat → FieldType := fun k => match k with
  | 0 => .object "LeftTurns$City"
  | 1 => .array .int
  | 2 => .array .int
  | 3 => .array .int
  | _ => .int
abbrev wsX20 : List Cond := u_ws RX2 TX2 5
theorem nmX2 : ∀ a, a < 5 → ∀ b, b < 5 → a ≠ b → (TX2 a).2.1 ≠ (TX2 b).2.1 := by decide +kernel
theorem tyX2_ok : ∀ k, k < 5 → parseFieldDescriptor (TX2 k).2.2.1 = some (tyX2 k) := by decide +kernel
abbrev cX2_init : ByteArray := prog_4_method_1_code
def yX2_init : MethodName := ⟨RX2, "<init>", "(LLeftTurns$City;)V"⟩
abbrev cX2_forget : ByteArray := prog_4_method_2_code
def yX2_forget : MethodName := ⟨RX2, "forget", "()V"⟩
abbrev cX2_beginUpTo : ByteArray := prog_4_method_3_code
def yX2_beginUpTo : MethodName := ⟨RX2, "beginUpTo", "(I)V"⟩
abbrev cX2_freeAt : ByteArray := prog_4_method_4_code
def yX2_freeAt : MethodName := ⟨RX2, "freeAt", "(I)I"⟩
abbrev cX2_allowing : ByteArray := prog_4_method_5_code
def yX2_allowing : MethodName := ⟨RX2, "allowing", "(III)I"⟩
abbrev cX2_lefts : ByteArray := prog_4_method_6_code
def yX2_lefts : MethodName := ⟨RX2, "lefts", "(III)I"⟩
def RX3 : String := "LeftTurns$Hunt"
def TX3 : u_T := fun k => match k with
  | 0 => ("LeftTurns$Hunt", "city", "LLeftTurns$City;", true)
  | 1 => ("LeftTurns$Hunt", "catching", "[I", true)
  | 2 => ("LeftTurns$Hunt", "inTurn", "[I", true)
  | 3 => ("LeftTurns$Hunt", "known", "I", false)
  | _ => ("LeftTurns$Hunt", "settled", "Z", false)
def tyX3 : Nat → FieldType := fun k => match k with
  | 0 => .object "LeftTurns$City"
  | 1 => .array .int
  | 2 => .array .int
  | 3 => .int
  | _ => .boolean
abbrev wsX30 : List Cond := u_ws RX3 TX3 5
theorem nmX3 : ∀ a, a < 5 → ∀ b, b < 5 → a ≠ b → (TX3 a).2.1 ≠ (TX3 b).2.1 := by decide +kernel
theorem tyX3_ok : ∀ k, k < 5 → parseFieldDescriptor (TX3 k).2.2.1 = some (tyX3 k) := by decide +kernel
abbrev cX3_init : ByteArray := prog_5_method_1_code
def yX3_init : MethodName := ⟨RX3, "<init>", "(LLeftTurns$City;)V"⟩
abbrev cX3_forget : ByteArray := prog_5_method_2_code
def yX3_forget : MethodName := ⟨RX3, "forget", "()V"⟩
abbrev cX3_catching : ByteArray := prog_5_method_3_code
def yX3_catching : MethodName := ⟨RX3, "catching", "(III)I"⟩
abbrev cX3_isLikeTheLast : ByteArray := prog_5_method_4_code
def yX3_isLikeTheLast : MethodName := ⟨RX3, "isLikeTheLast", "(I)Z"⟩
abbrev cX3_workOut : ByteArray := prog_5_method_5_code
def yX3_workOut : MethodName := ⟨RX3, "workOut", "(I)V"⟩
abbrev cX3_watchGoes : ByteArray := prog_5_method_6_code
def yX3_watchGoes : MethodName := ⟨RX3, "watchGoes", "(II)I"⟩
def RX4 : String := "LeftTurns$Law"
def TX4 : u_T := fun k => match k with
  | 0 => ("LeftTurns$Law", "code", "[I", true)
  | 1 => ("LeftTurns$Law", "stack", "[I", true)
  | 2 => ("LeftTurns$Law", "names", "[I", true)
  | 3 => ("LeftTurns$Law", "size", "I", false)
  | _ => ("LeftTurns$Law", "named", "I", false)
def tyX4 : Nat → FieldType := fun k => match k with
  | 0 => .array .int
  | 1 => .array .int
  | 2 => .array .int
  | 3 => .int
  | _ => .int
abbrev wsX40 : List Cond := u_ws RX4 TX4 5
theorem nmX4 : ∀ a, a < 5 → ∀ b, b < 5 → a ≠ b → (TX4 a).2.1 ≠ (TX4 b).2.1 := by decide +kernel
theorem tyX4_ok : ∀ k, k < 5 → parseFieldDescriptor (TX4 k).2.2.1 = some (tyX4 k) := by decide +kernel
abbrev cX4_init : ByteArray := prog_6_method_1_code
def yX4_init : MethodName := ⟨RX4, "<init>", "()V"⟩
abbrev cX4_clear : ByteArray := prog_6_method_2_code
def yX4_clear : MethodName := ⟨RX4, "clear", "()V"⟩
abbrev cX4_isTold : ByteArray := prog_6_method_3_code
def yX4_isTold : MethodName := ⟨RX4, "isTold", "()Z"⟩
abbrev cX4_add : ByteArray := prog_6_method_4_code
def yX4_add : MethodName := ⟨RX4, "add", "(I)V"⟩
abbrev cX4_asks : ByteArray := prog_6_method_5_code
def yX4_asks : MethodName := ⟨RX4, "asks", "(I)Z"⟩
abbrev cX4_firstLike : ByteArray := prog_6_method_6_code
def yX4_firstLike : MethodName := ⟨RX4, "firstLike", "(I)I"⟩
abbrev cX4_firstHeadLike : ByteArray := prog_6_method_7_code
def yX4_firstHeadLike : MethodName := ⟨RX4, "firstHeadLike", "(I)I"⟩
abbrev cX4_copy : ByteArray := prog_6_method_8_code
def yX4_copy : MethodName := ⟨RX4, "copy", "(LLeftTurns$Law;)V"⟩
abbrev cX4_value : ByteArray := prog_6_method_9_code
def yX4_value : MethodName := ⟨RX4, "value", "(IIIII)I"⟩
def RX5 : String := "LeftTurns$Reader"
def TX5 : u_T := fun k => match k with
  | 0 => ("LeftTurns$Reader", "city", "LLeftTurns$City;", true)
  | 1 => ("LeftTurns$Reader", "tape", "[B", true)
  | 2 => ("LeftTurns$Reader", "fed", "I", false)
  | 3 => ("LeftTurns$Reader", "length", "I", false)
  | 4 => ("LeftTurns$Reader", "kind", "I", false)
  | 5 => ("LeftTurns$Reader", "start", "I", false)
  | 6 => ("LeftTurns$Reader", "end", "I", false)
  | 7 => ("LeftTurns$Reader", "number", "I", false)
  | 8 => ("LeftTurns$Reader", "fault", "I", false)
  | 9 => ("LeftTurns$Reader", "place", "I", false)
  | _ => ("LeftTurns$Reader", "law", "LLeftTurns$Law;", false)
def tyX5 : Nat → FieldType := fun k => match k with
  | 0 => .object "LeftTurns$City"
  | 1 => .array .byte
  | 2 => .int
  | 3 => .int
  | 4 => .int
  | 5 => .int
  | 6 => .int
  | 7 => .int
  | 8 => .int
  | 9 => .int
  | _ => .object "LeftTurns$Law"
abbrev wsX50 : List Cond := u_ws RX5 TX5 11
theorem nmX5 : ∀ a, a < 11 → ∀ b, b < 11 → a ≠ b → (TX5 a).2.1 ≠ (TX5 b).2.1 := by decide +kernel
theorem tyX5_ok : ∀ k, k < 11 → parseFieldDescriptor (TX5 k).2.2.1 = some (tyX5 k) := by decide +kernel
abbrev cX5_init : ByteArray := prog_7_method_1_code
def yX5_init : MethodName := ⟨RX5, "<init>", "(LLeftTurns$City;)V"⟩
abbrev cX5_hasRoom : ByteArray := prog_7_method_2_code
def yX5_hasRoom : MethodName := ⟨RX5, "hasRoom", "()Z"⟩
abbrev cX5_fed : ByteArray := prog_7_method_3_code
def yX5_fed : MethodName := ⟨RX5, "fed", "()I"⟩
abbrev cX5_faultKind : ByteArray := prog_7_method_4_code
def yX5_faultKind : MethodName := ⟨RX5, "faultKind", "()I"⟩
abbrev cX5_faultPlace : ByteArray := prog_7_method_5_code
def yX5_faultPlace : MethodName := ⟨RX5, "faultPlace", "()I"⟩
abbrev cX5_put : ByteArray := prog_7_method_6_code
def yX5_put : MethodName := ⟨RX5, "put", "(I)V"⟩
abbrev cX5_read : ByteArray := prog_7_method_7_code
def yX5_read : MethodName := ⟨RX5, "read", "(I)I"⟩
abbrev cX5_fail : ByteArray := prog_7_method_8_code
def yX5_fail : MethodName := ⟨RX5, "fail", "(I)V"⟩
abbrev cX5_advance : ByteArray := prog_7_method_9_code
def yX5_advance : MethodName := ⟨RX5, "advance", "()V"⟩
abbrev cX5_isSmall : ByteArray := prog_7_method_10_code
def yX5_isSmall : MethodName := ⟨RX5, "isSmall", "(I)Z"⟩
abbrev cX5_isDigit : ByteArray := prog_7_method_11_code
def yX5_isDigit : MethodName := ⟨RX5, "isDigit", "(I)Z"⟩
abbrev cX5_isWord : ByteArray := prog_7_method_12_code
def yX5_isWord : MethodName := ⟨RX5, "isWord", "(Ljava/lang/String;)Z"⟩
abbrev cX5_sign : ByteArray := prog_7_method_13_code
def yX5_sign : MethodName := ⟨RX5, "sign", "(C)V"⟩
abbrev cX5_bounded : ByteArray := prog_7_method_14_code
def yX5_bounded : MethodName := ⟨RX5, "bounded", "(II)I"⟩
abbrev cX5_line : ByteArray := prog_7_method_15_code
def yX5_line : MethodName := ⟨RX5, "line", "()V"⟩
abbrev cX5_cityLine : ByteArray := prog_7_method_16_code
def yX5_cityLine : MethodName := ⟨RX5, "cityLine", "()V"⟩
abbrev cX5_crossingTold : ByteArray := prog_7_method_17_code
def yX5_crossingTold : MethodName := ⟨RX5, "crossingTold", "()I"⟩
abbrev cX5_wallLine : ByteArray := prog_7_method_18_code
def yX5_wallLine : MethodName := ⟨RX5, "wallLine", "()V"⟩
abbrev cX5_freeLine : ByteArray := prog_7_method_19_code
def yX5_freeLine : MethodName := ⟨RX5, "freeLine", "()V"⟩
abbrev cX5_personLine : ByteArray := prog_7_method_20_code
def yX5_personLine : MethodName := ⟨RX5, "personLine", "()V"⟩
abbrev cX5_heading : ByteArray := prog_7_method_21_code
def yX5_heading : MethodName := ⟨RX5, "heading", "()I"⟩
abbrev cX5_beginLaw : ByteArray := prog_7_method_22_code
def yX5_beginLaw : MethodName := ⟨RX5, "beginLaw", "(LLeftTurns$Law;)V"⟩
abbrev cX5_tooDeep : ByteArray := prog_7_method_23_code
def yX5_tooDeep : MethodName := ⟨RX5, "tooDeep", "(I)Z"⟩
abbrev cX5_truth : ByteArray := prog_7_method_24_code
def yX5_truth : MethodName := ⟨RX5, "truth", "(I)V"⟩
abbrev cX5_both : ByteArray := prog_7_method_25_code
def yX5_both : MethodName := ⟨RX5, "both", "(I)V"⟩
abbrev cX5_unit : ByteArray := prog_7_method_26_code
def yX5_unit : MethodName := ⟨RX5, "unit", "(I)V"⟩
abbrev cX5_sum : ByteArray := prog_7_method_27_code
def yX5_sum : MethodName := ⟨RX5, "sum", "(I)V"⟩
abbrev cX5_term : ByteArray := prog_7_method_28_code
def yX5_term : MethodName := ⟨RX5, "term", "(I)V"⟩
abbrev cX5_atom : ByteArray := prog_7_method_29_code
def yX5_atom : MethodName := ⟨RX5, "atom", "(I)V"⟩
def RX6 : String := "LeftTurns$Rounds"
def TX6 : u_T := fun k => match k with
  | 0 => ("LeftTurns$Rounds", "spread", "LLeftTurns$Spread;", true)
  | 1 => ("LeftTurns$Rounds", "routes", "LLeftTurns$Routes;", true)
  | 2 => ("LeftTurns$Rounds", "stops", "[I", true)
  | 3 => ("LeftTurns$Rounds", "order", "[I", true)
  | 4 => ("LeftTurns$Rounds", "bestOrder", "[I", true)
  | 5 => ("LeftTurns$Rounds", "size", "I", false)
  | 6 => ("LeftTurns$Rounds", "done", "I", false)
  | 7 => ("LeftTurns$Rounds", "any", "Z", false)
  | 8 => ("LeftTurns$Rounds", "bestLefts", "I", false)
  | _ => ("LeftTurns$Rounds", "bestStreets", "I", false)
def tyX6 : Nat → FieldType := fun k => match k with
  | 0 => .object "LeftTurns$Spread"
  | 1 => .object "LeftTurns$Routes"
  | 2 => .array .int
  | 3 => .array .int
  | 4 => .array .int
  | 5 => .int
  | 6 => .int
  | 7 => .boolean
  | 8 => .int
  | _ => .int
abbrev wsX60 : List Cond := u_ws RX6 TX6 10
theorem nmX6 : ∀ a, a < 10 → ∀ b, b < 10 → a ≠ b → (TX6 a).2.1 ≠ (TX6 b).2.1 := by decide +kernel
theorem tyX6_ok : ∀ k, k < 10 → parseFieldDescriptor (TX6 k).2.2.1 = some (tyX6 k) := by decide +kernel
abbrev cX6_init : ByteArray := prog_8_method_1_code
def yX6_init : MethodName := ⟨RX6, "<init>", "(LLeftTurns$Spread;LLeftTurns$Routes;)V"⟩
abbrev cX6_begin : ByteArray := prog_8_method_2_code
def yX6_begin : MethodName := ⟨RX6, "begin", "(LLeftTurns$Tray;)V"⟩
abbrev cX6_tour : ByteArray := prog_8_method_3_code
def yX6_tour : MethodName := ⟨RX6, "tour", "(IIII)V"⟩
abbrev cX6_compare : ByteArray := prog_8_method_4_code
def yX6_compare : MethodName := ⟨RX6, "compare", "(II)V"⟩
abbrev cX6_answer : ByteArray := prog_8_method_5_code
def yX6_answer : MethodName := ⟨RX6, "answer", "(I)I"⟩
def RX7 : String := "LeftTurns$Routes"
def TX7 : u_T := fun k => match k with
  | 0 => ("LeftTurns$Routes", "city", "LLeftTurns$City;", true)
  | 1 => ("LeftTurns$Routes", "forecast", "LLeftTurns$Forecast;", true)
  | 2 => ("LeftTurns$Routes", "spread", "LLeftTurns$Spread;", true)
  | 3 => ("LeftTurns$Routes", "back", "[I", true)
  | 4 => ("LeftTurns$Routes", "turns", "[I", true)
  | 5 => ("LeftTurns$Routes", "length", "I", false)
  | _ => ("LeftTurns$Routes", "last", "I", false)
def tyX7 : Nat → FieldType := fun k => match k with
  | 0 => .object "LeftTurns$City"
  | 1 => .object "LeftTurns$Forecast"
  | 2 => .object "LeftTurns$Spread"
  | 3 => .array .int
  | 4 => .array .int
  | 5 => .int
  | _ => .int
abbrev wsX70 : List Cond := u_ws RX7 TX7 7
theorem nmX7 : ∀ a, a < 7 → ∀ b, b < 7 → a ≠ b → (TX7 a).2.1 ≠ (TX7 b).2.1 := by decide +kernel
theorem tyX7_ok : ∀ k, k < 7 → parseFieldDescriptor (TX7 k).2.2.1 = some (tyX7 k) := by decide +kernel
abbrev cX7_init : ByteArray := prog_9_method_1_code
def yX7_init : MethodName := ⟨RX7, "<init>", "(LLeftTurns$City;LLeftTurns$Forecast;LLeftTurns$Spread;)V"⟩
abbrev cX7_length : ByteArray := prog_9_method_2_code
def yX7_length : MethodName := ⟨RX7, "length", "()I"⟩
abbrev cX7_last : ByteArray := prog_9_method_3_code
def yX7_last : MethodName := ⟨RX7, "last", "()I"⟩
abbrev cX7_turnAt : ByteArray := prog_9_method_4_code
def yX7_turnAt : MethodName := ⟨RX7, "turnAt", "(I)I"⟩
abbrev cX7_shortest : ByteArray := prog_9_method_5_code
def yX7_shortest : MethodName := ⟨RX7, "shortest", "(III)Z"⟩
abbrev cX7_trace : ByteArray := prog_9_method_6_code
def yX7_trace : MethodName := ⟨RX7, "trace", "(IIIII)V"⟩
abbrev cX7_lookBack : ByteArray := prog_9_method_7_code
def yX7_lookBack : MethodName := ⟨RX7, "lookBack", "(III)V"⟩
abbrev cX7_comeFrom : ByteArray := prog_9_method_8_code
def yX7_comeFrom : MethodName := ⟨RX7, "comeFrom", "(IIII)V"⟩
abbrev cX7_thin : ByteArray := prog_9_method_9_code
def yX7_thin : MethodName := ⟨RX7, "thin", "(I)V"⟩
abbrev cX7_comes : ByteArray := prog_9_method_10_code
def yX7_comes : MethodName := ⟨RX7, "comes", "(III)Z"⟩
abbrev cX7_follow : ByteArray := prog_9_method_11_code
def yX7_follow : MethodName := ⟨RX7, "follow", "(III)V"⟩
def RX8 : String := "LeftTurns$Spread"
def TX8 : u_T := fun k => match k with
  | 0 => ("LeftTurns$Spread", "city", "LLeftTurns$City;", true)
  | 1 => ("LeftTurns$Spread", "forecast", "LLeftTurns$Forecast;", true)
  | 2 => ("LeftTurns$Spread", "sets", "[I", false)
  | 3 => ("LeftTurns$Spread", "nexts", "[I", false)
  | 4 => ("LeftTurns$Spread", "top", "I", false)
  | 5 => ("LeftTurns$Spread", "streets", "I", false)
  | _ => ("LeftTurns$Spread", "reached", "[I", true)
def tyX8 : Nat → FieldType := fun k => match k with
  | 0 => .object "LeftTurns$City"
  | 1 => .object "LeftTurns$Forecast"
  | 2 => .array .int
  | 3 => .array .int
  | 4 => .int
  | 5 => .int
  | _ => .array .int
abbrev wsX80 : List Cond := u_ws RX8 TX8 7
theorem nmX8 : ∀ a, a < 7 → ∀ b, b < 7 → a ≠ b → (TX8 a).2.1 ≠ (TX8 b).2.1 := by decide +kernel
theorem tyX8_ok : ∀ k, k < 7 → parseFieldDescriptor (TX8 k).2.2.1 = some (tyX8 k) := by decide +kernel
abbrev cX8_init : ByteArray := prog_10_method_1_code
def yX8_init : MethodName := ⟨RX8, "<init>", "(LLeftTurns$City;LLeftTurns$Forecast;)V"⟩
abbrev cX8_begin : ByteArray := prog_10_method_2_code
def yX8_begin : MethodName := ⟨RX8, "begin", "(I)V"⟩
abbrev cX8_change : ByteArray := prog_10_method_3_code
def yX8_change : MethodName := ⟨RX8, "change", "(I)V"⟩
abbrev cX8_thin : ByteArray := prog_10_method_4_code
def yX8_thin : MethodName := ⟨RX8, "thin", "()V"⟩
abbrev cX8_anyHeading : ByteArray := prog_10_method_5_code
def yX8_anyHeading : MethodName := ⟨RX8, "anyHeading", "(I)I"⟩
abbrev cX8_goByRights : ByteArray := prog_10_method_6_code
def yX8_goByRights : MethodName := ⟨RX8, "goByRights", "(I)V"⟩
abbrev cX8_goByLeft : ByteArray := prog_10_method_7_code
def yX8_goByLeft : MethodName := ⟨RX8, "goByLeft", "(IIIII)V"⟩
abbrev cX8_goOn : ByteArray := prog_10_method_8_code
def yX8_goOn : MethodName := ⟨RX8, "goOn", "(III)V"⟩
abbrev cX8_lowest : ByteArray := prog_10_method_9_code
def yX8_lowest : MethodName := ⟨RX8, "lowest", "(II)I"⟩
abbrev cX8_fewestStreets : ByteArray := prog_10_method_10_code
def yX8_fewestStreets : MethodName := ⟨RX8, "fewestStreets", "(IIIII)I"⟩
abbrev cX8_fewestLefts : ByteArray := prog_10_method_11_code
def yX8_fewestLefts : MethodName := ⟨RX8, "fewestLefts", "(IIIII)I"⟩
abbrev cX8_streets : ByteArray := prog_10_method_12_code
def yX8_streets : MethodName := ⟨RX8, "streets", "()I"⟩
abbrev cX8_survey : ByteArray := prog_10_method_13_code
def yX8_survey : MethodName := ⟨RX8, "survey", "(II)V"⟩
abbrev cX8_reachable : ByteArray := prog_10_method_14_code
def yX8_reachable : MethodName := ⟨RX8, "reachable", "(II)I"⟩
abbrev cX8_leastForAll : ByteArray := prog_10_method_15_code
def yX8_leastForAll : MethodName := ⟨RX8, "leastForAll", "(I)I"⟩
abbrev cX8_leftByRights : ByteArray := prog_10_method_16_code
def yX8_leftByRights : MethodName := ⟨RX8, "leftByRights", "(I)I"⟩
abbrev cX8_cornersToFree : ByteArray := prog_10_method_17_code
def yX8_cornersToFree : MethodName := ⟨RX8, "cornersToFree", "(III)I"⟩
abbrev cX8_whereByEnvelopes : ByteArray := prog_10_method_18_code
def yX8_whereByEnvelopes : MethodName := ⟨RX8, "whereByEnvelopes", "(ILLeftTurns$Tray;I)I"⟩
abbrev cX8_goLeaving : ByteArray := prog_10_method_19_code
def yX8_goLeaving : MethodName := ⟨RX8, "goLeaving", "(IIILLeftTurns$Tray;)V"⟩
def RX9 : String := "LeftTurns$Tally"
def TX9 : u_T := fun k => match k with
  | 0 => ("LeftTurns$Tally", "city", "LLeftTurns$City;", true)
  | 1 => ("LeftTurns$Tally", "forecast", "LLeftTurns$Forecast;", true)
  | 2 => ("LeftTurns$Tally", "ways", "[[J", true)
  | 3 => ("LeftTurns$Tally", "most", "[[I", true)
  | _ => ("LeftTurns$Tally", "coins", "[[I", true)
def tyX9 : Nat → FieldType := fun k => match k with
  | 0 => .object "LeftTurns$City"
  | 1 => .object "LeftTurns$Forecast"
  | 2 => .array (.array .long)
  | 3 => .array (.array .int)
  | _ => .array (.array .int)
abbrev wsX90 : List Cond := u_ws RX9 TX9 5
theorem nmX9 : ∀ a, a < 5 → ∀ b, b < 5 → a ≠ b → (TX9 a).2.1 ≠ (TX9 b).2.1 := by decide +kernel
theorem tyX9_ok : ∀ k, k < 5 → parseFieldDescriptor (TX9 k).2.2.1 = some (tyX9 k) := by decide +kernel
abbrev cX9_init : ByteArray := prog_11_method_1_code
def yX9_init : MethodName := ⟨RX9, "<init>", "(LLeftTurns$City;LLeftTurns$Forecast;)V"⟩
abbrev cX9_waysOfJust : ByteArray := prog_11_method_2_code
def yX9_waysOfJust : MethodName := ⟨RX9, "waysOfJust", "(IIII)J"⟩
abbrev cX9_addWays : ByteArray := prog_11_method_3_code
def yX9_addWays : MethodName := ⟨RX9, "addWays", "(II)V"⟩
abbrev cX9_addWaysBy : ByteArray := prog_11_method_4_code
def yX9_addWaysBy : MethodName := ⟨RX9, "addWaysBy", "(IIIII)V"⟩
abbrev cX9_leastCoins : ByteArray := prog_11_method_5_code
def yX9_leastCoins : MethodName := ⟨RX9, "leastCoins", "(III)I"⟩
abbrev cX9_addCoins : ByteArray := prog_11_method_6_code
def yX9_addCoins : MethodName := ⟨RX9, "addCoins", "(II)V"⟩
def RX10 : String := "LeftTurns$Tray"
def TX10 : u_T := fun k => match k with
  | 0 => ("LeftTurns$Tray", "values", "[J", true)
  | 1 => ("LeftTurns$Tray", "sort", "I", false)
  | _ => ("LeftTurns$Tray", "size", "I", false)
def tyX10 : Nat → FieldType := fun k => match k with
  | 0 => .array .long
  | 1 => .int
  | _ => .int
abbrev wsX100 : List Cond := u_ws RX10 TX10 3
theorem nmX10 : ∀ a, a < 3 → ∀ b, b < 3 → a ≠ b → (TX10 a).2.1 ≠ (TX10 b).2.1 := by decide +kernel
theorem tyX10_ok : ∀ k, k < 3 → parseFieldDescriptor (TX10 k).2.2.1 = some (tyX10 k) := by decide +kernel
abbrev cX10_init : ByteArray := prog_12_method_1_code
def yX10_init : MethodName := ⟨RX10, "<init>", "()V"⟩
abbrev cX10_lay : ByteArray := prog_12_method_2_code
def yX10_lay : MethodName := ⟨RX10, "lay", "(II)V"⟩
abbrev cX10_put : ByteArray := prog_12_method_3_code
def yX10_put : MethodName := ⟨RX10, "put", "(IJ)J"⟩
abbrev cX10_asSmall : ByteArray := prog_12_method_4_code
def yX10_asSmall : MethodName := ⟨RX10, "asSmall", "(I)I"⟩
abbrev cX10_allBelow : ByteArray := prog_12_method_5_code
def yX10_allBelow : MethodName := ⟨RX10, "allBelow", "(I)Z"⟩
def RX11 : String := "LeftTurns"
def TX11 : u_T := fun k => match k with
  | 0 => ("LeftTurns", "now", "LLeftTurns$City;", true)
  | 1 => ("LeftTurns", "spare", "LLeftTurns$City;", true)
  | 2 => ("LeftTurns", "reader", "LLeftTurns$Reader;", true)
  | 3 => ("LeftTurns", "forecast", "LLeftTurns$Forecast;", true)
  | 4 => ("LeftTurns", "routes", "LLeftTurns$Routes;", true)
  | 5 => ("LeftTurns", "rounds", "LLeftTurns$Rounds;", true)
  | 6 => ("LeftTurns", "tally", "LLeftTurns$Tally;", true)
  | 7 => ("LeftTurns", "spread", "LLeftTurns$Spread;", true)
  | 8 => ("LeftTurns", "hunt", "LLeftTurns$Hunt;", true)
  | 9 => ("LeftTurns", "trays", "[LLeftTurns$Tray;", true)
  | 10 => ("LeftTurns", "images", "[LLeftTurns$City;", true)
  | 11 => ("LeftTurns", "imageMade", "[Z", true)
  | 12 => ("LeftTurns", "past", "[LLeftTurns$Folk;", true)
  | 13 => ("LeftTurns", "before", "LLeftTurns$Folk;", true)
  | 14 => ("LeftTurns", "walked", "[I", true)
  | 15 => ("LeftTurns", "dayPrices", "[I", true)
  | 16 => ("LeftTurns", "pastFirst", "I", false)
  | 17 => ("LeftTurns", "pastSize", "I", false)
  | _ => ("LeftTurns", "seed", "I", false)
def tyX11 : Nat → FieldType := fun k => match k with
  | 0 => .object "LeftTurns$City"
  | 1 => .object "LeftTurns$City"
  | 2 => .object "LeftTurns$Reader"
  | 3 => .object "LeftTurns$Forecast"
  | 4 => .object "LeftTurns$Routes"
  | 5 => .object "LeftTurns$Rounds"
  | 6 => .object "LeftTurns$Tally"
  | 7 => .object "LeftTurns$Spread"
  | 8 => .object "LeftTurns$Hunt"
  | 9 => .array (.object "LeftTurns$Tray")
  | 10 => .array (.object "LeftTurns$City")
  | 11 => .array .boolean
  | 12 => .array (.object "LeftTurns$Folk")
  | 13 => .object "LeftTurns$Folk"
  | 14 => .array .int
  | 15 => .array .int
  | 16 => .int
  | 17 => .int
  | _ => .int
abbrev wsX110 : List Cond := u_ws RX11 TX11 19
theorem nmX11 : ∀ a, a < 19 → ∀ b, b < 19 → a ≠ b → (TX11 a).2.1 ≠ (TX11 b).2.1 := by decide +kernel
theorem tyX11_ok : ∀ k, k < 19 → parseFieldDescriptor (TX11 k).2.2.1 = some (tyX11 k) := by decide +kernel
abbrev cX11_init : ByteArray := prog_1_method_1_code
def yX11_init : MethodName := ⟨RX11, "<init>", "()V"⟩
abbrev cX11_feed : ByteArray := prog_1_method_2_code
def yX11_feed : MethodName := ⟨RX11, "feed", "(IIIII)I"⟩
abbrev cX11_city : ByteArray := prog_1_method_3_code
def yX11_city : MethodName := ⟨RX11, "city", "(I)I"⟩
abbrev cX11_fault : ByteArray := prog_1_method_4_code
def yX11_fault : MethodName := ⟨RX11, "fault", "(I)I"⟩
abbrev cX11_person : ByteArray := prog_1_method_5_code
def yX11_person : MethodName := ⟨RX11, "person", "(II)I"⟩
abbrev cX11_street : ByteArray := prog_1_method_6_code
def yX11_street : MethodName := ⟨RX11, "street", "(II)I"⟩
abbrev cX11_crossing : ByteArray := prog_1_method_7_code
def yX11_crossing : MethodName := ⟨RX11, "crossing", "(II)I"⟩
abbrev cX11_price : ByteArray := prog_1_method_8_code
def yX11_price : MethodName := ⟨RX11, "price", "(III)I"⟩
abbrev cX11_why : ByteArray := prog_1_method_9_code
def yX11_why : MethodName := ⟨RX11, "why", "(II)I"⟩
abbrev cX11_go : ByteArray := prog_1_method_10_code
def yX11_go : MethodName := ⟨RX11, "go", "(II)I"⟩
abbrev cX11_judge : ByteArray := prog_1_method_11_code
def yX11_judge : MethodName := ⟨RX11, "judge", "(II)I"⟩
abbrev cX11_walk : ByteArray := prog_1_method_12_code
def yX11_walk : MethodName := ⟨RX11, "walk", "(I)I"⟩
abbrev cX11_buy : ByteArray := prog_1_method_13_code
def yX11_buy : MethodName := ⟨RX11, "buy", "(II)I"⟩
abbrev cX11_sell : ByteArray := prog_1_method_14_code
def yX11_sell : MethodName := ⟨RX11, "sell", "(I)I"⟩
abbrev cX11_hand : ByteArray := prog_1_method_15_code
def yX11_hand : MethodName := ⟨RX11, "hand", "(III)I"⟩
abbrev cX11_fog : ByteArray := prog_1_method_16_code
def yX11_fog : MethodName := ⟨RX11, "fog", "(II)I"⟩
abbrev cX11_hours : ByteArray := prog_1_method_17_code
def yX11_hours : MethodName := ⟨RX11, "hours", "(I)I"⟩
abbrev cX11_undo : ByteArray := prog_1_method_18_code
def yX11_undo : MethodName := ⟨RX11, "undo", "(I)I"⟩
abbrev cX11_week : ByteArray := prog_1_method_19_code
def yX11_week : MethodName := ⟨RX11, "week", "(II)I"⟩
abbrev cX11_way : ByteArray := prog_1_method_20_code
def yX11_way : MethodName := ⟨RX11, "way", "(III)I"⟩
abbrev cX11_turn : ByteArray := prog_1_method_21_code
def yX11_turn : MethodName := ⟨RX11, "turn", "(IIII)I"⟩
abbrev cX11_fewest : ByteArray := prog_1_method_22_code
def yX11_fewest : MethodName := ⟨RX11, "fewest", "(III)I"⟩
abbrev cX11_cheapest : ByteArray := prog_1_method_23_code
def yX11_cheapest : MethodName := ⟨RX11, "cheapest", "(III)I"⟩
abbrev cX11_ways : ByteArray := prog_1_method_24_code
def yX11_ways : MethodName := ⟨RX11, "ways", "(IIII)J"⟩
abbrev cX11_reach : ByteArray := prog_1_method_25_code
def yX11_reach : MethodName := ⟨RX11, "reach", "(II)I"⟩
abbrev cX11_enough : ByteArray := prog_1_method_26_code
def yX11_enough : MethodName := ⟨RX11, "enough", "(I)I"⟩
abbrev cX11_byRights : ByteArray := prog_1_method_27_code
def yX11_byRights : MethodName := ⟨RX11, "byRights", "(II)I"⟩
abbrev cX11_round : ByteArray := prog_1_method_28_code
def yX11_round : MethodName := ⟨RX11, "round", "(III)I"⟩
abbrev cX11_makeFree : ByteArray := prog_1_method_29_code
def yX11_makeFree : MethodName := ⟨RX11, "makeFree", "(IIII)I"⟩
abbrev cX11_bestCorner : ByteArray := prog_1_method_30_code
def yX11_bestCorner : MethodName := ⟨RX11, "bestCorner", "(III)I"⟩
abbrev cX11_dealing : ByteArray := prog_1_method_31_code
def yX11_dealing : MethodName := ⟨RX11, "dealing", "(III)I"⟩
abbrev cX11_cheap : ByteArray := prog_1_method_32_code
def yX11_cheap : MethodName := ⟨RX11, "cheap", "()I"⟩
abbrev cX11_affords : ByteArray := prog_1_method_33_code
def yX11_affords : MethodName := ⟨RX11, "affords", "(I)I"⟩
abbrev cX11_found : ByteArray := prog_1_method_34_code
def yX11_found : MethodName := ⟨RX11, "found", "(III)I"⟩
abbrev cX11_chase : ByteArray := prog_1_method_35_code
def yX11_chase : MethodName := ⟨RX11, "chase", "(IIII)I"⟩
abbrev cX11_posts : ByteArray := prog_1_method_36_code
def yX11_posts : MethodName := ⟨RX11, "posts", "(IIII)I"⟩
abbrev cX11_numbers : ByteArray := prog_1_method_37_code
def yX11_numbers : MethodName := ⟨RX11, "numbers", "(III)I"⟩
abbrev cX11_write : ByteArray := prog_1_method_38_code
def yX11_write : MethodName := ⟨RX11, "write", "(IIJ)J"⟩
abbrev cX11_lists : ByteArray := prog_1_method_39_code
def yX11_lists : MethodName := ⟨RX11, "lists", "(IIII)I"⟩
abbrev cX11_image : ByteArray := prog_1_method_40_code
def yX11_image : MethodName := ⟨RX11, "image", "(I)I"⟩
abbrev cX11_restore : ByteArray := prog_1_method_41_code
def yX11_restore : MethodName := ⟨RX11, "restore", "(I)I"⟩
abbrev cX11_count : ByteArray := prog_1_method_42_code
def yX11_count : MethodName := ⟨RX11, "count", "(I)I"⟩
abbrev cX11_isPerson : ByteArray := prog_1_method_43_code
def yX11_isPerson : MethodName := ⟨RX11, "isPerson", "(I)Z"⟩
abbrev cX11_isCrossing : ByteArray := prog_1_method_44_code
def yX11_isCrossing : MethodName := ⟨RX11, "isCrossing", "(I)Z"⟩
abbrev cX11_isStand : ByteArray := prog_1_method_45_code
def yX11_isStand : MethodName := ⟨RX11, "isStand", "(II)Z"⟩
abbrev cX11_isTray : ByteArray := prog_1_method_46_code
def yX11_isTray : MethodName := ⟨RX11, "isTray", "(I)Z"⟩
abbrev cX11_startAnew : ByteArray := prog_1_method_47_code
def yX11_startAnew : MethodName := ⟨RX11, "startAnew", "()V"⟩
abbrev cX11_keep : ByteArray := prog_1_method_48_code
def yX11_keep : MethodName := ⟨RX11, "keep", "(LLeftTurns$Folk;)V"⟩
abbrev cX11_goWalk : ByteArray := prog_1_method_49_code
def yX11_goWalk : MethodName := ⟨RX11, "goWalk", "(LLeftTurns$Tray;)I"⟩
abbrev cX11_draw : ByteArray := prog_1_method_50_code
def yX11_draw : MethodName := ⟨RX11, "draw", "()I"⟩
abbrev cX11_liveOnce : ByteArray := prog_1_method_51_code
def yX11_liveOnce : MethodName := ⟨RX11, "liveOnce", "()Z"⟩
def RX12 : String := "LeftTurnsModel"
def TX12 : u_T := fun k => match k with
  | 0 => ("LeftTurnsModel", "thrown", "I", false)
  | 1 => ("LeftTurnsModel", "all", "[I", true)
  | 2 => ("LeftTurnsModel", "hasImage", "[Z", true)
  | 3 => ("LeftTurnsModel", "tape", "[I", true)
  | 4 => ("LeftTurnsModel", "fresh", "[I", true)
  | 5 => ("LeftTurnsModel", "taped", "I", false)
  | 6 => ("LeftTurnsModel", "at", "I", false)
  | 7 => ("LeftTurnsModel", "behind", "I", false)
  | 8 => ("LeftTurnsModel", "size", "I", false)
  | 9 => ("LeftTurnsModel", "kind", "I", false)
  | 10 => ("LeftTurnsModel", "number", "I", false)
  | 11 => ("LeftTurnsModel", "wrong", "I", false)
  | 12 => ("LeftTurnsModel", "wrongAt", "I", false)
  | 13 => ("LeftTurnsModel", "faultKind", "I", false)
  | 14 => ("LeftTurnsModel", "faultPlace", "I", false)
  | 15 => ("LeftTurnsModel", "reckoned", "[I", true)
  | 16 => ("LeftTurnsModel", "was", "[I", true)
  | 17 => ("LeftTurnsModel", "toldWhy", "I", false)
  | 18 => ("LeftTurnsModel", "tookMany", "I", false)
  | 19 => ("LeftTurnsModel", "x", "I", false)
  | 20 => ("LeftTurnsModel", "ahead", "[I", true)
  | 21 => ("LeftTurnsModel", "sofar", "[I", true)
  | 22 => ("LeftTurnsModel", "still", "[I", true)
  | 23 => ("LeftTurnsModel", "prices", "[I", true)
  | 24 => ("LeftTurnsModel", "mays", "[Z", true)
  | 25 => ("LeftTurnsModel", "frees", "[Z", true)
  | 26 => ("LeftTurnsModel", "from0", "I", false)
  | 27 => ("LeftTurnsModel", "turns", "[I", true)
  | 28 => ("LeftTurnsModel", "endsAt", "I", false)
  | 29 => ("LeftTurnsModel", "many", "[J", true)
  | 30 => ("LeftTurnsModel", "manyThen", "[J", true)
  | 31 => ("LeftTurnsModel", "met", "[Z", true)
  | 32 => ("LeftTurnsModel", "metThen", "[Z", true)
  | 33 => ("LeftTurnsModel", "taken", "[I", true)
  | 34 => ("LeftTurnsModel", "bestRow", "[I", true)
  | 35 => ("LeftTurnsModel", "bestLefts", "I", false)
  | 36 => ("LeftTurnsModel", "bestStreets", "I", false)
  | 37 => ("LeftTurnsModel", "legStreets", "I", false)
  | 38 => ("LeftTurnsModel", "may1", "[Z", true)
  | 39 => ("LeftTurnsModel", "mayThen", "[Z", true)
  | 40 => ("LeftTurnsModel", "catches", "[B", true)
  | 41 => ("LeftTurnsModel", "rowSort", "[I", true)
  | 42 => ("LeftTurnsModel", "rowMany", "[I", true)
  | _ => ("LeftTurnsModel", "numbers", "[J", true)
def tyX12 : Nat → FieldType := fun k => match k with
  | 0 => .int
  | 1 => .array .int
  | 2 => .array .boolean
  | 3 => .array .int
  | 4 => .array .int
  | 5 => .int
  | 6 => .int
  | 7 => .int
  | 8 => .int
  | 9 => .int
  | 10 => .int
  | 11 => .int
  | 12 => .int
  | 13 => .int
  | 14 => .int
  | 15 => .array .int
  | 16 => .array .int
  | 17 => .int
  | 18 => .int
  | 19 => .int
  | 20 => .array .int
  | 21 => .array .int
  | 22 => .array .int
  | 23 => .array .int
  | 24 => .array .boolean
  | 25 => .array .boolean
  | 26 => .int
  | 27 => .array .int
  | 28 => .int
  | 29 => .array .long
  | 30 => .array .long
  | 31 => .array .boolean
  | 32 => .array .boolean
  | 33 => .array .int
  | 34 => .array .int
  | 35 => .int
  | 36 => .int
  | 37 => .int
  | 38 => .array .boolean
  | 39 => .array .boolean
  | 40 => .array .byte
  | 41 => .array .int
  | 42 => .array .int
  | _ => .array .long
abbrev wsX120 : List Cond := u_ws RX12 TX12 44
theorem nmX12 : ∀ a, a < 44 → ∀ b, b < 44 → a ≠ b → (TX12 a).2.1 ≠ (TX12 b).2.1 := by decide +kernel
theorem tyX12_ok : ∀ k, k < 44 → parseFieldDescriptor (TX12 k).2.2.1 = some (tyX12 k) := by decide +kernel
abbrev cX12_within : ByteArray := prog_14_method_2_code
def yX12_within : MethodName := ⟨RX12, "within", "(JJJ)Z"⟩
abbrev cX12_init : ByteArray := prog_14_method_3_code
def yX12_init : MethodName := ⟨RX12, "<init>", "()V"⟩
abbrev cX12_plain : ByteArray := prog_14_method_4_code
def yX12_plain : MethodName := ⟨RX12, "plain", "([I)V"⟩
abbrev cX12_feed : ByteArray := prog_14_method_5_code
def yX12_feed : MethodName := ⟨RX12, "feed", "(IIIII)I"⟩
abbrev cX12_see : ByteArray := prog_14_method_6_code
def yX12_see : MethodName := ⟨RX12, "see", "(I)I"⟩
abbrev cX12_isSmall : ByteArray := prog_14_method_7_code
def yX12_isSmall : MethodName := ⟨RX12, "isSmall", "(I)Z"⟩
abbrev cX12_isDigit : ByteArray := prog_14_method_8_code
def yX12_isDigit : MethodName := ⟨RX12, "isDigit", "(I)Z"⟩
abbrev cX12_keyAt : ByteArray := prog_14_method_9_code
def yX12_keyAt : MethodName := ⟨RX12, "keyAt", "()I"⟩
abbrev cX12_next : ByteArray := prog_14_method_10_code
def yX12_next : MethodName := ⟨RX12, "next", "()V"⟩
abbrev cX12_fails : ByteArray := prog_14_method_11_code
def yX12_fails : MethodName := ⟨RX12, "fails", "(I)V"⟩
abbrev cX12_is : ByteArray := prog_14_method_12_code
def yX12_is : MethodName := ⟨RX12, "is", "(I)Z"⟩
abbrev cX12_eats : ByteArray := prog_14_method_13_code
def yX12_eats : MethodName := ⟨RX12, "eats", "(I)Z"⟩
abbrev cX12_takes : ByteArray := prog_14_method_14_code
def yX12_takes : MethodName := ⟨RX12, "takes", "(II)I"⟩
abbrev cX12_isIn : ByteArray := prog_14_method_15_code
def yX12_isIn : MethodName := ⟨RX12, "isIn", "(JI)Z"⟩
abbrev cX12_codes : ByteArray := prog_14_method_16_code
def yX12_codes : MethodName := ⟨RX12, "codes", "(I)V"⟩
abbrev cX12_goesIn : ByteArray := prog_14_method_17_code
def yX12_goesIn : MethodName := ⟨RX12, "goesIn", "(I)Z"⟩
abbrev cX12_readAtom : ByteArray := prog_14_method_18_code
def yX12_readAtom : MethodName := ⟨RX12, "readAtom", "(I)V"⟩
abbrev cX12_readTerm : ByteArray := prog_14_method_19_code
def yX12_readTerm : MethodName := ⟨RX12, "readTerm", "(I)V"⟩
abbrev cX12_readSum : ByteArray := prog_14_method_20_code
def yX12_readSum : MethodName := ⟨RX12, "readSum", "(I)V"⟩
abbrev cX12_readUnit : ByteArray := prog_14_method_21_code
def yX12_readUnit : MethodName := ⟨RX12, "readUnit", "(I)V"⟩
abbrev cX12_readBoth : ByteArray := prog_14_method_22_code
def yX12_readBoth : MethodName := ⟨RX12, "readBoth", "(I)V"⟩
abbrev cX12_readTruth : ByteArray := prog_14_method_23_code
def yX12_readTruth : MethodName := ⟨RX12, "readTruth", "(I)V"⟩
abbrev cX12_readCity : ByteArray := prog_14_method_24_code
def yX12_readCity : MethodName := ⟨RX12, "readCity", "()V"⟩
abbrev cX12_takesCrossing : ByteArray := prog_14_method_25_code
def yX12_takesCrossing : MethodName := ⟨RX12, "takesCrossing", "()I"⟩
abbrev cX12_readWall : ByteArray := prog_14_method_26_code
def yX12_readWall : MethodName := ⟨RX12, "readWall", "()V"⟩
abbrev cX12_readPerson : ByteArray := prog_14_method_27_code
def yX12_readPerson : MethodName := ⟨RX12, "readPerson", "()V"⟩
abbrev cX12_readLaw : ByteArray := prog_14_method_28_code
def yX12_readLaw : MethodName := ⟨RX12, "readLaw", "(I)V"⟩
abbrev cX12_readLine : ByteArray := prog_14_method_29_code
def yX12_readLine : MethodName := ⟨RX12, "readLine", "()V"⟩
abbrev cX12_city : ByteArray := prog_14_method_30_code
def yX12_city : MethodName := ⟨RX12, "city", "(I)I"⟩
abbrev cX12_fault : ByteArray := prog_14_method_31_code
def yX12_fault : MethodName := ⟨RX12, "fault", "(I)I"⟩
abbrev cX12_beyond : ByteArray := prog_14_method_32_code
def yX12_beyond : MethodName := ⟨RX12, "beyond", "([III)I"⟩
abbrev cX12_streetFrom : ByteArray := prog_14_method_33_code
def yX12_streetFrom : MethodName := ⟨RX12, "streetFrom", "(II)I"⟩
abbrev cX12_crossings : ByteArray := prog_14_method_34_code
def yX12_crossings : MethodName := ⟨RX12, "crossings", "()I"⟩
abbrev cX12_isCrossing : ByteArray := prog_14_method_35_code
def yX12_isCrossing : MethodName := ⟨RX12, "isCrossing", "(J)Z"⟩
abbrev cX12_isPerson : ByteArray := prog_14_method_36_code
def yX12_isPerson : MethodName := ⟨RX12, "isPerson", "(J)Z"⟩
abbrev cX12_isDirection : ByteArray := prog_14_method_37_code
def yX12_isDirection : MethodName := ⟨RX12, "isDirection", "(I)Z"⟩
abbrev cX12_directionBy : ByteArray := prog_14_method_38_code
def yX12_directionBy : MethodName := ⟨RX12, "directionBy", "(II)I"⟩
abbrev cX12_leftsOf : ByteArray := prog_14_method_39_code
def yX12_leftsOf : MethodName := ⟨RX12, "leftsOf", "(I)I"⟩
abbrev cX12_isFreeIn : ByteArray := prog_14_method_40_code
def yX12_isFreeIn : MethodName := ⟨RX12, "isFreeIn", "(II)Z"⟩
abbrev cX12_between : ByteArray := prog_14_method_41_code
def yX12_between : MethodName := ⟨RX12, "between", "(III)I"⟩
abbrev cX12_wordOf : ByteArray := prog_14_method_42_code
def yX12_wordOf : MethodName := ⟨RX12, "wordOf", "(IIII)I"⟩
abbrev cX12_reckons : ByteArray := prog_14_method_43_code
def yX12_reckons : MethodName := ⟨RX12, "reckons", "(IIII)I"⟩
abbrev cX12_priceOf : ByteArray := prog_14_method_44_code
def yX12_priceOf : MethodName := ⟨RX12, "priceOf", "(III)I"⟩
abbrev cX12_mayTurn : ByteArray := prog_14_method_45_code
def yX12_mayTurn : MethodName := ⟨RX12, "mayTurn", "(III)Z"⟩
abbrev cX12_person : ByteArray := prog_14_method_46_code
def yX12_person : MethodName := ⟨RX12, "person", "(II)I"⟩
abbrev cX12_street : ByteArray := prog_14_method_47_code
def yX12_street : MethodName := ⟨RX12, "street", "(II)I"⟩
abbrev cX12_streetsFrom : ByteArray := prog_14_method_48_code
def yX12_streetsFrom : MethodName := ⟨RX12, "streetsFrom", "(I)I"⟩
abbrev cX12_crossing : ByteArray := prog_14_method_49_code
def yX12_crossing : MethodName := ⟨RX12, "crossing", "(II)I"⟩
abbrev cX12_price : ByteArray := prog_14_method_50_code
def yX12_price : MethodName := ⟨RX12, "price", "(III)I"⟩
abbrev cX12_whyNot : ByteArray := prog_14_method_51_code
def yX12_whyNot : MethodName := ⟨RX12, "whyNot", "(JJ)I"⟩
abbrev cX12_why : ByteArray := prog_14_method_52_code
def yX12_why : MethodName := ⟨RX12, "why", "(II)I"⟩
abbrev cX12_keeps : ByteArray := prog_14_method_53_code
def yX12_keeps : MethodName := ⟨RX12, "keeps", "()V"⟩
abbrev cX12_isAgain : ByteArray := prog_14_method_54_code
def yX12_isAgain : MethodName := ⟨RX12, "isAgain", "()V"⟩
abbrev cX12_notes : ByteArray := prog_14_method_55_code
def yX12_notes : MethodName := ⟨RX12, "notes", "()V"⟩
abbrev cX12_goes : ByteArray := prog_14_method_56_code
def yX12_goes : MethodName := ⟨RX12, "goes", "(II)I"⟩
abbrev cX12_go : ByteArray := prog_14_method_57_code
def yX12_go : MethodName := ⟨RX12, "go", "(II)I"⟩
abbrev cX12_noTray : ByteArray := prog_14_method_58_code
def yX12_noTray : MethodName := ⟨RX12, "noTray", "(I)I"⟩
abbrev cX12_tells : ByteArray := prog_14_method_59_code
def yX12_tells : MethodName := ⟨RX12, "tells", "(I)I"⟩
abbrev cX12_judge : ByteArray := prog_14_method_60_code
def yX12_judge : MethodName := ⟨RX12, "judge", "(II)I"⟩
abbrev cX12_walk : ByteArray := prog_14_method_61_code
def yX12_walk : MethodName := ⟨RX12, "walk", "(I)I"⟩
abbrev cX12_buys : ByteArray := prog_14_method_62_code
def yX12_buys : MethodName := ⟨RX12, "buys", "(II)J"⟩
abbrev cX12_boughtBy : ByteArray := prog_14_method_63_code
def yX12_boughtBy : MethodName := ⟨RX12, "boughtBy", "(II)I"⟩
abbrev cX12_buy : ByteArray := prog_14_method_64_code
def yX12_buy : MethodName := ⟨RX12, "buy", "(II)I"⟩
abbrev cX12_sell : ByteArray := prog_14_method_65_code
def yX12_sell : MethodName := ⟨RX12, "sell", "(I)I"⟩
abbrev cX12_hand : ByteArray := prog_14_method_66_code
def yX12_hand : MethodName := ⟨RX12, "hand", "(III)I"⟩
abbrev cX12_freeMany : ByteArray := prog_14_method_67_code
def yX12_freeMany : MethodName := ⟨RX12, "freeMany", "()I"⟩
abbrev cX12_fog : ByteArray := prog_14_method_68_code
def yX12_fog : MethodName := ⟨RX12, "fog", "(II)I"⟩
abbrev cX12_hours : ByteArray := prog_14_method_69_code
def yX12_hours : MethodName := ⟨RX12, "hours", "(I)I"⟩
abbrev cX12_undo : ByteArray := prog_14_method_70_code
def yX12_undo : MethodName := ⟨RX12, "undo", "(I)I"⟩
abbrev cX12_draw : ByteArray := prog_14_method_71_code
def yX12_draw : MethodName := ⟨RX12, "draw", "(I)I"⟩
abbrev cX12_isDrawn : ByteArray := prog_14_method_72_code
def yX12_isDrawn : MethodName := ⟨RX12, "isDrawn", "()Z"⟩
abbrev cX12_week : ByteArray := prog_14_method_73_code
def yX12_week : MethodName := ⟨RX12, "week", "(II)I"⟩
abbrev cX12_laysLaws : ByteArray := prog_14_method_74_code
def yX12_laysLaws : MethodName := ⟨RX12, "laysLaws", "(I)V"⟩
abbrev cX12_costOf : ByteArray := prog_14_method_75_code
def yX12_costOf : MethodName := ⟨RX12, "costOf", "(IIIIZ)I"⟩
abbrev cX12_lesser : ByteArray := prog_14_method_76_code
def yX12_lesser : MethodName := ⟨RX12, "lesser", "(II)I"⟩
abbrev cX12_laysSofar : ByteArray := prog_14_method_77_code
def yX12_laysSofar : MethodName := ⟨RX12, "laysSofar", "(IIIZ)V"⟩
abbrev cX12_laysStill : ByteArray := prog_14_method_78_code
def yX12_laysStill : MethodName := ⟨RX12, "laysStill", "(II)V"⟩
abbrev cX12_stillBy : ByteArray := prog_14_method_79_code
def yX12_stillBy : MethodName := ⟨RX12, "stillBy", "(II)I"⟩
abbrev cX12_leastAt : ByteArray := prog_14_method_80_code
def yX12_leastAt : MethodName := ⟨RX12, "leastAt", "(II)I"⟩
abbrev cX12_leastWithin : ByteArray := prog_14_method_81_code
def yX12_leastWithin : MethodName := ⟨RX12, "leastWithin", "(II)I"⟩
abbrev cX12_orNone : ByteArray := prog_14_method_82_code
def yX12_orNone : MethodName := ⟨RX12, "orNone", "(I)I"⟩
abbrev cX12_laysFor : ByteArray := prog_14_method_83_code
def yX12_laysFor : MethodName := ⟨RX12, "laysFor", "(IIZ)V"⟩
abbrev cX12_areThere : ByteArray := prog_14_method_84_code
def yX12_areThere : MethodName := ⟨RX12, "areThere", "(II)Z"⟩
abbrev cX12_wayOf : ByteArray := prog_14_method_85_code
def yX12_wayOf : MethodName := ⟨RX12, "wayOf", "(III)I"⟩
abbrev cX12_soonestBy : ByteArray := prog_14_method_86_code
def yX12_soonestBy : MethodName := ⟨RX12, "soonestBy", "(II)I"⟩
abbrev cX12_way : ByteArray := prog_14_method_87_code
def yX12_way : MethodName := ⟨RX12, "way", "(III)I"⟩
abbrev cX12_laysTurns : ByteArray := prog_14_method_88_code
def yX12_laysTurns : MethodName := ⟨RX12, "laysTurns", "(IIIII)V"⟩
abbrev cX12_laysWay : ByteArray := prog_14_method_89_code
def yX12_laysWay : MethodName := ⟨RX12, "laysWay", "(III)I"⟩
abbrev cX12_turn : ByteArray := prog_14_method_90_code
def yX12_turn : MethodName := ⟨RX12, "turn", "(IIII)I"⟩
abbrev cX12_fewest : ByteArray := prog_14_method_91_code
def yX12_fewest : MethodName := ⟨RX12, "fewest", "(III)I"⟩
abbrev cX12_cheapest : ByteArray := prog_14_method_92_code
def yX12_cheapest : MethodName := ⟨RX12, "cheapest", "(III)I"⟩
abbrev cX12_countsOn : ByteArray := prog_14_method_93_code
def yX12_countsOn : MethodName := ⟨RX12, "countsOn", "(III)V"⟩
abbrev cX12_ways : ByteArray := prog_14_method_94_code
def yX12_ways : MethodName := ⟨RX12, "ways", "(IIII)J"⟩
abbrev cX12_reach : ByteArray := prog_14_method_95_code
def yX12_reach : MethodName := ⟨RX12, "reach", "(II)I"⟩
abbrev cX12_enough : ByteArray := prog_14_method_96_code
def yX12_enough : MethodName := ⟨RX12, "enough", "(I)I"⟩
abbrev cX12_byRights : ByteArray := prog_14_method_97_code
def yX12_byRights : MethodName := ⟨RX12, "byRights", "(II)I"⟩
abbrev cX12_leg : ByteArray := prog_14_method_98_code
def yX12_leg : MethodName := ⟨RX12, "leg", "(III)I"⟩
abbrev cX12_goesRound : ByteArray := prog_14_method_99_code
def yX12_goesRound : MethodName := ⟨RX12, "goesRound", "(IIIIII)V"⟩
abbrev cX12_round : ByteArray := prog_14_method_100_code
def yX12_round : MethodName := ⟨RX12, "round", "(III)I"⟩
abbrev cX12_comesFree : ByteArray := prog_14_method_101_code
def yX12_comesFree : MethodName := ⟨RX12, "comesFree", "(IIII)Z"⟩
abbrev cX12_freesBy : ByteArray := prog_14_method_102_code
def yX12_freesBy : MethodName := ⟨RX12, "freesBy", "(IIIIII)I"⟩
abbrev cX12_makeFree : ByteArray := prog_14_method_103_code
def yX12_makeFree : MethodName := ⟨RX12, "makeFree", "(IIII)I"⟩
abbrev cX12_bestCorner : ByteArray := prog_14_method_104_code
def yX12_bestCorner : MethodName := ⟨RX12, "bestCorner", "(III)I"⟩
abbrev cX12_dealing : ByteArray := prog_14_method_105_code
def yX12_dealing : MethodName := ⟨RX12, "dealing", "(III)I"⟩
abbrev cX12_cheap : ByteArray := prog_14_method_106_code
def yX12_cheap : MethodName := ⟨RX12, "cheap", "()I"⟩
abbrev cX12_affords : ByteArray := prog_14_method_107_code
def yX12_affords : MethodName := ⟨RX12, "affords", "(I)I"⟩
abbrev cX12_lie : ByteArray := prog_14_method_108_code
def yX12_lie : MethodName := ⟨RX12, "lie", "(IIII)Z"⟩
abbrev cX12_findsOn : ByteArray := prog_14_method_109_code
def yX12_findsOn : MethodName := ⟨RX12, "findsOn", "(III)V"⟩
abbrev cX12_found : ByteArray := prog_14_method_110_code
def yX12_found : MethodName := ⟨RX12, "found", "(III)I"⟩
abbrev cX12_goesOn : ByteArray := prog_14_method_111_code
def yX12_goesOn : MethodName := ⟨RX12, "goesOn", "(II)I"⟩
abbrev cX12_isSure : ByteArray := prog_14_method_112_code
def yX12_isSure : MethodName := ⟨RX12, "isSure", "(III)Z"⟩
abbrev cX12_laysCatches : ByteArray := prog_14_method_113_code
def yX12_laysCatches : MethodName := ⟨RX12, "laysCatches", "(I)V"⟩
abbrev cX12_chase : ByteArray := prog_14_method_114_code
def yX12_chase : MethodName := ⟨RX12, "chase", "(IIII)I"⟩
abbrev cX12_posts : ByteArray := prog_14_method_115_code
def yX12_posts : MethodName := ⟨RX12, "posts", "(IIII)I"⟩
abbrev cX12_cut : ByteArray := prog_14_method_116_code
def yX12_cut : MethodName := ⟨RX12, "cut", "(JI)J"⟩
abbrev cX12_numbers : ByteArray := prog_14_method_117_code
def yX12_numbers : MethodName := ⟨RX12, "numbers", "(III)I"⟩
abbrev cX12_write : ByteArray := prog_14_method_118_code
def yX12_write : MethodName := ⟨RX12, "write", "(IIJ)J"⟩
abbrev cX12_lists : ByteArray := prog_14_method_119_code
def yX12_lists : MethodName := ⟨RX12, "lists", "(IIII)I"⟩
abbrev cX12_image : ByteArray := prog_14_method_120_code
def yX12_image : MethodName := ⟨RX12, "image", "(I)I"⟩
abbrev cX12_restore : ByteArray := prog_14_method_121_code
def yX12_restore : MethodName := ⟨RX12, "restore", "(I)I"⟩
abbrev cX12_allLefts : ByteArray := prog_14_method_122_code
def yX12_allLefts : MethodName := ⟨RX12, "allLefts", "()I"⟩
abbrev cX12_count : ByteArray := prog_14_method_123_code
def yX12_count : MethodName := ⟨RX12, "count", "(I)I"⟩
abbrev cX12_soldMany : ByteArray := prog_14_method_124_code
def yX12_soldMany : MethodName := ⟨RX12, "soldMany", "()I"⟩
def RJx145de : String := "java/io/Serializable"
def TJx145de : u_T := fun k => match k with
  | _ => ("", "", "", false)
def tyJx145de : Nat → FieldType := fun k => match k with
  | _ => .int
abbrev wsJx145de0 : List Cond := u_ws RJx145de TJx145de 0
theorem nmJx145de : ∀ a, a < 0 → ∀ b, b < 0 → a ≠ b → (TJx145de a).2.1 ≠ (TJx145de b).2.1 := by decide +kernel
theorem tyJx145de_ok : ∀ k, k < 0 → parseFieldDescriptor (TJx145de k).2.2.1 = some (tyJx145de k) := by decide +kernel
def RJx9f9b0 : String := "java/lang/CharSequence"
def TJx9f9b0 : u_T := fun k => match k with
  | _ => ("", "", "", false)
def tyJx9f9b0 : Nat → FieldType := fun k => match k with
  | _ => .int
abbrev wsJx9f9b00 : List Cond := u_ws RJx9f9b0 TJx9f9b0 0
theorem nmJx9f9b0 : ∀ a, a < 0 → ∀ b, b < 0 → a ≠ b → (TJx9f9b0 a).2.1 ≠ (TJx9f9b0 b).2.1 := by decide +kernel
theorem tyJx9f9b0_ok : ∀ k, k < 0 → parseFieldDescriptor (TJx9f9b0 k).2.2.1 = some (tyJx9f9b0 k) := by decide +kernel
def RJ11 : String := "java/lang/Character"
def TJ11 : u_T := fun k => match k with
  | _ => ("", "", "", false)
def tyJ11 : Nat → FieldType := fun k => match k with
  | _ => .int
abbrev wsJ110 : List Cond := u_ws RJ11 TJ11 0
theorem nmJ11 : ∀ a, a < 0 → ∀ b, b < 0 → a ≠ b → (TJ11 a).2.1 ≠ (TJ11 b).2.1 := by decide +kernel
theorem tyJ11_ok : ∀ k, k < 0 → parseFieldDescriptor (TJ11 k).2.2.1 = some (tyJ11 k) := by decide +kernel
abbrev cJ11_isValidCodePoint_9a6ad : ByteArray := prog_15_method_11_code
def yJ11_isValidCodePoint_9a6ad : MethodName := ⟨RJ11, "isValidCodePoint", "(I)Z"⟩
abbrev cJ11_highSurrogate_5068e : ByteArray := prog_15_method_28_code
def yJ11_highSurrogate_5068e : MethodName := ⟨RJ11, "highSurrogate", "(I)C"⟩
abbrev cJ11_lowSurrogate_5068e : ByteArray := prog_15_method_29_code
def yJ11_lowSurrogate_5068e : MethodName := ⟨RJ11, "lowSurrogate", "(I)C"⟩
def RJxb160c : String := "java/lang/Comparable"
def TJxb160c : u_T := fun k => match k with
  | _ => ("", "", "", false)
def tyJxb160c : Nat → FieldType := fun k => match k with
  | _ => .int
abbrev wsJxb160c0 : List Cond := u_ws RJxb160c TJxb160c 0
theorem nmJxb160c : ∀ a, a < 0 → ∀ b, b < 0 → a ≠ b → (TJxb160c a).2.1 ≠ (TJxb160c b).2.1 := by decide +kernel
theorem tyJxb160c_ok : ∀ k, k < 0 → parseFieldDescriptor (TJxb160c k).2.2.1 = some (tyJxb160c k) := by decide +kernel
def RJ6 : String := "java/lang/Integer"
def TJ6 : u_T := fun k => match k with
  | _ => ("", "", "", false)
def tyJ6 : Nat → FieldType := fun k => match k with
  | _ => .int
abbrev wsJ60 : List Cond := u_ws RJ6 TJ6 0
theorem nmJ6 : ∀ a, a < 0 → ∀ b, b < 0 → a ≠ b → (TJ6 a).2.1 ≠ (TJ6 b).2.1 := by decide +kernel
theorem tyJ6_ok : ∀ k, k < 0 → parseFieldDescriptor (TJ6 k).2.2.1 = some (tyJ6 k) := by decide +kernel
abbrev cJ6_bitCount_0f7a4 : ByteArray := prog_16_method_49_code
def yJ6_bitCount_0f7a4 : MethodName := ⟨RJ6, "bitCount", "(I)I"⟩
def RJ9 : String := "java/lang/Math"
def TJ9 : u_T := fun k => match k with
  | _ => ("", "", "", false)
def tyJ9 : Nat → FieldType := fun k => match k with
  | _ => .int
abbrev wsJ90 : List Cond := u_ws RJ9 TJ9 0
theorem nmJ9 : ∀ a, a < 0 → ∀ b, b < 0 → a ≠ b → (TJ9 a).2.1 ≠ (TJ9 b).2.1 := by decide +kernel
theorem tyJ9_ok : ∀ k, k < 0 → parseFieldDescriptor (TJ9 k).2.2.1 = some (tyJ9 k) := by decide +kernel
abbrev cJ9_max_7cf53 : ByteArray := prog_17_method_65_code
def yJ9_max_7cf53 : MethodName := ⟨RJ9, "max", "(II)I"⟩
abbrev cJ9_max_f86c9 : ByteArray := prog_17_method_66_code
def yJ9_max_f86c9 : MethodName := ⟨RJ9, "max", "(JJ)J"⟩
abbrev cJ9_min_7cf53 : ByteArray := prog_17_method_69_code
def yJ9_min_7cf53 : MethodName := ⟨RJ9, "min", "(II)I"⟩
abbrev cJ9_min_f86c9 : ByteArray := prog_17_method_70_code
def yJ9_min_f86c9 : MethodName := ⟨RJ9, "min", "(JJ)J"⟩
def RJ0 : String := "java/lang/String"
def TJ0 : u_T := fun k => match k with
  | _ => ("", "", "", false)
def tyJ0 : Nat → FieldType := fun k => match k with
  | _ => .int
abbrev wsJ00 : List Cond := u_ws RJ0 TJ0 0
theorem nmJ0 : ∀ a, a < 0 → ∀ b, b < 0 → a ≠ b → (TJ0 a).2.1 ≠ (TJ0 b).2.1 := by decide +kernel
theorem tyJ0_ok : ∀ k, k < 0 → parseFieldDescriptor (TJ0 k).2.2.1 = some (tyJ0 k) := by decide +kernel
abbrev cJ0_length_8abf5 : ByteArray := prog_18_method_54_code
def yJ0_length_8abf5 : MethodName := ⟨RJ0, "length", "()I"⟩
abbrev cJ0_charAt_5068e : ByteArray := prog_18_method_56_code
def yJ0_charAt_5068e : MethodName := ⟨RJ0, "charAt", "(I)C"⟩
abbrev cJ0_indexOf_0f7a4 : ByteArray := prog_18_method_79_code
def yJ0_indexOf_0f7a4 : MethodName := ⟨RJ0, "indexOf", "(I)I"⟩
abbrev cJ0_indexOf_7cf53 : ByteArray := prog_18_method_80_code
def yJ0_indexOf_7cf53 : MethodName := ⟨RJ0, "indexOf", "(II)I"⟩
abbrev cJ0_coder_7d493 : ByteArray := prog_18_method_152_code
def yJ0_coder_7d493 : MethodName := ⟨RJ0, "coder", "()B"⟩
abbrev cJ0_isLatin1_aae02 : ByteArray := prog_18_method_154_code
def yJ0_isLatin1_aae02 : MethodName := ⟨RJ0, "isLatin1", "()Z"⟩
abbrev cJ0_checkIndex_df160 : ByteArray := prog_18_method_155_code
def yJ0_checkIndex_df160 : MethodName := ⟨RJ0, "checkIndex", "(II)V"⟩
abbrev cJ0_checkBoundsBeginEnd_23922 : ByteArray := prog_18_method_158_code
def yJ0_checkBoundsBeginEnd_23922 : MethodName := ⟨RJ0, "checkBoundsBeginEnd", "(III)V"⟩
def RJ1 : String := "java/lang/StringLatin1"
def TJ1 : u_T := fun k => match k with
  | _ => ("", "", "", false)
def tyJ1 : Nat → FieldType := fun k => match k with
  | _ => .int
abbrev wsJ10 : List Cond := u_ws RJ1 TJ1 0
theorem nmJ1 : ∀ a, a < 0 → ∀ b, b < 0 → a ≠ b → (TJ1 a).2.1 ≠ (TJ1 b).2.1 := by decide +kernel
theorem tyJ1_ok : ∀ k, k < 0 → parseFieldDescriptor (TJ1 k).2.2.1 = some (tyJ1 k) := by decide +kernel
abbrev cJ1_charAt_3b067 : ByteArray := prog_19_method_2_code
def yJ1_charAt_3b067 : MethodName := ⟨RJ1, "charAt", "([BI)C"⟩
abbrev cJ1_canEncode_9a6ad : ByteArray := prog_19_method_4_code
def yJ1_canEncode_9a6ad : MethodName := ⟨RJ1, "canEncode", "(I)Z"⟩
abbrev cJ1_indexOf_4cfef : ByteArray := prog_19_method_22_code
def yJ1_indexOf_4cfef : MethodName := ⟨RJ1, "indexOf", "([BIII)I"⟩
abbrev cJ1_indexOfChar_4cfef : ByteArray := prog_19_method_23_code
def yJ1_indexOfChar_4cfef : MethodName := ⟨RJ1, "indexOfChar", "([BIII)I"⟩
def RJ2 : String := "java/lang/StringUTF16"
def TJ2 : u_T := fun k => match k with
  | _ => ("", "", "", false)
def tyJ2 : Nat → FieldType := fun k => match k with
  | _ => .int
abbrev wsJ20 : List Cond := u_ws RJ2 TJ2 0
theorem nmJ2 : ∀ a, a < 0 → ∀ b, b < 0 → a ≠ b → (TJ2 a).2.1 ≠ (TJ2 b).2.1 := by decide +kernel
theorem tyJ2_ok : ∀ k, k < 0 → parseFieldDescriptor (TJ2 k).2.2.1 = some (tyJ2 k) := by decide +kernel
abbrev cJ2_getChar_3b067 : ByteArray := prog_20_method_5_code
def yJ2_getChar_3b067 : MethodName := ⟨RJ2, "getChar", "([BI)C"⟩
abbrev cJ2_length_9d52b : ByteArray := prog_20_method_6_code
def yJ2_length_9d52b : MethodName := ⟨RJ2, "length", "([B)I"⟩
abbrev cJ2_indexOf_4cfef : ByteArray := prog_20_method_40_code
def yJ2_indexOf_4cfef : MethodName := ⟨RJ2, "indexOf", "([BIII)I"⟩
abbrev cJ2_indexOfChar_4cfef : ByteArray := prog_20_method_47_code
def yJ2_indexOfChar_4cfef : MethodName := ⟨RJ2, "indexOfChar", "([BIII)I"⟩
abbrev cJ2_indexOfCharUnsafe_4cfef : ByteArray := prog_20_method_48_code
def yJ2_indexOfCharUnsafe_4cfef : MethodName := ⟨RJ2, "indexOfCharUnsafe", "([BIII)I"⟩
abbrev cJ2_indexOfSupplementary_4cfef : ByteArray := prog_20_method_49_code
def yJ2_indexOfSupplementary_4cfef : MethodName := ⟨RJ2, "indexOfSupplementary", "([BIII)I"⟩
abbrev cJ2_charAt_3b067 : ByteArray := prog_20_method_83_code
def yJ2_charAt_3b067 : MethodName := ⟨RJ2, "charAt", "([BI)C"⟩
abbrev cJ2_checkIndex_2214a : ByteArray := prog_20_method_91_code
def yJ2_checkIndex_2214a : MethodName := ⟨RJ2, "checkIndex", "(I[B)V"⟩
abbrev cJ2_checkBoundsBeginEnd_d044e : ByteArray := prog_20_method_93_code
def yJ2_checkBoundsBeginEnd_d044e : MethodName := ⟨RJ2, "checkBoundsBeginEnd", "(II[B)V"⟩
def RJ10 : String := "java/lang/System"
def TJ10 : u_T := fun k => match k with
  | _ => ("", "", "", false)
def tyJ10 : Nat → FieldType := fun k => match k with
  | _ => .int
abbrev wsJ100 : List Cond := u_ws RJ10 TJ10 0
theorem nmJ10 : ∀ a, a < 0 → ∀ b, b < 0 → a ≠ b → (TJ10 a).2.1 ≠ (TJ10 b).2.1 := by decide +kernel
theorem tyJ10_ok : ∀ k, k < 0 → parseFieldDescriptor (TJ10 k).2.2.1 = some (tyJ10 k) := by decide +kernel
def RJxfd54e : String := "java/lang/constant/Constable"
def TJxfd54e : u_T := fun k => match k with
  | _ => ("", "", "", false)
def tyJxfd54e : Nat → FieldType := fun k => match k with
  | _ => .int
abbrev wsJxfd54e0 : List Cond := u_ws RJxfd54e TJxfd54e 0
theorem nmJxfd54e : ∀ a, a < 0 → ∀ b, b < 0 → a ≠ b → (TJxfd54e a).2.1 ≠ (TJxfd54e b).2.1 := by decide +kernel
theorem tyJxfd54e_ok : ∀ k, k < 0 → parseFieldDescriptor (TJxfd54e k).2.2.1 = some (tyJxfd54e k) := by decide +kernel
def RJx3cf43 : String := "java/lang/constant/ConstantDesc"
def TJx3cf43 : u_T := fun k => match k with
  | _ => ("", "", "", false)
def tyJx3cf43 : Nat → FieldType := fun k => match k with
  | _ => .int
abbrev wsJx3cf430 : List Cond := u_ws RJx3cf43 TJx3cf43 0
theorem nmJx3cf43 : ∀ a, a < 0 → ∀ b, b < 0 → a ≠ b → (TJx3cf43 a).2.1 ≠ (TJx3cf43 b).2.1 := by decide +kernel
theorem tyJx3cf43_ok : ∀ k, k < 0 → parseFieldDescriptor (TJx3cf43 k).2.2.1 = some (tyJx3cf43 k) := by decide +kernel
def RJ7 : String := "java/util/Arrays"
def TJ7 : u_T := fun k => match k with
  | _ => ("", "", "", false)
def tyJ7 : Nat → FieldType := fun k => match k with
  | _ => .int
abbrev wsJ70 : List Cond := u_ws RJ7 TJ7 0
theorem nmJ7 : ∀ a, a < 0 → ∀ b, b < 0 → a ≠ b → (TJ7 a).2.1 ≠ (TJ7 b).2.1 := by decide +kernel
theorem tyJ7_ok : ∀ k, k < 0 → parseFieldDescriptor (TJ7 k).2.2.1 = some (tyJ7 k) := by decide +kernel
abbrev cJ7_fill_d0a16 : ByteArray := prog_22_method_101_code
def yJ7_fill_d0a16 : MethodName := ⟨RJ7, "fill", "([JJ)V"⟩
abbrev cJ7_fill_53178 : ByteArray := prog_22_method_103_code
def yJ7_fill_53178 : MethodName := ⟨RJ7, "fill", "([II)V"⟩
def RJ3 : String := "jdk/internal/util/Preconditions"
def TJ3 : u_T := fun k => match k with
  | _ => ("", "", "", false)
def tyJ3 : Nat → FieldType := fun k => match k with
  | _ => .int
abbrev wsJ30 : List Cond := u_ws RJ3 TJ3 0
theorem nmJ3 : ∀ a, a < 0 → ∀ b, b < 0 → a ≠ b → (TJ3 a).2.1 ≠ (TJ3 b).2.1 := by decide +kernel
theorem tyJ3_ok : ∀ k, k < 0 → parseFieldDescriptor (TJ3 k).2.2.1 = some (tyJ3 k) := by decide +kernel
abbrev cJ3_checkIndex_8e157 : ByteArray := prog_23_method_11_code
def yJ3_checkIndex_8e157 : MethodName := ⟨RJ3, "checkIndex", "(IILjava/util/function/BiFunction;)I"⟩
abbrev cJ3_checkFromToIndex_8c36e : ByteArray := prog_23_method_12_code
def yJ3_checkFromToIndex_8c36e : MethodName := ⟨RJ3, "checkFromToIndex", "(IIILjava/util/function/BiFunction;)I"⟩
def RL : String := "LeftTurnsLaw"
abbrev cL_law : ByteArray := code
abbrev vwCl : List vw_C := [(RX0, TX0, 9), (RX1, TX1, 9), (RX2, TX2, 5), (RX3, TX3, 5), (RX4, TX4, 5), (RX5, TX5, 11), (RX6, TX6, 10), (RX7, TX7, 7), (RX8, TX8, 7), (RX9, TX9, 5), (RX10, TX10, 3), (RX11, TX11, 19), (RX12, TX12, 44)]
end
section
/-! base: the good words of the tables, nest facts, a method's context, its world, contracts and the rows that use them -/
def lw_gd : List Cond := lw_tbl.filter goodWord
theorem gd_of {w : Cond} (i : Nat) (h : lw_tbl[i]? = some w) (g : goodWord w = true) : w ∈ lw_gd := List.mem_filter.mpr ⟨List.mem_of_getElem? h, g⟩
theorem gd_1 {w : Cond} (i : Nat) (h : tables_1_1[i]? = some w) (g : goodWord w = true) : w ∈ lw_gd := List.mem_filter.mpr ⟨by have h := List.mem_of_getElem? h; exact (List.mem_append_right _ (List.mem_append_left _ h) : w ∈ k2_sels lw_privs ++ tables_1), g⟩
theorem gd_2 {w : Cond} (i : Nat) (h : tables_1_2[i]? = some w) (g : goodWord w = true) : w ∈ lw_gd := List.mem_filter.mpr ⟨by have h := List.mem_of_getElem? h; exact (List.mem_append_right _ (List.mem_append_right _ (List.mem_append_left _ h)) : w ∈ k2_sels lw_privs ++ tables_1), g⟩
theorem gd_3 {w : Cond} (i : Nat) (h : tables_1_3[i]? = some w) (g : goodWord w = true) : w ∈ lw_gd := List.mem_filter.mpr ⟨by have h := List.mem_of_getElem? h; exact (List.mem_append_right _ (List.mem_append_right _ (List.mem_append_right _ (List.mem_append_left _ h))) : w ∈ k2_sels lw_privs ++ tables_1), g⟩
theorem gd_4 {w : Cond} (i : Nat) (h : tables_1_4[i]? = some w) (g : goodWord w = true) : w ∈ lw_gd := List.mem_filter.mpr ⟨by have h := List.mem_of_getElem? h; exact (List.mem_append_right _ (List.mem_append_right _ (List.mem_append_right _ (List.mem_append_right _ (List.mem_append_left _ h)))) : w ∈ k2_sels lw_privs ++ tables_1), g⟩
theorem gd_5 {w : Cond} (i : Nat) (h : tables_1_5[i]? = some w) (g : goodWord w = true) : w ∈ lw_gd := List.mem_filter.mpr ⟨by have h := List.mem_of_getElem? h; exact (List.mem_append_right _ (List.mem_append_right _ (List.mem_append_right _ (List.mem_append_right _ (List.mem_append_right _ (List.mem_append_left _ h))))) : w ∈ k2_sels lw_privs ++ tables_1), g⟩
theorem gd_6 {w : Cond} (i : Nat) (h : tables_1_6[i]? = some w) (g : goodWord w = true) : w ∈ lw_gd := List.mem_filter.mpr ⟨by have h := List.mem_of_getElem? h; exact (List.mem_append_right _ (List.mem_append_right _ (List.mem_append_right _ (List.mem_append_right _ (List.mem_append_right _ (List.mem_append_right _ (List.mem_append_left _ h)))))) : w ∈ k2_sels lw_privs ++ tables_1), g⟩
theorem gd_7 {w : Cond} (i : Nat) (h : tables_1_7[i]? = some w) (g : goodWord w = true) : w ∈ lw_gd := List.mem_filter.mpr ⟨by have h := List.mem_of_getElem? h; exact (List.mem_append_right _ (List.mem_append_right _ (List.mem_append_right _ (List.mem_append_right _ (List.mem_append_right _ (List.mem_append_right _ (List.mem_append_right _ (List.mem_append_left _ h))))))) : w ∈ k2_sels lw_privs ++ tables_1), g⟩
theorem gd_8 {w : Cond} (i : Nat) (h : tables_1_8[i]? = some w) (g : goodWord w = true) : w ∈ lw_gd := List.mem_filter.mpr ⟨by have h := List.mem_of_getElem? h; exact (List.mem_append_right _ (List.mem_append_right _ (List.mem_append_right _ (List.mem_append_right _ (List.mem_append_right _ (List.mem_append_right _ (List.mem_append_right _ (List.mem_append_right _ (List.mem_append_left _ h)))))))) : w ∈ k2_sels lw_privs ++ tables_1), g⟩
theorem gd_9 {w : Cond} (i : Nat) (h : tables_1_9[i]? = some w) (g : goodWord w = true) : w ∈ lw_gd := List.mem_filter.mpr ⟨by have h := List.mem_of_getElem? h; exact (List.mem_append_right _ (List.mem_append_right _ (List.mem_append_right _ (List.mem_append_right _ (List.mem_append_right _ (List.mem_append_right _ (List.mem_append_right _ (List.mem_append_right _ (List.mem_append_right _ (h))))))))) : w ∈ k2_sels lw_privs ++ tables_1), g⟩
theorem gd_s {w : Cond} (i : Nat) (h : (k2_sels lw_privs)[i]? = some w) (g : goodWord w = true) : w ∈ lw_gd := List.mem_filter.mpr ⟨List.mem_append_left _ (List.mem_of_getElem? h), g⟩
theorem gd_us {C : String} {T : u_T} {N : Nat} (h : ∀ k, k < N → u_lay C T k ∈ lw_gd) : ∀ w ∈ u_ws C T N, w ∈ lw_gd := fun w hw => by
  obtain ⟨k, hk, rfl⟩ := List.mem_map.mp hw
  exact h k (List.mem_range.mp hk)
theorem gd_sub {w : Cond} (h : w ∈ lw_gd) : w ∈ lw_tbl := (List.mem_filter.mp h).1
theorem gd_good {k : Cond} (hk : k ∈ lw_gd) : GoodIn lw_gd (k :: lw_gd) := fun w h => by
  have hm : w ∈ lw_gd := by
    rcases List.mem_cons.mp h with h | h
    · rw [h]; exact hk
    · exact h
  exact ⟨hm, good_of_word (List.mem_filter.mp hm).2⟩
abbrev GG : Type := va_G × (Nat → ClassId)
abbrev tysG (G : GG) : List (ClassId × FieldType) := [(G.2 0, .byte), (G.2 1, .int), (G.2 2, .long), (G.2 3, .boolean), (G.2 4, .object "LeftTurns$City"), (G.2 5, .object "LeftTurns$Folk"), (G.2 6, .object "LeftTurns$Tray"), (G.2 7, .array .int), (G.2 8, .array .long)]
/-- an array of arrays can be made -/
def nx_A (ty : FieldType) (U : State) : Prop := (Cond.arrayOver (.array ty)).before #[] U = true
theorem nx_A.moved {ty : FieldType} {s U : State} (h : s.vm.Alike U.vm) (hZ : nx_A ty s) : nx_A ty U := by
  have e := Cond.arrayOver_setVmC (args := #[]) (s := s) (vm' := U.vm) h (.array ty)
  have e2 : (Cond.arrayOver (.array ty)).before #[] (s.setVm U.vm) = true := e.trans hZ
  exact e2
/-- what a state must know beside the good words: private members of nest mates, arrays of references -/
def Nx (U : State) : Prop :=
  va_Nw (.methodLinkNest "LeftTurns" 11 ⟨"LeftTurns$City", "<init>", "()V"⟩ "LeftTurns") U ∧
  va_Nw (.methodLinkNest "LeftTurns$City" 11 ⟨"LeftTurns$Law", "<init>", "()V"⟩ "LeftTurns") U ∧
  va_Nw (.methodLinkNest "LeftTurns$City" 23 ⟨"LeftTurns$Folk", "<init>", "()V"⟩ "LeftTurns") U ∧
  va_Nw (.methodLinkNest "LeftTurns" 82 ⟨"LeftTurns$Tray", "<init>", "()V"⟩ "LeftTurns") U ∧
  va_Nw (.methodLinkNest "LeftTurns" 97 ⟨"LeftTurns$Folk", "<init>", "()V"⟩ "LeftTurns") U ∧
  va_Nw (.methodLinkNest "LeftTurns" 297 ⟨"LeftTurns$Rounds", "tour", "(IIII)V"⟩ "LeftTurns") U ∧
  va_AO "LeftTurns$City" U ∧ va_AO "LeftTurns$Folk" U ∧ va_AO "LeftTurns$Tray" U ∧ nx_A .int U ∧ nx_A .long U
theorem Nx.moved {s U : State} (hW : s.WarmedH U.vm) (h : Nx s) : Nx U := by
  obtain ⟨h1, h2, h3, h4, h5, h6, h7, h8, h9, h10, h11⟩ := h
  exact ⟨h1.warmM hW, h2.warmM hW, h3.warmM hW, h4.warmM hW, h5.warmM hW, h6.warmM hW, h7.moved hW.alike, h8.moved hW.alike, h9.moved hW.alike, h10.moved hW.alike, h11.moved hW.alike⟩
theorem Nx.same {u U : State} (e : u.vm = U.vm) (h : Nx u) : Nx U := by
  obtain ⟨h1, h2, h3, h4, h5, h6, h7, h8, h9, h10, h11⟩ := h
  have al : u.vm.Alike U.vm := by rw [e]; exact Vm.Alike.refl _
  exact ⟨h1.same rfl e, h2.same rfl e, h3.same rfl e, h4.same rfl e, h5.same rfl e, h6.same rfl e, h7.moved al, h8.moved al, h9.moved al, h10.moved al, h11.moved al⟩
/-- a method's context -/
def Cx (p : Program) (s : State) (m : MethodId) (args : Array Value) (meth : Method) (c : Code) (own : String) (cc : ByteArray) (nL : Nat) (ret : Option FieldType) : Prop :=
  p.tables.exec = Jvm.exec ∧ c.code = cc ∧ c.maxLocals = nL ∧ s.vm.findClass own = some m.cls ∧ (∀ w ∈ lw_gd, w.before args s = true) ∧ meth.sig.returnType = ret ∧ meth.locks = false ∧ Nx s
/-- the world of a method at work: the cells ws -/
def Wd (G : GG) (A : Nat → Prop) (s : State) (H : Heap) (locs : List Loc) (ws : va_W) : Prop :=
  va_K G.1 vwCl (tysG G) s ∧ va_P G.1 vwCl ws H ∧ va_D A ws ∧ va_S A s.heap H locs ∧ ∀ q : Nat, s.heap.size ≤ q → A q
theorem Wd.eq {G : GG} {A : Nat → Prop} {s : State} {H : Heap} {locs : List Loc} {ws ws' : va_W} (h : Wd G A s H locs ws) (e : ws = ws') : Wd G A s H locs ws' := e ▸ h
theorem fm_of {ws ws' : va_W} : ∀ is : List Nat, ∀ ws' : va_W, is.map (fun i => ws[i]?) = ws'.map some → is.filterMap (fun i => ws[i]?) = ws'
  | [], ws', h => by
    cases ws' with
    | nil => rfl
    | cons a l => simp at h
  | i :: is, ws', h => by
    cases ws' with
    | nil => simp at h
    | cons a l =>
      simp only [List.map_cons, List.cons.injEq] at h
      rw [List.filterMap_cons, h.1]
      simp only
      rw [fm_of (ws := ws) (ws' := ws) is l h.2]
theorem Wd.sub {G : GG} {A : Nat → Prop} {s : State} {H : Heap} {locs : List Loc} {ws ws' : va_W} (h : Wd G A s H locs ws) (is : List Nat) (hn : va_nd is = true) (hs : is.map (fun i => ws[i]?) = ws'.map some) : Wd G A s H locs ws' :=
  ⟨h.1, h.2.1.sub is (fm_of (ws := ws) (ws' := ws) is ws' hs), h.2.2.1.sub is hn hs, h.2.2.2⟩
/-- a contract's start -/
def Pr (G : GG) (av : List Value) (ws : va_W) (sz : Nat) : Array Value → State → Prop := va_Pc av (fun U => U.heap.size = sz ∧ va_P G.1 vwCl ws U.heap ∧ va_K G.1 vwCl (tysG G) U ∧ va_D (fun _ => True) ws ∧ Nx U)
theorem Pr.blind (G : GG) (av : List Value) (ws : va_W) (sz : Nat) : FrameBlind (Pr G av ws sz) := fun a U g mk q => by
  obtain ⟨q0, q1, qP, qK, qD, qN⟩ := q
  exact ⟨q0, q1, qP, va_K.moved (u := U) (U := U.calling g mk a) (Vm.Alike.refl U.vm) qK, qD, qN.same rfl⟩
def Bw (G : GG) (A : Nat → Prop) (ws : va_W) (t : State) : Prop := va_P G.1 vwCl ws t.heap ∧ va_D A ws
abbrev QP : Type := (Nat → Prop) → Array Value → State → Outcome → State → Prop
abbrev Ri {S : Type} (G : GG) (post : Int32 → S → Prop) (ws' : S → va_W) : QP := fun A => va_Qi post (fun u t => Bw G A (ws' u) t) A
abbrev Rl {S : Type} (G : GG) (post : Int64 → S → Prop) (ws' : S → va_W) : QP := fun A => va_Ql post (fun u t => Bw G A (ws' u) t) A
abbrev Rv {S : Type} (G : GG) (post : S → Prop) (ws' : S → va_W) : QP := fun A => va_Qv post (fun u t => Bw G A (ws' u) t) A
abbrev rmd (d mc ms : Nat) : Room := { frames := d, cells := mc, slots := ms, locals := 64 * d }
/-- a method's contract: depth d, at most mc cells of ms slots are made -/
def Mt (l : Launch) (y : MethodName) (cc : ByteArray) (nL : Nat) (ret : Option FieldType) (d mc ms : Nat) (G : GG) (av : List Value) (ws : va_W) (Qp : QP) : Prop :=
  ∀ sz : Nat, Met l y (.code y cc nL ret :: lw_gd) (rmd d mc ms) (Pr G av ws sz) (Qp (va_A ws sz)) mc ms (va_A ws sz)
theorem Mt.start {l : Launch} {y : MethodName} {cc : ByteArray} {nL : Nat} {ret : Option FieldType} {d mc ms : Nat} {G : GG} {av : List Value} {ws : va_W} {Qp : QP} (hy : plainName y.cls = true) (hL : (lg_sl av).length ≤ nL)
    (body : ∀ (p : Program) (e : Env) (s : State) (m : MethodId) (below : List Frame) (meth : Method) (c : Code) (A : Nat → Prop) (ls : Array Slot), Cx p s m av.toArray meth c y.cls cc nL ret → meth.name = y.name → Wd G A s s.heap [] ws → lv_has ls nL (lv_args 0 av) →
      W p l e (rmd d mc ms) s m av.toArray below meth c s.heap [] 0 0 (MQ below (Qp A) av.toArray s mc ms A) (F0 m 0 ls [])) : Mt l y cc nL ret d mc ms G av ws Qp := by
  intro sz
  refine Met.ofW (cc := cc) (maxL := nL) (ret := ret) hy rfl ?_
  intro p e s m args below meth c s₁ B hml hv
  obtain ⟨rfl, hsz, hP, hK, hD0, hN⟩ := hv
  have hts := atoms_spec (ws := .code y cc nL ret :: lw_gd) B.pre
  have hown : s.vm.findClass y.cls = some m.cls := findClass_of_methodNamed B.named
  have hin : meth.name = y.name := (name_of_methodNamed B.named B.method).1
  subst hsz
  have hD := hD0.self (sz := s.heap.size)
  have hA : ∀ q : Nat, s.heap.size ≤ q → va_A ws s.heap.size q := fun q h => Or.inr h
  generalize va_A ws s.heap.size = A at hD hA ⊢
  have hl := lv_entry av (n := nL) hL
  rw [lg_entry_eq]
  generalize (lg_sl av ++ List.replicate (nL - (lg_sl av).length) Slot.unset).toArray = ls at hl ⊢
  exact body p e s m below meth c A ls ⟨B.exec, B.bytes, hml, hown, fun w h => hts w (List.mem_cons_of_mem _ h), B.returns, B.notSynchronized, hN⟩ hin ⟨hK, hP, hD, va_S.rf, hA⟩ hl
section MY
variable {p : Program} {l : Launch} {e : Env} {R : Room} {s : State} {m : MethodId} {args : Array Value} {below : List Frame} {meth : Method} {c : Code} {H : Heap} {locs : List Loc} {cells slots : Nat} {Q : State → Prop}
variable {cc : ByteArray} {pc nL : Nat} {ls : Array Slot} {rest st0 : List Value} {G : GG} {A : Nat → Prop} {a : Nat} {ws : va_W} {own : String} {ret : Option FieldType}
/-- getfield -/
theorem m_get (C0 : Cx p s m args meth c own cc nL ret) (h : Wd G A s H locs ws) (q0 : Nat) {ci k N index : Nat} {C : String} {T : u_T} {fs : List Value} {v : Value} (he : ws[q0]? = some (a, .inr (ci, fs))) (hc : vwCl[ci]? = some (C, T, N)) (hin : ∀ w ∈ u_ws C T N, w ∈ lw_gd) (hk : k < N) (hlink : Cond.fieldLink own index (T k).1 (T k).2.1 (T k).2.2.1 ∈ lw_gd) (hv : fs[k]? = some v) (hdg : decode cc pc = .ok (.getfield index, 3))
    (kk : W p l e R s m args below meth c H locs cells slots Q (F0 m (pc + 3) ls (v :: rest))) : W p l e R s m args below meth c H locs cells slots Q (F0 m pc ls (.ref a :: rest)) :=
  va_get C0.1 C0.2.1 C0.2.2.2.2.1 hin C0.2.2.2.1 h.1 h.2.1 q0 he hc k hk (C0.2.2.2.2.1 _ hlink) (fun _ h9 => h9) hv hdg kk
/-- putfield, a field that isn't final -/
theorem m_put (C0 : Cx p s m args meth c own cc nL ret) (h : Wd G A s H locs ws) (q0 : Nat) {ci k N index : Nat} {C : String} {T : u_T} {fs : List Value} {v : Value} {ws' : va_W} (ty0 : Nat → FieldType) (hty : ∀ k, k < N → parseFieldDescriptor (T k).2.2.1 = some (ty0 k)) (hnm : ∀ a, a < N → ∀ b, b < N → a ≠ b → (T a).2.1 ≠ (T b).2.1) (hc : vwCl[ci]? = some (C, T, N)) (hin : ∀ w ∈ u_ws C T N, w ∈ lw_gd) (hk : k < N) (hlink : Cond.fieldLink own index (T k).1 (T k).2.1 (T k).2.2.1 ∈ lw_gd) (hfin : (T k).2.2.2 = false) (he : ws[q0]? = some (a, .inr (ci, fs))) (hl : k < fs.length) (hn : narrow (ty0 k) v = v) (hfit : fits (ty0 k) v = true) (hw : ws.set q0 (a, .inr (ci, fs.set k v)) = ws')
    (hdg : decode cc pc = .ok (.putfield index, 3)) (kk : ∀ (H1 : Heap) (locs1 : List Loc), Wd G A s H1 locs1 ws' → W p l e R s m args below meth c H1 locs1 cells slots Q (F0 m (pc + 3) ls rest)) : W p l e R s m args below meth c H locs cells slots Q (F0 m pc ls (v :: .ref a :: rest)) :=
  va_put C0.1 C0.2.1 C0.2.2.2.2.1 hin ty0 hty hnm C0.2.2.2.1 h.1 h.2.1 h.2.2.1 h.2.2.2.1 q0 he hc k hk (C0.2.2.2.2.1 _ hlink) (fun _ h9 => h9) hfin (hty k hk) hn hfit hl hdg (fun H1 locs1 hP hD hS => kk H1 locs1 (hw ▸ ⟨h.1, hP, hD, hS, h.2.2.2.2⟩))
/-- putfield of a final field, in a constructor -/
theorem m_putF (C0 : Cx p s m args meth c own cc nL ret) (h : Wd G A s H locs ws) (hini : meth.name = "<init>") (q0 : Nat) {ci k N index : Nat} {C : String} {T : u_T} {fs : List Value} {v : Value} {ws' : va_W} (ty0 : Nat → FieldType) (hty : ∀ k, k < N → parseFieldDescriptor (T k).2.2.1 = some (ty0 k)) (hnm : ∀ a, a < N → ∀ b, b < N → a ≠ b → (T a).2.1 ≠ (T b).2.1) (hc : vwCl[ci]? = some (C, T, N)) (hin : ∀ w ∈ u_ws C T N, w ∈ lw_gd) (hk : k < N) (hlink : Cond.fieldLink own index (T k).1 (T k).2.1 (T k).2.2.1 ∈ lw_gd) (hfin : (T k).2.2.2 = true) (hdecl : (T k).1 = own) (he : ws[q0]? = some (a, .inr (ci, fs))) (hl : k < fs.length) (hn : narrow (ty0 k) v = v) (hfit : fits (ty0 k) v = true) (hw : ws.set q0 (a, .inr (ci, fs.set k v)) = ws')
    (hdg : decode cc pc = .ok (.putfield index, 3)) (kk : ∀ (H1 : Heap) (locs1 : List Loc), Wd G A s H1 locs1 ws' → W p l e R s m args below meth c H1 locs1 cells slots Q (F0 m (pc + 3) ls rest)) : W p l e R s m args below meth c H locs cells slots Q (F0 m pc ls (v :: .ref a :: rest)) :=
  va_putF C0.1 C0.2.1 C0.2.2.2.2.1 hin ty0 hty hnm C0.2.2.2.1 h.1 h.2.1 h.2.2.1 h.2.2.2.1 q0 he hc k hk (C0.2.2.2.2.1 _ hlink) (fun _ h9 => h9) hfin hini hdecl (hty k hk) hn hfit hl hdg (fun H1 locs1 hP hD hS => kk H1 locs1 (hw ▸ ⟨h.1, hP, hD, hS, h.2.2.2.2⟩))
theorem nI_cl {i : Int32} {k n : Nat} (hi : i = nI k) (hk : k < n) (hn : n < 2 ^ 31) : vp_in i n ∧ i.toNatClampNeg = k := by
  subst hi
  exact ⟨vp_in_nI hk hn, nI_clamp (Nat.lt_trans hk hn)⟩
/-- int arrays -/
theorem m_iald (C0 : Cx p s m args meth c own cc nL ret) (h : Wd G A s H locs ws) (q0 k : Nat) {n : Nat} {f : Nat → Int32} {i : Int32} (ha : ws[q0]? = some (a, .inl (G.2 1, n, .inl f))) (hi : i = nI k) (hk : k < n) (hn : n < 2 ^ 31) (hdg : decode cc pc = .ok (.iaload, 1))
    (kk : W p l e R s m args below meth c H locs cells slots Q (F0 m (pc + 1) ls (.int (f k) :: rest))) : W p l e R s m args below meth c H locs cells slots Q (F0 m pc ls (.int i :: .ref a :: rest)) := by
  obtain ⟨h1, h2⟩ := nI_cl hi hk hn
  refine va_iald C0.1 C0.2.1 h.1 h.2.1 q0 1 ha rfl h1 hdg ?_
  rw [h2]
  exact kk
theorem m_iast (C0 : Cx p s m args meth c own cc nL ret) (h : Wd G A s H locs ws) (q0 k : Nat) {n : Nat} {f : Nat → Int32} {i x : Int32} {ws' : va_W} (ha : ws[q0]? = some (a, .inl (G.2 1, n, .inl f))) (hi : i = nI k) (hk : k < n) (hn : n < 2 ^ 31) (hw : ws.set q0 (a, .inl (G.2 1, n, .inl (upd f k x))) = ws') (hdg : decode cc pc = .ok (.iastore, 1))
    (kk : ∀ (H1 : Heap) (locs1 : List Loc), Wd G A s H1 locs1 ws' → W p l e R s m args below meth c H1 locs1 cells slots Q (F0 m (pc + 1) ls rest)) : W p l e R s m args below meth c H locs cells slots Q (F0 m pc ls (.int x :: .int i :: .ref a :: rest)) := by
  obtain ⟨h1, h2⟩ := nI_cl hi hk hn
  refine va_iast C0.1 C0.2.1 h.1 h.2.1 h.2.2.1 h.2.2.2.1 q0 1 ha rfl h1 hdg (fun H1 locs1 hP hD hS => ?_)
  rw [h2] at hP hD
  exact kk H1 locs1 (hw ▸ ⟨h.1, hP, hD, hS, h.2.2.2.2⟩)
theorem m_lald (C0 : Cx p s m args meth c own cc nL ret) (h : Wd G A s H locs ws) (q0 k : Nat) {n : Nat} {f : Nat → Int64} {i : Int32} (ha : ws[q0]? = some (a, .inl (G.2 2, n, .inr (.inl f)))) (hi : i = nI k) (hk : k < n) (hn : n < 2 ^ 31) (hdg : decode cc pc = .ok (.laload, 1))
    (kk : W p l e R s m args below meth c H locs cells slots Q (F0 m (pc + 1) ls (.long (f k) :: rest))) : W p l e R s m args below meth c H locs cells slots Q (F0 m pc ls (.int i :: .ref a :: rest)) := by
  obtain ⟨h1, h2⟩ := nI_cl hi hk hn
  refine va_lald C0.1 C0.2.1 h.1 h.2.1 q0 2 ha rfl h1 hdg ?_
  rw [h2]
  exact kk
theorem m_last (C0 : Cx p s m args meth c own cc nL ret) (h : Wd G A s H locs ws) (q0 k : Nat) {n : Nat} {f : Nat → Int64} {i : Int32} {x : Int64} {ws' : va_W} (ha : ws[q0]? = some (a, .inl (G.2 2, n, .inr (.inl f)))) (hi : i = nI k) (hk : k < n) (hn : n < 2 ^ 31) (hw : ws.set q0 (a, .inl (G.2 2, n, .inr (.inl (vp_updL f k x)))) = ws') (hdg : decode cc pc = .ok (.lastore, 1))
    (kk : ∀ (H1 : Heap) (locs1 : List Loc), Wd G A s H1 locs1 ws' → W p l e R s m args below meth c H1 locs1 cells slots Q (F0 m (pc + 1) ls rest)) : W p l e R s m args below meth c H locs cells slots Q (F0 m pc ls (.long x :: .int i :: .ref a :: rest)) := by
  obtain ⟨h1, h2⟩ := nI_cl hi hk hn
  refine va_last C0.1 C0.2.1 h.1 h.2.1 h.2.2.1 h.2.2.2.1 q0 2 ha rfl h1 hdg (fun H1 locs1 hP hD hS => ?_)
  rw [h2] at hP hD
  exact kk H1 locs1 (hw ▸ ⟨h.1, hP, hD, hS, h.2.2.2.2⟩)
theorem m_bald (C0 : Cx p s m args meth c own cc nL ret) (h : Wd G A s H locs ws) (q0 k : Nat) {n : Nat} {f : Nat → Int32} {i : Int32} (ha : ws[q0]? = some (a, .inl (G.2 0, n, .inl f))) (hi : i = nI k) (hk : k < n) (hn : n < 2 ^ 31) (hdg : decode cc pc = .ok (.baload, 1))
    (kk : W p l e R s m args below meth c H locs cells slots Q (F0 m (pc + 1) ls (.int (f k) :: rest))) : W p l e R s m args below meth c H locs cells slots Q (F0 m pc ls (.int i :: .ref a :: rest)) := by
  obtain ⟨h1, h2⟩ := nI_cl hi hk hn
  refine va_bald C0.1 C0.2.1 h.1 h.2.1 q0 0 ha rfl h1 hdg ?_
  rw [h2]
  exact kk
theorem m_bast (C0 : Cx p s m args meth c own cc nL ret) (h : Wd G A s H locs ws) (q0 k : Nat) {n : Nat} {f : Nat → Int32} {i x : Int32} {ws' : va_W} (ha : ws[q0]? = some (a, .inl (G.2 0, n, .inl f))) (hi : i = nI k) (hk : k < n) (hn : n < 2 ^ 31) (hw : ws.set q0 (a, .inl (G.2 0, n, .inl (upd f k (vp_nar .byte x)))) = ws') (hdg : decode cc pc = .ok (.bastore, 1))
    (kk : ∀ (H1 : Heap) (locs1 : List Loc), Wd G A s H1 locs1 ws' → W p l e R s m args below meth c H1 locs1 cells slots Q (F0 m (pc + 1) ls rest)) : W p l e R s m args below meth c H locs cells slots Q (F0 m pc ls (.int x :: .int i :: .ref a :: rest)) := by
  obtain ⟨h1, h2⟩ := nI_cl hi hk hn
  refine va_bast C0.1 C0.2.1 h.1 h.2.1 h.2.2.1 h.2.2.2.1 q0 0 ha rfl h1 hdg (fun H1 locs1 hP hD hS => ?_)
  rw [h2] at hP hD
  exact kk H1 locs1 (hw ▸ ⟨h.1, hP, hD, hS, h.2.2.2.2⟩)
theorem m_zald (C0 : Cx p s m args meth c own cc nL ret) (h : Wd G A s H locs ws) (q0 k : Nat) {n : Nat} {f : Nat → Int32} {i : Int32} (ha : ws[q0]? = some (a, .inl (G.2 3, n, .inl f))) (hi : i = nI k) (hk : k < n) (hn : n < 2 ^ 31) (hdg : decode cc pc = .ok (.baload, 1))
    (kk : W p l e R s m args below meth c H locs cells slots Q (F0 m (pc + 1) ls (.int (f k) :: rest))) : W p l e R s m args below meth c H locs cells slots Q (F0 m pc ls (.int i :: .ref a :: rest)) := by
  obtain ⟨h1, h2⟩ := nI_cl hi hk hn
  refine va_zald C0.1 C0.2.1 h.1 h.2.1 q0 3 ha rfl h1 hdg ?_
  rw [h2]
  exact kk
theorem m_zast (C0 : Cx p s m args meth c own cc nL ret) (h : Wd G A s H locs ws) (q0 k : Nat) {n : Nat} {f : Nat → Int32} {i x : Int32} {ws' : va_W} (ha : ws[q0]? = some (a, .inl (G.2 3, n, .inl f))) (hi : i = nI k) (hk : k < n) (hn : n < 2 ^ 31) (hw : ws.set q0 (a, .inl (G.2 3, n, .inl (upd f k (vp_nar .boolean x)))) = ws') (hdg : decode cc pc = .ok (.bastore, 1))
    (kk : ∀ (H1 : Heap) (locs1 : List Loc), Wd G A s H1 locs1 ws' → W p l e R s m args below meth c H1 locs1 cells slots Q (F0 m (pc + 1) ls rest)) : W p l e R s m args below meth c H locs cells slots Q (F0 m pc ls (.int x :: .int i :: .ref a :: rest)) := by
  obtain ⟨h1, h2⟩ := nI_cl hi hk hn
  refine va_zast C0.1 C0.2.1 h.1 h.2.1 h.2.2.1 h.2.2.2.1 q0 3 ha rfl h1 hdg (fun H1 locs1 hP hD hS => ?_)
  rw [h2] at hP hD
  exact kk H1 locs1 (hw ▸ ⟨h.1, hP, hD, hS, h.2.2.2.2⟩)
/-- an array's length: t0 its type's place in tysG -/
theorem m_alen (C0 : Cx p s m args meth c own cc nL ret) (h : Wd G A s H locs ws) (q0 t0 : Nat) {cA : ClassId} {x : vp_A} {ty : FieldType} {v : Int32} (ha : ws[q0]? = some (a, .inl (cA, x))) (ht : (tysG G)[t0]? = some (cA, ty)) (hv : Int32.ofNat x.1 = v) (hdg : decode cc pc = .ok (.arraylength, 1))
    (kk : W p l e R s m args below meth c H locs cells slots Q (F0 m (pc + 1) ls (.int v :: rest))) : W p l e R s m args below meth c H locs cells slots Q (F0 m pc ls (.ref a :: rest)) :=
  va_alen C0.1 C0.2.1 h.1 h.2.1 q0 t0 ha ht hv hdg kk
/-- arrays of objects -/
theorem m_aald (C0 : Cx p s m args meth c own cc nL ret) (h : Wd G A s H locs ws) (q0 t0 k : Nat) {cA : ClassId} {C : String} {n : Nat} {f : Nat → Option Nat} {i : Int32} (ha : ws[q0]? = some (a, .inl (cA, n, .inr (.inr (.inr (.inr f)))))) (ht : (tysG G)[t0]? = some (cA, .object C)) (hi : i = nI k) (hk : k < n) (hn : n < 2 ^ 31) (hdg : decode cc pc = .ok (.aaload, 1))
    (kk : W p l e R s m args below meth c H locs cells slots Q (F0 m (pc + 1) ls (va_rf (f k) :: rest))) : W p l e R s m args below meth c H locs cells slots Q (F0 m pc ls (.int i :: .ref a :: rest)) := by
  obtain ⟨h1, h2⟩ := nI_cl hi hk hn
  refine va_aldq C0.1 C0.2.1 h.1 h.2.1 q0 t0 ha ht h1 hdg ?_
  rw [h2]
  exact kk
theorem m_aast (C0 : Cx p s m args meth c own cc nL ret) (h : Wd G A s H locs ws) (q0 t0 qk ci k : Nat) {cA : ClassId} {r : vw_C} {n v : Nat} {vs : List Value} {f : Nat → Option Nat} {i : Int32} {ws' : va_W} (ha : ws[q0]? = some (a, .inl (cA, n, .inr (.inr (.inr (.inr f)))))) (ht : (tysG G)[t0]? = some (cA, .object r.1)) (hv : ws[qk]? = some (v, .inr (ci, vs))) (hc : vwCl[ci]? = some r) (hi : i = nI k) (hk : k < n) (hn : n < 2 ^ 31) (hw : ws.set q0 (a, .inl (cA, n, .inr (.inr (.inr (.inr (va_up f k (some v))))))) = ws') (hdg : decode cc pc = .ok (.aastore, 1))
    (kk : ∀ (H1 : Heap) (locs1 : List Loc), Wd G A s H1 locs1 ws' → W p l e R s m args below meth c H1 locs1 cells slots Q (F0 m (pc + 1) ls rest)) : W p l e R s m args below meth c H locs cells slots Q (F0 m pc ls (.ref v :: .int i :: .ref a :: rest)) := by
  obtain ⟨h1, h2⟩ := nI_cl hi hk hn
  refine va_astq C0.1 C0.2.1 h.1 h.2.1 h.2.2.1 h.2.2.2.1 q0 t0 qk ci ha ht hv hc h1 hdg (fun H1 locs1 hP hD hS => ?_)
  rw [h2] at hP hD
  exact kk H1 locs1 (hw ▸ ⟨h.1, hP, hD, hS, h.2.2.2.2⟩)
/-- new of an object -/
theorem m_new (C0 : Cx p s m args meth c own cc nL ret) (h : Wd G A s H locs ws) {ci N index : Nat} {C : String} {T : u_T} {fs : List Value} (ty0 : Nat → FieldType) (hty : ∀ k, k < N → parseFieldDescriptor (T k).2.2.1 = some (ty0 k)) (hc : vwCl[ci]? = some (C, T, N)) (hin : ∀ w ∈ u_ws C T N, w ∈ lw_gd) (hcl : Cond.classLink own index C ∈ lw_gd) (hinst : Cond.instantiable C N ∈ lw_gd) (hini : Cond.initialized C ∈ lw_gd) (hfs : ∀ j, j < N → defaultValue (ty0 j) = vp_V fs j) (hcells : cells + 1 ≤ R.cells) (hslots : slots + N ≤ R.slots) (hdg : decode cc pc = .ok (.new index, 3))
    (kk : ∀ (q : Nat) (H1 : Heap), Wd G A s H1 locs (ws ++ [(q, .inr (ci, fs))]) → W p l e R s m args below meth c H1 locs (cells + 1) (slots + N) Q (F0 m (pc + 3) ls (.ref q :: rest))) : W p l e R s m args below meth c H locs cells slots Q (F0 m pc ls rest) :=
  va_new C0.1 C0.2.1 C0.2.2.2.2.1 hin ty0 hty C0.2.2.2.1 (C0.2.2.2.2.1 _ hcl) (C0.2.2.2.2.1 _ hinst) (C0.2.2.2.2.1 _ hini) h.1 h.2.1 h.2.2.1 h.2.2.2.1 h.2.2.2.2 hc hfs hcells hslots hdg (fun q H1 hP hD hS => kk q H1 ⟨h.1, hP, hD, hS, h.2.2.2.2⟩)
theorem tys_prim {k : Nat} {ty : FieldType} {cA cB : ClassId} {tys : List (ClassId × FieldType)} (hp : refKind ty = false) (h1 : va_K G.1 vwCl tys s) (hk : tys[k]? = some (cA, ty)) (h2 : va_K G.1 vwCl (tys ++ [(cB, ty)]) s) : cB = cA := by
  have a1 := (h1.2 k _ hk).2
  have a2 := (h2.2 tys.length (cB, ty) (by simp)).2
  cases ty <;> first | (simp [refKind] at hp; done) | (have e := a1.symm.trans a2; exact (Option.some.inj e).symm)
/-- new of an array of numbers: t0 its type's place in tysG -/
theorem m_newa (C0 : Cx p s m args meth c own cc nL ret) (h : Wd G A s H locs ws) (t0 : Nat) {atype : ArrayType} {ty : FieldType} {cA : ClassId} {n : Int32} {N : Nat} {a0 : vp_A} (hty : newarray.typeOf atype = ty) (hp : refKind ty = false) (ht : (tysG G)[t0]? = some (cA, ty)) (harr : Cond.arrayClass (newarray.typeOf atype) ∈ lw_gd) (ha : ∀ cA : ClassId, vp_cell cA a0 = arrV cA N (fun _ => defaultValue ty)) (hn : ¬ n < 0) (hN : n.toNatClampNeg = N) (hbytes : N * componentBytes ty ≤ 536870912) (hcells : cells + 1 ≤ R.cells) (hslots : slots + N ≤ R.slots) (hdg : decode cc pc = .ok (.newarray atype, 2))
    (kk : ∀ (q : Nat) (H1 : Heap), Wd G A s H1 locs (ws ++ [(q, .inl (cA, a0))]) → W p l e R s m args below meth c H1 locs (cells + 1) (slots + N) Q (F0 m (pc + 2) ls (.ref q :: rest))) : W p l e R s m args below meth c H locs cells slots Q (F0 m pc ls (.int n :: rest)) := by
  refine va_newa C0.1 C0.2.1 (C0.2.2.2.2.1 _ harr) hty h.1 h.2.1 h.2.2.1 h.2.2.2.1 h.2.2.2.2 ha hn hN hbytes hcells hslots hdg (fun q cB H1 hK hP hD hS => ?_)
  have e := tys_prim hp h.1 ht hK
  subst e
  exact kk q H1 ⟨h.1, hP, hD, hS, h.2.2.2.2⟩
theorem tys_obj {k : Nat} {C : String} {cA cB : ClassId} {tys : List (ClassId × FieldType)} (h1 : va_K G.1 vwCl tys s) (hk : tys[k]? = some (cA, .object C)) (h2 : va_K G.1 vwCl (tys ++ [(cB, .object C)]) s) : cB = cA := by
  obtain ⟨_, _, _, _, _, a1⟩ := (h1.2 k _ hk).2
  obtain ⟨_, _, _, _, _, a2⟩ := (h2.2 tys.length (cB, .object C) (by simp)).2
  exact (Option.some.inj (a1.symm.trans a2)).symm
/-- new of an array of objects -/
theorem m_newq (C0 : Cx p s m args meth c own cc nL ret) (h : Wd G A s H locs ws) (t0 : Nat) {C : String} {index : Nat} {cA : ClassId} {n : Int32} {N : Nat} (ht : (tysG G)[t0]? = some (cA, .object C)) (hclink : Cond.classLink own index C ∈ lw_gd) (hover : va_AO C s) (hn : ¬ n < 0) (hN : n.toNatClampNeg = N) (hbytes : N * 4 ≤ 536870912) (hcells : cells + 1 ≤ R.cells) (hslots : slots + N ≤ R.slots) (hdg : decode cc pc = .ok (.anewarray index, 3))
    (kk : ∀ (q : Nat) (H1 : Heap), Wd G A s H1 locs (ws ++ [(q, .inl (cA, N, .inr (.inr (.inr (.inr (fun _ => none))))))]) → W p l e R s m args below meth c H1 locs (cells + 1) (slots + N) Q (F0 m (pc + 3) ls (.ref q :: rest))) : W p l e R s m args below meth c H locs cells slots Q (F0 m pc ls (.int n :: rest)) := by
  refine va_newq C0.1 C0.2.1 C0.2.2.2.1 (C0.2.2.2.2.1 _ hclink) hover h.1 h.2.1 h.2.2.1 h.2.2.2.1 h.2.2.2.2 hn hN hbytes hcells hslots hdg (fun q cB H1 hK hP hD hS => ?_)
  have e := tys_obj h.1 ht hK
  subst e
  exact kk q H1 ⟨h.1, hP, hD, hS, h.2.2.2.2⟩
/-- Object.<init> -/
theorem m_objInit (C0 : Cx p s m args meth c own cc nL ret) (hl : ls.size = nL) {idx : Nat} (hlink : Cond.methodLink own idx Lib.objectInit ∈ lw_gd) (hinst : Cond.instanceMethod Lib.objectInit ∈ lw_gd) (hcode : Cond.code Lib.objectInit ⟨#[0xb1]⟩ 1 none ∈ lw_gd) (hd : decode cc pc = .ok (.invokespecial idx, 3)) (hframes : 1 ≤ R.frames) (hlocals : (rest.map fun v => v.category).sum + 12 ≤ R.locals)
    (kk : W p l e R s m args below meth c H locs cells slots Q (F0 m (pc + 3) ls rest)) : W p l e R s m args below meth c H locs cells slots Q (F0 m pc ls (.ref a :: rest)) := by
  refine W.objInit C0.1 C0.2.1 C0.2.2.2.1 (C0.2.2.2.2.1 _ hlink) (C0.2.2.2.2.1 _ hinst) (C0.2.2.2.2.1 _ hcode) rfl (by rw [C0.2.2.1]; exact hl) rfl hd hframes ?_ kk
  have e : (F0 m pc ls (Value.ref a :: rest)).monitorRoom = 0 := rfl
  rw [e]
  omega
/-- System.arraycopy of ints -/
theorem m_copyi (C0 : Cx p s m args meth c own cc nL ret) (h : Wd G A s H locs ws) (hls : ls.size = nL) (q0 q1 : Nat) {index a0 n0 n1 : Nat} {f g : Nat → Int32} {sp dp n : Int32} {ws' : va_W} (hlink : Cond.methodLink own index arraycopyName ∈ lw_gd) (hnat : Cond.native arraycopyName ∈ lw_gd) (hstat : Cond.static arraycopyName ∈ lw_gd) (hini : Cond.initialized "java/lang/System" ∈ lw_gd) (ha0 : ws[q0]? = some (a0, .inl (G.2 1, n0, .inl f))) (ha1 : ws[q1]? = some (a, .inl (G.2 1, n1, .inl g))) (h1 : ¬ sp < 0) (h2 : ¬ dp < 0) (h3 : ¬ n < 0) (h4 : sp.toNatClampNeg + n.toNatClampNeg ≤ n0) (h5 : dp.toNatClampNeg + n.toNatClampNeg ≤ n1) (hw : ws.set q1 (a, .inl (G.2 1, n1, .inl (va_cpy f g sp.toNatClampNeg dp.toNatClampNeg n.toNatClampNeg))) = ws') (hframes : 1 ≤ R.frames) (hlocals : (rest.map fun v => v.category).sum + (nativeFrameWords "java/lang/System" "arraycopy" 5 + 11) ≤ R.locals) (hdg : decode cc pc = .ok (.invokestatic index, 3))
    (kk : ∀ (H1 : Heap) (locs1 : List Loc), Wd G A s H1 locs1 ws' → W p l e R s m args below meth c H1 locs1 cells slots Q (F0 m (pc + 3) ls rest)) : W p l e R s m args below meth c H locs cells slots Q (F0 m pc ls (.int n :: .int dp :: .ref a :: .int sp :: .ref a0 :: rest)) :=
  va_copyi C0.1 C0.2.1 (by rw [C0.2.2.1]; exact hls.symm) C0.2.2.2.1 (C0.2.2.2.2.1 _ hlink) (C0.2.2.2.2.1 _ hnat) (C0.2.2.2.2.1 _ hstat) (C0.2.2.2.2.1 _ hini) h.1 h.2.1 h.2.2.1 h.2.2.2.1 q0 q1 1 1 ha0 ha1 rfl rfl rfl h1 h2 h3 h4 h5 (fun _ _ => rfl) hframes hlocals hdg (fun H1 locs1 hP hD hS => kk H1 locs1 (hw ▸ ⟨h.1, hP, hD, hS, h.2.2.2.2⟩))
/-- the words of a callee -/
def Yk (y : MethodName) (cc : ByteArray) (nL : Nat) (ret : Option FieldType) (n : Nat) : Prop :=
  Cond.code y cc nL ret ∈ lw_gd ∧ Cond.initialized y.cls ∈ lw_gd ∧ y.cls ≠ "java/lang/invoke/MethodHandle" ∧ y.cls ≠ "java/lang/invoke/VarHandle" ∧ (parseMethodDescriptor y.desc).map (fun d => d.parameters.length) = some n
theorem Yk.cb {own : String} {y : MethodName} {cc : ByteArray} {nL n index d mc ms : Nat} {ret : Option FieldType} (hy : Yk y cc nL ret n) (hts : ∀ w ∈ lw_gd, w.before args s = true) (hl : Cond.methodLink own index y ∈ lw_gd) (hR : d + 1 ≤ R.frames ∧ 8 + (nL + 11) + 64 * d ≤ R.locals) : CallB R s args own index y cc nL ret (.code y cc nL ret :: lw_gd) (rmd d mc ms) mc ms n :=
  callB_of n hts (gd_good hy.1) rfl rfl rfl (hts _ hy.2.1) (hts _ hl) hy.2.2 hR
theorem Yk.cn {own host : String} {y : MethodName} {cc : ByteArray} {nL n index d mc ms : Nat} {ret : Option FieldType} (hy : Yk y cc nL ret n) (hts : ∀ w ∈ lw_gd, w.before args s = true) (hl : va_Nw (.methodLinkNest own index y host) s) (hR : d + 1 ≤ R.frames ∧ 8 + (nL + 11) + 64 * d ≤ R.locals) : va_CN R s args own index y host cc nL ret (.code y cc nL ret :: lw_gd) (rmd d mc ms) mc ms n :=
  va_cnB n hts (gd_good hy.1) rfl rfl rfl hl (hts _ hy.2.1) hy.2.2 hR
/-- the callee's start, out of the caller's world -/
theorem Pr.ofW (C0 : Cx p s m args meth c own cc nL ret) (h : Wd G A s H locs ws) {av : List Value} {wc : va_W} (isC : List Nat) (hn : va_nd isC = true) (hC : isC.map (fun i => ws[i]?) = wc.map some) : ∀ U : State, U.heap = H → s.WarmedH U.vm → Pr G av wc H.size av.toArray U := fun U hU hW =>
  ⟨rfl, by rw [hU], by rw [hU]; exact h.2.1.sub isC (fm_of (ws := ws) (ws' := ws) isC wc hC), va_K.moved hW.alike h.1, (h.2.2.1.sub isC hn hC).weaken (fun _ _ _ _ => trivial), C0.2.2.2.2.2.2.2.moved hW⟩
theorem Wd.back {wc wr w1 : va_W} {H1 : Heap} {locs1 : List Loc} (h : Wd G A s H locs ws) (isC isR : List Nat) (hC : isC.map (fun i => ws[i]?) = wc.map some) (hR : isR.map (fun i => ws[i]?) = wr.map some) (hn : va_nd isR = true) (hdis : ∀ i ∈ isR, i ∉ isC)
    (hk : ∀ q : Nat, q < H.size → ¬ va_A wc H.size q → H1[q]? = H[q]?) (hB : va_P G.1 vwCl w1 H1 ∧ va_D (va_A wc H.size) w1) (hS : va_S A s.heap H1 locs1) : Wd G A s H1 locs1 (wr ++ w1) := by
  obtain ⟨hP, hD⟩ := va_join h.2.1 h.2.2.1 isC isR hC hR hn hdis hk (va_free h.2.2.1 h.2.2.2.1 h.2.2.2.2 isC hC) hB.1 hB.2
  exact ⟨h.1, hP, hD, hS, h.2.2.2.2⟩
/-- a call's run goes on with its answer -/
theorem m_cli {S : Type} {post : Int32 → S → Prop} {ws' : S → va_W} {wc wr : va_W} {av : Array Value} {mc ms : Nat} (h : Wd G A s H locs ws) (hr : va_Run p l e R s m args below meth c H locs cells slots mc ms (F0 m pc ls st0) rest (Ri G post ws' (va_A wc H.size) av) (va_A wc H.size)) (isC isR : List Nat) (hC : isC.map (fun i => ws[i]?) = wc.map some) (hR : isR.map (fun i => ws[i]?) = wr.map some) (hn : va_nd isR = true) (hdis : ∀ i ∈ isR, i ∉ isC)
    (kk : ∀ (r : Int32) (u : S) (H1 : Heap) (locs1 : List Loc), post r u → Wd G A s H1 locs1 (wr ++ ws' u) → W p l e R s m args below meth c H1 locs1 (cells + mc) (slots + ms) Q (F0 m (pc + 3) ls (.int r :: rest))) : W p l e R s m args below meth c H locs cells slots Q (F0 m pc ls st0) := by
  have hF := va_free h.2.2.1 h.2.2.2.1 h.2.2.2.2 isC hC
  refine va_calli hr h.2.2.2.1 (fun q _ hq => hF q hq) hF (fun r u t H1 locs1 ht _ hp hB _ hk hS => ?_)
  unfold Bw at hB
  rw [ht] at hB
  exact kk r u H1 locs1 hp (h.back isC isR hC hR hn hdis hk hB hS)
theorem m_cll {S : Type} {post : Int64 → S → Prop} {ws' : S → va_W} {wc wr : va_W} {av : Array Value} {mc ms : Nat} (h : Wd G A s H locs ws) (hr : va_Run p l e R s m args below meth c H locs cells slots mc ms (F0 m pc ls st0) rest (Rl G post ws' (va_A wc H.size) av) (va_A wc H.size)) (isC isR : List Nat) (hC : isC.map (fun i => ws[i]?) = wc.map some) (hR : isR.map (fun i => ws[i]?) = wr.map some) (hn : va_nd isR = true) (hdis : ∀ i ∈ isR, i ∉ isC)
    (kk : ∀ (r : Int64) (u : S) (H1 : Heap) (locs1 : List Loc), post r u → Wd G A s H1 locs1 (wr ++ ws' u) → W p l e R s m args below meth c H1 locs1 (cells + mc) (slots + ms) Q (F0 m (pc + 3) ls (.long r :: rest))) : W p l e R s m args below meth c H locs cells slots Q (F0 m pc ls st0) := by
  have hF := va_free h.2.2.1 h.2.2.2.1 h.2.2.2.2 isC hC
  refine va_calll hr h.2.2.2.1 (fun q _ hq => hF q hq) hF (fun r u t H1 locs1 ht _ hp hB _ hk hS => ?_)
  unfold Bw at hB
  rw [ht] at hB
  exact kk r u H1 locs1 hp (h.back isC isR hC hR hn hdis hk hB hS)
theorem m_clv {S : Type} {post : S → Prop} {ws' : S → va_W} {wc wr : va_W} {av : Array Value} {mc ms : Nat} (h : Wd G A s H locs ws) (hr : va_Run p l e R s m args below meth c H locs cells slots mc ms (F0 m pc ls st0) rest (Rv G post ws' (va_A wc H.size) av) (va_A wc H.size)) (isC isR : List Nat) (hC : isC.map (fun i => ws[i]?) = wc.map some) (hR : isR.map (fun i => ws[i]?) = wr.map some) (hn : va_nd isR = true) (hdis : ∀ i ∈ isR, i ∉ isC)
    (kk : ∀ (u : S) (H1 : Heap) (locs1 : List Loc), post u → Wd G A s H1 locs1 (wr ++ ws' u) → W p l e R s m args below meth c H1 locs1 (cells + mc) (slots + ms) Q (F0 m (pc + 3) ls rest)) : W p l e R s m args below meth c H locs cells slots Q (F0 m pc ls st0) := by
  have hF := va_free h.2.2.1 h.2.2.2.1 h.2.2.2.2 isC hC
  refine va_callv hr h.2.2.2.1 (fun q _ hq => hF q hq) hF (fun u t H1 locs1 ht _ hp hB _ hk hS => ?_)
  unfold Bw at hB
  rw [ht] at hB
  exact kk u H1 locs1 hp (h.back isC isR hC hR hn hdis hk hB hS)
/-- the runs: virtual, static, constructors, of nest mates -/
theorem m_rV {y : MethodName} {c2 : ByteArray} {n2 index n d mc ms ci q0 : Nat} {r2 : Option FieldType} {b : Nat} {As : List Value} {wc : va_W} {Qp : QP} {vc : vw_C} {fs : List Value} (C0 : Cx p s m args meth c own cc nL ret) (h : Wd G A s H locs ws) (hM : Mt l y c2 n2 r2 d mc ms G (.ref b :: As) wc Qp) (hy : Yk y c2 n2 r2 n) (hin : Cond.instanceMethod y ∈ lw_gd) (hsel : Cond.selects y.cls y y ∈ lw_gd) (hl : Cond.methodLink own index y ∈ lw_gd) (hc : vwCl[ci]? = some vc) (hvc : vc.1 = y.cls) (he : ws[q0]? = some (b, .inr (ci, fs))) (isC : List Nat) (hnd : va_nd isC = true) (hC : isC.map (fun i => ws[i]?) = wc.map some) (hls : ls.size = nL) (hn : As.length = n) (hst : st0 = As.reverse ++ .ref b :: rest) (hrest : (rest.map fun v => v.category).sum ≤ 8) (hdg : decode cc pc = .ok (.invokevirtual index, 3)) (hR : d + 1 ≤ R.frames ∧ 8 + (n2 + 11) + 64 * d ≤ R.locals) (hf : cells + mc ≤ R.cells ∧ slots + ms ≤ R.slots) :
    va_Run p l e R s m args below meth c H locs cells slots mc ms (F0 m pc ls st0) rest (Qp (va_A wc H.size) (Value.ref b :: As).toArray) (va_A wc H.size) := by
  obtain ⟨cell, r1, r2', r3⟩ := va_recv h.1 h.2.1 hc he
  rw [hvc] at r3
  exact va_runV ⟨C0.1, C0.2.1, C0.2.2.1, C0.2.2.2.1, C0.2.2.2.2.1⟩ (hM H.size) ⟨hy.cb C0.2.2.2.2.1 hl hR, C0.2.2.2.2.1 _ hin, C0.2.2.2.2.1 _ hsel⟩ ⟨Pr.blind G _ wc H.size, ⟨cell, r1, r2', r3⟩, Pr.ofW C0 h isC hnd hC⟩ rfl hn hls hst (lv_room hrest) hdg hf
theorem m_rVN {y : MethodName} {c2 : ByteArray} {n2 index n d mc ms ci q0 : Nat} {r2 : Option FieldType} {b : Nat} {As : List Value} {wc : va_W} {Qp : QP} {vc : vw_C} {fs : List Value} {host : String} (C0 : Cx p s m args meth c own cc nL ret) (h : Wd G A s H locs ws) (hM : Mt l y c2 n2 r2 d mc ms G (.ref b :: As) wc Qp) (hy : Yk y c2 n2 r2 n) (hin : Cond.instanceMethod y ∈ lw_gd) (hsel : Cond.selects y.cls y y ∈ lw_gd) (hl : va_Nw (.methodLinkNest own index y host) s) (hc : vwCl[ci]? = some vc) (hvc : vc.1 = y.cls) (he : ws[q0]? = some (b, .inr (ci, fs))) (isC : List Nat) (hnd : va_nd isC = true) (hC : isC.map (fun i => ws[i]?) = wc.map some) (hls : ls.size = nL) (hn : As.length = n) (hst : st0 = As.reverse ++ .ref b :: rest) (hrest : (rest.map fun v => v.category).sum ≤ 8) (hdg : decode cc pc = .ok (.invokevirtual index, 3)) (hR : d + 1 ≤ R.frames ∧ 8 + (n2 + 11) + 64 * d ≤ R.locals) (hf : cells + mc ≤ R.cells ∧ slots + ms ≤ R.slots) :
    va_Run p l e R s m args below meth c H locs cells slots mc ms (F0 m pc ls st0) rest (Qp (va_A wc H.size) (Value.ref b :: As).toArray) (va_A wc H.size) := by
  obtain ⟨cell, r1, r2', r3⟩ := va_recv h.1 h.2.1 hc he
  rw [hvc] at r3
  exact va_runVN ⟨C0.1, C0.2.1, C0.2.2.1, C0.2.2.2.1, C0.2.2.2.2.1⟩ (hM H.size) ⟨hy.cn C0.2.2.2.2.1 hl hR, C0.2.2.2.2.1 _ hin, C0.2.2.2.2.1 _ hsel⟩ ⟨Pr.blind G _ wc H.size, ⟨cell, r1, r2', r3⟩, Pr.ofW C0 h isC hnd hC⟩ rfl hn hls hst (lv_room hrest) hdg hf
theorem m_rS {y : MethodName} {c2 : ByteArray} {n2 index n d mc ms : Nat} {r2 : Option FieldType} {As : List Value} {wc : va_W} {Qp : QP} (C0 : Cx p s m args meth c own cc nL ret) (h : Wd G A s H locs ws) (hM : Mt l y c2 n2 r2 d mc ms G As wc Qp) (hy : Yk y c2 n2 r2 n) (hstat : Cond.static y ∈ lw_gd) (hl : Cond.methodLink own index y ∈ lw_gd) (isC : List Nat) (hnd : va_nd isC = true) (hC : isC.map (fun i => ws[i]?) = wc.map some) (hls : ls.size = nL) (hn : As.length = n) (hst : st0 = As.reverse ++ rest) (hrest : (rest.map fun v => v.category).sum ≤ 8) (hdg : decode cc pc = .ok (.invokestatic index, 3)) (hR : d + 1 ≤ R.frames ∧ 8 + (n2 + 11) + 64 * d ≤ R.locals) (hf : cells + mc ≤ R.cells ∧ slots + ms ≤ R.slots) :
    va_Run p l e R s m args below meth c H locs cells slots mc ms (F0 m pc ls st0) rest (Qp (va_A wc H.size) As.toArray) (va_A wc H.size) :=
  va_runS ⟨C0.1, C0.2.1, C0.2.2.1, C0.2.2.2.1, C0.2.2.2.2.1⟩ (hM H.size) ⟨hy.cb C0.2.2.2.2.1 hl hR, C0.2.2.2.2.1 _ hstat⟩ ⟨Pr.blind G _ wc H.size, Pr.ofW C0 h isC hnd hC⟩ rfl hn hls hst (lv_room hrest) hdg hf
theorem m_rI {y : MethodName} {c2 : ByteArray} {n2 index n d mc ms : Nat} {b : Nat} {As : List Value} {wc : va_W} {Qp : QP} (C0 : Cx p s m args meth c own cc nL ret) (h : Wd G A s H locs ws) (hM : Mt l y c2 n2 none d mc ms G (.ref b :: As) wc Qp) (hy : Yk y c2 n2 none n) (hyi : y.name = "<init>") (hin : Cond.instanceMethod y ∈ lw_gd) (hl : Cond.methodLink own index y ∈ lw_gd) (isC : List Nat) (hnd : va_nd isC = true) (hC : isC.map (fun i => ws[i]?) = wc.map some) (hls : ls.size = nL) (hn : As.length = n) (hst : st0 = As.reverse ++ .ref b :: rest) (hrest : (rest.map fun v => v.category).sum ≤ 8) (hdg : decode cc pc = .ok (.invokespecial index, 3)) (hR : d + 1 ≤ R.frames ∧ 8 + (n2 + 11) + 64 * d ≤ R.locals) (hf : cells + mc ≤ R.cells ∧ slots + ms ≤ R.slots) :
    va_Run p l e R s m args below meth c H locs cells slots mc ms (F0 m pc ls st0) rest (Qp (va_A wc H.size) (Value.ref b :: As).toArray) (va_A wc H.size) :=
  va_runI ⟨C0.1, C0.2.1, C0.2.2.1, C0.2.2.2.1, C0.2.2.2.2.1⟩ (hM H.size) ⟨hy.cb C0.2.2.2.2.1 hl hR, hyi, C0.2.2.2.2.1 _ hin⟩ ⟨Pr.blind G _ wc H.size, Pr.ofW C0 h isC hnd hC⟩ rfl hn hls hst (lv_room hrest) hdg hf
theorem m_rIN {y : MethodName} {c2 : ByteArray} {n2 index n d mc ms : Nat} {b : Nat} {As : List Value} {wc : va_W} {Qp : QP} {host : String} (C0 : Cx p s m args meth c own cc nL ret) (h : Wd G A s H locs ws) (hM : Mt l y c2 n2 none d mc ms G (.ref b :: As) wc Qp) (hy : Yk y c2 n2 none n) (hyi : y.name = "<init>") (hin : Cond.instanceMethod y ∈ lw_gd) (hl : va_Nw (.methodLinkNest own index y host) s) (isC : List Nat) (hnd : va_nd isC = true) (hC : isC.map (fun i => ws[i]?) = wc.map some) (hls : ls.size = nL) (hn : As.length = n) (hst : st0 = As.reverse ++ .ref b :: rest) (hrest : (rest.map fun v => v.category).sum ≤ 8) (hdg : decode cc pc = .ok (.invokespecial index, 3)) (hR : d + 1 ≤ R.frames ∧ 8 + (n2 + 11) + 64 * d ≤ R.locals) (hf : cells + mc ≤ R.cells ∧ slots + ms ≤ R.slots) :
    va_Run p l e R s m args below meth c H locs cells slots mc ms (F0 m pc ls st0) rest (Qp (va_A wc H.size) (Value.ref b :: As).toArray) (va_A wc H.size) :=
  va_runIN ⟨C0.1, C0.2.1, C0.2.2.1, C0.2.2.2.1, C0.2.2.2.2.1⟩ (hM H.size) ⟨hy.cn C0.2.2.2.2.1 hl hR, hyi, C0.2.2.2.2.1 _ hin⟩ ⟨Pr.blind G _ wc H.size, Pr.ofW C0 h isC hnd hC⟩ rfl hn hls hst (lv_room hrest) hdg hf
/-- a method's end -/
theorem m_iret {S : Type} {post : Int32 → S → Prop} {ws' : S → va_W} {mc ms : Nat} {v : Int32} (u : S) (C0 : Cx p s m args meth c own cc nL (some .int)) (h : Wd G A s H locs ws) (is : List Nat) (hn : va_nd is = true) (hs : is.map (fun i => ws[i]?) = (ws' u).map some) (hp : post v u) (hc : cells ≤ mc) (hsl : slots ≤ ms) (hdg : decode cc pc = .ok (.ireturn, 1)) :
    W p l e R s m args below meth c H locs cells slots (MQ below (Ri G post ws' A) args s mc ms A) (F0 m pc ls [.int v]) := by
  have h2 := h.sub is hn hs
  refine W.widen (k := mc) (n := ms) hc hsl ?_
  exact W.iret C0.1 C0.2.1 C0.2.2.2.2.2.1 (fun t ht hW => ⟨⟨v, u, rfl, hp, by rw [ht]; exact h2.2.1, h2.2.2.1⟩, h2.2.2.2.1.F ht⟩) h2.2.2.2.1.2.2 hdg C0.2.2.2.2.2.2.1
theorem m_zret {S : Type} {post : Int32 → S → Prop} {ws' : S → va_W} {mc ms : Nat} {v : Int32} (u : S) (C0 : Cx p s m args meth c own cc nL (some .boolean)) (h : Wd G A s H locs ws) (hv : narrow .boolean (.int v) = .int v) (is : List Nat) (hn : va_nd is = true) (hs : is.map (fun i => ws[i]?) = (ws' u).map some) (hp : post v u) (hc : cells ≤ mc) (hsl : slots ≤ ms) (hdg : decode cc pc = .ok (.ireturn, 1)) :
    W p l e R s m args below meth c H locs cells slots (MQ below (Ri G post ws' A) args s mc ms A) (F0 m pc ls [.int v]) := by
  have h2 := h.sub is hn hs
  refine W.widen (k := mc) (n := ms) hc hsl ?_
  exact W.zret C0.1 C0.2.1 C0.2.2.2.2.2.1 hv (fun t ht hW => ⟨⟨v, u, rfl, hp, by rw [ht]; exact h2.2.1, h2.2.2.1⟩, h2.2.2.2.1.F ht⟩) h2.2.2.2.1.2.2 hdg C0.2.2.2.2.2.2.1
theorem m_lret {S : Type} {post : Int64 → S → Prop} {ws' : S → va_W} {mc ms : Nat} {v : Int64} (u : S) (C0 : Cx p s m args meth c own cc nL (some .long)) (h : Wd G A s H locs ws) (is : List Nat) (hn : va_nd is = true) (hs : is.map (fun i => ws[i]?) = (ws' u).map some) (hp : post v u) (hc : cells ≤ mc) (hsl : slots ≤ ms) (hdg : decode cc pc = .ok (.lreturn, 1)) :
    W p l e R s m args below meth c H locs cells slots (MQ below (Rl G post ws' A) args s mc ms A) (F0 m pc ls [.long v]) := by
  have h2 := h.sub is hn hs
  refine W.widen (k := mc) (n := ms) hc hsl ?_
  exact W.lret C0.1 C0.2.1 C0.2.2.2.2.2.1 (fun t ht hW => ⟨⟨v, u, rfl, hp, by rw [ht]; exact h2.2.1, h2.2.2.1⟩, h2.2.2.2.1.F ht⟩) h2.2.2.2.1.2.2 hdg C0.2.2.2.2.2.2.1
theorem m_vret {S : Type} {post : S → Prop} {ws' : S → va_W} {mc ms : Nat} (u : S) (C0 : Cx p s m args meth c own cc nL none) (h : Wd G A s H locs ws) (is : List Nat) (hn : va_nd is = true) (hs : is.map (fun i => ws[i]?) = (ws' u).map some) (hp : post u) (hc : cells ≤ mc) (hsl : slots ≤ ms) (hdg : decode cc pc = .ok (.return_, 1)) :
    W p l e R s m args below meth c H locs cells slots (MQ below (Rv G post ws' A) args s mc ms A) (F0 m pc ls []) := by
  have h2 := h.sub is hn hs
  refine W.widen (k := mc) (n := ms) hc hsl ?_
  exact W.vret C0.1 C0.2.1 C0.2.2.2.2.2.1 (fun t ht hW => ⟨⟨u, rfl, hp, by rw [ht]; exact h2.2.1, h2.2.2.1⟩, h2.2.2.2.1.F ht⟩) h2.2.2.2.1.2.2 hdg C0.2.2.2.2.2.2.1
end MY
end
section
/-! new T[2][k]: the outer array and its two rows -/
theorem mu_outer (c : ClassId) (h0 : Nat) : Jvm.Free.Multi.outerC c 2 h0 2 = vp_cell c (2, .inr (.inr (.inr (.inr (fun i => if i = 0 then some (h0 + 1) else if i = 1 then some (h0 + 2) else none))))) := by
  rw [vp_cell_q]
  show ((({ cls := c, slots := Array.replicate 2 .null, vm := .none } : Cell).setSlot 0 (.ref (h0 + 1 + 0))).setSlot 1 (.ref (h0 + 1 + 1))) = _
  rw [arrV_new, arrV_store, arrV_store]
  refine congrArg (arrV c 2) (funext fun j => ?_)
  by_cases e1 : j = 1
  · subst e1
    simp [updV, va_rf]
  · by_cases e0 : j = 0
    · subst e0
      simp [updV, va_rf]
    · simp [updV, va_rf, e1, e0]
section MU
variable {p : Program} {l : Launch} {e : Env} {R : Room} {s : State} {m : MethodId} {args : Array Value} {below : List Frame} {meth : Method} {c : Code} {H : Heap} {locs : List Loc} {cells slots : Nat} {Q : State → Prop}
variable {cc : ByteArray} {pc nL : Nat} {ls : Array Slot} {rest st0 : List Value} {G : GG} {A : Nat → Prop} {a : Nat} {ws : va_W} {own : String} {ret : Option FieldType}
theorem m_mna2 (C0 : Cx p s m args meth c own cc nL ret) (h : Wd G A s H locs ws) (t0 t1 : Nat) {index : Nat} {ty : FieldType} {cA cy : ClassId} (ht0 : (tysG G)[t0]? = some (cA, .array ty)) (ht1 : (tysG G)[t1]? = some (cy, ty)) (hcl : ty.toString = ty.toString → s.vm.findClass (FieldType.array ty).toString = some cy) (hclink : Cond.classLink own index ("[" ++ (FieldType.array ty).toString) ∈ lw_gd) (hover : nx_A ty s) (harr : Cond.arrayClass ty ∈ lw_gd) {k : Int32} {K : Nat} {z : vp_A} (hk : ¬ k < 0) (hK : k.toNatClampNeg = K) (hb2 : K * componentBytes ty ≤ 536870912) (hb3 : K ≤ 536870912) (hdf : fits ty (defaultValue ty) = true) (hdd : (defaultValue ty).isDefault = true) (hz : ∀ c : ClassId, Jvm.Free.Multi.innerC c K (defaultValue ty) = vp_cell c z) (hcells : cells + 3 ≤ R.cells) (hslots : slots + (2 + 2 * K) ≤ R.slots) (hdg : decode cc pc = .ok (.multianewarray index 2, 4))
    (kk : ∀ (q0 q1 q2 : Nat) (H1 : Heap), Wd G A s H1 locs (ws ++ [(q0, .inl (cA, 2, .inr (.inr (.inr (.inr (fun i => if i = 0 then some q1 else if i = 1 then some q2 else none)))))), (q1, .inl (cy, z)), (q2, .inl (cy, z))]) → W p l e R s m args below meth c H1 locs (cells + 3) (slots + (2 + 2 * K)) Q (F0 m (pc + 4) ls (.ref q0 :: rest))) : W p l e R s m args below meth c H locs cells slots Q (F0 m pc ls (.int k :: .int 2 :: rest)) := by
  subst hK
  intro T hT X
  have n2 : (2 : Int32).toNatClampNeg = 2 := by decide
  obtain ⟨vm₁, cB, comp, -, fA, fC, -, -, X', step⟩ := X.multianewarray2F C0.1 C0.2.2.2.1 (C0.2.2.2.2.1 _ hclink) hover (C0.2.2.2.2.1 _ harr) (g := F0 m pc ls (.int k :: .int 2 :: rest)) rfl (by rw [C0.2.1]; exact hdg) rfl (by decide) hk (by decide) hb2 hb3 hdf hdd (by rw [n2]; omega) (by rw [n2]; omega)
  rw [n2] at X' step
  have eA : cB = cA := by
    have a1 := (h.1.2 t0 _ ht0).2
    exact Option.some.inj (fA.symm.trans a1)
  have eC : comp = cy := Option.some.inj (fC.symm.trans (hcl rfl))
  subst eA
  subst eC
  generalize hF : Jvm.Free.Multi.fill (T.setVm vm₁) cB comp 2 k.toNatClampNeg (defaultValue ty) 2 = F at X' step
  have hTh : (T.setVm vm₁).heap = H := hT
  obtain ⟨f1, f2, -, -⟩ := Jvm.Free.Multi.fill_facts (T.setVm vm₁) cB comp 2 k.toNatClampNeg (defaultValue ty) 2
  rw [hF, hTh] at f1 f2
  rw [mu_outer] at f2
  have hold : ∀ x : Nat, x < H.size → F.heap[x]? = H[x]? := fun x hx => by
    have := Jvm.Free.Multi.fill_old (T.setVm vm₁) cB comp 2 k.toNatClampNeg (defaultValue ty) (a := x) (by rw [hTh]; exact hx) 2
    rw [hF, hTh] at this
    exact this
  have hrow : ∀ j : Nat, j < 2 → F.heap[H.size + 1 + j]? = some (vp_cell comp z) := fun j hj => by
    have := Jvm.Free.Multi.fill_inner (T.setVm vm₁) cB comp 2 k.toNatClampNeg (defaultValue ty) 2 j hj
    rw [hF, hTh, hz] at this
    exact this
  have hlt : ∀ (k9 : Nat) (x : Nat × va_E), ws[k9]? = some x → x.1 < H.size := fun k9 x hx => (h.2.1 k9 x hx).lt
  have hP1 : va_P G.1 vwCl (ws ++ [(H.size, .inl (cB, 2, .inr (.inr (.inr (.inr (fun i => if i = 0 then some (H.size + 1) else if i = 1 then some (H.size + 2) else none)))))), (H.size + 1, .inl (comp, z)), (H.size + 2, .inl (comp, z))]) F.heap := by
    refine va_P.app (h.2.1.kept (fun k9 x hx => hold x.1 (hlt k9 x hx))) (fun k9 x hx => ?_)
    match k9, hx with
    | 0, hx => cases hx; exact f2
    | 1, hx => cases hx; exact hrow 0 (by decide)
    | 2, hx => cases hx; exact hrow 1 (by decide)
    | k9 + 3, hx => simp at hx
  have hD1 : va_D A (ws ++ [(H.size, .inl (cB, 2, .inr (.inr (.inr (.inr (fun i => if i = 0 then some (H.size + 1) else if i = 1 then some (H.size + 2) else none)))))), (H.size + 1, .inl (comp, z)), (H.size + 2, .inl (comp, z))]) := by
    have hr : ∀ (k9 : Nat) (x : Nat × va_E), ([(H.size, .inl (cB, 2, .inr (.inr (.inr (.inr (fun i => if i = 0 then some (H.size + 1) else if i = 1 then some (H.size + 2) else none)))))), (H.size + 1, .inl (comp, z)), (H.size + 2, .inl (comp, z))] : va_W)[k9]? = some x → x.1 = H.size + k9 := fun k9 x hx => by
      match k9, hx with
      | 0, hx => cases hx; rfl
      | 1, hx => cases hx; rfl
      | 2, hx => cases hx; rfl
      | k9 + 3, hx => simp at hx
    refine ⟨fun i j x y hi hj hxy => ?_, fun k9 x hx => ?_⟩
    · by_cases h1 : i < ws.length <;> by_cases h2 : j < ws.length
      · rw [List.getElem?_append_left h1] at hi
        rw [List.getElem?_append_left h2] at hj
        exact h.2.2.1.1 i j x y hi hj hxy
      · rw [List.getElem?_append_left h1] at hi
        rw [List.getElem?_append_right (by omega)] at hj
        have := hlt _ _ hi
        have := hr _ _ hj
        omega
      · rw [List.getElem?_append_right (by omega)] at hi
        rw [List.getElem?_append_left h2] at hj
        have := hlt _ _ hj
        have := hr _ _ hi
        omega
      · rw [List.getElem?_append_right (by omega)] at hi hj
        have := hr _ _ hi
        have := hr _ _ hj
        omega
    · by_cases h1 : k9 < ws.length
      · rw [List.getElem?_append_left h1] at hx
        exact h.2.2.1.2 k9 x hx
      · rw [List.getElem?_append_right (by omega)] at hx
        have := hr _ _ hx
        exact h.2.2.2.2 _ (by have := h.2.2.2.1.1; omega)
  obtain ⟨t, a1, b1⟩ := kk H.size (H.size + 1) (H.size + 2) F.heap ⟨h.1, hP1, hD1, ⟨by rw [f1]; have := h.2.2.2.1.1; omega, fun x h1 h2 => (hold x (Nat.lt_of_lt_of_le h1 h.2.2.2.1.1)).trans (h.2.2.2.1.2.1 x h1 h2), h.2.2.2.1.2.2⟩, h.2.2.2.2⟩ F rfl (stand_widen X' (by omega) (by omega))
  refine ⟨t, step t ?_, b1⟩
  have e : T.heap.size = H.size := by rw [hT]
  rw [e]
  exact a1
end MU
end
section
theorem q_0 : Cond.selects RX5 yX5_advance yX5_advance ∈ lw_gd := gd_s 0 rfl rfl
theorem q_1 : Cond.selects RX5 yX5_isSmall yX5_isSmall ∈ lw_gd := gd_s 1 rfl rfl
theorem q_2 : Cond.selects RX5 yX5_isDigit yX5_isDigit ∈ lw_gd := gd_s 2 rfl rfl
theorem q_3 : Cond.selects RX5 yX5_fail yX5_fail ∈ lw_gd := gd_s 3 rfl rfl
theorem q_4 : Cond.selects RX5 yX5_line yX5_line ∈ lw_gd := gd_s 4 rfl rfl
theorem q_5 : Cond.selects RX5 yX5_isWord yX5_isWord ∈ lw_gd := gd_s 5 rfl rfl
theorem q_6 : Cond.selects RX5 yX5_cityLine yX5_cityLine ∈ lw_gd := gd_s 6 rfl rfl
theorem q_7 : Cond.selects RX5 yX5_bounded yX5_bounded ∈ lw_gd := gd_s 7 rfl rfl
theorem q_8 : Cond.selects RX5 yX5_wallLine yX5_wallLine ∈ lw_gd := gd_s 8 rfl rfl
theorem q_9 : Cond.selects RX5 yX5_crossingTold yX5_crossingTold ∈ lw_gd := gd_s 9 rfl rfl
theorem q_10 : Cond.selects RX5 yX5_freeLine yX5_freeLine ∈ lw_gd := gd_s 10 rfl rfl
theorem q_11 : Cond.selects RX5 yX5_personLine yX5_personLine ∈ lw_gd := gd_s 11 rfl rfl
theorem q_12 : Cond.selects RX5 yX5_heading yX5_heading ∈ lw_gd := gd_s 12 rfl rfl
theorem q_13 : Cond.selects RX5 yX5_beginLaw yX5_beginLaw ∈ lw_gd := gd_s 13 rfl rfl
theorem q_14 : Cond.selects RX5 yX5_sign yX5_sign ∈ lw_gd := gd_s 14 rfl rfl
theorem q_15 : Cond.selects RX5 yX5_sum yX5_sum ∈ lw_gd := gd_s 15 rfl rfl
theorem q_16 : Cond.selects RX5 yX5_term yX5_term ∈ lw_gd := gd_s 16 rfl rfl
theorem q_17 : Cond.selects RX5 yX5_atom yX5_atom ∈ lw_gd := gd_s 17 rfl rfl
theorem q_18 : Cond.selects RX5 yX5_tooDeep yX5_tooDeep ∈ lw_gd := gd_s 18 rfl rfl
theorem q_19 : Cond.selects RX5 yX5_truth yX5_truth ∈ lw_gd := gd_s 19 rfl rfl
theorem q_20 : Cond.selects RX5 yX5_both yX5_both ∈ lw_gd := gd_s 20 rfl rfl
theorem q_21 : Cond.selects RX5 yX5_unit yX5_unit ∈ lw_gd := gd_s 21 rfl rfl
theorem q_22 : Cond.selects RX11 yX11_startAnew yX11_startAnew ∈ lw_gd := gd_s 22 rfl rfl
theorem q_23 : Cond.selects RX11 yX11_isPerson yX11_isPerson ∈ lw_gd := gd_s 23 rfl rfl
theorem q_24 : Cond.selects RX11 yX11_isStand yX11_isStand ∈ lw_gd := gd_s 24 rfl rfl
theorem q_25 : Cond.selects RX11 yX11_isCrossing yX11_isCrossing ∈ lw_gd := gd_s 25 rfl rfl
theorem q_26 : Cond.selects RX0 yX0_leftsTaken yX0_leftsTaken ∈ lw_gd := gd_s 26 rfl rfl
theorem q_27 : Cond.selects RX11 yX11_keep yX11_keep ∈ lw_gd := gd_s 27 rfl rfl
theorem q_28 : Cond.selects RX11 yX11_goWalk yX11_goWalk ∈ lw_gd := gd_s 28 rfl rfl
theorem q_29 : Cond.selects RX11 yX11_liveOnce yX11_liveOnce ∈ lw_gd := gd_s 29 rfl rfl
theorem q_30 : Cond.selects RX11 yX11_draw yX11_draw ∈ lw_gd := gd_s 30 rfl rfl
theorem q_31 : Cond.selects RX8 yX8_begin yX8_begin ∈ lw_gd := gd_s 31 rfl rfl
theorem q_32 : Cond.selects RX8 yX8_lowest yX8_lowest ∈ lw_gd := gd_s 32 rfl rfl
theorem q_33 : Cond.selects RX8 yX8_anyHeading yX8_anyHeading ∈ lw_gd := gd_s 33 rfl rfl
theorem q_34 : Cond.selects RX8 yX8_goOn yX8_goOn ∈ lw_gd := gd_s 34 rfl rfl
theorem q_35 : Cond.selects RX2 yX2_beginUpTo yX2_beginUpTo ∈ lw_gd := gd_s 35 rfl rfl
theorem q_36 : Cond.selects RX8 yX8_goByRights yX8_goByRights ∈ lw_gd := gd_s 36 rfl rfl
theorem q_37 : Cond.selects RX8 yX8_goByLeft yX8_goByLeft ∈ lw_gd := gd_s 37 rfl rfl
theorem q_38 : Cond.selects RX4 yX4_asks yX4_asks ∈ lw_gd := gd_s 38 rfl rfl
theorem q_39 : Cond.selects RX8 yX8_change yX8_change ∈ lw_gd := gd_s 39 rfl rfl
theorem q_40 : Cond.selects RX8 yX8_thin yX8_thin ∈ lw_gd := gd_s 40 rfl rfl
theorem q_41 : Cond.selects RX7 yX7_lookBack yX7_lookBack ∈ lw_gd := gd_s 41 rfl rfl
theorem q_42 : Cond.selects RX7 yX7_comeFrom yX7_comeFrom ∈ lw_gd := gd_s 42 rfl rfl
theorem q_43 : Cond.selects RX7 yX7_thin yX7_thin ∈ lw_gd := gd_s 43 rfl rfl
theorem q_44 : Cond.selects RX7 yX7_follow yX7_follow ∈ lw_gd := gd_s 44 rfl rfl
theorem q_45 : Cond.selects RX7 yX7_comes yX7_comes ∈ lw_gd := gd_s 45 rfl rfl
theorem q_46 : Cond.selects RX9 yX9_addCoins yX9_addCoins ∈ lw_gd := gd_s 46 rfl rfl
theorem q_47 : Cond.selects RX9 yX9_addWays yX9_addWays ∈ lw_gd := gd_s 47 rfl rfl
theorem q_48 : Cond.selects RX9 yX9_addWaysBy yX9_addWaysBy ∈ lw_gd := gd_s 48 rfl rfl
theorem q_49 : Cond.selects RX8 yX8_survey yX8_survey ∈ lw_gd := gd_s 49 rfl rfl
theorem q_50 : Cond.selects RX6 yX6_tour yX6_tour ∈ lw_gd := gd_s 50 rfl rfl
theorem q_51 : Cond.selects RX6 yX6_compare yX6_compare ∈ lw_gd := gd_s 51 rfl rfl
theorem q_52 : Cond.selects RX8 yX8_goLeaving yX8_goLeaving ∈ lw_gd := gd_s 52 rfl rfl
theorem q_53 : Cond.selects RX3 yX3_workOut yX3_workOut ∈ lw_gd := gd_s 53 rfl rfl
theorem q_54 : Cond.selects RX3 yX3_watchGoes yX3_watchGoes ∈ lw_gd := gd_s 54 rfl rfl
theorem q_55 : Cond.selects RX3 yX3_isLikeTheLast yX3_isLikeTheLast ∈ lw_gd := gd_s 55 rfl rfl
theorem q_56 : Cond.selects RX12 yX12_next yX12_next ∈ lw_gd := gd_s 56 rfl rfl
theorem q_57 : Cond.selects RX12 yX12_see yX12_see ∈ lw_gd := gd_s 57 rfl rfl
theorem q_58 : Cond.selects RX12 yX12_keyAt yX12_keyAt ∈ lw_gd := gd_s 58 rfl rfl
theorem q_59 : Cond.selects RX12 yX12_readLine yX12_readLine ∈ lw_gd := gd_s 59 rfl rfl
theorem q_60 : Cond.selects RX12 yX12_is yX12_is ∈ lw_gd := gd_s 60 rfl rfl
theorem q_61 : Cond.selects RX12 yX12_readCity yX12_readCity ∈ lw_gd := gd_s 61 rfl rfl
theorem q_62 : Cond.selects RX12 yX12_takes yX12_takes ∈ lw_gd := gd_s 62 rfl rfl
theorem q_63 : Cond.selects RX12 yX12_fails yX12_fails ∈ lw_gd := gd_s 63 rfl rfl
theorem q_64 : Cond.selects RX12 yX12_readWall yX12_readWall ∈ lw_gd := gd_s 64 rfl rfl
theorem q_65 : Cond.selects RX12 yX12_takesCrossing yX12_takesCrossing ∈ lw_gd := gd_s 65 rfl rfl
theorem q_66 : Cond.selects RX12 yX12_readPerson yX12_readPerson ∈ lw_gd := gd_s 66 rfl rfl
theorem q_67 : Cond.selects RX12 yX12_eats yX12_eats ∈ lw_gd := gd_s 67 rfl rfl
theorem q_68 : Cond.selects RX12 yX12_readLaw yX12_readLaw ∈ lw_gd := gd_s 68 rfl rfl
theorem q_69 : Cond.selects RX12 yX12_readSum yX12_readSum ∈ lw_gd := gd_s 69 rfl rfl
theorem q_70 : Cond.selects RX12 yX12_readTerm yX12_readTerm ∈ lw_gd := gd_s 70 rfl rfl
theorem q_71 : Cond.selects RX12 yX12_readAtom yX12_readAtom ∈ lw_gd := gd_s 71 rfl rfl
theorem q_72 : Cond.selects RX12 yX12_codes yX12_codes ∈ lw_gd := gd_s 72 rfl rfl
theorem q_73 : Cond.selects RX12 yX12_goesIn yX12_goesIn ∈ lw_gd := gd_s 73 rfl rfl
theorem q_74 : Cond.selects RX12 yX12_readTruth yX12_readTruth ∈ lw_gd := gd_s 74 rfl rfl
theorem q_75 : Cond.selects RX12 yX12_readBoth yX12_readBoth ∈ lw_gd := gd_s 75 rfl rfl
theorem q_76 : Cond.selects RX12 yX12_readUnit yX12_readUnit ∈ lw_gd := gd_s 76 rfl rfl
theorem q_77 : Cond.selects RX12 yX12_isPerson yX12_isPerson ∈ lw_gd := gd_s 77 rfl rfl
theorem q_78 : Cond.selects RX12 yX12_isCrossing yX12_isCrossing ∈ lw_gd := gd_s 78 rfl rfl
theorem q_79 : Cond.selects RX12 yX12_crossings yX12_crossings ∈ lw_gd := gd_s 79 rfl rfl
theorem q_80 : Cond.selects RX12 yX12_streetFrom yX12_streetFrom ∈ lw_gd := gd_s 80 rfl rfl
theorem q_81 : Cond.selects RX12 yX12_priceOf yX12_priceOf ∈ lw_gd := gd_s 81 rfl rfl
theorem q_82 : Cond.selects RX12 yX12_reckons yX12_reckons ∈ lw_gd := gd_s 82 rfl rfl
theorem q_83 : Cond.selects RX12 yX12_wordOf yX12_wordOf ∈ lw_gd := gd_s 83 rfl rfl
theorem q_84 : Cond.selects RX12 yX12_isFreeIn yX12_isFreeIn ∈ lw_gd := gd_s 84 rfl rfl
theorem q_85 : Cond.selects RX12 yX12_streetsFrom yX12_streetsFrom ∈ lw_gd := gd_s 85 rfl rfl
theorem q_86 : Cond.selects RX12 yX12_whyNot yX12_whyNot ∈ lw_gd := gd_s 86 rfl rfl
theorem q_87 : Cond.selects RX12 yX12_mayTurn yX12_mayTurn ∈ lw_gd := gd_s 87 rfl rfl
theorem q_88 : Cond.selects RX12 yX12_keeps yX12_keeps ∈ lw_gd := gd_s 88 rfl rfl
theorem q_89 : Cond.selects RX12 yX12_goes yX12_goes ∈ lw_gd := gd_s 89 rfl rfl
theorem q_90 : Cond.selects RX12 yX12_notes yX12_notes ∈ lw_gd := gd_s 90 rfl rfl
theorem q_91 : Cond.selects RX12 yX12_noTray yX12_noTray ∈ lw_gd := gd_s 91 rfl rfl
theorem q_92 : Cond.selects RX12 yX12_tells yX12_tells ∈ lw_gd := gd_s 92 rfl rfl
theorem q_93 : Cond.selects RX12 yX12_isAgain yX12_isAgain ∈ lw_gd := gd_s 93 rfl rfl
theorem q_94 : Cond.selects RX12 yX12_boughtBy yX12_boughtBy ∈ lw_gd := gd_s 94 rfl rfl
theorem q_95 : Cond.selects RX12 yX12_buys yX12_buys ∈ lw_gd := gd_s 95 rfl rfl
theorem q_96 : Cond.selects RX12 yX12_freeMany yX12_freeMany ∈ lw_gd := gd_s 96 rfl rfl
theorem q_97 : Cond.selects RX12 yX12_isDrawn yX12_isDrawn ∈ lw_gd := gd_s 97 rfl rfl
theorem q_98 : Cond.selects RX12 yX12_draw yX12_draw ∈ lw_gd := gd_s 98 rfl rfl
theorem q_99 : Cond.selects RX12 yX12_areThere yX12_areThere ∈ lw_gd := gd_s 99 rfl rfl
theorem q_100 : Cond.selects RX12 yX12_wayOf yX12_wayOf ∈ lw_gd := gd_s 100 rfl rfl
theorem q_101 : Cond.selects RX12 yX12_laysFor yX12_laysFor ∈ lw_gd := gd_s 101 rfl rfl
theorem q_102 : Cond.selects RX12 yX12_laysLaws yX12_laysLaws ∈ lw_gd := gd_s 102 rfl rfl
theorem q_103 : Cond.selects RX12 yX12_laysSofar yX12_laysSofar ∈ lw_gd := gd_s 103 rfl rfl
theorem q_104 : Cond.selects RX12 yX12_costOf yX12_costOf ∈ lw_gd := gd_s 104 rfl rfl
theorem q_105 : Cond.selects RX12 yX12_soonestBy yX12_soonestBy ∈ lw_gd := gd_s 105 rfl rfl
theorem q_106 : Cond.selects RX12 yX12_leastAt yX12_leastAt ∈ lw_gd := gd_s 106 rfl rfl
theorem q_107 : Cond.selects RX12 yX12_laysWay yX12_laysWay ∈ lw_gd := gd_s 107 rfl rfl
theorem q_108 : Cond.selects RX12 yX12_laysTurns yX12_laysTurns ∈ lw_gd := gd_s 108 rfl rfl
theorem q_109 : Cond.selects RX12 yX12_laysStill yX12_laysStill ∈ lw_gd := gd_s 109 rfl rfl
theorem q_110 : Cond.selects RX12 yX12_stillBy yX12_stillBy ∈ lw_gd := gd_s 110 rfl rfl
theorem q_111 : Cond.selects RX12 yX12_leastWithin yX12_leastWithin ∈ lw_gd := gd_s 111 rfl rfl
theorem q_112 : Cond.selects RX12 yX12_countsOn yX12_countsOn ∈ lw_gd := gd_s 112 rfl rfl
theorem q_113 : Cond.selects RX12 yX12_goesRound yX12_goesRound ∈ lw_gd := gd_s 113 rfl rfl
theorem q_114 : Cond.selects RX12 yX12_leg yX12_leg ∈ lw_gd := gd_s 114 rfl rfl
theorem q_115 : Cond.selects RX12 yX12_freesBy yX12_freesBy ∈ lw_gd := gd_s 115 rfl rfl
theorem q_116 : Cond.selects RX12 yX12_comesFree yX12_comesFree ∈ lw_gd := gd_s 116 rfl rfl
theorem q_117 : Cond.selects RX12 yX12_findsOn yX12_findsOn ∈ lw_gd := gd_s 117 rfl rfl
theorem q_118 : Cond.selects RX12 yX12_lie yX12_lie ∈ lw_gd := gd_s 118 rfl rfl
theorem q_119 : Cond.selects RX12 yX12_laysCatches yX12_laysCatches ∈ lw_gd := gd_s 119 rfl rfl
theorem q_120 : Cond.selects RX12 yX12_isSure yX12_isSure ∈ lw_gd := gd_s 120 rfl rfl
theorem q_121 : Cond.selects RX12 yX12_goesOn yX12_goesOn ∈ lw_gd := gd_s 121 rfl rfl
theorem q_122 : Cond.selects RX12 yX12_soldMany yX12_soldMany ∈ lw_gd := gd_s 122 rfl rfl
theorem q_123 : Cond.selects RX12 yX12_allLefts yX12_allLefts ∈ lw_gd := gd_s 123 rfl rfl
theorem q_124 : Cond.initialized RL ∈ lw_gd := gd_1 0 rfl rfl
theorem q_125 : Cond.initialized RX11 ∈ lw_gd := gd_1 1 rfl rfl
theorem q_126 : Cond.initialized RX0 ∈ lw_gd := gd_1 2 rfl rfl
theorem q_127 : Cond.initialized RX4 ∈ lw_gd := gd_1 3 rfl rfl
theorem q_128 : Cond.initialized RX1 ∈ lw_gd := gd_1 4 rfl rfl
theorem q_129 : Cond.initialized RX2 ∈ lw_gd := gd_1 5 rfl rfl
theorem q_130 : Cond.initialized RX8 ∈ lw_gd := gd_1 6 rfl rfl
theorem q_131 : Cond.initialized RX7 ∈ lw_gd := gd_1 7 rfl rfl
theorem q_132 : Cond.initialized RX5 ∈ lw_gd := gd_1 8 rfl rfl
theorem q_133 : Cond.initialized RX6 ∈ lw_gd := gd_1 9 rfl rfl
theorem q_134 : Cond.initialized RX9 ∈ lw_gd := gd_1 10 rfl rfl
theorem q_135 : Cond.initialized RX3 ∈ lw_gd := gd_1 11 rfl rfl
theorem q_136 : Cond.initialized RX10 ∈ lw_gd := gd_1 12 rfl rfl
theorem q_137 : Cond.initialized RX12 ∈ lw_gd := gd_1 13 rfl rfl
theorem q_138 : Cond.initialized RJ7 ∈ lw_gd := gd_1 14 rfl rfl
theorem q_139 : Cond.initialized RJ0 ∈ lw_gd := gd_1 15 rfl rfl
theorem q_140 : Cond.initialized RJ1 ∈ lw_gd := gd_1 16 rfl rfl
theorem q_141 : Cond.initialized RJ9 ∈ lw_gd := gd_1 17 rfl rfl
theorem q_142 : Cond.initialized RJ2 ∈ lw_gd := gd_1 18 rfl rfl
theorem q_143 : Cond.initialized RJ3 ∈ lw_gd := gd_1 19 rfl rfl
theorem q_144 : Cond.initialized RJ11 ∈ lw_gd := gd_1 20 rfl rfl
theorem q_145 : Cond.initialized RJ10 ∈ lw_gd := gd_1 21 rfl rfl
theorem q_146 : Cond.initialized RJ6 ∈ lw_gd := gd_1 22 rfl rfl
theorem q_147 : Cond.classLink RL 7 RX11 ∈ lw_gd := gd_1 23 rfl rfl
theorem q_148 : Cond.instantiable RX11 19 ∈ lw_gd := gd_1 24 rfl rfl
theorem q_149 : Cond.methodLink RL 9 yX11_init ∈ lw_gd := gd_1 25 rfl rfl
theorem q_150 : Cond.instanceMethod yX11_init ∈ lw_gd := gd_1 26 rfl rfl
theorem q_151 : Cond.code yX11_init cX11_init 7 none ∈ lw_gd := gd_1 27 rfl rfl
theorem q_152 : Cond.methodLink RX11 3 objectInit ∈ lw_gd := gd_1 28 rfl rfl
theorem q_153 : Cond.instanceMethod objectInit ∈ lw_gd := gd_1 29 rfl rfl
theorem q_154 : Cond.code objectInit ⟨#[0xb1]⟩ 1 none ∈ lw_gd := gd_1 30 rfl rfl
theorem q_155 : Cond.classLink RX11 9 RX0 ∈ lw_gd := gd_1 31 rfl rfl
theorem q_156 : Cond.instantiable RX0 9 ∈ lw_gd := gd_1 32 rfl rfl
theorem q_158 : Cond.instanceMethod yX0_init ∈ lw_gd := gd_1 34 rfl rfl
theorem q_159 : Cond.code yX0_init cX0_init 1 none ∈ lw_gd := gd_1 35 rfl rfl
theorem q_160 : Cond.methodLink RX0 3 objectInit ∈ lw_gd := gd_1 36 rfl rfl
theorem q_161 : Cond.classLink RX0 9 RX4 ∈ lw_gd := gd_1 37 rfl rfl
theorem q_162 : Cond.instantiable RX4 5 ∈ lw_gd := gd_1 38 rfl rfl
theorem q_164 : Cond.instanceMethod yX4_init ∈ lw_gd := gd_1 40 rfl rfl
theorem q_165 : Cond.code yX4_init cX4_init 1 none ∈ lw_gd := gd_1 41 rfl rfl
theorem q_166 : Cond.methodLink RX4 3 objectInit ∈ lw_gd := gd_1 42 rfl rfl
theorem q_167 : Cond.fieldLink RX4 9 "LeftTurns$Law" "code" "[I" ∈ lw_gd := gd_1 43 rfl rfl
theorem q_168 : Cond.fieldLink RX4 15 "LeftTurns$Law" "stack" "[I" ∈ lw_gd := gd_1 44 rfl rfl
theorem q_169 : Cond.fieldLink RX4 18 "LeftTurns$Law" "names" "[I" ∈ lw_gd := gd_1 45 rfl rfl
theorem q_170 : Cond.fieldLink RX4 21 "LeftTurns$Law" "size" "I" ∈ lw_gd := gd_1 46 rfl rfl
theorem q_171 : Cond.fieldLink RX4 25 "LeftTurns$Law" "named" "I" ∈ lw_gd := gd_1 47 rfl rfl
theorem q_172 : Cond.laysFinal RX4 "LeftTurns$Law" "code" "[I" ∈ lw_gd := gd_1 48 rfl rfl
theorem q_174 : Cond.laysFinal RX4 "LeftTurns$Law" "stack" "[I" ∈ lw_gd := gd_1 50 rfl rfl
theorem q_176 : Cond.laysFinal RX4 "LeftTurns$Law" "names" "[I" ∈ lw_gd := gd_1 52 rfl rfl
theorem q_178 : Cond.lays RX4 "LeftTurns$Law" "size" "I" ∈ lw_gd := gd_1 54 rfl rfl
theorem q_180 : Cond.lays RX4 "LeftTurns$Law" "named" "I" ∈ lw_gd := gd_1 56 rfl rfl
theorem q_183 : Cond.arrayClass .int ∈ lw_gd := gd_1 59 rfl rfl
theorem q_184 : Cond.classLink RX0 21 RX1 ∈ lw_gd := gd_1 60 rfl rfl
theorem q_185 : Cond.instantiable RX1 9 ∈ lw_gd := gd_1 61 rfl rfl
theorem q_187 : Cond.instanceMethod yX1_init ∈ lw_gd := gd_1 63 rfl rfl
theorem q_188 : Cond.code yX1_init cX1_init 1 none ∈ lw_gd := gd_1 64 rfl rfl
theorem q_189 : Cond.methodLink RX1 3 objectInit ∈ lw_gd := gd_1 65 rfl rfl
theorem q_190 : Cond.fieldLink RX1 9 "LeftTurns$Folk" "at" "[I" ∈ lw_gd := gd_1 66 rfl rfl
theorem q_191 : Cond.fieldLink RX11 148 "LeftTurns$Folk" "at" "[I" ∈ lw_gd := gd_1 67 rfl rfl
theorem q_192 : Cond.fieldLink RX0 91 "LeftTurns$Folk" "at" "[I" ∈ lw_gd := gd_1 68 rfl rfl
theorem q_193 : Cond.fieldLink RX1 15 "LeftTurns$Folk" "heads" "[I" ∈ lw_gd := gd_1 69 rfl rfl
theorem q_194 : Cond.fieldLink RX11 151 "LeftTurns$Folk" "heads" "[I" ∈ lw_gd := gd_1 70 rfl rfl
theorem q_195 : Cond.fieldLink RX0 100 "LeftTurns$Folk" "heads" "[I" ∈ lw_gd := gd_1 71 rfl rfl
theorem q_196 : Cond.fieldLink RX1 18 "LeftTurns$Folk" "lefts" "[I" ∈ lw_gd := gd_1 72 rfl rfl
theorem q_197 : Cond.fieldLink RX11 154 "LeftTurns$Folk" "lefts" "[I" ∈ lw_gd := gd_1 73 rfl rfl
theorem q_198 : Cond.fieldLink RX0 121 "LeftTurns$Folk" "lefts" "[I" ∈ lw_gd := gd_1 74 rfl rfl
theorem q_199 : Cond.fieldLink RX1 21 "LeftTurns$Folk" "coins" "[I" ∈ lw_gd := gd_1 75 rfl rfl
theorem q_200 : Cond.fieldLink RX11 157 "LeftTurns$Folk" "coins" "[I" ∈ lw_gd := gd_1 76 rfl rfl
theorem q_201 : Cond.fieldLink RX0 136 "LeftTurns$Folk" "coins" "[I" ∈ lw_gd := gd_1 77 rfl rfl
theorem q_202 : Cond.fieldLink RX1 24 "LeftTurns$Folk" "used" "[I" ∈ lw_gd := gd_1 78 rfl rfl
theorem q_203 : Cond.fieldLink RX11 160 "LeftTurns$Folk" "used" "[I" ∈ lw_gd := gd_1 79 rfl rfl
theorem q_204 : Cond.fieldLink RX0 127 "LeftTurns$Folk" "used" "[I" ∈ lw_gd := gd_1 80 rfl rfl
theorem q_205 : Cond.fieldLink RX1 27 "LeftTurns$Folk" "sold" "[I" ∈ lw_gd := gd_1 81 rfl rfl
theorem q_206 : Cond.fieldLink RX2 67 "LeftTurns$Folk" "sold" "[I" ∈ lw_gd := gd_1 82 rfl rfl
theorem q_207 : Cond.fieldLink RX9 84 "LeftTurns$Folk" "sold" "[I" ∈ lw_gd := gd_1 83 rfl rfl
theorem q_208 : Cond.fieldLink RX11 177 "LeftTurns$Folk" "sold" "[I" ∈ lw_gd := gd_1 84 rfl rfl
theorem q_209 : Cond.fieldLink RX0 97 "LeftTurns$Folk" "sold" "[I" ∈ lw_gd := gd_1 85 rfl rfl
theorem q_210 : Cond.fieldLink RX1 30 "LeftTurns$Folk" "fogEnds" "[I" ∈ lw_gd := gd_1 86 rfl rfl
theorem q_211 : Cond.fieldLink RX11 187 "LeftTurns$Folk" "fogEnds" "[I" ∈ lw_gd := gd_1 87 rfl rfl
theorem q_212 : Cond.fieldLink RX0 107 "LeftTurns$Folk" "fogEnds" "[I" ∈ lw_gd := gd_1 88 rfl rfl
theorem q_213 : Cond.fieldLink RX1 39 "LeftTurns$Folk" "people" "I" ∈ lw_gd := gd_1 89 rfl rfl
theorem q_214 : Cond.fieldLink RX0 114 "LeftTurns$Folk" "people" "I" ∈ lw_gd := gd_1 90 rfl rfl
theorem q_215 : Cond.fieldLink RX11 240 "LeftTurns$Folk" "people" "I" ∈ lw_gd := gd_1 91 rfl rfl
theorem q_216 : Cond.fieldLink RX5 169 "LeftTurns$Folk" "people" "I" ∈ lw_gd := gd_1 92 rfl rfl
theorem q_217 : Cond.fieldLink RX1 43 "LeftTurns$Folk" "hours" "I" ∈ lw_gd := gd_1 93 rfl rfl
theorem q_218 : Cond.fieldLink RX2 35 "LeftTurns$Folk" "hours" "I" ∈ lw_gd := gd_1 94 rfl rfl
theorem q_219 : Cond.fieldLink RX9 78 "LeftTurns$Folk" "hours" "I" ∈ lw_gd := gd_1 95 rfl rfl
theorem q_220 : Cond.fieldLink RX11 174 "LeftTurns$Folk" "hours" "I" ∈ lw_gd := gd_1 96 rfl rfl
theorem q_221 : Cond.fieldLink RX0 94 "LeftTurns$Folk" "hours" "I" ∈ lw_gd := gd_1 97 rfl rfl
theorem q_222 : Cond.fieldLink RX5 145 "LeftTurns$Folk" "hours" "I" ∈ lw_gd := gd_1 98 rfl rfl
theorem q_223 : Cond.laysFinal RX1 "LeftTurns$Folk" "at" "[I" ∈ lw_gd := gd_1 99 rfl rfl
theorem q_225 : Cond.laysFinal RX1 "LeftTurns$Folk" "heads" "[I" ∈ lw_gd := gd_1 101 rfl rfl
theorem q_227 : Cond.laysFinal RX1 "LeftTurns$Folk" "lefts" "[I" ∈ lw_gd := gd_1 103 rfl rfl
theorem q_229 : Cond.laysFinal RX1 "LeftTurns$Folk" "coins" "[I" ∈ lw_gd := gd_1 105 rfl rfl
theorem q_231 : Cond.laysFinal RX1 "LeftTurns$Folk" "used" "[I" ∈ lw_gd := gd_1 107 rfl rfl
theorem q_233 : Cond.laysFinal RX1 "LeftTurns$Folk" "sold" "[I" ∈ lw_gd := gd_1 109 rfl rfl
theorem q_235 : Cond.laysFinal RX1 "LeftTurns$Folk" "fogEnds" "[I" ∈ lw_gd := gd_1 111 rfl rfl
theorem q_237 : Cond.lays RX1 "LeftTurns$Folk" "people" "I" ∈ lw_gd := gd_1 113 rfl rfl
theorem q_239 : Cond.lays RX1 "LeftTurns$Folk" "hours" "I" ∈ lw_gd := gd_1 115 rfl rfl
theorem q_242 : Cond.fieldLink RX0 12 "LeftTurns$City" "priceLaw" "LLeftTurns$Law;" ∈ lw_gd := gd_1 118 rfl rfl
theorem q_243 : Cond.fieldLink RX5 23 "LeftTurns$City" "priceLaw" "LLeftTurns$Law;" ∈ lw_gd := gd_1 119 rfl rfl
theorem q_244 : Cond.fieldLink RX0 18 "LeftTurns$City" "mayLaw" "LLeftTurns$Law;" ∈ lw_gd := gd_1 120 rfl rfl
theorem q_245 : Cond.fieldLink RX2 48 "LeftTurns$City" "mayLaw" "LLeftTurns$Law;" ∈ lw_gd := gd_1 121 rfl rfl
theorem q_246 : Cond.fieldLink RX5 129 "LeftTurns$City" "mayLaw" "LLeftTurns$Law;" ∈ lw_gd := gd_1 122 rfl rfl
theorem q_247 : Cond.fieldLink RX0 24 "LeftTurns$City" "folk" "LLeftTurns$Folk;" ∈ lw_gd := gd_1 123 rfl rfl
theorem q_248 : Cond.fieldLink RX2 29 "LeftTurns$City" "folk" "LLeftTurns$Folk;" ∈ lw_gd := gd_1 124 rfl rfl
theorem q_249 : Cond.fieldLink RX11 145 "LeftTurns$City" "folk" "LLeftTurns$Folk;" ∈ lw_gd := gd_1 125 rfl rfl
theorem q_250 : Cond.fieldLink RX9 74 "LeftTurns$City" "folk" "LLeftTurns$Folk;" ∈ lw_gd := gd_1 126 rfl rfl
theorem q_251 : Cond.fieldLink RX5 137 "LeftTurns$City" "folk" "LLeftTurns$Folk;" ∈ lw_gd := gd_1 127 rfl rfl
theorem q_252 : Cond.fieldLink RX0 28 "LeftTurns$City" "streets" "[I" ∈ lw_gd := gd_1 128 rfl rfl
theorem q_253 : Cond.fieldLink RX3 56 "LeftTurns$City" "streets" "[I" ∈ lw_gd := gd_1 129 rfl rfl
theorem q_254 : Cond.fieldLink RX8 47 "LeftTurns$City" "streets" "[I" ∈ lw_gd := gd_1 130 rfl rfl
theorem q_255 : Cond.fieldLink RX0 32 "LeftTurns$City" "strides" "[I" ∈ lw_gd := gd_1 131 rfl rfl
theorem q_256 : Cond.fieldLink RX0 45 "LeftTurns$City" "wide" "I" ∈ lw_gd := gd_1 132 rfl rfl
theorem q_257 : Cond.fieldLink RX2 58 "LeftTurns$City" "wide" "I" ∈ lw_gd := gd_1 133 rfl rfl
theorem q_258 : Cond.fieldLink RX5 150 "LeftTurns$City" "wide" "I" ∈ lw_gd := gd_1 134 rfl rfl
theorem q_259 : Cond.fieldLink RX11 328 "LeftTurns$City" "wide" "I" ∈ lw_gd := gd_1 135 rfl rfl
theorem q_260 : Cond.fieldLink RX0 49 "LeftTurns$City" "high" "I" ∈ lw_gd := gd_1 136 rfl rfl
theorem q_261 : Cond.fieldLink RX5 157 "LeftTurns$City" "high" "I" ∈ lw_gd := gd_1 137 rfl rfl
theorem q_262 : Cond.fieldLink RX11 331 "LeftTurns$City" "high" "I" ∈ lw_gd := gd_1 138 rfl rfl
theorem q_263 : Cond.fieldLink RX0 52 "LeftTurns$City" "lines" "I" ∈ lw_gd := gd_1 139 rfl rfl
theorem q_264 : Cond.fieldLink RX11 131 "LeftTurns$City" "lines" "I" ∈ lw_gd := gd_1 140 rfl rfl
theorem q_265 : Cond.fieldLink RX5 60 "LeftTurns$City" "lines" "I" ∈ lw_gd := gd_1 141 rfl rfl
theorem q_266 : Cond.fieldLink RX0 55 "LeftTurns$City" "toldFree" "I" ∈ lw_gd := gd_1 142 rfl rfl
theorem q_267 : Cond.laysFinal RX0 "LeftTurns$City" "priceLaw" "LLeftTurns$Law;" ∈ lw_gd := gd_1 143 rfl rfl
theorem q_269 : Cond.laysFinal RX0 "LeftTurns$City" "mayLaw" "LLeftTurns$Law;" ∈ lw_gd := gd_1 145 rfl rfl
theorem q_271 : Cond.laysFinal RX0 "LeftTurns$City" "folk" "LLeftTurns$Folk;" ∈ lw_gd := gd_1 147 rfl rfl
theorem q_273 : Cond.laysFinal RX0 "LeftTurns$City" "streets" "[I" ∈ lw_gd := gd_1 149 rfl rfl
theorem q_275 : Cond.laysFinal RX0 "LeftTurns$City" "strides" "[I" ∈ lw_gd := gd_1 151 rfl rfl
theorem q_277 : Cond.lays RX0 "LeftTurns$City" "wide" "I" ∈ lw_gd := gd_1 153 rfl rfl
theorem q_279 : Cond.lays RX0 "LeftTurns$City" "high" "I" ∈ lw_gd := gd_1 155 rfl rfl
theorem q_281 : Cond.lays RX0 "LeftTurns$City" "lines" "I" ∈ lw_gd := gd_1 157 rfl rfl
theorem q_283 : Cond.lays RX0 "LeftTurns$City" "toldFree" "I" ∈ lw_gd := gd_1 159 rfl rfl
theorem q_286 : Cond.classLink RX11 12 RX2 ∈ lw_gd := gd_1 162 rfl rfl
theorem q_287 : Cond.instantiable RX2 5 ∈ lw_gd := gd_1 163 rfl rfl
theorem q_288 : Cond.methodLink RX11 14 yX2_init ∈ lw_gd := gd_1 164 rfl rfl
theorem q_289 : Cond.instanceMethod yX2_init ∈ lw_gd := gd_1 165 rfl rfl
theorem q_290 : Cond.code yX2_init cX2_init 2 none ∈ lw_gd := gd_1 166 rfl rfl
theorem q_291 : Cond.methodLink RX2 3 objectInit ∈ lw_gd := gd_1 167 rfl rfl
theorem q_292 : Cond.fieldLink RX2 21 "LeftTurns$Forecast" "city" "LLeftTurns$City;" ∈ lw_gd := gd_1 168 rfl rfl
theorem q_293 : Cond.fieldLink RX2 11 "LeftTurns$Forecast" "free" "[I" ∈ lw_gd := gd_1 169 rfl rfl
theorem q_294 : Cond.fieldLink RX2 15 "LeftTurns$Forecast" "asked" "[I" ∈ lw_gd := gd_1 170 rfl rfl
theorem q_295 : Cond.fieldLink RX2 18 "LeftTurns$Forecast" "allowed" "[I" ∈ lw_gd := gd_1 171 rfl rfl
theorem q_296 : Cond.fieldLink RX2 25 "LeftTurns$Forecast" "begun" "I" ∈ lw_gd := gd_1 172 rfl rfl
theorem q_297 : Cond.laysFinal RX2 "LeftTurns$Forecast" "city" "LLeftTurns$City;" ∈ lw_gd := gd_1 173 rfl rfl
theorem q_299 : Cond.laysFinal RX2 "LeftTurns$Forecast" "free" "[I" ∈ lw_gd := gd_1 175 rfl rfl
theorem q_301 : Cond.laysFinal RX2 "LeftTurns$Forecast" "asked" "[I" ∈ lw_gd := gd_1 177 rfl rfl
theorem q_303 : Cond.laysFinal RX2 "LeftTurns$Forecast" "allowed" "[I" ∈ lw_gd := gd_1 179 rfl rfl
theorem q_305 : Cond.lays RX2 "LeftTurns$Forecast" "begun" "I" ∈ lw_gd := gd_1 181 rfl rfl
theorem q_308 : Cond.classLink RX11 17 RX8 ∈ lw_gd := gd_1 184 rfl rfl
theorem q_309 : Cond.instantiable RX8 7 ∈ lw_gd := gd_1 185 rfl rfl
theorem q_310 : Cond.methodLink RX11 19 yX8_init ∈ lw_gd := gd_1 186 rfl rfl
theorem q_311 : Cond.instanceMethod yX8_init ∈ lw_gd := gd_1 187 rfl rfl
theorem q_312 : Cond.code yX8_init cX8_init 3 none ∈ lw_gd := gd_1 188 rfl rfl
theorem q_313 : Cond.methodLink RX8 3 objectInit ∈ lw_gd := gd_1 189 rfl rfl
theorem q_314 : Cond.fieldLink RX8 21 "LeftTurns$Spread" "city" "LLeftTurns$City;" ∈ lw_gd := gd_1 190 rfl rfl
theorem q_315 : Cond.fieldLink RX8 25 "LeftTurns$Spread" "forecast" "LLeftTurns$Forecast;" ∈ lw_gd := gd_1 191 rfl rfl
theorem q_316 : Cond.fieldLink RX8 11 "LeftTurns$Spread" "sets" "[I" ∈ lw_gd := gd_1 192 rfl rfl
theorem q_317 : Cond.fieldLink RX8 15 "LeftTurns$Spread" "nexts" "[I" ∈ lw_gd := gd_1 193 rfl rfl
theorem q_318 : Cond.fieldLink RX8 29 "LeftTurns$Spread" "top" "I" ∈ lw_gd := gd_1 194 rfl rfl
theorem q_319 : Cond.fieldLink RX8 90 "LeftTurns$Spread" "streets" "I" ∈ lw_gd := gd_1 195 rfl rfl
theorem q_320 : Cond.fieldLink RX8 18 "LeftTurns$Spread" "reached" "[I" ∈ lw_gd := gd_1 196 rfl rfl
theorem q_321 : Cond.laysFinal RX8 "LeftTurns$Spread" "city" "LLeftTurns$City;" ∈ lw_gd := gd_1 197 rfl rfl
theorem q_323 : Cond.laysFinal RX8 "LeftTurns$Spread" "forecast" "LLeftTurns$Forecast;" ∈ lw_gd := gd_1 199 rfl rfl
theorem q_325 : Cond.lays RX8 "LeftTurns$Spread" "sets" "[I" ∈ lw_gd := gd_1 201 rfl rfl
theorem q_327 : Cond.lays RX8 "LeftTurns$Spread" "nexts" "[I" ∈ lw_gd := gd_1 203 rfl rfl
theorem q_329 : Cond.lays RX8 "LeftTurns$Spread" "top" "I" ∈ lw_gd := gd_1 205 rfl rfl
theorem q_331 : Cond.lays RX8 "LeftTurns$Spread" "streets" "I" ∈ lw_gd := gd_1 207 rfl rfl
theorem q_333 : Cond.laysFinal RX8 "LeftTurns$Spread" "reached" "[I" ∈ lw_gd := gd_1 209 rfl rfl
theorem q_336 : Cond.classLink RX11 22 RX7 ∈ lw_gd := gd_1 212 rfl rfl
theorem q_337 : Cond.instantiable RX7 7 ∈ lw_gd := gd_1 213 rfl rfl
theorem q_338 : Cond.methodLink RX11 24 yX7_init ∈ lw_gd := gd_1 214 rfl rfl
theorem q_339 : Cond.instanceMethod yX7_init ∈ lw_gd := gd_1 215 rfl rfl
theorem q_340 : Cond.code yX7_init cX7_init 4 none ∈ lw_gd := gd_1 216 rfl rfl
theorem q_341 : Cond.methodLink RX7 3 objectInit ∈ lw_gd := gd_1 217 rfl rfl
theorem q_342 : Cond.fieldLink RX7 18 "LeftTurns$Routes" "city" "LLeftTurns$City;" ∈ lw_gd := gd_1 218 rfl rfl
theorem q_343 : Cond.fieldLink RX7 22 "LeftTurns$Routes" "forecast" "LLeftTurns$Forecast;" ∈ lw_gd := gd_1 219 rfl rfl
theorem q_344 : Cond.fieldLink RX7 26 "LeftTurns$Routes" "spread" "LLeftTurns$Spread;" ∈ lw_gd := gd_1 220 rfl rfl
theorem q_345 : Cond.fieldLink RX7 9 "LeftTurns$Routes" "back" "[I" ∈ lw_gd := gd_1 221 rfl rfl
theorem q_346 : Cond.fieldLink RX7 15 "LeftTurns$Routes" "turns" "[I" ∈ lw_gd := gd_1 222 rfl rfl
theorem q_347 : Cond.fieldLink RX7 30 "LeftTurns$Routes" "length" "I" ∈ lw_gd := gd_1 223 rfl rfl
theorem q_348 : Cond.fieldLink RX7 34 "LeftTurns$Routes" "last" "I" ∈ lw_gd := gd_1 224 rfl rfl
theorem q_349 : Cond.laysFinal RX7 "LeftTurns$Routes" "city" "LLeftTurns$City;" ∈ lw_gd := gd_1 225 rfl rfl
theorem q_351 : Cond.laysFinal RX7 "LeftTurns$Routes" "forecast" "LLeftTurns$Forecast;" ∈ lw_gd := gd_1 227 rfl rfl
theorem q_353 : Cond.laysFinal RX7 "LeftTurns$Routes" "spread" "LLeftTurns$Spread;" ∈ lw_gd := gd_1 229 rfl rfl
theorem q_355 : Cond.laysFinal RX7 "LeftTurns$Routes" "back" "[I" ∈ lw_gd := gd_1 231 rfl rfl
theorem q_357 : Cond.laysFinal RX7 "LeftTurns$Routes" "turns" "[I" ∈ lw_gd := gd_1 233 rfl rfl
theorem q_359 : Cond.lays RX7 "LeftTurns$Routes" "length" "I" ∈ lw_gd := gd_1 235 rfl rfl
theorem q_361 : Cond.lays RX7 "LeftTurns$Routes" "last" "I" ∈ lw_gd := gd_1 237 rfl rfl
theorem q_364 : Cond.classLink RX11 34 RX5 ∈ lw_gd := gd_2 0 rfl rfl
theorem q_365 : Cond.instantiable RX5 11 ∈ lw_gd := gd_2 1 rfl rfl
theorem q_366 : Cond.methodLink RX11 36 yX5_init ∈ lw_gd := gd_2 2 rfl rfl
theorem q_367 : Cond.instanceMethod yX5_init ∈ lw_gd := gd_2 3 rfl rfl
theorem q_368 : Cond.code yX5_init cX5_init 2 none ∈ lw_gd := gd_2 4 rfl rfl
theorem q_369 : Cond.methodLink RX5 3 objectInit ∈ lw_gd := gd_2 5 rfl rfl
theorem q_370 : Cond.fieldLink RX5 19 "LeftTurns$Reader" "city" "LLeftTurns$City;" ∈ lw_gd := gd_2 6 rfl rfl
theorem q_371 : Cond.fieldLink RX5 9 "LeftTurns$Reader" "tape" "[B" ∈ lw_gd := gd_2 7 rfl rfl
theorem q_372 : Cond.fieldLink RX5 32 "LeftTurns$Reader" "fed" "I" ∈ lw_gd := gd_2 8 rfl rfl
theorem q_373 : Cond.fieldLink RX5 41 "LeftTurns$Reader" "length" "I" ∈ lw_gd := gd_2 9 rfl rfl
theorem q_374 : Cond.fieldLink RX5 50 "LeftTurns$Reader" "kind" "I" ∈ lw_gd := gd_2 10 rfl rfl
theorem q_375 : Cond.fieldLink RX5 63 "LeftTurns$Reader" "start" "I" ∈ lw_gd := gd_2 11 rfl rfl
theorem q_376 : Cond.fieldLink RX5 44 "LeftTurns$Reader" "end" "I" ∈ lw_gd := gd_2 12 rfl rfl
theorem q_377 : Cond.fieldLink RX5 73 "LeftTurns$Reader" "number" "I" ∈ lw_gd := gd_2 13 rfl rfl
theorem q_378 : Cond.fieldLink RX5 35 "LeftTurns$Reader" "fault" "I" ∈ lw_gd := gd_2 14 rfl rfl
theorem q_379 : Cond.fieldLink RX5 15 "LeftTurns$Reader" "place" "I" ∈ lw_gd := gd_2 15 rfl rfl
theorem q_380 : Cond.fieldLink RX5 29 "LeftTurns$Reader" "law" "LLeftTurns$Law;" ∈ lw_gd := gd_2 16 rfl rfl
theorem q_381 : Cond.laysFinal RX5 "LeftTurns$Reader" "city" "LLeftTurns$City;" ∈ lw_gd := gd_2 17 rfl rfl
theorem q_383 : Cond.laysFinal RX5 "LeftTurns$Reader" "tape" "[B" ∈ lw_gd := gd_2 19 rfl rfl
theorem q_385 : Cond.lays RX5 "LeftTurns$Reader" "fed" "I" ∈ lw_gd := gd_2 21 rfl rfl
theorem q_387 : Cond.lays RX5 "LeftTurns$Reader" "length" "I" ∈ lw_gd := gd_2 23 rfl rfl
theorem q_389 : Cond.lays RX5 "LeftTurns$Reader" "kind" "I" ∈ lw_gd := gd_2 25 rfl rfl
theorem q_391 : Cond.lays RX5 "LeftTurns$Reader" "start" "I" ∈ lw_gd := gd_2 27 rfl rfl
theorem q_393 : Cond.lays RX5 "LeftTurns$Reader" "end" "I" ∈ lw_gd := gd_2 29 rfl rfl
theorem q_395 : Cond.lays RX5 "LeftTurns$Reader" "number" "I" ∈ lw_gd := gd_2 31 rfl rfl
theorem q_397 : Cond.lays RX5 "LeftTurns$Reader" "fault" "I" ∈ lw_gd := gd_2 33 rfl rfl
theorem q_399 : Cond.lays RX5 "LeftTurns$Reader" "place" "I" ∈ lw_gd := gd_2 35 rfl rfl
theorem q_401 : Cond.lays RX5 "LeftTurns$Reader" "law" "LLeftTurns$Law;" ∈ lw_gd := gd_2 37 rfl rfl
theorem q_404 : Cond.arrayClass .byte ∈ lw_gd := gd_2 40 rfl rfl
theorem q_405 : Cond.classLink RX11 49 RX6 ∈ lw_gd := gd_2 41 rfl rfl
theorem q_406 : Cond.instantiable RX6 10 ∈ lw_gd := gd_2 42 rfl rfl
theorem q_407 : Cond.methodLink RX11 51 yX6_init ∈ lw_gd := gd_2 43 rfl rfl
theorem q_408 : Cond.instanceMethod yX6_init ∈ lw_gd := gd_2 44 rfl rfl
theorem q_409 : Cond.code yX6_init cX6_init 3 none ∈ lw_gd := gd_2 45 rfl rfl
theorem q_410 : Cond.methodLink RX6 3 objectInit ∈ lw_gd := gd_2 46 rfl rfl
theorem q_411 : Cond.fieldLink RX6 21 "LeftTurns$Rounds" "spread" "LLeftTurns$Spread;" ∈ lw_gd := gd_2 47 rfl rfl
theorem q_412 : Cond.fieldLink RX6 25 "LeftTurns$Rounds" "routes" "LLeftTurns$Routes;" ∈ lw_gd := gd_2 48 rfl rfl
theorem q_413 : Cond.fieldLink RX6 9 "LeftTurns$Rounds" "stops" "[I" ∈ lw_gd := gd_2 49 rfl rfl
theorem q_414 : Cond.fieldLink RX6 15 "LeftTurns$Rounds" "order" "[I" ∈ lw_gd := gd_2 50 rfl rfl
theorem q_415 : Cond.fieldLink RX6 18 "LeftTurns$Rounds" "bestOrder" "[I" ∈ lw_gd := gd_2 51 rfl rfl
theorem q_416 : Cond.fieldLink RX6 41 "LeftTurns$Rounds" "size" "I" ∈ lw_gd := gd_2 52 rfl rfl
theorem q_417 : Cond.fieldLink RX6 46 "LeftTurns$Rounds" "done" "I" ∈ lw_gd := gd_2 53 rfl rfl
theorem q_418 : Cond.fieldLink RX6 49 "LeftTurns$Rounds" "any" "Z" ∈ lw_gd := gd_2 54 rfl rfl
theorem q_419 : Cond.fieldLink RX6 63 "LeftTurns$Rounds" "bestLefts" "I" ∈ lw_gd := gd_2 55 rfl rfl
theorem q_420 : Cond.fieldLink RX6 86 "LeftTurns$Rounds" "bestStreets" "I" ∈ lw_gd := gd_2 56 rfl rfl
theorem q_421 : Cond.laysFinal RX6 "LeftTurns$Rounds" "spread" "LLeftTurns$Spread;" ∈ lw_gd := gd_2 57 rfl rfl
theorem q_423 : Cond.laysFinal RX6 "LeftTurns$Rounds" "routes" "LLeftTurns$Routes;" ∈ lw_gd := gd_2 59 rfl rfl
theorem q_425 : Cond.laysFinal RX6 "LeftTurns$Rounds" "stops" "[I" ∈ lw_gd := gd_2 61 rfl rfl
theorem q_427 : Cond.laysFinal RX6 "LeftTurns$Rounds" "order" "[I" ∈ lw_gd := gd_2 63 rfl rfl
theorem q_429 : Cond.laysFinal RX6 "LeftTurns$Rounds" "bestOrder" "[I" ∈ lw_gd := gd_2 65 rfl rfl
theorem q_431 : Cond.lays RX6 "LeftTurns$Rounds" "size" "I" ∈ lw_gd := gd_2 67 rfl rfl
theorem q_433 : Cond.lays RX6 "LeftTurns$Rounds" "done" "I" ∈ lw_gd := gd_2 69 rfl rfl
theorem q_435 : Cond.lays RX6 "LeftTurns$Rounds" "any" "Z" ∈ lw_gd := gd_2 71 rfl rfl
theorem q_437 : Cond.lays RX6 "LeftTurns$Rounds" "bestLefts" "I" ∈ lw_gd := gd_2 73 rfl rfl
theorem q_439 : Cond.lays RX6 "LeftTurns$Rounds" "bestStreets" "I" ∈ lw_gd := gd_2 75 rfl rfl
theorem q_442 : Cond.classLink RX11 58 RX9 ∈ lw_gd := gd_2 78 rfl rfl
theorem q_443 : Cond.instantiable RX9 5 ∈ lw_gd := gd_2 79 rfl rfl
theorem q_444 : Cond.methodLink RX11 60 yX9_init ∈ lw_gd := gd_2 80 rfl rfl
theorem q_445 : Cond.instanceMethod yX9_init ∈ lw_gd := gd_2 81 rfl rfl
theorem q_446 : Cond.code yX9_init cX9_init 3 none ∈ lw_gd := gd_2 82 rfl rfl
theorem q_447 : Cond.methodLink RX9 5 objectInit ∈ lw_gd := gd_2 83 rfl rfl
theorem q_448 : Cond.classLink RX9 11 "[[J" ∈ lw_gd := gd_2 84 rfl rfl
theorem q_450 : Cond.classLink RX9 16 "[[I" ∈ lw_gd := gd_2 86 rfl rfl
theorem q_452 : Cond.fieldLink RX9 24 "LeftTurns$Tally" "city" "LLeftTurns$City;" ∈ lw_gd := gd_2 88 rfl rfl
theorem q_453 : Cond.fieldLink RX9 28 "LeftTurns$Tally" "forecast" "LLeftTurns$Forecast;" ∈ lw_gd := gd_2 89 rfl rfl
theorem q_454 : Cond.fieldLink RX9 13 "LeftTurns$Tally" "ways" "[[J" ∈ lw_gd := gd_2 90 rfl rfl
theorem q_455 : Cond.fieldLink RX9 18 "LeftTurns$Tally" "most" "[[I" ∈ lw_gd := gd_2 91 rfl rfl
theorem q_456 : Cond.fieldLink RX9 21 "LeftTurns$Tally" "coins" "[[I" ∈ lw_gd := gd_2 92 rfl rfl
theorem q_457 : Cond.laysFinal RX9 "LeftTurns$Tally" "city" "LLeftTurns$City;" ∈ lw_gd := gd_2 93 rfl rfl
theorem q_459 : Cond.laysFinal RX9 "LeftTurns$Tally" "forecast" "LLeftTurns$Forecast;" ∈ lw_gd := gd_2 95 rfl rfl
theorem q_461 : Cond.laysFinal RX9 "LeftTurns$Tally" "ways" "[[J" ∈ lw_gd := gd_2 97 rfl rfl
theorem q_463 : Cond.laysFinal RX9 "LeftTurns$Tally" "most" "[[I" ∈ lw_gd := gd_2 99 rfl rfl
theorem q_465 : Cond.laysFinal RX9 "LeftTurns$Tally" "coins" "[[I" ∈ lw_gd := gd_2 101 rfl rfl
theorem q_468 : Cond.arrayClass .long ∈ lw_gd := gd_2 104 rfl rfl
theorem q_469 : Cond.classLink RX11 69 RX3 ∈ lw_gd := gd_2 105 rfl rfl
theorem q_470 : Cond.instantiable RX3 5 ∈ lw_gd := gd_2 106 rfl rfl
theorem q_471 : Cond.methodLink RX11 71 yX3_init ∈ lw_gd := gd_2 107 rfl rfl
theorem q_472 : Cond.instanceMethod yX3_init ∈ lw_gd := gd_2 108 rfl rfl
theorem q_473 : Cond.code yX3_init cX3_init 2 none ∈ lw_gd := gd_2 109 rfl rfl
theorem q_474 : Cond.methodLink RX3 3 objectInit ∈ lw_gd := gd_2 110 rfl rfl
theorem q_475 : Cond.fieldLink RX3 18 "LeftTurns$Hunt" "city" "LLeftTurns$City;" ∈ lw_gd := gd_2 111 rfl rfl
theorem q_476 : Cond.fieldLink RX3 11 "LeftTurns$Hunt" "catching" "[I" ∈ lw_gd := gd_2 112 rfl rfl
theorem q_477 : Cond.fieldLink RX3 15 "LeftTurns$Hunt" "inTurn" "[I" ∈ lw_gd := gd_2 113 rfl rfl
theorem q_478 : Cond.fieldLink RX3 22 "LeftTurns$Hunt" "known" "I" ∈ lw_gd := gd_2 114 rfl rfl
theorem q_479 : Cond.fieldLink RX3 26 "LeftTurns$Hunt" "settled" "Z" ∈ lw_gd := gd_2 115 rfl rfl
theorem q_480 : Cond.laysFinal RX3 "LeftTurns$Hunt" "city" "LLeftTurns$City;" ∈ lw_gd := gd_2 116 rfl rfl
theorem q_482 : Cond.laysFinal RX3 "LeftTurns$Hunt" "catching" "[I" ∈ lw_gd := gd_2 118 rfl rfl
theorem q_484 : Cond.laysFinal RX3 "LeftTurns$Hunt" "inTurn" "[I" ∈ lw_gd := gd_2 120 rfl rfl
theorem q_486 : Cond.lays RX3 "LeftTurns$Hunt" "known" "I" ∈ lw_gd := gd_2 122 rfl rfl
theorem q_488 : Cond.lays RX3 "LeftTurns$Hunt" "settled" "Z" ∈ lw_gd := gd_2 124 rfl rfl
theorem q_491 : Cond.classLink RX11 76 RX10 ∈ lw_gd := gd_2 127 rfl rfl
theorem q_493 : Cond.instantiable RX10 3 ∈ lw_gd := gd_2 129 rfl rfl
theorem q_495 : Cond.instanceMethod yX10_init ∈ lw_gd := gd_2 131 rfl rfl
theorem q_496 : Cond.code yX10_init cX10_init 1 none ∈ lw_gd := gd_2 132 rfl rfl
theorem q_497 : Cond.methodLink RX10 3 objectInit ∈ lw_gd := gd_2 133 rfl rfl
theorem q_498 : Cond.fieldLink RX10 11 "LeftTurns$Tray" "values" "[J" ∈ lw_gd := gd_2 134 rfl rfl
theorem q_499 : Cond.fieldLink RX10 25 "LeftTurns$Tray" "sort" "I" ∈ lw_gd := gd_2 135 rfl rfl
theorem q_500 : Cond.fieldLink RX10 15 "LeftTurns$Tray" "size" "I" ∈ lw_gd := gd_2 136 rfl rfl
theorem q_501 : Cond.fieldLink RX6 29 "LeftTurns$Tray" "size" "I" ∈ lw_gd := gd_2 137 rfl rfl
theorem q_502 : Cond.fieldLink RX11 214 "LeftTurns$Tray" "size" "I" ∈ lw_gd := gd_2 138 rfl rfl
theorem q_503 : Cond.fieldLink RX8 113 "LeftTurns$Tray" "size" "I" ∈ lw_gd := gd_2 139 rfl rfl
theorem q_504 : Cond.laysFinal RX10 "LeftTurns$Tray" "values" "[J" ∈ lw_gd := gd_2 140 rfl rfl
theorem q_506 : Cond.lays RX10 "LeftTurns$Tray" "sort" "I" ∈ lw_gd := gd_2 142 rfl rfl
theorem q_508 : Cond.lays RX10 "LeftTurns$Tray" "size" "I" ∈ lw_gd := gd_2 144 rfl rfl
theorem q_512 : Cond.classLink RX11 91 RX1 ∈ lw_gd := gd_2 148 rfl rfl
theorem q_515 : Cond.fieldLink RX11 27 "LeftTurns" "now" "LLeftTurns$City;" ∈ lw_gd := gd_2 151 rfl rfl
theorem q_516 : Cond.fieldLink RX11 31 "LeftTurns" "spare" "LLeftTurns$City;" ∈ lw_gd := gd_2 152 rfl rfl
theorem q_517 : Cond.fieldLink RX11 37 "LeftTurns" "reader" "LLeftTurns$Reader;" ∈ lw_gd := gd_2 153 rfl rfl
theorem q_518 : Cond.fieldLink RX11 41 "LeftTurns" "forecast" "LLeftTurns$Forecast;" ∈ lw_gd := gd_2 154 rfl rfl
theorem q_519 : Cond.fieldLink RX11 45 "LeftTurns" "routes" "LLeftTurns$Routes;" ∈ lw_gd := gd_2 155 rfl rfl
theorem q_520 : Cond.fieldLink RX11 54 "LeftTurns" "rounds" "LLeftTurns$Rounds;" ∈ lw_gd := gd_2 156 rfl rfl
theorem q_521 : Cond.fieldLink RX11 61 "LeftTurns" "tally" "LLeftTurns$Tally;" ∈ lw_gd := gd_2 157 rfl rfl
theorem q_522 : Cond.fieldLink RX11 65 "LeftTurns" "spread" "LLeftTurns$Spread;" ∈ lw_gd := gd_2 158 rfl rfl
theorem q_523 : Cond.fieldLink RX11 72 "LeftTurns" "hunt" "LLeftTurns$Hunt;" ∈ lw_gd := gd_2 159 rfl rfl
theorem q_524 : Cond.fieldLink RX11 78 "LeftTurns" "trays" "[LLeftTurns$Tray;" ∈ lw_gd := gd_2 160 rfl rfl
theorem q_525 : Cond.fieldLink RX11 83 "LeftTurns" "images" "[LLeftTurns$City;" ∈ lw_gd := gd_2 161 rfl rfl
theorem q_526 : Cond.fieldLink RX11 87 "LeftTurns" "imageMade" "[Z" ∈ lw_gd := gd_2 162 rfl rfl
theorem q_527 : Cond.fieldLink RX11 93 "LeftTurns" "past" "[LLeftTurns$Folk;" ∈ lw_gd := gd_2 163 rfl rfl
theorem q_528 : Cond.fieldLink RX11 98 "LeftTurns" "before" "LLeftTurns$Folk;" ∈ lw_gd := gd_2 164 rfl rfl
theorem q_529 : Cond.fieldLink RX11 102 "LeftTurns" "walked" "[I" ∈ lw_gd := gd_2 165 rfl rfl
theorem q_530 : Cond.fieldLink RX11 106 "LeftTurns" "dayPrices" "[I" ∈ lw_gd := gd_2 166 rfl rfl
theorem q_531 : Cond.fieldLink RX11 237 "LeftTurns" "pastFirst" "I" ∈ lw_gd := gd_2 167 rfl rfl
theorem q_532 : Cond.fieldLink RX11 234 "LeftTurns" "pastSize" "I" ∈ lw_gd := gd_2 168 rfl rfl
theorem q_533 : Cond.fieldLink RX11 243 "LeftTurns" "seed" "I" ∈ lw_gd := gd_2 169 rfl rfl
theorem q_534 : Cond.laysFinal RX11 "LeftTurns" "now" "LLeftTurns$City;" ∈ lw_gd := gd_2 170 rfl rfl
theorem q_536 : Cond.laysFinal RX11 "LeftTurns" "spare" "LLeftTurns$City;" ∈ lw_gd := gd_2 172 rfl rfl
theorem q_538 : Cond.laysFinal RX11 "LeftTurns" "reader" "LLeftTurns$Reader;" ∈ lw_gd := gd_2 174 rfl rfl
theorem q_540 : Cond.laysFinal RX11 "LeftTurns" "forecast" "LLeftTurns$Forecast;" ∈ lw_gd := gd_2 176 rfl rfl
theorem q_542 : Cond.laysFinal RX11 "LeftTurns" "routes" "LLeftTurns$Routes;" ∈ lw_gd := gd_2 178 rfl rfl
theorem q_544 : Cond.laysFinal RX11 "LeftTurns" "rounds" "LLeftTurns$Rounds;" ∈ lw_gd := gd_2 180 rfl rfl
theorem q_546 : Cond.laysFinal RX11 "LeftTurns" "tally" "LLeftTurns$Tally;" ∈ lw_gd := gd_2 182 rfl rfl
theorem q_548 : Cond.laysFinal RX11 "LeftTurns" "spread" "LLeftTurns$Spread;" ∈ lw_gd := gd_2 184 rfl rfl
theorem q_550 : Cond.laysFinal RX11 "LeftTurns" "hunt" "LLeftTurns$Hunt;" ∈ lw_gd := gd_2 186 rfl rfl
theorem q_552 : Cond.laysFinal RX11 "LeftTurns" "trays" "[LLeftTurns$Tray;" ∈ lw_gd := gd_2 188 rfl rfl
theorem q_554 : Cond.laysFinal RX11 "LeftTurns" "images" "[LLeftTurns$City;" ∈ lw_gd := gd_2 190 rfl rfl
theorem q_556 : Cond.laysFinal RX11 "LeftTurns" "imageMade" "[Z" ∈ lw_gd := gd_2 192 rfl rfl
theorem q_558 : Cond.laysFinal RX11 "LeftTurns" "past" "[LLeftTurns$Folk;" ∈ lw_gd := gd_2 194 rfl rfl
theorem q_560 : Cond.laysFinal RX11 "LeftTurns" "before" "LLeftTurns$Folk;" ∈ lw_gd := gd_2 196 rfl rfl
theorem q_562 : Cond.laysFinal RX11 "LeftTurns" "walked" "[I" ∈ lw_gd := gd_2 198 rfl rfl
theorem q_564 : Cond.laysFinal RX11 "LeftTurns" "dayPrices" "[I" ∈ lw_gd := gd_2 200 rfl rfl
theorem q_566 : Cond.lays RX11 "LeftTurns" "pastFirst" "I" ∈ lw_gd := gd_2 202 rfl rfl
theorem q_568 : Cond.lays RX11 "LeftTurns" "pastSize" "I" ∈ lw_gd := gd_2 204 rfl rfl
theorem q_570 : Cond.lays RX11 "LeftTurns" "seed" "I" ∈ lw_gd := gd_2 206 rfl rfl
theorem q_573 : Cond.arrayClass .boolean ∈ lw_gd := gd_2 209 rfl rfl
theorem q_574 : Cond.methodLink RL 13 yX11_feed ∈ lw_gd := gd_2 210 rfl rfl
theorem q_575 : Cond.instanceMethod yX11_feed ∈ lw_gd := gd_2 211 rfl rfl
theorem q_576 : Cond.selects RX11 yX11_feed yX11_feed ∈ lw_gd := gd_2 212 rfl rfl
theorem q_577 : Cond.code yX11_feed cX11_feed 6 (some .int) ∈ lw_gd := gd_2 213 rfl rfl
theorem q_578 : Cond.methodLink RX11 109 yX5_hasRoom ∈ lw_gd := gd_2 214 rfl rfl
theorem q_579 : Cond.instanceMethod yX5_hasRoom ∈ lw_gd := gd_2 215 rfl rfl
theorem q_580 : Cond.selects RX5 yX5_hasRoom yX5_hasRoom ∈ lw_gd := gd_2 216 rfl rfl
theorem q_581 : Cond.code yX5_hasRoom cX5_hasRoom 1 (some .boolean) ∈ lw_gd := gd_2 217 rfl rfl
theorem q_582 : Cond.methodLink RX11 113 yX5_put ∈ lw_gd := gd_2 218 rfl rfl
theorem q_583 : Cond.instanceMethod yX5_put ∈ lw_gd := gd_2 219 rfl rfl
theorem q_584 : Cond.selects RX5 yX5_put yX5_put ∈ lw_gd := gd_2 220 rfl rfl
theorem q_585 : Cond.code yX5_put cX5_put 3 none ∈ lw_gd := gd_2 221 rfl rfl
theorem q_586 : Cond.methodLink RX11 117 yX5_fed ∈ lw_gd := gd_2 222 rfl rfl
theorem q_587 : Cond.instanceMethod yX5_fed ∈ lw_gd := gd_2 223 rfl rfl
theorem q_588 : Cond.selects RX5 yX5_fed yX5_fed ∈ lw_gd := gd_2 224 rfl rfl
theorem q_589 : Cond.code yX5_fed cX5_fed 1 (some .int) ∈ lw_gd := gd_2 225 rfl rfl
theorem q_590 : Cond.methodLink RL 18 yX11_city ∈ lw_gd := gd_2 226 rfl rfl
theorem q_591 : Cond.instanceMethod yX11_city ∈ lw_gd := gd_2 227 rfl rfl
theorem q_592 : Cond.selects RX11 yX11_city yX11_city ∈ lw_gd := gd_2 228 rfl rfl
theorem q_593 : Cond.code yX11_city cX11_city 3 (some .int) ∈ lw_gd := gd_2 229 rfl rfl
theorem q_594 : Cond.methodLink RX11 121 yX5_read ∈ lw_gd := gd_2 230 rfl rfl
theorem q_595 : Cond.instanceMethod yX5_read ∈ lw_gd := gd_2 231 rfl rfl
theorem q_596 : Cond.selects RX5 yX5_read yX5_read ∈ lw_gd := gd_2 232 rfl rfl
theorem q_597 : Cond.code yX5_read cX5_read 3 (some .int) ∈ lw_gd := gd_2 233 rfl rfl
theorem q_598 : Cond.methodLink RX5 38 yX0_clear ∈ lw_gd := gd_2 234 rfl rfl
theorem q_599 : Cond.instanceMethod yX0_clear ∈ lw_gd := gd_2 235 rfl rfl
theorem q_600 : Cond.selects RX0 yX0_clear yX0_clear ∈ lw_gd := gd_2 236 rfl rfl
theorem q_601 : Cond.code yX0_clear cX0_clear 1 none ∈ lw_gd := gd_2 237 rfl rfl
theorem q_602 : Cond.methodLink RX0 35 yX4_clear ∈ lw_gd := gd_2 238 rfl rfl
theorem q_603 : Cond.instanceMethod yX4_clear ∈ lw_gd := gd_2 239 rfl rfl
theorem q_604 : Cond.selects RX4 yX4_clear yX4_clear ∈ lw_gd := gd_3 0 rfl rfl
theorem q_605 : Cond.code yX4_clear cX4_clear 1 none ∈ lw_gd := gd_3 1 rfl rfl
theorem q_606 : Cond.methodLink RX0 38 yX1_clear ∈ lw_gd := gd_3 2 rfl rfl
theorem q_607 : Cond.instanceMethod yX1_clear ∈ lw_gd := gd_3 3 rfl rfl
theorem q_608 : Cond.selects RX1 yX1_clear yX1_clear ∈ lw_gd := gd_3 4 rfl rfl
theorem q_609 : Cond.code yX1_clear cX1_clear 1 none ∈ lw_gd := gd_3 5 rfl rfl
theorem q_610 : Cond.methodLink RX1 33 yJ7_fill_53178 ∈ lw_gd := gd_3 6 rfl rfl
theorem q_611 : Cond.static yJ7_fill_53178 ∈ lw_gd := gd_3 7 rfl rfl
theorem q_612 : Cond.code yJ7_fill_53178 cJ7_fill_53178 4 none ∈ lw_gd := gd_3 8 rfl rfl
theorem q_613 : Cond.methodLink RX0 39 yJ7_fill_53178 ∈ lw_gd := gd_3 9 rfl rfl
theorem q_614 : Cond.methodLink RX5 47 yX5_advance ∈ lw_gd := gd_3 10 rfl rfl
theorem q_616 : Cond.instanceMethod yX5_advance ∈ lw_gd := gd_3 12 rfl rfl
theorem q_617 : Cond.code yX5_advance cX5_advance 1 none ∈ lw_gd := gd_3 13 rfl rfl
theorem q_618 : Cond.methodLink RX5 66 yX5_isSmall ∈ lw_gd := gd_3 14 rfl rfl
theorem q_620 : Cond.instanceMethod yX5_isSmall ∈ lw_gd := gd_3 16 rfl rfl
theorem q_621 : Cond.code yX5_isSmall cX5_isSmall 2 (some .boolean) ∈ lw_gd := gd_3 17 rfl rfl
theorem q_622 : Cond.methodLink RX5 70 yX5_isDigit ∈ lw_gd := gd_3 18 rfl rfl
theorem q_624 : Cond.instanceMethod yX5_isDigit ∈ lw_gd := gd_3 20 rfl rfl
theorem q_625 : Cond.code yX5_isDigit cX5_isDigit 2 (some .boolean) ∈ lw_gd := gd_3 21 rfl rfl
theorem q_626 : Cond.methodLink RX5 76 yX5_fail ∈ lw_gd := gd_3 22 rfl rfl
theorem q_628 : Cond.instanceMethod yX5_fail ∈ lw_gd := gd_3 24 rfl rfl
theorem q_629 : Cond.code yX5_fail cX5_fail 2 none ∈ lw_gd := gd_3 25 rfl rfl
theorem q_631 : Cond.methodLink RX5 82 yJ0_indexOf_0f7a4 ∈ lw_gd := gd_3 27 rfl rfl
theorem q_632 : Cond.instanceMethod yJ0_indexOf_0f7a4 ∈ lw_gd := gd_3 28 rfl rfl
theorem q_633 : Cond.selects RJ0 yJ0_indexOf_0f7a4 yJ0_indexOf_0f7a4 ∈ lw_gd := gd_3 29 rfl rfl
theorem q_634 : Cond.code yJ0_indexOf_0f7a4 cJ0_indexOf_0f7a4 2 (some .int) ∈ lw_gd := gd_3 30 rfl rfl
theorem q_635 : Cond.methodLink RJ0 633 yJ0_indexOf_7cf53 ∈ lw_gd := gd_3 31 rfl rfl
theorem q_636 : Cond.instanceMethod yJ0_indexOf_7cf53 ∈ lw_gd := gd_3 32 rfl rfl
theorem q_637 : Cond.selects RJ0 yJ0_indexOf_7cf53 yJ0_indexOf_7cf53 ∈ lw_gd := gd_3 33 rfl rfl
theorem q_638 : Cond.code yJ0_indexOf_7cf53 cJ0_indexOf_7cf53 3 (some .int) ∈ lw_gd := gd_3 34 rfl rfl
theorem q_639 : Cond.methodLink RJ0 492 yJ0_isLatin1_aae02 ∈ lw_gd := gd_3 35 rfl rfl
theorem q_640 : Cond.instanceMethod yJ0_isLatin1_aae02 ∈ lw_gd := gd_3 36 rfl rfl
theorem q_641 : Cond.selects RJ0 yJ0_isLatin1_aae02 yJ0_isLatin1_aae02 ∈ lw_gd := gd_3 37 rfl rfl
theorem q_642 : Cond.code yJ0_isLatin1_aae02 cJ0_isLatin1_aae02 1 (some .boolean) ∈ lw_gd := gd_3 38 rfl rfl
theorem q_643 : Cond.fieldLink RJ0 38 "java/lang/String" "COMPACT_STRINGS" "Z" ∈ lw_gd := gd_3 39 rfl rfl
theorem q_645 : Cond.methodLink RJ0 505 yJ0_length_8abf5 ∈ lw_gd := gd_3 41 rfl rfl
theorem q_646 : Cond.instanceMethod yJ0_length_8abf5 ∈ lw_gd := gd_3 42 rfl rfl
theorem q_647 : Cond.selects RJ0 yJ0_length_8abf5 yJ0_length_8abf5 ∈ lw_gd := gd_3 43 rfl rfl
theorem q_648 : Cond.code yJ0_length_8abf5 cJ0_length_8abf5 1 (some .int) ∈ lw_gd := gd_3 44 rfl rfl
theorem q_649 : Cond.methodLink RJ0 335 yJ0_coder_7d493 ∈ lw_gd := gd_3 45 rfl rfl
theorem q_650 : Cond.instanceMethod yJ0_coder_7d493 ∈ lw_gd := gd_3 46 rfl rfl
theorem q_651 : Cond.selects RJ0 yJ0_coder_7d493 yJ0_coder_7d493 ∈ lw_gd := gd_3 47 rfl rfl
theorem q_652 : Cond.code yJ0_coder_7d493 cJ0_coder_7d493 1 (some .byte) ∈ lw_gd := gd_3 48 rfl rfl
theorem q_653 : Cond.methodLink RJ0 637 yJ1_indexOf_4cfef ∈ lw_gd := gd_3 49 rfl rfl
theorem q_654 : Cond.static yJ1_indexOf_4cfef ∈ lw_gd := gd_3 50 rfl rfl
theorem q_655 : Cond.code yJ1_indexOf_4cfef cJ1_indexOf_4cfef 4 (some .int) ∈ lw_gd := gd_3 51 rfl rfl
theorem q_656 : Cond.methodLink RJ1 88 yJ1_canEncode_9a6ad ∈ lw_gd := gd_3 52 rfl rfl
theorem q_657 : Cond.static yJ1_canEncode_9a6ad ∈ lw_gd := gd_3 53 rfl rfl
theorem q_658 : Cond.code yJ1_canEncode_9a6ad cJ1_canEncode_9a6ad 1 (some .boolean) ∈ lw_gd := gd_3 54 rfl rfl
theorem q_659 : Cond.methodLink RJ1 92 yJ9_max_7cf53 ∈ lw_gd := gd_3 55 rfl rfl
theorem q_660 : Cond.static yJ9_max_7cf53 ∈ lw_gd := gd_3 56 rfl rfl
theorem q_661 : Cond.code yJ9_max_7cf53 cJ9_max_7cf53 2 (some .int) ∈ lw_gd := gd_3 57 rfl rfl
theorem q_662 : Cond.methodLink RJ1 38 yJ9_min_7cf53 ∈ lw_gd := gd_3 58 rfl rfl
theorem q_663 : Cond.static yJ9_min_7cf53 ∈ lw_gd := gd_3 59 rfl rfl
theorem q_664 : Cond.code yJ9_min_7cf53 cJ9_min_7cf53 2 (some .int) ∈ lw_gd := gd_3 60 rfl rfl
theorem q_665 : Cond.methodLink RJ1 95 yJ1_indexOfChar_4cfef ∈ lw_gd := gd_3 61 rfl rfl
theorem q_666 : Cond.static yJ1_indexOfChar_4cfef ∈ lw_gd := gd_3 62 rfl rfl
theorem q_667 : Cond.code yJ1_indexOfChar_4cfef cJ1_indexOfChar_4cfef 6 (some .int) ∈ lw_gd := gd_3 63 rfl rfl
theorem q_668 : Cond.methodLink RJ0 640 yJ2_indexOf_4cfef ∈ lw_gd := gd_3 64 rfl rfl
theorem q_669 : Cond.static yJ2_indexOf_4cfef ∈ lw_gd := gd_3 65 rfl rfl
theorem q_670 : Cond.code yJ2_indexOf_4cfef cJ2_indexOf_4cfef 4 (some .int) ∈ lw_gd := gd_3 66 rfl rfl
theorem q_671 : Cond.methodLink RJ2 224 yJ9_max_7cf53 ∈ lw_gd := gd_3 67 rfl rfl
theorem q_672 : Cond.methodLink RJ2 183 yJ9_min_7cf53 ∈ lw_gd := gd_3 68 rfl rfl
theorem q_673 : Cond.constant RJ2 227 (65536) ∈ lw_gd := gd_3 69 rfl rfl
theorem q_674 : Cond.methodLink RJ2 228 yJ2_indexOfChar_4cfef ∈ lw_gd := gd_3 70 rfl rfl
theorem q_675 : Cond.static yJ2_indexOfChar_4cfef ∈ lw_gd := gd_3 71 rfl rfl
theorem q_676 : Cond.code yJ2_indexOfChar_4cfef cJ2_indexOfChar_4cfef 4 (some .int) ∈ lw_gd := gd_3 72 rfl rfl
theorem q_677 : Cond.methodLink RJ2 96 yJ2_checkBoundsBeginEnd_d044e ∈ lw_gd := gd_3 73 rfl rfl
theorem q_678 : Cond.static yJ2_checkBoundsBeginEnd_d044e ∈ lw_gd := gd_3 74 rfl rfl
theorem q_679 : Cond.code yJ2_checkBoundsBeginEnd_d044e cJ2_checkBoundsBeginEnd_d044e 3 none ∈ lw_gd := gd_3 75 rfl rfl
theorem q_680 : Cond.methodLink RJ2 48 yJ2_length_9d52b ∈ lw_gd := gd_3 76 rfl rfl
theorem q_681 : Cond.static yJ2_length_9d52b ∈ lw_gd := gd_3 77 rfl rfl
theorem q_682 : Cond.code yJ2_length_9d52b cJ2_length_9d52b 1 (some .int) ∈ lw_gd := gd_3 78 rfl rfl
theorem q_683 : Cond.methodLink RJ2 241 yJ0_checkBoundsBeginEnd_23922 ∈ lw_gd := gd_3 79 rfl rfl
theorem q_684 : Cond.static yJ0_checkBoundsBeginEnd_23922 ∈ lw_gd := gd_3 80 rfl rfl
theorem q_685 : Cond.code yJ0_checkBoundsBeginEnd_23922 cJ0_checkBoundsBeginEnd_23922 3 none ∈ lw_gd := gd_3 81 rfl rfl
theorem q_686 : Cond.fieldLink RJ0 1053 "jdk/internal/util/Preconditions" "SIOOBE_FORMATTER" "Ljava/util/function/BiFunction;" ∈ lw_gd := gd_3 82 rfl rfl
theorem q_688 : Cond.methodLink RJ0 1062 yJ3_checkFromToIndex_8c36e ∈ lw_gd := gd_3 84 rfl rfl
theorem q_689 : Cond.static yJ3_checkFromToIndex_8c36e ∈ lw_gd := gd_3 85 rfl rfl
theorem q_690 : Cond.code yJ3_checkFromToIndex_8c36e cJ3_checkFromToIndex_8c36e 4 (some .int) ∈ lw_gd := gd_3 86 rfl rfl
theorem q_691 : Cond.methodLink RJ2 244 yJ2_indexOfCharUnsafe_4cfef ∈ lw_gd := gd_3 87 rfl rfl
theorem q_692 : Cond.static yJ2_indexOfCharUnsafe_4cfef ∈ lw_gd := gd_3 88 rfl rfl
theorem q_693 : Cond.code yJ2_indexOfCharUnsafe_4cfef cJ2_indexOfCharUnsafe_4cfef 5 (some .int) ∈ lw_gd := gd_3 89 rfl rfl
theorem q_694 : Cond.methodLink RJ2 71 yJ2_getChar_3b067 ∈ lw_gd := gd_3 90 rfl rfl
theorem q_695 : Cond.static yJ2_getChar_3b067 ∈ lw_gd := gd_3 91 rfl rfl
theorem q_696 : Cond.code yJ2_getChar_3b067 cJ2_getChar_3b067 2 (some .char) ∈ lw_gd := gd_3 92 rfl rfl
theorem q_697 : Cond.fieldLink RJ2 44 "java/lang/StringUTF16" "$assertionsDisabled" "Z" ∈ lw_gd := gd_3 93 rfl rfl
theorem q_699 : Cond.fieldLink RJ2 59 "java/lang/StringUTF16" "HI_BYTE_SHIFT" "I" ∈ lw_gd := gd_3 95 rfl rfl
theorem q_701 : Cond.fieldLink RJ2 63 "java/lang/StringUTF16" "LO_BYTE_SHIFT" "I" ∈ lw_gd := gd_3 97 rfl rfl
theorem q_703 : Cond.methodLink RJ2 232 yJ2_indexOfSupplementary_4cfef ∈ lw_gd := gd_3 99 rfl rfl
theorem q_704 : Cond.static yJ2_indexOfSupplementary_4cfef ∈ lw_gd := gd_3 100 rfl rfl
theorem q_705 : Cond.code yJ2_indexOfSupplementary_4cfef cJ2_indexOfSupplementary_4cfef 7 (some .int) ∈ lw_gd := gd_3 101 rfl rfl
theorem q_706 : Cond.methodLink RJ2 164 yJ11_isValidCodePoint_9a6ad ∈ lw_gd := gd_3 102 rfl rfl
theorem q_707 : Cond.static yJ11_isValidCodePoint_9a6ad ∈ lw_gd := gd_3 103 rfl rfl
theorem q_708 : Cond.code yJ11_isValidCodePoint_9a6ad cJ11_isValidCodePoint_9a6ad 2 (some .boolean) ∈ lw_gd := gd_3 104 rfl rfl
theorem q_709 : Cond.methodLink RJ2 157 yJ11_highSurrogate_5068e ∈ lw_gd := gd_3 105 rfl rfl
theorem q_710 : Cond.static yJ11_highSurrogate_5068e ∈ lw_gd := gd_3 106 rfl rfl
theorem q_711 : Cond.code yJ11_highSurrogate_5068e cJ11_highSurrogate_5068e 1 (some .char) ∈ lw_gd := gd_3 107 rfl rfl
theorem q_712 : Cond.constant RJ11 110 (55232) ∈ lw_gd := gd_3 108 rfl rfl
theorem q_713 : Cond.methodLink RJ2 161 yJ11_lowSurrogate_5068e ∈ lw_gd := gd_3 109 rfl rfl
theorem q_714 : Cond.static yJ11_lowSurrogate_5068e ∈ lw_gd := gd_3 110 rfl rfl
theorem q_715 : Cond.code yJ11_lowSurrogate_5068e cJ11_lowSurrogate_5068e 1 (some .char) ∈ lw_gd := gd_3 111 rfl rfl
theorem q_716 : Cond.constant RJ11 76 (56320) ∈ lw_gd := gd_3 112 rfl rfl
theorem q_717 : Cond.methodLink RX5 53 yX5_line ∈ lw_gd := gd_3 113 rfl rfl
theorem q_719 : Cond.instanceMethod yX5_line ∈ lw_gd := gd_3 115 rfl rfl
theorem q_720 : Cond.code yX5_line cX5_line 1 none ∈ lw_gd := gd_3 116 rfl rfl
theorem q_722 : Cond.methodLink RX5 96 yX5_isWord ∈ lw_gd := gd_3 118 rfl rfl
theorem q_724 : Cond.instanceMethod yX5_isWord ∈ lw_gd := gd_3 120 rfl rfl
theorem q_725 : Cond.code yX5_isWord cX5_isWord 3 (some .boolean) ∈ lw_gd := gd_3 121 rfl rfl
theorem q_726 : Cond.methodLink RX5 88 yJ0_length_8abf5 ∈ lw_gd := gd_3 122 rfl rfl
theorem q_727 : Cond.methodLink RX5 91 yJ0_charAt_5068e ∈ lw_gd := gd_3 123 rfl rfl
theorem q_728 : Cond.instanceMethod yJ0_charAt_5068e ∈ lw_gd := gd_3 124 rfl rfl
theorem q_729 : Cond.selects RJ0 yJ0_charAt_5068e yJ0_charAt_5068e ∈ lw_gd := gd_3 125 rfl rfl
theorem q_730 : Cond.code yJ0_charAt_5068e cJ0_charAt_5068e 2 (some .char) ∈ lw_gd := gd_3 126 rfl rfl
theorem q_731 : Cond.methodLink RJ0 495 yJ1_charAt_3b067 ∈ lw_gd := gd_3 127 rfl rfl
theorem q_732 : Cond.static yJ1_charAt_3b067 ∈ lw_gd := gd_3 128 rfl rfl
theorem q_733 : Cond.code yJ1_charAt_3b067 cJ1_charAt_3b067 2 (some .char) ∈ lw_gd := gd_3 129 rfl rfl
theorem q_734 : Cond.methodLink RJ1 9 yJ0_checkIndex_df160 ∈ lw_gd := gd_3 130 rfl rfl
theorem q_735 : Cond.static yJ0_checkIndex_df160 ∈ lw_gd := gd_3 131 rfl rfl
theorem q_736 : Cond.code yJ0_checkIndex_df160 cJ0_checkIndex_df160 2 none ∈ lw_gd := gd_3 132 rfl rfl
theorem q_737 : Cond.methodLink RJ0 1059 yJ3_checkIndex_8e157 ∈ lw_gd := gd_3 133 rfl rfl
theorem q_738 : Cond.static yJ3_checkIndex_8e157 ∈ lw_gd := gd_3 134 rfl rfl
theorem q_739 : Cond.code yJ3_checkIndex_8e157 cJ3_checkIndex_8e157 3 (some .int) ∈ lw_gd := gd_3 135 rfl rfl
theorem q_740 : Cond.methodLink RJ0 498 yJ2_charAt_3b067 ∈ lw_gd := gd_3 136 rfl rfl
theorem q_741 : Cond.static yJ2_charAt_3b067 ∈ lw_gd := gd_3 137 rfl rfl
theorem q_742 : Cond.code yJ2_charAt_3b067 cJ2_charAt_3b067 2 (some .char) ∈ lw_gd := gd_3 138 rfl rfl
theorem q_743 : Cond.methodLink RJ2 67 yJ2_checkIndex_2214a ∈ lw_gd := gd_3 139 rfl rfl
theorem q_744 : Cond.static yJ2_checkIndex_2214a ∈ lw_gd := gd_3 140 rfl rfl
theorem q_745 : Cond.code yJ2_checkIndex_2214a cJ2_checkIndex_2214a 2 none ∈ lw_gd := gd_3 141 rfl rfl
theorem q_746 : Cond.methodLink RJ2 414 yJ0_checkIndex_df160 ∈ lw_gd := gd_3 142 rfl rfl
theorem q_747 : Cond.methodLink RX5 100 yX5_cityLine ∈ lw_gd := gd_3 143 rfl rfl
theorem q_749 : Cond.instanceMethod yX5_cityLine ∈ lw_gd := gd_3 145 rfl rfl
theorem q_750 : Cond.code yX5_cityLine cX5_cityLine 3 none ∈ lw_gd := gd_3 146 rfl rfl
theorem q_751 : Cond.methodLink RX5 141 yX5_bounded ∈ lw_gd := gd_3 147 rfl rfl
theorem q_753 : Cond.instanceMethod yX5_bounded ∈ lw_gd := gd_3 149 rfl rfl
theorem q_754 : Cond.code yX5_bounded cX5_bounded 4 (some .int) ∈ lw_gd := gd_3 150 rfl rfl
theorem q_755 : Cond.methodLink RX5 153 yX0_lay ∈ lw_gd := gd_3 151 rfl rfl
theorem q_756 : Cond.instanceMethod yX0_lay ∈ lw_gd := gd_3 152 rfl rfl
theorem q_757 : Cond.selects RX0 yX0_lay yX0_lay ∈ lw_gd := gd_3 153 rfl rfl
theorem q_758 : Cond.code yX0_lay cX0_lay 6 none ∈ lw_gd := gd_3 154 rfl rfl
theorem q_760 : Cond.methodLink RX5 105 yX5_wallLine ∈ lw_gd := gd_3 156 rfl rfl
theorem q_762 : Cond.instanceMethod yX5_wallLine ∈ lw_gd := gd_3 158 rfl rfl
theorem q_763 : Cond.code yX5_wallLine cX5_wallLine 2 none ∈ lw_gd := gd_3 159 rfl rfl
theorem q_764 : Cond.methodLink RX5 160 yX5_crossingTold ∈ lw_gd := gd_3 160 rfl rfl
theorem q_766 : Cond.instanceMethod yX5_crossingTold ∈ lw_gd := gd_3 162 rfl rfl
theorem q_767 : Cond.code yX5_crossingTold cX5_crossingTold 3 (some .int) ∈ lw_gd := gd_3 163 rfl rfl
theorem q_768 : Cond.methodLink RX5 163 yX0_block ∈ lw_gd := gd_3 164 rfl rfl
theorem q_769 : Cond.instanceMethod yX0_block ∈ lw_gd := gd_3 165 rfl rfl
theorem q_770 : Cond.selects RX0 yX0_block yX0_block ∈ lw_gd := gd_3 166 rfl rfl
theorem q_771 : Cond.code yX0_block cX0_block 4 none ∈ lw_gd := gd_3 167 rfl rfl
theorem q_772 : Cond.methodLink RX0 71 yX0_to ∈ lw_gd := gd_3 168 rfl rfl
theorem q_773 : Cond.instanceMethod yX0_to ∈ lw_gd := gd_3 169 rfl rfl
theorem q_774 : Cond.selects RX0 yX0_to yX0_to ∈ lw_gd := gd_3 170 rfl rfl
theorem q_775 : Cond.code yX0_to cX0_to 3 (some .int) ∈ lw_gd := gd_3 171 rfl rfl
theorem q_777 : Cond.methodLink RX5 110 yX5_freeLine ∈ lw_gd := gd_3 173 rfl rfl
theorem q_779 : Cond.instanceMethod yX5_freeLine ∈ lw_gd := gd_3 175 rfl rfl
theorem q_780 : Cond.code yX5_freeLine cX5_freeLine 1 none ∈ lw_gd := gd_3 176 rfl rfl
theorem q_781 : Cond.methodLink RX5 166 yX0_makeToldFree ∈ lw_gd := gd_3 177 rfl rfl
theorem q_782 : Cond.instanceMethod yX0_makeToldFree ∈ lw_gd := gd_3 178 rfl rfl
theorem q_783 : Cond.selects RX0 yX0_makeToldFree yX0_makeToldFree ∈ lw_gd := gd_3 179 rfl rfl
theorem q_784 : Cond.code yX0_makeToldFree cX0_makeToldFree 2 none ∈ lw_gd := gd_3 180 rfl rfl
theorem q_786 : Cond.methodLink RX5 115 yX5_personLine ∈ lw_gd := gd_3 182 rfl rfl
theorem q_788 : Cond.instanceMethod yX5_personLine ∈ lw_gd := gd_3 184 rfl rfl
theorem q_789 : Cond.code yX5_personLine cX5_personLine 5 none ∈ lw_gd := gd_3 185 rfl rfl
theorem q_790 : Cond.methodLink RX5 172 yX5_heading ∈ lw_gd := gd_3 186 rfl rfl
theorem q_792 : Cond.instanceMethod yX5_heading ∈ lw_gd := gd_3 188 rfl rfl
theorem q_793 : Cond.code yX5_heading cX5_heading 2 (some .int) ∈ lw_gd := gd_3 189 rfl rfl
theorem q_800 : Cond.methodLink RX5 179 yX1_settle ∈ lw_gd := gd_3 196 rfl rfl
theorem q_801 : Cond.instanceMethod yX1_settle ∈ lw_gd := gd_3 197 rfl rfl
theorem q_802 : Cond.selects RX1 yX1_settle yX1_settle ∈ lw_gd := gd_3 198 rfl rfl
theorem q_803 : Cond.code yX1_settle cX1_settle 5 none ∈ lw_gd := gd_3 199 rfl rfl
theorem q_805 : Cond.methodLink RX5 120 yX5_beginLaw ∈ lw_gd := gd_3 201 rfl rfl
theorem q_807 : Cond.instanceMethod yX5_beginLaw ∈ lw_gd := gd_3 203 rfl rfl
theorem q_808 : Cond.code yX5_beginLaw cX5_beginLaw 2 none ∈ lw_gd := gd_3 204 rfl rfl
theorem q_809 : Cond.methodLink RX5 191 yX4_clear ∈ lw_gd := gd_3 205 rfl rfl
theorem q_810 : Cond.methodLink RX5 56 yX5_sign ∈ lw_gd := gd_3 206 rfl rfl
theorem q_812 : Cond.instanceMethod yX5_sign ∈ lw_gd := gd_3 208 rfl rfl
theorem q_813 : Cond.code yX5_sign cX5_sign 2 none ∈ lw_gd := gd_3 209 rfl rfl
theorem q_814 : Cond.methodLink RX5 124 yX5_sum ∈ lw_gd := gd_3 210 rfl rfl
theorem q_816 : Cond.instanceMethod yX5_sum ∈ lw_gd := gd_3 212 rfl rfl
theorem q_817 : Cond.code yX5_sum cX5_sum 4 none ∈ lw_gd := gd_3 213 rfl rfl
theorem q_818 : Cond.methodLink RX5 212 yX5_term ∈ lw_gd := gd_3 214 rfl rfl
theorem q_820 : Cond.instanceMethod yX5_term ∈ lw_gd := gd_3 216 rfl rfl
theorem q_821 : Cond.code yX5_term cX5_term 3 none ∈ lw_gd := gd_3 217 rfl rfl
theorem q_822 : Cond.methodLink RX5 215 yX5_atom ∈ lw_gd := gd_3 218 rfl rfl
theorem q_824 : Cond.instanceMethod yX5_atom ∈ lw_gd := gd_3 220 rfl rfl
theorem q_825 : Cond.code yX5_atom cX5_atom 3 none ∈ lw_gd := gd_3 221 rfl rfl
theorem q_826 : Cond.methodLink RX5 199 yX4_add ∈ lw_gd := gd_3 222 rfl rfl
theorem q_827 : Cond.instanceMethod yX4_add ∈ lw_gd := gd_3 223 rfl rfl
theorem q_828 : Cond.selects RX4 yX4_add yX4_add ∈ lw_gd := gd_3 224 rfl rfl
theorem q_829 : Cond.code yX4_add cX4_add 2 none ∈ lw_gd := gd_3 225 rfl rfl
theorem q_830 : Cond.methodLink RX5 209 yX5_tooDeep ∈ lw_gd := gd_3 226 rfl rfl
theorem q_832 : Cond.instanceMethod yX5_tooDeep ∈ lw_gd := gd_3 228 rfl rfl
theorem q_833 : Cond.code yX5_tooDeep cX5_tooDeep 2 (some .boolean) ∈ lw_gd := gd_3 229 rfl rfl
theorem q_841 : Cond.methodLink RX5 132 yX5_truth ∈ lw_gd := gd_3 237 rfl rfl
theorem q_843 : Cond.instanceMethod yX5_truth ∈ lw_gd := gd_3 239 rfl rfl
theorem q_844 : Cond.code yX5_truth cX5_truth 3 none ∈ lw_gd := gd_4 0 rfl rfl
theorem q_845 : Cond.methodLink RX5 194 yX5_both ∈ lw_gd := gd_4 1 rfl rfl
theorem q_847 : Cond.instanceMethod yX5_both ∈ lw_gd := gd_4 3 rfl rfl
theorem q_848 : Cond.code yX5_both cX5_both 3 none ∈ lw_gd := gd_4 4 rfl rfl
theorem q_849 : Cond.methodLink RX5 202 yX5_unit ∈ lw_gd := gd_4 5 rfl rfl
theorem q_851 : Cond.instanceMethod yX5_unit ∈ lw_gd := gd_4 7 rfl rfl
theorem q_852 : Cond.code yX5_unit cX5_unit 3 none ∈ lw_gd := gd_4 8 rfl rfl
theorem q_856 : Cond.methodLink RX11 125 yX0_copy ∈ lw_gd := gd_4 12 rfl rfl
theorem q_857 : Cond.instanceMethod yX0_copy ∈ lw_gd := gd_4 13 rfl rfl
theorem q_858 : Cond.selects RX0 yX0_copy yX0_copy ∈ lw_gd := gd_4 14 rfl rfl
theorem q_859 : Cond.code yX0_copy cX0_copy 2 none ∈ lw_gd := gd_4 15 rfl rfl
theorem q_860 : Cond.methodLink RX0 58 yX4_copy ∈ lw_gd := gd_4 16 rfl rfl
theorem q_861 : Cond.instanceMethod yX4_copy ∈ lw_gd := gd_4 17 rfl rfl
theorem q_862 : Cond.selects RX4 yX4_copy yX4_copy ∈ lw_gd := gd_4 18 rfl rfl
theorem q_863 : Cond.code yX4_copy cX4_copy 2 none ∈ lw_gd := gd_4 19 rfl rfl
theorem q_864 : Cond.methodLink RX4 32 arraycopyName ∈ lw_gd := gd_4 20 rfl rfl
theorem q_865 : Cond.static arraycopyName ∈ lw_gd := gd_4 21 rfl rfl
theorem q_866 : Cond.native arraycopyName ∈ lw_gd := gd_4 22 rfl rfl
theorem q_867 : Cond.methodLink RX0 62 yX1_copy ∈ lw_gd := gd_4 23 rfl rfl
theorem q_868 : Cond.instanceMethod yX1_copy ∈ lw_gd := gd_4 24 rfl rfl
theorem q_869 : Cond.selects RX1 yX1_copy yX1_copy ∈ lw_gd := gd_4 25 rfl rfl
theorem q_870 : Cond.code yX1_copy cX1_copy 2 none ∈ lw_gd := gd_4 26 rfl rfl
theorem q_871 : Cond.methodLink RX1 46 arraycopyName ∈ lw_gd := gd_4 27 rfl rfl
theorem q_872 : Cond.methodLink RX0 65 arraycopyName ∈ lw_gd := gd_4 28 rfl rfl
theorem q_873 : Cond.methodLink RX11 128 yX11_startAnew ∈ lw_gd := gd_4 29 rfl rfl
theorem q_875 : Cond.instanceMethod yX11_startAnew ∈ lw_gd := gd_4 31 rfl rfl
theorem q_876 : Cond.code yX11_startAnew cX11_startAnew 1 none ∈ lw_gd := gd_4 32 rfl rfl
theorem q_877 : Cond.methodLink RX11 208 yX2_forget ∈ lw_gd := gd_4 33 rfl rfl
theorem q_878 : Cond.instanceMethod yX2_forget ∈ lw_gd := gd_4 34 rfl rfl
theorem q_879 : Cond.selects RX2 yX2_forget yX2_forget ∈ lw_gd := gd_4 35 rfl rfl
theorem q_880 : Cond.code yX2_forget cX2_forget 1 none ∈ lw_gd := gd_4 36 rfl rfl
theorem q_881 : Cond.methodLink RX11 340 yX3_forget ∈ lw_gd := gd_4 37 rfl rfl
theorem q_882 : Cond.instanceMethod yX3_forget ∈ lw_gd := gd_4 38 rfl rfl
theorem q_883 : Cond.selects RX3 yX3_forget yX3_forget ∈ lw_gd := gd_4 39 rfl rfl
theorem q_884 : Cond.code yX3_forget cX3_forget 1 none ∈ lw_gd := gd_4 40 rfl rfl
theorem q_885 : Cond.methodLink RL 23 yX11_fault ∈ lw_gd := gd_4 41 rfl rfl
theorem q_886 : Cond.instanceMethod yX11_fault ∈ lw_gd := gd_4 42 rfl rfl
theorem q_887 : Cond.selects RX11 yX11_fault yX11_fault ∈ lw_gd := gd_4 43 rfl rfl
theorem q_888 : Cond.code yX11_fault cX11_fault 2 (some .int) ∈ lw_gd := gd_4 44 rfl rfl
theorem q_889 : Cond.methodLink RX11 135 yX5_faultKind ∈ lw_gd := gd_4 45 rfl rfl
theorem q_890 : Cond.instanceMethod yX5_faultKind ∈ lw_gd := gd_4 46 rfl rfl
theorem q_891 : Cond.selects RX5 yX5_faultKind yX5_faultKind ∈ lw_gd := gd_4 47 rfl rfl
theorem q_892 : Cond.code yX5_faultKind cX5_faultKind 1 (some .int) ∈ lw_gd := gd_4 48 rfl rfl
theorem q_893 : Cond.methodLink RX11 138 yX5_faultPlace ∈ lw_gd := gd_4 49 rfl rfl
theorem q_894 : Cond.instanceMethod yX5_faultPlace ∈ lw_gd := gd_4 50 rfl rfl
theorem q_895 : Cond.selects RX5 yX5_faultPlace yX5_faultPlace ∈ lw_gd := gd_4 51 rfl rfl
theorem q_896 : Cond.code yX5_faultPlace cX5_faultPlace 1 (some .int) ∈ lw_gd := gd_4 52 rfl rfl
theorem q_897 : Cond.methodLink RL 27 yX11_person ∈ lw_gd := gd_4 53 rfl rfl
theorem q_898 : Cond.instanceMethod yX11_person ∈ lw_gd := gd_4 54 rfl rfl
theorem q_899 : Cond.selects RX11 yX11_person yX11_person ∈ lw_gd := gd_4 55 rfl rfl
theorem q_900 : Cond.code yX11_person cX11_person 3 (some .int) ∈ lw_gd := gd_4 56 rfl rfl
theorem q_901 : Cond.methodLink RX11 141 yX11_isPerson ∈ lw_gd := gd_4 57 rfl rfl
theorem q_903 : Cond.instanceMethod yX11_isPerson ∈ lw_gd := gd_4 59 rfl rfl
theorem q_904 : Cond.code yX11_isPerson cX11_isPerson 2 (some .boolean) ∈ lw_gd := gd_4 60 rfl rfl
theorem q_905 : Cond.methodLink RL 32 yX11_street ∈ lw_gd := gd_4 61 rfl rfl
theorem q_906 : Cond.instanceMethod yX11_street ∈ lw_gd := gd_4 62 rfl rfl
theorem q_907 : Cond.selects RX11 yX11_street yX11_street ∈ lw_gd := gd_4 63 rfl rfl
theorem q_908 : Cond.code yX11_street cX11_street 3 (some .int) ∈ lw_gd := gd_4 64 rfl rfl
theorem q_909 : Cond.methodLink RX11 163 yX11_isStand ∈ lw_gd := gd_4 65 rfl rfl
theorem q_911 : Cond.instanceMethod yX11_isStand ∈ lw_gd := gd_4 67 rfl rfl
theorem q_912 : Cond.code yX11_isStand cX11_isStand 3 (some .boolean) ∈ lw_gd := gd_4 68 rfl rfl
theorem q_913 : Cond.methodLink RX11 171 yX11_isCrossing ∈ lw_gd := gd_4 69 rfl rfl
theorem q_915 : Cond.instanceMethod yX11_isCrossing ∈ lw_gd := gd_4 71 rfl rfl
theorem q_916 : Cond.code yX11_isCrossing cX11_isCrossing 2 (some .boolean) ∈ lw_gd := gd_4 72 rfl rfl
theorem q_917 : Cond.methodLink RX11 287 yX0_crossings ∈ lw_gd := gd_4 73 rfl rfl
theorem q_918 : Cond.instanceMethod yX0_crossings ∈ lw_gd := gd_4 74 rfl rfl
theorem q_919 : Cond.selects RX0 yX0_crossings yX0_crossings ∈ lw_gd := gd_4 75 rfl rfl
theorem q_920 : Cond.code yX0_crossings cX0_crossings 1 (some .int) ∈ lw_gd := gd_4 76 rfl rfl
theorem q_921 : Cond.methodLink RX11 167 yX0_to ∈ lw_gd := gd_4 77 rfl rfl
theorem q_922 : Cond.methodLink RL 36 yX11_crossing ∈ lw_gd := gd_4 78 rfl rfl
theorem q_923 : Cond.instanceMethod yX11_crossing ∈ lw_gd := gd_4 79 rfl rfl
theorem q_924 : Cond.selects RX11 yX11_crossing yX11_crossing ∈ lw_gd := gd_4 80 rfl rfl
theorem q_925 : Cond.code yX11_crossing cX11_crossing 4 (some .int) ∈ lw_gd := gd_4 81 rfl rfl
theorem q_926 : Cond.methodLink RX11 180 yX0_cost ∈ lw_gd := gd_4 82 rfl rfl
theorem q_927 : Cond.instanceMethod yX0_cost ∈ lw_gd := gd_4 83 rfl rfl
theorem q_928 : Cond.selects RX0 yX0_cost yX0_cost ∈ lw_gd := gd_4 84 rfl rfl
theorem q_929 : Cond.code yX0_cost cX0_cost 5 (some .int) ∈ lw_gd := gd_4 85 rfl rfl
theorem q_930 : Cond.methodLink RX0 78 yX4_isTold ∈ lw_gd := gd_4 86 rfl rfl
theorem q_931 : Cond.instanceMethod yX4_isTold ∈ lw_gd := gd_4 87 rfl rfl
theorem q_932 : Cond.selects RX4 yX4_isTold yX4_isTold ∈ lw_gd := gd_4 88 rfl rfl
theorem q_933 : Cond.code yX4_isTold cX4_isTold 1 (some .boolean) ∈ lw_gd := gd_4 89 rfl rfl
theorem q_934 : Cond.methodLink RX0 82 yX4_value ∈ lw_gd := gd_4 90 rfl rfl
theorem q_935 : Cond.instanceMethod yX4_value ∈ lw_gd := gd_4 91 rfl rfl
theorem q_936 : Cond.selects RX4 yX4_value yX4_value ∈ lw_gd := gd_4 92 rfl rfl
theorem q_937 : Cond.code yX4_value cX4_value 15 (some .int) ∈ lw_gd := gd_4 93 rfl rfl
theorem q_938 : Cond.constantLong RX4 38 (-1000000) ∈ lw_gd := gd_4 94 rfl rfl
theorem q_939 : Cond.constantLong RX4 40 (1000000) ∈ lw_gd := gd_4 95 rfl rfl
theorem q_940 : Cond.methodLink RX4 42 yJ9_min_f86c9 ∈ lw_gd := gd_4 96 rfl rfl
theorem q_941 : Cond.static yJ9_min_f86c9 ∈ lw_gd := gd_4 97 rfl rfl
theorem q_942 : Cond.code yJ9_min_f86c9 cJ9_min_f86c9 4 (some .long) ∈ lw_gd := gd_4 98 rfl rfl
theorem q_943 : Cond.methodLink RX4 48 yJ9_max_f86c9 ∈ lw_gd := gd_4 99 rfl rfl
theorem q_944 : Cond.static yJ9_max_f86c9 ∈ lw_gd := gd_4 100 rfl rfl
theorem q_945 : Cond.code yJ9_max_f86c9 cJ9_max_f86c9 4 (some .long) ∈ lw_gd := gd_4 101 rfl rfl
theorem q_946 : Cond.methodLink RX0 86 yJ9_max_7cf53 ∈ lw_gd := gd_4 102 rfl rfl
theorem q_947 : Cond.methodLink RX11 184 yX0_freeBits ∈ lw_gd := gd_4 103 rfl rfl
theorem q_948 : Cond.instanceMethod yX0_freeBits ∈ lw_gd := gd_4 104 rfl rfl
theorem q_949 : Cond.selects RX0 yX0_freeBits yX0_freeBits ∈ lw_gd := gd_4 105 rfl rfl
theorem q_950 : Cond.code yX0_freeBits cX0_freeBits 4 (some .int) ∈ lw_gd := gd_4 106 rfl rfl
theorem q_951 : Cond.methodLink RX11 190 yJ9_max_7cf53 ∈ lw_gd := gd_4 107 rfl rfl
theorem q_952 : Cond.methodLink RX11 195 yX0_streetsFrom ∈ lw_gd := gd_4 108 rfl rfl
theorem q_953 : Cond.instanceMethod yX0_streetsFrom ∈ lw_gd := gd_4 109 rfl rfl
theorem q_954 : Cond.selects RX0 yX0_streetsFrom yX0_streetsFrom ∈ lw_gd := gd_4 110 rfl rfl
theorem q_955 : Cond.code yX0_streetsFrom cX0_streetsFrom 4 (some .int) ∈ lw_gd := gd_4 111 rfl rfl
theorem q_956 : Cond.methodLink RL 40 yX11_price ∈ lw_gd := gd_4 112 rfl rfl
theorem q_957 : Cond.instanceMethod yX11_price ∈ lw_gd := gd_4 113 rfl rfl
theorem q_958 : Cond.selects RX11 yX11_price yX11_price ∈ lw_gd := gd_4 114 rfl rfl
theorem q_959 : Cond.code yX11_price cX11_price 4 (some .int) ∈ lw_gd := gd_4 115 rfl rfl
theorem q_960 : Cond.methodLink RL 45 yX11_why ∈ lw_gd := gd_4 116 rfl rfl
theorem q_961 : Cond.instanceMethod yX11_why ∈ lw_gd := gd_4 117 rfl rfl
theorem q_962 : Cond.selects RX11 yX11_why yX11_why ∈ lw_gd := gd_4 118 rfl rfl
theorem q_963 : Cond.code yX11_why cX11_why 3 (some .int) ∈ lw_gd := gd_4 119 rfl rfl
theorem q_964 : Cond.methodLink RX11 198 yX0_hindrance ∈ lw_gd := gd_4 120 rfl rfl
theorem q_965 : Cond.instanceMethod yX0_hindrance ∈ lw_gd := gd_4 121 rfl rfl
theorem q_966 : Cond.selects RX0 yX0_hindrance yX0_hindrance ∈ lw_gd := gd_4 122 rfl rfl
theorem q_967 : Cond.code yX0_hindrance cX0_hindrance 5 (some .int) ∈ lw_gd := gd_4 123 rfl rfl
theorem q_970 : Cond.methodLink RX0 117 yX0_allows ∈ lw_gd := gd_4 126 rfl rfl
theorem q_971 : Cond.instanceMethod yX0_allows ∈ lw_gd := gd_4 127 rfl rfl
theorem q_972 : Cond.selects RX0 yX0_allows yX0_allows ∈ lw_gd := gd_4 128 rfl rfl
theorem q_973 : Cond.code yX0_allows cX0_allows 4 (some .boolean) ∈ lw_gd := gd_4 129 rfl rfl
theorem q_974 : Cond.methodLink RX0 124 yX0_leftsTaken ∈ lw_gd := gd_4 130 rfl rfl
theorem q_976 : Cond.instanceMethod yX0_leftsTaken ∈ lw_gd := gd_4 132 rfl rfl
theorem q_977 : Cond.code yX0_leftsTaken cX0_leftsTaken 3 (some .int) ∈ lw_gd := gd_4 133 rfl rfl
theorem q_978 : Cond.methodLink RX0 110 yX0_freeBits ∈ lw_gd := gd_4 134 rfl rfl
theorem q_979 : Cond.methodLink RL 49 yX11_go ∈ lw_gd := gd_4 135 rfl rfl
theorem q_980 : Cond.instanceMethod yX11_go ∈ lw_gd := gd_4 136 rfl rfl
theorem q_981 : Cond.selects RX11 yX11_go yX11_go ∈ lw_gd := gd_4 137 rfl rfl
theorem q_982 : Cond.code yX11_go cX11_go 4 (some .int) ∈ lw_gd := gd_4 138 rfl rfl
theorem q_983 : Cond.methodLink RX11 201 yX11_keep ∈ lw_gd := gd_4 139 rfl rfl
theorem q_985 : Cond.instanceMethod yX11_keep ∈ lw_gd := gd_4 141 rfl rfl
theorem q_986 : Cond.code yX11_keep cX11_keep 2 none ∈ lw_gd := gd_4 142 rfl rfl
theorem q_987 : Cond.methodLink RX11 217 yX1_copy ∈ lw_gd := gd_4 143 rfl rfl
theorem q_988 : Cond.methodLink RX11 205 yX0_step ∈ lw_gd := gd_4 144 rfl rfl
theorem q_989 : Cond.instanceMethod yX0_step ∈ lw_gd := gd_4 145 rfl rfl
theorem q_990 : Cond.selects RX0 yX0_step yX0_step ∈ lw_gd := gd_4 146 rfl rfl
theorem q_991 : Cond.code yX0_step cX0_step 6 (some .int) ∈ lw_gd := gd_4 147 rfl rfl
theorem q_992 : Cond.methodLink RX0 130 yJ9_min_7cf53 ∈ lw_gd := gd_4 148 rfl rfl
theorem q_993 : Cond.methodLink RL 53 yX11_judge ∈ lw_gd := gd_4 149 rfl rfl
theorem q_994 : Cond.instanceMethod yX11_judge ∈ lw_gd := gd_4 150 rfl rfl
theorem q_995 : Cond.selects RX11 yX11_judge yX11_judge ∈ lw_gd := gd_4 151 rfl rfl
theorem q_996 : Cond.code yX11_judge cX11_judge 3 (some .int) ∈ lw_gd := gd_4 152 rfl rfl
theorem q_997 : Cond.methodLink RX11 211 yX11_isTray ∈ lw_gd := gd_4 153 rfl rfl
theorem q_998 : Cond.static yX11_isTray ∈ lw_gd := gd_4 154 rfl rfl
theorem q_999 : Cond.code yX11_isTray cX11_isTray 1 (some .boolean) ∈ lw_gd := gd_4 155 rfl rfl
theorem q_1000 : Cond.methodLink RX11 219 yX11_goWalk ∈ lw_gd := gd_4 156 rfl rfl
theorem q_1002 : Cond.instanceMethod yX11_goWalk ∈ lw_gd := gd_4 158 rfl rfl
theorem q_1003 : Cond.code yX11_goWalk cX11_goWalk 10 (some .int) ∈ lw_gd := gd_4 159 rfl rfl
theorem q_1004 : Cond.methodLink RX11 341 yX10_asSmall ∈ lw_gd := gd_4 160 rfl rfl
theorem q_1005 : Cond.instanceMethod yX10_asSmall ∈ lw_gd := gd_4 161 rfl rfl
theorem q_1006 : Cond.selects RX10 yX10_asSmall yX10_asSmall ∈ lw_gd := gd_4 162 rfl rfl
theorem q_1007 : Cond.code yX10_asSmall cX10_asSmall 3 (some .int) ∈ lw_gd := gd_4 163 rfl rfl
theorem q_1008 : Cond.methodLink RL 57 yX11_walk ∈ lw_gd := gd_4 164 rfl rfl
theorem q_1009 : Cond.instanceMethod yX11_walk ∈ lw_gd := gd_4 165 rfl rfl
theorem q_1010 : Cond.selects RX11 yX11_walk yX11_walk ∈ lw_gd := gd_4 166 rfl rfl
theorem q_1011 : Cond.code yX11_walk cX11_walk 3 (some .int) ∈ lw_gd := gd_4 167 rfl rfl
theorem q_1012 : Cond.methodLink RL 61 yX11_buy ∈ lw_gd := gd_4 168 rfl rfl
theorem q_1013 : Cond.instanceMethod yX11_buy ∈ lw_gd := gd_4 169 rfl rfl
theorem q_1014 : Cond.selects RX11 yX11_buy yX11_buy ∈ lw_gd := gd_4 170 rfl rfl
theorem q_1015 : Cond.code yX11_buy cX11_buy 5 (some .int) ∈ lw_gd := gd_4 171 rfl rfl
theorem q_1016 : Cond.methodLink RX11 223 yX0_costTo ∈ lw_gd := gd_4 172 rfl rfl
theorem q_1017 : Cond.instanceMethod yX0_costTo ∈ lw_gd := gd_4 173 rfl rfl
theorem q_1018 : Cond.selects RX0 yX0_costTo yX0_costTo ∈ lw_gd := gd_4 174 rfl rfl
theorem q_1019 : Cond.code yX0_costTo cX0_costTo 4 (some .int) ∈ lw_gd := gd_4 175 rfl rfl
theorem q_1020 : Cond.methodLink RX0 103 yX0_cost ∈ lw_gd := gd_4 176 rfl rfl
theorem q_1021 : Cond.methodLink RL 65 yX11_sell ∈ lw_gd := gd_4 177 rfl rfl
theorem q_1022 : Cond.instanceMethod yX11_sell ∈ lw_gd := gd_4 178 rfl rfl
theorem q_1023 : Cond.selects RX11 yX11_sell yX11_sell ∈ lw_gd := gd_4 179 rfl rfl
theorem q_1024 : Cond.code yX11_sell cX11_sell 4 (some .int) ∈ lw_gd := gd_4 180 rfl rfl
theorem q_1025 : Cond.methodLink RX11 226 yJ9_min_7cf53 ∈ lw_gd := gd_4 181 rfl rfl
theorem q_1026 : Cond.methodLink RL 69 yX11_hand ∈ lw_gd := gd_4 182 rfl rfl
theorem q_1027 : Cond.instanceMethod yX11_hand ∈ lw_gd := gd_4 183 rfl rfl
theorem q_1028 : Cond.selects RX11 yX11_hand yX11_hand ∈ lw_gd := gd_4 184 rfl rfl
theorem q_1029 : Cond.code yX11_hand cX11_hand 5 (some .int) ∈ lw_gd := gd_4 185 rfl rfl
theorem q_1030 : Cond.methodLink RL 73 yX11_fog ∈ lw_gd := gd_4 186 rfl rfl
theorem q_1031 : Cond.instanceMethod yX11_fog ∈ lw_gd := gd_4 187 rfl rfl
theorem q_1032 : Cond.selects RX11 yX11_fog yX11_fog ∈ lw_gd := gd_4 188 rfl rfl
theorem q_1033 : Cond.code yX11_fog cX11_fog 3 (some .int) ∈ lw_gd := gd_4 189 rfl rfl
theorem q_1034 : Cond.methodLink RX11 229 yJ6_bitCount_0f7a4 ∈ lw_gd := gd_4 190 rfl rfl
theorem q_1035 : Cond.static yJ6_bitCount_0f7a4 ∈ lw_gd := gd_4 191 rfl rfl
theorem q_1036 : Cond.code yJ6_bitCount_0f7a4 cJ6_bitCount_0f7a4 1 (some .int) ∈ lw_gd := gd_4 192 rfl rfl
theorem q_1037 : Cond.constant RJ6 265 (1431655765) ∈ lw_gd := gd_4 193 rfl rfl
theorem q_1038 : Cond.constant RJ6 266 (858993459) ∈ lw_gd := gd_4 194 rfl rfl
theorem q_1039 : Cond.constant RJ6 267 (252645135) ∈ lw_gd := gd_4 195 rfl rfl
theorem q_1040 : Cond.methodLink RL 77 yX11_hours ∈ lw_gd := gd_4 196 rfl rfl
theorem q_1041 : Cond.instanceMethod yX11_hours ∈ lw_gd := gd_4 197 rfl rfl
theorem q_1042 : Cond.selects RX11 yX11_hours yX11_hours ∈ lw_gd := gd_4 198 rfl rfl
theorem q_1043 : Cond.code yX11_hours cX11_hours 2 (some .int) ∈ lw_gd := gd_4 199 rfl rfl
theorem q_1044 : Cond.methodLink RL 81 yX11_undo ∈ lw_gd := gd_4 200 rfl rfl
theorem q_1045 : Cond.instanceMethod yX11_undo ∈ lw_gd := gd_4 201 rfl rfl
theorem q_1046 : Cond.selects RX11 yX11_undo yX11_undo ∈ lw_gd := gd_4 202 rfl rfl
theorem q_1047 : Cond.code yX11_undo cX11_undo 2 (some .int) ∈ lw_gd := gd_4 203 rfl rfl
theorem q_1048 : Cond.methodLink RL 85 yX11_week ∈ lw_gd := gd_4 204 rfl rfl
theorem q_1049 : Cond.instanceMethod yX11_week ∈ lw_gd := gd_4 205 rfl rfl
theorem q_1050 : Cond.selects RX11 yX11_week yX11_week ∈ lw_gd := gd_4 206 rfl rfl
theorem q_1051 : Cond.code yX11_week cX11_week 5 (some .int) ∈ lw_gd := gd_4 207 rfl rfl
theorem q_1052 : Cond.methodLink RX11 246 yX11_liveOnce ∈ lw_gd := gd_4 208 rfl rfl
theorem q_1054 : Cond.instanceMethod yX11_liveOnce ∈ lw_gd := gd_4 210 rfl rfl
theorem q_1055 : Cond.code yX11_liveOnce cX11_liveOnce 5 (some .boolean) ∈ lw_gd := gd_4 211 rfl rfl
theorem q_1056 : Cond.methodLink RX11 345 yX11_draw ∈ lw_gd := gd_4 212 rfl rfl
theorem q_1058 : Cond.instanceMethod yX11_draw ∈ lw_gd := gd_4 214 rfl rfl
theorem q_1059 : Cond.code yX11_draw cX11_draw 1 (some .int) ∈ lw_gd := gd_4 215 rfl rfl
theorem q_1060 : Cond.constant RX11 344 (1103515245) ∈ lw_gd := gd_4 216 rfl rfl
theorem q_1061 : Cond.methodLink RX11 348 yX0_buysOne ∈ lw_gd := gd_4 217 rfl rfl
theorem q_1062 : Cond.instanceMethod yX0_buysOne ∈ lw_gd := gd_4 218 rfl rfl
theorem q_1063 : Cond.selects RX0 yX0_buysOne yX0_buysOne ∈ lw_gd := gd_4 219 rfl rfl
theorem q_1064 : Cond.code yX0_buysOne cX0_buysOne 3 (some .boolean) ∈ lw_gd := gd_4 220 rfl rfl
theorem q_1065 : Cond.methodLink RX0 133 yX0_costTo ∈ lw_gd := gd_4 221 rfl rfl
theorem q_1066 : Cond.methodLink RL 89 yX11_way ∈ lw_gd := gd_4 222 rfl rfl
theorem q_1067 : Cond.instanceMethod yX11_way ∈ lw_gd := gd_4 223 rfl rfl
theorem q_1068 : Cond.selects RX11 yX11_way yX11_way ∈ lw_gd := gd_4 224 rfl rfl
theorem q_1069 : Cond.code yX11_way cX11_way 4 (some .int) ∈ lw_gd := gd_4 225 rfl rfl
theorem q_1070 : Cond.methodLink RX11 249 yX1_stand ∈ lw_gd := gd_4 226 rfl rfl
theorem q_1071 : Cond.instanceMethod yX1_stand ∈ lw_gd := gd_4 227 rfl rfl
theorem q_1072 : Cond.selects RX1 yX1_stand yX1_stand ∈ lw_gd := gd_4 228 rfl rfl
theorem q_1073 : Cond.code yX1_stand cX1_stand 2 (some .int) ∈ lw_gd := gd_4 229 rfl rfl
theorem q_1074 : Cond.methodLink RX11 252 yX8_fewestStreets ∈ lw_gd := gd_4 230 rfl rfl
theorem q_1075 : Cond.instanceMethod yX8_fewestStreets ∈ lw_gd := gd_4 231 rfl rfl
theorem q_1076 : Cond.selects RX8 yX8_fewestStreets yX8_fewestStreets ∈ lw_gd := gd_4 232 rfl rfl
theorem q_1077 : Cond.code yX8_fewestStreets cX8_fewestStreets 7 (some .int) ∈ lw_gd := gd_4 233 rfl rfl
theorem q_1078 : Cond.methodLink RX8 80 yX8_begin ∈ lw_gd := gd_4 234 rfl rfl
theorem q_1080 : Cond.instanceMethod yX8_begin ∈ lw_gd := gd_4 236 rfl rfl
theorem q_1081 : Cond.code yX8_begin cX8_begin 3 none ∈ lw_gd := gd_4 237 rfl rfl
theorem q_1082 : Cond.methodLink RX8 83 yX8_lowest ∈ lw_gd := gd_4 238 rfl rfl
theorem q_1084 : Cond.instanceMethod yX8_lowest ∈ lw_gd := gd_5 0 rfl rfl
theorem q_1085 : Cond.code yX8_lowest cX8_lowest 4 (some .int) ∈ lw_gd := gd_5 1 rfl rfl
theorem q_1086 : Cond.methodLink RX8 77 yX8_anyHeading ∈ lw_gd := gd_5 2 rfl rfl
theorem q_1088 : Cond.instanceMethod yX8_anyHeading ∈ lw_gd := gd_5 4 rfl rfl
theorem q_1089 : Cond.code yX8_anyHeading cX8_anyHeading 3 (some .int) ∈ lw_gd := gd_5 5 rfl rfl
theorem q_1090 : Cond.methodLink RX8 86 yX8_goOn ∈ lw_gd := gd_5 6 rfl rfl
theorem q_1092 : Cond.instanceMethod yX8_goOn ∈ lw_gd := gd_5 8 rfl rfl
theorem q_1093 : Cond.code yX8_goOn cX8_goOn 8 none ∈ lw_gd := gd_5 9 rfl rfl
theorem q_1094 : Cond.methodLink RX8 56 yX2_freeAt ∈ lw_gd := gd_5 10 rfl rfl
theorem q_1095 : Cond.instanceMethod yX2_freeAt ∈ lw_gd := gd_5 11 rfl rfl
theorem q_1096 : Cond.selects RX2 yX2_freeAt yX2_freeAt ∈ lw_gd := gd_5 12 rfl rfl
theorem q_1097 : Cond.code yX2_freeAt cX2_freeAt 2 (some .int) ∈ lw_gd := gd_5 13 rfl rfl
theorem q_1098 : Cond.methodLink RX2 44 yX2_beginUpTo ∈ lw_gd := gd_5 14 rfl rfl
theorem q_1100 : Cond.instanceMethod yX2_beginUpTo ∈ lw_gd := gd_5 16 rfl rfl
theorem q_1101 : Cond.code yX2_beginUpTo cX2_beginUpTo 3 none ∈ lw_gd := gd_5 17 rfl rfl
theorem q_1102 : Cond.methodLink RX2 40 yX0_freeBits ∈ lw_gd := gd_5 18 rfl rfl
theorem q_1103 : Cond.methodLink RX8 60 yX8_goByRights ∈ lw_gd := gd_5 19 rfl rfl
theorem q_1105 : Cond.instanceMethod yX8_goByRights ∈ lw_gd := gd_5 21 rfl rfl
theorem q_1106 : Cond.code yX8_goByRights cX8_goByRights 5 none ∈ lw_gd := gd_5 22 rfl rfl
theorem q_1107 : Cond.methodLink RX8 39 yX0_moved ∈ lw_gd := gd_5 23 rfl rfl
theorem q_1108 : Cond.instanceMethod yX0_moved ∈ lw_gd := gd_5 24 rfl rfl
theorem q_1109 : Cond.selects RX0 yX0_moved yX0_moved ∈ lw_gd := gd_5 25 rfl rfl
theorem q_1110 : Cond.code yX0_moved cX0_moved 4 (some .int) ∈ lw_gd := gd_5 26 rfl rfl
theorem q_1111 : Cond.methodLink RX8 64 yX8_goByLeft ∈ lw_gd := gd_5 27 rfl rfl
theorem q_1113 : Cond.instanceMethod yX8_goByLeft ∈ lw_gd := gd_5 29 rfl rfl
theorem q_1114 : Cond.code yX8_goByLeft cX8_goByLeft 9 none ∈ lw_gd := gd_5 30 rfl rfl
theorem q_1116 : Cond.methodLink RX8 50 yX2_allowing ∈ lw_gd := gd_5 32 rfl rfl
theorem q_1117 : Cond.instanceMethod yX2_allowing ∈ lw_gd := gd_5 33 rfl rfl
theorem q_1118 : Cond.selects RX2 yX2_allowing yX2_allowing ∈ lw_gd := gd_5 34 rfl rfl
theorem q_1119 : Cond.code yX2_allowing cX2_allowing 8 (some .int) ∈ lw_gd := gd_5 35 rfl rfl
theorem q_1120 : Cond.methodLink RX2 52 yX4_isTold ∈ lw_gd := gd_5 36 rfl rfl
theorem q_1121 : Cond.methodLink RX2 61 yX4_firstLike ∈ lw_gd := gd_5 37 rfl rfl
theorem q_1122 : Cond.instanceMethod yX4_firstLike ∈ lw_gd := gd_5 38 rfl rfl
theorem q_1123 : Cond.selects RX4 yX4_firstLike yX4_firstLike ∈ lw_gd := gd_5 39 rfl rfl
theorem q_1124 : Cond.code yX4_firstLike cX4_firstLike 2 (some .int) ∈ lw_gd := gd_5 40 rfl rfl
theorem q_1125 : Cond.methodLink RX4 28 yX4_asks ∈ lw_gd := gd_5 41 rfl rfl
theorem q_1127 : Cond.instanceMethod yX4_asks ∈ lw_gd := gd_5 43 rfl rfl
theorem q_1128 : Cond.code yX4_asks cX4_asks 2 (some .boolean) ∈ lw_gd := gd_5 44 rfl rfl
theorem q_1129 : Cond.methodLink RX2 64 yX4_firstHeadLike ∈ lw_gd := gd_5 45 rfl rfl
theorem q_1130 : Cond.instanceMethod yX4_firstHeadLike ∈ lw_gd := gd_5 46 rfl rfl
theorem q_1131 : Cond.selects RX4 yX4_firstHeadLike yX4_firstHeadLike ∈ lw_gd := gd_5 47 rfl rfl
theorem q_1132 : Cond.code yX4_firstHeadLike cX4_firstHeadLike 2 (some .int) ∈ lw_gd := gd_5 48 rfl rfl
theorem q_1133 : Cond.methodLink RX2 70 yX4_value ∈ lw_gd := gd_5 49 rfl rfl
theorem q_1134 : Cond.methodLink RX8 68 yJ9_min_7cf53 ∈ lw_gd := gd_5 50 rfl rfl
theorem q_1135 : Cond.methodLink RX8 71 yX8_change ∈ lw_gd := gd_5 51 rfl rfl
theorem q_1137 : Cond.instanceMethod yX8_change ∈ lw_gd := gd_5 53 rfl rfl
theorem q_1138 : Cond.code yX8_change cX8_change 4 none ∈ lw_gd := gd_5 54 rfl rfl
theorem q_1139 : Cond.methodLink RX8 74 yX8_thin ∈ lw_gd := gd_5 55 rfl rfl
theorem q_1141 : Cond.instanceMethod yX8_thin ∈ lw_gd := gd_5 57 rfl rfl
theorem q_1142 : Cond.code yX8_thin cX8_thin 6 none ∈ lw_gd := gd_5 58 rfl rfl
theorem q_1143 : Cond.methodLink RX8 33 yJ9_max_7cf53 ∈ lw_gd := gd_5 59 rfl rfl
theorem q_1144 : Cond.methodLink RL 93 yX11_turn ∈ lw_gd := gd_5 60 rfl rfl
theorem q_1145 : Cond.instanceMethod yX11_turn ∈ lw_gd := gd_5 61 rfl rfl
theorem q_1146 : Cond.selects RX11 yX11_turn yX11_turn ∈ lw_gd := gd_5 62 rfl rfl
theorem q_1147 : Cond.code yX11_turn cX11_turn 5 (some .int) ∈ lw_gd := gd_5 63 rfl rfl
theorem q_1148 : Cond.methodLink RX11 256 yX7_shortest ∈ lw_gd := gd_5 64 rfl rfl
theorem q_1149 : Cond.instanceMethod yX7_shortest ∈ lw_gd := gd_5 65 rfl rfl
theorem q_1150 : Cond.selects RX7 yX7_shortest yX7_shortest ∈ lw_gd := gd_5 66 rfl rfl
theorem q_1151 : Cond.code yX7_shortest cX7_shortest 5 (some .boolean) ∈ lw_gd := gd_5 67 rfl rfl
theorem q_1152 : Cond.methodLink RX7 37 yX8_fewestStreets ∈ lw_gd := gd_5 68 rfl rfl
theorem q_1153 : Cond.methodLink RX7 43 yX7_trace ∈ lw_gd := gd_5 69 rfl rfl
theorem q_1154 : Cond.instanceMethod yX7_trace ∈ lw_gd := gd_5 70 rfl rfl
theorem q_1155 : Cond.selects RX7 yX7_trace yX7_trace ∈ lw_gd := gd_5 71 rfl rfl
theorem q_1156 : Cond.code yX7_trace cX7_trace 6 none ∈ lw_gd := gd_5 72 rfl rfl
theorem q_1157 : Cond.methodLink RX7 47 yX7_lookBack ∈ lw_gd := gd_5 73 rfl rfl
theorem q_1159 : Cond.instanceMethod yX7_lookBack ∈ lw_gd := gd_5 75 rfl rfl
theorem q_1160 : Cond.code yX7_lookBack cX7_lookBack 9 none ∈ lw_gd := gd_5 76 rfl rfl
theorem q_1161 : Cond.methodLink RX7 54 yX0_movedBack ∈ lw_gd := gd_5 77 rfl rfl
theorem q_1162 : Cond.instanceMethod yX0_movedBack ∈ lw_gd := gd_5 78 rfl rfl
theorem q_1163 : Cond.selects RX0 yX0_movedBack yX0_movedBack ∈ lw_gd := gd_5 79 rfl rfl
theorem q_1164 : Cond.code yX0_movedBack cX0_movedBack 4 (some .int) ∈ lw_gd := gd_5 80 rfl rfl
theorem q_1165 : Cond.methodLink RX7 60 yX7_comeFrom ∈ lw_gd := gd_5 81 rfl rfl
theorem q_1167 : Cond.instanceMethod yX7_comeFrom ∈ lw_gd := gd_5 83 rfl rfl
theorem q_1168 : Cond.code yX7_comeFrom cX7_comeFrom 7 none ∈ lw_gd := gd_5 84 rfl rfl
theorem q_1169 : Cond.methodLink RX7 68 yX2_freeAt ∈ lw_gd := gd_5 85 rfl rfl
theorem q_1170 : Cond.methodLink RX7 74 yX2_allowing ∈ lw_gd := gd_5 86 rfl rfl
theorem q_1171 : Cond.methodLink RX7 64 yX7_thin ∈ lw_gd := gd_5 87 rfl rfl
theorem q_1173 : Cond.instanceMethod yX7_thin ∈ lw_gd := gd_5 89 rfl rfl
theorem q_1174 : Cond.code yX7_thin cX7_thin 5 none ∈ lw_gd := gd_5 90 rfl rfl
theorem q_1175 : Cond.methodLink RX7 51 yX7_follow ∈ lw_gd := gd_5 91 rfl rfl
theorem q_1177 : Cond.instanceMethod yX7_follow ∈ lw_gd := gd_5 93 rfl rfl
theorem q_1178 : Cond.code yX7_follow cX7_follow 9 none ∈ lw_gd := gd_5 94 rfl rfl
theorem q_1179 : Cond.methodLink RX7 78 yX0_standAfter ∈ lw_gd := gd_5 95 rfl rfl
theorem q_1180 : Cond.instanceMethod yX0_standAfter ∈ lw_gd := gd_5 96 rfl rfl
theorem q_1181 : Cond.selects RX0 yX0_standAfter yX0_standAfter ∈ lw_gd := gd_5 97 rfl rfl
theorem q_1182 : Cond.code yX0_standAfter cX0_standAfter 5 (some .int) ∈ lw_gd := gd_5 98 rfl rfl
theorem q_1183 : Cond.methodLink RX7 81 yX2_lefts ∈ lw_gd := gd_5 99 rfl rfl
theorem q_1184 : Cond.instanceMethod yX2_lefts ∈ lw_gd := gd_5 100 rfl rfl
theorem q_1185 : Cond.selects RX2 yX2_lefts yX2_lefts ∈ lw_gd := gd_5 101 rfl rfl
theorem q_1186 : Cond.code yX2_lefts cX2_lefts 5 (some .int) ∈ lw_gd := gd_5 102 rfl rfl
theorem q_1188 : Cond.methodLink RX2 77 yX2_allowing ∈ lw_gd := gd_5 104 rfl rfl
theorem q_1189 : Cond.methodLink RX2 81 yX2_freeAt ∈ lw_gd := gd_5 105 rfl rfl
theorem q_1190 : Cond.methodLink RX7 84 yX7_comes ∈ lw_gd := gd_5 106 rfl rfl
theorem q_1192 : Cond.instanceMethod yX7_comes ∈ lw_gd := gd_5 108 rfl rfl
theorem q_1193 : Cond.code yX7_comes cX7_comes 5 (some .boolean) ∈ lw_gd := gd_5 109 rfl rfl
theorem q_1194 : Cond.methodLink RX11 260 yX7_turnAt ∈ lw_gd := gd_5 110 rfl rfl
theorem q_1195 : Cond.instanceMethod yX7_turnAt ∈ lw_gd := gd_5 111 rfl rfl
theorem q_1196 : Cond.selects RX7 yX7_turnAt yX7_turnAt ∈ lw_gd := gd_5 112 rfl rfl
theorem q_1197 : Cond.code yX7_turnAt cX7_turnAt 2 (some .int) ∈ lw_gd := gd_5 113 rfl rfl
theorem q_1198 : Cond.methodLink RL 98 yX11_fewest ∈ lw_gd := gd_5 114 rfl rfl
theorem q_1199 : Cond.instanceMethod yX11_fewest ∈ lw_gd := gd_5 115 rfl rfl
theorem q_1200 : Cond.selects RX11 yX11_fewest yX11_fewest ∈ lw_gd := gd_5 116 rfl rfl
theorem q_1201 : Cond.code yX11_fewest cX11_fewest 4 (some .int) ∈ lw_gd := gd_5 117 rfl rfl
theorem q_1202 : Cond.methodLink RX11 263 yX8_fewestLefts ∈ lw_gd := gd_5 118 rfl rfl
theorem q_1203 : Cond.instanceMethod yX8_fewestLefts ∈ lw_gd := gd_5 119 rfl rfl
theorem q_1204 : Cond.selects RX8 yX8_fewestLefts yX8_fewestLefts ∈ lw_gd := gd_5 120 rfl rfl
theorem q_1205 : Cond.code yX8_fewestLefts cX8_fewestLefts 10 (some .int) ∈ lw_gd := gd_5 121 rfl rfl
theorem q_1206 : Cond.methodLink RL 102 yX11_cheapest ∈ lw_gd := gd_5 122 rfl rfl
theorem q_1207 : Cond.instanceMethod yX11_cheapest ∈ lw_gd := gd_5 123 rfl rfl
theorem q_1208 : Cond.selects RX11 yX11_cheapest yX11_cheapest ∈ lw_gd := gd_5 124 rfl rfl
theorem q_1209 : Cond.code yX11_cheapest cX11_cheapest 4 (some .int) ∈ lw_gd := gd_5 125 rfl rfl
theorem q_1210 : Cond.methodLink RX11 266 yX9_leastCoins ∈ lw_gd := gd_5 126 rfl rfl
theorem q_1211 : Cond.instanceMethod yX9_leastCoins ∈ lw_gd := gd_5 127 rfl rfl
theorem q_1212 : Cond.selects RX9 yX9_leastCoins yX9_leastCoins ∈ lw_gd := gd_5 128 rfl rfl
theorem q_1213 : Cond.code yX9_leastCoins cX9_leastCoins 7 (some .int) ∈ lw_gd := gd_5 129 rfl rfl
theorem q_1214 : Cond.constant RX9 70 (1073741824) ∈ lw_gd := gd_5 130 rfl rfl
theorem q_1215 : Cond.methodLink RX9 32 yJ7_fill_53178 ∈ lw_gd := gd_5 131 rfl rfl
theorem q_1216 : Cond.methodLink RX9 62 yJ9_min_7cf53 ∈ lw_gd := gd_5 132 rfl rfl
theorem q_1217 : Cond.methodLink RX9 71 yX9_addCoins ∈ lw_gd := gd_5 133 rfl rfl
theorem q_1219 : Cond.instanceMethod yX9_addCoins ∈ lw_gd := gd_5 135 rfl rfl
theorem q_1220 : Cond.code yX9_addCoins cX9_addCoins 11 none ∈ lw_gd := gd_5 136 rfl rfl
theorem q_1221 : Cond.methodLink RX9 42 yX0_crossings ∈ lw_gd := gd_5 137 rfl rfl
theorem q_1222 : Cond.methodLink RX9 48 yX0_standAfter ∈ lw_gd := gd_5 138 rfl rfl
theorem q_1223 : Cond.methodLink RX9 52 yX2_lefts ∈ lw_gd := gd_5 139 rfl rfl
theorem q_1224 : Cond.methodLink RX9 88 yX0_cost ∈ lw_gd := gd_5 140 rfl rfl
theorem q_1225 : Cond.methodLink RL 106 yX11_ways ∈ lw_gd := gd_5 141 rfl rfl
theorem q_1226 : Cond.instanceMethod yX11_ways ∈ lw_gd := gd_5 142 rfl rfl
theorem q_1227 : Cond.selects RX11 yX11_ways yX11_ways ∈ lw_gd := gd_5 143 rfl rfl
theorem q_1228 : Cond.code yX11_ways cX11_ways 5 (some .long) ∈ lw_gd := gd_5 144 rfl rfl
theorem q_1229 : Cond.constantLong RX11 270 (-2) ∈ lw_gd := gd_5 145 rfl rfl
theorem q_1230 : Cond.constantLong RX11 272 (-3) ∈ lw_gd := gd_5 146 rfl rfl
theorem q_1231 : Cond.methodLink RX11 274 yX9_waysOfJust ∈ lw_gd := gd_5 147 rfl rfl
theorem q_1232 : Cond.instanceMethod yX9_waysOfJust ∈ lw_gd := gd_5 148 rfl rfl
theorem q_1233 : Cond.selects RX9 yX9_waysOfJust yX9_waysOfJust ∈ lw_gd := gd_5 149 rfl rfl
theorem q_1234 : Cond.code yX9_waysOfJust cX9_waysOfJust 9 (some .long) ∈ lw_gd := gd_5 150 rfl rfl
theorem q_1235 : Cond.methodLink RX9 38 yX9_addWays ∈ lw_gd := gd_5 151 rfl rfl
theorem q_1237 : Cond.instanceMethod yX9_addWays ∈ lw_gd := gd_5 153 rfl rfl
theorem q_1238 : Cond.code yX9_addWays cX9_addWays 8 none ∈ lw_gd := gd_5 154 rfl rfl
theorem q_1239 : Cond.methodLink RX9 58 yX9_addWaysBy ∈ lw_gd := gd_5 155 rfl rfl
theorem q_1241 : Cond.instanceMethod yX9_addWaysBy ∈ lw_gd := gd_5 157 rfl rfl
theorem q_1242 : Cond.code yX9_addWaysBy cX9_addWaysBy 11 none ∈ lw_gd := gd_5 158 rfl rfl
theorem q_1243 : Cond.methodLink RX9 67 yJ9_max_7cf53 ∈ lw_gd := gd_5 159 rfl rfl
theorem q_1244 : Cond.methodLink RL 111 yX11_reach ∈ lw_gd := gd_5 160 rfl rfl
theorem q_1245 : Cond.instanceMethod yX11_reach ∈ lw_gd := gd_5 161 rfl rfl
theorem q_1246 : Cond.selects RX11 yX11_reach yX11_reach ∈ lw_gd := gd_5 162 rfl rfl
theorem q_1247 : Cond.code yX11_reach cX11_reach 3 (some .int) ∈ lw_gd := gd_5 163 rfl rfl
theorem q_1248 : Cond.methodLink RX11 278 yX8_reachable ∈ lw_gd := gd_5 164 rfl rfl
theorem q_1249 : Cond.instanceMethod yX8_reachable ∈ lw_gd := gd_5 165 rfl rfl
theorem q_1250 : Cond.selects RX8 yX8_reachable yX8_reachable ∈ lw_gd := gd_5 166 rfl rfl
theorem q_1251 : Cond.code yX8_reachable cX8_reachable 5 (some .int) ∈ lw_gd := gd_5 167 rfl rfl
theorem q_1252 : Cond.methodLink RX8 98 yX8_survey ∈ lw_gd := gd_5 168 rfl rfl
theorem q_1254 : Cond.instanceMethod yX8_survey ∈ lw_gd := gd_5 170 rfl rfl
theorem q_1255 : Cond.code yX8_survey cX8_survey 5 none ∈ lw_gd := gd_5 171 rfl rfl
theorem q_1256 : Cond.methodLink RX8 92 yJ7_fill_53178 ∈ lw_gd := gd_5 172 rfl rfl
theorem q_1257 : Cond.methodLink RL 115 yX11_enough ∈ lw_gd := gd_5 173 rfl rfl
theorem q_1258 : Cond.instanceMethod yX11_enough ∈ lw_gd := gd_5 174 rfl rfl
theorem q_1259 : Cond.selects RX11 yX11_enough yX11_enough ∈ lw_gd := gd_5 175 rfl rfl
theorem q_1260 : Cond.code yX11_enough cX11_enough 2 (some .int) ∈ lw_gd := gd_5 176 rfl rfl
theorem q_1261 : Cond.methodLink RX11 281 yX8_leastForAll ∈ lw_gd := gd_5 177 rfl rfl
theorem q_1262 : Cond.instanceMethod yX8_leastForAll ∈ lw_gd := gd_5 178 rfl rfl
theorem q_1263 : Cond.selects RX8 yX8_leastForAll yX8_leastForAll ∈ lw_gd := gd_5 179 rfl rfl
theorem q_1264 : Cond.code yX8_leastForAll cX8_leastForAll 5 (some .int) ∈ lw_gd := gd_5 180 rfl rfl
theorem q_1265 : Cond.methodLink RL 119 yX11_byRights ∈ lw_gd := gd_5 181 rfl rfl
theorem q_1266 : Cond.instanceMethod yX11_byRights ∈ lw_gd := gd_5 182 rfl rfl
theorem q_1267 : Cond.selects RX11 yX11_byRights yX11_byRights ∈ lw_gd := gd_5 183 rfl rfl
theorem q_1268 : Cond.code yX11_byRights cX11_byRights 3 (some .int) ∈ lw_gd := gd_5 184 rfl rfl
theorem q_1269 : Cond.methodLink RX11 284 yX8_leftByRights ∈ lw_gd := gd_5 185 rfl rfl
theorem q_1270 : Cond.instanceMethod yX8_leftByRights ∈ lw_gd := gd_5 186 rfl rfl
theorem q_1271 : Cond.selects RX8 yX8_leftByRights yX8_leftByRights ∈ lw_gd := gd_5 187 rfl rfl
theorem q_1272 : Cond.code yX8_leftByRights cX8_leftByRights 4 (some .int) ∈ lw_gd := gd_5 188 rfl rfl
theorem q_1273 : Cond.methodLink RX8 102 yX0_to ∈ lw_gd := gd_5 189 rfl rfl
theorem q_1274 : Cond.methodLink RL 123 yX11_round ∈ lw_gd := gd_5 190 rfl rfl
theorem q_1275 : Cond.instanceMethod yX11_round ∈ lw_gd := gd_5 191 rfl rfl
theorem q_1276 : Cond.selects RX11 yX11_round yX11_round ∈ lw_gd := gd_5 192 rfl rfl
theorem q_1277 : Cond.code yX11_round cX11_round 5 (some .int) ∈ lw_gd := gd_5 193 rfl rfl
theorem q_1278 : Cond.methodLink RX11 290 yX10_allBelow ∈ lw_gd := gd_5 194 rfl rfl
theorem q_1279 : Cond.instanceMethod yX10_allBelow ∈ lw_gd := gd_5 195 rfl rfl
theorem q_1280 : Cond.selects RX10 yX10_allBelow yX10_allBelow ∈ lw_gd := gd_5 196 rfl rfl
theorem q_1281 : Cond.code yX10_allBelow cX10_allBelow 3 (some .boolean) ∈ lw_gd := gd_5 197 rfl rfl
theorem q_1282 : Cond.methodLink RX11 293 yX6_begin ∈ lw_gd := gd_5 198 rfl rfl
theorem q_1283 : Cond.instanceMethod yX6_begin ∈ lw_gd := gd_5 199 rfl rfl
theorem q_1284 : Cond.selects RX6 yX6_begin yX6_begin ∈ lw_gd := gd_5 200 rfl rfl
theorem q_1285 : Cond.code yX6_begin cX6_begin 3 none ∈ lw_gd := gd_5 201 rfl rfl
theorem q_1286 : Cond.methodLink RX6 35 yJ9_min_7cf53 ∈ lw_gd := gd_5 202 rfl rfl
theorem q_1287 : Cond.methodLink RX6 42 yX10_asSmall ∈ lw_gd := gd_5 203 rfl rfl
theorem q_1290 : Cond.instanceMethod yX6_tour ∈ lw_gd := gd_5 206 rfl rfl
theorem q_1291 : Cond.code yX6_tour cX6_tour 7 none ∈ lw_gd := gd_5 207 rfl rfl
theorem q_1292 : Cond.methodLink RX6 53 yX6_compare ∈ lw_gd := gd_5 208 rfl rfl
theorem q_1294 : Cond.instanceMethod yX6_compare ∈ lw_gd := gd_5 210 rfl rfl
theorem q_1295 : Cond.code yX6_compare cX6_compare 3 none ∈ lw_gd := gd_5 211 rfl rfl
theorem q_1296 : Cond.methodLink RX6 89 arraycopyName ∈ lw_gd := gd_5 212 rfl rfl
theorem q_1297 : Cond.methodLink RX6 57 yX8_fewestLefts ∈ lw_gd := gd_5 213 rfl rfl
theorem q_1298 : Cond.methodLink RX6 66 yX8_streets ∈ lw_gd := gd_5 214 rfl rfl
theorem q_1299 : Cond.instanceMethod yX8_streets ∈ lw_gd := gd_5 215 rfl rfl
theorem q_1300 : Cond.selects RX8 yX8_streets yX8_streets ∈ lw_gd := gd_5 216 rfl rfl
theorem q_1301 : Cond.code yX8_streets cX8_streets 1 (some .int) ∈ lw_gd := gd_5 217 rfl rfl
theorem q_1302 : Cond.methodLink RX6 70 yX7_trace ∈ lw_gd := gd_5 218 rfl rfl
theorem q_1303 : Cond.methodLink RX6 76 yX7_last ∈ lw_gd := gd_5 219 rfl rfl
theorem q_1304 : Cond.instanceMethod yX7_last ∈ lw_gd := gd_5 220 rfl rfl
theorem q_1305 : Cond.selects RX7 yX7_last yX7_last ∈ lw_gd := gd_5 221 rfl rfl
theorem q_1306 : Cond.code yX7_last cX7_last 1 (some .int) ∈ lw_gd := gd_5 222 rfl rfl
theorem q_1307 : Cond.methodLink RX6 79 yX7_length ∈ lw_gd := gd_5 223 rfl rfl
theorem q_1308 : Cond.instanceMethod yX7_length ∈ lw_gd := gd_5 224 rfl rfl
theorem q_1309 : Cond.selects RX7 yX7_length yX7_length ∈ lw_gd := gd_5 225 rfl rfl
theorem q_1310 : Cond.code yX7_length cX7_length 1 (some .int) ∈ lw_gd := gd_5 226 rfl rfl
theorem q_1311 : Cond.methodLink RX6 82 yX6_tour ∈ lw_gd := gd_5 227 rfl rfl
theorem q_1312 : Cond.methodLink RX11 301 yX6_answer ∈ lw_gd := gd_5 228 rfl rfl
theorem q_1313 : Cond.instanceMethod yX6_answer ∈ lw_gd := gd_5 229 rfl rfl
theorem q_1314 : Cond.selects RX6 yX6_answer yX6_answer ∈ lw_gd := gd_5 230 rfl rfl
theorem q_1315 : Cond.code yX6_answer cX6_answer 3 (some .int) ∈ lw_gd := gd_5 231 rfl rfl
theorem q_1316 : Cond.methodLink RL 127 yX11_makeFree ∈ lw_gd := gd_5 232 rfl rfl
theorem q_1317 : Cond.instanceMethod yX11_makeFree ∈ lw_gd := gd_5 233 rfl rfl
theorem q_1318 : Cond.selects RX11 yX11_makeFree yX11_makeFree ∈ lw_gd := gd_5 234 rfl rfl
theorem q_1319 : Cond.code yX11_makeFree cX11_makeFree 6 (some .int) ∈ lw_gd := gd_5 235 rfl rfl
theorem q_1320 : Cond.methodLink RX11 304 yX8_cornersToFree ∈ lw_gd := gd_5 236 rfl rfl
theorem q_1321 : Cond.instanceMethod yX8_cornersToFree ∈ lw_gd := gd_5 237 rfl rfl
theorem q_1322 : Cond.selects RX8 yX8_cornersToFree yX8_cornersToFree ∈ lw_gd := gd_5 238 rfl rfl
theorem q_1323 : Cond.code yX8_cornersToFree cX8_cornersToFree 7 (some .int) ∈ lw_gd := gd_5 239 rfl rfl
theorem q_1324 : Cond.methodLink RX8 105 yX0_crossings ∈ lw_gd := gd_6 0 rfl rfl
theorem q_1325 : Cond.methodLink RX8 109 yX8_fewestStreets ∈ lw_gd := gd_6 1 rfl rfl
theorem q_1326 : Cond.methodLink RL 131 yX11_bestCorner ∈ lw_gd := gd_6 2 rfl rfl
theorem q_1327 : Cond.instanceMethod yX11_bestCorner ∈ lw_gd := gd_6 3 rfl rfl
theorem q_1328 : Cond.selects RX11 yX11_bestCorner yX11_bestCorner ∈ lw_gd := gd_6 4 rfl rfl
theorem q_1329 : Cond.code yX11_bestCorner cX11_bestCorner 9 (some .int) ∈ lw_gd := gd_6 5 rfl rfl
theorem q_1330 : Cond.methodLink RL 135 yX11_dealing ∈ lw_gd := gd_6 6 rfl rfl
theorem q_1331 : Cond.instanceMethod yX11_dealing ∈ lw_gd := gd_6 7 rfl rfl
theorem q_1332 : Cond.selects RX11 yX11_dealing yX11_dealing ∈ lw_gd := gd_6 8 rfl rfl
theorem q_1333 : Cond.code yX11_dealing cX11_dealing 9 (some .int) ∈ lw_gd := gd_6 9 rfl rfl
theorem q_1334 : Cond.methodLink RL 139 yX11_cheap ∈ lw_gd := gd_6 10 rfl rfl
theorem q_1335 : Cond.instanceMethod yX11_cheap ∈ lw_gd := gd_6 11 rfl rfl
theorem q_1336 : Cond.selects RX11 yX11_cheap yX11_cheap ∈ lw_gd := gd_6 12 rfl rfl
theorem q_1337 : Cond.code yX11_cheap cX11_cheap 5 (some .int) ∈ lw_gd := gd_6 13 rfl rfl
theorem q_1338 : Cond.methodLink RL 144 yX11_affords ∈ lw_gd := gd_6 14 rfl rfl
theorem q_1339 : Cond.instanceMethod yX11_affords ∈ lw_gd := gd_6 15 rfl rfl
theorem q_1340 : Cond.selects RX11 yX11_affords yX11_affords ∈ lw_gd := gd_6 16 rfl rfl
theorem q_1341 : Cond.code yX11_affords cX11_affords 6 (some .int) ∈ lw_gd := gd_6 17 rfl rfl
theorem q_1342 : Cond.methodLink RL 148 yX11_found ∈ lw_gd := gd_6 18 rfl rfl
theorem q_1343 : Cond.instanceMethod yX11_found ∈ lw_gd := gd_6 19 rfl rfl
theorem q_1344 : Cond.selects RX11 yX11_found yX11_found ∈ lw_gd := gd_6 20 rfl rfl
theorem q_1345 : Cond.code yX11_found cX11_found 5 (some .int) ∈ lw_gd := gd_6 21 rfl rfl
theorem q_1346 : Cond.methodLink RX11 307 yX8_whereByEnvelopes ∈ lw_gd := gd_6 22 rfl rfl
theorem q_1347 : Cond.instanceMethod yX8_whereByEnvelopes ∈ lw_gd := gd_6 23 rfl rfl
theorem q_1348 : Cond.selects RX8 yX8_whereByEnvelopes yX8_whereByEnvelopes ∈ lw_gd := gd_6 24 rfl rfl
theorem q_1349 : Cond.code yX8_whereByEnvelopes cX8_whereByEnvelopes 8 (some .int) ∈ lw_gd := gd_6 25 rfl rfl
theorem q_1350 : Cond.methodLink RX8 118 yX8_goLeaving ∈ lw_gd := gd_6 26 rfl rfl
theorem q_1352 : Cond.instanceMethod yX8_goLeaving ∈ lw_gd := gd_6 28 rfl rfl
theorem q_1353 : Cond.code yX8_goLeaving cX8_goLeaving 7 none ∈ lw_gd := gd_6 29 rfl rfl
theorem q_1354 : Cond.methodLink RX8 122 yX10_asSmall ∈ lw_gd := gd_6 30 rfl rfl
theorem q_1355 : Cond.methodLink RL 152 yX11_chase ∈ lw_gd := gd_6 31 rfl rfl
theorem q_1356 : Cond.instanceMethod yX11_chase ∈ lw_gd := gd_6 32 rfl rfl
theorem q_1357 : Cond.selects RX11 yX11_chase yX11_chase ∈ lw_gd := gd_6 33 rfl rfl
theorem q_1358 : Cond.code yX11_chase cX11_chase 6 (some .int) ∈ lw_gd := gd_6 34 rfl rfl
theorem q_1359 : Cond.methodLink RX11 311 yX3_catching ∈ lw_gd := gd_6 35 rfl rfl
theorem q_1360 : Cond.instanceMethod yX3_catching ∈ lw_gd := gd_6 36 rfl rfl
theorem q_1361 : Cond.selects RX3 yX3_catching yX3_catching ∈ lw_gd := gd_6 37 rfl rfl
theorem q_1362 : Cond.code yX3_catching cX3_catching 4 (some .int) ∈ lw_gd := gd_6 38 rfl rfl
theorem q_1363 : Cond.methodLink RX3 30 yX3_workOut ∈ lw_gd := gd_6 39 rfl rfl
theorem q_1365 : Cond.instanceMethod yX3_workOut ∈ lw_gd := gd_6 41 rfl rfl
theorem q_1366 : Cond.code yX3_workOut cX3_workOut 9 none ∈ lw_gd := gd_6 42 rfl rfl
theorem q_1367 : Cond.methodLink RX3 44 yX0_crossings ∈ lw_gd := gd_6 43 rfl rfl
theorem q_1368 : Cond.methodLink RX3 50 yX3_watchGoes ∈ lw_gd := gd_6 44 rfl rfl
theorem q_1370 : Cond.instanceMethod yX3_watchGoes ∈ lw_gd := gd_6 46 rfl rfl
theorem q_1371 : Cond.code yX3_watchGoes cX3_watchGoes 5 (some .int) ∈ lw_gd := gd_6 47 rfl rfl
theorem q_1372 : Cond.methodLink RX3 59 yX0_movedBack ∈ lw_gd := gd_6 48 rfl rfl
theorem q_1373 : Cond.methodLink RX3 53 yX0_standAfter ∈ lw_gd := gd_6 49 rfl rfl
theorem q_1374 : Cond.methodLink RX3 34 yX3_isLikeTheLast ∈ lw_gd := gd_6 50 rfl rfl
theorem q_1376 : Cond.instanceMethod yX3_isLikeTheLast ∈ lw_gd := gd_6 52 rfl rfl
theorem q_1377 : Cond.code yX3_isLikeTheLast cX3_isLikeTheLast 3 (some .boolean) ∈ lw_gd := gd_6 53 rfl rfl
theorem q_1378 : Cond.methodLink RX3 38 yJ9_min_7cf53 ∈ lw_gd := gd_6 54 rfl rfl
theorem q_1379 : Cond.methodLink RL 156 yX11_posts ∈ lw_gd := gd_6 55 rfl rfl
theorem q_1380 : Cond.instanceMethod yX11_posts ∈ lw_gd := gd_6 56 rfl rfl
theorem q_1381 : Cond.selects RX11 yX11_posts yX11_posts ∈ lw_gd := gd_6 57 rfl rfl
theorem q_1382 : Cond.code yX11_posts cX11_posts 5 (some .int) ∈ lw_gd := gd_6 58 rfl rfl
theorem q_1383 : Cond.methodLink RL 160 yX11_numbers ∈ lw_gd := gd_6 59 rfl rfl
theorem q_1384 : Cond.instanceMethod yX11_numbers ∈ lw_gd := gd_6 60 rfl rfl
theorem q_1385 : Cond.selects RX11 yX11_numbers yX11_numbers ∈ lw_gd := gd_6 61 rfl rfl
theorem q_1386 : Cond.code yX11_numbers cX11_numbers 4 (some .int) ∈ lw_gd := gd_6 62 rfl rfl
theorem q_1387 : Cond.methodLink RX11 314 yX10_lay ∈ lw_gd := gd_6 63 rfl rfl
theorem q_1388 : Cond.instanceMethod yX10_lay ∈ lw_gd := gd_6 64 rfl rfl
theorem q_1389 : Cond.selects RX10 yX10_lay yX10_lay ∈ lw_gd := gd_6 65 rfl rfl
theorem q_1390 : Cond.code yX10_lay cX10_lay 3 none ∈ lw_gd := gd_6 66 rfl rfl
theorem q_1391 : Cond.methodLink RX10 19 yJ7_fill_d0a16 ∈ lw_gd := gd_6 67 rfl rfl
theorem q_1392 : Cond.static yJ7_fill_d0a16 ∈ lw_gd := gd_6 68 rfl rfl
theorem q_1393 : Cond.code yJ7_fill_d0a16 cJ7_fill_d0a16 5 none ∈ lw_gd := gd_6 69 rfl rfl
theorem q_1394 : Cond.methodLink RL 166 yX11_write ∈ lw_gd := gd_6 70 rfl rfl
theorem q_1395 : Cond.instanceMethod yX11_write ∈ lw_gd := gd_6 71 rfl rfl
theorem q_1396 : Cond.selects RX11 yX11_write yX11_write ∈ lw_gd := gd_6 72 rfl rfl
theorem q_1397 : Cond.code yX11_write cX11_write 6 (some .long) ∈ lw_gd := gd_6 73 rfl rfl
theorem q_1398 : Cond.constantLong RX11 318 (-6) ∈ lw_gd := gd_6 74 rfl rfl
theorem q_1399 : Cond.constantLong RX11 320 (-7) ∈ lw_gd := gd_6 75 rfl rfl
theorem q_1400 : Cond.methodLink RX11 322 yX10_put ∈ lw_gd := gd_6 76 rfl rfl
theorem q_1401 : Cond.instanceMethod yX10_put ∈ lw_gd := gd_6 77 rfl rfl
theorem q_1402 : Cond.selects RX10 yX10_put yX10_put ∈ lw_gd := gd_6 78 rfl rfl
theorem q_1403 : Cond.code yX10_put cX10_put 4 (some .long) ∈ lw_gd := gd_6 79 rfl rfl
theorem q_1404 : Cond.methodLink RL 171 yX11_lists ∈ lw_gd := gd_6 80 rfl rfl
theorem q_1405 : Cond.instanceMethod yX11_lists ∈ lw_gd := gd_6 81 rfl rfl
theorem q_1406 : Cond.selects RX11 yX11_lists yX11_lists ∈ lw_gd := gd_6 82 rfl rfl
theorem q_1407 : Cond.code yX11_lists cX11_lists 8 (some .int) ∈ lw_gd := gd_6 83 rfl rfl
theorem q_1408 : Cond.methodLink RX11 325 yX7_length ∈ lw_gd := gd_6 84 rfl rfl
theorem q_1409 : Cond.methodLink RL 175 yX11_image ∈ lw_gd := gd_6 85 rfl rfl
theorem q_1410 : Cond.instanceMethod yX11_image ∈ lw_gd := gd_6 86 rfl rfl
theorem q_1411 : Cond.selects RX11 yX11_image yX11_image ∈ lw_gd := gd_6 87 rfl rfl
theorem q_1412 : Cond.code yX11_image cX11_image 2 (some .int) ∈ lw_gd := gd_6 88 rfl rfl
theorem q_1413 : Cond.methodLink RL 179 yX11_restore ∈ lw_gd := gd_6 89 rfl rfl
theorem q_1414 : Cond.instanceMethod yX11_restore ∈ lw_gd := gd_6 90 rfl rfl
theorem q_1415 : Cond.selects RX11 yX11_restore yX11_restore ∈ lw_gd := gd_6 91 rfl rfl
theorem q_1416 : Cond.code yX11_restore cX11_restore 2 (some .int) ∈ lw_gd := gd_6 92 rfl rfl
theorem q_1417 : Cond.methodLink RL 183 yX11_count ∈ lw_gd := gd_6 93 rfl rfl
theorem q_1418 : Cond.instanceMethod yX11_count ∈ lw_gd := gd_6 94 rfl rfl
theorem q_1419 : Cond.selects RX11 yX11_count yX11_count ∈ lw_gd := gd_6 95 rfl rfl
theorem q_1420 : Cond.code yX11_count cX11_count 2 (some .int) ∈ lw_gd := gd_6 96 rfl rfl
theorem q_1421 : Cond.methodLink RX11 334 yX1_allSold ∈ lw_gd := gd_6 97 rfl rfl
theorem q_1422 : Cond.instanceMethod yX1_allSold ∈ lw_gd := gd_6 98 rfl rfl
theorem q_1423 : Cond.selects RX1 yX1_allSold yX1_allSold ∈ lw_gd := gd_6 99 rfl rfl
theorem q_1424 : Cond.code yX1_allSold cX1_allSold 3 (some .int) ∈ lw_gd := gd_6 100 rfl rfl
theorem q_1425 : Cond.methodLink RX11 337 yX1_allLefts ∈ lw_gd := gd_6 101 rfl rfl
theorem q_1426 : Cond.instanceMethod yX1_allLefts ∈ lw_gd := gd_6 102 rfl rfl
theorem q_1427 : Cond.selects RX1 yX1_allLefts yX1_allLefts ∈ lw_gd := gd_6 103 rfl rfl
theorem q_1428 : Cond.code yX1_allLefts cX1_allLefts 3 (some .int) ∈ lw_gd := gd_6 104 rfl rfl
theorem q_1429 : Cond.classLink RL 10 RX12 ∈ lw_gd := gd_6 105 rfl rfl
theorem q_1430 : Cond.instantiable RX12 44 ∈ lw_gd := gd_6 106 rfl rfl
theorem q_1431 : Cond.methodLink RL 12 yX12_init ∈ lw_gd := gd_6 107 rfl rfl
theorem q_1432 : Cond.instanceMethod yX12_init ∈ lw_gd := gd_6 108 rfl rfl
theorem q_1433 : Cond.code yX12_init cX12_init 1 none ∈ lw_gd := gd_6 109 rfl rfl
theorem q_1434 : Cond.methodLink RX12 7 objectInit ∈ lw_gd := gd_6 110 rfl rfl
theorem q_1435 : Cond.methodLink RX12 95 yX12_plain ∈ lw_gd := gd_6 111 rfl rfl
theorem q_1436 : Cond.static yX12_plain ∈ lw_gd := gd_6 112 rfl rfl
theorem q_1437 : Cond.code yX12_plain cX12_plain 2 none ∈ lw_gd := gd_6 113 rfl rfl
theorem q_1438 : Cond.fieldLink RX12 1 "LeftTurnsModel" "thrown" "I" ∈ lw_gd := gd_6 114 rfl rfl
theorem q_1439 : Cond.fieldLink RX12 13 "LeftTurnsModel" "all" "[I" ∈ lw_gd := gd_6 115 rfl rfl
theorem q_1440 : Cond.fieldLink RX12 17 "LeftTurnsModel" "hasImage" "[Z" ∈ lw_gd := gd_6 116 rfl rfl
theorem q_1441 : Cond.fieldLink RX12 21 "LeftTurnsModel" "tape" "[I" ∈ lw_gd := gd_6 117 rfl rfl
theorem q_1442 : Cond.fieldLink RX12 24 "LeftTurnsModel" "fresh" "[I" ∈ lw_gd := gd_6 118 rfl rfl
theorem q_1443 : Cond.fieldLink RX12 99 "LeftTurnsModel" "taped" "I" ∈ lw_gd := gd_6 119 rfl rfl
theorem q_1444 : Cond.fieldLink RX12 117 "LeftTurnsModel" "at" "I" ∈ lw_gd := gd_6 120 rfl rfl
theorem q_1445 : Cond.fieldLink RX12 120 "LeftTurnsModel" "behind" "I" ∈ lw_gd := gd_6 121 rfl rfl
theorem q_1446 : Cond.fieldLink RX12 102 "LeftTurnsModel" "size" "I" ∈ lw_gd := gd_6 122 rfl rfl
theorem q_1447 : Cond.fieldLink RX12 127 "LeftTurnsModel" "kind" "I" ∈ lw_gd := gd_6 123 rfl rfl
theorem q_1448 : Cond.fieldLink RX12 140 "LeftTurnsModel" "number" "I" ∈ lw_gd := gd_6 124 rfl rfl
theorem q_1449 : Cond.fieldLink RX12 145 "LeftTurnsModel" "wrong" "I" ∈ lw_gd := gd_6 125 rfl rfl
theorem q_1450 : Cond.fieldLink RX12 148 "LeftTurnsModel" "wrongAt" "I" ∈ lw_gd := gd_6 126 rfl rfl
theorem q_1451 : Cond.fieldLink RX12 226 "LeftTurnsModel" "faultKind" "I" ∈ lw_gd := gd_6 127 rfl rfl
theorem q_1452 : Cond.fieldLink RX12 27 "LeftTurnsModel" "faultPlace" "I" ∈ lw_gd := gd_6 128 rfl rfl
theorem q_1453 : Cond.fieldLink RX12 30 "LeftTurnsModel" "reckoned" "[I" ∈ lw_gd := gd_6 129 rfl rfl
theorem q_1454 : Cond.fieldLink RX12 33 "LeftTurnsModel" "was" "[I" ∈ lw_gd := gd_6 130 rfl rfl
theorem q_1455 : Cond.fieldLink RX12 306 "LeftTurnsModel" "toldWhy" "I" ∈ lw_gd := gd_6 131 rfl rfl
theorem q_1456 : Cond.fieldLink RX12 309 "LeftTurnsModel" "tookMany" "I" ∈ lw_gd := gd_6 132 rfl rfl
theorem q_1457 : Cond.fieldLink RX12 336 "LeftTurnsModel" "x" "I" ∈ lw_gd := gd_6 133 rfl rfl
theorem q_1458 : Cond.fieldLink RX12 36 "LeftTurnsModel" "ahead" "[I" ∈ lw_gd := gd_6 134 rfl rfl
theorem q_1459 : Cond.fieldLink RX12 39 "LeftTurnsModel" "sofar" "[I" ∈ lw_gd := gd_6 135 rfl rfl
theorem q_1460 : Cond.fieldLink RX12 42 "LeftTurnsModel" "still" "[I" ∈ lw_gd := gd_6 136 rfl rfl
theorem q_1461 : Cond.fieldLink RX12 45 "LeftTurnsModel" "prices" "[I" ∈ lw_gd := gd_6 137 rfl rfl
theorem q_1462 : Cond.fieldLink RX12 48 "LeftTurnsModel" "mays" "[Z" ∈ lw_gd := gd_6 138 rfl rfl
theorem q_1463 : Cond.fieldLink RX12 51 "LeftTurnsModel" "frees" "[Z" ∈ lw_gd := gd_6 139 rfl rfl
theorem q_1464 : Cond.fieldLink RX12 348 "LeftTurnsModel" "from0" "I" ∈ lw_gd := gd_6 140 rfl rfl
theorem q_1465 : Cond.fieldLink RX12 54 "LeftTurnsModel" "turns" "[I" ∈ lw_gd := gd_6 141 rfl rfl
theorem q_1466 : Cond.fieldLink RX12 388 "LeftTurnsModel" "endsAt" "I" ∈ lw_gd := gd_6 142 rfl rfl
theorem q_1467 : Cond.fieldLink RX12 57 "LeftTurnsModel" "many" "[J" ∈ lw_gd := gd_6 143 rfl rfl
theorem q_1468 : Cond.fieldLink RX12 61 "LeftTurnsModel" "manyThen" "[J" ∈ lw_gd := gd_6 144 rfl rfl
theorem q_1469 : Cond.fieldLink RX12 64 "LeftTurnsModel" "met" "[Z" ∈ lw_gd := gd_6 145 rfl rfl
theorem q_1470 : Cond.fieldLink RX12 67 "LeftTurnsModel" "metThen" "[Z" ∈ lw_gd := gd_6 146 rfl rfl
theorem q_1471 : Cond.fieldLink RX12 70 "LeftTurnsModel" "taken" "[I" ∈ lw_gd := gd_6 147 rfl rfl
theorem q_1472 : Cond.fieldLink RX12 73 "LeftTurnsModel" "bestRow" "[I" ∈ lw_gd := gd_6 148 rfl rfl
theorem q_1473 : Cond.fieldLink RX12 417 "LeftTurnsModel" "bestLefts" "I" ∈ lw_gd := gd_6 149 rfl rfl
theorem q_1474 : Cond.fieldLink RX12 420 "LeftTurnsModel" "bestStreets" "I" ∈ lw_gd := gd_6 150 rfl rfl
theorem q_1475 : Cond.fieldLink RX12 414 "LeftTurnsModel" "legStreets" "I" ∈ lw_gd := gd_6 151 rfl rfl
theorem q_1476 : Cond.fieldLink RX12 76 "LeftTurnsModel" "may1" "[Z" ∈ lw_gd := gd_6 152 rfl rfl
theorem q_1477 : Cond.fieldLink RX12 79 "LeftTurnsModel" "mayThen" "[Z" ∈ lw_gd := gd_6 153 rfl rfl
theorem q_1478 : Cond.fieldLink RX12 82 "LeftTurnsModel" "catches" "[B" ∈ lw_gd := gd_6 154 rfl rfl
theorem q_1479 : Cond.fieldLink RX12 86 "LeftTurnsModel" "rowSort" "[I" ∈ lw_gd := gd_6 155 rfl rfl
theorem q_1480 : Cond.fieldLink RX12 89 "LeftTurnsModel" "rowMany" "[I" ∈ lw_gd := gd_6 156 rfl rfl
theorem q_1481 : Cond.fieldLink RX12 92 "LeftTurnsModel" "numbers" "[J" ∈ lw_gd := gd_6 157 rfl rfl
theorem q_1482 : Cond.lays RX12 "LeftTurnsModel" "thrown" "I" ∈ lw_gd := gd_6 158 rfl rfl
theorem q_1484 : Cond.laysFinal RX12 "LeftTurnsModel" "all" "[I" ∈ lw_gd := gd_6 160 rfl rfl
theorem q_1486 : Cond.laysFinal RX12 "LeftTurnsModel" "hasImage" "[Z" ∈ lw_gd := gd_6 162 rfl rfl
theorem q_1488 : Cond.laysFinal RX12 "LeftTurnsModel" "tape" "[I" ∈ lw_gd := gd_6 164 rfl rfl
theorem q_1490 : Cond.laysFinal RX12 "LeftTurnsModel" "fresh" "[I" ∈ lw_gd := gd_6 166 rfl rfl
theorem q_1492 : Cond.lays RX12 "LeftTurnsModel" "taped" "I" ∈ lw_gd := gd_6 168 rfl rfl
theorem q_1494 : Cond.lays RX12 "LeftTurnsModel" "at" "I" ∈ lw_gd := gd_6 170 rfl rfl
theorem q_1496 : Cond.lays RX12 "LeftTurnsModel" "behind" "I" ∈ lw_gd := gd_6 172 rfl rfl
theorem q_1498 : Cond.lays RX12 "LeftTurnsModel" "size" "I" ∈ lw_gd := gd_6 174 rfl rfl
theorem q_1500 : Cond.lays RX12 "LeftTurnsModel" "kind" "I" ∈ lw_gd := gd_6 176 rfl rfl
theorem q_1502 : Cond.lays RX12 "LeftTurnsModel" "number" "I" ∈ lw_gd := gd_6 178 rfl rfl
theorem q_1504 : Cond.lays RX12 "LeftTurnsModel" "wrong" "I" ∈ lw_gd := gd_6 180 rfl rfl
theorem q_1506 : Cond.lays RX12 "LeftTurnsModel" "wrongAt" "I" ∈ lw_gd := gd_6 182 rfl rfl
theorem q_1508 : Cond.lays RX12 "LeftTurnsModel" "faultKind" "I" ∈ lw_gd := gd_6 184 rfl rfl
theorem q_1510 : Cond.lays RX12 "LeftTurnsModel" "faultPlace" "I" ∈ lw_gd := gd_6 186 rfl rfl
theorem q_1512 : Cond.laysFinal RX12 "LeftTurnsModel" "reckoned" "[I" ∈ lw_gd := gd_6 188 rfl rfl
theorem q_1514 : Cond.laysFinal RX12 "LeftTurnsModel" "was" "[I" ∈ lw_gd := gd_6 190 rfl rfl
theorem q_1516 : Cond.lays RX12 "LeftTurnsModel" "toldWhy" "I" ∈ lw_gd := gd_6 192 rfl rfl
theorem q_1518 : Cond.lays RX12 "LeftTurnsModel" "tookMany" "I" ∈ lw_gd := gd_6 194 rfl rfl
theorem q_1520 : Cond.lays RX12 "LeftTurnsModel" "x" "I" ∈ lw_gd := gd_6 196 rfl rfl
theorem q_1522 : Cond.laysFinal RX12 "LeftTurnsModel" "ahead" "[I" ∈ lw_gd := gd_6 198 rfl rfl
theorem q_1524 : Cond.laysFinal RX12 "LeftTurnsModel" "sofar" "[I" ∈ lw_gd := gd_6 200 rfl rfl
theorem q_1526 : Cond.laysFinal RX12 "LeftTurnsModel" "still" "[I" ∈ lw_gd := gd_6 202 rfl rfl
theorem q_1528 : Cond.laysFinal RX12 "LeftTurnsModel" "prices" "[I" ∈ lw_gd := gd_6 204 rfl rfl
theorem q_1530 : Cond.laysFinal RX12 "LeftTurnsModel" "mays" "[Z" ∈ lw_gd := gd_6 206 rfl rfl
theorem q_1532 : Cond.laysFinal RX12 "LeftTurnsModel" "frees" "[Z" ∈ lw_gd := gd_6 208 rfl rfl
theorem q_1534 : Cond.lays RX12 "LeftTurnsModel" "from0" "I" ∈ lw_gd := gd_6 210 rfl rfl
theorem q_1536 : Cond.laysFinal RX12 "LeftTurnsModel" "turns" "[I" ∈ lw_gd := gd_6 212 rfl rfl
theorem q_1538 : Cond.lays RX12 "LeftTurnsModel" "endsAt" "I" ∈ lw_gd := gd_6 214 rfl rfl
theorem q_1540 : Cond.laysFinal RX12 "LeftTurnsModel" "many" "[J" ∈ lw_gd := gd_6 216 rfl rfl
theorem q_1542 : Cond.laysFinal RX12 "LeftTurnsModel" "manyThen" "[J" ∈ lw_gd := gd_6 218 rfl rfl
theorem q_1544 : Cond.laysFinal RX12 "LeftTurnsModel" "met" "[Z" ∈ lw_gd := gd_6 220 rfl rfl
theorem q_1546 : Cond.laysFinal RX12 "LeftTurnsModel" "metThen" "[Z" ∈ lw_gd := gd_6 222 rfl rfl
theorem q_1548 : Cond.laysFinal RX12 "LeftTurnsModel" "taken" "[I" ∈ lw_gd := gd_6 224 rfl rfl
theorem q_1550 : Cond.laysFinal RX12 "LeftTurnsModel" "bestRow" "[I" ∈ lw_gd := gd_6 226 rfl rfl
theorem q_1552 : Cond.lays RX12 "LeftTurnsModel" "bestLefts" "I" ∈ lw_gd := gd_6 228 rfl rfl
theorem q_1554 : Cond.lays RX12 "LeftTurnsModel" "bestStreets" "I" ∈ lw_gd := gd_6 230 rfl rfl
theorem q_1556 : Cond.lays RX12 "LeftTurnsModel" "legStreets" "I" ∈ lw_gd := gd_6 232 rfl rfl
theorem q_1558 : Cond.laysFinal RX12 "LeftTurnsModel" "may1" "[Z" ∈ lw_gd := gd_6 234 rfl rfl
theorem q_1560 : Cond.laysFinal RX12 "LeftTurnsModel" "mayThen" "[Z" ∈ lw_gd := gd_6 236 rfl rfl
theorem q_1562 : Cond.laysFinal RX12 "LeftTurnsModel" "catches" "[B" ∈ lw_gd := gd_6 238 rfl rfl
theorem q_1564 : Cond.laysFinal RX12 "LeftTurnsModel" "rowSort" "[I" ∈ lw_gd := gd_7 0 rfl rfl
theorem q_1566 : Cond.laysFinal RX12 "LeftTurnsModel" "rowMany" "[I" ∈ lw_gd := gd_7 2 rfl rfl
theorem q_1568 : Cond.laysFinal RX12 "LeftTurnsModel" "numbers" "[J" ∈ lw_gd := gd_7 4 rfl rfl
theorem q_1571 : Cond.methodLink RL 17 yX12_feed ∈ lw_gd := gd_7 7 rfl rfl
theorem q_1572 : Cond.instanceMethod yX12_feed ∈ lw_gd := gd_7 8 rfl rfl
theorem q_1573 : Cond.selects RX12 yX12_feed yX12_feed ∈ lw_gd := gd_7 9 rfl rfl
theorem q_1574 : Cond.code yX12_feed cX12_feed 8 (some .int) ∈ lw_gd := gd_7 10 rfl rfl
theorem q_1575 : Cond.methodLink RL 22 yX12_city ∈ lw_gd := gd_7 11 rfl rfl
theorem q_1576 : Cond.instanceMethod yX12_city ∈ lw_gd := gd_7 12 rfl rfl
theorem q_1577 : Cond.selects RX12 yX12_city yX12_city ∈ lw_gd := gd_7 13 rfl rfl
theorem q_1578 : Cond.code yX12_city cX12_city 3 (some .int) ∈ lw_gd := gd_7 14 rfl rfl
theorem q_1579 : Cond.methodLink RX12 161 yX12_within ∈ lw_gd := gd_7 15 rfl rfl
theorem q_1580 : Cond.static yX12_within ∈ lw_gd := gd_7 16 rfl rfl
theorem q_1581 : Cond.code yX12_within cX12_within 6 (some .boolean) ∈ lw_gd := gd_7 17 rfl rfl
theorem q_1582 : Cond.methodLink RX12 154 yX12_next ∈ lw_gd := gd_7 18 rfl rfl
theorem q_1584 : Cond.instanceMethod yX12_next ∈ lw_gd := gd_7 20 rfl rfl
theorem q_1585 : Cond.code yX12_next cX12_next 2 none ∈ lw_gd := gd_7 21 rfl rfl
theorem q_1586 : Cond.methodLink RX12 123 yX12_see ∈ lw_gd := gd_7 22 rfl rfl
theorem q_1588 : Cond.instanceMethod yX12_see ∈ lw_gd := gd_7 24 rfl rfl
theorem q_1589 : Cond.code yX12_see cX12_see 2 (some .int) ∈ lw_gd := gd_7 25 rfl rfl
theorem q_1590 : Cond.methodLink RX12 130 yX12_isSmall ∈ lw_gd := gd_7 26 rfl rfl
theorem q_1591 : Cond.static yX12_isSmall ∈ lw_gd := gd_7 27 rfl rfl
theorem q_1592 : Cond.code yX12_isSmall cX12_isSmall 1 (some .boolean) ∈ lw_gd := gd_7 28 rfl rfl
theorem q_1593 : Cond.methodLink RX12 134 yX12_keyAt ∈ lw_gd := gd_7 29 rfl rfl
theorem q_1595 : Cond.instanceMethod yX12_keyAt ∈ lw_gd := gd_7 31 rfl rfl
theorem q_1596 : Cond.code yX12_keyAt cX12_keyAt 4 (some .int) ∈ lw_gd := gd_7 32 rfl rfl
theorem q_1598 : Cond.methodLink RX12 107 yJ0_length_8abf5 ∈ lw_gd := gd_7 34 rfl rfl
theorem q_1599 : Cond.methodLink RX12 113 yJ0_charAt_5068e ∈ lw_gd := gd_7 35 rfl rfl
theorem q_1600 : Cond.methodLink RX12 137 yX12_isDigit ∈ lw_gd := gd_7 36 rfl rfl
theorem q_1601 : Cond.static yX12_isDigit ∈ lw_gd := gd_7 37 rfl rfl
theorem q_1602 : Cond.code yX12_isDigit cX12_isDigit 1 (some .boolean) ∈ lw_gd := gd_7 38 rfl rfl
theorem q_1604 : Cond.methodLink RX12 223 yX12_readLine ∈ lw_gd := gd_7 40 rfl rfl
theorem q_1606 : Cond.instanceMethod yX12_readLine ∈ lw_gd := gd_7 42 rfl rfl
theorem q_1607 : Cond.code yX12_readLine cX12_readLine 3 none ∈ lw_gd := gd_7 43 rfl rfl
theorem q_1608 : Cond.methodLink RX12 151 yX12_is ∈ lw_gd := gd_7 44 rfl rfl
theorem q_1610 : Cond.instanceMethod yX12_is ∈ lw_gd := gd_7 46 rfl rfl
theorem q_1611 : Cond.code yX12_is cX12_is 2 (some .boolean) ∈ lw_gd := gd_7 47 rfl rfl
theorem q_1612 : Cond.methodLink RX12 211 yX12_readCity ∈ lw_gd := gd_7 48 rfl rfl
theorem q_1614 : Cond.instanceMethod yX12_readCity ∈ lw_gd := gd_7 50 rfl rfl
theorem q_1615 : Cond.code yX12_readCity cX12_readCity 3 none ∈ lw_gd := gd_7 51 rfl rfl
theorem q_1616 : Cond.methodLink RX12 196 yX12_takes ∈ lw_gd := gd_7 52 rfl rfl
theorem q_1618 : Cond.instanceMethod yX12_takes ∈ lw_gd := gd_7 54 rfl rfl
theorem q_1619 : Cond.code yX12_takes cX12_takes 4 (some .int) ∈ lw_gd := gd_7 55 rfl rfl
theorem q_1620 : Cond.methodLink RX12 157 yX12_fails ∈ lw_gd := gd_7 56 rfl rfl
theorem q_1622 : Cond.instanceMethod yX12_fails ∈ lw_gd := gd_7 58 rfl rfl
theorem q_1623 : Cond.code yX12_fails cX12_fails 2 none ∈ lw_gd := gd_7 59 rfl rfl
theorem q_1624 : Cond.methodLink RX12 214 yX12_readWall ∈ lw_gd := gd_7 60 rfl rfl
theorem q_1626 : Cond.instanceMethod yX12_readWall ∈ lw_gd := gd_7 62 rfl rfl
theorem q_1627 : Cond.code yX12_readWall cX12_readWall 4 none ∈ lw_gd := gd_7 63 rfl rfl
theorem q_1628 : Cond.methodLink RX12 200 yX12_takesCrossing ∈ lw_gd := gd_7 64 rfl rfl
theorem q_1630 : Cond.instanceMethod yX12_takesCrossing ∈ lw_gd := gd_7 66 rfl rfl
theorem q_1631 : Cond.code yX12_takesCrossing cX12_takesCrossing 3 (some .int) ∈ lw_gd := gd_7 67 rfl rfl
theorem q_1632 : Cond.methodLink RX12 203 yX12_beyond ∈ lw_gd := gd_7 68 rfl rfl
theorem q_1633 : Cond.static yX12_beyond ∈ lw_gd := gd_7 69 rfl rfl
theorem q_1634 : Cond.code yX12_beyond cX12_beyond 5 (some .int) ∈ lw_gd := gd_7 70 rfl rfl
theorem q_1635 : Cond.methodLink RX12 217 yX12_readPerson ∈ lw_gd := gd_7 71 rfl rfl
theorem q_1637 : Cond.instanceMethod yX12_readPerson ∈ lw_gd := gd_7 73 rfl rfl
theorem q_1638 : Cond.code yX12_readPerson cX12_readPerson 6 none ∈ lw_gd := gd_7 74 rfl rfl
theorem q_1639 : Cond.constantLong RX12 207 (8) ∈ lw_gd := gd_7 75 rfl rfl
theorem q_1640 : Cond.constantLong RX12 209 (11) ∈ lw_gd := gd_7 76 rfl rfl
theorem q_1641 : Cond.methodLink RX12 178 yX12_eats ∈ lw_gd := gd_7 77 rfl rfl
theorem q_1643 : Cond.instanceMethod yX12_eats ∈ lw_gd := gd_7 79 rfl rfl
theorem q_1644 : Cond.code yX12_eats cX12_eats 2 (some .boolean) ∈ lw_gd := gd_7 80 rfl rfl
theorem q_1645 : Cond.methodLink RX12 220 yX12_readLaw ∈ lw_gd := gd_7 81 rfl rfl
theorem q_1647 : Cond.instanceMethod yX12_readLaw ∈ lw_gd := gd_7 83 rfl rfl
theorem q_1648 : Cond.code yX12_readLaw cX12_readLaw 3 none ∈ lw_gd := gd_7 84 rfl rfl
theorem q_1649 : Cond.methodLink RX12 175 yX12_readSum ∈ lw_gd := gd_7 85 rfl rfl
theorem q_1651 : Cond.instanceMethod yX12_readSum ∈ lw_gd := gd_7 87 rfl rfl
theorem q_1652 : Cond.code yX12_readSum cX12_readSum 3 none ∈ lw_gd := gd_7 88 rfl rfl
theorem q_1653 : Cond.methodLink RX12 184 yX12_readTerm ∈ lw_gd := gd_7 89 rfl rfl
theorem q_1655 : Cond.instanceMethod yX12_readTerm ∈ lw_gd := gd_7 91 rfl rfl
theorem q_1656 : Cond.code yX12_readTerm cX12_readTerm 2 none ∈ lw_gd := gd_7 92 rfl rfl
theorem q_1657 : Cond.methodLink RX12 181 yX12_readAtom ∈ lw_gd := gd_7 93 rfl rfl
theorem q_1659 : Cond.instanceMethod yX12_readAtom ∈ lw_gd := gd_7 95 rfl rfl
theorem q_1660 : Cond.code yX12_readAtom cX12_readAtom 2 none ∈ lw_gd := gd_7 96 rfl rfl
theorem q_1661 : Cond.methodLink RX12 165 yX12_codes ∈ lw_gd := gd_7 97 rfl rfl
theorem q_1663 : Cond.instanceMethod yX12_codes ∈ lw_gd := gd_7 99 rfl rfl
theorem q_1664 : Cond.code yX12_codes cX12_codes 2 none ∈ lw_gd := gd_7 100 rfl rfl
theorem q_1665 : Cond.constantLong RX12 168 (15) ∈ lw_gd := gd_7 101 rfl rfl
theorem q_1666 : Cond.constantLong RX12 170 (20) ∈ lw_gd := gd_7 102 rfl rfl
theorem q_1667 : Cond.methodLink RX12 172 yX12_goesIn ∈ lw_gd := gd_7 103 rfl rfl
theorem q_1669 : Cond.instanceMethod yX12_goesIn ∈ lw_gd := gd_7 105 rfl rfl
theorem q_1670 : Cond.code yX12_goesIn cX12_goesIn 2 (some .boolean) ∈ lw_gd := gd_7 106 rfl rfl
theorem q_1671 : Cond.methodLink RX12 190 yX12_readTruth ∈ lw_gd := gd_7 107 rfl rfl
theorem q_1673 : Cond.instanceMethod yX12_readTruth ∈ lw_gd := gd_7 109 rfl rfl
theorem q_1674 : Cond.code yX12_readTruth cX12_readTruth 2 none ∈ lw_gd := gd_7 110 rfl rfl
theorem q_1675 : Cond.methodLink RX12 193 yX12_readBoth ∈ lw_gd := gd_7 111 rfl rfl
theorem q_1677 : Cond.instanceMethod yX12_readBoth ∈ lw_gd := gd_7 113 rfl rfl
theorem q_1678 : Cond.code yX12_readBoth cX12_readBoth 2 none ∈ lw_gd := gd_7 114 rfl rfl
theorem q_1679 : Cond.methodLink RX12 187 yX12_readUnit ∈ lw_gd := gd_7 115 rfl rfl
theorem q_1681 : Cond.instanceMethod yX12_readUnit ∈ lw_gd := gd_7 117 rfl rfl
theorem q_1682 : Cond.code yX12_readUnit cX12_readUnit 3 none ∈ lw_gd := gd_7 118 rfl rfl
theorem q_1683 : Cond.methodLink RL 26 yX12_fault ∈ lw_gd := gd_7 119 rfl rfl
theorem q_1684 : Cond.instanceMethod yX12_fault ∈ lw_gd := gd_7 120 rfl rfl
theorem q_1685 : Cond.selects RX12 yX12_fault yX12_fault ∈ lw_gd := gd_7 121 rfl rfl
theorem q_1686 : Cond.code yX12_fault cX12_fault 2 (some .int) ∈ lw_gd := gd_7 122 rfl rfl
theorem q_1687 : Cond.methodLink RL 31 yX12_person ∈ lw_gd := gd_7 123 rfl rfl
theorem q_1688 : Cond.instanceMethod yX12_person ∈ lw_gd := gd_7 124 rfl rfl
theorem q_1689 : Cond.selects RX12 yX12_person yX12_person ∈ lw_gd := gd_7 125 rfl rfl
theorem q_1690 : Cond.code yX12_person cX12_person 3 (some .int) ∈ lw_gd := gd_7 126 rfl rfl
theorem q_1691 : Cond.methodLink RX12 253 yX12_isPerson ∈ lw_gd := gd_7 127 rfl rfl
theorem q_1693 : Cond.instanceMethod yX12_isPerson ∈ lw_gd := gd_7 129 rfl rfl
theorem q_1694 : Cond.code yX12_isPerson cX12_isPerson 3 (some .boolean) ∈ lw_gd := gd_7 130 rfl rfl
theorem q_1695 : Cond.methodLink RL 35 yX12_street ∈ lw_gd := gd_7 131 rfl rfl
theorem q_1696 : Cond.instanceMethod yX12_street ∈ lw_gd := gd_7 132 rfl rfl
theorem q_1697 : Cond.selects RX12 yX12_street yX12_street ∈ lw_gd := gd_7 133 rfl rfl
theorem q_1698 : Cond.code yX12_street cX12_street 3 (some .int) ∈ lw_gd := gd_7 134 rfl rfl
theorem q_1699 : Cond.methodLink RX12 257 yX12_isCrossing ∈ lw_gd := gd_7 135 rfl rfl
theorem q_1701 : Cond.instanceMethod yX12_isCrossing ∈ lw_gd := gd_7 137 rfl rfl
theorem q_1702 : Cond.code yX12_isCrossing cX12_isCrossing 3 (some .boolean) ∈ lw_gd := gd_7 138 rfl rfl
theorem q_1703 : Cond.methodLink RX12 233 yX12_crossings ∈ lw_gd := gd_7 139 rfl rfl
theorem q_1705 : Cond.instanceMethod yX12_crossings ∈ lw_gd := gd_7 141 rfl rfl
theorem q_1706 : Cond.code yX12_crossings cX12_crossings 1 (some .int) ∈ lw_gd := gd_7 142 rfl rfl
theorem q_1707 : Cond.methodLink RX12 260 yX12_isDirection ∈ lw_gd := gd_7 143 rfl rfl
theorem q_1708 : Cond.static yX12_isDirection ∈ lw_gd := gd_7 144 rfl rfl
theorem q_1709 : Cond.code yX12_isDirection cX12_isDirection 1 (some .boolean) ∈ lw_gd := gd_7 145 rfl rfl
theorem q_1710 : Cond.constantLong RX12 236 (3) ∈ lw_gd := gd_7 146 rfl rfl
theorem q_1711 : Cond.methodLink RX12 263 yX12_streetFrom ∈ lw_gd := gd_7 147 rfl rfl
theorem q_1713 : Cond.instanceMethod yX12_streetFrom ∈ lw_gd := gd_7 149 rfl rfl
theorem q_1714 : Cond.code yX12_streetFrom cX12_streetFrom 3 (some .int) ∈ lw_gd := gd_7 150 rfl rfl
theorem q_1715 : Cond.methodLink RX12 229 yX12_isIn ∈ lw_gd := gd_7 151 rfl rfl
theorem q_1716 : Cond.static yX12_isIn ∈ lw_gd := gd_7 152 rfl rfl
theorem q_1717 : Cond.code yX12_isIn cX12_isIn 3 (some .boolean) ∈ lw_gd := gd_7 153 rfl rfl
theorem q_1718 : Cond.methodLink RL 39 yX12_crossing ∈ lw_gd := gd_7 154 rfl rfl
theorem q_1719 : Cond.instanceMethod yX12_crossing ∈ lw_gd := gd_7 155 rfl rfl
theorem q_1720 : Cond.selects RX12 yX12_crossing yX12_crossing ∈ lw_gd := gd_7 156 rfl rfl
theorem q_1721 : Cond.code yX12_crossing cX12_crossing 3 (some .int) ∈ lw_gd := gd_7 157 rfl rfl
theorem q_1722 : Cond.methodLink RX12 266 yX12_priceOf ∈ lw_gd := gd_7 158 rfl rfl
theorem q_1724 : Cond.instanceMethod yX12_priceOf ∈ lw_gd := gd_7 160 rfl rfl
theorem q_1725 : Cond.code yX12_priceOf cX12_priceOf 5 (some .int) ∈ lw_gd := gd_7 161 rfl rfl
theorem q_1726 : Cond.methodLink RX12 250 yX12_reckons ∈ lw_gd := gd_7 162 rfl rfl
theorem q_1728 : Cond.instanceMethod yX12_reckons ∈ lw_gd := gd_7 164 rfl rfl
theorem q_1729 : Cond.code yX12_reckons cX12_reckons 8 (some .int) ∈ lw_gd := gd_7 165 rfl rfl
theorem q_1730 : Cond.methodLink RX12 242 yX12_wordOf ∈ lw_gd := gd_7 166 rfl rfl
theorem q_1732 : Cond.instanceMethod yX12_wordOf ∈ lw_gd := gd_7 168 rfl rfl
theorem q_1733 : Cond.code yX12_wordOf cX12_wordOf 6 (some .int) ∈ lw_gd := gd_7 169 rfl rfl
theorem q_1734 : Cond.methodLink RX12 246 yX12_between ∈ lw_gd := gd_7 170 rfl rfl
theorem q_1735 : Cond.static yX12_between ∈ lw_gd := gd_7 171 rfl rfl
theorem q_1736 : Cond.code yX12_between cX12_between 5 (some .int) ∈ lw_gd := gd_7 172 rfl rfl
theorem q_1737 : Cond.constantLong RX12 238 (1000000) ∈ lw_gd := gd_7 173 rfl rfl
theorem q_1738 : Cond.constantLong RX12 240 (-1000000) ∈ lw_gd := gd_7 174 rfl rfl
theorem q_1739 : Cond.methodLink RX12 269 yX12_isFreeIn ∈ lw_gd := gd_7 175 rfl rfl
theorem q_1741 : Cond.instanceMethod yX12_isFreeIn ∈ lw_gd := gd_7 177 rfl rfl
theorem q_1742 : Cond.code yX12_isFreeIn cX12_isFreeIn 3 (some .boolean) ∈ lw_gd := gd_7 178 rfl rfl
theorem q_1743 : Cond.methodLink RX12 273 yX12_streetsFrom ∈ lw_gd := gd_7 179 rfl rfl
theorem q_1745 : Cond.instanceMethod yX12_streetsFrom ∈ lw_gd := gd_7 181 rfl rfl
theorem q_1746 : Cond.code yX12_streetsFrom cX12_streetsFrom 4 (some .int) ∈ lw_gd := gd_7 182 rfl rfl
theorem q_1747 : Cond.methodLink RL 44 yX12_price ∈ lw_gd := gd_7 183 rfl rfl
theorem q_1748 : Cond.instanceMethod yX12_price ∈ lw_gd := gd_7 184 rfl rfl
theorem q_1749 : Cond.selects RX12 yX12_price yX12_price ∈ lw_gd := gd_7 185 rfl rfl
theorem q_1750 : Cond.code yX12_price cX12_price 4 (some .int) ∈ lw_gd := gd_7 186 rfl rfl
theorem q_1751 : Cond.constantLong RX12 276 (999) ∈ lw_gd := gd_7 187 rfl rfl
theorem q_1752 : Cond.methodLink RL 48 yX12_why ∈ lw_gd := gd_7 188 rfl rfl
theorem q_1753 : Cond.instanceMethod yX12_why ∈ lw_gd := gd_7 189 rfl rfl
theorem q_1754 : Cond.selects RX12 yX12_why yX12_why ∈ lw_gd := gd_7 190 rfl rfl
theorem q_1755 : Cond.code yX12_why cX12_why 3 (some .int) ∈ lw_gd := gd_7 191 rfl rfl
theorem q_1756 : Cond.methodLink RX12 290 yX12_whyNot ∈ lw_gd := gd_7 192 rfl rfl
theorem q_1758 : Cond.instanceMethod yX12_whyNot ∈ lw_gd := gd_7 194 rfl rfl
theorem q_1759 : Cond.code yX12_whyNot cX12_whyNot 7 (some .int) ∈ lw_gd := gd_7 195 rfl rfl
theorem q_1760 : Cond.methodLink RX12 278 yX12_directionBy ∈ lw_gd := gd_7 196 rfl rfl
theorem q_1761 : Cond.static yX12_directionBy ∈ lw_gd := gd_7 197 rfl rfl
theorem q_1762 : Cond.code yX12_directionBy cX12_directionBy 2 (some .int) ∈ lw_gd := gd_7 198 rfl rfl
theorem q_1763 : Cond.constantLong RX12 281 (2) ∈ lw_gd := gd_7 199 rfl rfl
theorem q_1764 : Cond.methodLink RX12 283 yX12_mayTurn ∈ lw_gd := gd_7 200 rfl rfl
theorem q_1766 : Cond.instanceMethod yX12_mayTurn ∈ lw_gd := gd_7 202 rfl rfl
theorem q_1767 : Cond.code yX12_mayTurn cX12_mayTurn 4 (some .boolean) ∈ lw_gd := gd_7 203 rfl rfl
theorem q_1768 : Cond.methodLink RX12 287 yX12_leftsOf ∈ lw_gd := gd_7 204 rfl rfl
theorem q_1769 : Cond.static yX12_leftsOf ∈ lw_gd := gd_7 205 rfl rfl
theorem q_1770 : Cond.code yX12_leftsOf cX12_leftsOf 1 (some .int) ∈ lw_gd := gd_7 206 rfl rfl
theorem q_1771 : Cond.methodLink RL 52 yX12_go ∈ lw_gd := gd_7 207 rfl rfl
theorem q_1772 : Cond.instanceMethod yX12_go ∈ lw_gd := gd_7 208 rfl rfl
theorem q_1773 : Cond.selects RX12 yX12_go yX12_go ∈ lw_gd := gd_7 209 rfl rfl
theorem q_1774 : Cond.code yX12_go cX12_go 4 (some .int) ∈ lw_gd := gd_7 210 rfl rfl
theorem q_1775 : Cond.methodLink RX12 297 yX12_keeps ∈ lw_gd := gd_7 211 rfl rfl
theorem q_1777 : Cond.instanceMethod yX12_keeps ∈ lw_gd := gd_7 213 rfl rfl
theorem q_1778 : Cond.code yX12_keeps cX12_keeps 2 none ∈ lw_gd := gd_7 214 rfl rfl
theorem q_1779 : Cond.methodLink RX12 300 yX12_goes ∈ lw_gd := gd_7 215 rfl rfl
theorem q_1781 : Cond.instanceMethod yX12_goes ∈ lw_gd := gd_7 217 rfl rfl
theorem q_1782 : Cond.code yX12_goes cX12_goes 5 (some .int) ∈ lw_gd := gd_7 218 rfl rfl
theorem q_1783 : Cond.methodLink RX12 294 yX12_lesser ∈ lw_gd := gd_7 219 rfl rfl
theorem q_1784 : Cond.static yX12_lesser ∈ lw_gd := gd_7 220 rfl rfl
theorem q_1785 : Cond.code yX12_lesser cX12_lesser 2 (some .int) ∈ lw_gd := gd_7 221 rfl rfl
theorem q_1786 : Cond.methodLink RX12 303 yX12_notes ∈ lw_gd := gd_7 222 rfl rfl
theorem q_1788 : Cond.instanceMethod yX12_notes ∈ lw_gd := gd_7 224 rfl rfl
theorem q_1789 : Cond.code yX12_notes cX12_notes 2 none ∈ lw_gd := gd_7 225 rfl rfl
theorem q_1790 : Cond.methodLink RL 56 yX12_judge ∈ lw_gd := gd_7 226 rfl rfl
theorem q_1791 : Cond.instanceMethod yX12_judge ∈ lw_gd := gd_7 227 rfl rfl
theorem q_1792 : Cond.selects RX12 yX12_judge yX12_judge ∈ lw_gd := gd_7 228 rfl rfl
theorem q_1793 : Cond.code yX12_judge cX12_judge 7 (some .int) ∈ lw_gd := gd_7 229 rfl rfl
theorem q_1794 : Cond.methodLink RX12 312 yX12_noTray ∈ lw_gd := gd_7 230 rfl rfl
theorem q_1796 : Cond.instanceMethod yX12_noTray ∈ lw_gd := gd_7 232 rfl rfl
theorem q_1797 : Cond.code yX12_noTray cX12_noTray 2 (some .int) ∈ lw_gd := gd_7 233 rfl rfl
theorem q_1798 : Cond.methodLink RX12 315 yX12_tells ∈ lw_gd := gd_7 234 rfl rfl
theorem q_1800 : Cond.instanceMethod yX12_tells ∈ lw_gd := gd_7 236 rfl rfl
theorem q_1801 : Cond.code yX12_tells cX12_tells 4 (some .int) ∈ lw_gd := gd_7 237 rfl rfl
theorem q_1802 : Cond.methodLink RX12 318 yX12_isAgain ∈ lw_gd := gd_7 238 rfl rfl
theorem q_1804 : Cond.instanceMethod yX12_isAgain ∈ lw_gd := gd_8 0 rfl rfl
theorem q_1805 : Cond.code yX12_isAgain cX12_isAgain 2 none ∈ lw_gd := gd_8 1 rfl rfl
theorem q_1806 : Cond.methodLink RL 60 yX12_walk ∈ lw_gd := gd_8 2 rfl rfl
theorem q_1807 : Cond.instanceMethod yX12_walk ∈ lw_gd := gd_8 3 rfl rfl
theorem q_1808 : Cond.selects RX12 yX12_walk yX12_walk ∈ lw_gd := gd_8 4 rfl rfl
theorem q_1809 : Cond.code yX12_walk cX12_walk 4 (some .int) ∈ lw_gd := gd_8 5 rfl rfl
theorem q_1810 : Cond.methodLink RL 64 yX12_buy ∈ lw_gd := gd_8 6 rfl rfl
theorem q_1811 : Cond.instanceMethod yX12_buy ∈ lw_gd := gd_8 7 rfl rfl
theorem q_1812 : Cond.selects RX12 yX12_buy yX12_buy ∈ lw_gd := gd_8 8 rfl rfl
theorem q_1813 : Cond.code yX12_buy cX12_buy 4 (some .int) ∈ lw_gd := gd_8 9 rfl rfl
theorem q_1814 : Cond.methodLink RX12 325 yX12_boughtBy ∈ lw_gd := gd_8 10 rfl rfl
theorem q_1816 : Cond.instanceMethod yX12_boughtBy ∈ lw_gd := gd_8 12 rfl rfl
theorem q_1817 : Cond.code yX12_boughtBy cX12_boughtBy 6 (some .int) ∈ lw_gd := gd_8 13 rfl rfl
theorem q_1818 : Cond.methodLink RX12 321 yX12_buys ∈ lw_gd := gd_8 14 rfl rfl
theorem q_1820 : Cond.instanceMethod yX12_buys ∈ lw_gd := gd_8 16 rfl rfl
theorem q_1821 : Cond.code yX12_buys cX12_buys 6 (some .long) ∈ lw_gd := gd_8 17 rfl rfl
theorem q_1822 : Cond.methodLink RL 68 yX12_sell ∈ lw_gd := gd_8 18 rfl rfl
theorem q_1823 : Cond.instanceMethod yX12_sell ∈ lw_gd := gd_8 19 rfl rfl
theorem q_1824 : Cond.selects RX12 yX12_sell yX12_sell ∈ lw_gd := gd_8 20 rfl rfl
theorem q_1825 : Cond.code yX12_sell cX12_sell 3 (some .int) ∈ lw_gd := gd_8 21 rfl rfl
theorem q_1826 : Cond.methodLink RL 72 yX12_hand ∈ lw_gd := gd_8 22 rfl rfl
theorem q_1827 : Cond.instanceMethod yX12_hand ∈ lw_gd := gd_8 23 rfl rfl
theorem q_1828 : Cond.selects RX12 yX12_hand yX12_hand ∈ lw_gd := gd_8 24 rfl rfl
theorem q_1829 : Cond.code yX12_hand cX12_hand 4 (some .int) ∈ lw_gd := gd_8 25 rfl rfl
theorem q_1830 : Cond.constantLong RX12 328 (99) ∈ lw_gd := gd_8 26 rfl rfl
theorem q_1831 : Cond.methodLink RL 76 yX12_fog ∈ lw_gd := gd_8 27 rfl rfl
theorem q_1832 : Cond.instanceMethod yX12_fog ∈ lw_gd := gd_8 28 rfl rfl
theorem q_1833 : Cond.selects RX12 yX12_fog yX12_fog ∈ lw_gd := gd_8 29 rfl rfl
theorem q_1834 : Cond.code yX12_fog cX12_fog 3 (some .int) ∈ lw_gd := gd_8 30 rfl rfl
theorem q_1835 : Cond.methodLink RX12 330 yX12_freeMany ∈ lw_gd := gd_8 31 rfl rfl
theorem q_1837 : Cond.instanceMethod yX12_freeMany ∈ lw_gd := gd_8 33 rfl rfl
theorem q_1838 : Cond.code yX12_freeMany cX12_freeMany 3 (some .int) ∈ lw_gd := gd_8 34 rfl rfl
theorem q_1839 : Cond.methodLink RL 80 yX12_hours ∈ lw_gd := gd_8 35 rfl rfl
theorem q_1840 : Cond.instanceMethod yX12_hours ∈ lw_gd := gd_8 36 rfl rfl
theorem q_1841 : Cond.selects RX12 yX12_hours yX12_hours ∈ lw_gd := gd_8 37 rfl rfl
theorem q_1842 : Cond.code yX12_hours cX12_hours 2 (some .int) ∈ lw_gd := gd_8 38 rfl rfl
theorem q_1843 : Cond.methodLink RL 84 yX12_undo ∈ lw_gd := gd_8 39 rfl rfl
theorem q_1844 : Cond.instanceMethod yX12_undo ∈ lw_gd := gd_8 40 rfl rfl
theorem q_1845 : Cond.selects RX12 yX12_undo yX12_undo ∈ lw_gd := gd_8 41 rfl rfl
theorem q_1846 : Cond.code yX12_undo cX12_undo 3 (some .int) ∈ lw_gd := gd_8 42 rfl rfl
theorem q_1847 : Cond.constantLong RX12 333 (10) ∈ lw_gd := gd_8 43 rfl rfl
theorem q_1848 : Cond.methodLink RL 88 yX12_week ∈ lw_gd := gd_8 44 rfl rfl
theorem q_1849 : Cond.instanceMethod yX12_week ∈ lw_gd := gd_8 45 rfl rfl
theorem q_1850 : Cond.selects RX12 yX12_week yX12_week ∈ lw_gd := gd_8 46 rfl rfl
theorem q_1851 : Cond.code yX12_week cX12_week 5 (some .int) ∈ lw_gd := gd_8 47 rfl rfl
theorem q_1852 : Cond.constantLong RX12 342 (60) ∈ lw_gd := gd_8 48 rfl rfl
theorem q_1853 : Cond.methodLink RX12 344 yX12_isDrawn ∈ lw_gd := gd_8 49 rfl rfl
theorem q_1855 : Cond.instanceMethod yX12_isDrawn ∈ lw_gd := gd_8 51 rfl rfl
theorem q_1856 : Cond.code yX12_isDrawn cX12_isDrawn 4 (some .boolean) ∈ lw_gd := gd_8 52 rfl rfl
theorem q_1857 : Cond.methodLink RX12 339 yX12_draw ∈ lw_gd := gd_8 53 rfl rfl
theorem q_1859 : Cond.instanceMethod yX12_draw ∈ lw_gd := gd_8 55 rfl rfl
theorem q_1860 : Cond.code yX12_draw cX12_draw 2 (some .int) ∈ lw_gd := gd_8 56 rfl rfl
theorem q_1861 : Cond.constant RX12 335 (1103515245) ∈ lw_gd := gd_8 57 rfl rfl
theorem q_1862 : Cond.methodLink RL 92 yX12_way ∈ lw_gd := gd_8 58 rfl rfl
theorem q_1863 : Cond.instanceMethod yX12_way ∈ lw_gd := gd_8 59 rfl rfl
theorem q_1864 : Cond.selects RX12 yX12_way yX12_way ∈ lw_gd := gd_8 60 rfl rfl
theorem q_1865 : Cond.code yX12_way cX12_way 4 (some .int) ∈ lw_gd := gd_8 61 rfl rfl
theorem q_1866 : Cond.methodLink RX12 376 yX12_areThere ∈ lw_gd := gd_8 62 rfl rfl
theorem q_1868 : Cond.instanceMethod yX12_areThere ∈ lw_gd := gd_8 64 rfl rfl
theorem q_1869 : Cond.code yX12_areThere cX12_areThere 3 (some .boolean) ∈ lw_gd := gd_8 65 rfl rfl
theorem q_1870 : Cond.constantLong RX12 379 (120) ∈ lw_gd := gd_8 66 rfl rfl
theorem q_1871 : Cond.methodLink RX12 381 yX12_wayOf ∈ lw_gd := gd_8 67 rfl rfl
theorem q_1873 : Cond.instanceMethod yX12_wayOf ∈ lw_gd := gd_8 69 rfl rfl
theorem q_1874 : Cond.code yX12_wayOf cX12_wayOf 4 (some .int) ∈ lw_gd := gd_8 70 rfl rfl
theorem q_1875 : Cond.methodLink RX12 369 yX12_laysFor ∈ lw_gd := gd_8 71 rfl rfl
theorem q_1877 : Cond.instanceMethod yX12_laysFor ∈ lw_gd := gd_8 73 rfl rfl
theorem q_1878 : Cond.code yX12_laysFor cX12_laysFor 4 none ∈ lw_gd := gd_8 74 rfl rfl
theorem q_1879 : Cond.methodLink RX12 362 yX12_laysLaws ∈ lw_gd := gd_8 75 rfl rfl
theorem q_1881 : Cond.instanceMethod yX12_laysLaws ∈ lw_gd := gd_8 77 rfl rfl
theorem q_1882 : Cond.code yX12_laysLaws cX12_laysLaws 5 none ∈ lw_gd := gd_8 78 rfl rfl
theorem q_1883 : Cond.methodLink RX12 365 yX12_laysSofar ∈ lw_gd := gd_8 79 rfl rfl
theorem q_1885 : Cond.instanceMethod yX12_laysSofar ∈ lw_gd := gd_8 81 rfl rfl
theorem q_1886 : Cond.code yX12_laysSofar cX12_laysSofar 11 none ∈ lw_gd := gd_8 82 rfl rfl
theorem q_1887 : Cond.constant RX12 351 (1000000000) ∈ lw_gd := gd_8 83 rfl rfl
theorem q_1888 : Cond.methodLink RX12 352 yX12_costOf ∈ lw_gd := gd_8 84 rfl rfl
theorem q_1890 : Cond.instanceMethod yX12_costOf ∈ lw_gd := gd_8 86 rfl rfl
theorem q_1891 : Cond.code yX12_costOf cX12_costOf 7 (some .int) ∈ lw_gd := gd_8 87 rfl rfl
theorem q_1892 : Cond.methodLink RX12 373 yX12_soonestBy ∈ lw_gd := gd_8 88 rfl rfl
theorem q_1894 : Cond.instanceMethod yX12_soonestBy ∈ lw_gd := gd_8 90 rfl rfl
theorem q_1895 : Cond.code yX12_soonestBy cX12_soonestBy 4 (some .int) ∈ lw_gd := gd_8 91 rfl rfl
theorem q_1896 : Cond.methodLink RX12 359 yX12_leastAt ∈ lw_gd := gd_8 92 rfl rfl
theorem q_1898 : Cond.instanceMethod yX12_leastAt ∈ lw_gd := gd_8 94 rfl rfl
theorem q_1899 : Cond.code yX12_leastAt cX12_leastAt 5 (some .int) ∈ lw_gd := gd_8 95 rfl rfl
theorem q_1900 : Cond.methodLink RL 97 yX12_turn ∈ lw_gd := gd_8 96 rfl rfl
theorem q_1901 : Cond.instanceMethod yX12_turn ∈ lw_gd := gd_8 97 rfl rfl
theorem q_1902 : Cond.selects RX12 yX12_turn yX12_turn ∈ lw_gd := gd_8 98 rfl rfl
theorem q_1903 : Cond.code yX12_turn cX12_turn 6 (some .int) ∈ lw_gd := gd_8 99 rfl rfl
theorem q_1904 : Cond.methodLink RX12 395 yX12_laysWay ∈ lw_gd := gd_8 100 rfl rfl
theorem q_1906 : Cond.instanceMethod yX12_laysWay ∈ lw_gd := gd_8 102 rfl rfl
theorem q_1907 : Cond.code yX12_laysWay cX12_laysWay 5 (some .int) ∈ lw_gd := gd_8 103 rfl rfl
theorem q_1908 : Cond.methodLink RX12 391 yX12_laysTurns ∈ lw_gd := gd_8 104 rfl rfl
theorem q_1910 : Cond.instanceMethod yX12_laysTurns ∈ lw_gd := gd_8 106 rfl rfl
theorem q_1911 : Cond.code yX12_laysTurns cX12_laysTurns 13 none ∈ lw_gd := gd_8 107 rfl rfl
theorem q_1912 : Cond.methodLink RX12 384 yX12_laysStill ∈ lw_gd := gd_8 108 rfl rfl
theorem q_1914 : Cond.instanceMethod yX12_laysStill ∈ lw_gd := gd_8 110 rfl rfl
theorem q_1915 : Cond.code yX12_laysStill cX12_laysStill 5 none ∈ lw_gd := gd_8 111 rfl rfl
theorem q_1916 : Cond.methodLink RX12 356 yX12_stillBy ∈ lw_gd := gd_8 112 rfl rfl
theorem q_1918 : Cond.instanceMethod yX12_stillBy ∈ lw_gd := gd_8 114 rfl rfl
theorem q_1919 : Cond.code yX12_stillBy cX12_stillBy 6 (some .int) ∈ lw_gd := gd_8 115 rfl rfl
theorem q_1920 : Cond.methodLink RL 101 yX12_fewest ∈ lw_gd := gd_8 116 rfl rfl
theorem q_1921 : Cond.instanceMethod yX12_fewest ∈ lw_gd := gd_8 117 rfl rfl
theorem q_1922 : Cond.selects RX12 yX12_fewest yX12_fewest ∈ lw_gd := gd_8 118 rfl rfl
theorem q_1923 : Cond.code yX12_fewest cX12_fewest 4 (some .int) ∈ lw_gd := gd_8 119 rfl rfl
theorem q_1924 : Cond.methodLink RX12 398 yX12_leastWithin ∈ lw_gd := gd_8 120 rfl rfl
theorem q_1926 : Cond.instanceMethod yX12_leastWithin ∈ lw_gd := gd_8 122 rfl rfl
theorem q_1927 : Cond.code yX12_leastWithin cX12_leastWithin 5 (some .int) ∈ lw_gd := gd_8 123 rfl rfl
theorem q_1928 : Cond.methodLink RX12 401 yX12_orNone ∈ lw_gd := gd_8 124 rfl rfl
theorem q_1929 : Cond.static yX12_orNone ∈ lw_gd := gd_8 125 rfl rfl
theorem q_1930 : Cond.code yX12_orNone cX12_orNone 1 (some .int) ∈ lw_gd := gd_8 126 rfl rfl
theorem q_1931 : Cond.methodLink RL 105 yX12_cheapest ∈ lw_gd := gd_8 127 rfl rfl
theorem q_1932 : Cond.instanceMethod yX12_cheapest ∈ lw_gd := gd_8 128 rfl rfl
theorem q_1933 : Cond.selects RX12 yX12_cheapest yX12_cheapest ∈ lw_gd := gd_8 129 rfl rfl
theorem q_1934 : Cond.code yX12_cheapest cX12_cheapest 4 (some .int) ∈ lw_gd := gd_8 130 rfl rfl
theorem q_1935 : Cond.methodLink RL 110 yX12_ways ∈ lw_gd := gd_8 131 rfl rfl
theorem q_1936 : Cond.instanceMethod yX12_ways ∈ lw_gd := gd_8 132 rfl rfl
theorem q_1937 : Cond.selects RX12 yX12_ways yX12_ways ∈ lw_gd := gd_8 133 rfl rfl
theorem q_1938 : Cond.code yX12_ways cX12_ways 9 (some .long) ∈ lw_gd := gd_8 134 rfl rfl
theorem q_1939 : Cond.constantLong RX12 404 (-2) ∈ lw_gd := gd_8 135 rfl rfl
theorem q_1940 : Cond.constantLong RX12 406 (40) ∈ lw_gd := gd_8 136 rfl rfl
theorem q_1941 : Cond.constantLong RX12 408 (-3) ∈ lw_gd := gd_8 137 rfl rfl
theorem q_1942 : Cond.methodLink RX12 410 yX12_countsOn ∈ lw_gd := gd_8 138 rfl rfl
theorem q_1944 : Cond.instanceMethod yX12_countsOn ∈ lw_gd := gd_8 140 rfl rfl
theorem q_1945 : Cond.code yX12_countsOn cX12_countsOn 9 none ∈ lw_gd := gd_8 141 rfl rfl
theorem q_1946 : Cond.methodLink RL 114 yX12_reach ∈ lw_gd := gd_8 142 rfl rfl
theorem q_1947 : Cond.instanceMethod yX12_reach ∈ lw_gd := gd_8 143 rfl rfl
theorem q_1948 : Cond.selects RX12 yX12_reach yX12_reach ∈ lw_gd := gd_8 144 rfl rfl
theorem q_1949 : Cond.code yX12_reach cX12_reach 5 (some .int) ∈ lw_gd := gd_8 145 rfl rfl
theorem q_1950 : Cond.methodLink RL 118 yX12_enough ∈ lw_gd := gd_8 146 rfl rfl
theorem q_1951 : Cond.instanceMethod yX12_enough ∈ lw_gd := gd_8 147 rfl rfl
theorem q_1952 : Cond.selects RX12 yX12_enough yX12_enough ∈ lw_gd := gd_8 148 rfl rfl
theorem q_1953 : Cond.code yX12_enough cX12_enough 5 (some .int) ∈ lw_gd := gd_8 149 rfl rfl
theorem q_1954 : Cond.methodLink RL 122 yX12_byRights ∈ lw_gd := gd_8 150 rfl rfl
theorem q_1955 : Cond.instanceMethod yX12_byRights ∈ lw_gd := gd_8 151 rfl rfl
theorem q_1956 : Cond.selects RX12 yX12_byRights yX12_byRights ∈ lw_gd := gd_8 152 rfl rfl
theorem q_1957 : Cond.code yX12_byRights cX12_byRights 9 (some .int) ∈ lw_gd := gd_8 153 rfl rfl
theorem q_1958 : Cond.methodLink RL 126 yX12_round ∈ lw_gd := gd_8 154 rfl rfl
theorem q_1959 : Cond.instanceMethod yX12_round ∈ lw_gd := gd_8 155 rfl rfl
theorem q_1960 : Cond.selects RX12 yX12_round yX12_round ∈ lw_gd := gd_8 156 rfl rfl
theorem q_1961 : Cond.code yX12_round cX12_round 6 (some .int) ∈ lw_gd := gd_8 157 rfl rfl
theorem q_1962 : Cond.constantLong RX12 430 (13) ∈ lw_gd := gd_8 158 rfl rfl
theorem q_1963 : Cond.constantLong RX12 432 (4) ∈ lw_gd := gd_8 159 rfl rfl
theorem q_1964 : Cond.methodLink RX12 426 yX12_goesRound ∈ lw_gd := gd_8 160 rfl rfl
theorem q_1966 : Cond.instanceMethod yX12_goesRound ∈ lw_gd := gd_8 162 rfl rfl
theorem q_1967 : Cond.code yX12_goesRound cX12_goesRound 10 none ∈ lw_gd := gd_8 163 rfl rfl
theorem q_1968 : Cond.methodLink RX12 423 yX12_leg ∈ lw_gd := gd_8 164 rfl rfl
theorem q_1970 : Cond.instanceMethod yX12_leg ∈ lw_gd := gd_8 166 rfl rfl
theorem q_1971 : Cond.code yX12_leg cX12_leg 5 (some .int) ∈ lw_gd := gd_8 167 rfl rfl
theorem q_1972 : Cond.methodLink RL 130 yX12_makeFree ∈ lw_gd := gd_8 168 rfl rfl
theorem q_1973 : Cond.instanceMethod yX12_makeFree ∈ lw_gd := gd_8 169 rfl rfl
theorem q_1974 : Cond.selects RX12 yX12_makeFree yX12_makeFree ∈ lw_gd := gd_8 170 rfl rfl
theorem q_1975 : Cond.code yX12_makeFree cX12_makeFree 7 (some .int) ∈ lw_gd := gd_8 171 rfl rfl
theorem q_1976 : Cond.methodLink RX12 438 yX12_freesBy ∈ lw_gd := gd_8 172 rfl rfl
theorem q_1978 : Cond.instanceMethod yX12_freesBy ∈ lw_gd := gd_8 174 rfl rfl
theorem q_1979 : Cond.code yX12_freesBy cX12_freesBy 10 (some .int) ∈ lw_gd := gd_8 175 rfl rfl
theorem q_1980 : Cond.methodLink RX12 434 yX12_comesFree ∈ lw_gd := gd_8 176 rfl rfl
theorem q_1982 : Cond.instanceMethod yX12_comesFree ∈ lw_gd := gd_8 178 rfl rfl
theorem q_1983 : Cond.code yX12_comesFree cX12_comesFree 11 (some .boolean) ∈ lw_gd := gd_8 179 rfl rfl
theorem q_1984 : Cond.methodLink RL 134 yX12_bestCorner ∈ lw_gd := gd_8 180 rfl rfl
theorem q_1985 : Cond.instanceMethod yX12_bestCorner ∈ lw_gd := gd_8 181 rfl rfl
theorem q_1986 : Cond.selects RX12 yX12_bestCorner yX12_bestCorner ∈ lw_gd := gd_8 182 rfl rfl
theorem q_1987 : Cond.code yX12_bestCorner cX12_bestCorner 9 (some .int) ∈ lw_gd := gd_8 183 rfl rfl
theorem q_1988 : Cond.constantLong RX12 442 (30) ∈ lw_gd := gd_8 184 rfl rfl
theorem q_1989 : Cond.methodLink RL 138 yX12_dealing ∈ lw_gd := gd_8 185 rfl rfl
theorem q_1990 : Cond.instanceMethod yX12_dealing ∈ lw_gd := gd_8 186 rfl rfl
theorem q_1991 : Cond.selects RX12 yX12_dealing yX12_dealing ∈ lw_gd := gd_8 187 rfl rfl
theorem q_1992 : Cond.code yX12_dealing cX12_dealing 10 (some .int) ∈ lw_gd := gd_8 188 rfl rfl
theorem q_1993 : Cond.methodLink RL 143 yX12_cheap ∈ lw_gd := gd_8 189 rfl rfl
theorem q_1994 : Cond.instanceMethod yX12_cheap ∈ lw_gd := gd_8 190 rfl rfl
theorem q_1995 : Cond.selects RX12 yX12_cheap yX12_cheap ∈ lw_gd := gd_8 191 rfl rfl
theorem q_1996 : Cond.code yX12_cheap cX12_cheap 3 (some .int) ∈ lw_gd := gd_8 192 rfl rfl
theorem q_1997 : Cond.methodLink RL 147 yX12_affords ∈ lw_gd := gd_8 193 rfl rfl
theorem q_1998 : Cond.instanceMethod yX12_affords ∈ lw_gd := gd_8 194 rfl rfl
theorem q_1999 : Cond.selects RX12 yX12_affords yX12_affords ∈ lw_gd := gd_8 195 rfl rfl
theorem q_2000 : Cond.code yX12_affords cX12_affords 4 (some .int) ∈ lw_gd := gd_8 196 rfl rfl
theorem q_2001 : Cond.methodLink RL 151 yX12_found ∈ lw_gd := gd_8 197 rfl rfl
theorem q_2002 : Cond.instanceMethod yX12_found ∈ lw_gd := gd_8 198 rfl rfl
theorem q_2003 : Cond.selects RX12 yX12_found yX12_found ∈ lw_gd := gd_8 199 rfl rfl
theorem q_2004 : Cond.code yX12_found cX12_found 7 (some .int) ∈ lw_gd := gd_8 200 rfl rfl
theorem q_2005 : Cond.methodLink RX12 447 yX12_findsOn ∈ lw_gd := gd_8 201 rfl rfl
theorem q_2007 : Cond.instanceMethod yX12_findsOn ∈ lw_gd := gd_8 203 rfl rfl
theorem q_2008 : Cond.code yX12_findsOn cX12_findsOn 9 none ∈ lw_gd := gd_8 204 rfl rfl
theorem q_2009 : Cond.methodLink RX12 444 yX12_lie ∈ lw_gd := gd_8 205 rfl rfl
theorem q_2011 : Cond.instanceMethod yX12_lie ∈ lw_gd := gd_8 207 rfl rfl
theorem q_2012 : Cond.code yX12_lie cX12_lie 6 (some .boolean) ∈ lw_gd := gd_8 208 rfl rfl
theorem q_2013 : Cond.methodLink RL 155 yX12_chase ∈ lw_gd := gd_8 209 rfl rfl
theorem q_2014 : Cond.instanceMethod yX12_chase ∈ lw_gd := gd_8 210 rfl rfl
theorem q_2015 : Cond.selects RX12 yX12_chase yX12_chase ∈ lw_gd := gd_8 211 rfl rfl
theorem q_2016 : Cond.code yX12_chase cX12_chase 5 (some .int) ∈ lw_gd := gd_8 212 rfl rfl
theorem q_2017 : Cond.methodLink RX12 456 yX12_laysCatches ∈ lw_gd := gd_8 213 rfl rfl
theorem q_2019 : Cond.instanceMethod yX12_laysCatches ∈ lw_gd := gd_8 215 rfl rfl
theorem q_2020 : Cond.code yX12_laysCatches cX12_laysCatches 5 none ∈ lw_gd := gd_8 216 rfl rfl
theorem q_2021 : Cond.methodLink RX12 453 yX12_isSure ∈ lw_gd := gd_8 217 rfl rfl
theorem q_2023 : Cond.instanceMethod yX12_isSure ∈ lw_gd := gd_8 219 rfl rfl
theorem q_2024 : Cond.code yX12_isSure cX12_isSure 9 (some .boolean) ∈ lw_gd := gd_8 220 rfl rfl
theorem q_2025 : Cond.methodLink RX12 450 yX12_goesOn ∈ lw_gd := gd_8 221 rfl rfl
theorem q_2027 : Cond.instanceMethod yX12_goesOn ∈ lw_gd := gd_8 223 rfl rfl
theorem q_2028 : Cond.code yX12_goesOn cX12_goesOn 5 (some .int) ∈ lw_gd := gd_8 224 rfl rfl
theorem q_2029 : Cond.methodLink RL 159 yX12_posts ∈ lw_gd := gd_8 225 rfl rfl
theorem q_2030 : Cond.instanceMethod yX12_posts ∈ lw_gd := gd_8 226 rfl rfl
theorem q_2031 : Cond.selects RX12 yX12_posts yX12_posts ∈ lw_gd := gd_8 227 rfl rfl
theorem q_2032 : Cond.code yX12_posts cX12_posts 7 (some .int) ∈ lw_gd := gd_8 228 rfl rfl
theorem q_2033 : Cond.methodLink RL 163 yX12_numbers ∈ lw_gd := gd_8 229 rfl rfl
theorem q_2034 : Cond.instanceMethod yX12_numbers ∈ lw_gd := gd_8 230 rfl rfl
theorem q_2035 : Cond.selects RX12 yX12_numbers yX12_numbers ∈ lw_gd := gd_8 231 rfl rfl
theorem q_2036 : Cond.code yX12_numbers cX12_numbers 5 (some .int) ∈ lw_gd := gd_8 232 rfl rfl
theorem q_2037 : Cond.methodLink RL 170 yX12_write ∈ lw_gd := gd_8 233 rfl rfl
theorem q_2038 : Cond.instanceMethod yX12_write ∈ lw_gd := gd_8 234 rfl rfl
theorem q_2039 : Cond.selects RX12 yX12_write yX12_write ∈ lw_gd := gd_8 235 rfl rfl
theorem q_2040 : Cond.code yX12_write cX12_write 6 (some .long) ∈ lw_gd := gd_8 236 rfl rfl
theorem q_2041 : Cond.constantLong RX12 459 (-7) ∈ lw_gd := gd_8 237 rfl rfl
theorem q_2042 : Cond.methodLink RX12 461 yX12_cut ∈ lw_gd := gd_8 238 rfl rfl
theorem q_2043 : Cond.static yX12_cut ∈ lw_gd := gd_8 239 rfl rfl
theorem q_2044 : Cond.code yX12_cut cX12_cut 3 (some .long) ∈ lw_gd := gd_9 0 rfl rfl
theorem q_2045 : Cond.methodLink RL 174 yX12_lists ∈ lw_gd := gd_9 1 rfl rfl
theorem q_2046 : Cond.instanceMethod yX12_lists ∈ lw_gd := gd_9 2 rfl rfl
theorem q_2047 : Cond.selects RX12 yX12_lists yX12_lists ∈ lw_gd := gd_9 3 rfl rfl
theorem q_2048 : Cond.code yX12_lists cX12_lists 9 (some .int) ∈ lw_gd := gd_9 4 rfl rfl
theorem q_2049 : Cond.methodLink RL 178 yX12_image ∈ lw_gd := gd_9 5 rfl rfl
theorem q_2050 : Cond.instanceMethod yX12_image ∈ lw_gd := gd_9 6 rfl rfl
theorem q_2051 : Cond.selects RX12 yX12_image yX12_image ∈ lw_gd := gd_9 7 rfl rfl
theorem q_2052 : Cond.code yX12_image cX12_image 3 (some .int) ∈ lw_gd := gd_9 8 rfl rfl
theorem q_2053 : Cond.methodLink RL 182 yX12_restore ∈ lw_gd := gd_9 9 rfl rfl
theorem q_2054 : Cond.instanceMethod yX12_restore ∈ lw_gd := gd_9 10 rfl rfl
theorem q_2055 : Cond.selects RX12 yX12_restore yX12_restore ∈ lw_gd := gd_9 11 rfl rfl
theorem q_2056 : Cond.code yX12_restore cX12_restore 3 (some .int) ∈ lw_gd := gd_9 12 rfl rfl
theorem q_2057 : Cond.methodLink RL 186 yX12_count ∈ lw_gd := gd_9 13 rfl rfl
theorem q_2058 : Cond.instanceMethod yX12_count ∈ lw_gd := gd_9 14 rfl rfl
theorem q_2059 : Cond.selects RX12 yX12_count yX12_count ∈ lw_gd := gd_9 15 rfl rfl
theorem q_2060 : Cond.code yX12_count cX12_count 2 (some .int) ∈ lw_gd := gd_9 16 rfl rfl
theorem q_2061 : Cond.methodLink RX12 465 yX12_soldMany ∈ lw_gd := gd_9 17 rfl rfl
theorem q_2063 : Cond.instanceMethod yX12_soldMany ∈ lw_gd := gd_9 19 rfl rfl
theorem q_2064 : Cond.code yX12_soldMany cX12_soldMany 3 (some .int) ∈ lw_gd := gd_9 20 rfl rfl
theorem q_2065 : Cond.methodLink RX12 468 yX12_allLefts ∈ lw_gd := gd_9 21 rfl rfl
theorem q_2067 : Cond.instanceMethod yX12_allLefts ∈ lw_gd := gd_9 23 rfl rfl
theorem q_2068 : Cond.code yX12_allLefts cX12_allLefts 3 (some .int) ∈ lw_gd := gd_9 24 rfl rfl
theorem q_2069 : Cond.constantLong RL 164 (4294967295) ∈ lw_gd := gd_9 25 rfl rfl
theorem q_2070 : Cond.fieldLink RJ0 15 "java/lang/String" "coder" "B" ∈ lw_gd := gd_9 26 rfl rfl
theorem q_2071 : Cond.fieldLink RJ0 9 "java/lang/String" "value" "[B" ∈ lw_gd := gd_9 27 rfl rfl
end
section
section FL
variable {p : Program} {l : Launch} {e : Env} {R : Room} {s : State} {m : MethodId} {args : Array Value} {below : List Frame} {meth : Method} {c : Code} {H : Heap} {locs : List Loc} {cells slots : Nat} {Q : State → Prop}
variable {cc : ByteArray} {pc nL : Nat} {ls : Array Slot} {rest : List Value} {G : GG} {A : Nat → Prop} {a : Nat} {ws ws' : va_W} {own : String} {ret : Option FieldType} {index : Nat} {fs : List Value} {v : Value}
theorem gd_X0 : ∀ w ∈ u_ws RX0 TX0 9, w ∈ lw_gd := gd_us (fun k hk => match k, hk with | 0, _ => q_267 | 1, _ => q_269 | 2, _ => q_271 | 3, _ => q_273 | 4, _ => q_275 | 5, _ => q_277 | 6, _ => q_279 | 7, _ => q_281 | 8, _ => q_283 | k + 9, hk => absurd hk (by omega))
theorem g_X0_priceLaw (C0 : Cx p s m args meth c own cc nL ret) (h : Wd G A s H locs ws) (q0 : Nat) (hlink : Cond.fieldLink own index "LeftTurns$City" "priceLaw" "LLeftTurns$Law;" ∈ lw_gd) (he : ws[q0]? = some (a, .inr (0, fs))) (hv : fs[0]? = some v) (hdg : decode cc pc = .ok (.getfield index, 3)) (kk : W p l e R s m args below meth c H locs cells slots Q (F0 m (pc + 3) ls (v :: rest))) : W p l e R s m args below meth c H locs cells slots Q (F0 m pc ls (.ref a :: rest)) := m_get (k := 0) C0 h q0 he (rfl : vwCl[0]? = some (RX0, TX0, 9)) gd_X0 (by decide) hlink hv hdg kk
theorem f_X0_priceLaw (C0 : Cx p s m args meth c RX0 cc nL ret) (h : Wd G A s H locs ws) (hini : meth.name = "<init>") (q0 : Nat) (hlink : Cond.fieldLink RX0 index "LeftTurns$City" "priceLaw" "LLeftTurns$Law;" ∈ lw_gd) (he : ws[q0]? = some (a, .inr (0, fs))) (hl : 0 < fs.length) (hn : narrow (tyX0 0) v = v) (hfit : fits (tyX0 0) v = true) (hw : ws.set q0 (a, .inr (0, fs.set 0 v)) = ws') (hdg : decode cc pc = .ok (.putfield index, 3)) (kk : ∀ (H1 : Heap) (locs1 : List Loc), Wd G A s H1 locs1 ws' → W p l e R s m args below meth c H1 locs1 cells slots Q (F0 m (pc + 3) ls rest)) : W p l e R s m args below meth c H locs cells slots Q (F0 m pc ls (v :: .ref a :: rest)) := m_putF (k := 0) C0 h hini q0 tyX0 tyX0_ok nmX0 (rfl : vwCl[0]? = some (RX0, TX0, 9)) gd_X0 (by decide) hlink rfl rfl he hl hn hfit hw hdg kk
theorem g_X0_mayLaw (C0 : Cx p s m args meth c own cc nL ret) (h : Wd G A s H locs ws) (q0 : Nat) (hlink : Cond.fieldLink own index "LeftTurns$City" "mayLaw" "LLeftTurns$Law;" ∈ lw_gd) (he : ws[q0]? = some (a, .inr (0, fs))) (hv : fs[1]? = some v) (hdg : decode cc pc = .ok (.getfield index, 3)) (kk : W p l e R s m args below meth c H locs cells slots Q (F0 m (pc + 3) ls (v :: rest))) : W p l e R s m args below meth c H locs cells slots Q (F0 m pc ls (.ref a :: rest)) := m_get (k := 1) C0 h q0 he (rfl : vwCl[0]? = some (RX0, TX0, 9)) gd_X0 (by decide) hlink hv hdg kk
theorem f_X0_mayLaw (C0 : Cx p s m args meth c RX0 cc nL ret) (h : Wd G A s H locs ws) (hini : meth.name = "<init>") (q0 : Nat) (hlink : Cond.fieldLink RX0 index "LeftTurns$City" "mayLaw" "LLeftTurns$Law;" ∈ lw_gd) (he : ws[q0]? = some (a, .inr (0, fs))) (hl : 1 < fs.length) (hn : narrow (tyX0 1) v = v) (hfit : fits (tyX0 1) v = true) (hw : ws.set q0 (a, .inr (0, fs.set 1 v)) = ws') (hdg : decode cc pc = .ok (.putfield index, 3)) (kk : ∀ (H1 : Heap) (locs1 : List Loc), Wd G A s H1 locs1 ws' → W p l e R s m args below meth c H1 locs1 cells slots Q (F0 m (pc + 3) ls rest)) : W p l e R s m args below meth c H locs cells slots Q (F0 m pc ls (v :: .ref a :: rest)) := m_putF (k := 1) C0 h hini q0 tyX0 tyX0_ok nmX0 (rfl : vwCl[0]? = some (RX0, TX0, 9)) gd_X0 (by decide) hlink rfl rfl he hl hn hfit hw hdg kk
theorem g_X0_folk (C0 : Cx p s m args meth c own cc nL ret) (h : Wd G A s H locs ws) (q0 : Nat) (hlink : Cond.fieldLink own index "LeftTurns$City" "folk" "LLeftTurns$Folk;" ∈ lw_gd) (he : ws[q0]? = some (a, .inr (0, fs))) (hv : fs[2]? = some v) (hdg : decode cc pc = .ok (.getfield index, 3)) (kk : W p l e R s m args below meth c H locs cells slots Q (F0 m (pc + 3) ls (v :: rest))) : W p l e R s m args below meth c H locs cells slots Q (F0 m pc ls (.ref a :: rest)) := m_get (k := 2) C0 h q0 he (rfl : vwCl[0]? = some (RX0, TX0, 9)) gd_X0 (by decide) hlink hv hdg kk
theorem f_X0_folk (C0 : Cx p s m args meth c RX0 cc nL ret) (h : Wd G A s H locs ws) (hini : meth.name = "<init>") (q0 : Nat) (hlink : Cond.fieldLink RX0 index "LeftTurns$City" "folk" "LLeftTurns$Folk;" ∈ lw_gd) (he : ws[q0]? = some (a, .inr (0, fs))) (hl : 2 < fs.length) (hn : narrow (tyX0 2) v = v) (hfit : fits (tyX0 2) v = true) (hw : ws.set q0 (a, .inr (0, fs.set 2 v)) = ws') (hdg : decode cc pc = .ok (.putfield index, 3)) (kk : ∀ (H1 : Heap) (locs1 : List Loc), Wd G A s H1 locs1 ws' → W p l e R s m args below meth c H1 locs1 cells slots Q (F0 m (pc + 3) ls rest)) : W p l e R s m args below meth c H locs cells slots Q (F0 m pc ls (v :: .ref a :: rest)) := m_putF (k := 2) C0 h hini q0 tyX0 tyX0_ok nmX0 (rfl : vwCl[0]? = some (RX0, TX0, 9)) gd_X0 (by decide) hlink rfl rfl he hl hn hfit hw hdg kk
theorem g_X0_streets (C0 : Cx p s m args meth c own cc nL ret) (h : Wd G A s H locs ws) (q0 : Nat) (hlink : Cond.fieldLink own index "LeftTurns$City" "streets" "[I" ∈ lw_gd) (he : ws[q0]? = some (a, .inr (0, fs))) (hv : fs[3]? = some v) (hdg : decode cc pc = .ok (.getfield index, 3)) (kk : W p l e R s m args below meth c H locs cells slots Q (F0 m (pc + 3) ls (v :: rest))) : W p l e R s m args below meth c H locs cells slots Q (F0 m pc ls (.ref a :: rest)) := m_get (k := 3) C0 h q0 he (rfl : vwCl[0]? = some (RX0, TX0, 9)) gd_X0 (by decide) hlink hv hdg kk
theorem f_X0_streets (C0 : Cx p s m args meth c RX0 cc nL ret) (h : Wd G A s H locs ws) (hini : meth.name = "<init>") (q0 : Nat) (hlink : Cond.fieldLink RX0 index "LeftTurns$City" "streets" "[I" ∈ lw_gd) (he : ws[q0]? = some (a, .inr (0, fs))) (hl : 3 < fs.length) (hn : narrow (tyX0 3) v = v) (hfit : fits (tyX0 3) v = true) (hw : ws.set q0 (a, .inr (0, fs.set 3 v)) = ws') (hdg : decode cc pc = .ok (.putfield index, 3)) (kk : ∀ (H1 : Heap) (locs1 : List Loc), Wd G A s H1 locs1 ws' → W p l e R s m args below meth c H1 locs1 cells slots Q (F0 m (pc + 3) ls rest)) : W p l e R s m args below meth c H locs cells slots Q (F0 m pc ls (v :: .ref a :: rest)) := m_putF (k := 3) C0 h hini q0 tyX0 tyX0_ok nmX0 (rfl : vwCl[0]? = some (RX0, TX0, 9)) gd_X0 (by decide) hlink rfl rfl he hl hn hfit hw hdg kk
theorem g_X0_strides (C0 : Cx p s m args meth c own cc nL ret) (h : Wd G A s H locs ws) (q0 : Nat) (hlink : Cond.fieldLink own index "LeftTurns$City" "strides" "[I" ∈ lw_gd) (he : ws[q0]? = some (a, .inr (0, fs))) (hv : fs[4]? = some v) (hdg : decode cc pc = .ok (.getfield index, 3)) (kk : W p l e R s m args below meth c H locs cells slots Q (F0 m (pc + 3) ls (v :: rest))) : W p l e R s m args below meth c H locs cells slots Q (F0 m pc ls (.ref a :: rest)) := m_get (k := 4) C0 h q0 he (rfl : vwCl[0]? = some (RX0, TX0, 9)) gd_X0 (by decide) hlink hv hdg kk
theorem f_X0_strides (C0 : Cx p s m args meth c RX0 cc nL ret) (h : Wd G A s H locs ws) (hini : meth.name = "<init>") (q0 : Nat) (hlink : Cond.fieldLink RX0 index "LeftTurns$City" "strides" "[I" ∈ lw_gd) (he : ws[q0]? = some (a, .inr (0, fs))) (hl : 4 < fs.length) (hn : narrow (tyX0 4) v = v) (hfit : fits (tyX0 4) v = true) (hw : ws.set q0 (a, .inr (0, fs.set 4 v)) = ws') (hdg : decode cc pc = .ok (.putfield index, 3)) (kk : ∀ (H1 : Heap) (locs1 : List Loc), Wd G A s H1 locs1 ws' → W p l e R s m args below meth c H1 locs1 cells slots Q (F0 m (pc + 3) ls rest)) : W p l e R s m args below meth c H locs cells slots Q (F0 m pc ls (v :: .ref a :: rest)) := m_putF (k := 4) C0 h hini q0 tyX0 tyX0_ok nmX0 (rfl : vwCl[0]? = some (RX0, TX0, 9)) gd_X0 (by decide) hlink rfl rfl he hl hn hfit hw hdg kk
theorem g_X0_wide (C0 : Cx p s m args meth c own cc nL ret) (h : Wd G A s H locs ws) (q0 : Nat) (hlink : Cond.fieldLink own index "LeftTurns$City" "wide" "I" ∈ lw_gd) (he : ws[q0]? = some (a, .inr (0, fs))) (hv : fs[5]? = some v) (hdg : decode cc pc = .ok (.getfield index, 3)) (kk : W p l e R s m args below meth c H locs cells slots Q (F0 m (pc + 3) ls (v :: rest))) : W p l e R s m args below meth c H locs cells slots Q (F0 m pc ls (.ref a :: rest)) := m_get (k := 5) C0 h q0 he (rfl : vwCl[0]? = some (RX0, TX0, 9)) gd_X0 (by decide) hlink hv hdg kk
theorem p_X0_wide (C0 : Cx p s m args meth c own cc nL ret) (h : Wd G A s H locs ws) (q0 : Nat) (hlink : Cond.fieldLink own index "LeftTurns$City" "wide" "I" ∈ lw_gd) (he : ws[q0]? = some (a, .inr (0, fs))) (hl : 5 < fs.length) (hn : narrow (tyX0 5) v = v) (hfit : fits (tyX0 5) v = true) (hw : ws.set q0 (a, .inr (0, fs.set 5 v)) = ws') (hdg : decode cc pc = .ok (.putfield index, 3)) (kk : ∀ (H1 : Heap) (locs1 : List Loc), Wd G A s H1 locs1 ws' → W p l e R s m args below meth c H1 locs1 cells slots Q (F0 m (pc + 3) ls rest)) : W p l e R s m args below meth c H locs cells slots Q (F0 m pc ls (v :: .ref a :: rest)) := m_put (k := 5) C0 h q0 tyX0 tyX0_ok nmX0 (rfl : vwCl[0]? = some (RX0, TX0, 9)) gd_X0 (by decide) hlink rfl he hl hn hfit hw hdg kk
theorem g_X0_high (C0 : Cx p s m args meth c own cc nL ret) (h : Wd G A s H locs ws) (q0 : Nat) (hlink : Cond.fieldLink own index "LeftTurns$City" "high" "I" ∈ lw_gd) (he : ws[q0]? = some (a, .inr (0, fs))) (hv : fs[6]? = some v) (hdg : decode cc pc = .ok (.getfield index, 3)) (kk : W p l e R s m args below meth c H locs cells slots Q (F0 m (pc + 3) ls (v :: rest))) : W p l e R s m args below meth c H locs cells slots Q (F0 m pc ls (.ref a :: rest)) := m_get (k := 6) C0 h q0 he (rfl : vwCl[0]? = some (RX0, TX0, 9)) gd_X0 (by decide) hlink hv hdg kk
theorem p_X0_high (C0 : Cx p s m args meth c own cc nL ret) (h : Wd G A s H locs ws) (q0 : Nat) (hlink : Cond.fieldLink own index "LeftTurns$City" "high" "I" ∈ lw_gd) (he : ws[q0]? = some (a, .inr (0, fs))) (hl : 6 < fs.length) (hn : narrow (tyX0 6) v = v) (hfit : fits (tyX0 6) v = true) (hw : ws.set q0 (a, .inr (0, fs.set 6 v)) = ws') (hdg : decode cc pc = .ok (.putfield index, 3)) (kk : ∀ (H1 : Heap) (locs1 : List Loc), Wd G A s H1 locs1 ws' → W p l e R s m args below meth c H1 locs1 cells slots Q (F0 m (pc + 3) ls rest)) : W p l e R s m args below meth c H locs cells slots Q (F0 m pc ls (v :: .ref a :: rest)) := m_put (k := 6) C0 h q0 tyX0 tyX0_ok nmX0 (rfl : vwCl[0]? = some (RX0, TX0, 9)) gd_X0 (by decide) hlink rfl he hl hn hfit hw hdg kk
theorem g_X0_lines (C0 : Cx p s m args meth c own cc nL ret) (h : Wd G A s H locs ws) (q0 : Nat) (hlink : Cond.fieldLink own index "LeftTurns$City" "lines" "I" ∈ lw_gd) (he : ws[q0]? = some (a, .inr (0, fs))) (hv : fs[7]? = some v) (hdg : decode cc pc = .ok (.getfield index, 3)) (kk : W p l e R s m args below meth c H locs cells slots Q (F0 m (pc + 3) ls (v :: rest))) : W p l e R s m args below meth c H locs cells slots Q (F0 m pc ls (.ref a :: rest)) := m_get (k := 7) C0 h q0 he (rfl : vwCl[0]? = some (RX0, TX0, 9)) gd_X0 (by decide) hlink hv hdg kk
theorem p_X0_lines (C0 : Cx p s m args meth c own cc nL ret) (h : Wd G A s H locs ws) (q0 : Nat) (hlink : Cond.fieldLink own index "LeftTurns$City" "lines" "I" ∈ lw_gd) (he : ws[q0]? = some (a, .inr (0, fs))) (hl : 7 < fs.length) (hn : narrow (tyX0 7) v = v) (hfit : fits (tyX0 7) v = true) (hw : ws.set q0 (a, .inr (0, fs.set 7 v)) = ws') (hdg : decode cc pc = .ok (.putfield index, 3)) (kk : ∀ (H1 : Heap) (locs1 : List Loc), Wd G A s H1 locs1 ws' → W p l e R s m args below meth c H1 locs1 cells slots Q (F0 m (pc + 3) ls rest)) : W p l e R s m args below meth c H locs cells slots Q (F0 m pc ls (v :: .ref a :: rest)) := m_put (k := 7) C0 h q0 tyX0 tyX0_ok nmX0 (rfl : vwCl[0]? = some (RX0, TX0, 9)) gd_X0 (by decide) hlink rfl he hl hn hfit hw hdg kk
theorem g_X0_toldFree (C0 : Cx p s m args meth c own cc nL ret) (h : Wd G A s H locs ws) (q0 : Nat) (hlink : Cond.fieldLink own index "LeftTurns$City" "toldFree" "I" ∈ lw_gd) (he : ws[q0]? = some (a, .inr (0, fs))) (hv : fs[8]? = some v) (hdg : decode cc pc = .ok (.getfield index, 3)) (kk : W p l e R s m args below meth c H locs cells slots Q (F0 m (pc + 3) ls (v :: rest))) : W p l e R s m args below meth c H locs cells slots Q (F0 m pc ls (.ref a :: rest)) := m_get (k := 8) C0 h q0 he (rfl : vwCl[0]? = some (RX0, TX0, 9)) gd_X0 (by decide) hlink hv hdg kk
theorem p_X0_toldFree (C0 : Cx p s m args meth c own cc nL ret) (h : Wd G A s H locs ws) (q0 : Nat) (hlink : Cond.fieldLink own index "LeftTurns$City" "toldFree" "I" ∈ lw_gd) (he : ws[q0]? = some (a, .inr (0, fs))) (hl : 8 < fs.length) (hn : narrow (tyX0 8) v = v) (hfit : fits (tyX0 8) v = true) (hw : ws.set q0 (a, .inr (0, fs.set 8 v)) = ws') (hdg : decode cc pc = .ok (.putfield index, 3)) (kk : ∀ (H1 : Heap) (locs1 : List Loc), Wd G A s H1 locs1 ws' → W p l e R s m args below meth c H1 locs1 cells slots Q (F0 m (pc + 3) ls rest)) : W p l e R s m args below meth c H locs cells slots Q (F0 m pc ls (v :: .ref a :: rest)) := m_put (k := 8) C0 h q0 tyX0 tyX0_ok nmX0 (rfl : vwCl[0]? = some (RX0, TX0, 9)) gd_X0 (by decide) hlink rfl he hl hn hfit hw hdg kk
theorem gd_X1 : ∀ w ∈ u_ws RX1 TX1 9, w ∈ lw_gd := gd_us (fun k hk => match k, hk with | 0, _ => q_223 | 1, _ => q_225 | 2, _ => q_227 | 3, _ => q_229 | 4, _ => q_231 | 5, _ => q_233 | 6, _ => q_235 | 7, _ => q_237 | 8, _ => q_239 | k + 9, hk => absurd hk (by omega))
theorem g_X1_at (C0 : Cx p s m args meth c own cc nL ret) (h : Wd G A s H locs ws) (q0 : Nat) (hlink : Cond.fieldLink own index "LeftTurns$Folk" "at" "[I" ∈ lw_gd) (he : ws[q0]? = some (a, .inr (1, fs))) (hv : fs[0]? = some v) (hdg : decode cc pc = .ok (.getfield index, 3)) (kk : W p l e R s m args below meth c H locs cells slots Q (F0 m (pc + 3) ls (v :: rest))) : W p l e R s m args below meth c H locs cells slots Q (F0 m pc ls (.ref a :: rest)) := m_get (k := 0) C0 h q0 he (rfl : vwCl[1]? = some (RX1, TX1, 9)) gd_X1 (by decide) hlink hv hdg kk
theorem f_X1_at (C0 : Cx p s m args meth c RX1 cc nL ret) (h : Wd G A s H locs ws) (hini : meth.name = "<init>") (q0 : Nat) (hlink : Cond.fieldLink RX1 index "LeftTurns$Folk" "at" "[I" ∈ lw_gd) (he : ws[q0]? = some (a, .inr (1, fs))) (hl : 0 < fs.length) (hn : narrow (tyX1 0) v = v) (hfit : fits (tyX1 0) v = true) (hw : ws.set q0 (a, .inr (1, fs.set 0 v)) = ws') (hdg : decode cc pc = .ok (.putfield index, 3)) (kk : ∀ (H1 : Heap) (locs1 : List Loc), Wd G A s H1 locs1 ws' → W p l e R s m args below meth c H1 locs1 cells slots Q (F0 m (pc + 3) ls rest)) : W p l e R s m args below meth c H locs cells slots Q (F0 m pc ls (v :: .ref a :: rest)) := m_putF (k := 0) C0 h hini q0 tyX1 tyX1_ok nmX1 (rfl : vwCl[1]? = some (RX1, TX1, 9)) gd_X1 (by decide) hlink rfl rfl he hl hn hfit hw hdg kk
theorem g_X1_heads (C0 : Cx p s m args meth c own cc nL ret) (h : Wd G A s H locs ws) (q0 : Nat) (hlink : Cond.fieldLink own index "LeftTurns$Folk" "heads" "[I" ∈ lw_gd) (he : ws[q0]? = some (a, .inr (1, fs))) (hv : fs[1]? = some v) (hdg : decode cc pc = .ok (.getfield index, 3)) (kk : W p l e R s m args below meth c H locs cells slots Q (F0 m (pc + 3) ls (v :: rest))) : W p l e R s m args below meth c H locs cells slots Q (F0 m pc ls (.ref a :: rest)) := m_get (k := 1) C0 h q0 he (rfl : vwCl[1]? = some (RX1, TX1, 9)) gd_X1 (by decide) hlink hv hdg kk
theorem f_X1_heads (C0 : Cx p s m args meth c RX1 cc nL ret) (h : Wd G A s H locs ws) (hini : meth.name = "<init>") (q0 : Nat) (hlink : Cond.fieldLink RX1 index "LeftTurns$Folk" "heads" "[I" ∈ lw_gd) (he : ws[q0]? = some (a, .inr (1, fs))) (hl : 1 < fs.length) (hn : narrow (tyX1 1) v = v) (hfit : fits (tyX1 1) v = true) (hw : ws.set q0 (a, .inr (1, fs.set 1 v)) = ws') (hdg : decode cc pc = .ok (.putfield index, 3)) (kk : ∀ (H1 : Heap) (locs1 : List Loc), Wd G A s H1 locs1 ws' → W p l e R s m args below meth c H1 locs1 cells slots Q (F0 m (pc + 3) ls rest)) : W p l e R s m args below meth c H locs cells slots Q (F0 m pc ls (v :: .ref a :: rest)) := m_putF (k := 1) C0 h hini q0 tyX1 tyX1_ok nmX1 (rfl : vwCl[1]? = some (RX1, TX1, 9)) gd_X1 (by decide) hlink rfl rfl he hl hn hfit hw hdg kk
theorem g_X1_lefts (C0 : Cx p s m args meth c own cc nL ret) (h : Wd G A s H locs ws) (q0 : Nat) (hlink : Cond.fieldLink own index "LeftTurns$Folk" "lefts" "[I" ∈ lw_gd) (he : ws[q0]? = some (a, .inr (1, fs))) (hv : fs[2]? = some v) (hdg : decode cc pc = .ok (.getfield index, 3)) (kk : W p l e R s m args below meth c H locs cells slots Q (F0 m (pc + 3) ls (v :: rest))) : W p l e R s m args below meth c H locs cells slots Q (F0 m pc ls (.ref a :: rest)) := m_get (k := 2) C0 h q0 he (rfl : vwCl[1]? = some (RX1, TX1, 9)) gd_X1 (by decide) hlink hv hdg kk
theorem f_X1_lefts (C0 : Cx p s m args meth c RX1 cc nL ret) (h : Wd G A s H locs ws) (hini : meth.name = "<init>") (q0 : Nat) (hlink : Cond.fieldLink RX1 index "LeftTurns$Folk" "lefts" "[I" ∈ lw_gd) (he : ws[q0]? = some (a, .inr (1, fs))) (hl : 2 < fs.length) (hn : narrow (tyX1 2) v = v) (hfit : fits (tyX1 2) v = true) (hw : ws.set q0 (a, .inr (1, fs.set 2 v)) = ws') (hdg : decode cc pc = .ok (.putfield index, 3)) (kk : ∀ (H1 : Heap) (locs1 : List Loc), Wd G A s H1 locs1 ws' → W p l e R s m args below meth c H1 locs1 cells slots Q (F0 m (pc + 3) ls rest)) : W p l e R s m args below meth c H locs cells slots Q (F0 m pc ls (v :: .ref a :: rest)) := m_putF (k := 2) C0 h hini q0 tyX1 tyX1_ok nmX1 (rfl : vwCl[1]? = some (RX1, TX1, 9)) gd_X1 (by decide) hlink rfl rfl he hl hn hfit hw hdg kk
theorem g_X1_coins (C0 : Cx p s m args meth c own cc nL ret) (h : Wd G A s H locs ws) (q0 : Nat) (hlink : Cond.fieldLink own index "LeftTurns$Folk" "coins" "[I" ∈ lw_gd) (he : ws[q0]? = some (a, .inr (1, fs))) (hv : fs[3]? = some v) (hdg : decode cc pc = .ok (.getfield index, 3)) (kk : W p l e R s m args below meth c H locs cells slots Q (F0 m (pc + 3) ls (v :: rest))) : W p l e R s m args below meth c H locs cells slots Q (F0 m pc ls (.ref a :: rest)) := m_get (k := 3) C0 h q0 he (rfl : vwCl[1]? = some (RX1, TX1, 9)) gd_X1 (by decide) hlink hv hdg kk
theorem f_X1_coins (C0 : Cx p s m args meth c RX1 cc nL ret) (h : Wd G A s H locs ws) (hini : meth.name = "<init>") (q0 : Nat) (hlink : Cond.fieldLink RX1 index "LeftTurns$Folk" "coins" "[I" ∈ lw_gd) (he : ws[q0]? = some (a, .inr (1, fs))) (hl : 3 < fs.length) (hn : narrow (tyX1 3) v = v) (hfit : fits (tyX1 3) v = true) (hw : ws.set q0 (a, .inr (1, fs.set 3 v)) = ws') (hdg : decode cc pc = .ok (.putfield index, 3)) (kk : ∀ (H1 : Heap) (locs1 : List Loc), Wd G A s H1 locs1 ws' → W p l e R s m args below meth c H1 locs1 cells slots Q (F0 m (pc + 3) ls rest)) : W p l e R s m args below meth c H locs cells slots Q (F0 m pc ls (v :: .ref a :: rest)) := m_putF (k := 3) C0 h hini q0 tyX1 tyX1_ok nmX1 (rfl : vwCl[1]? = some (RX1, TX1, 9)) gd_X1 (by decide) hlink rfl rfl he hl hn hfit hw hdg kk
theorem g_X1_used (C0 : Cx p s m args meth c own cc nL ret) (h : Wd G A s H locs ws) (q0 : Nat) (hlink : Cond.fieldLink own index "LeftTurns$Folk" "used" "[I" ∈ lw_gd) (he : ws[q0]? = some (a, .inr (1, fs))) (hv : fs[4]? = some v) (hdg : decode cc pc = .ok (.getfield index, 3)) (kk : W p l e R s m args below meth c H locs cells slots Q (F0 m (pc + 3) ls (v :: rest))) : W p l e R s m args below meth c H locs cells slots Q (F0 m pc ls (.ref a :: rest)) := m_get (k := 4) C0 h q0 he (rfl : vwCl[1]? = some (RX1, TX1, 9)) gd_X1 (by decide) hlink hv hdg kk
theorem f_X1_used (C0 : Cx p s m args meth c RX1 cc nL ret) (h : Wd G A s H locs ws) (hini : meth.name = "<init>") (q0 : Nat) (hlink : Cond.fieldLink RX1 index "LeftTurns$Folk" "used" "[I" ∈ lw_gd) (he : ws[q0]? = some (a, .inr (1, fs))) (hl : 4 < fs.length) (hn : narrow (tyX1 4) v = v) (hfit : fits (tyX1 4) v = true) (hw : ws.set q0 (a, .inr (1, fs.set 4 v)) = ws') (hdg : decode cc pc = .ok (.putfield index, 3)) (kk : ∀ (H1 : Heap) (locs1 : List Loc), Wd G A s H1 locs1 ws' → W p l e R s m args below meth c H1 locs1 cells slots Q (F0 m (pc + 3) ls rest)) : W p l e R s m args below meth c H locs cells slots Q (F0 m pc ls (v :: .ref a :: rest)) := m_putF (k := 4) C0 h hini q0 tyX1 tyX1_ok nmX1 (rfl : vwCl[1]? = some (RX1, TX1, 9)) gd_X1 (by decide) hlink rfl rfl he hl hn hfit hw hdg kk
theorem g_X1_sold (C0 : Cx p s m args meth c own cc nL ret) (h : Wd G A s H locs ws) (q0 : Nat) (hlink : Cond.fieldLink own index "LeftTurns$Folk" "sold" "[I" ∈ lw_gd) (he : ws[q0]? = some (a, .inr (1, fs))) (hv : fs[5]? = some v) (hdg : decode cc pc = .ok (.getfield index, 3)) (kk : W p l e R s m args below meth c H locs cells slots Q (F0 m (pc + 3) ls (v :: rest))) : W p l e R s m args below meth c H locs cells slots Q (F0 m pc ls (.ref a :: rest)) := m_get (k := 5) C0 h q0 he (rfl : vwCl[1]? = some (RX1, TX1, 9)) gd_X1 (by decide) hlink hv hdg kk
theorem f_X1_sold (C0 : Cx p s m args meth c RX1 cc nL ret) (h : Wd G A s H locs ws) (hini : meth.name = "<init>") (q0 : Nat) (hlink : Cond.fieldLink RX1 index "LeftTurns$Folk" "sold" "[I" ∈ lw_gd) (he : ws[q0]? = some (a, .inr (1, fs))) (hl : 5 < fs.length) (hn : narrow (tyX1 5) v = v) (hfit : fits (tyX1 5) v = true) (hw : ws.set q0 (a, .inr (1, fs.set 5 v)) = ws') (hdg : decode cc pc = .ok (.putfield index, 3)) (kk : ∀ (H1 : Heap) (locs1 : List Loc), Wd G A s H1 locs1 ws' → W p l e R s m args below meth c H1 locs1 cells slots Q (F0 m (pc + 3) ls rest)) : W p l e R s m args below meth c H locs cells slots Q (F0 m pc ls (v :: .ref a :: rest)) := m_putF (k := 5) C0 h hini q0 tyX1 tyX1_ok nmX1 (rfl : vwCl[1]? = some (RX1, TX1, 9)) gd_X1 (by decide) hlink rfl rfl he hl hn hfit hw hdg kk
theorem g_X1_fogEnds (C0 : Cx p s m args meth c own cc nL ret) (h : Wd G A s H locs ws) (q0 : Nat) (hlink : Cond.fieldLink own index "LeftTurns$Folk" "fogEnds" "[I" ∈ lw_gd) (he : ws[q0]? = some (a, .inr (1, fs))) (hv : fs[6]? = some v) (hdg : decode cc pc = .ok (.getfield index, 3)) (kk : W p l e R s m args below meth c H locs cells slots Q (F0 m (pc + 3) ls (v :: rest))) : W p l e R s m args below meth c H locs cells slots Q (F0 m pc ls (.ref a :: rest)) := m_get (k := 6) C0 h q0 he (rfl : vwCl[1]? = some (RX1, TX1, 9)) gd_X1 (by decide) hlink hv hdg kk
theorem f_X1_fogEnds (C0 : Cx p s m args meth c RX1 cc nL ret) (h : Wd G A s H locs ws) (hini : meth.name = "<init>") (q0 : Nat) (hlink : Cond.fieldLink RX1 index "LeftTurns$Folk" "fogEnds" "[I" ∈ lw_gd) (he : ws[q0]? = some (a, .inr (1, fs))) (hl : 6 < fs.length) (hn : narrow (tyX1 6) v = v) (hfit : fits (tyX1 6) v = true) (hw : ws.set q0 (a, .inr (1, fs.set 6 v)) = ws') (hdg : decode cc pc = .ok (.putfield index, 3)) (kk : ∀ (H1 : Heap) (locs1 : List Loc), Wd G A s H1 locs1 ws' → W p l e R s m args below meth c H1 locs1 cells slots Q (F0 m (pc + 3) ls rest)) : W p l e R s m args below meth c H locs cells slots Q (F0 m pc ls (v :: .ref a :: rest)) := m_putF (k := 6) C0 h hini q0 tyX1 tyX1_ok nmX1 (rfl : vwCl[1]? = some (RX1, TX1, 9)) gd_X1 (by decide) hlink rfl rfl he hl hn hfit hw hdg kk
theorem g_X1_people (C0 : Cx p s m args meth c own cc nL ret) (h : Wd G A s H locs ws) (q0 : Nat) (hlink : Cond.fieldLink own index "LeftTurns$Folk" "people" "I" ∈ lw_gd) (he : ws[q0]? = some (a, .inr (1, fs))) (hv : fs[7]? = some v) (hdg : decode cc pc = .ok (.getfield index, 3)) (kk : W p l e R s m args below meth c H locs cells slots Q (F0 m (pc + 3) ls (v :: rest))) : W p l e R s m args below meth c H locs cells slots Q (F0 m pc ls (.ref a :: rest)) := m_get (k := 7) C0 h q0 he (rfl : vwCl[1]? = some (RX1, TX1, 9)) gd_X1 (by decide) hlink hv hdg kk
theorem p_X1_people (C0 : Cx p s m args meth c own cc nL ret) (h : Wd G A s H locs ws) (q0 : Nat) (hlink : Cond.fieldLink own index "LeftTurns$Folk" "people" "I" ∈ lw_gd) (he : ws[q0]? = some (a, .inr (1, fs))) (hl : 7 < fs.length) (hn : narrow (tyX1 7) v = v) (hfit : fits (tyX1 7) v = true) (hw : ws.set q0 (a, .inr (1, fs.set 7 v)) = ws') (hdg : decode cc pc = .ok (.putfield index, 3)) (kk : ∀ (H1 : Heap) (locs1 : List Loc), Wd G A s H1 locs1 ws' → W p l e R s m args below meth c H1 locs1 cells slots Q (F0 m (pc + 3) ls rest)) : W p l e R s m args below meth c H locs cells slots Q (F0 m pc ls (v :: .ref a :: rest)) := m_put (k := 7) C0 h q0 tyX1 tyX1_ok nmX1 (rfl : vwCl[1]? = some (RX1, TX1, 9)) gd_X1 (by decide) hlink rfl he hl hn hfit hw hdg kk
theorem g_X1_hours (C0 : Cx p s m args meth c own cc nL ret) (h : Wd G A s H locs ws) (q0 : Nat) (hlink : Cond.fieldLink own index "LeftTurns$Folk" "hours" "I" ∈ lw_gd) (he : ws[q0]? = some (a, .inr (1, fs))) (hv : fs[8]? = some v) (hdg : decode cc pc = .ok (.getfield index, 3)) (kk : W p l e R s m args below meth c H locs cells slots Q (F0 m (pc + 3) ls (v :: rest))) : W p l e R s m args below meth c H locs cells slots Q (F0 m pc ls (.ref a :: rest)) := m_get (k := 8) C0 h q0 he (rfl : vwCl[1]? = some (RX1, TX1, 9)) gd_X1 (by decide) hlink hv hdg kk
theorem p_X1_hours (C0 : Cx p s m args meth c own cc nL ret) (h : Wd G A s H locs ws) (q0 : Nat) (hlink : Cond.fieldLink own index "LeftTurns$Folk" "hours" "I" ∈ lw_gd) (he : ws[q0]? = some (a, .inr (1, fs))) (hl : 8 < fs.length) (hn : narrow (tyX1 8) v = v) (hfit : fits (tyX1 8) v = true) (hw : ws.set q0 (a, .inr (1, fs.set 8 v)) = ws') (hdg : decode cc pc = .ok (.putfield index, 3)) (kk : ∀ (H1 : Heap) (locs1 : List Loc), Wd G A s H1 locs1 ws' → W p l e R s m args below meth c H1 locs1 cells slots Q (F0 m (pc + 3) ls rest)) : W p l e R s m args below meth c H locs cells slots Q (F0 m pc ls (v :: .ref a :: rest)) := m_put (k := 8) C0 h q0 tyX1 tyX1_ok nmX1 (rfl : vwCl[1]? = some (RX1, TX1, 9)) gd_X1 (by decide) hlink rfl he hl hn hfit hw hdg kk
theorem gd_X2 : ∀ w ∈ u_ws RX2 TX2 5, w ∈ lw_gd := gd_us (fun k hk => match k, hk with | 0, _ => q_297 | 1, _ => q_299 | 2, _ => q_301 | 3, _ => q_303 | 4, _ => q_305 | k + 5, hk => absurd hk (by omega))
theorem g_X2_city (C0 : Cx p s m args meth c own cc nL ret) (h : Wd G A s H locs ws) (q0 : Nat) (hlink : Cond.fieldLink own index "LeftTurns$Forecast" "city" "LLeftTurns$City;" ∈ lw_gd) (he : ws[q0]? = some (a, .inr (2, fs))) (hv : fs[0]? = some v) (hdg : decode cc pc = .ok (.getfield index, 3)) (kk : W p l e R s m args below meth c H locs cells slots Q (F0 m (pc + 3) ls (v :: rest))) : W p l e R s m args below meth c H locs cells slots Q (F0 m pc ls (.ref a :: rest)) := m_get (k := 0) C0 h q0 he (rfl : vwCl[2]? = some (RX2, TX2, 5)) gd_X2 (by decide) hlink hv hdg kk
theorem f_X2_city (C0 : Cx p s m args meth c RX2 cc nL ret) (h : Wd G A s H locs ws) (hini : meth.name = "<init>") (q0 : Nat) (hlink : Cond.fieldLink RX2 index "LeftTurns$Forecast" "city" "LLeftTurns$City;" ∈ lw_gd) (he : ws[q0]? = some (a, .inr (2, fs))) (hl : 0 < fs.length) (hn : narrow (tyX2 0) v = v) (hfit : fits (tyX2 0) v = true) (hw : ws.set q0 (a, .inr (2, fs.set 0 v)) = ws') (hdg : decode cc pc = .ok (.putfield index, 3)) (kk : ∀ (H1 : Heap) (locs1 : List Loc), Wd G A s H1 locs1 ws' → W p l e R s m args below meth c H1 locs1 cells slots Q (F0 m (pc + 3) ls rest)) : W p l e R s m args below meth c H locs cells slots Q (F0 m pc ls (v :: .ref a :: rest)) := m_putF (k := 0) C0 h hini q0 tyX2 tyX2_ok nmX2 (rfl : vwCl[2]? = some (RX2, TX2, 5)) gd_X2 (by decide) hlink rfl rfl he hl hn hfit hw hdg kk
theorem g_X2_free (C0 : Cx p s m args meth c own cc nL ret) (h : Wd G A s H locs ws) (q0 : Nat) (hlink : Cond.fieldLink own index "LeftTurns$Forecast" "free" "[I" ∈ lw_gd) (he : ws[q0]? = some (a, .inr (2, fs))) (hv : fs[1]? = some v) (hdg : decode cc pc = .ok (.getfield index, 3)) (kk : W p l e R s m args below meth c H locs cells slots Q (F0 m (pc + 3) ls (v :: rest))) : W p l e R s m args below meth c H locs cells slots Q (F0 m pc ls (.ref a :: rest)) := m_get (k := 1) C0 h q0 he (rfl : vwCl[2]? = some (RX2, TX2, 5)) gd_X2 (by decide) hlink hv hdg kk
theorem f_X2_free (C0 : Cx p s m args meth c RX2 cc nL ret) (h : Wd G A s H locs ws) (hini : meth.name = "<init>") (q0 : Nat) (hlink : Cond.fieldLink RX2 index "LeftTurns$Forecast" "free" "[I" ∈ lw_gd) (he : ws[q0]? = some (a, .inr (2, fs))) (hl : 1 < fs.length) (hn : narrow (tyX2 1) v = v) (hfit : fits (tyX2 1) v = true) (hw : ws.set q0 (a, .inr (2, fs.set 1 v)) = ws') (hdg : decode cc pc = .ok (.putfield index, 3)) (kk : ∀ (H1 : Heap) (locs1 : List Loc), Wd G A s H1 locs1 ws' → W p l e R s m args below meth c H1 locs1 cells slots Q (F0 m (pc + 3) ls rest)) : W p l e R s m args below meth c H locs cells slots Q (F0 m pc ls (v :: .ref a :: rest)) := m_putF (k := 1) C0 h hini q0 tyX2 tyX2_ok nmX2 (rfl : vwCl[2]? = some (RX2, TX2, 5)) gd_X2 (by decide) hlink rfl rfl he hl hn hfit hw hdg kk
theorem g_X2_asked (C0 : Cx p s m args meth c own cc nL ret) (h : Wd G A s H locs ws) (q0 : Nat) (hlink : Cond.fieldLink own index "LeftTurns$Forecast" "asked" "[I" ∈ lw_gd) (he : ws[q0]? = some (a, .inr (2, fs))) (hv : fs[2]? = some v) (hdg : decode cc pc = .ok (.getfield index, 3)) (kk : W p l e R s m args below meth c H locs cells slots Q (F0 m (pc + 3) ls (v :: rest))) : W p l e R s m args below meth c H locs cells slots Q (F0 m pc ls (.ref a :: rest)) := m_get (k := 2) C0 h q0 he (rfl : vwCl[2]? = some (RX2, TX2, 5)) gd_X2 (by decide) hlink hv hdg kk
theorem f_X2_asked (C0 : Cx p s m args meth c RX2 cc nL ret) (h : Wd G A s H locs ws) (hini : meth.name = "<init>") (q0 : Nat) (hlink : Cond.fieldLink RX2 index "LeftTurns$Forecast" "asked" "[I" ∈ lw_gd) (he : ws[q0]? = some (a, .inr (2, fs))) (hl : 2 < fs.length) (hn : narrow (tyX2 2) v = v) (hfit : fits (tyX2 2) v = true) (hw : ws.set q0 (a, .inr (2, fs.set 2 v)) = ws') (hdg : decode cc pc = .ok (.putfield index, 3)) (kk : ∀ (H1 : Heap) (locs1 : List Loc), Wd G A s H1 locs1 ws' → W p l e R s m args below meth c H1 locs1 cells slots Q (F0 m (pc + 3) ls rest)) : W p l e R s m args below meth c H locs cells slots Q (F0 m pc ls (v :: .ref a :: rest)) := m_putF (k := 2) C0 h hini q0 tyX2 tyX2_ok nmX2 (rfl : vwCl[2]? = some (RX2, TX2, 5)) gd_X2 (by decide) hlink rfl rfl he hl hn hfit hw hdg kk
theorem g_X2_allowed (C0 : Cx p s m args meth c own cc nL ret) (h : Wd G A s H locs ws) (q0 : Nat) (hlink : Cond.fieldLink own index "LeftTurns$Forecast" "allowed" "[I" ∈ lw_gd) (he : ws[q0]? = some (a, .inr (2, fs))) (hv : fs[3]? = some v) (hdg : decode cc pc = .ok (.getfield index, 3)) (kk : W p l e R s m args below meth c H locs cells slots Q (F0 m (pc + 3) ls (v :: rest))) : W p l e R s m args below meth c H locs cells slots Q (F0 m pc ls (.ref a :: rest)) := m_get (k := 3) C0 h q0 he (rfl : vwCl[2]? = some (RX2, TX2, 5)) gd_X2 (by decide) hlink hv hdg kk
theorem f_X2_allowed (C0 : Cx p s m args meth c RX2 cc nL ret) (h : Wd G A s H locs ws) (hini : meth.name = "<init>") (q0 : Nat) (hlink : Cond.fieldLink RX2 index "LeftTurns$Forecast" "allowed" "[I" ∈ lw_gd) (he : ws[q0]? = some (a, .inr (2, fs))) (hl : 3 < fs.length) (hn : narrow (tyX2 3) v = v) (hfit : fits (tyX2 3) v = true) (hw : ws.set q0 (a, .inr (2, fs.set 3 v)) = ws') (hdg : decode cc pc = .ok (.putfield index, 3)) (kk : ∀ (H1 : Heap) (locs1 : List Loc), Wd G A s H1 locs1 ws' → W p l e R s m args below meth c H1 locs1 cells slots Q (F0 m (pc + 3) ls rest)) : W p l e R s m args below meth c H locs cells slots Q (F0 m pc ls (v :: .ref a :: rest)) := m_putF (k := 3) C0 h hini q0 tyX2 tyX2_ok nmX2 (rfl : vwCl[2]? = some (RX2, TX2, 5)) gd_X2 (by decide) hlink rfl rfl he hl hn hfit hw hdg kk
theorem g_X2_begun (C0 : Cx p s m args meth c own cc nL ret) (h : Wd G A s H locs ws) (q0 : Nat) (hlink : Cond.fieldLink own index "LeftTurns$Forecast" "begun" "I" ∈ lw_gd) (he : ws[q0]? = some (a, .inr (2, fs))) (hv : fs[4]? = some v) (hdg : decode cc pc = .ok (.getfield index, 3)) (kk : W p l e R s m args below meth c H locs cells slots Q (F0 m (pc + 3) ls (v :: rest))) : W p l e R s m args below meth c H locs cells slots Q (F0 m pc ls (.ref a :: rest)) := m_get (k := 4) C0 h q0 he (rfl : vwCl[2]? = some (RX2, TX2, 5)) gd_X2 (by decide) hlink hv hdg kk
theorem p_X2_begun (C0 : Cx p s m args meth c own cc nL ret) (h : Wd G A s H locs ws) (q0 : Nat) (hlink : Cond.fieldLink own index "LeftTurns$Forecast" "begun" "I" ∈ lw_gd) (he : ws[q0]? = some (a, .inr (2, fs))) (hl : 4 < fs.length) (hn : narrow (tyX2 4) v = v) (hfit : fits (tyX2 4) v = true) (hw : ws.set q0 (a, .inr (2, fs.set 4 v)) = ws') (hdg : decode cc pc = .ok (.putfield index, 3)) (kk : ∀ (H1 : Heap) (locs1 : List Loc), Wd G A s H1 locs1 ws' → W p l e R s m args below meth c H1 locs1 cells slots Q (F0 m (pc + 3) ls rest)) : W p l e R s m args below meth c H locs cells slots Q (F0 m pc ls (v :: .ref a :: rest)) := m_put (k := 4) C0 h q0 tyX2 tyX2_ok nmX2 (rfl : vwCl[2]? = some (RX2, TX2, 5)) gd_X2 (by decide) hlink rfl he hl hn hfit hw hdg kk
theorem gd_X3 : ∀ w ∈ u_ws RX3 TX3 5, w ∈ lw_gd := gd_us (fun k hk => match k, hk with | 0, _ => q_480 | 1, _ => q_482 | 2, _ => q_484 | 3, _ => q_486 | 4, _ => q_488 | k + 5, hk => absurd hk (by omega))
theorem g_X3_city (C0 : Cx p s m args meth c own cc nL ret) (h : Wd G A s H locs ws) (q0 : Nat) (hlink : Cond.fieldLink own index "LeftTurns$Hunt" "city" "LLeftTurns$City;" ∈ lw_gd) (he : ws[q0]? = some (a, .inr (3, fs))) (hv : fs[0]? = some v) (hdg : decode cc pc = .ok (.getfield index, 3)) (kk : W p l e R s m args below meth c H locs cells slots Q (F0 m (pc + 3) ls (v :: rest))) : W p l e R s m args below meth c H locs cells slots Q (F0 m pc ls (.ref a :: rest)) := m_get (k := 0) C0 h q0 he (rfl : vwCl[3]? = some (RX3, TX3, 5)) gd_X3 (by decide) hlink hv hdg kk
theorem f_X3_city (C0 : Cx p s m args meth c RX3 cc nL ret) (h : Wd G A s H locs ws) (hini : meth.name = "<init>") (q0 : Nat) (hlink : Cond.fieldLink RX3 index "LeftTurns$Hunt" "city" "LLeftTurns$City;" ∈ lw_gd) (he : ws[q0]? = some (a, .inr (3, fs))) (hl : 0 < fs.length) (hn : narrow (tyX3 0) v = v) (hfit : fits (tyX3 0) v = true) (hw : ws.set q0 (a, .inr (3, fs.set 0 v)) = ws') (hdg : decode cc pc = .ok (.putfield index, 3)) (kk : ∀ (H1 : Heap) (locs1 : List Loc), Wd G A s H1 locs1 ws' → W p l e R s m args below meth c H1 locs1 cells slots Q (F0 m (pc + 3) ls rest)) : W p l e R s m args below meth c H locs cells slots Q (F0 m pc ls (v :: .ref a :: rest)) := m_putF (k := 0) C0 h hini q0 tyX3 tyX3_ok nmX3 (rfl : vwCl[3]? = some (RX3, TX3, 5)) gd_X3 (by decide) hlink rfl rfl he hl hn hfit hw hdg kk
theorem g_X3_catching (C0 : Cx p s m args meth c own cc nL ret) (h : Wd G A s H locs ws) (q0 : Nat) (hlink : Cond.fieldLink own index "LeftTurns$Hunt" "catching" "[I" ∈ lw_gd) (he : ws[q0]? = some (a, .inr (3, fs))) (hv : fs[1]? = some v) (hdg : decode cc pc = .ok (.getfield index, 3)) (kk : W p l e R s m args below meth c H locs cells slots Q (F0 m (pc + 3) ls (v :: rest))) : W p l e R s m args below meth c H locs cells slots Q (F0 m pc ls (.ref a :: rest)) := m_get (k := 1) C0 h q0 he (rfl : vwCl[3]? = some (RX3, TX3, 5)) gd_X3 (by decide) hlink hv hdg kk
theorem f_X3_catching (C0 : Cx p s m args meth c RX3 cc nL ret) (h : Wd G A s H locs ws) (hini : meth.name = "<init>") (q0 : Nat) (hlink : Cond.fieldLink RX3 index "LeftTurns$Hunt" "catching" "[I" ∈ lw_gd) (he : ws[q0]? = some (a, .inr (3, fs))) (hl : 1 < fs.length) (hn : narrow (tyX3 1) v = v) (hfit : fits (tyX3 1) v = true) (hw : ws.set q0 (a, .inr (3, fs.set 1 v)) = ws') (hdg : decode cc pc = .ok (.putfield index, 3)) (kk : ∀ (H1 : Heap) (locs1 : List Loc), Wd G A s H1 locs1 ws' → W p l e R s m args below meth c H1 locs1 cells slots Q (F0 m (pc + 3) ls rest)) : W p l e R s m args below meth c H locs cells slots Q (F0 m pc ls (v :: .ref a :: rest)) := m_putF (k := 1) C0 h hini q0 tyX3 tyX3_ok nmX3 (rfl : vwCl[3]? = some (RX3, TX3, 5)) gd_X3 (by decide) hlink rfl rfl he hl hn hfit hw hdg kk
theorem g_X3_inTurn (C0 : Cx p s m args meth c own cc nL ret) (h : Wd G A s H locs ws) (q0 : Nat) (hlink : Cond.fieldLink own index "LeftTurns$Hunt" "inTurn" "[I" ∈ lw_gd) (he : ws[q0]? = some (a, .inr (3, fs))) (hv : fs[2]? = some v) (hdg : decode cc pc = .ok (.getfield index, 3)) (kk : W p l e R s m args below meth c H locs cells slots Q (F0 m (pc + 3) ls (v :: rest))) : W p l e R s m args below meth c H locs cells slots Q (F0 m pc ls (.ref a :: rest)) := m_get (k := 2) C0 h q0 he (rfl : vwCl[3]? = some (RX3, TX3, 5)) gd_X3 (by decide) hlink hv hdg kk
theorem f_X3_inTurn (C0 : Cx p s m args meth c RX3 cc nL ret) (h : Wd G A s H locs ws) (hini : meth.name = "<init>") (q0 : Nat) (hlink : Cond.fieldLink RX3 index "LeftTurns$Hunt" "inTurn" "[I" ∈ lw_gd) (he : ws[q0]? = some (a, .inr (3, fs))) (hl : 2 < fs.length) (hn : narrow (tyX3 2) v = v) (hfit : fits (tyX3 2) v = true) (hw : ws.set q0 (a, .inr (3, fs.set 2 v)) = ws') (hdg : decode cc pc = .ok (.putfield index, 3)) (kk : ∀ (H1 : Heap) (locs1 : List Loc), Wd G A s H1 locs1 ws' → W p l e R s m args below meth c H1 locs1 cells slots Q (F0 m (pc + 3) ls rest)) : W p l e R s m args below meth c H locs cells slots Q (F0 m pc ls (v :: .ref a :: rest)) := m_putF (k := 2) C0 h hini q0 tyX3 tyX3_ok nmX3 (rfl : vwCl[3]? = some (RX3, TX3, 5)) gd_X3 (by decide) hlink rfl rfl he hl hn hfit hw hdg kk
theorem g_X3_known (C0 : Cx p s m args meth c own cc nL ret) (h : Wd G A s H locs ws) (q0 : Nat) (hlink : Cond.fieldLink own index "LeftTurns$Hunt" "known" "I" ∈ lw_gd) (he : ws[q0]? = some (a, .inr (3, fs))) (hv : fs[3]? = some v) (hdg : decode cc pc = .ok (.getfield index, 3)) (kk : W p l e R s m args below meth c H locs cells slots Q (F0 m (pc + 3) ls (v :: rest))) : W p l e R s m args below meth c H locs cells slots Q (F0 m pc ls (.ref a :: rest)) := m_get (k := 3) C0 h q0 he (rfl : vwCl[3]? = some (RX3, TX3, 5)) gd_X3 (by decide) hlink hv hdg kk
theorem p_X3_known (C0 : Cx p s m args meth c own cc nL ret) (h : Wd G A s H locs ws) (q0 : Nat) (hlink : Cond.fieldLink own index "LeftTurns$Hunt" "known" "I" ∈ lw_gd) (he : ws[q0]? = some (a, .inr (3, fs))) (hl : 3 < fs.length) (hn : narrow (tyX3 3) v = v) (hfit : fits (tyX3 3) v = true) (hw : ws.set q0 (a, .inr (3, fs.set 3 v)) = ws') (hdg : decode cc pc = .ok (.putfield index, 3)) (kk : ∀ (H1 : Heap) (locs1 : List Loc), Wd G A s H1 locs1 ws' → W p l e R s m args below meth c H1 locs1 cells slots Q (F0 m (pc + 3) ls rest)) : W p l e R s m args below meth c H locs cells slots Q (F0 m pc ls (v :: .ref a :: rest)) := m_put (k := 3) C0 h q0 tyX3 tyX3_ok nmX3 (rfl : vwCl[3]? = some (RX3, TX3, 5)) gd_X3 (by decide) hlink rfl he hl hn hfit hw hdg kk
theorem g_X3_settled (C0 : Cx p s m args meth c own cc nL ret) (h : Wd G A s H locs ws) (q0 : Nat) (hlink : Cond.fieldLink own index "LeftTurns$Hunt" "settled" "Z" ∈ lw_gd) (he : ws[q0]? = some (a, .inr (3, fs))) (hv : fs[4]? = some v) (hdg : decode cc pc = .ok (.getfield index, 3)) (kk : W p l e R s m args below meth c H locs cells slots Q (F0 m (pc + 3) ls (v :: rest))) : W p l e R s m args below meth c H locs cells slots Q (F0 m pc ls (.ref a :: rest)) := m_get (k := 4) C0 h q0 he (rfl : vwCl[3]? = some (RX3, TX3, 5)) gd_X3 (by decide) hlink hv hdg kk
theorem p_X3_settled (C0 : Cx p s m args meth c own cc nL ret) (h : Wd G A s H locs ws) (q0 : Nat) (hlink : Cond.fieldLink own index "LeftTurns$Hunt" "settled" "Z" ∈ lw_gd) (he : ws[q0]? = some (a, .inr (3, fs))) (hl : 4 < fs.length) (hn : narrow (tyX3 4) v = v) (hfit : fits (tyX3 4) v = true) (hw : ws.set q0 (a, .inr (3, fs.set 4 v)) = ws') (hdg : decode cc pc = .ok (.putfield index, 3)) (kk : ∀ (H1 : Heap) (locs1 : List Loc), Wd G A s H1 locs1 ws' → W p l e R s m args below meth c H1 locs1 cells slots Q (F0 m (pc + 3) ls rest)) : W p l e R s m args below meth c H locs cells slots Q (F0 m pc ls (v :: .ref a :: rest)) := m_put (k := 4) C0 h q0 tyX3 tyX3_ok nmX3 (rfl : vwCl[3]? = some (RX3, TX3, 5)) gd_X3 (by decide) hlink rfl he hl hn hfit hw hdg kk
theorem gd_X4 : ∀ w ∈ u_ws RX4 TX4 5, w ∈ lw_gd := gd_us (fun k hk => match k, hk with | 0, _ => q_172 | 1, _ => q_174 | 2, _ => q_176 | 3, _ => q_178 | 4, _ => q_180 | k + 5, hk => absurd hk (by omega))
theorem g_X4_code (C0 : Cx p s m args meth c own cc nL ret) (h : Wd G A s H locs ws) (q0 : Nat) (hlink : Cond.fieldLink own index "LeftTurns$Law" "code" "[I" ∈ lw_gd) (he : ws[q0]? = some (a, .inr (4, fs))) (hv : fs[0]? = some v) (hdg : decode cc pc = .ok (.getfield index, 3)) (kk : W p l e R s m args below meth c H locs cells slots Q (F0 m (pc + 3) ls (v :: rest))) : W p l e R s m args below meth c H locs cells slots Q (F0 m pc ls (.ref a :: rest)) := m_get (k := 0) C0 h q0 he (rfl : vwCl[4]? = some (RX4, TX4, 5)) gd_X4 (by decide) hlink hv hdg kk
theorem f_X4_code (C0 : Cx p s m args meth c RX4 cc nL ret) (h : Wd G A s H locs ws) (hini : meth.name = "<init>") (q0 : Nat) (hlink : Cond.fieldLink RX4 index "LeftTurns$Law" "code" "[I" ∈ lw_gd) (he : ws[q0]? = some (a, .inr (4, fs))) (hl : 0 < fs.length) (hn : narrow (tyX4 0) v = v) (hfit : fits (tyX4 0) v = true) (hw : ws.set q0 (a, .inr (4, fs.set 0 v)) = ws') (hdg : decode cc pc = .ok (.putfield index, 3)) (kk : ∀ (H1 : Heap) (locs1 : List Loc), Wd G A s H1 locs1 ws' → W p l e R s m args below meth c H1 locs1 cells slots Q (F0 m (pc + 3) ls rest)) : W p l e R s m args below meth c H locs cells slots Q (F0 m pc ls (v :: .ref a :: rest)) := m_putF (k := 0) C0 h hini q0 tyX4 tyX4_ok nmX4 (rfl : vwCl[4]? = some (RX4, TX4, 5)) gd_X4 (by decide) hlink rfl rfl he hl hn hfit hw hdg kk
theorem g_X4_stack (C0 : Cx p s m args meth c own cc nL ret) (h : Wd G A s H locs ws) (q0 : Nat) (hlink : Cond.fieldLink own index "LeftTurns$Law" "stack" "[I" ∈ lw_gd) (he : ws[q0]? = some (a, .inr (4, fs))) (hv : fs[1]? = some v) (hdg : decode cc pc = .ok (.getfield index, 3)) (kk : W p l e R s m args below meth c H locs cells slots Q (F0 m (pc + 3) ls (v :: rest))) : W p l e R s m args below meth c H locs cells slots Q (F0 m pc ls (.ref a :: rest)) := m_get (k := 1) C0 h q0 he (rfl : vwCl[4]? = some (RX4, TX4, 5)) gd_X4 (by decide) hlink hv hdg kk
theorem f_X4_stack (C0 : Cx p s m args meth c RX4 cc nL ret) (h : Wd G A s H locs ws) (hini : meth.name = "<init>") (q0 : Nat) (hlink : Cond.fieldLink RX4 index "LeftTurns$Law" "stack" "[I" ∈ lw_gd) (he : ws[q0]? = some (a, .inr (4, fs))) (hl : 1 < fs.length) (hn : narrow (tyX4 1) v = v) (hfit : fits (tyX4 1) v = true) (hw : ws.set q0 (a, .inr (4, fs.set 1 v)) = ws') (hdg : decode cc pc = .ok (.putfield index, 3)) (kk : ∀ (H1 : Heap) (locs1 : List Loc), Wd G A s H1 locs1 ws' → W p l e R s m args below meth c H1 locs1 cells slots Q (F0 m (pc + 3) ls rest)) : W p l e R s m args below meth c H locs cells slots Q (F0 m pc ls (v :: .ref a :: rest)) := m_putF (k := 1) C0 h hini q0 tyX4 tyX4_ok nmX4 (rfl : vwCl[4]? = some (RX4, TX4, 5)) gd_X4 (by decide) hlink rfl rfl he hl hn hfit hw hdg kk
theorem g_X4_names (C0 : Cx p s m args meth c own cc nL ret) (h : Wd G A s H locs ws) (q0 : Nat) (hlink : Cond.fieldLink own index "LeftTurns$Law" "names" "[I" ∈ lw_gd) (he : ws[q0]? = some (a, .inr (4, fs))) (hv : fs[2]? = some v) (hdg : decode cc pc = .ok (.getfield index, 3)) (kk : W p l e R s m args below meth c H locs cells slots Q (F0 m (pc + 3) ls (v :: rest))) : W p l e R s m args below meth c H locs cells slots Q (F0 m pc ls (.ref a :: rest)) := m_get (k := 2) C0 h q0 he (rfl : vwCl[4]? = some (RX4, TX4, 5)) gd_X4 (by decide) hlink hv hdg kk
theorem f_X4_names (C0 : Cx p s m args meth c RX4 cc nL ret) (h : Wd G A s H locs ws) (hini : meth.name = "<init>") (q0 : Nat) (hlink : Cond.fieldLink RX4 index "LeftTurns$Law" "names" "[I" ∈ lw_gd) (he : ws[q0]? = some (a, .inr (4, fs))) (hl : 2 < fs.length) (hn : narrow (tyX4 2) v = v) (hfit : fits (tyX4 2) v = true) (hw : ws.set q0 (a, .inr (4, fs.set 2 v)) = ws') (hdg : decode cc pc = .ok (.putfield index, 3)) (kk : ∀ (H1 : Heap) (locs1 : List Loc), Wd G A s H1 locs1 ws' → W p l e R s m args below meth c H1 locs1 cells slots Q (F0 m (pc + 3) ls rest)) : W p l e R s m args below meth c H locs cells slots Q (F0 m pc ls (v :: .ref a :: rest)) := m_putF (k := 2) C0 h hini q0 tyX4 tyX4_ok nmX4 (rfl : vwCl[4]? = some (RX4, TX4, 5)) gd_X4 (by decide) hlink rfl rfl he hl hn hfit hw hdg kk
theorem g_X4_size (C0 : Cx p s m args meth c own cc nL ret) (h : Wd G A s H locs ws) (q0 : Nat) (hlink : Cond.fieldLink own index "LeftTurns$Law" "size" "I" ∈ lw_gd) (he : ws[q0]? = some (a, .inr (4, fs))) (hv : fs[3]? = some v) (hdg : decode cc pc = .ok (.getfield index, 3)) (kk : W p l e R s m args below meth c H locs cells slots Q (F0 m (pc + 3) ls (v :: rest))) : W p l e R s m args below meth c H locs cells slots Q (F0 m pc ls (.ref a :: rest)) := m_get (k := 3) C0 h q0 he (rfl : vwCl[4]? = some (RX4, TX4, 5)) gd_X4 (by decide) hlink hv hdg kk
theorem p_X4_size (C0 : Cx p s m args meth c own cc nL ret) (h : Wd G A s H locs ws) (q0 : Nat) (hlink : Cond.fieldLink own index "LeftTurns$Law" "size" "I" ∈ lw_gd) (he : ws[q0]? = some (a, .inr (4, fs))) (hl : 3 < fs.length) (hn : narrow (tyX4 3) v = v) (hfit : fits (tyX4 3) v = true) (hw : ws.set q0 (a, .inr (4, fs.set 3 v)) = ws') (hdg : decode cc pc = .ok (.putfield index, 3)) (kk : ∀ (H1 : Heap) (locs1 : List Loc), Wd G A s H1 locs1 ws' → W p l e R s m args below meth c H1 locs1 cells slots Q (F0 m (pc + 3) ls rest)) : W p l e R s m args below meth c H locs cells slots Q (F0 m pc ls (v :: .ref a :: rest)) := m_put (k := 3) C0 h q0 tyX4 tyX4_ok nmX4 (rfl : vwCl[4]? = some (RX4, TX4, 5)) gd_X4 (by decide) hlink rfl he hl hn hfit hw hdg kk
theorem g_X4_named (C0 : Cx p s m args meth c own cc nL ret) (h : Wd G A s H locs ws) (q0 : Nat) (hlink : Cond.fieldLink own index "LeftTurns$Law" "named" "I" ∈ lw_gd) (he : ws[q0]? = some (a, .inr (4, fs))) (hv : fs[4]? = some v) (hdg : decode cc pc = .ok (.getfield index, 3)) (kk : W p l e R s m args below meth c H locs cells slots Q (F0 m (pc + 3) ls (v :: rest))) : W p l e R s m args below meth c H locs cells slots Q (F0 m pc ls (.ref a :: rest)) := m_get (k := 4) C0 h q0 he (rfl : vwCl[4]? = some (RX4, TX4, 5)) gd_X4 (by decide) hlink hv hdg kk
theorem p_X4_named (C0 : Cx p s m args meth c own cc nL ret) (h : Wd G A s H locs ws) (q0 : Nat) (hlink : Cond.fieldLink own index "LeftTurns$Law" "named" "I" ∈ lw_gd) (he : ws[q0]? = some (a, .inr (4, fs))) (hl : 4 < fs.length) (hn : narrow (tyX4 4) v = v) (hfit : fits (tyX4 4) v = true) (hw : ws.set q0 (a, .inr (4, fs.set 4 v)) = ws') (hdg : decode cc pc = .ok (.putfield index, 3)) (kk : ∀ (H1 : Heap) (locs1 : List Loc), Wd G A s H1 locs1 ws' → W p l e R s m args below meth c H1 locs1 cells slots Q (F0 m (pc + 3) ls rest)) : W p l e R s m args below meth c H locs cells slots Q (F0 m pc ls (v :: .ref a :: rest)) := m_put (k := 4) C0 h q0 tyX4 tyX4_ok nmX4 (rfl : vwCl[4]? = some (RX4, TX4, 5)) gd_X4 (by decide) hlink rfl he hl hn hfit hw hdg kk
theorem gd_X5 : ∀ w ∈ u_ws RX5 TX5 11, w ∈ lw_gd := gd_us (fun k hk => match k, hk with | 0, _ => q_381 | 1, _ => q_383 | 2, _ => q_385 | 3, _ => q_387 | 4, _ => q_389 | 5, _ => q_391 | 6, _ => q_393 | 7, _ => q_395 | 8, _ => q_397 | 9, _ => q_399 | 10, _ => q_401 | k + 11, hk => absurd hk (by omega))
theorem g_X5_city (C0 : Cx p s m args meth c own cc nL ret) (h : Wd G A s H locs ws) (q0 : Nat) (hlink : Cond.fieldLink own index "LeftTurns$Reader" "city" "LLeftTurns$City;" ∈ lw_gd) (he : ws[q0]? = some (a, .inr (5, fs))) (hv : fs[0]? = some v) (hdg : decode cc pc = .ok (.getfield index, 3)) (kk : W p l e R s m args below meth c H locs cells slots Q (F0 m (pc + 3) ls (v :: rest))) : W p l e R s m args below meth c H locs cells slots Q (F0 m pc ls (.ref a :: rest)) := m_get (k := 0) C0 h q0 he (rfl : vwCl[5]? = some (RX5, TX5, 11)) gd_X5 (by decide) hlink hv hdg kk
theorem f_X5_city (C0 : Cx p s m args meth c RX5 cc nL ret) (h : Wd G A s H locs ws) (hini : meth.name = "<init>") (q0 : Nat) (hlink : Cond.fieldLink RX5 index "LeftTurns$Reader" "city" "LLeftTurns$City;" ∈ lw_gd) (he : ws[q0]? = some (a, .inr (5, fs))) (hl : 0 < fs.length) (hn : narrow (tyX5 0) v = v) (hfit : fits (tyX5 0) v = true) (hw : ws.set q0 (a, .inr (5, fs.set 0 v)) = ws') (hdg : decode cc pc = .ok (.putfield index, 3)) (kk : ∀ (H1 : Heap) (locs1 : List Loc), Wd G A s H1 locs1 ws' → W p l e R s m args below meth c H1 locs1 cells slots Q (F0 m (pc + 3) ls rest)) : W p l e R s m args below meth c H locs cells slots Q (F0 m pc ls (v :: .ref a :: rest)) := m_putF (k := 0) C0 h hini q0 tyX5 tyX5_ok nmX5 (rfl : vwCl[5]? = some (RX5, TX5, 11)) gd_X5 (by decide) hlink rfl rfl he hl hn hfit hw hdg kk
theorem g_X5_tape (C0 : Cx p s m args meth c own cc nL ret) (h : Wd G A s H locs ws) (q0 : Nat) (hlink : Cond.fieldLink own index "LeftTurns$Reader" "tape" "[B" ∈ lw_gd) (he : ws[q0]? = some (a, .inr (5, fs))) (hv : fs[1]? = some v) (hdg : decode cc pc = .ok (.getfield index, 3)) (kk : W p l e R s m args below meth c H locs cells slots Q (F0 m (pc + 3) ls (v :: rest))) : W p l e R s m args below meth c H locs cells slots Q (F0 m pc ls (.ref a :: rest)) := m_get (k := 1) C0 h q0 he (rfl : vwCl[5]? = some (RX5, TX5, 11)) gd_X5 (by decide) hlink hv hdg kk
theorem f_X5_tape (C0 : Cx p s m args meth c RX5 cc nL ret) (h : Wd G A s H locs ws) (hini : meth.name = "<init>") (q0 : Nat) (hlink : Cond.fieldLink RX5 index "LeftTurns$Reader" "tape" "[B" ∈ lw_gd) (he : ws[q0]? = some (a, .inr (5, fs))) (hl : 1 < fs.length) (hn : narrow (tyX5 1) v = v) (hfit : fits (tyX5 1) v = true) (hw : ws.set q0 (a, .inr (5, fs.set 1 v)) = ws') (hdg : decode cc pc = .ok (.putfield index, 3)) (kk : ∀ (H1 : Heap) (locs1 : List Loc), Wd G A s H1 locs1 ws' → W p l e R s m args below meth c H1 locs1 cells slots Q (F0 m (pc + 3) ls rest)) : W p l e R s m args below meth c H locs cells slots Q (F0 m pc ls (v :: .ref a :: rest)) := m_putF (k := 1) C0 h hini q0 tyX5 tyX5_ok nmX5 (rfl : vwCl[5]? = some (RX5, TX5, 11)) gd_X5 (by decide) hlink rfl rfl he hl hn hfit hw hdg kk
theorem g_X5_fed (C0 : Cx p s m args meth c own cc nL ret) (h : Wd G A s H locs ws) (q0 : Nat) (hlink : Cond.fieldLink own index "LeftTurns$Reader" "fed" "I" ∈ lw_gd) (he : ws[q0]? = some (a, .inr (5, fs))) (hv : fs[2]? = some v) (hdg : decode cc pc = .ok (.getfield index, 3)) (kk : W p l e R s m args below meth c H locs cells slots Q (F0 m (pc + 3) ls (v :: rest))) : W p l e R s m args below meth c H locs cells slots Q (F0 m pc ls (.ref a :: rest)) := m_get (k := 2) C0 h q0 he (rfl : vwCl[5]? = some (RX5, TX5, 11)) gd_X5 (by decide) hlink hv hdg kk
theorem p_X5_fed (C0 : Cx p s m args meth c own cc nL ret) (h : Wd G A s H locs ws) (q0 : Nat) (hlink : Cond.fieldLink own index "LeftTurns$Reader" "fed" "I" ∈ lw_gd) (he : ws[q0]? = some (a, .inr (5, fs))) (hl : 2 < fs.length) (hn : narrow (tyX5 2) v = v) (hfit : fits (tyX5 2) v = true) (hw : ws.set q0 (a, .inr (5, fs.set 2 v)) = ws') (hdg : decode cc pc = .ok (.putfield index, 3)) (kk : ∀ (H1 : Heap) (locs1 : List Loc), Wd G A s H1 locs1 ws' → W p l e R s m args below meth c H1 locs1 cells slots Q (F0 m (pc + 3) ls rest)) : W p l e R s m args below meth c H locs cells slots Q (F0 m pc ls (v :: .ref a :: rest)) := m_put (k := 2) C0 h q0 tyX5 tyX5_ok nmX5 (rfl : vwCl[5]? = some (RX5, TX5, 11)) gd_X5 (by decide) hlink rfl he hl hn hfit hw hdg kk
theorem g_X5_length (C0 : Cx p s m args meth c own cc nL ret) (h : Wd G A s H locs ws) (q0 : Nat) (hlink : Cond.fieldLink own index "LeftTurns$Reader" "length" "I" ∈ lw_gd) (he : ws[q0]? = some (a, .inr (5, fs))) (hv : fs[3]? = some v) (hdg : decode cc pc = .ok (.getfield index, 3)) (kk : W p l e R s m args below meth c H locs cells slots Q (F0 m (pc + 3) ls (v :: rest))) : W p l e R s m args below meth c H locs cells slots Q (F0 m pc ls (.ref a :: rest)) := m_get (k := 3) C0 h q0 he (rfl : vwCl[5]? = some (RX5, TX5, 11)) gd_X5 (by decide) hlink hv hdg kk
theorem p_X5_length (C0 : Cx p s m args meth c own cc nL ret) (h : Wd G A s H locs ws) (q0 : Nat) (hlink : Cond.fieldLink own index "LeftTurns$Reader" "length" "I" ∈ lw_gd) (he : ws[q0]? = some (a, .inr (5, fs))) (hl : 3 < fs.length) (hn : narrow (tyX5 3) v = v) (hfit : fits (tyX5 3) v = true) (hw : ws.set q0 (a, .inr (5, fs.set 3 v)) = ws') (hdg : decode cc pc = .ok (.putfield index, 3)) (kk : ∀ (H1 : Heap) (locs1 : List Loc), Wd G A s H1 locs1 ws' → W p l e R s m args below meth c H1 locs1 cells slots Q (F0 m (pc + 3) ls rest)) : W p l e R s m args below meth c H locs cells slots Q (F0 m pc ls (v :: .ref a :: rest)) := m_put (k := 3) C0 h q0 tyX5 tyX5_ok nmX5 (rfl : vwCl[5]? = some (RX5, TX5, 11)) gd_X5 (by decide) hlink rfl he hl hn hfit hw hdg kk
theorem g_X5_kind (C0 : Cx p s m args meth c own cc nL ret) (h : Wd G A s H locs ws) (q0 : Nat) (hlink : Cond.fieldLink own index "LeftTurns$Reader" "kind" "I" ∈ lw_gd) (he : ws[q0]? = some (a, .inr (5, fs))) (hv : fs[4]? = some v) (hdg : decode cc pc = .ok (.getfield index, 3)) (kk : W p l e R s m args below meth c H locs cells slots Q (F0 m (pc + 3) ls (v :: rest))) : W p l e R s m args below meth c H locs cells slots Q (F0 m pc ls (.ref a :: rest)) := m_get (k := 4) C0 h q0 he (rfl : vwCl[5]? = some (RX5, TX5, 11)) gd_X5 (by decide) hlink hv hdg kk
theorem p_X5_kind (C0 : Cx p s m args meth c own cc nL ret) (h : Wd G A s H locs ws) (q0 : Nat) (hlink : Cond.fieldLink own index "LeftTurns$Reader" "kind" "I" ∈ lw_gd) (he : ws[q0]? = some (a, .inr (5, fs))) (hl : 4 < fs.length) (hn : narrow (tyX5 4) v = v) (hfit : fits (tyX5 4) v = true) (hw : ws.set q0 (a, .inr (5, fs.set 4 v)) = ws') (hdg : decode cc pc = .ok (.putfield index, 3)) (kk : ∀ (H1 : Heap) (locs1 : List Loc), Wd G A s H1 locs1 ws' → W p l e R s m args below meth c H1 locs1 cells slots Q (F0 m (pc + 3) ls rest)) : W p l e R s m args below meth c H locs cells slots Q (F0 m pc ls (v :: .ref a :: rest)) := m_put (k := 4) C0 h q0 tyX5 tyX5_ok nmX5 (rfl : vwCl[5]? = some (RX5, TX5, 11)) gd_X5 (by decide) hlink rfl he hl hn hfit hw hdg kk
theorem g_X5_start (C0 : Cx p s m args meth c own cc nL ret) (h : Wd G A s H locs ws) (q0 : Nat) (hlink : Cond.fieldLink own index "LeftTurns$Reader" "start" "I" ∈ lw_gd) (he : ws[q0]? = some (a, .inr (5, fs))) (hv : fs[5]? = some v) (hdg : decode cc pc = .ok (.getfield index, 3)) (kk : W p l e R s m args below meth c H locs cells slots Q (F0 m (pc + 3) ls (v :: rest))) : W p l e R s m args below meth c H locs cells slots Q (F0 m pc ls (.ref a :: rest)) := m_get (k := 5) C0 h q0 he (rfl : vwCl[5]? = some (RX5, TX5, 11)) gd_X5 (by decide) hlink hv hdg kk
theorem p_X5_start (C0 : Cx p s m args meth c own cc nL ret) (h : Wd G A s H locs ws) (q0 : Nat) (hlink : Cond.fieldLink own index "LeftTurns$Reader" "start" "I" ∈ lw_gd) (he : ws[q0]? = some (a, .inr (5, fs))) (hl : 5 < fs.length) (hn : narrow (tyX5 5) v = v) (hfit : fits (tyX5 5) v = true) (hw : ws.set q0 (a, .inr (5, fs.set 5 v)) = ws') (hdg : decode cc pc = .ok (.putfield index, 3)) (kk : ∀ (H1 : Heap) (locs1 : List Loc), Wd G A s H1 locs1 ws' → W p l e R s m args below meth c H1 locs1 cells slots Q (F0 m (pc + 3) ls rest)) : W p l e R s m args below meth c H locs cells slots Q (F0 m pc ls (v :: .ref a :: rest)) := m_put (k := 5) C0 h q0 tyX5 tyX5_ok nmX5 (rfl : vwCl[5]? = some (RX5, TX5, 11)) gd_X5 (by decide) hlink rfl he hl hn hfit hw hdg kk
theorem g_X5_end (C0 : Cx p s m args meth c own cc nL ret) (h : Wd G A s H locs ws) (q0 : Nat) (hlink : Cond.fieldLink own index "LeftTurns$Reader" "end" "I" ∈ lw_gd) (he : ws[q0]? = some (a, .inr (5, fs))) (hv : fs[6]? = some v) (hdg : decode cc pc = .ok (.getfield index, 3)) (kk : W p l e R s m args below meth c H locs cells slots Q (F0 m (pc + 3) ls (v :: rest))) : W p l e R s m args below meth c H locs cells slots Q (F0 m pc ls (.ref a :: rest)) := m_get (k := 6) C0 h q0 he (rfl : vwCl[5]? = some (RX5, TX5, 11)) gd_X5 (by decide) hlink hv hdg kk
theorem p_X5_end (C0 : Cx p s m args meth c own cc nL ret) (h : Wd G A s H locs ws) (q0 : Nat) (hlink : Cond.fieldLink own index "LeftTurns$Reader" "end" "I" ∈ lw_gd) (he : ws[q0]? = some (a, .inr (5, fs))) (hl : 6 < fs.length) (hn : narrow (tyX5 6) v = v) (hfit : fits (tyX5 6) v = true) (hw : ws.set q0 (a, .inr (5, fs.set 6 v)) = ws') (hdg : decode cc pc = .ok (.putfield index, 3)) (kk : ∀ (H1 : Heap) (locs1 : List Loc), Wd G A s H1 locs1 ws' → W p l e R s m args below meth c H1 locs1 cells slots Q (F0 m (pc + 3) ls rest)) : W p l e R s m args below meth c H locs cells slots Q (F0 m pc ls (v :: .ref a :: rest)) := m_put (k := 6) C0 h q0 tyX5 tyX5_ok nmX5 (rfl : vwCl[5]? = some (RX5, TX5, 11)) gd_X5 (by decide) hlink rfl he hl hn hfit hw hdg kk
theorem g_X5_number (C0 : Cx p s m args meth c own cc nL ret) (h : Wd G A s H locs ws) (q0 : Nat) (hlink : Cond.fieldLink own index "LeftTurns$Reader" "number" "I" ∈ lw_gd) (he : ws[q0]? = some (a, .inr (5, fs))) (hv : fs[7]? = some v) (hdg : decode cc pc = .ok (.getfield index, 3)) (kk : W p l e R s m args below meth c H locs cells slots Q (F0 m (pc + 3) ls (v :: rest))) : W p l e R s m args below meth c H locs cells slots Q (F0 m pc ls (.ref a :: rest)) := m_get (k := 7) C0 h q0 he (rfl : vwCl[5]? = some (RX5, TX5, 11)) gd_X5 (by decide) hlink hv hdg kk
theorem p_X5_number (C0 : Cx p s m args meth c own cc nL ret) (h : Wd G A s H locs ws) (q0 : Nat) (hlink : Cond.fieldLink own index "LeftTurns$Reader" "number" "I" ∈ lw_gd) (he : ws[q0]? = some (a, .inr (5, fs))) (hl : 7 < fs.length) (hn : narrow (tyX5 7) v = v) (hfit : fits (tyX5 7) v = true) (hw : ws.set q0 (a, .inr (5, fs.set 7 v)) = ws') (hdg : decode cc pc = .ok (.putfield index, 3)) (kk : ∀ (H1 : Heap) (locs1 : List Loc), Wd G A s H1 locs1 ws' → W p l e R s m args below meth c H1 locs1 cells slots Q (F0 m (pc + 3) ls rest)) : W p l e R s m args below meth c H locs cells slots Q (F0 m pc ls (v :: .ref a :: rest)) := m_put (k := 7) C0 h q0 tyX5 tyX5_ok nmX5 (rfl : vwCl[5]? = some (RX5, TX5, 11)) gd_X5 (by decide) hlink rfl he hl hn hfit hw hdg kk
theorem g_X5_fault (C0 : Cx p s m args meth c own cc nL ret) (h : Wd G A s H locs ws) (q0 : Nat) (hlink : Cond.fieldLink own index "LeftTurns$Reader" "fault" "I" ∈ lw_gd) (he : ws[q0]? = some (a, .inr (5, fs))) (hv : fs[8]? = some v) (hdg : decode cc pc = .ok (.getfield index, 3)) (kk : W p l e R s m args below meth c H locs cells slots Q (F0 m (pc + 3) ls (v :: rest))) : W p l e R s m args below meth c H locs cells slots Q (F0 m pc ls (.ref a :: rest)) := m_get (k := 8) C0 h q0 he (rfl : vwCl[5]? = some (RX5, TX5, 11)) gd_X5 (by decide) hlink hv hdg kk
theorem p_X5_fault (C0 : Cx p s m args meth c own cc nL ret) (h : Wd G A s H locs ws) (q0 : Nat) (hlink : Cond.fieldLink own index "LeftTurns$Reader" "fault" "I" ∈ lw_gd) (he : ws[q0]? = some (a, .inr (5, fs))) (hl : 8 < fs.length) (hn : narrow (tyX5 8) v = v) (hfit : fits (tyX5 8) v = true) (hw : ws.set q0 (a, .inr (5, fs.set 8 v)) = ws') (hdg : decode cc pc = .ok (.putfield index, 3)) (kk : ∀ (H1 : Heap) (locs1 : List Loc), Wd G A s H1 locs1 ws' → W p l e R s m args below meth c H1 locs1 cells slots Q (F0 m (pc + 3) ls rest)) : W p l e R s m args below meth c H locs cells slots Q (F0 m pc ls (v :: .ref a :: rest)) := m_put (k := 8) C0 h q0 tyX5 tyX5_ok nmX5 (rfl : vwCl[5]? = some (RX5, TX5, 11)) gd_X5 (by decide) hlink rfl he hl hn hfit hw hdg kk
theorem g_X5_place (C0 : Cx p s m args meth c own cc nL ret) (h : Wd G A s H locs ws) (q0 : Nat) (hlink : Cond.fieldLink own index "LeftTurns$Reader" "place" "I" ∈ lw_gd) (he : ws[q0]? = some (a, .inr (5, fs))) (hv : fs[9]? = some v) (hdg : decode cc pc = .ok (.getfield index, 3)) (kk : W p l e R s m args below meth c H locs cells slots Q (F0 m (pc + 3) ls (v :: rest))) : W p l e R s m args below meth c H locs cells slots Q (F0 m pc ls (.ref a :: rest)) := m_get (k := 9) C0 h q0 he (rfl : vwCl[5]? = some (RX5, TX5, 11)) gd_X5 (by decide) hlink hv hdg kk
theorem p_X5_place (C0 : Cx p s m args meth c own cc nL ret) (h : Wd G A s H locs ws) (q0 : Nat) (hlink : Cond.fieldLink own index "LeftTurns$Reader" "place" "I" ∈ lw_gd) (he : ws[q0]? = some (a, .inr (5, fs))) (hl : 9 < fs.length) (hn : narrow (tyX5 9) v = v) (hfit : fits (tyX5 9) v = true) (hw : ws.set q0 (a, .inr (5, fs.set 9 v)) = ws') (hdg : decode cc pc = .ok (.putfield index, 3)) (kk : ∀ (H1 : Heap) (locs1 : List Loc), Wd G A s H1 locs1 ws' → W p l e R s m args below meth c H1 locs1 cells slots Q (F0 m (pc + 3) ls rest)) : W p l e R s m args below meth c H locs cells slots Q (F0 m pc ls (v :: .ref a :: rest)) := m_put (k := 9) C0 h q0 tyX5 tyX5_ok nmX5 (rfl : vwCl[5]? = some (RX5, TX5, 11)) gd_X5 (by decide) hlink rfl he hl hn hfit hw hdg kk
theorem g_X5_law (C0 : Cx p s m args meth c own cc nL ret) (h : Wd G A s H locs ws) (q0 : Nat) (hlink : Cond.fieldLink own index "LeftTurns$Reader" "law" "LLeftTurns$Law;" ∈ lw_gd) (he : ws[q0]? = some (a, .inr (5, fs))) (hv : fs[10]? = some v) (hdg : decode cc pc = .ok (.getfield index, 3)) (kk : W p l e R s m args below meth c H locs cells slots Q (F0 m (pc + 3) ls (v :: rest))) : W p l e R s m args below meth c H locs cells slots Q (F0 m pc ls (.ref a :: rest)) := m_get (k := 10) C0 h q0 he (rfl : vwCl[5]? = some (RX5, TX5, 11)) gd_X5 (by decide) hlink hv hdg kk
theorem p_X5_law (C0 : Cx p s m args meth c own cc nL ret) (h : Wd G A s H locs ws) (q0 : Nat) (hlink : Cond.fieldLink own index "LeftTurns$Reader" "law" "LLeftTurns$Law;" ∈ lw_gd) (he : ws[q0]? = some (a, .inr (5, fs))) (hl : 10 < fs.length) (hn : narrow (tyX5 10) v = v) (hfit : fits (tyX5 10) v = true) (hw : ws.set q0 (a, .inr (5, fs.set 10 v)) = ws') (hdg : decode cc pc = .ok (.putfield index, 3)) (kk : ∀ (H1 : Heap) (locs1 : List Loc), Wd G A s H1 locs1 ws' → W p l e R s m args below meth c H1 locs1 cells slots Q (F0 m (pc + 3) ls rest)) : W p l e R s m args below meth c H locs cells slots Q (F0 m pc ls (v :: .ref a :: rest)) := m_put (k := 10) C0 h q0 tyX5 tyX5_ok nmX5 (rfl : vwCl[5]? = some (RX5, TX5, 11)) gd_X5 (by decide) hlink rfl he hl hn hfit hw hdg kk
theorem gd_X6 : ∀ w ∈ u_ws RX6 TX6 10, w ∈ lw_gd := gd_us (fun k hk => match k, hk with | 0, _ => q_421 | 1, _ => q_423 | 2, _ => q_425 | 3, _ => q_427 | 4, _ => q_429 | 5, _ => q_431 | 6, _ => q_433 | 7, _ => q_435 | 8, _ => q_437 | 9, _ => q_439 | k + 10, hk => absurd hk (by omega))
theorem g_X6_spread (C0 : Cx p s m args meth c own cc nL ret) (h : Wd G A s H locs ws) (q0 : Nat) (hlink : Cond.fieldLink own index "LeftTurns$Rounds" "spread" "LLeftTurns$Spread;" ∈ lw_gd) (he : ws[q0]? = some (a, .inr (6, fs))) (hv : fs[0]? = some v) (hdg : decode cc pc = .ok (.getfield index, 3)) (kk : W p l e R s m args below meth c H locs cells slots Q (F0 m (pc + 3) ls (v :: rest))) : W p l e R s m args below meth c H locs cells slots Q (F0 m pc ls (.ref a :: rest)) := m_get (k := 0) C0 h q0 he (rfl : vwCl[6]? = some (RX6, TX6, 10)) gd_X6 (by decide) hlink hv hdg kk
theorem f_X6_spread (C0 : Cx p s m args meth c RX6 cc nL ret) (h : Wd G A s H locs ws) (hini : meth.name = "<init>") (q0 : Nat) (hlink : Cond.fieldLink RX6 index "LeftTurns$Rounds" "spread" "LLeftTurns$Spread;" ∈ lw_gd) (he : ws[q0]? = some (a, .inr (6, fs))) (hl : 0 < fs.length) (hn : narrow (tyX6 0) v = v) (hfit : fits (tyX6 0) v = true) (hw : ws.set q0 (a, .inr (6, fs.set 0 v)) = ws') (hdg : decode cc pc = .ok (.putfield index, 3)) (kk : ∀ (H1 : Heap) (locs1 : List Loc), Wd G A s H1 locs1 ws' → W p l e R s m args below meth c H1 locs1 cells slots Q (F0 m (pc + 3) ls rest)) : W p l e R s m args below meth c H locs cells slots Q (F0 m pc ls (v :: .ref a :: rest)) := m_putF (k := 0) C0 h hini q0 tyX6 tyX6_ok nmX6 (rfl : vwCl[6]? = some (RX6, TX6, 10)) gd_X6 (by decide) hlink rfl rfl he hl hn hfit hw hdg kk
theorem g_X6_routes (C0 : Cx p s m args meth c own cc nL ret) (h : Wd G A s H locs ws) (q0 : Nat) (hlink : Cond.fieldLink own index "LeftTurns$Rounds" "routes" "LLeftTurns$Routes;" ∈ lw_gd) (he : ws[q0]? = some (a, .inr (6, fs))) (hv : fs[1]? = some v) (hdg : decode cc pc = .ok (.getfield index, 3)) (kk : W p l e R s m args below meth c H locs cells slots Q (F0 m (pc + 3) ls (v :: rest))) : W p l e R s m args below meth c H locs cells slots Q (F0 m pc ls (.ref a :: rest)) := m_get (k := 1) C0 h q0 he (rfl : vwCl[6]? = some (RX6, TX6, 10)) gd_X6 (by decide) hlink hv hdg kk
theorem f_X6_routes (C0 : Cx p s m args meth c RX6 cc nL ret) (h : Wd G A s H locs ws) (hini : meth.name = "<init>") (q0 : Nat) (hlink : Cond.fieldLink RX6 index "LeftTurns$Rounds" "routes" "LLeftTurns$Routes;" ∈ lw_gd) (he : ws[q0]? = some (a, .inr (6, fs))) (hl : 1 < fs.length) (hn : narrow (tyX6 1) v = v) (hfit : fits (tyX6 1) v = true) (hw : ws.set q0 (a, .inr (6, fs.set 1 v)) = ws') (hdg : decode cc pc = .ok (.putfield index, 3)) (kk : ∀ (H1 : Heap) (locs1 : List Loc), Wd G A s H1 locs1 ws' → W p l e R s m args below meth c H1 locs1 cells slots Q (F0 m (pc + 3) ls rest)) : W p l e R s m args below meth c H locs cells slots Q (F0 m pc ls (v :: .ref a :: rest)) := m_putF (k := 1) C0 h hini q0 tyX6 tyX6_ok nmX6 (rfl : vwCl[6]? = some (RX6, TX6, 10)) gd_X6 (by decide) hlink rfl rfl he hl hn hfit hw hdg kk
theorem g_X6_stops (C0 : Cx p s m args meth c own cc nL ret) (h : Wd G A s H locs ws) (q0 : Nat) (hlink : Cond.fieldLink own index "LeftTurns$Rounds" "stops" "[I" ∈ lw_gd) (he : ws[q0]? = some (a, .inr (6, fs))) (hv : fs[2]? = some v) (hdg : decode cc pc = .ok (.getfield index, 3)) (kk : W p l e R s m args below meth c H locs cells slots Q (F0 m (pc + 3) ls (v :: rest))) : W p l e R s m args below meth c H locs cells slots Q (F0 m pc ls (.ref a :: rest)) := m_get (k := 2) C0 h q0 he (rfl : vwCl[6]? = some (RX6, TX6, 10)) gd_X6 (by decide) hlink hv hdg kk
theorem f_X6_stops (C0 : Cx p s m args meth c RX6 cc nL ret) (h : Wd G A s H locs ws) (hini : meth.name = "<init>") (q0 : Nat) (hlink : Cond.fieldLink RX6 index "LeftTurns$Rounds" "stops" "[I" ∈ lw_gd) (he : ws[q0]? = some (a, .inr (6, fs))) (hl : 2 < fs.length) (hn : narrow (tyX6 2) v = v) (hfit : fits (tyX6 2) v = true) (hw : ws.set q0 (a, .inr (6, fs.set 2 v)) = ws') (hdg : decode cc pc = .ok (.putfield index, 3)) (kk : ∀ (H1 : Heap) (locs1 : List Loc), Wd G A s H1 locs1 ws' → W p l e R s m args below meth c H1 locs1 cells slots Q (F0 m (pc + 3) ls rest)) : W p l e R s m args below meth c H locs cells slots Q (F0 m pc ls (v :: .ref a :: rest)) := m_putF (k := 2) C0 h hini q0 tyX6 tyX6_ok nmX6 (rfl : vwCl[6]? = some (RX6, TX6, 10)) gd_X6 (by decide) hlink rfl rfl he hl hn hfit hw hdg kk
theorem g_X6_order (C0 : Cx p s m args meth c own cc nL ret) (h : Wd G A s H locs ws) (q0 : Nat) (hlink : Cond.fieldLink own index "LeftTurns$Rounds" "order" "[I" ∈ lw_gd) (he : ws[q0]? = some (a, .inr (6, fs))) (hv : fs[3]? = some v) (hdg : decode cc pc = .ok (.getfield index, 3)) (kk : W p l e R s m args below meth c H locs cells slots Q (F0 m (pc + 3) ls (v :: rest))) : W p l e R s m args below meth c H locs cells slots Q (F0 m pc ls (.ref a :: rest)) := m_get (k := 3) C0 h q0 he (rfl : vwCl[6]? = some (RX6, TX6, 10)) gd_X6 (by decide) hlink hv hdg kk
theorem f_X6_order (C0 : Cx p s m args meth c RX6 cc nL ret) (h : Wd G A s H locs ws) (hini : meth.name = "<init>") (q0 : Nat) (hlink : Cond.fieldLink RX6 index "LeftTurns$Rounds" "order" "[I" ∈ lw_gd) (he : ws[q0]? = some (a, .inr (6, fs))) (hl : 3 < fs.length) (hn : narrow (tyX6 3) v = v) (hfit : fits (tyX6 3) v = true) (hw : ws.set q0 (a, .inr (6, fs.set 3 v)) = ws') (hdg : decode cc pc = .ok (.putfield index, 3)) (kk : ∀ (H1 : Heap) (locs1 : List Loc), Wd G A s H1 locs1 ws' → W p l e R s m args below meth c H1 locs1 cells slots Q (F0 m (pc + 3) ls rest)) : W p l e R s m args below meth c H locs cells slots Q (F0 m pc ls (v :: .ref a :: rest)) := m_putF (k := 3) C0 h hini q0 tyX6 tyX6_ok nmX6 (rfl : vwCl[6]? = some (RX6, TX6, 10)) gd_X6 (by decide) hlink rfl rfl he hl hn hfit hw hdg kk
theorem g_X6_bestOrder (C0 : Cx p s m args meth c own cc nL ret) (h : Wd G A s H locs ws) (q0 : Nat) (hlink : Cond.fieldLink own index "LeftTurns$Rounds" "bestOrder" "[I" ∈ lw_gd) (he : ws[q0]? = some (a, .inr (6, fs))) (hv : fs[4]? = some v) (hdg : decode cc pc = .ok (.getfield index, 3)) (kk : W p l e R s m args below meth c H locs cells slots Q (F0 m (pc + 3) ls (v :: rest))) : W p l e R s m args below meth c H locs cells slots Q (F0 m pc ls (.ref a :: rest)) := m_get (k := 4) C0 h q0 he (rfl : vwCl[6]? = some (RX6, TX6, 10)) gd_X6 (by decide) hlink hv hdg kk
theorem f_X6_bestOrder (C0 : Cx p s m args meth c RX6 cc nL ret) (h : Wd G A s H locs ws) (hini : meth.name = "<init>") (q0 : Nat) (hlink : Cond.fieldLink RX6 index "LeftTurns$Rounds" "bestOrder" "[I" ∈ lw_gd) (he : ws[q0]? = some (a, .inr (6, fs))) (hl : 4 < fs.length) (hn : narrow (tyX6 4) v = v) (hfit : fits (tyX6 4) v = true) (hw : ws.set q0 (a, .inr (6, fs.set 4 v)) = ws') (hdg : decode cc pc = .ok (.putfield index, 3)) (kk : ∀ (H1 : Heap) (locs1 : List Loc), Wd G A s H1 locs1 ws' → W p l e R s m args below meth c H1 locs1 cells slots Q (F0 m (pc + 3) ls rest)) : W p l e R s m args below meth c H locs cells slots Q (F0 m pc ls (v :: .ref a :: rest)) := m_putF (k := 4) C0 h hini q0 tyX6 tyX6_ok nmX6 (rfl : vwCl[6]? = some (RX6, TX6, 10)) gd_X6 (by decide) hlink rfl rfl he hl hn hfit hw hdg kk
theorem g_X6_size (C0 : Cx p s m args meth c own cc nL ret) (h : Wd G A s H locs ws) (q0 : Nat) (hlink : Cond.fieldLink own index "LeftTurns$Rounds" "size" "I" ∈ lw_gd) (he : ws[q0]? = some (a, .inr (6, fs))) (hv : fs[5]? = some v) (hdg : decode cc pc = .ok (.getfield index, 3)) (kk : W p l e R s m args below meth c H locs cells slots Q (F0 m (pc + 3) ls (v :: rest))) : W p l e R s m args below meth c H locs cells slots Q (F0 m pc ls (.ref a :: rest)) := m_get (k := 5) C0 h q0 he (rfl : vwCl[6]? = some (RX6, TX6, 10)) gd_X6 (by decide) hlink hv hdg kk
theorem p_X6_size (C0 : Cx p s m args meth c own cc nL ret) (h : Wd G A s H locs ws) (q0 : Nat) (hlink : Cond.fieldLink own index "LeftTurns$Rounds" "size" "I" ∈ lw_gd) (he : ws[q0]? = some (a, .inr (6, fs))) (hl : 5 < fs.length) (hn : narrow (tyX6 5) v = v) (hfit : fits (tyX6 5) v = true) (hw : ws.set q0 (a, .inr (6, fs.set 5 v)) = ws') (hdg : decode cc pc = .ok (.putfield index, 3)) (kk : ∀ (H1 : Heap) (locs1 : List Loc), Wd G A s H1 locs1 ws' → W p l e R s m args below meth c H1 locs1 cells slots Q (F0 m (pc + 3) ls rest)) : W p l e R s m args below meth c H locs cells slots Q (F0 m pc ls (v :: .ref a :: rest)) := m_put (k := 5) C0 h q0 tyX6 tyX6_ok nmX6 (rfl : vwCl[6]? = some (RX6, TX6, 10)) gd_X6 (by decide) hlink rfl he hl hn hfit hw hdg kk
theorem g_X6_done (C0 : Cx p s m args meth c own cc nL ret) (h : Wd G A s H locs ws) (q0 : Nat) (hlink : Cond.fieldLink own index "LeftTurns$Rounds" "done" "I" ∈ lw_gd) (he : ws[q0]? = some (a, .inr (6, fs))) (hv : fs[6]? = some v) (hdg : decode cc pc = .ok (.getfield index, 3)) (kk : W p l e R s m args below meth c H locs cells slots Q (F0 m (pc + 3) ls (v :: rest))) : W p l e R s m args below meth c H locs cells slots Q (F0 m pc ls (.ref a :: rest)) := m_get (k := 6) C0 h q0 he (rfl : vwCl[6]? = some (RX6, TX6, 10)) gd_X6 (by decide) hlink hv hdg kk
theorem p_X6_done (C0 : Cx p s m args meth c own cc nL ret) (h : Wd G A s H locs ws) (q0 : Nat) (hlink : Cond.fieldLink own index "LeftTurns$Rounds" "done" "I" ∈ lw_gd) (he : ws[q0]? = some (a, .inr (6, fs))) (hl : 6 < fs.length) (hn : narrow (tyX6 6) v = v) (hfit : fits (tyX6 6) v = true) (hw : ws.set q0 (a, .inr (6, fs.set 6 v)) = ws') (hdg : decode cc pc = .ok (.putfield index, 3)) (kk : ∀ (H1 : Heap) (locs1 : List Loc), Wd G A s H1 locs1 ws' → W p l e R s m args below meth c H1 locs1 cells slots Q (F0 m (pc + 3) ls rest)) : W p l e R s m args below meth c H locs cells slots Q (F0 m pc ls (v :: .ref a :: rest)) := m_put (k := 6) C0 h q0 tyX6 tyX6_ok nmX6 (rfl : vwCl[6]? = some (RX6, TX6, 10)) gd_X6 (by decide) hlink rfl he hl hn hfit hw hdg kk
theorem g_X6_any (C0 : Cx p s m args meth c own cc nL ret) (h : Wd G A s H locs ws) (q0 : Nat) (hlink : Cond.fieldLink own index "LeftTurns$Rounds" "any" "Z" ∈ lw_gd) (he : ws[q0]? = some (a, .inr (6, fs))) (hv : fs[7]? = some v) (hdg : decode cc pc = .ok (.getfield index, 3)) (kk : W p l e R s m args below meth c H locs cells slots Q (F0 m (pc + 3) ls (v :: rest))) : W p l e R s m args below meth c H locs cells slots Q (F0 m pc ls (.ref a :: rest)) := m_get (k := 7) C0 h q0 he (rfl : vwCl[6]? = some (RX6, TX6, 10)) gd_X6 (by decide) hlink hv hdg kk
theorem p_X6_any (C0 : Cx p s m args meth c own cc nL ret) (h : Wd G A s H locs ws) (q0 : Nat) (hlink : Cond.fieldLink own index "LeftTurns$Rounds" "any" "Z" ∈ lw_gd) (he : ws[q0]? = some (a, .inr (6, fs))) (hl : 7 < fs.length) (hn : narrow (tyX6 7) v = v) (hfit : fits (tyX6 7) v = true) (hw : ws.set q0 (a, .inr (6, fs.set 7 v)) = ws') (hdg : decode cc pc = .ok (.putfield index, 3)) (kk : ∀ (H1 : Heap) (locs1 : List Loc), Wd G A s H1 locs1 ws' → W p l e R s m args below meth c H1 locs1 cells slots Q (F0 m (pc + 3) ls rest)) : W p l e R s m args below meth c H locs cells slots Q (F0 m pc ls (v :: .ref a :: rest)) := m_put (k := 7) C0 h q0 tyX6 tyX6_ok nmX6 (rfl : vwCl[6]? = some (RX6, TX6, 10)) gd_X6 (by decide) hlink rfl he hl hn hfit hw hdg kk
theorem g_X6_bestLefts (C0 : Cx p s m args meth c own cc nL ret) (h : Wd G A s H locs ws) (q0 : Nat) (hlink : Cond.fieldLink own index "LeftTurns$Rounds" "bestLefts" "I" ∈ lw_gd) (he : ws[q0]? = some (a, .inr (6, fs))) (hv : fs[8]? = some v) (hdg : decode cc pc = .ok (.getfield index, 3)) (kk : W p l e R s m args below meth c H locs cells slots Q (F0 m (pc + 3) ls (v :: rest))) : W p l e R s m args below meth c H locs cells slots Q (F0 m pc ls (.ref a :: rest)) := m_get (k := 8) C0 h q0 he (rfl : vwCl[6]? = some (RX6, TX6, 10)) gd_X6 (by decide) hlink hv hdg kk
theorem p_X6_bestLefts (C0 : Cx p s m args meth c own cc nL ret) (h : Wd G A s H locs ws) (q0 : Nat) (hlink : Cond.fieldLink own index "LeftTurns$Rounds" "bestLefts" "I" ∈ lw_gd) (he : ws[q0]? = some (a, .inr (6, fs))) (hl : 8 < fs.length) (hn : narrow (tyX6 8) v = v) (hfit : fits (tyX6 8) v = true) (hw : ws.set q0 (a, .inr (6, fs.set 8 v)) = ws') (hdg : decode cc pc = .ok (.putfield index, 3)) (kk : ∀ (H1 : Heap) (locs1 : List Loc), Wd G A s H1 locs1 ws' → W p l e R s m args below meth c H1 locs1 cells slots Q (F0 m (pc + 3) ls rest)) : W p l e R s m args below meth c H locs cells slots Q (F0 m pc ls (v :: .ref a :: rest)) := m_put (k := 8) C0 h q0 tyX6 tyX6_ok nmX6 (rfl : vwCl[6]? = some (RX6, TX6, 10)) gd_X6 (by decide) hlink rfl he hl hn hfit hw hdg kk
theorem g_X6_bestStreets (C0 : Cx p s m args meth c own cc nL ret) (h : Wd G A s H locs ws) (q0 : Nat) (hlink : Cond.fieldLink own index "LeftTurns$Rounds" "bestStreets" "I" ∈ lw_gd) (he : ws[q0]? = some (a, .inr (6, fs))) (hv : fs[9]? = some v) (hdg : decode cc pc = .ok (.getfield index, 3)) (kk : W p l e R s m args below meth c H locs cells slots Q (F0 m (pc + 3) ls (v :: rest))) : W p l e R s m args below meth c H locs cells slots Q (F0 m pc ls (.ref a :: rest)) := m_get (k := 9) C0 h q0 he (rfl : vwCl[6]? = some (RX6, TX6, 10)) gd_X6 (by decide) hlink hv hdg kk
theorem p_X6_bestStreets (C0 : Cx p s m args meth c own cc nL ret) (h : Wd G A s H locs ws) (q0 : Nat) (hlink : Cond.fieldLink own index "LeftTurns$Rounds" "bestStreets" "I" ∈ lw_gd) (he : ws[q0]? = some (a, .inr (6, fs))) (hl : 9 < fs.length) (hn : narrow (tyX6 9) v = v) (hfit : fits (tyX6 9) v = true) (hw : ws.set q0 (a, .inr (6, fs.set 9 v)) = ws') (hdg : decode cc pc = .ok (.putfield index, 3)) (kk : ∀ (H1 : Heap) (locs1 : List Loc), Wd G A s H1 locs1 ws' → W p l e R s m args below meth c H1 locs1 cells slots Q (F0 m (pc + 3) ls rest)) : W p l e R s m args below meth c H locs cells slots Q (F0 m pc ls (v :: .ref a :: rest)) := m_put (k := 9) C0 h q0 tyX6 tyX6_ok nmX6 (rfl : vwCl[6]? = some (RX6, TX6, 10)) gd_X6 (by decide) hlink rfl he hl hn hfit hw hdg kk
theorem gd_X7 : ∀ w ∈ u_ws RX7 TX7 7, w ∈ lw_gd := gd_us (fun k hk => match k, hk with | 0, _ => q_349 | 1, _ => q_351 | 2, _ => q_353 | 3, _ => q_355 | 4, _ => q_357 | 5, _ => q_359 | 6, _ => q_361 | k + 7, hk => absurd hk (by omega))
theorem g_X7_city (C0 : Cx p s m args meth c own cc nL ret) (h : Wd G A s H locs ws) (q0 : Nat) (hlink : Cond.fieldLink own index "LeftTurns$Routes" "city" "LLeftTurns$City;" ∈ lw_gd) (he : ws[q0]? = some (a, .inr (7, fs))) (hv : fs[0]? = some v) (hdg : decode cc pc = .ok (.getfield index, 3)) (kk : W p l e R s m args below meth c H locs cells slots Q (F0 m (pc + 3) ls (v :: rest))) : W p l e R s m args below meth c H locs cells slots Q (F0 m pc ls (.ref a :: rest)) := m_get (k := 0) C0 h q0 he (rfl : vwCl[7]? = some (RX7, TX7, 7)) gd_X7 (by decide) hlink hv hdg kk
theorem f_X7_city (C0 : Cx p s m args meth c RX7 cc nL ret) (h : Wd G A s H locs ws) (hini : meth.name = "<init>") (q0 : Nat) (hlink : Cond.fieldLink RX7 index "LeftTurns$Routes" "city" "LLeftTurns$City;" ∈ lw_gd) (he : ws[q0]? = some (a, .inr (7, fs))) (hl : 0 < fs.length) (hn : narrow (tyX7 0) v = v) (hfit : fits (tyX7 0) v = true) (hw : ws.set q0 (a, .inr (7, fs.set 0 v)) = ws') (hdg : decode cc pc = .ok (.putfield index, 3)) (kk : ∀ (H1 : Heap) (locs1 : List Loc), Wd G A s H1 locs1 ws' → W p l e R s m args below meth c H1 locs1 cells slots Q (F0 m (pc + 3) ls rest)) : W p l e R s m args below meth c H locs cells slots Q (F0 m pc ls (v :: .ref a :: rest)) := m_putF (k := 0) C0 h hini q0 tyX7 tyX7_ok nmX7 (rfl : vwCl[7]? = some (RX7, TX7, 7)) gd_X7 (by decide) hlink rfl rfl he hl hn hfit hw hdg kk
theorem g_X7_forecast (C0 : Cx p s m args meth c own cc nL ret) (h : Wd G A s H locs ws) (q0 : Nat) (hlink : Cond.fieldLink own index "LeftTurns$Routes" "forecast" "LLeftTurns$Forecast;" ∈ lw_gd) (he : ws[q0]? = some (a, .inr (7, fs))) (hv : fs[1]? = some v) (hdg : decode cc pc = .ok (.getfield index, 3)) (kk : W p l e R s m args below meth c H locs cells slots Q (F0 m (pc + 3) ls (v :: rest))) : W p l e R s m args below meth c H locs cells slots Q (F0 m pc ls (.ref a :: rest)) := m_get (k := 1) C0 h q0 he (rfl : vwCl[7]? = some (RX7, TX7, 7)) gd_X7 (by decide) hlink hv hdg kk
theorem f_X7_forecast (C0 : Cx p s m args meth c RX7 cc nL ret) (h : Wd G A s H locs ws) (hini : meth.name = "<init>") (q0 : Nat) (hlink : Cond.fieldLink RX7 index "LeftTurns$Routes" "forecast" "LLeftTurns$Forecast;" ∈ lw_gd) (he : ws[q0]? = some (a, .inr (7, fs))) (hl : 1 < fs.length) (hn : narrow (tyX7 1) v = v) (hfit : fits (tyX7 1) v = true) (hw : ws.set q0 (a, .inr (7, fs.set 1 v)) = ws') (hdg : decode cc pc = .ok (.putfield index, 3)) (kk : ∀ (H1 : Heap) (locs1 : List Loc), Wd G A s H1 locs1 ws' → W p l e R s m args below meth c H1 locs1 cells slots Q (F0 m (pc + 3) ls rest)) : W p l e R s m args below meth c H locs cells slots Q (F0 m pc ls (v :: .ref a :: rest)) := m_putF (k := 1) C0 h hini q0 tyX7 tyX7_ok nmX7 (rfl : vwCl[7]? = some (RX7, TX7, 7)) gd_X7 (by decide) hlink rfl rfl he hl hn hfit hw hdg kk
theorem g_X7_spread (C0 : Cx p s m args meth c own cc nL ret) (h : Wd G A s H locs ws) (q0 : Nat) (hlink : Cond.fieldLink own index "LeftTurns$Routes" "spread" "LLeftTurns$Spread;" ∈ lw_gd) (he : ws[q0]? = some (a, .inr (7, fs))) (hv : fs[2]? = some v) (hdg : decode cc pc = .ok (.getfield index, 3)) (kk : W p l e R s m args below meth c H locs cells slots Q (F0 m (pc + 3) ls (v :: rest))) : W p l e R s m args below meth c H locs cells slots Q (F0 m pc ls (.ref a :: rest)) := m_get (k := 2) C0 h q0 he (rfl : vwCl[7]? = some (RX7, TX7, 7)) gd_X7 (by decide) hlink hv hdg kk
theorem f_X7_spread (C0 : Cx p s m args meth c RX7 cc nL ret) (h : Wd G A s H locs ws) (hini : meth.name = "<init>") (q0 : Nat) (hlink : Cond.fieldLink RX7 index "LeftTurns$Routes" "spread" "LLeftTurns$Spread;" ∈ lw_gd) (he : ws[q0]? = some (a, .inr (7, fs))) (hl : 2 < fs.length) (hn : narrow (tyX7 2) v = v) (hfit : fits (tyX7 2) v = true) (hw : ws.set q0 (a, .inr (7, fs.set 2 v)) = ws') (hdg : decode cc pc = .ok (.putfield index, 3)) (kk : ∀ (H1 : Heap) (locs1 : List Loc), Wd G A s H1 locs1 ws' → W p l e R s m args below meth c H1 locs1 cells slots Q (F0 m (pc + 3) ls rest)) : W p l e R s m args below meth c H locs cells slots Q (F0 m pc ls (v :: .ref a :: rest)) := m_putF (k := 2) C0 h hini q0 tyX7 tyX7_ok nmX7 (rfl : vwCl[7]? = some (RX7, TX7, 7)) gd_X7 (by decide) hlink rfl rfl he hl hn hfit hw hdg kk
theorem g_X7_back (C0 : Cx p s m args meth c own cc nL ret) (h : Wd G A s H locs ws) (q0 : Nat) (hlink : Cond.fieldLink own index "LeftTurns$Routes" "back" "[I" ∈ lw_gd) (he : ws[q0]? = some (a, .inr (7, fs))) (hv : fs[3]? = some v) (hdg : decode cc pc = .ok (.getfield index, 3)) (kk : W p l e R s m args below meth c H locs cells slots Q (F0 m (pc + 3) ls (v :: rest))) : W p l e R s m args below meth c H locs cells slots Q (F0 m pc ls (.ref a :: rest)) := m_get (k := 3) C0 h q0 he (rfl : vwCl[7]? = some (RX7, TX7, 7)) gd_X7 (by decide) hlink hv hdg kk
theorem f_X7_back (C0 : Cx p s m args meth c RX7 cc nL ret) (h : Wd G A s H locs ws) (hini : meth.name = "<init>") (q0 : Nat) (hlink : Cond.fieldLink RX7 index "LeftTurns$Routes" "back" "[I" ∈ lw_gd) (he : ws[q0]? = some (a, .inr (7, fs))) (hl : 3 < fs.length) (hn : narrow (tyX7 3) v = v) (hfit : fits (tyX7 3) v = true) (hw : ws.set q0 (a, .inr (7, fs.set 3 v)) = ws') (hdg : decode cc pc = .ok (.putfield index, 3)) (kk : ∀ (H1 : Heap) (locs1 : List Loc), Wd G A s H1 locs1 ws' → W p l e R s m args below meth c H1 locs1 cells slots Q (F0 m (pc + 3) ls rest)) : W p l e R s m args below meth c H locs cells slots Q (F0 m pc ls (v :: .ref a :: rest)) := m_putF (k := 3) C0 h hini q0 tyX7 tyX7_ok nmX7 (rfl : vwCl[7]? = some (RX7, TX7, 7)) gd_X7 (by decide) hlink rfl rfl he hl hn hfit hw hdg kk
theorem g_X7_turns (C0 : Cx p s m args meth c own cc nL ret) (h : Wd G A s H locs ws) (q0 : Nat) (hlink : Cond.fieldLink own index "LeftTurns$Routes" "turns" "[I" ∈ lw_gd) (he : ws[q0]? = some (a, .inr (7, fs))) (hv : fs[4]? = some v) (hdg : decode cc pc = .ok (.getfield index, 3)) (kk : W p l e R s m args below meth c H locs cells slots Q (F0 m (pc + 3) ls (v :: rest))) : W p l e R s m args below meth c H locs cells slots Q (F0 m pc ls (.ref a :: rest)) := m_get (k := 4) C0 h q0 he (rfl : vwCl[7]? = some (RX7, TX7, 7)) gd_X7 (by decide) hlink hv hdg kk
theorem f_X7_turns (C0 : Cx p s m args meth c RX7 cc nL ret) (h : Wd G A s H locs ws) (hini : meth.name = "<init>") (q0 : Nat) (hlink : Cond.fieldLink RX7 index "LeftTurns$Routes" "turns" "[I" ∈ lw_gd) (he : ws[q0]? = some (a, .inr (7, fs))) (hl : 4 < fs.length) (hn : narrow (tyX7 4) v = v) (hfit : fits (tyX7 4) v = true) (hw : ws.set q0 (a, .inr (7, fs.set 4 v)) = ws') (hdg : decode cc pc = .ok (.putfield index, 3)) (kk : ∀ (H1 : Heap) (locs1 : List Loc), Wd G A s H1 locs1 ws' → W p l e R s m args below meth c H1 locs1 cells slots Q (F0 m (pc + 3) ls rest)) : W p l e R s m args below meth c H locs cells slots Q (F0 m pc ls (v :: .ref a :: rest)) := m_putF (k := 4) C0 h hini q0 tyX7 tyX7_ok nmX7 (rfl : vwCl[7]? = some (RX7, TX7, 7)) gd_X7 (by decide) hlink rfl rfl he hl hn hfit hw hdg kk
theorem g_X7_length (C0 : Cx p s m args meth c own cc nL ret) (h : Wd G A s H locs ws) (q0 : Nat) (hlink : Cond.fieldLink own index "LeftTurns$Routes" "length" "I" ∈ lw_gd) (he : ws[q0]? = some (a, .inr (7, fs))) (hv : fs[5]? = some v) (hdg : decode cc pc = .ok (.getfield index, 3)) (kk : W p l e R s m args below meth c H locs cells slots Q (F0 m (pc + 3) ls (v :: rest))) : W p l e R s m args below meth c H locs cells slots Q (F0 m pc ls (.ref a :: rest)) := m_get (k := 5) C0 h q0 he (rfl : vwCl[7]? = some (RX7, TX7, 7)) gd_X7 (by decide) hlink hv hdg kk
theorem p_X7_length (C0 : Cx p s m args meth c own cc nL ret) (h : Wd G A s H locs ws) (q0 : Nat) (hlink : Cond.fieldLink own index "LeftTurns$Routes" "length" "I" ∈ lw_gd) (he : ws[q0]? = some (a, .inr (7, fs))) (hl : 5 < fs.length) (hn : narrow (tyX7 5) v = v) (hfit : fits (tyX7 5) v = true) (hw : ws.set q0 (a, .inr (7, fs.set 5 v)) = ws') (hdg : decode cc pc = .ok (.putfield index, 3)) (kk : ∀ (H1 : Heap) (locs1 : List Loc), Wd G A s H1 locs1 ws' → W p l e R s m args below meth c H1 locs1 cells slots Q (F0 m (pc + 3) ls rest)) : W p l e R s m args below meth c H locs cells slots Q (F0 m pc ls (v :: .ref a :: rest)) := m_put (k := 5) C0 h q0 tyX7 tyX7_ok nmX7 (rfl : vwCl[7]? = some (RX7, TX7, 7)) gd_X7 (by decide) hlink rfl he hl hn hfit hw hdg kk
theorem g_X7_last (C0 : Cx p s m args meth c own cc nL ret) (h : Wd G A s H locs ws) (q0 : Nat) (hlink : Cond.fieldLink own index "LeftTurns$Routes" "last" "I" ∈ lw_gd) (he : ws[q0]? = some (a, .inr (7, fs))) (hv : fs[6]? = some v) (hdg : decode cc pc = .ok (.getfield index, 3)) (kk : W p l e R s m args below meth c H locs cells slots Q (F0 m (pc + 3) ls (v :: rest))) : W p l e R s m args below meth c H locs cells slots Q (F0 m pc ls (.ref a :: rest)) := m_get (k := 6) C0 h q0 he (rfl : vwCl[7]? = some (RX7, TX7, 7)) gd_X7 (by decide) hlink hv hdg kk
theorem p_X7_last (C0 : Cx p s m args meth c own cc nL ret) (h : Wd G A s H locs ws) (q0 : Nat) (hlink : Cond.fieldLink own index "LeftTurns$Routes" "last" "I" ∈ lw_gd) (he : ws[q0]? = some (a, .inr (7, fs))) (hl : 6 < fs.length) (hn : narrow (tyX7 6) v = v) (hfit : fits (tyX7 6) v = true) (hw : ws.set q0 (a, .inr (7, fs.set 6 v)) = ws') (hdg : decode cc pc = .ok (.putfield index, 3)) (kk : ∀ (H1 : Heap) (locs1 : List Loc), Wd G A s H1 locs1 ws' → W p l e R s m args below meth c H1 locs1 cells slots Q (F0 m (pc + 3) ls rest)) : W p l e R s m args below meth c H locs cells slots Q (F0 m pc ls (v :: .ref a :: rest)) := m_put (k := 6) C0 h q0 tyX7 tyX7_ok nmX7 (rfl : vwCl[7]? = some (RX7, TX7, 7)) gd_X7 (by decide) hlink rfl he hl hn hfit hw hdg kk
theorem gd_X8 : ∀ w ∈ u_ws RX8 TX8 7, w ∈ lw_gd := gd_us (fun k hk => match k, hk with | 0, _ => q_321 | 1, _ => q_323 | 2, _ => q_325 | 3, _ => q_327 | 4, _ => q_329 | 5, _ => q_331 | 6, _ => q_333 | k + 7, hk => absurd hk (by omega))
theorem g_X8_city (C0 : Cx p s m args meth c own cc nL ret) (h : Wd G A s H locs ws) (q0 : Nat) (hlink : Cond.fieldLink own index "LeftTurns$Spread" "city" "LLeftTurns$City;" ∈ lw_gd) (he : ws[q0]? = some (a, .inr (8, fs))) (hv : fs[0]? = some v) (hdg : decode cc pc = .ok (.getfield index, 3)) (kk : W p l e R s m args below meth c H locs cells slots Q (F0 m (pc + 3) ls (v :: rest))) : W p l e R s m args below meth c H locs cells slots Q (F0 m pc ls (.ref a :: rest)) := m_get (k := 0) C0 h q0 he (rfl : vwCl[8]? = some (RX8, TX8, 7)) gd_X8 (by decide) hlink hv hdg kk
theorem f_X8_city (C0 : Cx p s m args meth c RX8 cc nL ret) (h : Wd G A s H locs ws) (hini : meth.name = "<init>") (q0 : Nat) (hlink : Cond.fieldLink RX8 index "LeftTurns$Spread" "city" "LLeftTurns$City;" ∈ lw_gd) (he : ws[q0]? = some (a, .inr (8, fs))) (hl : 0 < fs.length) (hn : narrow (tyX8 0) v = v) (hfit : fits (tyX8 0) v = true) (hw : ws.set q0 (a, .inr (8, fs.set 0 v)) = ws') (hdg : decode cc pc = .ok (.putfield index, 3)) (kk : ∀ (H1 : Heap) (locs1 : List Loc), Wd G A s H1 locs1 ws' → W p l e R s m args below meth c H1 locs1 cells slots Q (F0 m (pc + 3) ls rest)) : W p l e R s m args below meth c H locs cells slots Q (F0 m pc ls (v :: .ref a :: rest)) := m_putF (k := 0) C0 h hini q0 tyX8 tyX8_ok nmX8 (rfl : vwCl[8]? = some (RX8, TX8, 7)) gd_X8 (by decide) hlink rfl rfl he hl hn hfit hw hdg kk
theorem g_X8_forecast (C0 : Cx p s m args meth c own cc nL ret) (h : Wd G A s H locs ws) (q0 : Nat) (hlink : Cond.fieldLink own index "LeftTurns$Spread" "forecast" "LLeftTurns$Forecast;" ∈ lw_gd) (he : ws[q0]? = some (a, .inr (8, fs))) (hv : fs[1]? = some v) (hdg : decode cc pc = .ok (.getfield index, 3)) (kk : W p l e R s m args below meth c H locs cells slots Q (F0 m (pc + 3) ls (v :: rest))) : W p l e R s m args below meth c H locs cells slots Q (F0 m pc ls (.ref a :: rest)) := m_get (k := 1) C0 h q0 he (rfl : vwCl[8]? = some (RX8, TX8, 7)) gd_X8 (by decide) hlink hv hdg kk
theorem f_X8_forecast (C0 : Cx p s m args meth c RX8 cc nL ret) (h : Wd G A s H locs ws) (hini : meth.name = "<init>") (q0 : Nat) (hlink : Cond.fieldLink RX8 index "LeftTurns$Spread" "forecast" "LLeftTurns$Forecast;" ∈ lw_gd) (he : ws[q0]? = some (a, .inr (8, fs))) (hl : 1 < fs.length) (hn : narrow (tyX8 1) v = v) (hfit : fits (tyX8 1) v = true) (hw : ws.set q0 (a, .inr (8, fs.set 1 v)) = ws') (hdg : decode cc pc = .ok (.putfield index, 3)) (kk : ∀ (H1 : Heap) (locs1 : List Loc), Wd G A s H1 locs1 ws' → W p l e R s m args below meth c H1 locs1 cells slots Q (F0 m (pc + 3) ls rest)) : W p l e R s m args below meth c H locs cells slots Q (F0 m pc ls (v :: .ref a :: rest)) := m_putF (k := 1) C0 h hini q0 tyX8 tyX8_ok nmX8 (rfl : vwCl[8]? = some (RX8, TX8, 7)) gd_X8 (by decide) hlink rfl rfl he hl hn hfit hw hdg kk
theorem g_X8_sets (C0 : Cx p s m args meth c own cc nL ret) (h : Wd G A s H locs ws) (q0 : Nat) (hlink : Cond.fieldLink own index "LeftTurns$Spread" "sets" "[I" ∈ lw_gd) (he : ws[q0]? = some (a, .inr (8, fs))) (hv : fs[2]? = some v) (hdg : decode cc pc = .ok (.getfield index, 3)) (kk : W p l e R s m args below meth c H locs cells slots Q (F0 m (pc + 3) ls (v :: rest))) : W p l e R s m args below meth c H locs cells slots Q (F0 m pc ls (.ref a :: rest)) := m_get (k := 2) C0 h q0 he (rfl : vwCl[8]? = some (RX8, TX8, 7)) gd_X8 (by decide) hlink hv hdg kk
theorem p_X8_sets (C0 : Cx p s m args meth c own cc nL ret) (h : Wd G A s H locs ws) (q0 : Nat) (hlink : Cond.fieldLink own index "LeftTurns$Spread" "sets" "[I" ∈ lw_gd) (he : ws[q0]? = some (a, .inr (8, fs))) (hl : 2 < fs.length) (hn : narrow (tyX8 2) v = v) (hfit : fits (tyX8 2) v = true) (hw : ws.set q0 (a, .inr (8, fs.set 2 v)) = ws') (hdg : decode cc pc = .ok (.putfield index, 3)) (kk : ∀ (H1 : Heap) (locs1 : List Loc), Wd G A s H1 locs1 ws' → W p l e R s m args below meth c H1 locs1 cells slots Q (F0 m (pc + 3) ls rest)) : W p l e R s m args below meth c H locs cells slots Q (F0 m pc ls (v :: .ref a :: rest)) := m_put (k := 2) C0 h q0 tyX8 tyX8_ok nmX8 (rfl : vwCl[8]? = some (RX8, TX8, 7)) gd_X8 (by decide) hlink rfl he hl hn hfit hw hdg kk
theorem g_X8_nexts (C0 : Cx p s m args meth c own cc nL ret) (h : Wd G A s H locs ws) (q0 : Nat) (hlink : Cond.fieldLink own index "LeftTurns$Spread" "nexts" "[I" ∈ lw_gd) (he : ws[q0]? = some (a, .inr (8, fs))) (hv : fs[3]? = some v) (hdg : decode cc pc = .ok (.getfield index, 3)) (kk : W p l e R s m args below meth c H locs cells slots Q (F0 m (pc + 3) ls (v :: rest))) : W p l e R s m args below meth c H locs cells slots Q (F0 m pc ls (.ref a :: rest)) := m_get (k := 3) C0 h q0 he (rfl : vwCl[8]? = some (RX8, TX8, 7)) gd_X8 (by decide) hlink hv hdg kk
theorem p_X8_nexts (C0 : Cx p s m args meth c own cc nL ret) (h : Wd G A s H locs ws) (q0 : Nat) (hlink : Cond.fieldLink own index "LeftTurns$Spread" "nexts" "[I" ∈ lw_gd) (he : ws[q0]? = some (a, .inr (8, fs))) (hl : 3 < fs.length) (hn : narrow (tyX8 3) v = v) (hfit : fits (tyX8 3) v = true) (hw : ws.set q0 (a, .inr (8, fs.set 3 v)) = ws') (hdg : decode cc pc = .ok (.putfield index, 3)) (kk : ∀ (H1 : Heap) (locs1 : List Loc), Wd G A s H1 locs1 ws' → W p l e R s m args below meth c H1 locs1 cells slots Q (F0 m (pc + 3) ls rest)) : W p l e R s m args below meth c H locs cells slots Q (F0 m pc ls (v :: .ref a :: rest)) := m_put (k := 3) C0 h q0 tyX8 tyX8_ok nmX8 (rfl : vwCl[8]? = some (RX8, TX8, 7)) gd_X8 (by decide) hlink rfl he hl hn hfit hw hdg kk
theorem g_X8_top (C0 : Cx p s m args meth c own cc nL ret) (h : Wd G A s H locs ws) (q0 : Nat) (hlink : Cond.fieldLink own index "LeftTurns$Spread" "top" "I" ∈ lw_gd) (he : ws[q0]? = some (a, .inr (8, fs))) (hv : fs[4]? = some v) (hdg : decode cc pc = .ok (.getfield index, 3)) (kk : W p l e R s m args below meth c H locs cells slots Q (F0 m (pc + 3) ls (v :: rest))) : W p l e R s m args below meth c H locs cells slots Q (F0 m pc ls (.ref a :: rest)) := m_get (k := 4) C0 h q0 he (rfl : vwCl[8]? = some (RX8, TX8, 7)) gd_X8 (by decide) hlink hv hdg kk
theorem p_X8_top (C0 : Cx p s m args meth c own cc nL ret) (h : Wd G A s H locs ws) (q0 : Nat) (hlink : Cond.fieldLink own index "LeftTurns$Spread" "top" "I" ∈ lw_gd) (he : ws[q0]? = some (a, .inr (8, fs))) (hl : 4 < fs.length) (hn : narrow (tyX8 4) v = v) (hfit : fits (tyX8 4) v = true) (hw : ws.set q0 (a, .inr (8, fs.set 4 v)) = ws') (hdg : decode cc pc = .ok (.putfield index, 3)) (kk : ∀ (H1 : Heap) (locs1 : List Loc), Wd G A s H1 locs1 ws' → W p l e R s m args below meth c H1 locs1 cells slots Q (F0 m (pc + 3) ls rest)) : W p l e R s m args below meth c H locs cells slots Q (F0 m pc ls (v :: .ref a :: rest)) := m_put (k := 4) C0 h q0 tyX8 tyX8_ok nmX8 (rfl : vwCl[8]? = some (RX8, TX8, 7)) gd_X8 (by decide) hlink rfl he hl hn hfit hw hdg kk
theorem g_X8_streets (C0 : Cx p s m args meth c own cc nL ret) (h : Wd G A s H locs ws) (q0 : Nat) (hlink : Cond.fieldLink own index "LeftTurns$Spread" "streets" "I" ∈ lw_gd) (he : ws[q0]? = some (a, .inr (8, fs))) (hv : fs[5]? = some v) (hdg : decode cc pc = .ok (.getfield index, 3)) (kk : W p l e R s m args below meth c H locs cells slots Q (F0 m (pc + 3) ls (v :: rest))) : W p l e R s m args below meth c H locs cells slots Q (F0 m pc ls (.ref a :: rest)) := m_get (k := 5) C0 h q0 he (rfl : vwCl[8]? = some (RX8, TX8, 7)) gd_X8 (by decide) hlink hv hdg kk
theorem p_X8_streets (C0 : Cx p s m args meth c own cc nL ret) (h : Wd G A s H locs ws) (q0 : Nat) (hlink : Cond.fieldLink own index "LeftTurns$Spread" "streets" "I" ∈ lw_gd) (he : ws[q0]? = some (a, .inr (8, fs))) (hl : 5 < fs.length) (hn : narrow (tyX8 5) v = v) (hfit : fits (tyX8 5) v = true) (hw : ws.set q0 (a, .inr (8, fs.set 5 v)) = ws') (hdg : decode cc pc = .ok (.putfield index, 3)) (kk : ∀ (H1 : Heap) (locs1 : List Loc), Wd G A s H1 locs1 ws' → W p l e R s m args below meth c H1 locs1 cells slots Q (F0 m (pc + 3) ls rest)) : W p l e R s m args below meth c H locs cells slots Q (F0 m pc ls (v :: .ref a :: rest)) := m_put (k := 5) C0 h q0 tyX8 tyX8_ok nmX8 (rfl : vwCl[8]? = some (RX8, TX8, 7)) gd_X8 (by decide) hlink rfl he hl hn hfit hw hdg kk
theorem g_X8_reached (C0 : Cx p s m args meth c own cc nL ret) (h : Wd G A s H locs ws) (q0 : Nat) (hlink : Cond.fieldLink own index "LeftTurns$Spread" "reached" "[I" ∈ lw_gd) (he : ws[q0]? = some (a, .inr (8, fs))) (hv : fs[6]? = some v) (hdg : decode cc pc = .ok (.getfield index, 3)) (kk : W p l e R s m args below meth c H locs cells slots Q (F0 m (pc + 3) ls (v :: rest))) : W p l e R s m args below meth c H locs cells slots Q (F0 m pc ls (.ref a :: rest)) := m_get (k := 6) C0 h q0 he (rfl : vwCl[8]? = some (RX8, TX8, 7)) gd_X8 (by decide) hlink hv hdg kk
theorem f_X8_reached (C0 : Cx p s m args meth c RX8 cc nL ret) (h : Wd G A s H locs ws) (hini : meth.name = "<init>") (q0 : Nat) (hlink : Cond.fieldLink RX8 index "LeftTurns$Spread" "reached" "[I" ∈ lw_gd) (he : ws[q0]? = some (a, .inr (8, fs))) (hl : 6 < fs.length) (hn : narrow (tyX8 6) v = v) (hfit : fits (tyX8 6) v = true) (hw : ws.set q0 (a, .inr (8, fs.set 6 v)) = ws') (hdg : decode cc pc = .ok (.putfield index, 3)) (kk : ∀ (H1 : Heap) (locs1 : List Loc), Wd G A s H1 locs1 ws' → W p l e R s m args below meth c H1 locs1 cells slots Q (F0 m (pc + 3) ls rest)) : W p l e R s m args below meth c H locs cells slots Q (F0 m pc ls (v :: .ref a :: rest)) := m_putF (k := 6) C0 h hini q0 tyX8 tyX8_ok nmX8 (rfl : vwCl[8]? = some (RX8, TX8, 7)) gd_X8 (by decide) hlink rfl rfl he hl hn hfit hw hdg kk
theorem gd_X9 : ∀ w ∈ u_ws RX9 TX9 5, w ∈ lw_gd := gd_us (fun k hk => match k, hk with | 0, _ => q_457 | 1, _ => q_459 | 2, _ => q_461 | 3, _ => q_463 | 4, _ => q_465 | k + 5, hk => absurd hk (by omega))
theorem g_X9_city (C0 : Cx p s m args meth c own cc nL ret) (h : Wd G A s H locs ws) (q0 : Nat) (hlink : Cond.fieldLink own index "LeftTurns$Tally" "city" "LLeftTurns$City;" ∈ lw_gd) (he : ws[q0]? = some (a, .inr (9, fs))) (hv : fs[0]? = some v) (hdg : decode cc pc = .ok (.getfield index, 3)) (kk : W p l e R s m args below meth c H locs cells slots Q (F0 m (pc + 3) ls (v :: rest))) : W p l e R s m args below meth c H locs cells slots Q (F0 m pc ls (.ref a :: rest)) := m_get (k := 0) C0 h q0 he (rfl : vwCl[9]? = some (RX9, TX9, 5)) gd_X9 (by decide) hlink hv hdg kk
theorem f_X9_city (C0 : Cx p s m args meth c RX9 cc nL ret) (h : Wd G A s H locs ws) (hini : meth.name = "<init>") (q0 : Nat) (hlink : Cond.fieldLink RX9 index "LeftTurns$Tally" "city" "LLeftTurns$City;" ∈ lw_gd) (he : ws[q0]? = some (a, .inr (9, fs))) (hl : 0 < fs.length) (hn : narrow (tyX9 0) v = v) (hfit : fits (tyX9 0) v = true) (hw : ws.set q0 (a, .inr (9, fs.set 0 v)) = ws') (hdg : decode cc pc = .ok (.putfield index, 3)) (kk : ∀ (H1 : Heap) (locs1 : List Loc), Wd G A s H1 locs1 ws' → W p l e R s m args below meth c H1 locs1 cells slots Q (F0 m (pc + 3) ls rest)) : W p l e R s m args below meth c H locs cells slots Q (F0 m pc ls (v :: .ref a :: rest)) := m_putF (k := 0) C0 h hini q0 tyX9 tyX9_ok nmX9 (rfl : vwCl[9]? = some (RX9, TX9, 5)) gd_X9 (by decide) hlink rfl rfl he hl hn hfit hw hdg kk
theorem g_X9_forecast (C0 : Cx p s m args meth c own cc nL ret) (h : Wd G A s H locs ws) (q0 : Nat) (hlink : Cond.fieldLink own index "LeftTurns$Tally" "forecast" "LLeftTurns$Forecast;" ∈ lw_gd) (he : ws[q0]? = some (a, .inr (9, fs))) (hv : fs[1]? = some v) (hdg : decode cc pc = .ok (.getfield index, 3)) (kk : W p l e R s m args below meth c H locs cells slots Q (F0 m (pc + 3) ls (v :: rest))) : W p l e R s m args below meth c H locs cells slots Q (F0 m pc ls (.ref a :: rest)) := m_get (k := 1) C0 h q0 he (rfl : vwCl[9]? = some (RX9, TX9, 5)) gd_X9 (by decide) hlink hv hdg kk
theorem f_X9_forecast (C0 : Cx p s m args meth c RX9 cc nL ret) (h : Wd G A s H locs ws) (hini : meth.name = "<init>") (q0 : Nat) (hlink : Cond.fieldLink RX9 index "LeftTurns$Tally" "forecast" "LLeftTurns$Forecast;" ∈ lw_gd) (he : ws[q0]? = some (a, .inr (9, fs))) (hl : 1 < fs.length) (hn : narrow (tyX9 1) v = v) (hfit : fits (tyX9 1) v = true) (hw : ws.set q0 (a, .inr (9, fs.set 1 v)) = ws') (hdg : decode cc pc = .ok (.putfield index, 3)) (kk : ∀ (H1 : Heap) (locs1 : List Loc), Wd G A s H1 locs1 ws' → W p l e R s m args below meth c H1 locs1 cells slots Q (F0 m (pc + 3) ls rest)) : W p l e R s m args below meth c H locs cells slots Q (F0 m pc ls (v :: .ref a :: rest)) := m_putF (k := 1) C0 h hini q0 tyX9 tyX9_ok nmX9 (rfl : vwCl[9]? = some (RX9, TX9, 5)) gd_X9 (by decide) hlink rfl rfl he hl hn hfit hw hdg kk
theorem g_X9_ways (C0 : Cx p s m args meth c own cc nL ret) (h : Wd G A s H locs ws) (q0 : Nat) (hlink : Cond.fieldLink own index "LeftTurns$Tally" "ways" "[[J" ∈ lw_gd) (he : ws[q0]? = some (a, .inr (9, fs))) (hv : fs[2]? = some v) (hdg : decode cc pc = .ok (.getfield index, 3)) (kk : W p l e R s m args below meth c H locs cells slots Q (F0 m (pc + 3) ls (v :: rest))) : W p l e R s m args below meth c H locs cells slots Q (F0 m pc ls (.ref a :: rest)) := m_get (k := 2) C0 h q0 he (rfl : vwCl[9]? = some (RX9, TX9, 5)) gd_X9 (by decide) hlink hv hdg kk
theorem f_X9_ways (C0 : Cx p s m args meth c RX9 cc nL ret) (h : Wd G A s H locs ws) (hini : meth.name = "<init>") (q0 : Nat) (hlink : Cond.fieldLink RX9 index "LeftTurns$Tally" "ways" "[[J" ∈ lw_gd) (he : ws[q0]? = some (a, .inr (9, fs))) (hl : 2 < fs.length) (hn : narrow (tyX9 2) v = v) (hfit : fits (tyX9 2) v = true) (hw : ws.set q0 (a, .inr (9, fs.set 2 v)) = ws') (hdg : decode cc pc = .ok (.putfield index, 3)) (kk : ∀ (H1 : Heap) (locs1 : List Loc), Wd G A s H1 locs1 ws' → W p l e R s m args below meth c H1 locs1 cells slots Q (F0 m (pc + 3) ls rest)) : W p l e R s m args below meth c H locs cells slots Q (F0 m pc ls (v :: .ref a :: rest)) := m_putF (k := 2) C0 h hini q0 tyX9 tyX9_ok nmX9 (rfl : vwCl[9]? = some (RX9, TX9, 5)) gd_X9 (by decide) hlink rfl rfl he hl hn hfit hw hdg kk
theorem g_X9_most (C0 : Cx p s m args meth c own cc nL ret) (h : Wd G A s H locs ws) (q0 : Nat) (hlink : Cond.fieldLink own index "LeftTurns$Tally" "most" "[[I" ∈ lw_gd) (he : ws[q0]? = some (a, .inr (9, fs))) (hv : fs[3]? = some v) (hdg : decode cc pc = .ok (.getfield index, 3)) (kk : W p l e R s m args below meth c H locs cells slots Q (F0 m (pc + 3) ls (v :: rest))) : W p l e R s m args below meth c H locs cells slots Q (F0 m pc ls (.ref a :: rest)) := m_get (k := 3) C0 h q0 he (rfl : vwCl[9]? = some (RX9, TX9, 5)) gd_X9 (by decide) hlink hv hdg kk
theorem f_X9_most (C0 : Cx p s m args meth c RX9 cc nL ret) (h : Wd G A s H locs ws) (hini : meth.name = "<init>") (q0 : Nat) (hlink : Cond.fieldLink RX9 index "LeftTurns$Tally" "most" "[[I" ∈ lw_gd) (he : ws[q0]? = some (a, .inr (9, fs))) (hl : 3 < fs.length) (hn : narrow (tyX9 3) v = v) (hfit : fits (tyX9 3) v = true) (hw : ws.set q0 (a, .inr (9, fs.set 3 v)) = ws') (hdg : decode cc pc = .ok (.putfield index, 3)) (kk : ∀ (H1 : Heap) (locs1 : List Loc), Wd G A s H1 locs1 ws' → W p l e R s m args below meth c H1 locs1 cells slots Q (F0 m (pc + 3) ls rest)) : W p l e R s m args below meth c H locs cells slots Q (F0 m pc ls (v :: .ref a :: rest)) := m_putF (k := 3) C0 h hini q0 tyX9 tyX9_ok nmX9 (rfl : vwCl[9]? = some (RX9, TX9, 5)) gd_X9 (by decide) hlink rfl rfl he hl hn hfit hw hdg kk
theorem g_X9_coins (C0 : Cx p s m args meth c own cc nL ret) (h : Wd G A s H locs ws) (q0 : Nat) (hlink : Cond.fieldLink own index "LeftTurns$Tally" "coins" "[[I" ∈ lw_gd) (he : ws[q0]? = some (a, .inr (9, fs))) (hv : fs[4]? = some v) (hdg : decode cc pc = .ok (.getfield index, 3)) (kk : W p l e R s m args below meth c H locs cells slots Q (F0 m (pc + 3) ls (v :: rest))) : W p l e R s m args below meth c H locs cells slots Q (F0 m pc ls (.ref a :: rest)) := m_get (k := 4) C0 h q0 he (rfl : vwCl[9]? = some (RX9, TX9, 5)) gd_X9 (by decide) hlink hv hdg kk
theorem f_X9_coins (C0 : Cx p s m args meth c RX9 cc nL ret) (h : Wd G A s H locs ws) (hini : meth.name = "<init>") (q0 : Nat) (hlink : Cond.fieldLink RX9 index "LeftTurns$Tally" "coins" "[[I" ∈ lw_gd) (he : ws[q0]? = some (a, .inr (9, fs))) (hl : 4 < fs.length) (hn : narrow (tyX9 4) v = v) (hfit : fits (tyX9 4) v = true) (hw : ws.set q0 (a, .inr (9, fs.set 4 v)) = ws') (hdg : decode cc pc = .ok (.putfield index, 3)) (kk : ∀ (H1 : Heap) (locs1 : List Loc), Wd G A s H1 locs1 ws' → W p l e R s m args below meth c H1 locs1 cells slots Q (F0 m (pc + 3) ls rest)) : W p l e R s m args below meth c H locs cells slots Q (F0 m pc ls (v :: .ref a :: rest)) := m_putF (k := 4) C0 h hini q0 tyX9 tyX9_ok nmX9 (rfl : vwCl[9]? = some (RX9, TX9, 5)) gd_X9 (by decide) hlink rfl rfl he hl hn hfit hw hdg kk
theorem gd_X10 : ∀ w ∈ u_ws RX10 TX10 3, w ∈ lw_gd := gd_us (fun k hk => match k, hk with | 0, _ => q_504 | 1, _ => q_506 | 2, _ => q_508 | k + 3, hk => absurd hk (by omega))
theorem g_X10_values (C0 : Cx p s m args meth c own cc nL ret) (h : Wd G A s H locs ws) (q0 : Nat) (hlink : Cond.fieldLink own index "LeftTurns$Tray" "values" "[J" ∈ lw_gd) (he : ws[q0]? = some (a, .inr (10, fs))) (hv : fs[0]? = some v) (hdg : decode cc pc = .ok (.getfield index, 3)) (kk : W p l e R s m args below meth c H locs cells slots Q (F0 m (pc + 3) ls (v :: rest))) : W p l e R s m args below meth c H locs cells slots Q (F0 m pc ls (.ref a :: rest)) := m_get (k := 0) C0 h q0 he (rfl : vwCl[10]? = some (RX10, TX10, 3)) gd_X10 (by decide) hlink hv hdg kk
theorem f_X10_values (C0 : Cx p s m args meth c RX10 cc nL ret) (h : Wd G A s H locs ws) (hini : meth.name = "<init>") (q0 : Nat) (hlink : Cond.fieldLink RX10 index "LeftTurns$Tray" "values" "[J" ∈ lw_gd) (he : ws[q0]? = some (a, .inr (10, fs))) (hl : 0 < fs.length) (hn : narrow (tyX10 0) v = v) (hfit : fits (tyX10 0) v = true) (hw : ws.set q0 (a, .inr (10, fs.set 0 v)) = ws') (hdg : decode cc pc = .ok (.putfield index, 3)) (kk : ∀ (H1 : Heap) (locs1 : List Loc), Wd G A s H1 locs1 ws' → W p l e R s m args below meth c H1 locs1 cells slots Q (F0 m (pc + 3) ls rest)) : W p l e R s m args below meth c H locs cells slots Q (F0 m pc ls (v :: .ref a :: rest)) := m_putF (k := 0) C0 h hini q0 tyX10 tyX10_ok nmX10 (rfl : vwCl[10]? = some (RX10, TX10, 3)) gd_X10 (by decide) hlink rfl rfl he hl hn hfit hw hdg kk
theorem g_X10_sort (C0 : Cx p s m args meth c own cc nL ret) (h : Wd G A s H locs ws) (q0 : Nat) (hlink : Cond.fieldLink own index "LeftTurns$Tray" "sort" "I" ∈ lw_gd) (he : ws[q0]? = some (a, .inr (10, fs))) (hv : fs[1]? = some v) (hdg : decode cc pc = .ok (.getfield index, 3)) (kk : W p l e R s m args below meth c H locs cells slots Q (F0 m (pc + 3) ls (v :: rest))) : W p l e R s m args below meth c H locs cells slots Q (F0 m pc ls (.ref a :: rest)) := m_get (k := 1) C0 h q0 he (rfl : vwCl[10]? = some (RX10, TX10, 3)) gd_X10 (by decide) hlink hv hdg kk
theorem p_X10_sort (C0 : Cx p s m args meth c own cc nL ret) (h : Wd G A s H locs ws) (q0 : Nat) (hlink : Cond.fieldLink own index "LeftTurns$Tray" "sort" "I" ∈ lw_gd) (he : ws[q0]? = some (a, .inr (10, fs))) (hl : 1 < fs.length) (hn : narrow (tyX10 1) v = v) (hfit : fits (tyX10 1) v = true) (hw : ws.set q0 (a, .inr (10, fs.set 1 v)) = ws') (hdg : decode cc pc = .ok (.putfield index, 3)) (kk : ∀ (H1 : Heap) (locs1 : List Loc), Wd G A s H1 locs1 ws' → W p l e R s m args below meth c H1 locs1 cells slots Q (F0 m (pc + 3) ls rest)) : W p l e R s m args below meth c H locs cells slots Q (F0 m pc ls (v :: .ref a :: rest)) := m_put (k := 1) C0 h q0 tyX10 tyX10_ok nmX10 (rfl : vwCl[10]? = some (RX10, TX10, 3)) gd_X10 (by decide) hlink rfl he hl hn hfit hw hdg kk
theorem g_X10_size (C0 : Cx p s m args meth c own cc nL ret) (h : Wd G A s H locs ws) (q0 : Nat) (hlink : Cond.fieldLink own index "LeftTurns$Tray" "size" "I" ∈ lw_gd) (he : ws[q0]? = some (a, .inr (10, fs))) (hv : fs[2]? = some v) (hdg : decode cc pc = .ok (.getfield index, 3)) (kk : W p l e R s m args below meth c H locs cells slots Q (F0 m (pc + 3) ls (v :: rest))) : W p l e R s m args below meth c H locs cells slots Q (F0 m pc ls (.ref a :: rest)) := m_get (k := 2) C0 h q0 he (rfl : vwCl[10]? = some (RX10, TX10, 3)) gd_X10 (by decide) hlink hv hdg kk
theorem p_X10_size (C0 : Cx p s m args meth c own cc nL ret) (h : Wd G A s H locs ws) (q0 : Nat) (hlink : Cond.fieldLink own index "LeftTurns$Tray" "size" "I" ∈ lw_gd) (he : ws[q0]? = some (a, .inr (10, fs))) (hl : 2 < fs.length) (hn : narrow (tyX10 2) v = v) (hfit : fits (tyX10 2) v = true) (hw : ws.set q0 (a, .inr (10, fs.set 2 v)) = ws') (hdg : decode cc pc = .ok (.putfield index, 3)) (kk : ∀ (H1 : Heap) (locs1 : List Loc), Wd G A s H1 locs1 ws' → W p l e R s m args below meth c H1 locs1 cells slots Q (F0 m (pc + 3) ls rest)) : W p l e R s m args below meth c H locs cells slots Q (F0 m pc ls (v :: .ref a :: rest)) := m_put (k := 2) C0 h q0 tyX10 tyX10_ok nmX10 (rfl : vwCl[10]? = some (RX10, TX10, 3)) gd_X10 (by decide) hlink rfl he hl hn hfit hw hdg kk
theorem gd_X11 : ∀ w ∈ u_ws RX11 TX11 19, w ∈ lw_gd := gd_us (fun k hk => match k, hk with | 0, _ => q_534 | 1, _ => q_536 | 2, _ => q_538 | 3, _ => q_540 | 4, _ => q_542 | 5, _ => q_544 | 6, _ => q_546 | 7, _ => q_548 | 8, _ => q_550 | 9, _ => q_552 | 10, _ => q_554 | 11, _ => q_556 | 12, _ => q_558 | 13, _ => q_560 | 14, _ => q_562 | 15, _ => q_564 | 16, _ => q_566 | 17, _ => q_568 | 18, _ => q_570 | k + 19, hk => absurd hk (by omega))
theorem g_X11_now (C0 : Cx p s m args meth c own cc nL ret) (h : Wd G A s H locs ws) (q0 : Nat) (hlink : Cond.fieldLink own index "LeftTurns" "now" "LLeftTurns$City;" ∈ lw_gd) (he : ws[q0]? = some (a, .inr (11, fs))) (hv : fs[0]? = some v) (hdg : decode cc pc = .ok (.getfield index, 3)) (kk : W p l e R s m args below meth c H locs cells slots Q (F0 m (pc + 3) ls (v :: rest))) : W p l e R s m args below meth c H locs cells slots Q (F0 m pc ls (.ref a :: rest)) := m_get (k := 0) C0 h q0 he (rfl : vwCl[11]? = some (RX11, TX11, 19)) gd_X11 (by decide) hlink hv hdg kk
theorem f_X11_now (C0 : Cx p s m args meth c RX11 cc nL ret) (h : Wd G A s H locs ws) (hini : meth.name = "<init>") (q0 : Nat) (hlink : Cond.fieldLink RX11 index "LeftTurns" "now" "LLeftTurns$City;" ∈ lw_gd) (he : ws[q0]? = some (a, .inr (11, fs))) (hl : 0 < fs.length) (hn : narrow (tyX11 0) v = v) (hfit : fits (tyX11 0) v = true) (hw : ws.set q0 (a, .inr (11, fs.set 0 v)) = ws') (hdg : decode cc pc = .ok (.putfield index, 3)) (kk : ∀ (H1 : Heap) (locs1 : List Loc), Wd G A s H1 locs1 ws' → W p l e R s m args below meth c H1 locs1 cells slots Q (F0 m (pc + 3) ls rest)) : W p l e R s m args below meth c H locs cells slots Q (F0 m pc ls (v :: .ref a :: rest)) := m_putF (k := 0) C0 h hini q0 tyX11 tyX11_ok nmX11 (rfl : vwCl[11]? = some (RX11, TX11, 19)) gd_X11 (by decide) hlink rfl rfl he hl hn hfit hw hdg kk
theorem g_X11_spare (C0 : Cx p s m args meth c own cc nL ret) (h : Wd G A s H locs ws) (q0 : Nat) (hlink : Cond.fieldLink own index "LeftTurns" "spare" "LLeftTurns$City;" ∈ lw_gd) (he : ws[q0]? = some (a, .inr (11, fs))) (hv : fs[1]? = some v) (hdg : decode cc pc = .ok (.getfield index, 3)) (kk : W p l e R s m args below meth c H locs cells slots Q (F0 m (pc + 3) ls (v :: rest))) : W p l e R s m args below meth c H locs cells slots Q (F0 m pc ls (.ref a :: rest)) := m_get (k := 1) C0 h q0 he (rfl : vwCl[11]? = some (RX11, TX11, 19)) gd_X11 (by decide) hlink hv hdg kk
theorem f_X11_spare (C0 : Cx p s m args meth c RX11 cc nL ret) (h : Wd G A s H locs ws) (hini : meth.name = "<init>") (q0 : Nat) (hlink : Cond.fieldLink RX11 index "LeftTurns" "spare" "LLeftTurns$City;" ∈ lw_gd) (he : ws[q0]? = some (a, .inr (11, fs))) (hl : 1 < fs.length) (hn : narrow (tyX11 1) v = v) (hfit : fits (tyX11 1) v = true) (hw : ws.set q0 (a, .inr (11, fs.set 1 v)) = ws') (hdg : decode cc pc = .ok (.putfield index, 3)) (kk : ∀ (H1 : Heap) (locs1 : List Loc), Wd G A s H1 locs1 ws' → W p l e R s m args below meth c H1 locs1 cells slots Q (F0 m (pc + 3) ls rest)) : W p l e R s m args below meth c H locs cells slots Q (F0 m pc ls (v :: .ref a :: rest)) := m_putF (k := 1) C0 h hini q0 tyX11 tyX11_ok nmX11 (rfl : vwCl[11]? = some (RX11, TX11, 19)) gd_X11 (by decide) hlink rfl rfl he hl hn hfit hw hdg kk
theorem g_X11_reader (C0 : Cx p s m args meth c own cc nL ret) (h : Wd G A s H locs ws) (q0 : Nat) (hlink : Cond.fieldLink own index "LeftTurns" "reader" "LLeftTurns$Reader;" ∈ lw_gd) (he : ws[q0]? = some (a, .inr (11, fs))) (hv : fs[2]? = some v) (hdg : decode cc pc = .ok (.getfield index, 3)) (kk : W p l e R s m args below meth c H locs cells slots Q (F0 m (pc + 3) ls (v :: rest))) : W p l e R s m args below meth c H locs cells slots Q (F0 m pc ls (.ref a :: rest)) := m_get (k := 2) C0 h q0 he (rfl : vwCl[11]? = some (RX11, TX11, 19)) gd_X11 (by decide) hlink hv hdg kk
theorem f_X11_reader (C0 : Cx p s m args meth c RX11 cc nL ret) (h : Wd G A s H locs ws) (hini : meth.name = "<init>") (q0 : Nat) (hlink : Cond.fieldLink RX11 index "LeftTurns" "reader" "LLeftTurns$Reader;" ∈ lw_gd) (he : ws[q0]? = some (a, .inr (11, fs))) (hl : 2 < fs.length) (hn : narrow (tyX11 2) v = v) (hfit : fits (tyX11 2) v = true) (hw : ws.set q0 (a, .inr (11, fs.set 2 v)) = ws') (hdg : decode cc pc = .ok (.putfield index, 3)) (kk : ∀ (H1 : Heap) (locs1 : List Loc), Wd G A s H1 locs1 ws' → W p l e R s m args below meth c H1 locs1 cells slots Q (F0 m (pc + 3) ls rest)) : W p l e R s m args below meth c H locs cells slots Q (F0 m pc ls (v :: .ref a :: rest)) := m_putF (k := 2) C0 h hini q0 tyX11 tyX11_ok nmX11 (rfl : vwCl[11]? = some (RX11, TX11, 19)) gd_X11 (by decide) hlink rfl rfl he hl hn hfit hw hdg kk
theorem g_X11_forecast (C0 : Cx p s m args meth c own cc nL ret) (h : Wd G A s H locs ws) (q0 : Nat) (hlink : Cond.fieldLink own index "LeftTurns" "forecast" "LLeftTurns$Forecast;" ∈ lw_gd) (he : ws[q0]? = some (a, .inr (11, fs))) (hv : fs[3]? = some v) (hdg : decode cc pc = .ok (.getfield index, 3)) (kk : W p l e R s m args below meth c H locs cells slots Q (F0 m (pc + 3) ls (v :: rest))) : W p l e R s m args below meth c H locs cells slots Q (F0 m pc ls (.ref a :: rest)) := m_get (k := 3) C0 h q0 he (rfl : vwCl[11]? = some (RX11, TX11, 19)) gd_X11 (by decide) hlink hv hdg kk
theorem f_X11_forecast (C0 : Cx p s m args meth c RX11 cc nL ret) (h : Wd G A s H locs ws) (hini : meth.name = "<init>") (q0 : Nat) (hlink : Cond.fieldLink RX11 index "LeftTurns" "forecast" "LLeftTurns$Forecast;" ∈ lw_gd) (he : ws[q0]? = some (a, .inr (11, fs))) (hl : 3 < fs.length) (hn : narrow (tyX11 3) v = v) (hfit : fits (tyX11 3) v = true) (hw : ws.set q0 (a, .inr (11, fs.set 3 v)) = ws') (hdg : decode cc pc = .ok (.putfield index, 3)) (kk : ∀ (H1 : Heap) (locs1 : List Loc), Wd G A s H1 locs1 ws' → W p l e R s m args below meth c H1 locs1 cells slots Q (F0 m (pc + 3) ls rest)) : W p l e R s m args below meth c H locs cells slots Q (F0 m pc ls (v :: .ref a :: rest)) := m_putF (k := 3) C0 h hini q0 tyX11 tyX11_ok nmX11 (rfl : vwCl[11]? = some (RX11, TX11, 19)) gd_X11 (by decide) hlink rfl rfl he hl hn hfit hw hdg kk
theorem g_X11_routes (C0 : Cx p s m args meth c own cc nL ret) (h : Wd G A s H locs ws) (q0 : Nat) (hlink : Cond.fieldLink own index "LeftTurns" "routes" "LLeftTurns$Routes;" ∈ lw_gd) (he : ws[q0]? = some (a, .inr (11, fs))) (hv : fs[4]? = some v) (hdg : decode cc pc = .ok (.getfield index, 3)) (kk : W p l e R s m args below meth c H locs cells slots Q (F0 m (pc + 3) ls (v :: rest))) : W p l e R s m args below meth c H locs cells slots Q (F0 m pc ls (.ref a :: rest)) := m_get (k := 4) C0 h q0 he (rfl : vwCl[11]? = some (RX11, TX11, 19)) gd_X11 (by decide) hlink hv hdg kk
theorem f_X11_routes (C0 : Cx p s m args meth c RX11 cc nL ret) (h : Wd G A s H locs ws) (hini : meth.name = "<init>") (q0 : Nat) (hlink : Cond.fieldLink RX11 index "LeftTurns" "routes" "LLeftTurns$Routes;" ∈ lw_gd) (he : ws[q0]? = some (a, .inr (11, fs))) (hl : 4 < fs.length) (hn : narrow (tyX11 4) v = v) (hfit : fits (tyX11 4) v = true) (hw : ws.set q0 (a, .inr (11, fs.set 4 v)) = ws') (hdg : decode cc pc = .ok (.putfield index, 3)) (kk : ∀ (H1 : Heap) (locs1 : List Loc), Wd G A s H1 locs1 ws' → W p l e R s m args below meth c H1 locs1 cells slots Q (F0 m (pc + 3) ls rest)) : W p l e R s m args below meth c H locs cells slots Q (F0 m pc ls (v :: .ref a :: rest)) := m_putF (k := 4) C0 h hini q0 tyX11 tyX11_ok nmX11 (rfl : vwCl[11]? = some (RX11, TX11, 19)) gd_X11 (by decide) hlink rfl rfl he hl hn hfit hw hdg kk
theorem g_X11_rounds (C0 : Cx p s m args meth c own cc nL ret) (h : Wd G A s H locs ws) (q0 : Nat) (hlink : Cond.fieldLink own index "LeftTurns" "rounds" "LLeftTurns$Rounds;" ∈ lw_gd) (he : ws[q0]? = some (a, .inr (11, fs))) (hv : fs[5]? = some v) (hdg : decode cc pc = .ok (.getfield index, 3)) (kk : W p l e R s m args below meth c H locs cells slots Q (F0 m (pc + 3) ls (v :: rest))) : W p l e R s m args below meth c H locs cells slots Q (F0 m pc ls (.ref a :: rest)) := m_get (k := 5) C0 h q0 he (rfl : vwCl[11]? = some (RX11, TX11, 19)) gd_X11 (by decide) hlink hv hdg kk
theorem f_X11_rounds (C0 : Cx p s m args meth c RX11 cc nL ret) (h : Wd G A s H locs ws) (hini : meth.name = "<init>") (q0 : Nat) (hlink : Cond.fieldLink RX11 index "LeftTurns" "rounds" "LLeftTurns$Rounds;" ∈ lw_gd) (he : ws[q0]? = some (a, .inr (11, fs))) (hl : 5 < fs.length) (hn : narrow (tyX11 5) v = v) (hfit : fits (tyX11 5) v = true) (hw : ws.set q0 (a, .inr (11, fs.set 5 v)) = ws') (hdg : decode cc pc = .ok (.putfield index, 3)) (kk : ∀ (H1 : Heap) (locs1 : List Loc), Wd G A s H1 locs1 ws' → W p l e R s m args below meth c H1 locs1 cells slots Q (F0 m (pc + 3) ls rest)) : W p l e R s m args below meth c H locs cells slots Q (F0 m pc ls (v :: .ref a :: rest)) := m_putF (k := 5) C0 h hini q0 tyX11 tyX11_ok nmX11 (rfl : vwCl[11]? = some (RX11, TX11, 19)) gd_X11 (by decide) hlink rfl rfl he hl hn hfit hw hdg kk
theorem g_X11_tally (C0 : Cx p s m args meth c own cc nL ret) (h : Wd G A s H locs ws) (q0 : Nat) (hlink : Cond.fieldLink own index "LeftTurns" "tally" "LLeftTurns$Tally;" ∈ lw_gd) (he : ws[q0]? = some (a, .inr (11, fs))) (hv : fs[6]? = some v) (hdg : decode cc pc = .ok (.getfield index, 3)) (kk : W p l e R s m args below meth c H locs cells slots Q (F0 m (pc + 3) ls (v :: rest))) : W p l e R s m args below meth c H locs cells slots Q (F0 m pc ls (.ref a :: rest)) := m_get (k := 6) C0 h q0 he (rfl : vwCl[11]? = some (RX11, TX11, 19)) gd_X11 (by decide) hlink hv hdg kk
theorem f_X11_tally (C0 : Cx p s m args meth c RX11 cc nL ret) (h : Wd G A s H locs ws) (hini : meth.name = "<init>") (q0 : Nat) (hlink : Cond.fieldLink RX11 index "LeftTurns" "tally" "LLeftTurns$Tally;" ∈ lw_gd) (he : ws[q0]? = some (a, .inr (11, fs))) (hl : 6 < fs.length) (hn : narrow (tyX11 6) v = v) (hfit : fits (tyX11 6) v = true) (hw : ws.set q0 (a, .inr (11, fs.set 6 v)) = ws') (hdg : decode cc pc = .ok (.putfield index, 3)) (kk : ∀ (H1 : Heap) (locs1 : List Loc), Wd G A s H1 locs1 ws' → W p l e R s m args below meth c H1 locs1 cells slots Q (F0 m (pc + 3) ls rest)) : W p l e R s m args below meth c H locs cells slots Q (F0 m pc ls (v :: .ref a :: rest)) := m_putF (k := 6) C0 h hini q0 tyX11 tyX11_ok nmX11 (rfl : vwCl[11]? = some (RX11, TX11, 19)) gd_X11 (by decide) hlink rfl rfl he hl hn hfit hw hdg kk
theorem g_X11_spread (C0 : Cx p s m args meth c own cc nL ret) (h : Wd G A s H locs ws) (q0 : Nat) (hlink : Cond.fieldLink own index "LeftTurns" "spread" "LLeftTurns$Spread;" ∈ lw_gd) (he : ws[q0]? = some (a, .inr (11, fs))) (hv : fs[7]? = some v) (hdg : decode cc pc = .ok (.getfield index, 3)) (kk : W p l e R s m args below meth c H locs cells slots Q (F0 m (pc + 3) ls (v :: rest))) : W p l e R s m args below meth c H locs cells slots Q (F0 m pc ls (.ref a :: rest)) := m_get (k := 7) C0 h q0 he (rfl : vwCl[11]? = some (RX11, TX11, 19)) gd_X11 (by decide) hlink hv hdg kk
theorem f_X11_spread (C0 : Cx p s m args meth c RX11 cc nL ret) (h : Wd G A s H locs ws) (hini : meth.name = "<init>") (q0 : Nat) (hlink : Cond.fieldLink RX11 index "LeftTurns" "spread" "LLeftTurns$Spread;" ∈ lw_gd) (he : ws[q0]? = some (a, .inr (11, fs))) (hl : 7 < fs.length) (hn : narrow (tyX11 7) v = v) (hfit : fits (tyX11 7) v = true) (hw : ws.set q0 (a, .inr (11, fs.set 7 v)) = ws') (hdg : decode cc pc = .ok (.putfield index, 3)) (kk : ∀ (H1 : Heap) (locs1 : List Loc), Wd G A s H1 locs1 ws' → W p l e R s m args below meth c H1 locs1 cells slots Q (F0 m (pc + 3) ls rest)) : W p l e R s m args below meth c H locs cells slots Q (F0 m pc ls (v :: .ref a :: rest)) := m_putF (k := 7) C0 h hini q0 tyX11 tyX11_ok nmX11 (rfl : vwCl[11]? = some (RX11, TX11, 19)) gd_X11 (by decide) hlink rfl rfl he hl hn hfit hw hdg kk
theorem g_X11_hunt (C0 : Cx p s m args meth c own cc nL ret) (h : Wd G A s H locs ws) (q0 : Nat) (hlink : Cond.fieldLink own index "LeftTurns" "hunt" "LLeftTurns$Hunt;" ∈ lw_gd) (he : ws[q0]? = some (a, .inr (11, fs))) (hv : fs[8]? = some v) (hdg : decode cc pc = .ok (.getfield index, 3)) (kk : W p l e R s m args below meth c H locs cells slots Q (F0 m (pc + 3) ls (v :: rest))) : W p l e R s m args below meth c H locs cells slots Q (F0 m pc ls (.ref a :: rest)) := m_get (k := 8) C0 h q0 he (rfl : vwCl[11]? = some (RX11, TX11, 19)) gd_X11 (by decide) hlink hv hdg kk
theorem f_X11_hunt (C0 : Cx p s m args meth c RX11 cc nL ret) (h : Wd G A s H locs ws) (hini : meth.name = "<init>") (q0 : Nat) (hlink : Cond.fieldLink RX11 index "LeftTurns" "hunt" "LLeftTurns$Hunt;" ∈ lw_gd) (he : ws[q0]? = some (a, .inr (11, fs))) (hl : 8 < fs.length) (hn : narrow (tyX11 8) v = v) (hfit : fits (tyX11 8) v = true) (hw : ws.set q0 (a, .inr (11, fs.set 8 v)) = ws') (hdg : decode cc pc = .ok (.putfield index, 3)) (kk : ∀ (H1 : Heap) (locs1 : List Loc), Wd G A s H1 locs1 ws' → W p l e R s m args below meth c H1 locs1 cells slots Q (F0 m (pc + 3) ls rest)) : W p l e R s m args below meth c H locs cells slots Q (F0 m pc ls (v :: .ref a :: rest)) := m_putF (k := 8) C0 h hini q0 tyX11 tyX11_ok nmX11 (rfl : vwCl[11]? = some (RX11, TX11, 19)) gd_X11 (by decide) hlink rfl rfl he hl hn hfit hw hdg kk
theorem g_X11_trays (C0 : Cx p s m args meth c own cc nL ret) (h : Wd G A s H locs ws) (q0 : Nat) (hlink : Cond.fieldLink own index "LeftTurns" "trays" "[LLeftTurns$Tray;" ∈ lw_gd) (he : ws[q0]? = some (a, .inr (11, fs))) (hv : fs[9]? = some v) (hdg : decode cc pc = .ok (.getfield index, 3)) (kk : W p l e R s m args below meth c H locs cells slots Q (F0 m (pc + 3) ls (v :: rest))) : W p l e R s m args below meth c H locs cells slots Q (F0 m pc ls (.ref a :: rest)) := m_get (k := 9) C0 h q0 he (rfl : vwCl[11]? = some (RX11, TX11, 19)) gd_X11 (by decide) hlink hv hdg kk
theorem f_X11_trays (C0 : Cx p s m args meth c RX11 cc nL ret) (h : Wd G A s H locs ws) (hini : meth.name = "<init>") (q0 : Nat) (hlink : Cond.fieldLink RX11 index "LeftTurns" "trays" "[LLeftTurns$Tray;" ∈ lw_gd) (he : ws[q0]? = some (a, .inr (11, fs))) (hl : 9 < fs.length) (hn : narrow (tyX11 9) v = v) (hfit : fits (tyX11 9) v = true) (hw : ws.set q0 (a, .inr (11, fs.set 9 v)) = ws') (hdg : decode cc pc = .ok (.putfield index, 3)) (kk : ∀ (H1 : Heap) (locs1 : List Loc), Wd G A s H1 locs1 ws' → W p l e R s m args below meth c H1 locs1 cells slots Q (F0 m (pc + 3) ls rest)) : W p l e R s m args below meth c H locs cells slots Q (F0 m pc ls (v :: .ref a :: rest)) := m_putF (k := 9) C0 h hini q0 tyX11 tyX11_ok nmX11 (rfl : vwCl[11]? = some (RX11, TX11, 19)) gd_X11 (by decide) hlink rfl rfl he hl hn hfit hw hdg kk
theorem g_X11_images (C0 : Cx p s m args meth c own cc nL ret) (h : Wd G A s H locs ws) (q0 : Nat) (hlink : Cond.fieldLink own index "LeftTurns" "images" "[LLeftTurns$City;" ∈ lw_gd) (he : ws[q0]? = some (a, .inr (11, fs))) (hv : fs[10]? = some v) (hdg : decode cc pc = .ok (.getfield index, 3)) (kk : W p l e R s m args below meth c H locs cells slots Q (F0 m (pc + 3) ls (v :: rest))) : W p l e R s m args below meth c H locs cells slots Q (F0 m pc ls (.ref a :: rest)) := m_get (k := 10) C0 h q0 he (rfl : vwCl[11]? = some (RX11, TX11, 19)) gd_X11 (by decide) hlink hv hdg kk
theorem f_X11_images (C0 : Cx p s m args meth c RX11 cc nL ret) (h : Wd G A s H locs ws) (hini : meth.name = "<init>") (q0 : Nat) (hlink : Cond.fieldLink RX11 index "LeftTurns" "images" "[LLeftTurns$City;" ∈ lw_gd) (he : ws[q0]? = some (a, .inr (11, fs))) (hl : 10 < fs.length) (hn : narrow (tyX11 10) v = v) (hfit : fits (tyX11 10) v = true) (hw : ws.set q0 (a, .inr (11, fs.set 10 v)) = ws') (hdg : decode cc pc = .ok (.putfield index, 3)) (kk : ∀ (H1 : Heap) (locs1 : List Loc), Wd G A s H1 locs1 ws' → W p l e R s m args below meth c H1 locs1 cells slots Q (F0 m (pc + 3) ls rest)) : W p l e R s m args below meth c H locs cells slots Q (F0 m pc ls (v :: .ref a :: rest)) := m_putF (k := 10) C0 h hini q0 tyX11 tyX11_ok nmX11 (rfl : vwCl[11]? = some (RX11, TX11, 19)) gd_X11 (by decide) hlink rfl rfl he hl hn hfit hw hdg kk
theorem g_X11_imageMade (C0 : Cx p s m args meth c own cc nL ret) (h : Wd G A s H locs ws) (q0 : Nat) (hlink : Cond.fieldLink own index "LeftTurns" "imageMade" "[Z" ∈ lw_gd) (he : ws[q0]? = some (a, .inr (11, fs))) (hv : fs[11]? = some v) (hdg : decode cc pc = .ok (.getfield index, 3)) (kk : W p l e R s m args below meth c H locs cells slots Q (F0 m (pc + 3) ls (v :: rest))) : W p l e R s m args below meth c H locs cells slots Q (F0 m pc ls (.ref a :: rest)) := m_get (k := 11) C0 h q0 he (rfl : vwCl[11]? = some (RX11, TX11, 19)) gd_X11 (by decide) hlink hv hdg kk
theorem f_X11_imageMade (C0 : Cx p s m args meth c RX11 cc nL ret) (h : Wd G A s H locs ws) (hini : meth.name = "<init>") (q0 : Nat) (hlink : Cond.fieldLink RX11 index "LeftTurns" "imageMade" "[Z" ∈ lw_gd) (he : ws[q0]? = some (a, .inr (11, fs))) (hl : 11 < fs.length) (hn : narrow (tyX11 11) v = v) (hfit : fits (tyX11 11) v = true) (hw : ws.set q0 (a, .inr (11, fs.set 11 v)) = ws') (hdg : decode cc pc = .ok (.putfield index, 3)) (kk : ∀ (H1 : Heap) (locs1 : List Loc), Wd G A s H1 locs1 ws' → W p l e R s m args below meth c H1 locs1 cells slots Q (F0 m (pc + 3) ls rest)) : W p l e R s m args below meth c H locs cells slots Q (F0 m pc ls (v :: .ref a :: rest)) := m_putF (k := 11) C0 h hini q0 tyX11 tyX11_ok nmX11 (rfl : vwCl[11]? = some (RX11, TX11, 19)) gd_X11 (by decide) hlink rfl rfl he hl hn hfit hw hdg kk
theorem g_X11_past (C0 : Cx p s m args meth c own cc nL ret) (h : Wd G A s H locs ws) (q0 : Nat) (hlink : Cond.fieldLink own index "LeftTurns" "past" "[LLeftTurns$Folk;" ∈ lw_gd) (he : ws[q0]? = some (a, .inr (11, fs))) (hv : fs[12]? = some v) (hdg : decode cc pc = .ok (.getfield index, 3)) (kk : W p l e R s m args below meth c H locs cells slots Q (F0 m (pc + 3) ls (v :: rest))) : W p l e R s m args below meth c H locs cells slots Q (F0 m pc ls (.ref a :: rest)) := m_get (k := 12) C0 h q0 he (rfl : vwCl[11]? = some (RX11, TX11, 19)) gd_X11 (by decide) hlink hv hdg kk
theorem f_X11_past (C0 : Cx p s m args meth c RX11 cc nL ret) (h : Wd G A s H locs ws) (hini : meth.name = "<init>") (q0 : Nat) (hlink : Cond.fieldLink RX11 index "LeftTurns" "past" "[LLeftTurns$Folk;" ∈ lw_gd) (he : ws[q0]? = some (a, .inr (11, fs))) (hl : 12 < fs.length) (hn : narrow (tyX11 12) v = v) (hfit : fits (tyX11 12) v = true) (hw : ws.set q0 (a, .inr (11, fs.set 12 v)) = ws') (hdg : decode cc pc = .ok (.putfield index, 3)) (kk : ∀ (H1 : Heap) (locs1 : List Loc), Wd G A s H1 locs1 ws' → W p l e R s m args below meth c H1 locs1 cells slots Q (F0 m (pc + 3) ls rest)) : W p l e R s m args below meth c H locs cells slots Q (F0 m pc ls (v :: .ref a :: rest)) := m_putF (k := 12) C0 h hini q0 tyX11 tyX11_ok nmX11 (rfl : vwCl[11]? = some (RX11, TX11, 19)) gd_X11 (by decide) hlink rfl rfl he hl hn hfit hw hdg kk
theorem g_X11_before (C0 : Cx p s m args meth c own cc nL ret) (h : Wd G A s H locs ws) (q0 : Nat) (hlink : Cond.fieldLink own index "LeftTurns" "before" "LLeftTurns$Folk;" ∈ lw_gd) (he : ws[q0]? = some (a, .inr (11, fs))) (hv : fs[13]? = some v) (hdg : decode cc pc = .ok (.getfield index, 3)) (kk : W p l e R s m args below meth c H locs cells slots Q (F0 m (pc + 3) ls (v :: rest))) : W p l e R s m args below meth c H locs cells slots Q (F0 m pc ls (.ref a :: rest)) := m_get (k := 13) C0 h q0 he (rfl : vwCl[11]? = some (RX11, TX11, 19)) gd_X11 (by decide) hlink hv hdg kk
theorem f_X11_before (C0 : Cx p s m args meth c RX11 cc nL ret) (h : Wd G A s H locs ws) (hini : meth.name = "<init>") (q0 : Nat) (hlink : Cond.fieldLink RX11 index "LeftTurns" "before" "LLeftTurns$Folk;" ∈ lw_gd) (he : ws[q0]? = some (a, .inr (11, fs))) (hl : 13 < fs.length) (hn : narrow (tyX11 13) v = v) (hfit : fits (tyX11 13) v = true) (hw : ws.set q0 (a, .inr (11, fs.set 13 v)) = ws') (hdg : decode cc pc = .ok (.putfield index, 3)) (kk : ∀ (H1 : Heap) (locs1 : List Loc), Wd G A s H1 locs1 ws' → W p l e R s m args below meth c H1 locs1 cells slots Q (F0 m (pc + 3) ls rest)) : W p l e R s m args below meth c H locs cells slots Q (F0 m pc ls (v :: .ref a :: rest)) := m_putF (k := 13) C0 h hini q0 tyX11 tyX11_ok nmX11 (rfl : vwCl[11]? = some (RX11, TX11, 19)) gd_X11 (by decide) hlink rfl rfl he hl hn hfit hw hdg kk
theorem g_X11_walked (C0 : Cx p s m args meth c own cc nL ret) (h : Wd G A s H locs ws) (q0 : Nat) (hlink : Cond.fieldLink own index "LeftTurns" "walked" "[I" ∈ lw_gd) (he : ws[q0]? = some (a, .inr (11, fs))) (hv : fs[14]? = some v) (hdg : decode cc pc = .ok (.getfield index, 3)) (kk : W p l e R s m args below meth c H locs cells slots Q (F0 m (pc + 3) ls (v :: rest))) : W p l e R s m args below meth c H locs cells slots Q (F0 m pc ls (.ref a :: rest)) := m_get (k := 14) C0 h q0 he (rfl : vwCl[11]? = some (RX11, TX11, 19)) gd_X11 (by decide) hlink hv hdg kk
theorem f_X11_walked (C0 : Cx p s m args meth c RX11 cc nL ret) (h : Wd G A s H locs ws) (hini : meth.name = "<init>") (q0 : Nat) (hlink : Cond.fieldLink RX11 index "LeftTurns" "walked" "[I" ∈ lw_gd) (he : ws[q0]? = some (a, .inr (11, fs))) (hl : 14 < fs.length) (hn : narrow (tyX11 14) v = v) (hfit : fits (tyX11 14) v = true) (hw : ws.set q0 (a, .inr (11, fs.set 14 v)) = ws') (hdg : decode cc pc = .ok (.putfield index, 3)) (kk : ∀ (H1 : Heap) (locs1 : List Loc), Wd G A s H1 locs1 ws' → W p l e R s m args below meth c H1 locs1 cells slots Q (F0 m (pc + 3) ls rest)) : W p l e R s m args below meth c H locs cells slots Q (F0 m pc ls (v :: .ref a :: rest)) := m_putF (k := 14) C0 h hini q0 tyX11 tyX11_ok nmX11 (rfl : vwCl[11]? = some (RX11, TX11, 19)) gd_X11 (by decide) hlink rfl rfl he hl hn hfit hw hdg kk
theorem g_X11_dayPrices (C0 : Cx p s m args meth c own cc nL ret) (h : Wd G A s H locs ws) (q0 : Nat) (hlink : Cond.fieldLink own index "LeftTurns" "dayPrices" "[I" ∈ lw_gd) (he : ws[q0]? = some (a, .inr (11, fs))) (hv : fs[15]? = some v) (hdg : decode cc pc = .ok (.getfield index, 3)) (kk : W p l e R s m args below meth c H locs cells slots Q (F0 m (pc + 3) ls (v :: rest))) : W p l e R s m args below meth c H locs cells slots Q (F0 m pc ls (.ref a :: rest)) := m_get (k := 15) C0 h q0 he (rfl : vwCl[11]? = some (RX11, TX11, 19)) gd_X11 (by decide) hlink hv hdg kk
theorem f_X11_dayPrices (C0 : Cx p s m args meth c RX11 cc nL ret) (h : Wd G A s H locs ws) (hini : meth.name = "<init>") (q0 : Nat) (hlink : Cond.fieldLink RX11 index "LeftTurns" "dayPrices" "[I" ∈ lw_gd) (he : ws[q0]? = some (a, .inr (11, fs))) (hl : 15 < fs.length) (hn : narrow (tyX11 15) v = v) (hfit : fits (tyX11 15) v = true) (hw : ws.set q0 (a, .inr (11, fs.set 15 v)) = ws') (hdg : decode cc pc = .ok (.putfield index, 3)) (kk : ∀ (H1 : Heap) (locs1 : List Loc), Wd G A s H1 locs1 ws' → W p l e R s m args below meth c H1 locs1 cells slots Q (F0 m (pc + 3) ls rest)) : W p l e R s m args below meth c H locs cells slots Q (F0 m pc ls (v :: .ref a :: rest)) := m_putF (k := 15) C0 h hini q0 tyX11 tyX11_ok nmX11 (rfl : vwCl[11]? = some (RX11, TX11, 19)) gd_X11 (by decide) hlink rfl rfl he hl hn hfit hw hdg kk
theorem g_X11_pastFirst (C0 : Cx p s m args meth c own cc nL ret) (h : Wd G A s H locs ws) (q0 : Nat) (hlink : Cond.fieldLink own index "LeftTurns" "pastFirst" "I" ∈ lw_gd) (he : ws[q0]? = some (a, .inr (11, fs))) (hv : fs[16]? = some v) (hdg : decode cc pc = .ok (.getfield index, 3)) (kk : W p l e R s m args below meth c H locs cells slots Q (F0 m (pc + 3) ls (v :: rest))) : W p l e R s m args below meth c H locs cells slots Q (F0 m pc ls (.ref a :: rest)) := m_get (k := 16) C0 h q0 he (rfl : vwCl[11]? = some (RX11, TX11, 19)) gd_X11 (by decide) hlink hv hdg kk
theorem p_X11_pastFirst (C0 : Cx p s m args meth c own cc nL ret) (h : Wd G A s H locs ws) (q0 : Nat) (hlink : Cond.fieldLink own index "LeftTurns" "pastFirst" "I" ∈ lw_gd) (he : ws[q0]? = some (a, .inr (11, fs))) (hl : 16 < fs.length) (hn : narrow (tyX11 16) v = v) (hfit : fits (tyX11 16) v = true) (hw : ws.set q0 (a, .inr (11, fs.set 16 v)) = ws') (hdg : decode cc pc = .ok (.putfield index, 3)) (kk : ∀ (H1 : Heap) (locs1 : List Loc), Wd G A s H1 locs1 ws' → W p l e R s m args below meth c H1 locs1 cells slots Q (F0 m (pc + 3) ls rest)) : W p l e R s m args below meth c H locs cells slots Q (F0 m pc ls (v :: .ref a :: rest)) := m_put (k := 16) C0 h q0 tyX11 tyX11_ok nmX11 (rfl : vwCl[11]? = some (RX11, TX11, 19)) gd_X11 (by decide) hlink rfl he hl hn hfit hw hdg kk
theorem g_X11_pastSize (C0 : Cx p s m args meth c own cc nL ret) (h : Wd G A s H locs ws) (q0 : Nat) (hlink : Cond.fieldLink own index "LeftTurns" "pastSize" "I" ∈ lw_gd) (he : ws[q0]? = some (a, .inr (11, fs))) (hv : fs[17]? = some v) (hdg : decode cc pc = .ok (.getfield index, 3)) (kk : W p l e R s m args below meth c H locs cells slots Q (F0 m (pc + 3) ls (v :: rest))) : W p l e R s m args below meth c H locs cells slots Q (F0 m pc ls (.ref a :: rest)) := m_get (k := 17) C0 h q0 he (rfl : vwCl[11]? = some (RX11, TX11, 19)) gd_X11 (by decide) hlink hv hdg kk
theorem p_X11_pastSize (C0 : Cx p s m args meth c own cc nL ret) (h : Wd G A s H locs ws) (q0 : Nat) (hlink : Cond.fieldLink own index "LeftTurns" "pastSize" "I" ∈ lw_gd) (he : ws[q0]? = some (a, .inr (11, fs))) (hl : 17 < fs.length) (hn : narrow (tyX11 17) v = v) (hfit : fits (tyX11 17) v = true) (hw : ws.set q0 (a, .inr (11, fs.set 17 v)) = ws') (hdg : decode cc pc = .ok (.putfield index, 3)) (kk : ∀ (H1 : Heap) (locs1 : List Loc), Wd G A s H1 locs1 ws' → W p l e R s m args below meth c H1 locs1 cells slots Q (F0 m (pc + 3) ls rest)) : W p l e R s m args below meth c H locs cells slots Q (F0 m pc ls (v :: .ref a :: rest)) := m_put (k := 17) C0 h q0 tyX11 tyX11_ok nmX11 (rfl : vwCl[11]? = some (RX11, TX11, 19)) gd_X11 (by decide) hlink rfl he hl hn hfit hw hdg kk
theorem g_X11_seed (C0 : Cx p s m args meth c own cc nL ret) (h : Wd G A s H locs ws) (q0 : Nat) (hlink : Cond.fieldLink own index "LeftTurns" "seed" "I" ∈ lw_gd) (he : ws[q0]? = some (a, .inr (11, fs))) (hv : fs[18]? = some v) (hdg : decode cc pc = .ok (.getfield index, 3)) (kk : W p l e R s m args below meth c H locs cells slots Q (F0 m (pc + 3) ls (v :: rest))) : W p l e R s m args below meth c H locs cells slots Q (F0 m pc ls (.ref a :: rest)) := m_get (k := 18) C0 h q0 he (rfl : vwCl[11]? = some (RX11, TX11, 19)) gd_X11 (by decide) hlink hv hdg kk
theorem p_X11_seed (C0 : Cx p s m args meth c own cc nL ret) (h : Wd G A s H locs ws) (q0 : Nat) (hlink : Cond.fieldLink own index "LeftTurns" "seed" "I" ∈ lw_gd) (he : ws[q0]? = some (a, .inr (11, fs))) (hl : 18 < fs.length) (hn : narrow (tyX11 18) v = v) (hfit : fits (tyX11 18) v = true) (hw : ws.set q0 (a, .inr (11, fs.set 18 v)) = ws') (hdg : decode cc pc = .ok (.putfield index, 3)) (kk : ∀ (H1 : Heap) (locs1 : List Loc), Wd G A s H1 locs1 ws' → W p l e R s m args below meth c H1 locs1 cells slots Q (F0 m (pc + 3) ls rest)) : W p l e R s m args below meth c H locs cells slots Q (F0 m pc ls (v :: .ref a :: rest)) := m_put (k := 18) C0 h q0 tyX11 tyX11_ok nmX11 (rfl : vwCl[11]? = some (RX11, TX11, 19)) gd_X11 (by decide) hlink rfl he hl hn hfit hw hdg kk
theorem gd_X12 : ∀ w ∈ u_ws RX12 TX12 44, w ∈ lw_gd := gd_us (fun k hk => match k, hk with | 0, _ => q_1482 | 1, _ => q_1484 | 2, _ => q_1486 | 3, _ => q_1488 | 4, _ => q_1490 | 5, _ => q_1492 | 6, _ => q_1494 | 7, _ => q_1496 | 8, _ => q_1498 | 9, _ => q_1500 | 10, _ => q_1502 | 11, _ => q_1504 | 12, _ => q_1506 | 13, _ => q_1508 | 14, _ => q_1510 | 15, _ => q_1512 | 16, _ => q_1514 | 17, _ => q_1516 | 18, _ => q_1518 | 19, _ => q_1520 | 20, _ => q_1522 | 21, _ => q_1524 | 22, _ => q_1526 | 23, _ => q_1528 | 24, _ => q_1530 | 25, _ => q_1532 | 26, _ => q_1534 | 27, _ => q_1536 | 28, _ => q_1538 | 29, _ => q_1540 | 30, _ => q_1542 | 31, _ => q_1544 | 32, _ => q_1546 | 33, _ => q_1548 | 34, _ => q_1550 | 35, _ => q_1552 | 36, _ => q_1554 | 37, _ => q_1556 | 38, _ => q_1558 | 39, _ => q_1560 | 40, _ => q_1562 | 41, _ => q_1564 | 42, _ => q_1566 | 43, _ => q_1568 | k + 44, hk => absurd hk (by omega))
theorem g_X12_thrown (C0 : Cx p s m args meth c own cc nL ret) (h : Wd G A s H locs ws) (q0 : Nat) (hlink : Cond.fieldLink own index "LeftTurnsModel" "thrown" "I" ∈ lw_gd) (he : ws[q0]? = some (a, .inr (12, fs))) (hv : fs[0]? = some v) (hdg : decode cc pc = .ok (.getfield index, 3)) (kk : W p l e R s m args below meth c H locs cells slots Q (F0 m (pc + 3) ls (v :: rest))) : W p l e R s m args below meth c H locs cells slots Q (F0 m pc ls (.ref a :: rest)) := m_get (k := 0) C0 h q0 he (rfl : vwCl[12]? = some (RX12, TX12, 44)) gd_X12 (by decide) hlink hv hdg kk
theorem p_X12_thrown (C0 : Cx p s m args meth c own cc nL ret) (h : Wd G A s H locs ws) (q0 : Nat) (hlink : Cond.fieldLink own index "LeftTurnsModel" "thrown" "I" ∈ lw_gd) (he : ws[q0]? = some (a, .inr (12, fs))) (hl : 0 < fs.length) (hn : narrow (tyX12 0) v = v) (hfit : fits (tyX12 0) v = true) (hw : ws.set q0 (a, .inr (12, fs.set 0 v)) = ws') (hdg : decode cc pc = .ok (.putfield index, 3)) (kk : ∀ (H1 : Heap) (locs1 : List Loc), Wd G A s H1 locs1 ws' → W p l e R s m args below meth c H1 locs1 cells slots Q (F0 m (pc + 3) ls rest)) : W p l e R s m args below meth c H locs cells slots Q (F0 m pc ls (v :: .ref a :: rest)) := m_put (k := 0) C0 h q0 tyX12 tyX12_ok nmX12 (rfl : vwCl[12]? = some (RX12, TX12, 44)) gd_X12 (by decide) hlink rfl he hl hn hfit hw hdg kk
theorem g_X12_all (C0 : Cx p s m args meth c own cc nL ret) (h : Wd G A s H locs ws) (q0 : Nat) (hlink : Cond.fieldLink own index "LeftTurnsModel" "all" "[I" ∈ lw_gd) (he : ws[q0]? = some (a, .inr (12, fs))) (hv : fs[1]? = some v) (hdg : decode cc pc = .ok (.getfield index, 3)) (kk : W p l e R s m args below meth c H locs cells slots Q (F0 m (pc + 3) ls (v :: rest))) : W p l e R s m args below meth c H locs cells slots Q (F0 m pc ls (.ref a :: rest)) := m_get (k := 1) C0 h q0 he (rfl : vwCl[12]? = some (RX12, TX12, 44)) gd_X12 (by decide) hlink hv hdg kk
theorem f_X12_all (C0 : Cx p s m args meth c RX12 cc nL ret) (h : Wd G A s H locs ws) (hini : meth.name = "<init>") (q0 : Nat) (hlink : Cond.fieldLink RX12 index "LeftTurnsModel" "all" "[I" ∈ lw_gd) (he : ws[q0]? = some (a, .inr (12, fs))) (hl : 1 < fs.length) (hn : narrow (tyX12 1) v = v) (hfit : fits (tyX12 1) v = true) (hw : ws.set q0 (a, .inr (12, fs.set 1 v)) = ws') (hdg : decode cc pc = .ok (.putfield index, 3)) (kk : ∀ (H1 : Heap) (locs1 : List Loc), Wd G A s H1 locs1 ws' → W p l e R s m args below meth c H1 locs1 cells slots Q (F0 m (pc + 3) ls rest)) : W p l e R s m args below meth c H locs cells slots Q (F0 m pc ls (v :: .ref a :: rest)) := m_putF (k := 1) C0 h hini q0 tyX12 tyX12_ok nmX12 (rfl : vwCl[12]? = some (RX12, TX12, 44)) gd_X12 (by decide) hlink rfl rfl he hl hn hfit hw hdg kk
theorem g_X12_hasImage (C0 : Cx p s m args meth c own cc nL ret) (h : Wd G A s H locs ws) (q0 : Nat) (hlink : Cond.fieldLink own index "LeftTurnsModel" "hasImage" "[Z" ∈ lw_gd) (he : ws[q0]? = some (a, .inr (12, fs))) (hv : fs[2]? = some v) (hdg : decode cc pc = .ok (.getfield index, 3)) (kk : W p l e R s m args below meth c H locs cells slots Q (F0 m (pc + 3) ls (v :: rest))) : W p l e R s m args below meth c H locs cells slots Q (F0 m pc ls (.ref a :: rest)) := m_get (k := 2) C0 h q0 he (rfl : vwCl[12]? = some (RX12, TX12, 44)) gd_X12 (by decide) hlink hv hdg kk
theorem f_X12_hasImage (C0 : Cx p s m args meth c RX12 cc nL ret) (h : Wd G A s H locs ws) (hini : meth.name = "<init>") (q0 : Nat) (hlink : Cond.fieldLink RX12 index "LeftTurnsModel" "hasImage" "[Z" ∈ lw_gd) (he : ws[q0]? = some (a, .inr (12, fs))) (hl : 2 < fs.length) (hn : narrow (tyX12 2) v = v) (hfit : fits (tyX12 2) v = true) (hw : ws.set q0 (a, .inr (12, fs.set 2 v)) = ws') (hdg : decode cc pc = .ok (.putfield index, 3)) (kk : ∀ (H1 : Heap) (locs1 : List Loc), Wd G A s H1 locs1 ws' → W p l e R s m args below meth c H1 locs1 cells slots Q (F0 m (pc + 3) ls rest)) : W p l e R s m args below meth c H locs cells slots Q (F0 m pc ls (v :: .ref a :: rest)) := m_putF (k := 2) C0 h hini q0 tyX12 tyX12_ok nmX12 (rfl : vwCl[12]? = some (RX12, TX12, 44)) gd_X12 (by decide) hlink rfl rfl he hl hn hfit hw hdg kk
theorem g_X12_tape (C0 : Cx p s m args meth c own cc nL ret) (h : Wd G A s H locs ws) (q0 : Nat) (hlink : Cond.fieldLink own index "LeftTurnsModel" "tape" "[I" ∈ lw_gd) (he : ws[q0]? = some (a, .inr (12, fs))) (hv : fs[3]? = some v) (hdg : decode cc pc = .ok (.getfield index, 3)) (kk : W p l e R s m args below meth c H locs cells slots Q (F0 m (pc + 3) ls (v :: rest))) : W p l e R s m args below meth c H locs cells slots Q (F0 m pc ls (.ref a :: rest)) := m_get (k := 3) C0 h q0 he (rfl : vwCl[12]? = some (RX12, TX12, 44)) gd_X12 (by decide) hlink hv hdg kk
theorem f_X12_tape (C0 : Cx p s m args meth c RX12 cc nL ret) (h : Wd G A s H locs ws) (hini : meth.name = "<init>") (q0 : Nat) (hlink : Cond.fieldLink RX12 index "LeftTurnsModel" "tape" "[I" ∈ lw_gd) (he : ws[q0]? = some (a, .inr (12, fs))) (hl : 3 < fs.length) (hn : narrow (tyX12 3) v = v) (hfit : fits (tyX12 3) v = true) (hw : ws.set q0 (a, .inr (12, fs.set 3 v)) = ws') (hdg : decode cc pc = .ok (.putfield index, 3)) (kk : ∀ (H1 : Heap) (locs1 : List Loc), Wd G A s H1 locs1 ws' → W p l e R s m args below meth c H1 locs1 cells slots Q (F0 m (pc + 3) ls rest)) : W p l e R s m args below meth c H locs cells slots Q (F0 m pc ls (v :: .ref a :: rest)) := m_putF (k := 3) C0 h hini q0 tyX12 tyX12_ok nmX12 (rfl : vwCl[12]? = some (RX12, TX12, 44)) gd_X12 (by decide) hlink rfl rfl he hl hn hfit hw hdg kk
theorem g_X12_fresh (C0 : Cx p s m args meth c own cc nL ret) (h : Wd G A s H locs ws) (q0 : Nat) (hlink : Cond.fieldLink own index "LeftTurnsModel" "fresh" "[I" ∈ lw_gd) (he : ws[q0]? = some (a, .inr (12, fs))) (hv : fs[4]? = some v) (hdg : decode cc pc = .ok (.getfield index, 3)) (kk : W p l e R s m args below meth c H locs cells slots Q (F0 m (pc + 3) ls (v :: rest))) : W p l e R s m args below meth c H locs cells slots Q (F0 m pc ls (.ref a :: rest)) := m_get (k := 4) C0 h q0 he (rfl : vwCl[12]? = some (RX12, TX12, 44)) gd_X12 (by decide) hlink hv hdg kk
theorem f_X12_fresh (C0 : Cx p s m args meth c RX12 cc nL ret) (h : Wd G A s H locs ws) (hini : meth.name = "<init>") (q0 : Nat) (hlink : Cond.fieldLink RX12 index "LeftTurnsModel" "fresh" "[I" ∈ lw_gd) (he : ws[q0]? = some (a, .inr (12, fs))) (hl : 4 < fs.length) (hn : narrow (tyX12 4) v = v) (hfit : fits (tyX12 4) v = true) (hw : ws.set q0 (a, .inr (12, fs.set 4 v)) = ws') (hdg : decode cc pc = .ok (.putfield index, 3)) (kk : ∀ (H1 : Heap) (locs1 : List Loc), Wd G A s H1 locs1 ws' → W p l e R s m args below meth c H1 locs1 cells slots Q (F0 m (pc + 3) ls rest)) : W p l e R s m args below meth c H locs cells slots Q (F0 m pc ls (v :: .ref a :: rest)) := m_putF (k := 4) C0 h hini q0 tyX12 tyX12_ok nmX12 (rfl : vwCl[12]? = some (RX12, TX12, 44)) gd_X12 (by decide) hlink rfl rfl he hl hn hfit hw hdg kk
theorem g_X12_taped (C0 : Cx p s m args meth c own cc nL ret) (h : Wd G A s H locs ws) (q0 : Nat) (hlink : Cond.fieldLink own index "LeftTurnsModel" "taped" "I" ∈ lw_gd) (he : ws[q0]? = some (a, .inr (12, fs))) (hv : fs[5]? = some v) (hdg : decode cc pc = .ok (.getfield index, 3)) (kk : W p l e R s m args below meth c H locs cells slots Q (F0 m (pc + 3) ls (v :: rest))) : W p l e R s m args below meth c H locs cells slots Q (F0 m pc ls (.ref a :: rest)) := m_get (k := 5) C0 h q0 he (rfl : vwCl[12]? = some (RX12, TX12, 44)) gd_X12 (by decide) hlink hv hdg kk
theorem p_X12_taped (C0 : Cx p s m args meth c own cc nL ret) (h : Wd G A s H locs ws) (q0 : Nat) (hlink : Cond.fieldLink own index "LeftTurnsModel" "taped" "I" ∈ lw_gd) (he : ws[q0]? = some (a, .inr (12, fs))) (hl : 5 < fs.length) (hn : narrow (tyX12 5) v = v) (hfit : fits (tyX12 5) v = true) (hw : ws.set q0 (a, .inr (12, fs.set 5 v)) = ws') (hdg : decode cc pc = .ok (.putfield index, 3)) (kk : ∀ (H1 : Heap) (locs1 : List Loc), Wd G A s H1 locs1 ws' → W p l e R s m args below meth c H1 locs1 cells slots Q (F0 m (pc + 3) ls rest)) : W p l e R s m args below meth c H locs cells slots Q (F0 m pc ls (v :: .ref a :: rest)) := m_put (k := 5) C0 h q0 tyX12 tyX12_ok nmX12 (rfl : vwCl[12]? = some (RX12, TX12, 44)) gd_X12 (by decide) hlink rfl he hl hn hfit hw hdg kk
theorem g_X12_at (C0 : Cx p s m args meth c own cc nL ret) (h : Wd G A s H locs ws) (q0 : Nat) (hlink : Cond.fieldLink own index "LeftTurnsModel" "at" "I" ∈ lw_gd) (he : ws[q0]? = some (a, .inr (12, fs))) (hv : fs[6]? = some v) (hdg : decode cc pc = .ok (.getfield index, 3)) (kk : W p l e R s m args below meth c H locs cells slots Q (F0 m (pc + 3) ls (v :: rest))) : W p l e R s m args below meth c H locs cells slots Q (F0 m pc ls (.ref a :: rest)) := m_get (k := 6) C0 h q0 he (rfl : vwCl[12]? = some (RX12, TX12, 44)) gd_X12 (by decide) hlink hv hdg kk
theorem p_X12_at (C0 : Cx p s m args meth c own cc nL ret) (h : Wd G A s H locs ws) (q0 : Nat) (hlink : Cond.fieldLink own index "LeftTurnsModel" "at" "I" ∈ lw_gd) (he : ws[q0]? = some (a, .inr (12, fs))) (hl : 6 < fs.length) (hn : narrow (tyX12 6) v = v) (hfit : fits (tyX12 6) v = true) (hw : ws.set q0 (a, .inr (12, fs.set 6 v)) = ws') (hdg : decode cc pc = .ok (.putfield index, 3)) (kk : ∀ (H1 : Heap) (locs1 : List Loc), Wd G A s H1 locs1 ws' → W p l e R s m args below meth c H1 locs1 cells slots Q (F0 m (pc + 3) ls rest)) : W p l e R s m args below meth c H locs cells slots Q (F0 m pc ls (v :: .ref a :: rest)) := m_put (k := 6) C0 h q0 tyX12 tyX12_ok nmX12 (rfl : vwCl[12]? = some (RX12, TX12, 44)) gd_X12 (by decide) hlink rfl he hl hn hfit hw hdg kk
theorem g_X12_behind (C0 : Cx p s m args meth c own cc nL ret) (h : Wd G A s H locs ws) (q0 : Nat) (hlink : Cond.fieldLink own index "LeftTurnsModel" "behind" "I" ∈ lw_gd) (he : ws[q0]? = some (a, .inr (12, fs))) (hv : fs[7]? = some v) (hdg : decode cc pc = .ok (.getfield index, 3)) (kk : W p l e R s m args below meth c H locs cells slots Q (F0 m (pc + 3) ls (v :: rest))) : W p l e R s m args below meth c H locs cells slots Q (F0 m pc ls (.ref a :: rest)) := m_get (k := 7) C0 h q0 he (rfl : vwCl[12]? = some (RX12, TX12, 44)) gd_X12 (by decide) hlink hv hdg kk
theorem p_X12_behind (C0 : Cx p s m args meth c own cc nL ret) (h : Wd G A s H locs ws) (q0 : Nat) (hlink : Cond.fieldLink own index "LeftTurnsModel" "behind" "I" ∈ lw_gd) (he : ws[q0]? = some (a, .inr (12, fs))) (hl : 7 < fs.length) (hn : narrow (tyX12 7) v = v) (hfit : fits (tyX12 7) v = true) (hw : ws.set q0 (a, .inr (12, fs.set 7 v)) = ws') (hdg : decode cc pc = .ok (.putfield index, 3)) (kk : ∀ (H1 : Heap) (locs1 : List Loc), Wd G A s H1 locs1 ws' → W p l e R s m args below meth c H1 locs1 cells slots Q (F0 m (pc + 3) ls rest)) : W p l e R s m args below meth c H locs cells slots Q (F0 m pc ls (v :: .ref a :: rest)) := m_put (k := 7) C0 h q0 tyX12 tyX12_ok nmX12 (rfl : vwCl[12]? = some (RX12, TX12, 44)) gd_X12 (by decide) hlink rfl he hl hn hfit hw hdg kk
theorem g_X12_size (C0 : Cx p s m args meth c own cc nL ret) (h : Wd G A s H locs ws) (q0 : Nat) (hlink : Cond.fieldLink own index "LeftTurnsModel" "size" "I" ∈ lw_gd) (he : ws[q0]? = some (a, .inr (12, fs))) (hv : fs[8]? = some v) (hdg : decode cc pc = .ok (.getfield index, 3)) (kk : W p l e R s m args below meth c H locs cells slots Q (F0 m (pc + 3) ls (v :: rest))) : W p l e R s m args below meth c H locs cells slots Q (F0 m pc ls (.ref a :: rest)) := m_get (k := 8) C0 h q0 he (rfl : vwCl[12]? = some (RX12, TX12, 44)) gd_X12 (by decide) hlink hv hdg kk
theorem p_X12_size (C0 : Cx p s m args meth c own cc nL ret) (h : Wd G A s H locs ws) (q0 : Nat) (hlink : Cond.fieldLink own index "LeftTurnsModel" "size" "I" ∈ lw_gd) (he : ws[q0]? = some (a, .inr (12, fs))) (hl : 8 < fs.length) (hn : narrow (tyX12 8) v = v) (hfit : fits (tyX12 8) v = true) (hw : ws.set q0 (a, .inr (12, fs.set 8 v)) = ws') (hdg : decode cc pc = .ok (.putfield index, 3)) (kk : ∀ (H1 : Heap) (locs1 : List Loc), Wd G A s H1 locs1 ws' → W p l e R s m args below meth c H1 locs1 cells slots Q (F0 m (pc + 3) ls rest)) : W p l e R s m args below meth c H locs cells slots Q (F0 m pc ls (v :: .ref a :: rest)) := m_put (k := 8) C0 h q0 tyX12 tyX12_ok nmX12 (rfl : vwCl[12]? = some (RX12, TX12, 44)) gd_X12 (by decide) hlink rfl he hl hn hfit hw hdg kk
theorem g_X12_kind (C0 : Cx p s m args meth c own cc nL ret) (h : Wd G A s H locs ws) (q0 : Nat) (hlink : Cond.fieldLink own index "LeftTurnsModel" "kind" "I" ∈ lw_gd) (he : ws[q0]? = some (a, .inr (12, fs))) (hv : fs[9]? = some v) (hdg : decode cc pc = .ok (.getfield index, 3)) (kk : W p l e R s m args below meth c H locs cells slots Q (F0 m (pc + 3) ls (v :: rest))) : W p l e R s m args below meth c H locs cells slots Q (F0 m pc ls (.ref a :: rest)) := m_get (k := 9) C0 h q0 he (rfl : vwCl[12]? = some (RX12, TX12, 44)) gd_X12 (by decide) hlink hv hdg kk
theorem p_X12_kind (C0 : Cx p s m args meth c own cc nL ret) (h : Wd G A s H locs ws) (q0 : Nat) (hlink : Cond.fieldLink own index "LeftTurnsModel" "kind" "I" ∈ lw_gd) (he : ws[q0]? = some (a, .inr (12, fs))) (hl : 9 < fs.length) (hn : narrow (tyX12 9) v = v) (hfit : fits (tyX12 9) v = true) (hw : ws.set q0 (a, .inr (12, fs.set 9 v)) = ws') (hdg : decode cc pc = .ok (.putfield index, 3)) (kk : ∀ (H1 : Heap) (locs1 : List Loc), Wd G A s H1 locs1 ws' → W p l e R s m args below meth c H1 locs1 cells slots Q (F0 m (pc + 3) ls rest)) : W p l e R s m args below meth c H locs cells slots Q (F0 m pc ls (v :: .ref a :: rest)) := m_put (k := 9) C0 h q0 tyX12 tyX12_ok nmX12 (rfl : vwCl[12]? = some (RX12, TX12, 44)) gd_X12 (by decide) hlink rfl he hl hn hfit hw hdg kk
theorem g_X12_number (C0 : Cx p s m args meth c own cc nL ret) (h : Wd G A s H locs ws) (q0 : Nat) (hlink : Cond.fieldLink own index "LeftTurnsModel" "number" "I" ∈ lw_gd) (he : ws[q0]? = some (a, .inr (12, fs))) (hv : fs[10]? = some v) (hdg : decode cc pc = .ok (.getfield index, 3)) (kk : W p l e R s m args below meth c H locs cells slots Q (F0 m (pc + 3) ls (v :: rest))) : W p l e R s m args below meth c H locs cells slots Q (F0 m pc ls (.ref a :: rest)) := m_get (k := 10) C0 h q0 he (rfl : vwCl[12]? = some (RX12, TX12, 44)) gd_X12 (by decide) hlink hv hdg kk
theorem p_X12_number (C0 : Cx p s m args meth c own cc nL ret) (h : Wd G A s H locs ws) (q0 : Nat) (hlink : Cond.fieldLink own index "LeftTurnsModel" "number" "I" ∈ lw_gd) (he : ws[q0]? = some (a, .inr (12, fs))) (hl : 10 < fs.length) (hn : narrow (tyX12 10) v = v) (hfit : fits (tyX12 10) v = true) (hw : ws.set q0 (a, .inr (12, fs.set 10 v)) = ws') (hdg : decode cc pc = .ok (.putfield index, 3)) (kk : ∀ (H1 : Heap) (locs1 : List Loc), Wd G A s H1 locs1 ws' → W p l e R s m args below meth c H1 locs1 cells slots Q (F0 m (pc + 3) ls rest)) : W p l e R s m args below meth c H locs cells slots Q (F0 m pc ls (v :: .ref a :: rest)) := m_put (k := 10) C0 h q0 tyX12 tyX12_ok nmX12 (rfl : vwCl[12]? = some (RX12, TX12, 44)) gd_X12 (by decide) hlink rfl he hl hn hfit hw hdg kk
theorem g_X12_wrong (C0 : Cx p s m args meth c own cc nL ret) (h : Wd G A s H locs ws) (q0 : Nat) (hlink : Cond.fieldLink own index "LeftTurnsModel" "wrong" "I" ∈ lw_gd) (he : ws[q0]? = some (a, .inr (12, fs))) (hv : fs[11]? = some v) (hdg : decode cc pc = .ok (.getfield index, 3)) (kk : W p l e R s m args below meth c H locs cells slots Q (F0 m (pc + 3) ls (v :: rest))) : W p l e R s m args below meth c H locs cells slots Q (F0 m pc ls (.ref a :: rest)) := m_get (k := 11) C0 h q0 he (rfl : vwCl[12]? = some (RX12, TX12, 44)) gd_X12 (by decide) hlink hv hdg kk
theorem p_X12_wrong (C0 : Cx p s m args meth c own cc nL ret) (h : Wd G A s H locs ws) (q0 : Nat) (hlink : Cond.fieldLink own index "LeftTurnsModel" "wrong" "I" ∈ lw_gd) (he : ws[q0]? = some (a, .inr (12, fs))) (hl : 11 < fs.length) (hn : narrow (tyX12 11) v = v) (hfit : fits (tyX12 11) v = true) (hw : ws.set q0 (a, .inr (12, fs.set 11 v)) = ws') (hdg : decode cc pc = .ok (.putfield index, 3)) (kk : ∀ (H1 : Heap) (locs1 : List Loc), Wd G A s H1 locs1 ws' → W p l e R s m args below meth c H1 locs1 cells slots Q (F0 m (pc + 3) ls rest)) : W p l e R s m args below meth c H locs cells slots Q (F0 m pc ls (v :: .ref a :: rest)) := m_put (k := 11) C0 h q0 tyX12 tyX12_ok nmX12 (rfl : vwCl[12]? = some (RX12, TX12, 44)) gd_X12 (by decide) hlink rfl he hl hn hfit hw hdg kk
theorem g_X12_wrongAt (C0 : Cx p s m args meth c own cc nL ret) (h : Wd G A s H locs ws) (q0 : Nat) (hlink : Cond.fieldLink own index "LeftTurnsModel" "wrongAt" "I" ∈ lw_gd) (he : ws[q0]? = some (a, .inr (12, fs))) (hv : fs[12]? = some v) (hdg : decode cc pc = .ok (.getfield index, 3)) (kk : W p l e R s m args below meth c H locs cells slots Q (F0 m (pc + 3) ls (v :: rest))) : W p l e R s m args below meth c H locs cells slots Q (F0 m pc ls (.ref a :: rest)) := m_get (k := 12) C0 h q0 he (rfl : vwCl[12]? = some (RX12, TX12, 44)) gd_X12 (by decide) hlink hv hdg kk
theorem p_X12_wrongAt (C0 : Cx p s m args meth c own cc nL ret) (h : Wd G A s H locs ws) (q0 : Nat) (hlink : Cond.fieldLink own index "LeftTurnsModel" "wrongAt" "I" ∈ lw_gd) (he : ws[q0]? = some (a, .inr (12, fs))) (hl : 12 < fs.length) (hn : narrow (tyX12 12) v = v) (hfit : fits (tyX12 12) v = true) (hw : ws.set q0 (a, .inr (12, fs.set 12 v)) = ws') (hdg : decode cc pc = .ok (.putfield index, 3)) (kk : ∀ (H1 : Heap) (locs1 : List Loc), Wd G A s H1 locs1 ws' → W p l e R s m args below meth c H1 locs1 cells slots Q (F0 m (pc + 3) ls rest)) : W p l e R s m args below meth c H locs cells slots Q (F0 m pc ls (v :: .ref a :: rest)) := m_put (k := 12) C0 h q0 tyX12 tyX12_ok nmX12 (rfl : vwCl[12]? = some (RX12, TX12, 44)) gd_X12 (by decide) hlink rfl he hl hn hfit hw hdg kk
theorem g_X12_faultKind (C0 : Cx p s m args meth c own cc nL ret) (h : Wd G A s H locs ws) (q0 : Nat) (hlink : Cond.fieldLink own index "LeftTurnsModel" "faultKind" "I" ∈ lw_gd) (he : ws[q0]? = some (a, .inr (12, fs))) (hv : fs[13]? = some v) (hdg : decode cc pc = .ok (.getfield index, 3)) (kk : W p l e R s m args below meth c H locs cells slots Q (F0 m (pc + 3) ls (v :: rest))) : W p l e R s m args below meth c H locs cells slots Q (F0 m pc ls (.ref a :: rest)) := m_get (k := 13) C0 h q0 he (rfl : vwCl[12]? = some (RX12, TX12, 44)) gd_X12 (by decide) hlink hv hdg kk
theorem p_X12_faultKind (C0 : Cx p s m args meth c own cc nL ret) (h : Wd G A s H locs ws) (q0 : Nat) (hlink : Cond.fieldLink own index "LeftTurnsModel" "faultKind" "I" ∈ lw_gd) (he : ws[q0]? = some (a, .inr (12, fs))) (hl : 13 < fs.length) (hn : narrow (tyX12 13) v = v) (hfit : fits (tyX12 13) v = true) (hw : ws.set q0 (a, .inr (12, fs.set 13 v)) = ws') (hdg : decode cc pc = .ok (.putfield index, 3)) (kk : ∀ (H1 : Heap) (locs1 : List Loc), Wd G A s H1 locs1 ws' → W p l e R s m args below meth c H1 locs1 cells slots Q (F0 m (pc + 3) ls rest)) : W p l e R s m args below meth c H locs cells slots Q (F0 m pc ls (v :: .ref a :: rest)) := m_put (k := 13) C0 h q0 tyX12 tyX12_ok nmX12 (rfl : vwCl[12]? = some (RX12, TX12, 44)) gd_X12 (by decide) hlink rfl he hl hn hfit hw hdg kk
theorem g_X12_faultPlace (C0 : Cx p s m args meth c own cc nL ret) (h : Wd G A s H locs ws) (q0 : Nat) (hlink : Cond.fieldLink own index "LeftTurnsModel" "faultPlace" "I" ∈ lw_gd) (he : ws[q0]? = some (a, .inr (12, fs))) (hv : fs[14]? = some v) (hdg : decode cc pc = .ok (.getfield index, 3)) (kk : W p l e R s m args below meth c H locs cells slots Q (F0 m (pc + 3) ls (v :: rest))) : W p l e R s m args below meth c H locs cells slots Q (F0 m pc ls (.ref a :: rest)) := m_get (k := 14) C0 h q0 he (rfl : vwCl[12]? = some (RX12, TX12, 44)) gd_X12 (by decide) hlink hv hdg kk
theorem p_X12_faultPlace (C0 : Cx p s m args meth c own cc nL ret) (h : Wd G A s H locs ws) (q0 : Nat) (hlink : Cond.fieldLink own index "LeftTurnsModel" "faultPlace" "I" ∈ lw_gd) (he : ws[q0]? = some (a, .inr (12, fs))) (hl : 14 < fs.length) (hn : narrow (tyX12 14) v = v) (hfit : fits (tyX12 14) v = true) (hw : ws.set q0 (a, .inr (12, fs.set 14 v)) = ws') (hdg : decode cc pc = .ok (.putfield index, 3)) (kk : ∀ (H1 : Heap) (locs1 : List Loc), Wd G A s H1 locs1 ws' → W p l e R s m args below meth c H1 locs1 cells slots Q (F0 m (pc + 3) ls rest)) : W p l e R s m args below meth c H locs cells slots Q (F0 m pc ls (v :: .ref a :: rest)) := m_put (k := 14) C0 h q0 tyX12 tyX12_ok nmX12 (rfl : vwCl[12]? = some (RX12, TX12, 44)) gd_X12 (by decide) hlink rfl he hl hn hfit hw hdg kk
theorem g_X12_reckoned (C0 : Cx p s m args meth c own cc nL ret) (h : Wd G A s H locs ws) (q0 : Nat) (hlink : Cond.fieldLink own index "LeftTurnsModel" "reckoned" "[I" ∈ lw_gd) (he : ws[q0]? = some (a, .inr (12, fs))) (hv : fs[15]? = some v) (hdg : decode cc pc = .ok (.getfield index, 3)) (kk : W p l e R s m args below meth c H locs cells slots Q (F0 m (pc + 3) ls (v :: rest))) : W p l e R s m args below meth c H locs cells slots Q (F0 m pc ls (.ref a :: rest)) := m_get (k := 15) C0 h q0 he (rfl : vwCl[12]? = some (RX12, TX12, 44)) gd_X12 (by decide) hlink hv hdg kk
theorem f_X12_reckoned (C0 : Cx p s m args meth c RX12 cc nL ret) (h : Wd G A s H locs ws) (hini : meth.name = "<init>") (q0 : Nat) (hlink : Cond.fieldLink RX12 index "LeftTurnsModel" "reckoned" "[I" ∈ lw_gd) (he : ws[q0]? = some (a, .inr (12, fs))) (hl : 15 < fs.length) (hn : narrow (tyX12 15) v = v) (hfit : fits (tyX12 15) v = true) (hw : ws.set q0 (a, .inr (12, fs.set 15 v)) = ws') (hdg : decode cc pc = .ok (.putfield index, 3)) (kk : ∀ (H1 : Heap) (locs1 : List Loc), Wd G A s H1 locs1 ws' → W p l e R s m args below meth c H1 locs1 cells slots Q (F0 m (pc + 3) ls rest)) : W p l e R s m args below meth c H locs cells slots Q (F0 m pc ls (v :: .ref a :: rest)) := m_putF (k := 15) C0 h hini q0 tyX12 tyX12_ok nmX12 (rfl : vwCl[12]? = some (RX12, TX12, 44)) gd_X12 (by decide) hlink rfl rfl he hl hn hfit hw hdg kk
theorem g_X12_was (C0 : Cx p s m args meth c own cc nL ret) (h : Wd G A s H locs ws) (q0 : Nat) (hlink : Cond.fieldLink own index "LeftTurnsModel" "was" "[I" ∈ lw_gd) (he : ws[q0]? = some (a, .inr (12, fs))) (hv : fs[16]? = some v) (hdg : decode cc pc = .ok (.getfield index, 3)) (kk : W p l e R s m args below meth c H locs cells slots Q (F0 m (pc + 3) ls (v :: rest))) : W p l e R s m args below meth c H locs cells slots Q (F0 m pc ls (.ref a :: rest)) := m_get (k := 16) C0 h q0 he (rfl : vwCl[12]? = some (RX12, TX12, 44)) gd_X12 (by decide) hlink hv hdg kk
theorem f_X12_was (C0 : Cx p s m args meth c RX12 cc nL ret) (h : Wd G A s H locs ws) (hini : meth.name = "<init>") (q0 : Nat) (hlink : Cond.fieldLink RX12 index "LeftTurnsModel" "was" "[I" ∈ lw_gd) (he : ws[q0]? = some (a, .inr (12, fs))) (hl : 16 < fs.length) (hn : narrow (tyX12 16) v = v) (hfit : fits (tyX12 16) v = true) (hw : ws.set q0 (a, .inr (12, fs.set 16 v)) = ws') (hdg : decode cc pc = .ok (.putfield index, 3)) (kk : ∀ (H1 : Heap) (locs1 : List Loc), Wd G A s H1 locs1 ws' → W p l e R s m args below meth c H1 locs1 cells slots Q (F0 m (pc + 3) ls rest)) : W p l e R s m args below meth c H locs cells slots Q (F0 m pc ls (v :: .ref a :: rest)) := m_putF (k := 16) C0 h hini q0 tyX12 tyX12_ok nmX12 (rfl : vwCl[12]? = some (RX12, TX12, 44)) gd_X12 (by decide) hlink rfl rfl he hl hn hfit hw hdg kk
theorem g_X12_toldWhy (C0 : Cx p s m args meth c own cc nL ret) (h : Wd G A s H locs ws) (q0 : Nat) (hlink : Cond.fieldLink own index "LeftTurnsModel" "toldWhy" "I" ∈ lw_gd) (he : ws[q0]? = some (a, .inr (12, fs))) (hv : fs[17]? = some v) (hdg : decode cc pc = .ok (.getfield index, 3)) (kk : W p l e R s m args below meth c H locs cells slots Q (F0 m (pc + 3) ls (v :: rest))) : W p l e R s m args below meth c H locs cells slots Q (F0 m pc ls (.ref a :: rest)) := m_get (k := 17) C0 h q0 he (rfl : vwCl[12]? = some (RX12, TX12, 44)) gd_X12 (by decide) hlink hv hdg kk
theorem p_X12_toldWhy (C0 : Cx p s m args meth c own cc nL ret) (h : Wd G A s H locs ws) (q0 : Nat) (hlink : Cond.fieldLink own index "LeftTurnsModel" "toldWhy" "I" ∈ lw_gd) (he : ws[q0]? = some (a, .inr (12, fs))) (hl : 17 < fs.length) (hn : narrow (tyX12 17) v = v) (hfit : fits (tyX12 17) v = true) (hw : ws.set q0 (a, .inr (12, fs.set 17 v)) = ws') (hdg : decode cc pc = .ok (.putfield index, 3)) (kk : ∀ (H1 : Heap) (locs1 : List Loc), Wd G A s H1 locs1 ws' → W p l e R s m args below meth c H1 locs1 cells slots Q (F0 m (pc + 3) ls rest)) : W p l e R s m args below meth c H locs cells slots Q (F0 m pc ls (v :: .ref a :: rest)) := m_put (k := 17) C0 h q0 tyX12 tyX12_ok nmX12 (rfl : vwCl[12]? = some (RX12, TX12, 44)) gd_X12 (by decide) hlink rfl he hl hn hfit hw hdg kk
theorem g_X12_tookMany (C0 : Cx p s m args meth c own cc nL ret) (h : Wd G A s H locs ws) (q0 : Nat) (hlink : Cond.fieldLink own index "LeftTurnsModel" "tookMany" "I" ∈ lw_gd) (he : ws[q0]? = some (a, .inr (12, fs))) (hv : fs[18]? = some v) (hdg : decode cc pc = .ok (.getfield index, 3)) (kk : W p l e R s m args below meth c H locs cells slots Q (F0 m (pc + 3) ls (v :: rest))) : W p l e R s m args below meth c H locs cells slots Q (F0 m pc ls (.ref a :: rest)) := m_get (k := 18) C0 h q0 he (rfl : vwCl[12]? = some (RX12, TX12, 44)) gd_X12 (by decide) hlink hv hdg kk
theorem p_X12_tookMany (C0 : Cx p s m args meth c own cc nL ret) (h : Wd G A s H locs ws) (q0 : Nat) (hlink : Cond.fieldLink own index "LeftTurnsModel" "tookMany" "I" ∈ lw_gd) (he : ws[q0]? = some (a, .inr (12, fs))) (hl : 18 < fs.length) (hn : narrow (tyX12 18) v = v) (hfit : fits (tyX12 18) v = true) (hw : ws.set q0 (a, .inr (12, fs.set 18 v)) = ws') (hdg : decode cc pc = .ok (.putfield index, 3)) (kk : ∀ (H1 : Heap) (locs1 : List Loc), Wd G A s H1 locs1 ws' → W p l e R s m args below meth c H1 locs1 cells slots Q (F0 m (pc + 3) ls rest)) : W p l e R s m args below meth c H locs cells slots Q (F0 m pc ls (v :: .ref a :: rest)) := m_put (k := 18) C0 h q0 tyX12 tyX12_ok nmX12 (rfl : vwCl[12]? = some (RX12, TX12, 44)) gd_X12 (by decide) hlink rfl he hl hn hfit hw hdg kk
theorem g_X12_x (C0 : Cx p s m args meth c own cc nL ret) (h : Wd G A s H locs ws) (q0 : Nat) (hlink : Cond.fieldLink own index "LeftTurnsModel" "x" "I" ∈ lw_gd) (he : ws[q0]? = some (a, .inr (12, fs))) (hv : fs[19]? = some v) (hdg : decode cc pc = .ok (.getfield index, 3)) (kk : W p l e R s m args below meth c H locs cells slots Q (F0 m (pc + 3) ls (v :: rest))) : W p l e R s m args below meth c H locs cells slots Q (F0 m pc ls (.ref a :: rest)) := m_get (k := 19) C0 h q0 he (rfl : vwCl[12]? = some (RX12, TX12, 44)) gd_X12 (by decide) hlink hv hdg kk
theorem p_X12_x (C0 : Cx p s m args meth c own cc nL ret) (h : Wd G A s H locs ws) (q0 : Nat) (hlink : Cond.fieldLink own index "LeftTurnsModel" "x" "I" ∈ lw_gd) (he : ws[q0]? = some (a, .inr (12, fs))) (hl : 19 < fs.length) (hn : narrow (tyX12 19) v = v) (hfit : fits (tyX12 19) v = true) (hw : ws.set q0 (a, .inr (12, fs.set 19 v)) = ws') (hdg : decode cc pc = .ok (.putfield index, 3)) (kk : ∀ (H1 : Heap) (locs1 : List Loc), Wd G A s H1 locs1 ws' → W p l e R s m args below meth c H1 locs1 cells slots Q (F0 m (pc + 3) ls rest)) : W p l e R s m args below meth c H locs cells slots Q (F0 m pc ls (v :: .ref a :: rest)) := m_put (k := 19) C0 h q0 tyX12 tyX12_ok nmX12 (rfl : vwCl[12]? = some (RX12, TX12, 44)) gd_X12 (by decide) hlink rfl he hl hn hfit hw hdg kk
theorem g_X12_ahead (C0 : Cx p s m args meth c own cc nL ret) (h : Wd G A s H locs ws) (q0 : Nat) (hlink : Cond.fieldLink own index "LeftTurnsModel" "ahead" "[I" ∈ lw_gd) (he : ws[q0]? = some (a, .inr (12, fs))) (hv : fs[20]? = some v) (hdg : decode cc pc = .ok (.getfield index, 3)) (kk : W p l e R s m args below meth c H locs cells slots Q (F0 m (pc + 3) ls (v :: rest))) : W p l e R s m args below meth c H locs cells slots Q (F0 m pc ls (.ref a :: rest)) := m_get (k := 20) C0 h q0 he (rfl : vwCl[12]? = some (RX12, TX12, 44)) gd_X12 (by decide) hlink hv hdg kk
theorem f_X12_ahead (C0 : Cx p s m args meth c RX12 cc nL ret) (h : Wd G A s H locs ws) (hini : meth.name = "<init>") (q0 : Nat) (hlink : Cond.fieldLink RX12 index "LeftTurnsModel" "ahead" "[I" ∈ lw_gd) (he : ws[q0]? = some (a, .inr (12, fs))) (hl : 20 < fs.length) (hn : narrow (tyX12 20) v = v) (hfit : fits (tyX12 20) v = true) (hw : ws.set q0 (a, .inr (12, fs.set 20 v)) = ws') (hdg : decode cc pc = .ok (.putfield index, 3)) (kk : ∀ (H1 : Heap) (locs1 : List Loc), Wd G A s H1 locs1 ws' → W p l e R s m args below meth c H1 locs1 cells slots Q (F0 m (pc + 3) ls rest)) : W p l e R s m args below meth c H locs cells slots Q (F0 m pc ls (v :: .ref a :: rest)) := m_putF (k := 20) C0 h hini q0 tyX12 tyX12_ok nmX12 (rfl : vwCl[12]? = some (RX12, TX12, 44)) gd_X12 (by decide) hlink rfl rfl he hl hn hfit hw hdg kk
theorem g_X12_sofar (C0 : Cx p s m args meth c own cc nL ret) (h : Wd G A s H locs ws) (q0 : Nat) (hlink : Cond.fieldLink own index "LeftTurnsModel" "sofar" "[I" ∈ lw_gd) (he : ws[q0]? = some (a, .inr (12, fs))) (hv : fs[21]? = some v) (hdg : decode cc pc = .ok (.getfield index, 3)) (kk : W p l e R s m args below meth c H locs cells slots Q (F0 m (pc + 3) ls (v :: rest))) : W p l e R s m args below meth c H locs cells slots Q (F0 m pc ls (.ref a :: rest)) := m_get (k := 21) C0 h q0 he (rfl : vwCl[12]? = some (RX12, TX12, 44)) gd_X12 (by decide) hlink hv hdg kk
theorem f_X12_sofar (C0 : Cx p s m args meth c RX12 cc nL ret) (h : Wd G A s H locs ws) (hini : meth.name = "<init>") (q0 : Nat) (hlink : Cond.fieldLink RX12 index "LeftTurnsModel" "sofar" "[I" ∈ lw_gd) (he : ws[q0]? = some (a, .inr (12, fs))) (hl : 21 < fs.length) (hn : narrow (tyX12 21) v = v) (hfit : fits (tyX12 21) v = true) (hw : ws.set q0 (a, .inr (12, fs.set 21 v)) = ws') (hdg : decode cc pc = .ok (.putfield index, 3)) (kk : ∀ (H1 : Heap) (locs1 : List Loc), Wd G A s H1 locs1 ws' → W p l e R s m args below meth c H1 locs1 cells slots Q (F0 m (pc + 3) ls rest)) : W p l e R s m args below meth c H locs cells slots Q (F0 m pc ls (v :: .ref a :: rest)) := m_putF (k := 21) C0 h hini q0 tyX12 tyX12_ok nmX12 (rfl : vwCl[12]? = some (RX12, TX12, 44)) gd_X12 (by decide) hlink rfl rfl he hl hn hfit hw hdg kk
theorem g_X12_still (C0 : Cx p s m args meth c own cc nL ret) (h : Wd G A s H locs ws) (q0 : Nat) (hlink : Cond.fieldLink own index "LeftTurnsModel" "still" "[I" ∈ lw_gd) (he : ws[q0]? = some (a, .inr (12, fs))) (hv : fs[22]? = some v) (hdg : decode cc pc = .ok (.getfield index, 3)) (kk : W p l e R s m args below meth c H locs cells slots Q (F0 m (pc + 3) ls (v :: rest))) : W p l e R s m args below meth c H locs cells slots Q (F0 m pc ls (.ref a :: rest)) := m_get (k := 22) C0 h q0 he (rfl : vwCl[12]? = some (RX12, TX12, 44)) gd_X12 (by decide) hlink hv hdg kk
theorem f_X12_still (C0 : Cx p s m args meth c RX12 cc nL ret) (h : Wd G A s H locs ws) (hini : meth.name = "<init>") (q0 : Nat) (hlink : Cond.fieldLink RX12 index "LeftTurnsModel" "still" "[I" ∈ lw_gd) (he : ws[q0]? = some (a, .inr (12, fs))) (hl : 22 < fs.length) (hn : narrow (tyX12 22) v = v) (hfit : fits (tyX12 22) v = true) (hw : ws.set q0 (a, .inr (12, fs.set 22 v)) = ws') (hdg : decode cc pc = .ok (.putfield index, 3)) (kk : ∀ (H1 : Heap) (locs1 : List Loc), Wd G A s H1 locs1 ws' → W p l e R s m args below meth c H1 locs1 cells slots Q (F0 m (pc + 3) ls rest)) : W p l e R s m args below meth c H locs cells slots Q (F0 m pc ls (v :: .ref a :: rest)) := m_putF (k := 22) C0 h hini q0 tyX12 tyX12_ok nmX12 (rfl : vwCl[12]? = some (RX12, TX12, 44)) gd_X12 (by decide) hlink rfl rfl he hl hn hfit hw hdg kk
theorem g_X12_prices (C0 : Cx p s m args meth c own cc nL ret) (h : Wd G A s H locs ws) (q0 : Nat) (hlink : Cond.fieldLink own index "LeftTurnsModel" "prices" "[I" ∈ lw_gd) (he : ws[q0]? = some (a, .inr (12, fs))) (hv : fs[23]? = some v) (hdg : decode cc pc = .ok (.getfield index, 3)) (kk : W p l e R s m args below meth c H locs cells slots Q (F0 m (pc + 3) ls (v :: rest))) : W p l e R s m args below meth c H locs cells slots Q (F0 m pc ls (.ref a :: rest)) := m_get (k := 23) C0 h q0 he (rfl : vwCl[12]? = some (RX12, TX12, 44)) gd_X12 (by decide) hlink hv hdg kk
theorem f_X12_prices (C0 : Cx p s m args meth c RX12 cc nL ret) (h : Wd G A s H locs ws) (hini : meth.name = "<init>") (q0 : Nat) (hlink : Cond.fieldLink RX12 index "LeftTurnsModel" "prices" "[I" ∈ lw_gd) (he : ws[q0]? = some (a, .inr (12, fs))) (hl : 23 < fs.length) (hn : narrow (tyX12 23) v = v) (hfit : fits (tyX12 23) v = true) (hw : ws.set q0 (a, .inr (12, fs.set 23 v)) = ws') (hdg : decode cc pc = .ok (.putfield index, 3)) (kk : ∀ (H1 : Heap) (locs1 : List Loc), Wd G A s H1 locs1 ws' → W p l e R s m args below meth c H1 locs1 cells slots Q (F0 m (pc + 3) ls rest)) : W p l e R s m args below meth c H locs cells slots Q (F0 m pc ls (v :: .ref a :: rest)) := m_putF (k := 23) C0 h hini q0 tyX12 tyX12_ok nmX12 (rfl : vwCl[12]? = some (RX12, TX12, 44)) gd_X12 (by decide) hlink rfl rfl he hl hn hfit hw hdg kk
theorem g_X12_mays (C0 : Cx p s m args meth c own cc nL ret) (h : Wd G A s H locs ws) (q0 : Nat) (hlink : Cond.fieldLink own index "LeftTurnsModel" "mays" "[Z" ∈ lw_gd) (he : ws[q0]? = some (a, .inr (12, fs))) (hv : fs[24]? = some v) (hdg : decode cc pc = .ok (.getfield index, 3)) (kk : W p l e R s m args below meth c H locs cells slots Q (F0 m (pc + 3) ls (v :: rest))) : W p l e R s m args below meth c H locs cells slots Q (F0 m pc ls (.ref a :: rest)) := m_get (k := 24) C0 h q0 he (rfl : vwCl[12]? = some (RX12, TX12, 44)) gd_X12 (by decide) hlink hv hdg kk
theorem f_X12_mays (C0 : Cx p s m args meth c RX12 cc nL ret) (h : Wd G A s H locs ws) (hini : meth.name = "<init>") (q0 : Nat) (hlink : Cond.fieldLink RX12 index "LeftTurnsModel" "mays" "[Z" ∈ lw_gd) (he : ws[q0]? = some (a, .inr (12, fs))) (hl : 24 < fs.length) (hn : narrow (tyX12 24) v = v) (hfit : fits (tyX12 24) v = true) (hw : ws.set q0 (a, .inr (12, fs.set 24 v)) = ws') (hdg : decode cc pc = .ok (.putfield index, 3)) (kk : ∀ (H1 : Heap) (locs1 : List Loc), Wd G A s H1 locs1 ws' → W p l e R s m args below meth c H1 locs1 cells slots Q (F0 m (pc + 3) ls rest)) : W p l e R s m args below meth c H locs cells slots Q (F0 m pc ls (v :: .ref a :: rest)) := m_putF (k := 24) C0 h hini q0 tyX12 tyX12_ok nmX12 (rfl : vwCl[12]? = some (RX12, TX12, 44)) gd_X12 (by decide) hlink rfl rfl he hl hn hfit hw hdg kk
theorem g_X12_frees (C0 : Cx p s m args meth c own cc nL ret) (h : Wd G A s H locs ws) (q0 : Nat) (hlink : Cond.fieldLink own index "LeftTurnsModel" "frees" "[Z" ∈ lw_gd) (he : ws[q0]? = some (a, .inr (12, fs))) (hv : fs[25]? = some v) (hdg : decode cc pc = .ok (.getfield index, 3)) (kk : W p l e R s m args below meth c H locs cells slots Q (F0 m (pc + 3) ls (v :: rest))) : W p l e R s m args below meth c H locs cells slots Q (F0 m pc ls (.ref a :: rest)) := m_get (k := 25) C0 h q0 he (rfl : vwCl[12]? = some (RX12, TX12, 44)) gd_X12 (by decide) hlink hv hdg kk
theorem f_X12_frees (C0 : Cx p s m args meth c RX12 cc nL ret) (h : Wd G A s H locs ws) (hini : meth.name = "<init>") (q0 : Nat) (hlink : Cond.fieldLink RX12 index "LeftTurnsModel" "frees" "[Z" ∈ lw_gd) (he : ws[q0]? = some (a, .inr (12, fs))) (hl : 25 < fs.length) (hn : narrow (tyX12 25) v = v) (hfit : fits (tyX12 25) v = true) (hw : ws.set q0 (a, .inr (12, fs.set 25 v)) = ws') (hdg : decode cc pc = .ok (.putfield index, 3)) (kk : ∀ (H1 : Heap) (locs1 : List Loc), Wd G A s H1 locs1 ws' → W p l e R s m args below meth c H1 locs1 cells slots Q (F0 m (pc + 3) ls rest)) : W p l e R s m args below meth c H locs cells slots Q (F0 m pc ls (v :: .ref a :: rest)) := m_putF (k := 25) C0 h hini q0 tyX12 tyX12_ok nmX12 (rfl : vwCl[12]? = some (RX12, TX12, 44)) gd_X12 (by decide) hlink rfl rfl he hl hn hfit hw hdg kk
theorem g_X12_from0 (C0 : Cx p s m args meth c own cc nL ret) (h : Wd G A s H locs ws) (q0 : Nat) (hlink : Cond.fieldLink own index "LeftTurnsModel" "from0" "I" ∈ lw_gd) (he : ws[q0]? = some (a, .inr (12, fs))) (hv : fs[26]? = some v) (hdg : decode cc pc = .ok (.getfield index, 3)) (kk : W p l e R s m args below meth c H locs cells slots Q (F0 m (pc + 3) ls (v :: rest))) : W p l e R s m args below meth c H locs cells slots Q (F0 m pc ls (.ref a :: rest)) := m_get (k := 26) C0 h q0 he (rfl : vwCl[12]? = some (RX12, TX12, 44)) gd_X12 (by decide) hlink hv hdg kk
theorem p_X12_from0 (C0 : Cx p s m args meth c own cc nL ret) (h : Wd G A s H locs ws) (q0 : Nat) (hlink : Cond.fieldLink own index "LeftTurnsModel" "from0" "I" ∈ lw_gd) (he : ws[q0]? = some (a, .inr (12, fs))) (hl : 26 < fs.length) (hn : narrow (tyX12 26) v = v) (hfit : fits (tyX12 26) v = true) (hw : ws.set q0 (a, .inr (12, fs.set 26 v)) = ws') (hdg : decode cc pc = .ok (.putfield index, 3)) (kk : ∀ (H1 : Heap) (locs1 : List Loc), Wd G A s H1 locs1 ws' → W p l e R s m args below meth c H1 locs1 cells slots Q (F0 m (pc + 3) ls rest)) : W p l e R s m args below meth c H locs cells slots Q (F0 m pc ls (v :: .ref a :: rest)) := m_put (k := 26) C0 h q0 tyX12 tyX12_ok nmX12 (rfl : vwCl[12]? = some (RX12, TX12, 44)) gd_X12 (by decide) hlink rfl he hl hn hfit hw hdg kk
theorem g_X12_turns (C0 : Cx p s m args meth c own cc nL ret) (h : Wd G A s H locs ws) (q0 : Nat) (hlink : Cond.fieldLink own index "LeftTurnsModel" "turns" "[I" ∈ lw_gd) (he : ws[q0]? = some (a, .inr (12, fs))) (hv : fs[27]? = some v) (hdg : decode cc pc = .ok (.getfield index, 3)) (kk : W p l e R s m args below meth c H locs cells slots Q (F0 m (pc + 3) ls (v :: rest))) : W p l e R s m args below meth c H locs cells slots Q (F0 m pc ls (.ref a :: rest)) := m_get (k := 27) C0 h q0 he (rfl : vwCl[12]? = some (RX12, TX12, 44)) gd_X12 (by decide) hlink hv hdg kk
theorem f_X12_turns (C0 : Cx p s m args meth c RX12 cc nL ret) (h : Wd G A s H locs ws) (hini : meth.name = "<init>") (q0 : Nat) (hlink : Cond.fieldLink RX12 index "LeftTurnsModel" "turns" "[I" ∈ lw_gd) (he : ws[q0]? = some (a, .inr (12, fs))) (hl : 27 < fs.length) (hn : narrow (tyX12 27) v = v) (hfit : fits (tyX12 27) v = true) (hw : ws.set q0 (a, .inr (12, fs.set 27 v)) = ws') (hdg : decode cc pc = .ok (.putfield index, 3)) (kk : ∀ (H1 : Heap) (locs1 : List Loc), Wd G A s H1 locs1 ws' → W p l e R s m args below meth c H1 locs1 cells slots Q (F0 m (pc + 3) ls rest)) : W p l e R s m args below meth c H locs cells slots Q (F0 m pc ls (v :: .ref a :: rest)) := m_putF (k := 27) C0 h hini q0 tyX12 tyX12_ok nmX12 (rfl : vwCl[12]? = some (RX12, TX12, 44)) gd_X12 (by decide) hlink rfl rfl he hl hn hfit hw hdg kk
theorem g_X12_endsAt (C0 : Cx p s m args meth c own cc nL ret) (h : Wd G A s H locs ws) (q0 : Nat) (hlink : Cond.fieldLink own index "LeftTurnsModel" "endsAt" "I" ∈ lw_gd) (he : ws[q0]? = some (a, .inr (12, fs))) (hv : fs[28]? = some v) (hdg : decode cc pc = .ok (.getfield index, 3)) (kk : W p l e R s m args below meth c H locs cells slots Q (F0 m (pc + 3) ls (v :: rest))) : W p l e R s m args below meth c H locs cells slots Q (F0 m pc ls (.ref a :: rest)) := m_get (k := 28) C0 h q0 he (rfl : vwCl[12]? = some (RX12, TX12, 44)) gd_X12 (by decide) hlink hv hdg kk
theorem p_X12_endsAt (C0 : Cx p s m args meth c own cc nL ret) (h : Wd G A s H locs ws) (q0 : Nat) (hlink : Cond.fieldLink own index "LeftTurnsModel" "endsAt" "I" ∈ lw_gd) (he : ws[q0]? = some (a, .inr (12, fs))) (hl : 28 < fs.length) (hn : narrow (tyX12 28) v = v) (hfit : fits (tyX12 28) v = true) (hw : ws.set q0 (a, .inr (12, fs.set 28 v)) = ws') (hdg : decode cc pc = .ok (.putfield index, 3)) (kk : ∀ (H1 : Heap) (locs1 : List Loc), Wd G A s H1 locs1 ws' → W p l e R s m args below meth c H1 locs1 cells slots Q (F0 m (pc + 3) ls rest)) : W p l e R s m args below meth c H locs cells slots Q (F0 m pc ls (v :: .ref a :: rest)) := m_put (k := 28) C0 h q0 tyX12 tyX12_ok nmX12 (rfl : vwCl[12]? = some (RX12, TX12, 44)) gd_X12 (by decide) hlink rfl he hl hn hfit hw hdg kk
theorem g_X12_many (C0 : Cx p s m args meth c own cc nL ret) (h : Wd G A s H locs ws) (q0 : Nat) (hlink : Cond.fieldLink own index "LeftTurnsModel" "many" "[J" ∈ lw_gd) (he : ws[q0]? = some (a, .inr (12, fs))) (hv : fs[29]? = some v) (hdg : decode cc pc = .ok (.getfield index, 3)) (kk : W p l e R s m args below meth c H locs cells slots Q (F0 m (pc + 3) ls (v :: rest))) : W p l e R s m args below meth c H locs cells slots Q (F0 m pc ls (.ref a :: rest)) := m_get (k := 29) C0 h q0 he (rfl : vwCl[12]? = some (RX12, TX12, 44)) gd_X12 (by decide) hlink hv hdg kk
theorem f_X12_many (C0 : Cx p s m args meth c RX12 cc nL ret) (h : Wd G A s H locs ws) (hini : meth.name = "<init>") (q0 : Nat) (hlink : Cond.fieldLink RX12 index "LeftTurnsModel" "many" "[J" ∈ lw_gd) (he : ws[q0]? = some (a, .inr (12, fs))) (hl : 29 < fs.length) (hn : narrow (tyX12 29) v = v) (hfit : fits (tyX12 29) v = true) (hw : ws.set q0 (a, .inr (12, fs.set 29 v)) = ws') (hdg : decode cc pc = .ok (.putfield index, 3)) (kk : ∀ (H1 : Heap) (locs1 : List Loc), Wd G A s H1 locs1 ws' → W p l e R s m args below meth c H1 locs1 cells slots Q (F0 m (pc + 3) ls rest)) : W p l e R s m args below meth c H locs cells slots Q (F0 m pc ls (v :: .ref a :: rest)) := m_putF (k := 29) C0 h hini q0 tyX12 tyX12_ok nmX12 (rfl : vwCl[12]? = some (RX12, TX12, 44)) gd_X12 (by decide) hlink rfl rfl he hl hn hfit hw hdg kk
theorem g_X12_manyThen (C0 : Cx p s m args meth c own cc nL ret) (h : Wd G A s H locs ws) (q0 : Nat) (hlink : Cond.fieldLink own index "LeftTurnsModel" "manyThen" "[J" ∈ lw_gd) (he : ws[q0]? = some (a, .inr (12, fs))) (hv : fs[30]? = some v) (hdg : decode cc pc = .ok (.getfield index, 3)) (kk : W p l e R s m args below meth c H locs cells slots Q (F0 m (pc + 3) ls (v :: rest))) : W p l e R s m args below meth c H locs cells slots Q (F0 m pc ls (.ref a :: rest)) := m_get (k := 30) C0 h q0 he (rfl : vwCl[12]? = some (RX12, TX12, 44)) gd_X12 (by decide) hlink hv hdg kk
theorem f_X12_manyThen (C0 : Cx p s m args meth c RX12 cc nL ret) (h : Wd G A s H locs ws) (hini : meth.name = "<init>") (q0 : Nat) (hlink : Cond.fieldLink RX12 index "LeftTurnsModel" "manyThen" "[J" ∈ lw_gd) (he : ws[q0]? = some (a, .inr (12, fs))) (hl : 30 < fs.length) (hn : narrow (tyX12 30) v = v) (hfit : fits (tyX12 30) v = true) (hw : ws.set q0 (a, .inr (12, fs.set 30 v)) = ws') (hdg : decode cc pc = .ok (.putfield index, 3)) (kk : ∀ (H1 : Heap) (locs1 : List Loc), Wd G A s H1 locs1 ws' → W p l e R s m args below meth c H1 locs1 cells slots Q (F0 m (pc + 3) ls rest)) : W p l e R s m args below meth c H locs cells slots Q (F0 m pc ls (v :: .ref a :: rest)) := m_putF (k := 30) C0 h hini q0 tyX12 tyX12_ok nmX12 (rfl : vwCl[12]? = some (RX12, TX12, 44)) gd_X12 (by decide) hlink rfl rfl he hl hn hfit hw hdg kk
theorem g_X12_met (C0 : Cx p s m args meth c own cc nL ret) (h : Wd G A s H locs ws) (q0 : Nat) (hlink : Cond.fieldLink own index "LeftTurnsModel" "met" "[Z" ∈ lw_gd) (he : ws[q0]? = some (a, .inr (12, fs))) (hv : fs[31]? = some v) (hdg : decode cc pc = .ok (.getfield index, 3)) (kk : W p l e R s m args below meth c H locs cells slots Q (F0 m (pc + 3) ls (v :: rest))) : W p l e R s m args below meth c H locs cells slots Q (F0 m pc ls (.ref a :: rest)) := m_get (k := 31) C0 h q0 he (rfl : vwCl[12]? = some (RX12, TX12, 44)) gd_X12 (by decide) hlink hv hdg kk
theorem f_X12_met (C0 : Cx p s m args meth c RX12 cc nL ret) (h : Wd G A s H locs ws) (hini : meth.name = "<init>") (q0 : Nat) (hlink : Cond.fieldLink RX12 index "LeftTurnsModel" "met" "[Z" ∈ lw_gd) (he : ws[q0]? = some (a, .inr (12, fs))) (hl : 31 < fs.length) (hn : narrow (tyX12 31) v = v) (hfit : fits (tyX12 31) v = true) (hw : ws.set q0 (a, .inr (12, fs.set 31 v)) = ws') (hdg : decode cc pc = .ok (.putfield index, 3)) (kk : ∀ (H1 : Heap) (locs1 : List Loc), Wd G A s H1 locs1 ws' → W p l e R s m args below meth c H1 locs1 cells slots Q (F0 m (pc + 3) ls rest)) : W p l e R s m args below meth c H locs cells slots Q (F0 m pc ls (v :: .ref a :: rest)) := m_putF (k := 31) C0 h hini q0 tyX12 tyX12_ok nmX12 (rfl : vwCl[12]? = some (RX12, TX12, 44)) gd_X12 (by decide) hlink rfl rfl he hl hn hfit hw hdg kk
theorem g_X12_metThen (C0 : Cx p s m args meth c own cc nL ret) (h : Wd G A s H locs ws) (q0 : Nat) (hlink : Cond.fieldLink own index "LeftTurnsModel" "metThen" "[Z" ∈ lw_gd) (he : ws[q0]? = some (a, .inr (12, fs))) (hv : fs[32]? = some v) (hdg : decode cc pc = .ok (.getfield index, 3)) (kk : W p l e R s m args below meth c H locs cells slots Q (F0 m (pc + 3) ls (v :: rest))) : W p l e R s m args below meth c H locs cells slots Q (F0 m pc ls (.ref a :: rest)) := m_get (k := 32) C0 h q0 he (rfl : vwCl[12]? = some (RX12, TX12, 44)) gd_X12 (by decide) hlink hv hdg kk
theorem f_X12_metThen (C0 : Cx p s m args meth c RX12 cc nL ret) (h : Wd G A s H locs ws) (hini : meth.name = "<init>") (q0 : Nat) (hlink : Cond.fieldLink RX12 index "LeftTurnsModel" "metThen" "[Z" ∈ lw_gd) (he : ws[q0]? = some (a, .inr (12, fs))) (hl : 32 < fs.length) (hn : narrow (tyX12 32) v = v) (hfit : fits (tyX12 32) v = true) (hw : ws.set q0 (a, .inr (12, fs.set 32 v)) = ws') (hdg : decode cc pc = .ok (.putfield index, 3)) (kk : ∀ (H1 : Heap) (locs1 : List Loc), Wd G A s H1 locs1 ws' → W p l e R s m args below meth c H1 locs1 cells slots Q (F0 m (pc + 3) ls rest)) : W p l e R s m args below meth c H locs cells slots Q (F0 m pc ls (v :: .ref a :: rest)) := m_putF (k := 32) C0 h hini q0 tyX12 tyX12_ok nmX12 (rfl : vwCl[12]? = some (RX12, TX12, 44)) gd_X12 (by decide) hlink rfl rfl he hl hn hfit hw hdg kk
theorem g_X12_taken (C0 : Cx p s m args meth c own cc nL ret) (h : Wd G A s H locs ws) (q0 : Nat) (hlink : Cond.fieldLink own index "LeftTurnsModel" "taken" "[I" ∈ lw_gd) (he : ws[q0]? = some (a, .inr (12, fs))) (hv : fs[33]? = some v) (hdg : decode cc pc = .ok (.getfield index, 3)) (kk : W p l e R s m args below meth c H locs cells slots Q (F0 m (pc + 3) ls (v :: rest))) : W p l e R s m args below meth c H locs cells slots Q (F0 m pc ls (.ref a :: rest)) := m_get (k := 33) C0 h q0 he (rfl : vwCl[12]? = some (RX12, TX12, 44)) gd_X12 (by decide) hlink hv hdg kk
theorem f_X12_taken (C0 : Cx p s m args meth c RX12 cc nL ret) (h : Wd G A s H locs ws) (hini : meth.name = "<init>") (q0 : Nat) (hlink : Cond.fieldLink RX12 index "LeftTurnsModel" "taken" "[I" ∈ lw_gd) (he : ws[q0]? = some (a, .inr (12, fs))) (hl : 33 < fs.length) (hn : narrow (tyX12 33) v = v) (hfit : fits (tyX12 33) v = true) (hw : ws.set q0 (a, .inr (12, fs.set 33 v)) = ws') (hdg : decode cc pc = .ok (.putfield index, 3)) (kk : ∀ (H1 : Heap) (locs1 : List Loc), Wd G A s H1 locs1 ws' → W p l e R s m args below meth c H1 locs1 cells slots Q (F0 m (pc + 3) ls rest)) : W p l e R s m args below meth c H locs cells slots Q (F0 m pc ls (v :: .ref a :: rest)) := m_putF (k := 33) C0 h hini q0 tyX12 tyX12_ok nmX12 (rfl : vwCl[12]? = some (RX12, TX12, 44)) gd_X12 (by decide) hlink rfl rfl he hl hn hfit hw hdg kk
theorem g_X12_bestRow (C0 : Cx p s m args meth c own cc nL ret) (h : Wd G A s H locs ws) (q0 : Nat) (hlink : Cond.fieldLink own index "LeftTurnsModel" "bestRow" "[I" ∈ lw_gd) (he : ws[q0]? = some (a, .inr (12, fs))) (hv : fs[34]? = some v) (hdg : decode cc pc = .ok (.getfield index, 3)) (kk : W p l e R s m args below meth c H locs cells slots Q (F0 m (pc + 3) ls (v :: rest))) : W p l e R s m args below meth c H locs cells slots Q (F0 m pc ls (.ref a :: rest)) := m_get (k := 34) C0 h q0 he (rfl : vwCl[12]? = some (RX12, TX12, 44)) gd_X12 (by decide) hlink hv hdg kk
theorem f_X12_bestRow (C0 : Cx p s m args meth c RX12 cc nL ret) (h : Wd G A s H locs ws) (hini : meth.name = "<init>") (q0 : Nat) (hlink : Cond.fieldLink RX12 index "LeftTurnsModel" "bestRow" "[I" ∈ lw_gd) (he : ws[q0]? = some (a, .inr (12, fs))) (hl : 34 < fs.length) (hn : narrow (tyX12 34) v = v) (hfit : fits (tyX12 34) v = true) (hw : ws.set q0 (a, .inr (12, fs.set 34 v)) = ws') (hdg : decode cc pc = .ok (.putfield index, 3)) (kk : ∀ (H1 : Heap) (locs1 : List Loc), Wd G A s H1 locs1 ws' → W p l e R s m args below meth c H1 locs1 cells slots Q (F0 m (pc + 3) ls rest)) : W p l e R s m args below meth c H locs cells slots Q (F0 m pc ls (v :: .ref a :: rest)) := m_putF (k := 34) C0 h hini q0 tyX12 tyX12_ok nmX12 (rfl : vwCl[12]? = some (RX12, TX12, 44)) gd_X12 (by decide) hlink rfl rfl he hl hn hfit hw hdg kk
theorem g_X12_bestLefts (C0 : Cx p s m args meth c own cc nL ret) (h : Wd G A s H locs ws) (q0 : Nat) (hlink : Cond.fieldLink own index "LeftTurnsModel" "bestLefts" "I" ∈ lw_gd) (he : ws[q0]? = some (a, .inr (12, fs))) (hv : fs[35]? = some v) (hdg : decode cc pc = .ok (.getfield index, 3)) (kk : W p l e R s m args below meth c H locs cells slots Q (F0 m (pc + 3) ls (v :: rest))) : W p l e R s m args below meth c H locs cells slots Q (F0 m pc ls (.ref a :: rest)) := m_get (k := 35) C0 h q0 he (rfl : vwCl[12]? = some (RX12, TX12, 44)) gd_X12 (by decide) hlink hv hdg kk
theorem p_X12_bestLefts (C0 : Cx p s m args meth c own cc nL ret) (h : Wd G A s H locs ws) (q0 : Nat) (hlink : Cond.fieldLink own index "LeftTurnsModel" "bestLefts" "I" ∈ lw_gd) (he : ws[q0]? = some (a, .inr (12, fs))) (hl : 35 < fs.length) (hn : narrow (tyX12 35) v = v) (hfit : fits (tyX12 35) v = true) (hw : ws.set q0 (a, .inr (12, fs.set 35 v)) = ws') (hdg : decode cc pc = .ok (.putfield index, 3)) (kk : ∀ (H1 : Heap) (locs1 : List Loc), Wd G A s H1 locs1 ws' → W p l e R s m args below meth c H1 locs1 cells slots Q (F0 m (pc + 3) ls rest)) : W p l e R s m args below meth c H locs cells slots Q (F0 m pc ls (v :: .ref a :: rest)) := m_put (k := 35) C0 h q0 tyX12 tyX12_ok nmX12 (rfl : vwCl[12]? = some (RX12, TX12, 44)) gd_X12 (by decide) hlink rfl he hl hn hfit hw hdg kk
theorem g_X12_bestStreets (C0 : Cx p s m args meth c own cc nL ret) (h : Wd G A s H locs ws) (q0 : Nat) (hlink : Cond.fieldLink own index "LeftTurnsModel" "bestStreets" "I" ∈ lw_gd) (he : ws[q0]? = some (a, .inr (12, fs))) (hv : fs[36]? = some v) (hdg : decode cc pc = .ok (.getfield index, 3)) (kk : W p l e R s m args below meth c H locs cells slots Q (F0 m (pc + 3) ls (v :: rest))) : W p l e R s m args below meth c H locs cells slots Q (F0 m pc ls (.ref a :: rest)) := m_get (k := 36) C0 h q0 he (rfl : vwCl[12]? = some (RX12, TX12, 44)) gd_X12 (by decide) hlink hv hdg kk
theorem p_X12_bestStreets (C0 : Cx p s m args meth c own cc nL ret) (h : Wd G A s H locs ws) (q0 : Nat) (hlink : Cond.fieldLink own index "LeftTurnsModel" "bestStreets" "I" ∈ lw_gd) (he : ws[q0]? = some (a, .inr (12, fs))) (hl : 36 < fs.length) (hn : narrow (tyX12 36) v = v) (hfit : fits (tyX12 36) v = true) (hw : ws.set q0 (a, .inr (12, fs.set 36 v)) = ws') (hdg : decode cc pc = .ok (.putfield index, 3)) (kk : ∀ (H1 : Heap) (locs1 : List Loc), Wd G A s H1 locs1 ws' → W p l e R s m args below meth c H1 locs1 cells slots Q (F0 m (pc + 3) ls rest)) : W p l e R s m args below meth c H locs cells slots Q (F0 m pc ls (v :: .ref a :: rest)) := m_put (k := 36) C0 h q0 tyX12 tyX12_ok nmX12 (rfl : vwCl[12]? = some (RX12, TX12, 44)) gd_X12 (by decide) hlink rfl he hl hn hfit hw hdg kk
theorem g_X12_legStreets (C0 : Cx p s m args meth c own cc nL ret) (h : Wd G A s H locs ws) (q0 : Nat) (hlink : Cond.fieldLink own index "LeftTurnsModel" "legStreets" "I" ∈ lw_gd) (he : ws[q0]? = some (a, .inr (12, fs))) (hv : fs[37]? = some v) (hdg : decode cc pc = .ok (.getfield index, 3)) (kk : W p l e R s m args below meth c H locs cells slots Q (F0 m (pc + 3) ls (v :: rest))) : W p l e R s m args below meth c H locs cells slots Q (F0 m pc ls (.ref a :: rest)) := m_get (k := 37) C0 h q0 he (rfl : vwCl[12]? = some (RX12, TX12, 44)) gd_X12 (by decide) hlink hv hdg kk
theorem p_X12_legStreets (C0 : Cx p s m args meth c own cc nL ret) (h : Wd G A s H locs ws) (q0 : Nat) (hlink : Cond.fieldLink own index "LeftTurnsModel" "legStreets" "I" ∈ lw_gd) (he : ws[q0]? = some (a, .inr (12, fs))) (hl : 37 < fs.length) (hn : narrow (tyX12 37) v = v) (hfit : fits (tyX12 37) v = true) (hw : ws.set q0 (a, .inr (12, fs.set 37 v)) = ws') (hdg : decode cc pc = .ok (.putfield index, 3)) (kk : ∀ (H1 : Heap) (locs1 : List Loc), Wd G A s H1 locs1 ws' → W p l e R s m args below meth c H1 locs1 cells slots Q (F0 m (pc + 3) ls rest)) : W p l e R s m args below meth c H locs cells slots Q (F0 m pc ls (v :: .ref a :: rest)) := m_put (k := 37) C0 h q0 tyX12 tyX12_ok nmX12 (rfl : vwCl[12]? = some (RX12, TX12, 44)) gd_X12 (by decide) hlink rfl he hl hn hfit hw hdg kk
theorem g_X12_may1 (C0 : Cx p s m args meth c own cc nL ret) (h : Wd G A s H locs ws) (q0 : Nat) (hlink : Cond.fieldLink own index "LeftTurnsModel" "may1" "[Z" ∈ lw_gd) (he : ws[q0]? = some (a, .inr (12, fs))) (hv : fs[38]? = some v) (hdg : decode cc pc = .ok (.getfield index, 3)) (kk : W p l e R s m args below meth c H locs cells slots Q (F0 m (pc + 3) ls (v :: rest))) : W p l e R s m args below meth c H locs cells slots Q (F0 m pc ls (.ref a :: rest)) := m_get (k := 38) C0 h q0 he (rfl : vwCl[12]? = some (RX12, TX12, 44)) gd_X12 (by decide) hlink hv hdg kk
theorem f_X12_may1 (C0 : Cx p s m args meth c RX12 cc nL ret) (h : Wd G A s H locs ws) (hini : meth.name = "<init>") (q0 : Nat) (hlink : Cond.fieldLink RX12 index "LeftTurnsModel" "may1" "[Z" ∈ lw_gd) (he : ws[q0]? = some (a, .inr (12, fs))) (hl : 38 < fs.length) (hn : narrow (tyX12 38) v = v) (hfit : fits (tyX12 38) v = true) (hw : ws.set q0 (a, .inr (12, fs.set 38 v)) = ws') (hdg : decode cc pc = .ok (.putfield index, 3)) (kk : ∀ (H1 : Heap) (locs1 : List Loc), Wd G A s H1 locs1 ws' → W p l e R s m args below meth c H1 locs1 cells slots Q (F0 m (pc + 3) ls rest)) : W p l e R s m args below meth c H locs cells slots Q (F0 m pc ls (v :: .ref a :: rest)) := m_putF (k := 38) C0 h hini q0 tyX12 tyX12_ok nmX12 (rfl : vwCl[12]? = some (RX12, TX12, 44)) gd_X12 (by decide) hlink rfl rfl he hl hn hfit hw hdg kk
theorem g_X12_mayThen (C0 : Cx p s m args meth c own cc nL ret) (h : Wd G A s H locs ws) (q0 : Nat) (hlink : Cond.fieldLink own index "LeftTurnsModel" "mayThen" "[Z" ∈ lw_gd) (he : ws[q0]? = some (a, .inr (12, fs))) (hv : fs[39]? = some v) (hdg : decode cc pc = .ok (.getfield index, 3)) (kk : W p l e R s m args below meth c H locs cells slots Q (F0 m (pc + 3) ls (v :: rest))) : W p l e R s m args below meth c H locs cells slots Q (F0 m pc ls (.ref a :: rest)) := m_get (k := 39) C0 h q0 he (rfl : vwCl[12]? = some (RX12, TX12, 44)) gd_X12 (by decide) hlink hv hdg kk
theorem f_X12_mayThen (C0 : Cx p s m args meth c RX12 cc nL ret) (h : Wd G A s H locs ws) (hini : meth.name = "<init>") (q0 : Nat) (hlink : Cond.fieldLink RX12 index "LeftTurnsModel" "mayThen" "[Z" ∈ lw_gd) (he : ws[q0]? = some (a, .inr (12, fs))) (hl : 39 < fs.length) (hn : narrow (tyX12 39) v = v) (hfit : fits (tyX12 39) v = true) (hw : ws.set q0 (a, .inr (12, fs.set 39 v)) = ws') (hdg : decode cc pc = .ok (.putfield index, 3)) (kk : ∀ (H1 : Heap) (locs1 : List Loc), Wd G A s H1 locs1 ws' → W p l e R s m args below meth c H1 locs1 cells slots Q (F0 m (pc + 3) ls rest)) : W p l e R s m args below meth c H locs cells slots Q (F0 m pc ls (v :: .ref a :: rest)) := m_putF (k := 39) C0 h hini q0 tyX12 tyX12_ok nmX12 (rfl : vwCl[12]? = some (RX12, TX12, 44)) gd_X12 (by decide) hlink rfl rfl he hl hn hfit hw hdg kk
theorem g_X12_catches (C0 : Cx p s m args meth c own cc nL ret) (h : Wd G A s H locs ws) (q0 : Nat) (hlink : Cond.fieldLink own index "LeftTurnsModel" "catches" "[B" ∈ lw_gd) (he : ws[q0]? = some (a, .inr (12, fs))) (hv : fs[40]? = some v) (hdg : decode cc pc = .ok (.getfield index, 3)) (kk : W p l e R s m args below meth c H locs cells slots Q (F0 m (pc + 3) ls (v :: rest))) : W p l e R s m args below meth c H locs cells slots Q (F0 m pc ls (.ref a :: rest)) := m_get (k := 40) C0 h q0 he (rfl : vwCl[12]? = some (RX12, TX12, 44)) gd_X12 (by decide) hlink hv hdg kk
theorem f_X12_catches (C0 : Cx p s m args meth c RX12 cc nL ret) (h : Wd G A s H locs ws) (hini : meth.name = "<init>") (q0 : Nat) (hlink : Cond.fieldLink RX12 index "LeftTurnsModel" "catches" "[B" ∈ lw_gd) (he : ws[q0]? = some (a, .inr (12, fs))) (hl : 40 < fs.length) (hn : narrow (tyX12 40) v = v) (hfit : fits (tyX12 40) v = true) (hw : ws.set q0 (a, .inr (12, fs.set 40 v)) = ws') (hdg : decode cc pc = .ok (.putfield index, 3)) (kk : ∀ (H1 : Heap) (locs1 : List Loc), Wd G A s H1 locs1 ws' → W p l e R s m args below meth c H1 locs1 cells slots Q (F0 m (pc + 3) ls rest)) : W p l e R s m args below meth c H locs cells slots Q (F0 m pc ls (v :: .ref a :: rest)) := m_putF (k := 40) C0 h hini q0 tyX12 tyX12_ok nmX12 (rfl : vwCl[12]? = some (RX12, TX12, 44)) gd_X12 (by decide) hlink rfl rfl he hl hn hfit hw hdg kk
theorem g_X12_rowSort (C0 : Cx p s m args meth c own cc nL ret) (h : Wd G A s H locs ws) (q0 : Nat) (hlink : Cond.fieldLink own index "LeftTurnsModel" "rowSort" "[I" ∈ lw_gd) (he : ws[q0]? = some (a, .inr (12, fs))) (hv : fs[41]? = some v) (hdg : decode cc pc = .ok (.getfield index, 3)) (kk : W p l e R s m args below meth c H locs cells slots Q (F0 m (pc + 3) ls (v :: rest))) : W p l e R s m args below meth c H locs cells slots Q (F0 m pc ls (.ref a :: rest)) := m_get (k := 41) C0 h q0 he (rfl : vwCl[12]? = some (RX12, TX12, 44)) gd_X12 (by decide) hlink hv hdg kk
theorem f_X12_rowSort (C0 : Cx p s m args meth c RX12 cc nL ret) (h : Wd G A s H locs ws) (hini : meth.name = "<init>") (q0 : Nat) (hlink : Cond.fieldLink RX12 index "LeftTurnsModel" "rowSort" "[I" ∈ lw_gd) (he : ws[q0]? = some (a, .inr (12, fs))) (hl : 41 < fs.length) (hn : narrow (tyX12 41) v = v) (hfit : fits (tyX12 41) v = true) (hw : ws.set q0 (a, .inr (12, fs.set 41 v)) = ws') (hdg : decode cc pc = .ok (.putfield index, 3)) (kk : ∀ (H1 : Heap) (locs1 : List Loc), Wd G A s H1 locs1 ws' → W p l e R s m args below meth c H1 locs1 cells slots Q (F0 m (pc + 3) ls rest)) : W p l e R s m args below meth c H locs cells slots Q (F0 m pc ls (v :: .ref a :: rest)) := m_putF (k := 41) C0 h hini q0 tyX12 tyX12_ok nmX12 (rfl : vwCl[12]? = some (RX12, TX12, 44)) gd_X12 (by decide) hlink rfl rfl he hl hn hfit hw hdg kk
theorem g_X12_rowMany (C0 : Cx p s m args meth c own cc nL ret) (h : Wd G A s H locs ws) (q0 : Nat) (hlink : Cond.fieldLink own index "LeftTurnsModel" "rowMany" "[I" ∈ lw_gd) (he : ws[q0]? = some (a, .inr (12, fs))) (hv : fs[42]? = some v) (hdg : decode cc pc = .ok (.getfield index, 3)) (kk : W p l e R s m args below meth c H locs cells slots Q (F0 m (pc + 3) ls (v :: rest))) : W p l e R s m args below meth c H locs cells slots Q (F0 m pc ls (.ref a :: rest)) := m_get (k := 42) C0 h q0 he (rfl : vwCl[12]? = some (RX12, TX12, 44)) gd_X12 (by decide) hlink hv hdg kk
theorem f_X12_rowMany (C0 : Cx p s m args meth c RX12 cc nL ret) (h : Wd G A s H locs ws) (hini : meth.name = "<init>") (q0 : Nat) (hlink : Cond.fieldLink RX12 index "LeftTurnsModel" "rowMany" "[I" ∈ lw_gd) (he : ws[q0]? = some (a, .inr (12, fs))) (hl : 42 < fs.length) (hn : narrow (tyX12 42) v = v) (hfit : fits (tyX12 42) v = true) (hw : ws.set q0 (a, .inr (12, fs.set 42 v)) = ws') (hdg : decode cc pc = .ok (.putfield index, 3)) (kk : ∀ (H1 : Heap) (locs1 : List Loc), Wd G A s H1 locs1 ws' → W p l e R s m args below meth c H1 locs1 cells slots Q (F0 m (pc + 3) ls rest)) : W p l e R s m args below meth c H locs cells slots Q (F0 m pc ls (v :: .ref a :: rest)) := m_putF (k := 42) C0 h hini q0 tyX12 tyX12_ok nmX12 (rfl : vwCl[12]? = some (RX12, TX12, 44)) gd_X12 (by decide) hlink rfl rfl he hl hn hfit hw hdg kk
theorem g_X12_numbers (C0 : Cx p s m args meth c own cc nL ret) (h : Wd G A s H locs ws) (q0 : Nat) (hlink : Cond.fieldLink own index "LeftTurnsModel" "numbers" "[J" ∈ lw_gd) (he : ws[q0]? = some (a, .inr (12, fs))) (hv : fs[43]? = some v) (hdg : decode cc pc = .ok (.getfield index, 3)) (kk : W p l e R s m args below meth c H locs cells slots Q (F0 m (pc + 3) ls (v :: rest))) : W p l e R s m args below meth c H locs cells slots Q (F0 m pc ls (.ref a :: rest)) := m_get (k := 43) C0 h q0 he (rfl : vwCl[12]? = some (RX12, TX12, 44)) gd_X12 (by decide) hlink hv hdg kk
theorem f_X12_numbers (C0 : Cx p s m args meth c RX12 cc nL ret) (h : Wd G A s H locs ws) (hini : meth.name = "<init>") (q0 : Nat) (hlink : Cond.fieldLink RX12 index "LeftTurnsModel" "numbers" "[J" ∈ lw_gd) (he : ws[q0]? = some (a, .inr (12, fs))) (hl : 43 < fs.length) (hn : narrow (tyX12 43) v = v) (hfit : fits (tyX12 43) v = true) (hw : ws.set q0 (a, .inr (12, fs.set 43 v)) = ws') (hdg : decode cc pc = .ok (.putfield index, 3)) (kk : ∀ (H1 : Heap) (locs1 : List Loc), Wd G A s H1 locs1 ws' → W p l e R s m args below meth c H1 locs1 cells slots Q (F0 m (pc + 3) ls rest)) : W p l e R s m args below meth c H locs cells slots Q (F0 m pc ls (v :: .ref a :: rest)) := m_putF (k := 43) C0 h hini q0 tyX12 tyX12_ok nmX12 (rfl : vwCl[12]? = some (RX12, TX12, 44)) gd_X12 (by decide) hlink rfl rfl he hl hn hfit hw hdg kk
end FL
theorem k_X0_init : Yk yX0_init cX0_init 1 none 0 := ⟨q_159, q_126, by decide, by decide, by decide⟩
theorem k_X0_clear : Yk yX0_clear cX0_clear 1 none 0 := ⟨q_601, q_126, by decide, by decide, by decide⟩
theorem k_X0_copy : Yk yX0_copy cX0_copy 2 none 1 := ⟨q_859, q_126, by decide, by decide, by decide⟩
theorem k_X0_lay : Yk yX0_lay cX0_lay 6 none 2 := ⟨q_758, q_126, by decide, by decide, by decide⟩
theorem k_X0_block : Yk yX0_block cX0_block 4 none 2 := ⟨q_771, q_126, by decide, by decide, by decide⟩
theorem k_X0_makeToldFree : Yk yX0_makeToldFree cX0_makeToldFree 2 none 1 := ⟨q_784, q_126, by decide, by decide, by decide⟩
theorem k_X0_crossings : Yk yX0_crossings cX0_crossings 1 (some .int) 0 := ⟨q_920, q_126, by decide, by decide, by decide⟩
theorem k_X0_to : Yk yX0_to cX0_to 3 (some .int) 2 := ⟨q_775, q_126, by decide, by decide, by decide⟩
theorem k_X0_standAfter : Yk yX0_standAfter cX0_standAfter 5 (some .int) 2 := ⟨q_1182, q_126, by decide, by decide, by decide⟩
theorem k_X0_streetsFrom : Yk yX0_streetsFrom cX0_streetsFrom 4 (some .int) 1 := ⟨q_955, q_126, by decide, by decide, by decide⟩
theorem k_X0_moved : Yk yX0_moved cX0_moved 4 (some .int) 2 := ⟨q_1110, q_126, by decide, by decide, by decide⟩
theorem k_X0_movedBack : Yk yX0_movedBack cX0_movedBack 4 (some .int) 2 := ⟨q_1164, q_126, by decide, by decide, by decide⟩
theorem k_X0_cost : Yk yX0_cost cX0_cost 5 (some .int) 4 := ⟨q_929, q_126, by decide, by decide, by decide⟩
theorem k_X0_costTo : Yk yX0_costTo cX0_costTo 4 (some .int) 2 := ⟨q_1019, q_126, by decide, by decide, by decide⟩
theorem k_X0_allows : Yk yX0_allows cX0_allows 4 (some .boolean) 3 := ⟨q_973, q_126, by decide, by decide, by decide⟩
theorem k_X0_freeBits : Yk yX0_freeBits cX0_freeBits 4 (some .int) 1 := ⟨q_950, q_126, by decide, by decide, by decide⟩
theorem k_X0_leftsTaken : Yk yX0_leftsTaken cX0_leftsTaken 3 (some .int) 2 := ⟨q_977, q_126, by decide, by decide, by decide⟩
theorem k_X0_hindrance : Yk yX0_hindrance cX0_hindrance 5 (some .int) 2 := ⟨q_967, q_126, by decide, by decide, by decide⟩
theorem k_X0_step : Yk yX0_step cX0_step 6 (some .int) 2 := ⟨q_991, q_126, by decide, by decide, by decide⟩
theorem k_X0_buysOne : Yk yX0_buysOne cX0_buysOne 3 (some .boolean) 1 := ⟨q_1064, q_126, by decide, by decide, by decide⟩
theorem k_X1_init : Yk yX1_init cX1_init 1 none 0 := ⟨q_188, q_128, by decide, by decide, by decide⟩
theorem k_X1_clear : Yk yX1_clear cX1_clear 1 none 0 := ⟨q_609, q_128, by decide, by decide, by decide⟩
theorem k_X1_copy : Yk yX1_copy cX1_copy 2 none 1 := ⟨q_870, q_128, by decide, by decide, by decide⟩
theorem k_X1_settle : Yk yX1_settle cX1_settle 5 none 4 := ⟨q_803, q_128, by decide, by decide, by decide⟩
theorem k_X1_stand : Yk yX1_stand cX1_stand 2 (some .int) 1 := ⟨q_1073, q_128, by decide, by decide, by decide⟩
theorem k_X1_allSold : Yk yX1_allSold cX1_allSold 3 (some .int) 0 := ⟨q_1424, q_128, by decide, by decide, by decide⟩
theorem k_X1_allLefts : Yk yX1_allLefts cX1_allLefts 3 (some .int) 0 := ⟨q_1428, q_128, by decide, by decide, by decide⟩
theorem k_X2_init : Yk yX2_init cX2_init 2 none 1 := ⟨q_290, q_129, by decide, by decide, by decide⟩
theorem k_X2_forget : Yk yX2_forget cX2_forget 1 none 0 := ⟨q_880, q_129, by decide, by decide, by decide⟩
theorem k_X2_beginUpTo : Yk yX2_beginUpTo cX2_beginUpTo 3 none 1 := ⟨q_1101, q_129, by decide, by decide, by decide⟩
theorem k_X2_freeAt : Yk yX2_freeAt cX2_freeAt 2 (some .int) 1 := ⟨q_1097, q_129, by decide, by decide, by decide⟩
theorem k_X2_allowing : Yk yX2_allowing cX2_allowing 8 (some .int) 3 := ⟨q_1119, q_129, by decide, by decide, by decide⟩
theorem k_X2_lefts : Yk yX2_lefts cX2_lefts 5 (some .int) 3 := ⟨q_1186, q_129, by decide, by decide, by decide⟩
theorem k_X3_init : Yk yX3_init cX3_init 2 none 1 := ⟨q_473, q_135, by decide, by decide, by decide⟩
theorem k_X3_forget : Yk yX3_forget cX3_forget 1 none 0 := ⟨q_884, q_135, by decide, by decide, by decide⟩
theorem k_X3_catching : Yk yX3_catching cX3_catching 4 (some .int) 3 := ⟨q_1362, q_135, by decide, by decide, by decide⟩
theorem k_X3_isLikeTheLast : Yk yX3_isLikeTheLast cX3_isLikeTheLast 3 (some .boolean) 1 := ⟨q_1377, q_135, by decide, by decide, by decide⟩
theorem k_X3_workOut : Yk yX3_workOut cX3_workOut 9 none 1 := ⟨q_1366, q_135, by decide, by decide, by decide⟩
theorem k_X3_watchGoes : Yk yX3_watchGoes cX3_watchGoes 5 (some .int) 2 := ⟨q_1371, q_135, by decide, by decide, by decide⟩
theorem k_X4_init : Yk yX4_init cX4_init 1 none 0 := ⟨q_165, q_127, by decide, by decide, by decide⟩
theorem k_X4_clear : Yk yX4_clear cX4_clear 1 none 0 := ⟨q_605, q_127, by decide, by decide, by decide⟩
theorem k_X4_isTold : Yk yX4_isTold cX4_isTold 1 (some .boolean) 0 := ⟨q_933, q_127, by decide, by decide, by decide⟩
theorem k_X4_add : Yk yX4_add cX4_add 2 none 1 := ⟨q_829, q_127, by decide, by decide, by decide⟩
theorem k_X4_asks : Yk yX4_asks cX4_asks 2 (some .boolean) 1 := ⟨q_1128, q_127, by decide, by decide, by decide⟩
theorem k_X4_firstLike : Yk yX4_firstLike cX4_firstLike 2 (some .int) 1 := ⟨q_1124, q_127, by decide, by decide, by decide⟩
theorem k_X4_firstHeadLike : Yk yX4_firstHeadLike cX4_firstHeadLike 2 (some .int) 1 := ⟨q_1132, q_127, by decide, by decide, by decide⟩
theorem k_X4_copy : Yk yX4_copy cX4_copy 2 none 1 := ⟨q_863, q_127, by decide, by decide, by decide⟩
theorem k_X4_value : Yk yX4_value cX4_value 15 (some .int) 5 := ⟨q_937, q_127, by decide, by decide, by decide⟩
theorem k_X5_init : Yk yX5_init cX5_init 2 none 1 := ⟨q_368, q_132, by decide, by decide, by decide⟩
theorem k_X5_hasRoom : Yk yX5_hasRoom cX5_hasRoom 1 (some .boolean) 0 := ⟨q_581, q_132, by decide, by decide, by decide⟩
theorem k_X5_fed : Yk yX5_fed cX5_fed 1 (some .int) 0 := ⟨q_589, q_132, by decide, by decide, by decide⟩
theorem k_X5_faultKind : Yk yX5_faultKind cX5_faultKind 1 (some .int) 0 := ⟨q_892, q_132, by decide, by decide, by decide⟩
theorem k_X5_faultPlace : Yk yX5_faultPlace cX5_faultPlace 1 (some .int) 0 := ⟨q_896, q_132, by decide, by decide, by decide⟩
theorem k_X5_put : Yk yX5_put cX5_put 3 none 1 := ⟨q_585, q_132, by decide, by decide, by decide⟩
theorem k_X5_read : Yk yX5_read cX5_read 3 (some .int) 1 := ⟨q_597, q_132, by decide, by decide, by decide⟩
theorem k_X5_fail : Yk yX5_fail cX5_fail 2 none 1 := ⟨q_629, q_132, by decide, by decide, by decide⟩
theorem k_X5_advance : Yk yX5_advance cX5_advance 1 none 0 := ⟨q_617, q_132, by decide, by decide, by decide⟩
theorem k_X5_isSmall : Yk yX5_isSmall cX5_isSmall 2 (some .boolean) 1 := ⟨q_621, q_132, by decide, by decide, by decide⟩
theorem k_X5_isDigit : Yk yX5_isDigit cX5_isDigit 2 (some .boolean) 1 := ⟨q_625, q_132, by decide, by decide, by decide⟩
theorem k_X5_isWord : Yk yX5_isWord cX5_isWord 3 (some .boolean) 1 := ⟨q_725, q_132, by decide, by decide, by decide⟩
theorem k_X5_sign : Yk yX5_sign cX5_sign 2 none 1 := ⟨q_813, q_132, by decide, by decide, by decide⟩
theorem k_X5_bounded : Yk yX5_bounded cX5_bounded 4 (some .int) 2 := ⟨q_754, q_132, by decide, by decide, by decide⟩
theorem k_X5_line : Yk yX5_line cX5_line 1 none 0 := ⟨q_720, q_132, by decide, by decide, by decide⟩
theorem k_X5_cityLine : Yk yX5_cityLine cX5_cityLine 3 none 0 := ⟨q_750, q_132, by decide, by decide, by decide⟩
theorem k_X5_crossingTold : Yk yX5_crossingTold cX5_crossingTold 3 (some .int) 0 := ⟨q_767, q_132, by decide, by decide, by decide⟩
theorem k_X5_wallLine : Yk yX5_wallLine cX5_wallLine 2 none 0 := ⟨q_763, q_132, by decide, by decide, by decide⟩
theorem k_X5_freeLine : Yk yX5_freeLine cX5_freeLine 1 none 0 := ⟨q_780, q_132, by decide, by decide, by decide⟩
theorem k_X5_personLine : Yk yX5_personLine cX5_personLine 5 none 0 := ⟨q_789, q_132, by decide, by decide, by decide⟩
theorem k_X5_heading : Yk yX5_heading cX5_heading 2 (some .int) 0 := ⟨q_793, q_132, by decide, by decide, by decide⟩
theorem k_X5_beginLaw : Yk yX5_beginLaw cX5_beginLaw 2 none 1 := ⟨q_808, q_132, by decide, by decide, by decide⟩
theorem k_X5_tooDeep : Yk yX5_tooDeep cX5_tooDeep 2 (some .boolean) 1 := ⟨q_833, q_132, by decide, by decide, by decide⟩
theorem k_X5_truth : Yk yX5_truth cX5_truth 3 none 1 := ⟨q_844, q_132, by decide, by decide, by decide⟩
theorem k_X5_both : Yk yX5_both cX5_both 3 none 1 := ⟨q_848, q_132, by decide, by decide, by decide⟩
theorem k_X5_unit : Yk yX5_unit cX5_unit 3 none 1 := ⟨q_852, q_132, by decide, by decide, by decide⟩
theorem k_X5_sum : Yk yX5_sum cX5_sum 4 none 1 := ⟨q_817, q_132, by decide, by decide, by decide⟩
theorem k_X5_term : Yk yX5_term cX5_term 3 none 1 := ⟨q_821, q_132, by decide, by decide, by decide⟩
theorem k_X5_atom : Yk yX5_atom cX5_atom 3 none 1 := ⟨q_825, q_132, by decide, by decide, by decide⟩
theorem k_X6_init : Yk yX6_init cX6_init 3 none 2 := ⟨q_409, q_133, by decide, by decide, by decide⟩
theorem k_X6_begin : Yk yX6_begin cX6_begin 3 none 1 := ⟨q_1285, q_133, by decide, by decide, by decide⟩
theorem k_X6_tour : Yk yX6_tour cX6_tour 7 none 4 := ⟨q_1291, q_133, by decide, by decide, by decide⟩
theorem k_X6_compare : Yk yX6_compare cX6_compare 3 none 2 := ⟨q_1295, q_133, by decide, by decide, by decide⟩
theorem k_X6_answer : Yk yX6_answer cX6_answer 3 (some .int) 1 := ⟨q_1315, q_133, by decide, by decide, by decide⟩
theorem k_X7_init : Yk yX7_init cX7_init 4 none 3 := ⟨q_340, q_131, by decide, by decide, by decide⟩
theorem k_X7_length : Yk yX7_length cX7_length 1 (some .int) 0 := ⟨q_1310, q_131, by decide, by decide, by decide⟩
theorem k_X7_last : Yk yX7_last cX7_last 1 (some .int) 0 := ⟨q_1306, q_131, by decide, by decide, by decide⟩
theorem k_X7_turnAt : Yk yX7_turnAt cX7_turnAt 2 (some .int) 1 := ⟨q_1197, q_131, by decide, by decide, by decide⟩
theorem k_X7_shortest : Yk yX7_shortest cX7_shortest 5 (some .boolean) 3 := ⟨q_1151, q_131, by decide, by decide, by decide⟩
theorem k_X7_trace : Yk yX7_trace cX7_trace 6 none 5 := ⟨q_1156, q_131, by decide, by decide, by decide⟩
theorem k_X7_lookBack : Yk yX7_lookBack cX7_lookBack 9 none 3 := ⟨q_1160, q_131, by decide, by decide, by decide⟩
theorem k_X7_comeFrom : Yk yX7_comeFrom cX7_comeFrom 7 none 4 := ⟨q_1168, q_131, by decide, by decide, by decide⟩
theorem k_X7_thin : Yk yX7_thin cX7_thin 5 none 1 := ⟨q_1174, q_131, by decide, by decide, by decide⟩
theorem k_X7_comes : Yk yX7_comes cX7_comes 5 (some .boolean) 3 := ⟨q_1193, q_131, by decide, by decide, by decide⟩
theorem k_X7_follow : Yk yX7_follow cX7_follow 9 none 3 := ⟨q_1178, q_131, by decide, by decide, by decide⟩
theorem k_X8_init : Yk yX8_init cX8_init 3 none 2 := ⟨q_312, q_130, by decide, by decide, by decide⟩
theorem k_X8_begin : Yk yX8_begin cX8_begin 3 none 1 := ⟨q_1081, q_130, by decide, by decide, by decide⟩
theorem k_X8_change : Yk yX8_change cX8_change 4 none 1 := ⟨q_1138, q_130, by decide, by decide, by decide⟩
theorem k_X8_thin : Yk yX8_thin cX8_thin 6 none 0 := ⟨q_1142, q_130, by decide, by decide, by decide⟩
theorem k_X8_anyHeading : Yk yX8_anyHeading cX8_anyHeading 3 (some .int) 1 := ⟨q_1089, q_130, by decide, by decide, by decide⟩
theorem k_X8_goByRights : Yk yX8_goByRights cX8_goByRights 5 none 1 := ⟨q_1106, q_130, by decide, by decide, by decide⟩
theorem k_X8_goByLeft : Yk yX8_goByLeft cX8_goByLeft 9 none 5 := ⟨q_1114, q_130, by decide, by decide, by decide⟩
theorem k_X8_goOn : Yk yX8_goOn cX8_goOn 8 none 3 := ⟨q_1093, q_130, by decide, by decide, by decide⟩
theorem k_X8_lowest : Yk yX8_lowest cX8_lowest 4 (some .int) 2 := ⟨q_1085, q_130, by decide, by decide, by decide⟩
theorem k_X8_fewestStreets : Yk yX8_fewestStreets cX8_fewestStreets 7 (some .int) 5 := ⟨q_1077, q_130, by decide, by decide, by decide⟩
theorem k_X8_fewestLefts : Yk yX8_fewestLefts cX8_fewestLefts 10 (some .int) 5 := ⟨q_1205, q_130, by decide, by decide, by decide⟩
theorem k_X8_streets : Yk yX8_streets cX8_streets 1 (some .int) 0 := ⟨q_1301, q_130, by decide, by decide, by decide⟩
theorem k_X8_survey : Yk yX8_survey cX8_survey 5 none 2 := ⟨q_1255, q_130, by decide, by decide, by decide⟩
theorem k_X8_reachable : Yk yX8_reachable cX8_reachable 5 (some .int) 2 := ⟨q_1251, q_130, by decide, by decide, by decide⟩
theorem k_X8_leastForAll : Yk yX8_leastForAll cX8_leastForAll 5 (some .int) 1 := ⟨q_1264, q_130, by decide, by decide, by decide⟩
theorem k_X8_leftByRights : Yk yX8_leftByRights cX8_leftByRights 4 (some .int) 1 := ⟨q_1272, q_130, by decide, by decide, by decide⟩
theorem k_X8_cornersToFree : Yk yX8_cornersToFree cX8_cornersToFree 7 (some .int) 3 := ⟨q_1323, q_130, by decide, by decide, by decide⟩
theorem k_X8_whereByEnvelopes : Yk yX8_whereByEnvelopes cX8_whereByEnvelopes 8 (some .int) 3 := ⟨q_1349, q_130, by decide, by decide, by decide⟩
theorem k_X8_goLeaving : Yk yX8_goLeaving cX8_goLeaving 7 none 4 := ⟨q_1353, q_130, by decide, by decide, by decide⟩
theorem k_X9_init : Yk yX9_init cX9_init 3 none 2 := ⟨q_446, q_134, by decide, by decide, by decide⟩
theorem k_X9_waysOfJust : Yk yX9_waysOfJust cX9_waysOfJust 9 (some .long) 4 := ⟨q_1234, q_134, by decide, by decide, by decide⟩
theorem k_X9_addWays : Yk yX9_addWays cX9_addWays 8 none 2 := ⟨q_1238, q_134, by decide, by decide, by decide⟩
theorem k_X9_addWaysBy : Yk yX9_addWaysBy cX9_addWaysBy 11 none 5 := ⟨q_1242, q_134, by decide, by decide, by decide⟩
theorem k_X9_leastCoins : Yk yX9_leastCoins cX9_leastCoins 7 (some .int) 3 := ⟨q_1213, q_134, by decide, by decide, by decide⟩
theorem k_X9_addCoins : Yk yX9_addCoins cX9_addCoins 11 none 2 := ⟨q_1220, q_134, by decide, by decide, by decide⟩
theorem k_X10_init : Yk yX10_init cX10_init 1 none 0 := ⟨q_496, q_136, by decide, by decide, by decide⟩
theorem k_X10_lay : Yk yX10_lay cX10_lay 3 none 2 := ⟨q_1390, q_136, by decide, by decide, by decide⟩
theorem k_X10_put : Yk yX10_put cX10_put 4 (some .long) 2 := ⟨q_1403, q_136, by decide, by decide, by decide⟩
theorem k_X10_asSmall : Yk yX10_asSmall cX10_asSmall 3 (some .int) 1 := ⟨q_1007, q_136, by decide, by decide, by decide⟩
theorem k_X10_allBelow : Yk yX10_allBelow cX10_allBelow 3 (some .boolean) 1 := ⟨q_1281, q_136, by decide, by decide, by decide⟩
theorem k_X11_init : Yk yX11_init cX11_init 7 none 0 := ⟨q_151, q_125, by decide, by decide, by decide⟩
theorem k_X11_feed : Yk yX11_feed cX11_feed 6 (some .int) 5 := ⟨q_577, q_125, by decide, by decide, by decide⟩
theorem k_X11_city : Yk yX11_city cX11_city 3 (some .int) 1 := ⟨q_593, q_125, by decide, by decide, by decide⟩
theorem k_X11_fault : Yk yX11_fault cX11_fault 2 (some .int) 1 := ⟨q_888, q_125, by decide, by decide, by decide⟩
theorem k_X11_person : Yk yX11_person cX11_person 3 (some .int) 2 := ⟨q_900, q_125, by decide, by decide, by decide⟩
theorem k_X11_street : Yk yX11_street cX11_street 3 (some .int) 2 := ⟨q_908, q_125, by decide, by decide, by decide⟩
theorem k_X11_crossing : Yk yX11_crossing cX11_crossing 4 (some .int) 2 := ⟨q_925, q_125, by decide, by decide, by decide⟩
theorem k_X11_price : Yk yX11_price cX11_price 4 (some .int) 3 := ⟨q_959, q_125, by decide, by decide, by decide⟩
theorem k_X11_why : Yk yX11_why cX11_why 3 (some .int) 2 := ⟨q_963, q_125, by decide, by decide, by decide⟩
theorem k_X11_go : Yk yX11_go cX11_go 4 (some .int) 2 := ⟨q_982, q_125, by decide, by decide, by decide⟩
theorem k_X11_judge : Yk yX11_judge cX11_judge 3 (some .int) 2 := ⟨q_996, q_125, by decide, by decide, by decide⟩
theorem k_X11_walk : Yk yX11_walk cX11_walk 3 (some .int) 1 := ⟨q_1011, q_125, by decide, by decide, by decide⟩
theorem k_X11_buy : Yk yX11_buy cX11_buy 5 (some .int) 2 := ⟨q_1015, q_125, by decide, by decide, by decide⟩
theorem k_X11_sell : Yk yX11_sell cX11_sell 4 (some .int) 1 := ⟨q_1024, q_125, by decide, by decide, by decide⟩
theorem k_X11_hand : Yk yX11_hand cX11_hand 5 (some .int) 3 := ⟨q_1029, q_125, by decide, by decide, by decide⟩
theorem k_X11_fog : Yk yX11_fog cX11_fog 3 (some .int) 2 := ⟨q_1033, q_125, by decide, by decide, by decide⟩
theorem k_X11_hours : Yk yX11_hours cX11_hours 2 (some .int) 1 := ⟨q_1043, q_125, by decide, by decide, by decide⟩
theorem k_X11_undo : Yk yX11_undo cX11_undo 2 (some .int) 1 := ⟨q_1047, q_125, by decide, by decide, by decide⟩
theorem k_X11_week : Yk yX11_week cX11_week 5 (some .int) 2 := ⟨q_1051, q_125, by decide, by decide, by decide⟩
theorem k_X11_way : Yk yX11_way cX11_way 4 (some .int) 3 := ⟨q_1069, q_125, by decide, by decide, by decide⟩
theorem k_X11_turn : Yk yX11_turn cX11_turn 5 (some .int) 4 := ⟨q_1147, q_125, by decide, by decide, by decide⟩
theorem k_X11_fewest : Yk yX11_fewest cX11_fewest 4 (some .int) 3 := ⟨q_1201, q_125, by decide, by decide, by decide⟩
theorem k_X11_cheapest : Yk yX11_cheapest cX11_cheapest 4 (some .int) 3 := ⟨q_1209, q_125, by decide, by decide, by decide⟩
theorem k_X11_ways : Yk yX11_ways cX11_ways 5 (some .long) 4 := ⟨q_1228, q_125, by decide, by decide, by decide⟩
theorem k_X11_reach : Yk yX11_reach cX11_reach 3 (some .int) 2 := ⟨q_1247, q_125, by decide, by decide, by decide⟩
theorem k_X11_enough : Yk yX11_enough cX11_enough 2 (some .int) 1 := ⟨q_1260, q_125, by decide, by decide, by decide⟩
theorem k_X11_byRights : Yk yX11_byRights cX11_byRights 3 (some .int) 2 := ⟨q_1268, q_125, by decide, by decide, by decide⟩
theorem k_X11_round : Yk yX11_round cX11_round 5 (some .int) 3 := ⟨q_1277, q_125, by decide, by decide, by decide⟩
theorem k_X11_makeFree : Yk yX11_makeFree cX11_makeFree 6 (some .int) 4 := ⟨q_1319, q_125, by decide, by decide, by decide⟩
theorem k_X11_bestCorner : Yk yX11_bestCorner cX11_bestCorner 9 (some .int) 3 := ⟨q_1329, q_125, by decide, by decide, by decide⟩
theorem k_X11_dealing : Yk yX11_dealing cX11_dealing 9 (some .int) 3 := ⟨q_1333, q_125, by decide, by decide, by decide⟩
theorem k_X11_cheap : Yk yX11_cheap cX11_cheap 5 (some .int) 0 := ⟨q_1337, q_125, by decide, by decide, by decide⟩
theorem k_X11_affords : Yk yX11_affords cX11_affords 6 (some .int) 1 := ⟨q_1341, q_125, by decide, by decide, by decide⟩
theorem k_X11_found : Yk yX11_found cX11_found 5 (some .int) 3 := ⟨q_1345, q_125, by decide, by decide, by decide⟩
theorem k_X11_chase : Yk yX11_chase cX11_chase 6 (some .int) 4 := ⟨q_1358, q_125, by decide, by decide, by decide⟩
theorem k_X11_posts : Yk yX11_posts cX11_posts 5 (some .int) 4 := ⟨q_1382, q_125, by decide, by decide, by decide⟩
theorem k_X11_numbers : Yk yX11_numbers cX11_numbers 4 (some .int) 3 := ⟨q_1386, q_125, by decide, by decide, by decide⟩
theorem k_X11_write : Yk yX11_write cX11_write 6 (some .long) 3 := ⟨q_1397, q_125, by decide, by decide, by decide⟩
theorem k_X11_lists : Yk yX11_lists cX11_lists 8 (some .int) 4 := ⟨q_1407, q_125, by decide, by decide, by decide⟩
theorem k_X11_image : Yk yX11_image cX11_image 2 (some .int) 1 := ⟨q_1412, q_125, by decide, by decide, by decide⟩
theorem k_X11_restore : Yk yX11_restore cX11_restore 2 (some .int) 1 := ⟨q_1416, q_125, by decide, by decide, by decide⟩
theorem k_X11_count : Yk yX11_count cX11_count 2 (some .int) 1 := ⟨q_1420, q_125, by decide, by decide, by decide⟩
theorem k_X11_isPerson : Yk yX11_isPerson cX11_isPerson 2 (some .boolean) 1 := ⟨q_904, q_125, by decide, by decide, by decide⟩
theorem k_X11_isCrossing : Yk yX11_isCrossing cX11_isCrossing 2 (some .boolean) 1 := ⟨q_916, q_125, by decide, by decide, by decide⟩
theorem k_X11_isStand : Yk yX11_isStand cX11_isStand 3 (some .boolean) 2 := ⟨q_912, q_125, by decide, by decide, by decide⟩
theorem k_X11_isTray : Yk yX11_isTray cX11_isTray 1 (some .boolean) 1 := ⟨q_999, q_125, by decide, by decide, by decide⟩
theorem k_X11_startAnew : Yk yX11_startAnew cX11_startAnew 1 none 0 := ⟨q_876, q_125, by decide, by decide, by decide⟩
theorem k_X11_keep : Yk yX11_keep cX11_keep 2 none 1 := ⟨q_986, q_125, by decide, by decide, by decide⟩
theorem k_X11_goWalk : Yk yX11_goWalk cX11_goWalk 10 (some .int) 1 := ⟨q_1003, q_125, by decide, by decide, by decide⟩
theorem k_X11_draw : Yk yX11_draw cX11_draw 1 (some .int) 0 := ⟨q_1059, q_125, by decide, by decide, by decide⟩
theorem k_X11_liveOnce : Yk yX11_liveOnce cX11_liveOnce 5 (some .boolean) 0 := ⟨q_1055, q_125, by decide, by decide, by decide⟩
theorem k_X12_within : Yk yX12_within cX12_within 6 (some .boolean) 3 := ⟨q_1581, q_137, by decide, by decide, by decide⟩
theorem k_X12_init : Yk yX12_init cX12_init 1 none 0 := ⟨q_1433, q_137, by decide, by decide, by decide⟩
theorem k_X12_plain : Yk yX12_plain cX12_plain 2 none 1 := ⟨q_1437, q_137, by decide, by decide, by decide⟩
theorem k_X12_feed : Yk yX12_feed cX12_feed 8 (some .int) 5 := ⟨q_1574, q_137, by decide, by decide, by decide⟩
theorem k_X12_see : Yk yX12_see cX12_see 2 (some .int) 1 := ⟨q_1589, q_137, by decide, by decide, by decide⟩
theorem k_X12_isSmall : Yk yX12_isSmall cX12_isSmall 1 (some .boolean) 1 := ⟨q_1592, q_137, by decide, by decide, by decide⟩
theorem k_X12_isDigit : Yk yX12_isDigit cX12_isDigit 1 (some .boolean) 1 := ⟨q_1602, q_137, by decide, by decide, by decide⟩
theorem k_X12_keyAt : Yk yX12_keyAt cX12_keyAt 4 (some .int) 0 := ⟨q_1596, q_137, by decide, by decide, by decide⟩
theorem k_X12_next : Yk yX12_next cX12_next 2 none 0 := ⟨q_1585, q_137, by decide, by decide, by decide⟩
theorem k_X12_fails : Yk yX12_fails cX12_fails 2 none 1 := ⟨q_1623, q_137, by decide, by decide, by decide⟩
theorem k_X12_is : Yk yX12_is cX12_is 2 (some .boolean) 1 := ⟨q_1611, q_137, by decide, by decide, by decide⟩
theorem k_X12_eats : Yk yX12_eats cX12_eats 2 (some .boolean) 1 := ⟨q_1644, q_137, by decide, by decide, by decide⟩
theorem k_X12_takes : Yk yX12_takes cX12_takes 4 (some .int) 2 := ⟨q_1619, q_137, by decide, by decide, by decide⟩
theorem k_X12_isIn : Yk yX12_isIn cX12_isIn 3 (some .boolean) 2 := ⟨q_1717, q_137, by decide, by decide, by decide⟩
theorem k_X12_codes : Yk yX12_codes cX12_codes 2 none 1 := ⟨q_1664, q_137, by decide, by decide, by decide⟩
theorem k_X12_goesIn : Yk yX12_goesIn cX12_goesIn 2 (some .boolean) 1 := ⟨q_1670, q_137, by decide, by decide, by decide⟩
theorem k_X12_readAtom : Yk yX12_readAtom cX12_readAtom 2 none 1 := ⟨q_1660, q_137, by decide, by decide, by decide⟩
theorem k_X12_readTerm : Yk yX12_readTerm cX12_readTerm 2 none 1 := ⟨q_1656, q_137, by decide, by decide, by decide⟩
theorem k_X12_readSum : Yk yX12_readSum cX12_readSum 3 none 1 := ⟨q_1652, q_137, by decide, by decide, by decide⟩
theorem k_X12_readUnit : Yk yX12_readUnit cX12_readUnit 3 none 1 := ⟨q_1682, q_137, by decide, by decide, by decide⟩
theorem k_X12_readBoth : Yk yX12_readBoth cX12_readBoth 2 none 1 := ⟨q_1678, q_137, by decide, by decide, by decide⟩
theorem k_X12_readTruth : Yk yX12_readTruth cX12_readTruth 2 none 1 := ⟨q_1674, q_137, by decide, by decide, by decide⟩
theorem k_X12_readCity : Yk yX12_readCity cX12_readCity 3 none 0 := ⟨q_1615, q_137, by decide, by decide, by decide⟩
theorem k_X12_takesCrossing : Yk yX12_takesCrossing cX12_takesCrossing 3 (some .int) 0 := ⟨q_1631, q_137, by decide, by decide, by decide⟩
theorem k_X12_readWall : Yk yX12_readWall cX12_readWall 4 none 0 := ⟨q_1627, q_137, by decide, by decide, by decide⟩
theorem k_X12_readPerson : Yk yX12_readPerson cX12_readPerson 6 none 0 := ⟨q_1638, q_137, by decide, by decide, by decide⟩
theorem k_X12_readLaw : Yk yX12_readLaw cX12_readLaw 3 none 1 := ⟨q_1648, q_137, by decide, by decide, by decide⟩
theorem k_X12_readLine : Yk yX12_readLine cX12_readLine 3 none 0 := ⟨q_1607, q_137, by decide, by decide, by decide⟩
theorem k_X12_city : Yk yX12_city cX12_city 3 (some .int) 1 := ⟨q_1578, q_137, by decide, by decide, by decide⟩
theorem k_X12_fault : Yk yX12_fault cX12_fault 2 (some .int) 1 := ⟨q_1686, q_137, by decide, by decide, by decide⟩
theorem k_X12_beyond : Yk yX12_beyond cX12_beyond 5 (some .int) 3 := ⟨q_1634, q_137, by decide, by decide, by decide⟩
theorem k_X12_streetFrom : Yk yX12_streetFrom cX12_streetFrom 3 (some .int) 2 := ⟨q_1714, q_137, by decide, by decide, by decide⟩
theorem k_X12_crossings : Yk yX12_crossings cX12_crossings 1 (some .int) 0 := ⟨q_1706, q_137, by decide, by decide, by decide⟩
theorem k_X12_isCrossing : Yk yX12_isCrossing cX12_isCrossing 3 (some .boolean) 1 := ⟨q_1702, q_137, by decide, by decide, by decide⟩
theorem k_X12_isPerson : Yk yX12_isPerson cX12_isPerson 3 (some .boolean) 1 := ⟨q_1694, q_137, by decide, by decide, by decide⟩
theorem k_X12_isDirection : Yk yX12_isDirection cX12_isDirection 1 (some .boolean) 1 := ⟨q_1709, q_137, by decide, by decide, by decide⟩
theorem k_X12_directionBy : Yk yX12_directionBy cX12_directionBy 2 (some .int) 2 := ⟨q_1762, q_137, by decide, by decide, by decide⟩
theorem k_X12_leftsOf : Yk yX12_leftsOf cX12_leftsOf 1 (some .int) 1 := ⟨q_1770, q_137, by decide, by decide, by decide⟩
theorem k_X12_isFreeIn : Yk yX12_isFreeIn cX12_isFreeIn 3 (some .boolean) 2 := ⟨q_1742, q_137, by decide, by decide, by decide⟩
theorem k_X12_between : Yk yX12_between cX12_between 5 (some .int) 3 := ⟨q_1736, q_137, by decide, by decide, by decide⟩
theorem k_X12_wordOf : Yk yX12_wordOf cX12_wordOf 6 (some .int) 4 := ⟨q_1733, q_137, by decide, by decide, by decide⟩
theorem k_X12_reckons : Yk yX12_reckons cX12_reckons 8 (some .int) 4 := ⟨q_1729, q_137, by decide, by decide, by decide⟩
theorem k_X12_priceOf : Yk yX12_priceOf cX12_priceOf 5 (some .int) 3 := ⟨q_1725, q_137, by decide, by decide, by decide⟩
theorem k_X12_mayTurn : Yk yX12_mayTurn cX12_mayTurn 4 (some .boolean) 3 := ⟨q_1767, q_137, by decide, by decide, by decide⟩
theorem k_X12_person : Yk yX12_person cX12_person 3 (some .int) 2 := ⟨q_1690, q_137, by decide, by decide, by decide⟩
theorem k_X12_street : Yk yX12_street cX12_street 3 (some .int) 2 := ⟨q_1698, q_137, by decide, by decide, by decide⟩
theorem k_X12_streetsFrom : Yk yX12_streetsFrom cX12_streetsFrom 4 (some .int) 1 := ⟨q_1746, q_137, by decide, by decide, by decide⟩
theorem k_X12_crossing : Yk yX12_crossing cX12_crossing 3 (some .int) 2 := ⟨q_1721, q_137, by decide, by decide, by decide⟩
theorem k_X12_price : Yk yX12_price cX12_price 4 (some .int) 3 := ⟨q_1750, q_137, by decide, by decide, by decide⟩
theorem k_X12_whyNot : Yk yX12_whyNot cX12_whyNot 7 (some .int) 2 := ⟨q_1759, q_137, by decide, by decide, by decide⟩
theorem k_X12_why : Yk yX12_why cX12_why 3 (some .int) 2 := ⟨q_1755, q_137, by decide, by decide, by decide⟩
theorem k_X12_keeps : Yk yX12_keeps cX12_keeps 2 none 0 := ⟨q_1778, q_137, by decide, by decide, by decide⟩
theorem k_X12_isAgain : Yk yX12_isAgain cX12_isAgain 2 none 0 := ⟨q_1805, q_137, by decide, by decide, by decide⟩
theorem k_X12_notes : Yk yX12_notes cX12_notes 2 none 0 := ⟨q_1789, q_137, by decide, by decide, by decide⟩
theorem k_X12_goes : Yk yX12_goes cX12_goes 5 (some .int) 2 := ⟨q_1782, q_137, by decide, by decide, by decide⟩
theorem k_X12_go : Yk yX12_go cX12_go 4 (some .int) 2 := ⟨q_1774, q_137, by decide, by decide, by decide⟩
theorem k_X12_noTray : Yk yX12_noTray cX12_noTray 2 (some .int) 1 := ⟨q_1797, q_137, by decide, by decide, by decide⟩
theorem k_X12_tells : Yk yX12_tells cX12_tells 4 (some .int) 1 := ⟨q_1801, q_137, by decide, by decide, by decide⟩
theorem k_X12_judge : Yk yX12_judge cX12_judge 7 (some .int) 2 := ⟨q_1793, q_137, by decide, by decide, by decide⟩
theorem k_X12_walk : Yk yX12_walk cX12_walk 4 (some .int) 1 := ⟨q_1809, q_137, by decide, by decide, by decide⟩
theorem k_X12_buys : Yk yX12_buys cX12_buys 6 (some .long) 2 := ⟨q_1821, q_137, by decide, by decide, by decide⟩
theorem k_X12_boughtBy : Yk yX12_boughtBy cX12_boughtBy 6 (some .int) 2 := ⟨q_1817, q_137, by decide, by decide, by decide⟩
theorem k_X12_buy : Yk yX12_buy cX12_buy 4 (some .int) 2 := ⟨q_1813, q_137, by decide, by decide, by decide⟩
theorem k_X12_sell : Yk yX12_sell cX12_sell 3 (some .int) 1 := ⟨q_1825, q_137, by decide, by decide, by decide⟩
theorem k_X12_hand : Yk yX12_hand cX12_hand 4 (some .int) 3 := ⟨q_1829, q_137, by decide, by decide, by decide⟩
theorem k_X12_freeMany : Yk yX12_freeMany cX12_freeMany 3 (some .int) 0 := ⟨q_1838, q_137, by decide, by decide, by decide⟩
theorem k_X12_fog : Yk yX12_fog cX12_fog 3 (some .int) 2 := ⟨q_1834, q_137, by decide, by decide, by decide⟩
theorem k_X12_hours : Yk yX12_hours cX12_hours 2 (some .int) 1 := ⟨q_1842, q_137, by decide, by decide, by decide⟩
theorem k_X12_undo : Yk yX12_undo cX12_undo 3 (some .int) 1 := ⟨q_1846, q_137, by decide, by decide, by decide⟩
theorem k_X12_draw : Yk yX12_draw cX12_draw 2 (some .int) 1 := ⟨q_1860, q_137, by decide, by decide, by decide⟩
theorem k_X12_isDrawn : Yk yX12_isDrawn cX12_isDrawn 4 (some .boolean) 0 := ⟨q_1856, q_137, by decide, by decide, by decide⟩
theorem k_X12_week : Yk yX12_week cX12_week 5 (some .int) 2 := ⟨q_1851, q_137, by decide, by decide, by decide⟩
theorem k_X12_laysLaws : Yk yX12_laysLaws cX12_laysLaws 5 none 1 := ⟨q_1882, q_137, by decide, by decide, by decide⟩
theorem k_X12_costOf : Yk yX12_costOf cX12_costOf 7 (some .int) 5 := ⟨q_1891, q_137, by decide, by decide, by decide⟩
theorem k_X12_lesser : Yk yX12_lesser cX12_lesser 2 (some .int) 2 := ⟨q_1785, q_137, by decide, by decide, by decide⟩
theorem k_X12_laysSofar : Yk yX12_laysSofar cX12_laysSofar 11 none 4 := ⟨q_1886, q_137, by decide, by decide, by decide⟩
theorem k_X12_laysStill : Yk yX12_laysStill cX12_laysStill 5 none 2 := ⟨q_1915, q_137, by decide, by decide, by decide⟩
theorem k_X12_stillBy : Yk yX12_stillBy cX12_stillBy 6 (some .int) 2 := ⟨q_1919, q_137, by decide, by decide, by decide⟩
theorem k_X12_leastAt : Yk yX12_leastAt cX12_leastAt 5 (some .int) 2 := ⟨q_1899, q_137, by decide, by decide, by decide⟩
theorem k_X12_leastWithin : Yk yX12_leastWithin cX12_leastWithin 5 (some .int) 2 := ⟨q_1927, q_137, by decide, by decide, by decide⟩
theorem k_X12_orNone : Yk yX12_orNone cX12_orNone 1 (some .int) 1 := ⟨q_1930, q_137, by decide, by decide, by decide⟩
theorem k_X12_laysFor : Yk yX12_laysFor cX12_laysFor 4 none 3 := ⟨q_1878, q_137, by decide, by decide, by decide⟩
theorem k_X12_areThere : Yk yX12_areThere cX12_areThere 3 (some .boolean) 2 := ⟨q_1869, q_137, by decide, by decide, by decide⟩
theorem k_X12_wayOf : Yk yX12_wayOf cX12_wayOf 4 (some .int) 3 := ⟨q_1874, q_137, by decide, by decide, by decide⟩
theorem k_X12_soonestBy : Yk yX12_soonestBy cX12_soonestBy 4 (some .int) 2 := ⟨q_1895, q_137, by decide, by decide, by decide⟩
theorem k_X12_way : Yk yX12_way cX12_way 4 (some .int) 3 := ⟨q_1865, q_137, by decide, by decide, by decide⟩
theorem k_X12_laysTurns : Yk yX12_laysTurns cX12_laysTurns 13 none 5 := ⟨q_1911, q_137, by decide, by decide, by decide⟩
theorem k_X12_laysWay : Yk yX12_laysWay cX12_laysWay 5 (some .int) 3 := ⟨q_1907, q_137, by decide, by decide, by decide⟩
theorem k_X12_turn : Yk yX12_turn cX12_turn 6 (some .int) 4 := ⟨q_1903, q_137, by decide, by decide, by decide⟩
theorem k_X12_fewest : Yk yX12_fewest cX12_fewest 4 (some .int) 3 := ⟨q_1923, q_137, by decide, by decide, by decide⟩
theorem k_X12_cheapest : Yk yX12_cheapest cX12_cheapest 4 (some .int) 3 := ⟨q_1934, q_137, by decide, by decide, by decide⟩
theorem k_X12_countsOn : Yk yX12_countsOn cX12_countsOn 9 none 3 := ⟨q_1945, q_137, by decide, by decide, by decide⟩
theorem k_X12_ways : Yk yX12_ways cX12_ways 9 (some .long) 4 := ⟨q_1938, q_137, by decide, by decide, by decide⟩
theorem k_X12_reach : Yk yX12_reach cX12_reach 5 (some .int) 2 := ⟨q_1949, q_137, by decide, by decide, by decide⟩
theorem k_X12_enough : Yk yX12_enough cX12_enough 5 (some .int) 1 := ⟨q_1953, q_137, by decide, by decide, by decide⟩
theorem k_X12_byRights : Yk yX12_byRights cX12_byRights 9 (some .int) 2 := ⟨q_1957, q_137, by decide, by decide, by decide⟩
theorem k_X12_leg : Yk yX12_leg cX12_leg 5 (some .int) 3 := ⟨q_1971, q_137, by decide, by decide, by decide⟩
theorem k_X12_goesRound : Yk yX12_goesRound cX12_goesRound 10 none 6 := ⟨q_1967, q_137, by decide, by decide, by decide⟩
theorem k_X12_round : Yk yX12_round cX12_round 6 (some .int) 3 := ⟨q_1961, q_137, by decide, by decide, by decide⟩
theorem k_X12_comesFree : Yk yX12_comesFree cX12_comesFree 11 (some .boolean) 4 := ⟨q_1983, q_137, by decide, by decide, by decide⟩
theorem k_X12_freesBy : Yk yX12_freesBy cX12_freesBy 10 (some .int) 6 := ⟨q_1979, q_137, by decide, by decide, by decide⟩
theorem k_X12_makeFree : Yk yX12_makeFree cX12_makeFree 7 (some .int) 4 := ⟨q_1975, q_137, by decide, by decide, by decide⟩
theorem k_X12_bestCorner : Yk yX12_bestCorner cX12_bestCorner 9 (some .int) 3 := ⟨q_1987, q_137, by decide, by decide, by decide⟩
theorem k_X12_dealing : Yk yX12_dealing cX12_dealing 10 (some .int) 3 := ⟨q_1992, q_137, by decide, by decide, by decide⟩
theorem k_X12_cheap : Yk yX12_cheap cX12_cheap 3 (some .int) 0 := ⟨q_1996, q_137, by decide, by decide, by decide⟩
theorem k_X12_affords : Yk yX12_affords cX12_affords 4 (some .int) 1 := ⟨q_2000, q_137, by decide, by decide, by decide⟩
theorem k_X12_lie : Yk yX12_lie cX12_lie 6 (some .boolean) 4 := ⟨q_2012, q_137, by decide, by decide, by decide⟩
theorem k_X12_findsOn : Yk yX12_findsOn cX12_findsOn 9 none 3 := ⟨q_2008, q_137, by decide, by decide, by decide⟩
theorem k_X12_found : Yk yX12_found cX12_found 7 (some .int) 3 := ⟨q_2004, q_137, by decide, by decide, by decide⟩
theorem k_X12_goesOn : Yk yX12_goesOn cX12_goesOn 5 (some .int) 2 := ⟨q_2028, q_137, by decide, by decide, by decide⟩
theorem k_X12_isSure : Yk yX12_isSure cX12_isSure 9 (some .boolean) 3 := ⟨q_2024, q_137, by decide, by decide, by decide⟩
theorem k_X12_laysCatches : Yk yX12_laysCatches cX12_laysCatches 5 none 1 := ⟨q_2020, q_137, by decide, by decide, by decide⟩
theorem k_X12_chase : Yk yX12_chase cX12_chase 5 (some .int) 4 := ⟨q_2016, q_137, by decide, by decide, by decide⟩
theorem k_X12_posts : Yk yX12_posts cX12_posts 7 (some .int) 4 := ⟨q_2032, q_137, by decide, by decide, by decide⟩
theorem k_X12_cut : Yk yX12_cut cX12_cut 3 (some .long) 2 := ⟨q_2044, q_137, by decide, by decide, by decide⟩
theorem k_X12_numbers : Yk yX12_numbers cX12_numbers 5 (some .int) 3 := ⟨q_2036, q_137, by decide, by decide, by decide⟩
theorem k_X12_write : Yk yX12_write cX12_write 6 (some .long) 3 := ⟨q_2040, q_137, by decide, by decide, by decide⟩
theorem k_X12_lists : Yk yX12_lists cX12_lists 9 (some .int) 4 := ⟨q_2048, q_137, by decide, by decide, by decide⟩
theorem k_X12_image : Yk yX12_image cX12_image 3 (some .int) 1 := ⟨q_2052, q_137, by decide, by decide, by decide⟩
theorem k_X12_restore : Yk yX12_restore cX12_restore 3 (some .int) 1 := ⟨q_2056, q_137, by decide, by decide, by decide⟩
theorem k_X12_allLefts : Yk yX12_allLefts cX12_allLefts 3 (some .int) 0 := ⟨q_2068, q_137, by decide, by decide, by decide⟩
theorem k_X12_count : Yk yX12_count cX12_count 2 (some .int) 1 := ⟨q_2060, q_137, by decide, by decide, by decide⟩
theorem k_X12_soldMany : Yk yX12_soldMany cX12_soldMany 3 (some .int) 0 := ⟨q_2064, q_137, by decide, by decide, by decide⟩
theorem k_J11_isValidCodePoint_9a6ad : Yk yJ11_isValidCodePoint_9a6ad cJ11_isValidCodePoint_9a6ad 2 (some .boolean) 1 := ⟨q_708, q_144, by decide, by decide, by decide⟩
theorem k_J11_highSurrogate_5068e : Yk yJ11_highSurrogate_5068e cJ11_highSurrogate_5068e 1 (some .char) 1 := ⟨q_711, q_144, by decide, by decide, by decide⟩
theorem k_J11_lowSurrogate_5068e : Yk yJ11_lowSurrogate_5068e cJ11_lowSurrogate_5068e 1 (some .char) 1 := ⟨q_715, q_144, by decide, by decide, by decide⟩
theorem k_J6_bitCount_0f7a4 : Yk yJ6_bitCount_0f7a4 cJ6_bitCount_0f7a4 1 (some .int) 1 := ⟨q_1036, q_146, by decide, by decide, by decide⟩
theorem k_J9_max_7cf53 : Yk yJ9_max_7cf53 cJ9_max_7cf53 2 (some .int) 2 := ⟨q_661, q_141, by decide, by decide, by decide⟩
theorem k_J9_max_f86c9 : Yk yJ9_max_f86c9 cJ9_max_f86c9 4 (some .long) 2 := ⟨q_945, q_141, by decide, by decide, by decide⟩
theorem k_J9_min_7cf53 : Yk yJ9_min_7cf53 cJ9_min_7cf53 2 (some .int) 2 := ⟨q_664, q_141, by decide, by decide, by decide⟩
theorem k_J9_min_f86c9 : Yk yJ9_min_f86c9 cJ9_min_f86c9 4 (some .long) 2 := ⟨q_942, q_141, by decide, by decide, by decide⟩
theorem k_J0_length_8abf5 : Yk yJ0_length_8abf5 cJ0_length_8abf5 1 (some .int) 0 := ⟨q_648, q_139, by decide, by decide, by decide⟩
theorem k_J0_charAt_5068e : Yk yJ0_charAt_5068e cJ0_charAt_5068e 2 (some .char) 1 := ⟨q_730, q_139, by decide, by decide, by decide⟩
theorem k_J0_indexOf_0f7a4 : Yk yJ0_indexOf_0f7a4 cJ0_indexOf_0f7a4 2 (some .int) 1 := ⟨q_634, q_139, by decide, by decide, by decide⟩
theorem k_J0_indexOf_7cf53 : Yk yJ0_indexOf_7cf53 cJ0_indexOf_7cf53 3 (some .int) 2 := ⟨q_638, q_139, by decide, by decide, by decide⟩
theorem k_J0_coder_7d493 : Yk yJ0_coder_7d493 cJ0_coder_7d493 1 (some .byte) 0 := ⟨q_652, q_139, by decide, by decide, by decide⟩
theorem k_J0_isLatin1_aae02 : Yk yJ0_isLatin1_aae02 cJ0_isLatin1_aae02 1 (some .boolean) 0 := ⟨q_642, q_139, by decide, by decide, by decide⟩
theorem k_J0_checkIndex_df160 : Yk yJ0_checkIndex_df160 cJ0_checkIndex_df160 2 none 2 := ⟨q_736, q_139, by decide, by decide, by decide⟩
theorem k_J0_checkBoundsBeginEnd_23922 : Yk yJ0_checkBoundsBeginEnd_23922 cJ0_checkBoundsBeginEnd_23922 3 none 3 := ⟨q_685, q_139, by decide, by decide, by decide⟩
theorem k_J1_charAt_3b067 : Yk yJ1_charAt_3b067 cJ1_charAt_3b067 2 (some .char) 2 := ⟨q_733, q_140, by decide, by decide, by decide⟩
theorem k_J1_canEncode_9a6ad : Yk yJ1_canEncode_9a6ad cJ1_canEncode_9a6ad 1 (some .boolean) 1 := ⟨q_658, q_140, by decide, by decide, by decide⟩
theorem k_J1_indexOf_4cfef : Yk yJ1_indexOf_4cfef cJ1_indexOf_4cfef 4 (some .int) 4 := ⟨q_655, q_140, by decide, by decide, by decide⟩
theorem k_J1_indexOfChar_4cfef : Yk yJ1_indexOfChar_4cfef cJ1_indexOfChar_4cfef 6 (some .int) 4 := ⟨q_667, q_140, by decide, by decide, by decide⟩
theorem k_J2_getChar_3b067 : Yk yJ2_getChar_3b067 cJ2_getChar_3b067 2 (some .char) 2 := ⟨q_696, q_142, by decide, by decide, by decide⟩
theorem k_J2_length_9d52b : Yk yJ2_length_9d52b cJ2_length_9d52b 1 (some .int) 1 := ⟨q_682, q_142, by decide, by decide, by decide⟩
theorem k_J2_indexOf_4cfef : Yk yJ2_indexOf_4cfef cJ2_indexOf_4cfef 4 (some .int) 4 := ⟨q_670, q_142, by decide, by decide, by decide⟩
theorem k_J2_indexOfChar_4cfef : Yk yJ2_indexOfChar_4cfef cJ2_indexOfChar_4cfef 4 (some .int) 4 := ⟨q_676, q_142, by decide, by decide, by decide⟩
theorem k_J2_indexOfCharUnsafe_4cfef : Yk yJ2_indexOfCharUnsafe_4cfef cJ2_indexOfCharUnsafe_4cfef 5 (some .int) 4 := ⟨q_693, q_142, by decide, by decide, by decide⟩
theorem k_J2_indexOfSupplementary_4cfef : Yk yJ2_indexOfSupplementary_4cfef cJ2_indexOfSupplementary_4cfef 7 (some .int) 4 := ⟨q_705, q_142, by decide, by decide, by decide⟩
theorem k_J2_charAt_3b067 : Yk yJ2_charAt_3b067 cJ2_charAt_3b067 2 (some .char) 2 := ⟨q_742, q_142, by decide, by decide, by decide⟩
theorem k_J2_checkIndex_2214a : Yk yJ2_checkIndex_2214a cJ2_checkIndex_2214a 2 none 2 := ⟨q_745, q_142, by decide, by decide, by decide⟩
theorem k_J2_checkBoundsBeginEnd_d044e : Yk yJ2_checkBoundsBeginEnd_d044e cJ2_checkBoundsBeginEnd_d044e 3 none 3 := ⟨q_679, q_142, by decide, by decide, by decide⟩
theorem k_J7_fill_d0a16 : Yk yJ7_fill_d0a16 cJ7_fill_d0a16 5 none 2 := ⟨q_1393, q_138, by decide, by decide, by decide⟩
theorem k_J7_fill_53178 : Yk yJ7_fill_53178 cJ7_fill_53178 4 none 2 := ⟨q_612, q_138, by decide, by decide, by decide⟩
theorem k_J3_checkIndex_8e157 : Yk yJ3_checkIndex_8e157 cJ3_checkIndex_8e157 3 (some .int) 3 := ⟨q_739, q_143, by decide, by decide, by decide⟩
theorem k_J3_checkFromToIndex_8c36e : Yk yJ3_checkFromToIndex_8c36e cJ3_checkFromToIndex_8c36e 4 (some .int) 4 := ⟨q_690, q_143, by decide, by decide, by decide⟩
end
section
abbrev mO (r : Nat → Nat) : va_E := .inr (12, [.int 0, .ref (r 1), .ref (r 2), .ref (r 3), .ref (r 4), .int 0, .int 0, .int 0, .int 0, .int 0, .int 0, .int 0, .int 0, .int 0, .int (-1), .ref (r 15), .ref (r 16), .int 0, .int 0, .int 0, .ref (r 20), .ref (r 21), .ref (r 22), .ref (r 23), .ref (r 24), .ref (r 25), .int 0, .ref (r 27), .int 0, .ref (r 29), .ref (r 30), .ref (r 31), .ref (r 32), .ref (r 33), .ref (r 34), .int 0, .int 0, .int 0, .ref (r 38), .ref (r 39), .ref (r 40), .ref (r 41), .ref (r 42), .ref (r 43)])
def sp_fault (w : Int32) : Int32 := if w = 0 then 0 else -1
def sp_tray (t : Int32) : Int32 := if 0 ≤ t ∧ t ≤ 3 then -6 else -2
def sp_judge (t w : Int32) : Int32 := if (0 ≤ t ∧ t ≤ 3) ∧ (0 ≤ w ∧ w ≤ 3) then -6 else -2
def sp_hours (n : Int32) : Int32 := if 1 ≤ n ∧ n ≤ 99 then n else -3
def sp_week (n : Int32) : Int32 := if 1 ≤ n ∧ n ≤ 60 then -5 else -3
def sp_numbers (t o n : Int32) : Int32 := if (0 ≤ t ∧ t ≤ 3) ∧ (0 ≤ o ∧ o ≤ 3) then (if 0 ≤ n ∧ n ≤ 40 then 0 else -3) else -2
def sp_image (i : Int32) : Int32 := if 0 ≤ i ∧ i ≤ 1 then 0 else -2
def sp_restore (i : Int32) : Int32 := if 0 ≤ i ∧ i ≤ 1 then -5 else -2
def sp_count (w : Int32) : Int32 := if 0 ≤ w ∧ w ≤ 9 then 0 else -1
def sp_city (n : Int32) : Int32 := if n = 0 then 0 else -3
theorem in4 {x : Int32} (h1 : 0 ≤ x) (h2 : x ≤ 3) : x = 0 ∨ x = 1 ∨ x = 2 ∨ x = 3 := by
  have e1 : x = Int32.ofInt x.toInt := (Int32.ofInt_toInt _).symm
  have a1 : (0 : Int32).toInt ≤ x.toInt := Int32.le_iff_toInt_le.mp h1
  have a2 : x.toInt ≤ (3 : Int32).toInt := Int32.le_iff_toInt_le.mp h2
  have b1 : (0 : Int32).toInt = 0 := by decide
  have b2 : (3 : Int32).toInt = 3 := by decide
  rcases (show x.toInt = 0 ∨ x.toInt = 1 ∨ x.toInt = 2 ∨ x.toInt = 3 by omega) with e | e | e | e <;> rw [e] at e1
  · exact Or.inl e1
  · exact Or.inr (Or.inl e1)
  · exact Or.inr (Or.inr (Or.inl e1))
  · exact Or.inr (Or.inr (Or.inr e1))
theorem in2 {x : Int32} (h1 : 0 ≤ x) (h2 : x ≤ 1) : x = 0 ∨ x = 1 := by
  rcases in4 h1 (Int32.le_trans h2 (by decide)) with e | e | e | e
  · exact Or.inl e
  · exact Or.inr e
  · rw [e] at h2; exact absurd h2 (by decide)
  · rw [e] at h2; exact absurd h2 (by decide)
theorem dX0_crossings_0 : decode cX0_crossings 0 = .ok (.aload_n 0, 1) := by decide +kernel
theorem dX0_crossings_1 : decode cX0_crossings 1 = .ok (.getfield 45, 3) := by decide +kernel
theorem dX0_crossings_4 : decode cX0_crossings 4 = .ok (.aload_n 0, 1) := by decide +kernel
theorem dX0_crossings_5 : decode cX0_crossings 5 = .ok (.getfield 49, 3) := by decide +kernel
theorem dX0_crossings_8 : decode cX0_crossings 8 = .ok (.imul, 1) := by decide +kernel
theorem dX0_crossings_9 : decode cX0_crossings 9 = .ok (.ireturn, 1) := by decide +kernel
theorem dX11_isPerson_0 : decode cX11_isPerson 0 = .ok (.iload_n 1, 1) := by decide +kernel
theorem dX11_isPerson_1 : decode cX11_isPerson 1 = .ok (.ifCond .lt 21, 3) := by decide +kernel
theorem dX11_isPerson_4 : decode cX11_isPerson 4 = .ok (.iload_n 1, 1) := by decide +kernel
theorem dX11_isPerson_5 : decode cX11_isPerson 5 = .ok (.aload_n 0, 1) := by decide +kernel
theorem dX11_isPerson_6 : decode cX11_isPerson 6 = .ok (.getfield 27, 3) := by decide +kernel
theorem dX11_isPerson_9 : decode cX11_isPerson 9 = .ok (.getfield 145, 3) := by decide +kernel
theorem dX11_isPerson_12 : decode cX11_isPerson 12 = .ok (.getfield 240, 3) := by decide +kernel
theorem dX11_isPerson_15 : decode cX11_isPerson 15 = .ok (.if_icmp .ge 7, 3) := by decide +kernel
theorem dX11_isPerson_22 : decode cX11_isPerson 22 = .ok (.iconst 0, 1) := by decide +kernel
theorem dX11_isPerson_23 : decode cX11_isPerson 23 = .ok (.ireturn, 1) := by decide +kernel
theorem dX11_isCrossing_0 : decode cX11_isCrossing 0 = .ok (.iload_n 1, 1) := by decide +kernel
theorem dX11_isCrossing_1 : decode cX11_isCrossing 1 = .ok (.ifCond .lt 18, 3) := by decide +kernel
theorem dX11_isCrossing_4 : decode cX11_isCrossing 4 = .ok (.iload_n 1, 1) := by decide +kernel
theorem dX11_isCrossing_5 : decode cX11_isCrossing 5 = .ok (.aload_n 0, 1) := by decide +kernel
theorem dX11_isCrossing_6 : decode cX11_isCrossing 6 = .ok (.getfield 27, 3) := by decide +kernel
theorem dX11_isCrossing_9 : decode cX11_isCrossing 9 = .ok (.invokevirtual 287, 3) := by decide +kernel
theorem dX11_isCrossing_12 : decode cX11_isCrossing 12 = .ok (.if_icmp .ge 7, 3) := by decide +kernel
theorem dX11_isCrossing_19 : decode cX11_isCrossing 19 = .ok (.iconst 0, 1) := by decide +kernel
theorem dX11_isCrossing_20 : decode cX11_isCrossing 20 = .ok (.ireturn, 1) := by decide +kernel
theorem dX11_isStand_0 : decode cX11_isStand 0 = .ok (.aload_n 0, 1) := by decide +kernel
theorem dX11_isStand_1 : decode cX11_isStand 1 = .ok (.iload_n 1, 1) := by decide +kernel
theorem dX11_isStand_2 : decode cX11_isStand 2 = .ok (.invokevirtual 171, 3) := by decide +kernel
theorem dX11_isStand_5 : decode cX11_isStand 5 = .ok (.ifCond .eq 16, 3) := by decide +kernel
theorem dX11_isStand_21 : decode cX11_isStand 21 = .ok (.iconst 0, 1) := by decide +kernel
theorem dX11_isStand_22 : decode cX11_isStand 22 = .ok (.ireturn, 1) := by decide +kernel
theorem dX11_isTray_0 : decode cX11_isTray 0 = .ok (.iload_n 0, 1) := by decide +kernel
theorem dX11_isTray_1 : decode cX11_isTray 1 = .ok (.ifCond .lt 12, 3) := by decide +kernel
theorem dX11_isTray_4 : decode cX11_isTray 4 = .ok (.iload_n 0, 1) := by decide +kernel
theorem dX11_isTray_5 : decode cX11_isTray 5 = .ok (.iconst 4, 1) := by decide +kernel
theorem dX11_isTray_6 : decode cX11_isTray 6 = .ok (.if_icmp .ge 7, 3) := by decide +kernel
theorem dX11_isTray_9 : decode cX11_isTray 9 = .ok (.iconst 1, 1) := by decide +kernel
theorem dX11_isTray_10 : decode cX11_isTray 10 = .ok (.goto 4, 3) := by decide +kernel
theorem dX11_isTray_13 : decode cX11_isTray 13 = .ok (.iconst 0, 1) := by decide +kernel
theorem dX11_isTray_14 : decode cX11_isTray 14 = .ok (.ireturn, 1) := by decide +kernel
set_option maxHeartbeats 4000000 in
set_option maxRecDepth 100000 in
theorem c_X0_crossings (l : Launch) (G : GG) (a : Nat) (u : Nat → Nat) : Mt l yX0_crossings cX0_crossings 1 (some .int) 0 0 0 G [.ref a] [(a, .inr (0, [.ref (u 0), .ref (u 1), .ref (u 2), .ref (u 3), .ref (u 4), .int 0, .int 0, .int 0, .int 0]))] (Ri (S := Unit) G (fun r _ => r = 0) (fun _ => [(a, .inr (0, [.ref (u 0), .ref (u 1), .ref (u 2), .ref (u 3), .ref (u 4), .int 0, .int 0, .int 0, .int 0]))])) := by
  refine Mt.start (by decide) (Nat.le_of_ble_eq_true rfl) ?_
  intro p e s m below meth c A ls C0 hini h hl
  have C0 : Cx p s m _ meth c RX0 cX0_crossings 1 (some .int) := C0
  obtain ⟨hx, hb, hml, hown, hts, -⟩ := id C0
  have hl : lv_has ls 1 [(0, .ref a)] := hl
  refine lv_aload_n hx hb dX0_crossings_0 rfl (lv_at hl 0 rfl) ?_
  refine g_X0_wide C0 h 0 q_256 rfl rfl dX0_crossings_1 ?_
  refine lv_aload_n hx hb dX0_crossings_4 rfl (lv_at hl 0 rfl) ?_
  refine g_X0_high C0 h 0 q_260 rfl rfl dX0_crossings_5 ?_
  refine lv_imul hx hb dX0_crossings_8 ?_
  refine lv_topi (fun k_1 ek_1 => ?_)
  obtain rfl : k_1 = 0 := ek_1.trans (by decide)
  exact m_iret () C0 h [0] (by decide) rfl rfl (Nat.le_of_ble_eq_true rfl) (Nat.le_of_ble_eq_true rfl) dX0_crossings_9
set_option maxHeartbeats 4000000 in
set_option maxRecDepth 100000 in
theorem c_X11_isPerson (l : Launch) (G : GG) (x : Nat) (r : Nat → Nat) (u : Nat → Nat) (p0 : Int32) : Mt l yX11_isPerson cX11_isPerson 2 (some .boolean) 1 0 0 G [.ref x, .int p0] [(x, .inr (11, [.ref (r 0), .ref (r 1), .ref (r 2), .ref (r 3), .ref (r 4), .ref (r 5), .ref (r 6), .ref (r 7), .ref (r 8), .ref (r 9), .ref (r 10), .ref (r 11), .ref (r 12), .ref (r 13), .ref (r 14), .ref (r 15), .int 0, .int 0, .int 0])), (r 0, .inr (0, [.ref (u 0), .ref (u 1), .ref (u 2), .ref (u 3), .ref (u 4), .int 0, .int 0, .int 0, .int 0])), (u 2, .inr (1, [.ref (u 11), .ref (u 12), .ref (u 13), .ref (u 14), .ref (u 15), .ref (u 16), .ref (u 17), .int 0, .int 0]))] (Ri (S := Unit) G (fun r _ => r = 0) (fun _ => [(x, .inr (11, [.ref (r 0), .ref (r 1), .ref (r 2), .ref (r 3), .ref (r 4), .ref (r 5), .ref (r 6), .ref (r 7), .ref (r 8), .ref (r 9), .ref (r 10), .ref (r 11), .ref (r 12), .ref (r 13), .ref (r 14), .ref (r 15), .int 0, .int 0, .int 0])), (r 0, .inr (0, [.ref (u 0), .ref (u 1), .ref (u 2), .ref (u 3), .ref (u 4), .int 0, .int 0, .int 0, .int 0])), (u 2, .inr (1, [.ref (u 11), .ref (u 12), .ref (u 13), .ref (u 14), .ref (u 15), .ref (u 16), .ref (u 17), .int 0, .int 0]))])) := by
  refine Mt.start (by decide) (Nat.le_of_ble_eq_true rfl) ?_
  intro p e s m below meth c A ls C0 hini h hl
  have C0 : Cx p s m _ meth c RX11 cX11_isPerson 2 (some .boolean) := C0
  obtain ⟨hx, hb, hml, hown, hts, -⟩ := id C0
  have hl : lv_has ls 2 [(0, .ref x), (1, .int p0)] := hl
  refine lv_iload_n hx hb dX11_isPerson_0 rfl (lv_at hl 1 rfl) ?_
  refine lv_if_lt (tgt := 22) hx hb dX11_isPerson_1 (by decide) (fun c_1 => ?_) (fun c_1 => ?_)
  · -- 1 p0 < 0
    refine lv_iconst (v := 0) hx hb dX11_isPerson_22 (by decide) ?_
    exact m_zret () C0 h (by decide) [0, 1, 2] (by decide) rfl rfl (Nat.le_of_ble_eq_true rfl) (Nat.le_of_ble_eq_true rfl) dX11_isPerson_23
  · -- 1 ¬ p0 < 0
    refine lv_iload_n hx hb dX11_isPerson_4 rfl (lv_at hl 1 rfl) ?_
    refine lv_aload_n hx hb dX11_isPerson_5 rfl (lv_at hl 0 rfl) ?_
    refine g_X11_now C0 h 0 q_515 rfl rfl dX11_isPerson_6 ?_
    refine g_X0_folk C0 h 1 q_249 rfl rfl dX11_isPerson_9 ?_
    refine g_X1_people C0 h 2 q_215 rfl rfl dX11_isPerson_12 ?_
    refine lv_icmp_ge (tgt := 22) hx hb dX11_isPerson_15 (by decide) (fun c_2 => ?_) (fun c_2 => ?_)
    · -- 15 0 ≤ p0
      refine lv_iconst (v := 0) hx hb dX11_isPerson_22 (by decide) ?_
      exact m_zret () C0 h (by decide) [0, 1, 2] (by decide) rfl rfl (Nat.le_of_ble_eq_true rfl) (Nat.le_of_ble_eq_true rfl) dX11_isPerson_23
    · -- 15 ¬ 0 ≤ p0
      exfalso; grind
set_option maxHeartbeats 4000000 in
set_option maxRecDepth 100000 in
theorem c_X11_isCrossing (l : Launch) (G : GG) (x : Nat) (r : Nat → Nat) (u : Nat → Nat) (p0 : Int32) : Mt l yX11_isCrossing cX11_isCrossing 2 (some .boolean) 1 0 0 G [.ref x, .int p0] [(x, .inr (11, [.ref (r 0), .ref (r 1), .ref (r 2), .ref (r 3), .ref (r 4), .ref (r 5), .ref (r 6), .ref (r 7), .ref (r 8), .ref (r 9), .ref (r 10), .ref (r 11), .ref (r 12), .ref (r 13), .ref (r 14), .ref (r 15), .int 0, .int 0, .int 0])), (r 0, .inr (0, [.ref (u 0), .ref (u 1), .ref (u 2), .ref (u 3), .ref (u 4), .int 0, .int 0, .int 0, .int 0]))] (Ri (S := Unit) G (fun r _ => r = 0) (fun _ => [(x, .inr (11, [.ref (r 0), .ref (r 1), .ref (r 2), .ref (r 3), .ref (r 4), .ref (r 5), .ref (r 6), .ref (r 7), .ref (r 8), .ref (r 9), .ref (r 10), .ref (r 11), .ref (r 12), .ref (r 13), .ref (r 14), .ref (r 15), .int 0, .int 0, .int 0])), (r 0, .inr (0, [.ref (u 0), .ref (u 1), .ref (u 2), .ref (u 3), .ref (u 4), .int 0, .int 0, .int 0, .int 0]))])) := by
  refine Mt.start (by decide) (Nat.le_of_ble_eq_true rfl) ?_
  intro p e s m below meth c A ls C0 hini h hl
  have C0 : Cx p s m _ meth c RX11 cX11_isCrossing 2 (some .boolean) := C0
  obtain ⟨hx, hb, hml, hown, hts, -⟩ := id C0
  have hl : lv_has ls 2 [(0, .ref x), (1, .int p0)] := hl
  refine lv_iload_n hx hb dX11_isCrossing_0 rfl (lv_at hl 1 rfl) ?_
  refine lv_if_lt (tgt := 19) hx hb dX11_isCrossing_1 (by decide) (fun c_1 => ?_) (fun c_1 => ?_)
  · -- 1 p0 < 0
    refine lv_iconst (v := 0) hx hb dX11_isCrossing_19 (by decide) ?_
    exact m_zret () C0 h (by decide) [0, 1] (by decide) rfl rfl (Nat.le_of_ble_eq_true rfl) (Nat.le_of_ble_eq_true rfl) dX11_isCrossing_20
  · -- 1 ¬ p0 < 0
    refine lv_iload_n hx hb dX11_isCrossing_4 rfl (lv_at hl 1 rfl) ?_
    refine lv_aload_n hx hb dX11_isCrossing_5 rfl (lv_at hl 0 rfl) ?_
    refine g_X11_now C0 h 0 q_515 rfl rfl dX11_isCrossing_6 ?_
    refine m_cli (wr := [(x, .inr (11, [.ref (r 0), .ref (r 1), .ref (r 2), .ref (r 3), .ref (r 4), .ref (r 5), .ref (r 6), .ref (r 7), .ref (r 8), .ref (r 9), .ref (r 10), .ref (r 11), .ref (r 12), .ref (r 13), .ref (r 14), .ref (r 15), .int 0, .int 0, .int 0]))]) h (m_rV (ci := 0) (q0 := 1) (As := []) (rest := [.int p0]) C0 h (c_X0_crossings l G (r 0) u) k_X0_crossings q_918 q_919 q_917 rfl rfl rfl [1] (by decide) rfl hl.1 rfl rfl (Nat.le_of_ble_eq_true rfl) dX11_isCrossing_9 ⟨Nat.le_of_ble_eq_true rfl, Nat.le_of_ble_eq_true rfl⟩ ⟨Nat.le_of_ble_eq_true rfl, Nat.le_of_ble_eq_true rfl⟩) [1] [0] rfl rfl (by decide) (by decide) (fun r_4 u_2 H locs hp_3 h => ?_)
    have h : Wd G A s H locs [(x, .inr (11, [.ref (r 0), .ref (r 1), .ref (r 2), .ref (r 3), .ref (r 4), .ref (r 5), .ref (r 6), .ref (r 7), .ref (r 8), .ref (r 9), .ref (r 10), .ref (r 11), .ref (r 12), .ref (r 13), .ref (r 14), .ref (r 15), .int 0, .int 0, .int 0])), (r 0, .inr (0, [.ref (u 0), .ref (u 1), .ref (u 2), .ref (u 3), .ref (u 4), .int 0, .int 0, .int 0, .int 0]))] := h
    obtain rfl : r_4 = 0 := hp_3
    refine lv_icmp_ge (tgt := 19) hx hb dX11_isCrossing_12 (by decide) (fun c_5 => ?_) (fun c_5 => ?_)
    · -- 12 0 ≤ p0
      refine lv_iconst (v := 0) hx hb dX11_isCrossing_19 (by decide) ?_
      exact m_zret () C0 h (by decide) [0, 1] (by decide) rfl rfl (Nat.le_of_ble_eq_true rfl) (Nat.le_of_ble_eq_true rfl) dX11_isCrossing_20
    · -- 12 ¬ 0 ≤ p0
      exfalso; grind
set_option maxHeartbeats 4000000 in
set_option maxRecDepth 100000 in
theorem c_X11_isStand (l : Launch) (G : GG) (x : Nat) (r : Nat → Nat) (u : Nat → Nat) (p0 : Int32) (p1 : Int32) : Mt l yX11_isStand cX11_isStand 3 (some .boolean) 2 0 0 G [.ref x, .int p0, .int p1] [(x, .inr (11, [.ref (r 0), .ref (r 1), .ref (r 2), .ref (r 3), .ref (r 4), .ref (r 5), .ref (r 6), .ref (r 7), .ref (r 8), .ref (r 9), .ref (r 10), .ref (r 11), .ref (r 12), .ref (r 13), .ref (r 14), .ref (r 15), .int 0, .int 0, .int 0])), (r 0, .inr (0, [.ref (u 0), .ref (u 1), .ref (u 2), .ref (u 3), .ref (u 4), .int 0, .int 0, .int 0, .int 0]))] (Ri (S := Unit) G (fun r _ => r = 0) (fun _ => [(x, .inr (11, [.ref (r 0), .ref (r 1), .ref (r 2), .ref (r 3), .ref (r 4), .ref (r 5), .ref (r 6), .ref (r 7), .ref (r 8), .ref (r 9), .ref (r 10), .ref (r 11), .ref (r 12), .ref (r 13), .ref (r 14), .ref (r 15), .int 0, .int 0, .int 0])), (r 0, .inr (0, [.ref (u 0), .ref (u 1), .ref (u 2), .ref (u 3), .ref (u 4), .int 0, .int 0, .int 0, .int 0]))])) := by
  refine Mt.start (by decide) (Nat.le_of_ble_eq_true rfl) ?_
  intro p e s m below meth c A ls C0 hini h hl
  have C0 : Cx p s m _ meth c RX11 cX11_isStand 3 (some .boolean) := C0
  obtain ⟨hx, hb, hml, hown, hts, -⟩ := id C0
  have hl : lv_has ls 3 [(0, .ref x), (1, .int p0), (2, .int p1)] := hl
  refine lv_aload_n hx hb dX11_isStand_0 rfl (lv_at hl 0 rfl) ?_
  refine lv_iload_n hx hb dX11_isStand_1 rfl (lv_at hl 1 rfl) ?_
  refine m_cli (wr := []) h (m_rV (ci := 11) (q0 := 0) (As := [.int p0]) (rest := []) C0 h (c_X11_isCrossing l G x r u p0) k_X11_isCrossing q_915 q_25 q_913 rfl rfl rfl [0, 1] (by decide) rfl hl.1 rfl rfl (Nat.le_of_ble_eq_true rfl) dX11_isStand_2 ⟨Nat.le_of_ble_eq_true rfl, Nat.le_of_ble_eq_true rfl⟩ ⟨Nat.le_of_ble_eq_true rfl, Nat.le_of_ble_eq_true rfl⟩) [0, 1] [] rfl rfl (by decide) (by decide) (fun r_3 u_1 H locs hp_2 h => ?_)
  have h : Wd G A s H locs [(x, .inr (11, [.ref (r 0), .ref (r 1), .ref (r 2), .ref (r 3), .ref (r 4), .ref (r 5), .ref (r 6), .ref (r 7), .ref (r 8), .ref (r 9), .ref (r 10), .ref (r 11), .ref (r 12), .ref (r 13), .ref (r 14), .ref (r 15), .int 0, .int 0, .int 0])), (r 0, .inr (0, [.ref (u 0), .ref (u 1), .ref (u 2), .ref (u 3), .ref (u 4), .int 0, .int 0, .int 0, .int 0]))] := h
  obtain rfl : r_3 = 0 := hp_2
  refine lv_if_eq (tgt := 21) hx hb dX11_isStand_5 (by decide) (fun c_4 => ?_) (fun c_4 => ?_)
  · -- 5 0 = 0
    refine lv_iconst (v := 0) hx hb dX11_isStand_21 (by decide) ?_
    exact m_zret () C0 h (by decide) [0, 1] (by decide) rfl rfl (Nat.le_of_ble_eq_true rfl) (Nat.le_of_ble_eq_true rfl) dX11_isStand_22
  · -- 5 ¬ 0 = 0
    exact absurd c_4 (by decide)
set_option maxHeartbeats 4000000 in
set_option maxRecDepth 100000 in
theorem c_X11_isTray (l : Launch) (G : GG) (p0 : Int32) : Mt l yX11_isTray cX11_isTray 1 (some .boolean) 0 0 0 G [.int p0] [] (Ri (S := Unit) G (fun r _ => (r = 1 ∧ (0 ≤ p0 ∧ p0 ≤ 3)) ∨ (r = 0 ∧ ¬ (0 ≤ p0 ∧ p0 ≤ 3))) (fun _ => [])) := by
  refine Mt.start (by decide) (Nat.le_of_ble_eq_true rfl) ?_
  intro p e s m below meth c A ls C0 hini h hl
  have C0 : Cx p s m _ meth c RX11 cX11_isTray 1 (some .boolean) := C0
  obtain ⟨hx, hb, hml, hown, hts, -⟩ := id C0
  have hl : lv_has ls 1 [(0, .int p0)] := hl
  refine lv_iload_n hx hb dX11_isTray_0 rfl (lv_at hl 0 rfl) ?_
  refine lv_if_lt (tgt := 13) hx hb dX11_isTray_1 (by decide) (fun c_1 => ?_) (fun c_1 => ?_)
  · -- 1 p0 < 0
    refine lv_iconst (v := 0) hx hb dX11_isTray_13 (by decide) ?_
    exact m_zret () C0 h (by decide) [] (by decide) rfl (by grind) (Nat.le_of_ble_eq_true rfl) (Nat.le_of_ble_eq_true rfl) dX11_isTray_14
  · -- 1 ¬ p0 < 0
    refine lv_iload_n hx hb dX11_isTray_4 rfl (lv_at hl 0 rfl) ?_
    refine lv_iconst (v := 4) hx hb dX11_isTray_5 (by decide) ?_
    refine lv_icmp_ge (tgt := 13) hx hb dX11_isTray_6 (by decide) (fun c_2 => ?_) (fun c_2 => ?_)
    · -- 6 4 ≤ p0
      refine lv_iconst (v := 0) hx hb dX11_isTray_13 (by decide) ?_
      exact m_zret () C0 h (by decide) [] (by decide) rfl (by grind) (Nat.le_of_ble_eq_true rfl) (Nat.le_of_ble_eq_true rfl) dX11_isTray_14
    · -- 6 ¬ 4 ≤ p0
      refine lv_iconst (v := 1) hx hb dX11_isTray_9 (by decide) ?_
      refine lv_goto (tgt := 14) hx hb dX11_isTray_10 (by decide) ?_
      exact m_zret () C0 h (by decide) [] (by decide) rfl (by grind) (Nat.le_of_ble_eq_true rfl) (Nat.le_of_ble_eq_true rfl) dX11_isTray_14
end
section
theorem dX11_person_0 : decode cX11_person 0 = .ok (.aload_n 0, 1) := by decide +kernel
theorem dX11_person_1 : decode cX11_person 1 = .ok (.iload_n 1, 1) := by decide +kernel
theorem dX11_person_2 : decode cX11_person 2 = .ok (.invokevirtual 141, 3) := by decide +kernel
theorem dX11_person_5 : decode cX11_person 5 = .ok (.ifCond .ne 6, 3) := by decide +kernel
theorem dX11_person_8 : decode cX11_person 8 = .ok (.bipush (-8), 2) := by decide +kernel
theorem dX11_person_10 : decode cX11_person 10 = .ok (.ireturn, 1) := by decide +kernel
theorem dX11_street_0 : decode cX11_street 0 = .ok (.aload_n 0, 1) := by decide +kernel
theorem dX11_street_1 : decode cX11_street 1 = .ok (.iload_n 1, 1) := by decide +kernel
theorem dX11_street_2 : decode cX11_street 2 = .ok (.iload_n 2, 1) := by decide +kernel
theorem dX11_street_3 : decode cX11_street 3 = .ok (.invokevirtual 163, 3) := by decide +kernel
theorem dX11_street_6 : decode cX11_street 6 = .ok (.ifCond .ne 6, 3) := by decide +kernel
theorem dX11_street_9 : decode cX11_street 9 = .ok (.bipush (-2), 2) := by decide +kernel
theorem dX11_street_11 : decode cX11_street 11 = .ok (.ireturn, 1) := by decide +kernel
theorem dX11_crossing_0 : decode cX11_crossing 0 = .ok (.aload_n 0, 1) := by decide +kernel
theorem dX11_crossing_1 : decode cX11_crossing 1 = .ok (.iload_n 1, 1) := by decide +kernel
theorem dX11_crossing_2 : decode cX11_crossing 2 = .ok (.invokevirtual 171, 3) := by decide +kernel
theorem dX11_crossing_5 : decode cX11_crossing 5 = .ok (.ifCond .ne 6, 3) := by decide +kernel
theorem dX11_crossing_8 : decode cX11_crossing 8 = .ok (.bipush (-2), 2) := by decide +kernel
theorem dX11_crossing_10 : decode cX11_crossing 10 = .ok (.ireturn, 1) := by decide +kernel
theorem dX11_price_0 : decode cX11_price 0 = .ok (.aload_n 0, 1) := by decide +kernel
theorem dX11_price_1 : decode cX11_price 1 = .ok (.iload_n 1, 1) := by decide +kernel
theorem dX11_price_2 : decode cX11_price 2 = .ok (.iload_n 2, 1) := by decide +kernel
theorem dX11_price_3 : decode cX11_price 3 = .ok (.invokevirtual 163, 3) := by decide +kernel
theorem dX11_price_6 : decode cX11_price 6 = .ok (.ifCond .ne 6, 3) := by decide +kernel
theorem dX11_price_9 : decode cX11_price 9 = .ok (.bipush (-2), 2) := by decide +kernel
theorem dX11_price_11 : decode cX11_price 11 = .ok (.ireturn, 1) := by decide +kernel
theorem dX11_buy_0 : decode cX11_buy 0 = .ok (.aload_n 0, 1) := by decide +kernel
theorem dX11_buy_1 : decode cX11_buy 1 = .ok (.iload_n 1, 1) := by decide +kernel
theorem dX11_buy_2 : decode cX11_buy 2 = .ok (.invokevirtual 141, 3) := by decide +kernel
theorem dX11_buy_5 : decode cX11_buy 5 = .ok (.ifCond .ne 6, 3) := by decide +kernel
theorem dX11_buy_8 : decode cX11_buy 8 = .ok (.bipush (-2), 2) := by decide +kernel
theorem dX11_buy_10 : decode cX11_buy 10 = .ok (.ireturn, 1) := by decide +kernel
theorem dX11_sell_0 : decode cX11_sell 0 = .ok (.aload_n 0, 1) := by decide +kernel
theorem dX11_sell_1 : decode cX11_sell 1 = .ok (.iload_n 1, 1) := by decide +kernel
theorem dX11_sell_2 : decode cX11_sell 2 = .ok (.invokevirtual 141, 3) := by decide +kernel
theorem dX11_sell_5 : decode cX11_sell 5 = .ok (.ifCond .ne 6, 3) := by decide +kernel
theorem dX11_sell_8 : decode cX11_sell 8 = .ok (.bipush (-2), 2) := by decide +kernel
theorem dX11_sell_10 : decode cX11_sell 10 = .ok (.ireturn, 1) := by decide +kernel
theorem dX11_hand_0 : decode cX11_hand 0 = .ok (.aload_n 0, 1) := by decide +kernel
theorem dX11_hand_1 : decode cX11_hand 1 = .ok (.iload_n 1, 1) := by decide +kernel
theorem dX11_hand_2 : decode cX11_hand 2 = .ok (.invokevirtual 141, 3) := by decide +kernel
theorem dX11_hand_5 : decode cX11_hand 5 = .ok (.ifCond .eq 16, 3) := by decide +kernel
theorem dX11_hand_21 : decode cX11_hand 21 = .ok (.bipush (-2), 2) := by decide +kernel
theorem dX11_hand_23 : decode cX11_hand 23 = .ok (.ireturn, 1) := by decide +kernel
theorem dX11_fog_0 : decode cX11_fog 0 = .ok (.aload_n 0, 1) := by decide +kernel
theorem dX11_fog_1 : decode cX11_fog 1 = .ok (.iload_n 1, 1) := by decide +kernel
theorem dX11_fog_2 : decode cX11_fog 2 = .ok (.invokevirtual 171, 3) := by decide +kernel
theorem dX11_fog_5 : decode cX11_fog 5 = .ok (.ifCond .ne 6, 3) := by decide +kernel
theorem dX11_fog_8 : decode cX11_fog 8 = .ok (.bipush (-2), 2) := by decide +kernel
theorem dX11_fog_10 : decode cX11_fog 10 = .ok (.ireturn, 1) := by decide +kernel
theorem dX11_way_0 : decode cX11_way 0 = .ok (.aload_n 0, 1) := by decide +kernel
theorem dX11_way_1 : decode cX11_way 1 = .ok (.iload_n 1, 1) := by decide +kernel
theorem dX11_way_2 : decode cX11_way 2 = .ok (.invokevirtual 141, 3) := by decide +kernel
theorem dX11_way_5 : decode cX11_way 5 = .ok (.ifCond .eq 11, 3) := by decide +kernel
theorem dX11_way_16 : decode cX11_way 16 = .ok (.bipush (-2), 2) := by decide +kernel
theorem dX11_way_18 : decode cX11_way 18 = .ok (.ireturn, 1) := by decide +kernel
theorem dX11_turn_0 : decode cX11_turn 0 = .ok (.aload_n 0, 1) := by decide +kernel
theorem dX11_turn_1 : decode cX11_turn 1 = .ok (.iload_n 1, 1) := by decide +kernel
theorem dX11_turn_2 : decode cX11_turn 2 = .ok (.invokevirtual 141, 3) := by decide +kernel
theorem dX11_turn_5 : decode cX11_turn 5 = .ok (.ifCond .eq 11, 3) := by decide +kernel
theorem dX11_turn_16 : decode cX11_turn 16 = .ok (.bipush (-2), 2) := by decide +kernel
theorem dX11_turn_18 : decode cX11_turn 18 = .ok (.ireturn, 1) := by decide +kernel
theorem dX11_fewest_0 : decode cX11_fewest 0 = .ok (.aload_n 0, 1) := by decide +kernel
theorem dX11_fewest_1 : decode cX11_fewest 1 = .ok (.iload_n 1, 1) := by decide +kernel
theorem dX11_fewest_2 : decode cX11_fewest 2 = .ok (.invokevirtual 141, 3) := by decide +kernel
theorem dX11_fewest_5 : decode cX11_fewest 5 = .ok (.ifCond .eq 11, 3) := by decide +kernel
theorem dX11_fewest_16 : decode cX11_fewest 16 = .ok (.bipush (-2), 2) := by decide +kernel
theorem dX11_fewest_18 : decode cX11_fewest 18 = .ok (.ireturn, 1) := by decide +kernel
theorem dX11_cheapest_0 : decode cX11_cheapest 0 = .ok (.aload_n 0, 1) := by decide +kernel
theorem dX11_cheapest_1 : decode cX11_cheapest 1 = .ok (.iload_n 1, 1) := by decide +kernel
theorem dX11_cheapest_2 : decode cX11_cheapest 2 = .ok (.invokevirtual 141, 3) := by decide +kernel
theorem dX11_cheapest_5 : decode cX11_cheapest 5 = .ok (.ifCond .eq 11, 3) := by decide +kernel
theorem dX11_cheapest_16 : decode cX11_cheapest 16 = .ok (.bipush (-2), 2) := by decide +kernel
theorem dX11_cheapest_18 : decode cX11_cheapest 18 = .ok (.ireturn, 1) := by decide +kernel
theorem dX11_reach_0 : decode cX11_reach 0 = .ok (.aload_n 0, 1) := by decide +kernel
theorem dX11_reach_1 : decode cX11_reach 1 = .ok (.iload_n 1, 1) := by decide +kernel
theorem dX11_reach_2 : decode cX11_reach 2 = .ok (.invokevirtual 141, 3) := by decide +kernel
theorem dX11_reach_5 : decode cX11_reach 5 = .ok (.ifCond .ne 6, 3) := by decide +kernel
theorem dX11_reach_8 : decode cX11_reach 8 = .ok (.bipush (-2), 2) := by decide +kernel
theorem dX11_reach_10 : decode cX11_reach 10 = .ok (.ireturn, 1) := by decide +kernel
theorem dX11_enough_0 : decode cX11_enough 0 = .ok (.aload_n 0, 1) := by decide +kernel
theorem dX11_enough_1 : decode cX11_enough 1 = .ok (.iload_n 1, 1) := by decide +kernel
theorem dX11_enough_2 : decode cX11_enough 2 = .ok (.invokevirtual 141, 3) := by decide +kernel
theorem dX11_enough_5 : decode cX11_enough 5 = .ok (.ifCond .ne 6, 3) := by decide +kernel
theorem dX11_enough_8 : decode cX11_enough 8 = .ok (.bipush (-2), 2) := by decide +kernel
theorem dX11_enough_10 : decode cX11_enough 10 = .ok (.ireturn, 1) := by decide +kernel
theorem dX11_byRights_0 : decode cX11_byRights 0 = .ok (.aload_n 0, 1) := by decide +kernel
theorem dX11_byRights_1 : decode cX11_byRights 1 = .ok (.iload_n 1, 1) := by decide +kernel
theorem dX11_byRights_2 : decode cX11_byRights 2 = .ok (.iload_n 2, 1) := by decide +kernel
theorem dX11_byRights_3 : decode cX11_byRights 3 = .ok (.invokevirtual 163, 3) := by decide +kernel
theorem dX11_byRights_6 : decode cX11_byRights 6 = .ok (.ifCond .ne 6, 3) := by decide +kernel
theorem dX11_byRights_9 : decode cX11_byRights 9 = .ok (.bipush (-2), 2) := by decide +kernel
theorem dX11_byRights_11 : decode cX11_byRights 11 = .ok (.ireturn, 1) := by decide +kernel
theorem dX11_round_0 : decode cX11_round 0 = .ok (.aload_n 0, 1) := by decide +kernel
theorem dX11_round_1 : decode cX11_round 1 = .ok (.iload_n 1, 1) := by decide +kernel
theorem dX11_round_2 : decode cX11_round 2 = .ok (.invokevirtual 141, 3) := by decide +kernel
theorem dX11_round_5 : decode cX11_round 5 = .ok (.ifCond .eq 25, 3) := by decide +kernel
theorem dX11_round_30 : decode cX11_round 30 = .ok (.bipush (-2), 2) := by decide +kernel
theorem dX11_round_32 : decode cX11_round 32 = .ok (.ireturn, 1) := by decide +kernel
theorem dX11_makeFree_0 : decode cX11_makeFree 0 = .ok (.aload_n 0, 1) := by decide +kernel
theorem dX11_makeFree_1 : decode cX11_makeFree 1 = .ok (.iload_n 1, 1) := by decide +kernel
theorem dX11_makeFree_2 : decode cX11_makeFree 2 = .ok (.invokevirtual 141, 3) := by decide +kernel
theorem dX11_makeFree_5 : decode cX11_makeFree 5 = .ok (.ifCond .eq 22, 3) := by decide +kernel
theorem dX11_makeFree_27 : decode cX11_makeFree 27 = .ok (.bipush (-2), 2) := by decide +kernel
theorem dX11_makeFree_29 : decode cX11_makeFree 29 = .ok (.ireturn, 1) := by decide +kernel
theorem dX11_bestCorner_0 : decode cX11_bestCorner 0 = .ok (.aload_n 0, 1) := by decide +kernel
theorem dX11_bestCorner_1 : decode cX11_bestCorner 1 = .ok (.iload_n 1, 1) := by decide +kernel
theorem dX11_bestCorner_2 : decode cX11_bestCorner 2 = .ok (.invokevirtual 141, 3) := by decide +kernel
theorem dX11_bestCorner_5 : decode cX11_bestCorner 5 = .ok (.ifCond .eq 11, 3) := by decide +kernel
theorem dX11_bestCorner_16 : decode cX11_bestCorner 16 = .ok (.bipush (-2), 2) := by decide +kernel
theorem dX11_bestCorner_18 : decode cX11_bestCorner 18 = .ok (.ireturn, 1) := by decide +kernel
theorem dX11_dealing_0 : decode cX11_dealing 0 = .ok (.aload_n 0, 1) := by decide +kernel
theorem dX11_dealing_1 : decode cX11_dealing 1 = .ok (.iload_n 1, 1) := by decide +kernel
theorem dX11_dealing_2 : decode cX11_dealing 2 = .ok (.iload_n 2, 1) := by decide +kernel
theorem dX11_dealing_3 : decode cX11_dealing 3 = .ok (.invokevirtual 163, 3) := by decide +kernel
theorem dX11_dealing_6 : decode cX11_dealing 6 = .ok (.ifCond .eq 12, 3) := by decide +kernel
theorem dX11_dealing_18 : decode cX11_dealing 18 = .ok (.bipush (-2), 2) := by decide +kernel
theorem dX11_dealing_20 : decode cX11_dealing 20 = .ok (.ireturn, 1) := by decide +kernel
theorem dX11_affords_0 : decode cX11_affords 0 = .ok (.aload_n 0, 1) := by decide +kernel
theorem dX11_affords_1 : decode cX11_affords 1 = .ok (.iload_n 1, 1) := by decide +kernel
theorem dX11_affords_2 : decode cX11_affords 2 = .ok (.invokevirtual 141, 3) := by decide +kernel
theorem dX11_affords_5 : decode cX11_affords 5 = .ok (.ifCond .ne 6, 3) := by decide +kernel
theorem dX11_affords_8 : decode cX11_affords 8 = .ok (.bipush (-2), 2) := by decide +kernel
theorem dX11_affords_10 : decode cX11_affords 10 = .ok (.ireturn, 1) := by decide +kernel
theorem dX11_found_0 : decode cX11_found 0 = .ok (.aload_n 0, 1) := by decide +kernel
theorem dX11_found_1 : decode cX11_found 1 = .ok (.iload_n 1, 1) := by decide +kernel
theorem dX11_found_2 : decode cX11_found 2 = .ok (.invokevirtual 141, 3) := by decide +kernel
theorem dX11_found_5 : decode cX11_found 5 = .ok (.ifCond .eq 10, 3) := by decide +kernel
theorem dX11_found_15 : decode cX11_found 15 = .ok (.bipush (-2), 2) := by decide +kernel
theorem dX11_found_17 : decode cX11_found 17 = .ok (.ireturn, 1) := by decide +kernel
theorem dX11_chase_0 : decode cX11_chase 0 = .ok (.aload_n 0, 1) := by decide +kernel
theorem dX11_chase_1 : decode cX11_chase 1 = .ok (.iload_n 1, 1) := by decide +kernel
theorem dX11_chase_2 : decode cX11_chase 2 = .ok (.iload_n 2, 1) := by decide +kernel
theorem dX11_chase_3 : decode cX11_chase 3 = .ok (.invokevirtual 163, 3) := by decide +kernel
theorem dX11_chase_6 : decode cX11_chase 6 = .ok (.ifCond .eq 13, 3) := by decide +kernel
theorem dX11_chase_19 : decode cX11_chase 19 = .ok (.bipush (-2), 2) := by decide +kernel
theorem dX11_chase_21 : decode cX11_chase 21 = .ok (.ireturn, 1) := by decide +kernel
theorem dX11_posts_0 : decode cX11_posts 0 = .ok (.aload_n 0, 1) := by decide +kernel
theorem dX11_posts_1 : decode cX11_posts 1 = .ok (.iload_n 1, 1) := by decide +kernel
theorem dX11_posts_2 : decode cX11_posts 2 = .ok (.iload_n 2, 1) := by decide +kernel
theorem dX11_posts_3 : decode cX11_posts 3 = .ok (.invokevirtual 163, 3) := by decide +kernel
theorem dX11_posts_6 : decode cX11_posts 6 = .ok (.ifCond .eq 12, 3) := by decide +kernel
theorem dX11_posts_18 : decode cX11_posts 18 = .ok (.bipush (-2), 2) := by decide +kernel
theorem dX11_posts_20 : decode cX11_posts 20 = .ok (.ireturn, 1) := by decide +kernel
theorem dX11_ways_0 : decode cX11_ways 0 = .ok (.aload_n 0, 1) := by decide +kernel
theorem dX11_ways_1 : decode cX11_ways 1 = .ok (.iload_n 1, 1) := by decide +kernel
theorem dX11_ways_2 : decode cX11_ways 2 = .ok (.invokevirtual 141, 3) := by decide +kernel
theorem dX11_ways_5 : decode cX11_ways 5 = .ok (.ifCond .eq 11, 3) := by decide +kernel
theorem dX11_ways_16 : decode cX11_ways 16 = .ok (.ldc2_w 270, 3) := by decide +kernel
theorem dX11_ways_19 : decode cX11_ways 19 = .ok (.lreturn, 1) := by decide +kernel
theorem dX11_lists_0 : decode cX11_lists 0 = .ok (.iload_n 1, 1) := by decide +kernel
theorem dX11_lists_1 : decode cX11_lists 1 = .ok (.invokestatic 211, 3) := by decide +kernel
theorem dX11_lists_4 : decode cX11_lists 4 = .ok (.ifCond .eq 19, 3) := by decide +kernel
theorem dX11_lists_7 : decode cX11_lists 7 = .ok (.aload_n 0, 1) := by decide +kernel
theorem dX11_lists_8 : decode cX11_lists 8 = .ok (.iload_n 2, 1) := by decide +kernel
theorem dX11_lists_9 : decode cX11_lists 9 = .ok (.invokevirtual 141, 3) := by decide +kernel
theorem dX11_lists_12 : decode cX11_lists 12 = .ok (.ifCond .eq 11, 3) := by decide +kernel
theorem dX11_lists_23 : decode cX11_lists 23 = .ok (.bipush (-2), 2) := by decide +kernel
theorem dX11_lists_25 : decode cX11_lists 25 = .ok (.ireturn, 1) := by decide +kernel
theorem dX11_cheap_0 : decode cX11_cheap 0 = .ok (.iconst (-1), 1) := by decide +kernel
theorem dX11_cheap_1 : decode cX11_cheap 1 = .ok (.istore_n 1, 1) := by decide +kernel
theorem dX11_cheap_2 : decode cX11_cheap 2 = .ok (.iconst 0, 1) := by decide +kernel
theorem dX11_cheap_3 : decode cX11_cheap 3 = .ok (.istore_n 2, 1) := by decide +kernel
theorem dX11_cheap_4 : decode cX11_cheap 4 = .ok (.iconst 0, 1) := by decide +kernel
theorem dX11_cheap_5 : decode cX11_cheap 5 = .ok (.istore_n 3, 1) := by decide +kernel
theorem dX11_cheap_6 : decode cX11_cheap 6 = .ok (.iload_n 3, 1) := by decide +kernel
theorem dX11_cheap_7 : decode cX11_cheap 7 = .ok (.aload_n 0, 1) := by decide +kernel
theorem dX11_cheap_8 : decode cX11_cheap 8 = .ok (.getfield 27, 3) := by decide +kernel
theorem dX11_cheap_11 : decode cX11_cheap 11 = .ok (.invokevirtual 287, 3) := by decide +kernel
theorem dX11_cheap_14 : decode cX11_cheap 14 = .ok (.if_icmp .ge 57, 3) := by decide +kernel
theorem dX11_cheap_71 : decode cX11_cheap 71 = .ok (.iload_n 1, 1) := by decide +kernel
theorem dX11_cheap_72 : decode cX11_cheap 72 = .ok (.ireturn, 1) := by decide +kernel
theorem dX0_hindrance_0 : decode cX0_hindrance 0 = .ok (.iload_n 1, 1) := by decide +kernel
theorem dX0_hindrance_1 : decode cX0_hindrance 1 = .ok (.ifCond .lt 23, 3) := by decide +kernel
theorem dX0_hindrance_4 : decode cX0_hindrance 4 = .ok (.iload_n 1, 1) := by decide +kernel
theorem dX0_hindrance_5 : decode cX0_hindrance 5 = .ok (.aload_n 0, 1) := by decide +kernel
theorem dX0_hindrance_6 : decode cX0_hindrance 6 = .ok (.getfield 24, 3) := by decide +kernel
theorem dX0_hindrance_9 : decode cX0_hindrance 9 = .ok (.getfield 114, 3) := by decide +kernel
theorem dX0_hindrance_12 : decode cX0_hindrance 12 = .ok (.if_icmp .ge 12, 3) := by decide +kernel
theorem dX0_hindrance_24 : decode cX0_hindrance 24 = .ok (.iconst 1, 1) := by decide +kernel
theorem dX0_hindrance_25 : decode cX0_hindrance 25 = .ok (.ireturn, 1) := by decide +kernel
theorem dX11_why_0 : decode cX11_why 0 = .ok (.aload_n 0, 1) := by decide +kernel
theorem dX11_why_1 : decode cX11_why 1 = .ok (.getfield 27, 3) := by decide +kernel
theorem dX11_why_4 : decode cX11_why 4 = .ok (.iload_n 1, 1) := by decide +kernel
theorem dX11_why_5 : decode cX11_why 5 = .ok (.iload_n 2, 1) := by decide +kernel
theorem dX11_why_6 : decode cX11_why 6 = .ok (.invokevirtual 198, 3) := by decide +kernel
theorem dX11_why_9 : decode cX11_why 9 = .ok (.ireturn, 1) := by decide +kernel
theorem dX11_go_0 : decode cX11_go 0 = .ok (.aload_n 0, 1) := by decide +kernel
theorem dX11_go_1 : decode cX11_go 1 = .ok (.getfield 27, 3) := by decide +kernel
theorem dX11_go_4 : decode cX11_go 4 = .ok (.iload_n 1, 1) := by decide +kernel
theorem dX11_go_5 : decode cX11_go 5 = .ok (.iload_n 2, 1) := by decide +kernel
theorem dX11_go_6 : decode cX11_go 6 = .ok (.invokevirtual 198, 3) := by decide +kernel
theorem dX11_go_9 : decode cX11_go 9 = .ok (.istore_n 3, 1) := by decide +kernel
theorem dX11_go_10 : decode cX11_go 10 = .ok (.iload_n 3, 1) := by decide +kernel
theorem dX11_go_11 : decode cX11_go 11 = .ok (.ifCond .eq 8, 3) := by decide +kernel
theorem dX11_go_14 : decode cX11_go 14 = .ok (.bipush (-10), 2) := by decide +kernel
theorem dX11_go_16 : decode cX11_go 16 = .ok (.iload_n 3, 1) := by decide +kernel
theorem dX11_go_17 : decode cX11_go 17 = .ok (.isub, 1) := by decide +kernel
theorem dX11_go_18 : decode cX11_go 18 = .ok (.ireturn, 1) := by decide +kernel
theorem dX11_undo_0 : decode cX11_undo 0 = .ok (.iload_n 1, 1) := by decide +kernel
theorem dX11_undo_1 : decode cX11_undo 1 = .ok (.iconst 1, 1) := by decide +kernel
theorem dX11_undo_2 : decode cX11_undo 2 = .ok (.if_icmp .lt 11, 3) := by decide +kernel
theorem dX11_undo_5 : decode cX11_undo 5 = .ok (.iload_n 1, 1) := by decide +kernel
theorem dX11_undo_6 : decode cX11_undo 6 = .ok (.aload_n 0, 1) := by decide +kernel
theorem dX11_undo_7 : decode cX11_undo 7 = .ok (.getfield 234, 3) := by decide +kernel
theorem dX11_undo_10 : decode cX11_undo 10 = .ok (.if_icmp .le 6, 3) := by decide +kernel
theorem dX11_undo_13 : decode cX11_undo 13 = .ok (.bipush (-3), 2) := by decide +kernel
theorem dX11_undo_15 : decode cX11_undo 15 = .ok (.ireturn, 1) := by decide +kernel
theorem dX11_week_0 : decode cX11_week 0 = .ok (.iload_n 2, 1) := by decide +kernel
theorem dX11_week_1 : decode cX11_week 1 = .ok (.iconst 1, 1) := by decide +kernel
theorem dX11_week_2 : decode cX11_week 2 = .ok (.if_icmp .lt 9, 3) := by decide +kernel
theorem dX11_week_5 : decode cX11_week 5 = .ok (.iload_n 2, 1) := by decide +kernel
theorem dX11_week_6 : decode cX11_week 6 = .ok (.bipush 60, 2) := by decide +kernel
theorem dX11_week_8 : decode cX11_week 8 = .ok (.if_icmp .le 6, 3) := by decide +kernel
theorem dX11_week_11 : decode cX11_week 11 = .ok (.bipush (-3), 2) := by decide +kernel
theorem dX11_week_13 : decode cX11_week 13 = .ok (.ireturn, 1) := by decide +kernel
theorem dX11_week_14 : decode cX11_week 14 = .ok (.aload_n 0, 1) := by decide +kernel
theorem dX11_week_15 : decode cX11_week 15 = .ok (.getfield 27, 3) := by decide +kernel
theorem dX11_week_18 : decode cX11_week 18 = .ok (.getfield 145, 3) := by decide +kernel
theorem dX11_week_21 : decode cX11_week 21 = .ok (.getfield 240, 3) := by decide +kernel
theorem dX11_week_24 : decode cX11_week 24 = .ok (.ifCond .ne 6, 3) := by decide +kernel
theorem dX11_week_27 : decode cX11_week 27 = .ok (.bipush (-5), 2) := by decide +kernel
theorem dX11_week_29 : decode cX11_week 29 = .ok (.ireturn, 1) := by decide +kernel
set_option maxHeartbeats 4000000 in
set_option maxRecDepth 100000 in
theorem c_X11_person (l : Launch) (G : GG) (x : Nat) (r : Nat → Nat) (u : Nat → Nat) (p0 : Int32) (p1 : Int32) : Mt l yX11_person cX11_person 3 (some .int) 3 0 0 G [.ref x, .int p0, .int p1] [(x, .inr (11, [.ref (r 0), .ref (r 1), .ref (r 2), .ref (r 3), .ref (r 4), .ref (r 5), .ref (r 6), .ref (r 7), .ref (r 8), .ref (r 9), .ref (r 10), .ref (r 11), .ref (r 12), .ref (r 13), .ref (r 14), .ref (r 15), .int 0, .int 0, .int 0])), (r 0, .inr (0, [.ref (u 0), .ref (u 1), .ref (u 2), .ref (u 3), .ref (u 4), .int 0, .int 0, .int 0, .int 0])), (u 2, .inr (1, [.ref (u 11), .ref (u 12), .ref (u 13), .ref (u 14), .ref (u 15), .ref (u 16), .ref (u 17), .int 0, .int 0]))] (Ri (S := Unit) G (fun r _ => r = (-8)) (fun _ => [])) := by
  refine Mt.start (by decide) (Nat.le_of_ble_eq_true rfl) ?_
  intro p e s m below meth c A ls C0 hini h hl
  have C0 : Cx p s m _ meth c RX11 cX11_person 3 (some .int) := C0
  obtain ⟨hx, hb, hml, hown, hts, -⟩ := id C0
  have hl : lv_has ls 3 [(0, .ref x), (1, .int p0), (2, .int p1)] := hl
  refine lv_aload_n hx hb dX11_person_0 rfl (lv_at hl 0 rfl) ?_
  refine lv_iload_n hx hb dX11_person_1 rfl (lv_at hl 1 rfl) ?_
  refine m_cli (wr := []) h (m_rV (ci := 11) (q0 := 0) (As := [.int p0]) (rest := []) C0 h (c_X11_isPerson l G x r u p0) k_X11_isPerson q_903 q_23 q_901 rfl rfl rfl [0, 1, 2] (by decide) rfl hl.1 rfl rfl (Nat.le_of_ble_eq_true rfl) dX11_person_2 ⟨Nat.le_of_ble_eq_true rfl, Nat.le_of_ble_eq_true rfl⟩ ⟨Nat.le_of_ble_eq_true rfl, Nat.le_of_ble_eq_true rfl⟩) [0, 1, 2] [] rfl rfl (by decide) (by decide) (fun r_3 u_1 H locs hp_2 h => ?_)
  have h : Wd G A s H locs [(x, .inr (11, [.ref (r 0), .ref (r 1), .ref (r 2), .ref (r 3), .ref (r 4), .ref (r 5), .ref (r 6), .ref (r 7), .ref (r 8), .ref (r 9), .ref (r 10), .ref (r 11), .ref (r 12), .ref (r 13), .ref (r 14), .ref (r 15), .int 0, .int 0, .int 0])), (r 0, .inr (0, [.ref (u 0), .ref (u 1), .ref (u 2), .ref (u 3), .ref (u 4), .int 0, .int 0, .int 0, .int 0])), (u 2, .inr (1, [.ref (u 11), .ref (u 12), .ref (u 13), .ref (u 14), .ref (u 15), .ref (u 16), .ref (u 17), .int 0, .int 0]))] := h
  obtain rfl : r_3 = 0 := hp_2
  refine lv_if_ne (tgt := 11) hx hb dX11_person_5 (by decide) (fun c_4 => ?_) (fun c_4 => ?_)
  · -- 5 ¬ 0 = 0
    exact absurd c_4 (by decide)
  · -- 5 0 = 0
    refine lv_bipush (v := (-8)) hx hb dX11_person_8 (by decide) ?_
    exact m_iret () C0 h [] (by decide) rfl rfl (Nat.le_of_ble_eq_true rfl) (Nat.le_of_ble_eq_true rfl) dX11_person_10
set_option maxHeartbeats 4000000 in
set_option maxRecDepth 100000 in
theorem c_X11_street (l : Launch) (G : GG) (x : Nat) (r : Nat → Nat) (u : Nat → Nat) (p0 : Int32) (p1 : Int32) : Mt l yX11_street cX11_street 3 (some .int) 3 0 0 G [.ref x, .int p0, .int p1] [(x, .inr (11, [.ref (r 0), .ref (r 1), .ref (r 2), .ref (r 3), .ref (r 4), .ref (r 5), .ref (r 6), .ref (r 7), .ref (r 8), .ref (r 9), .ref (r 10), .ref (r 11), .ref (r 12), .ref (r 13), .ref (r 14), .ref (r 15), .int 0, .int 0, .int 0])), (r 0, .inr (0, [.ref (u 0), .ref (u 1), .ref (u 2), .ref (u 3), .ref (u 4), .int 0, .int 0, .int 0, .int 0])), (u 2, .inr (1, [.ref (u 11), .ref (u 12), .ref (u 13), .ref (u 14), .ref (u 15), .ref (u 16), .ref (u 17), .int 0, .int 0]))] (Ri (S := Unit) G (fun r _ => r = (-2)) (fun _ => [])) := by
  refine Mt.start (by decide) (Nat.le_of_ble_eq_true rfl) ?_
  intro p e s m below meth c A ls C0 hini h hl
  have C0 : Cx p s m _ meth c RX11 cX11_street 3 (some .int) := C0
  obtain ⟨hx, hb, hml, hown, hts, -⟩ := id C0
  have hl : lv_has ls 3 [(0, .ref x), (1, .int p0), (2, .int p1)] := hl
  refine lv_aload_n hx hb dX11_street_0 rfl (lv_at hl 0 rfl) ?_
  refine lv_iload_n hx hb dX11_street_1 rfl (lv_at hl 1 rfl) ?_
  refine lv_iload_n hx hb dX11_street_2 rfl (lv_at hl 2 rfl) ?_
  refine m_cli (wr := [(u 2, .inr (1, [.ref (u 11), .ref (u 12), .ref (u 13), .ref (u 14), .ref (u 15), .ref (u 16), .ref (u 17), .int 0, .int 0]))]) h (m_rV (ci := 11) (q0 := 0) (As := [.int p0, .int p1]) (rest := []) C0 h (c_X11_isStand l G x r u p0 p1) k_X11_isStand q_911 q_24 q_909 rfl rfl rfl [0, 1] (by decide) rfl hl.1 rfl rfl (Nat.le_of_ble_eq_true rfl) dX11_street_3 ⟨Nat.le_of_ble_eq_true rfl, Nat.le_of_ble_eq_true rfl⟩ ⟨Nat.le_of_ble_eq_true rfl, Nat.le_of_ble_eq_true rfl⟩) [0, 1] [2] rfl rfl (by decide) (by decide) (fun r_3 u_1 H locs hp_2 h => ?_)
  have h : Wd G A s H locs [(u 2, .inr (1, [.ref (u 11), .ref (u 12), .ref (u 13), .ref (u 14), .ref (u 15), .ref (u 16), .ref (u 17), .int 0, .int 0])), (x, .inr (11, [.ref (r 0), .ref (r 1), .ref (r 2), .ref (r 3), .ref (r 4), .ref (r 5), .ref (r 6), .ref (r 7), .ref (r 8), .ref (r 9), .ref (r 10), .ref (r 11), .ref (r 12), .ref (r 13), .ref (r 14), .ref (r 15), .int 0, .int 0, .int 0])), (r 0, .inr (0, [.ref (u 0), .ref (u 1), .ref (u 2), .ref (u 3), .ref (u 4), .int 0, .int 0, .int 0, .int 0]))] := h
  obtain rfl : r_3 = 0 := hp_2
  refine lv_if_ne (tgt := 12) hx hb dX11_street_6 (by decide) (fun c_4 => ?_) (fun c_4 => ?_)
  · -- 6 ¬ 0 = 0
    exact absurd c_4 (by decide)
  · -- 6 0 = 0
    refine lv_bipush (v := (-2)) hx hb dX11_street_9 (by decide) ?_
    exact m_iret () C0 h [] (by decide) rfl rfl (Nat.le_of_ble_eq_true rfl) (Nat.le_of_ble_eq_true rfl) dX11_street_11
set_option maxHeartbeats 4000000 in
set_option maxRecDepth 100000 in
theorem c_X11_crossing (l : Launch) (G : GG) (x : Nat) (r : Nat → Nat) (u : Nat → Nat) (p0 : Int32) (p1 : Int32) : Mt l yX11_crossing cX11_crossing 4 (some .int) 3 0 0 G [.ref x, .int p0, .int p1] [(x, .inr (11, [.ref (r 0), .ref (r 1), .ref (r 2), .ref (r 3), .ref (r 4), .ref (r 5), .ref (r 6), .ref (r 7), .ref (r 8), .ref (r 9), .ref (r 10), .ref (r 11), .ref (r 12), .ref (r 13), .ref (r 14), .ref (r 15), .int 0, .int 0, .int 0])), (r 0, .inr (0, [.ref (u 0), .ref (u 1), .ref (u 2), .ref (u 3), .ref (u 4), .int 0, .int 0, .int 0, .int 0])), (u 2, .inr (1, [.ref (u 11), .ref (u 12), .ref (u 13), .ref (u 14), .ref (u 15), .ref (u 16), .ref (u 17), .int 0, .int 0]))] (Ri (S := Unit) G (fun r _ => r = (-2)) (fun _ => [])) := by
  refine Mt.start (by decide) (Nat.le_of_ble_eq_true rfl) ?_
  intro p e s m below meth c A ls C0 hini h hl
  have C0 : Cx p s m _ meth c RX11 cX11_crossing 4 (some .int) := C0
  obtain ⟨hx, hb, hml, hown, hts, -⟩ := id C0
  have hl : lv_has ls 4 [(0, .ref x), (1, .int p0), (2, .int p1)] := hl
  refine lv_aload_n hx hb dX11_crossing_0 rfl (lv_at hl 0 rfl) ?_
  refine lv_iload_n hx hb dX11_crossing_1 rfl (lv_at hl 1 rfl) ?_
  refine m_cli (wr := [(u 2, .inr (1, [.ref (u 11), .ref (u 12), .ref (u 13), .ref (u 14), .ref (u 15), .ref (u 16), .ref (u 17), .int 0, .int 0]))]) h (m_rV (ci := 11) (q0 := 0) (As := [.int p0]) (rest := []) C0 h (c_X11_isCrossing l G x r u p0) k_X11_isCrossing q_915 q_25 q_913 rfl rfl rfl [0, 1] (by decide) rfl hl.1 rfl rfl (Nat.le_of_ble_eq_true rfl) dX11_crossing_2 ⟨Nat.le_of_ble_eq_true rfl, Nat.le_of_ble_eq_true rfl⟩ ⟨Nat.le_of_ble_eq_true rfl, Nat.le_of_ble_eq_true rfl⟩) [0, 1] [2] rfl rfl (by decide) (by decide) (fun r_3 u_1 H locs hp_2 h => ?_)
  have h : Wd G A s H locs [(u 2, .inr (1, [.ref (u 11), .ref (u 12), .ref (u 13), .ref (u 14), .ref (u 15), .ref (u 16), .ref (u 17), .int 0, .int 0])), (x, .inr (11, [.ref (r 0), .ref (r 1), .ref (r 2), .ref (r 3), .ref (r 4), .ref (r 5), .ref (r 6), .ref (r 7), .ref (r 8), .ref (r 9), .ref (r 10), .ref (r 11), .ref (r 12), .ref (r 13), .ref (r 14), .ref (r 15), .int 0, .int 0, .int 0])), (r 0, .inr (0, [.ref (u 0), .ref (u 1), .ref (u 2), .ref (u 3), .ref (u 4), .int 0, .int 0, .int 0, .int 0]))] := h
  obtain rfl : r_3 = 0 := hp_2
  refine lv_if_ne (tgt := 11) hx hb dX11_crossing_5 (by decide) (fun c_4 => ?_) (fun c_4 => ?_)
  · -- 5 ¬ 0 = 0
    exact absurd c_4 (by decide)
  · -- 5 0 = 0
    refine lv_bipush (v := (-2)) hx hb dX11_crossing_8 (by decide) ?_
    exact m_iret () C0 h [] (by decide) rfl rfl (Nat.le_of_ble_eq_true rfl) (Nat.le_of_ble_eq_true rfl) dX11_crossing_10
set_option maxHeartbeats 4000000 in
set_option maxRecDepth 100000 in
theorem c_X11_price (l : Launch) (G : GG) (x : Nat) (r : Nat → Nat) (u : Nat → Nat) (p0 : Int32) (p1 : Int32) (p2 : Int32) : Mt l yX11_price cX11_price 4 (some .int) 3 0 0 G [.ref x, .int p0, .int p1, .int p2] [(x, .inr (11, [.ref (r 0), .ref (r 1), .ref (r 2), .ref (r 3), .ref (r 4), .ref (r 5), .ref (r 6), .ref (r 7), .ref (r 8), .ref (r 9), .ref (r 10), .ref (r 11), .ref (r 12), .ref (r 13), .ref (r 14), .ref (r 15), .int 0, .int 0, .int 0])), (r 0, .inr (0, [.ref (u 0), .ref (u 1), .ref (u 2), .ref (u 3), .ref (u 4), .int 0, .int 0, .int 0, .int 0])), (u 2, .inr (1, [.ref (u 11), .ref (u 12), .ref (u 13), .ref (u 14), .ref (u 15), .ref (u 16), .ref (u 17), .int 0, .int 0]))] (Ri (S := Unit) G (fun r _ => r = (-2)) (fun _ => [])) := by
  refine Mt.start (by decide) (Nat.le_of_ble_eq_true rfl) ?_
  intro p e s m below meth c A ls C0 hini h hl
  have C0 : Cx p s m _ meth c RX11 cX11_price 4 (some .int) := C0
  obtain ⟨hx, hb, hml, hown, hts, -⟩ := id C0
  have hl : lv_has ls 4 [(0, .ref x), (1, .int p0), (2, .int p1), (3, .int p2)] := hl
  refine lv_aload_n hx hb dX11_price_0 rfl (lv_at hl 0 rfl) ?_
  refine lv_iload_n hx hb dX11_price_1 rfl (lv_at hl 1 rfl) ?_
  refine lv_iload_n hx hb dX11_price_2 rfl (lv_at hl 2 rfl) ?_
  refine m_cli (wr := [(u 2, .inr (1, [.ref (u 11), .ref (u 12), .ref (u 13), .ref (u 14), .ref (u 15), .ref (u 16), .ref (u 17), .int 0, .int 0]))]) h (m_rV (ci := 11) (q0 := 0) (As := [.int p0, .int p1]) (rest := []) C0 h (c_X11_isStand l G x r u p0 p1) k_X11_isStand q_911 q_24 q_909 rfl rfl rfl [0, 1] (by decide) rfl hl.1 rfl rfl (Nat.le_of_ble_eq_true rfl) dX11_price_3 ⟨Nat.le_of_ble_eq_true rfl, Nat.le_of_ble_eq_true rfl⟩ ⟨Nat.le_of_ble_eq_true rfl, Nat.le_of_ble_eq_true rfl⟩) [0, 1] [2] rfl rfl (by decide) (by decide) (fun r_3 u_1 H locs hp_2 h => ?_)
  have h : Wd G A s H locs [(u 2, .inr (1, [.ref (u 11), .ref (u 12), .ref (u 13), .ref (u 14), .ref (u 15), .ref (u 16), .ref (u 17), .int 0, .int 0])), (x, .inr (11, [.ref (r 0), .ref (r 1), .ref (r 2), .ref (r 3), .ref (r 4), .ref (r 5), .ref (r 6), .ref (r 7), .ref (r 8), .ref (r 9), .ref (r 10), .ref (r 11), .ref (r 12), .ref (r 13), .ref (r 14), .ref (r 15), .int 0, .int 0, .int 0])), (r 0, .inr (0, [.ref (u 0), .ref (u 1), .ref (u 2), .ref (u 3), .ref (u 4), .int 0, .int 0, .int 0, .int 0]))] := h
  obtain rfl : r_3 = 0 := hp_2
  refine lv_if_ne (tgt := 12) hx hb dX11_price_6 (by decide) (fun c_4 => ?_) (fun c_4 => ?_)
  · -- 6 ¬ 0 = 0
    exact absurd c_4 (by decide)
  · -- 6 0 = 0
    refine lv_bipush (v := (-2)) hx hb dX11_price_9 (by decide) ?_
    exact m_iret () C0 h [] (by decide) rfl rfl (Nat.le_of_ble_eq_true rfl) (Nat.le_of_ble_eq_true rfl) dX11_price_11
set_option maxHeartbeats 4000000 in
set_option maxRecDepth 100000 in
theorem c_X11_buy (l : Launch) (G : GG) (x : Nat) (r : Nat → Nat) (u : Nat → Nat) (p0 : Int32) (p1 : Int32) : Mt l yX11_buy cX11_buy 5 (some .int) 3 0 0 G [.ref x, .int p0, .int p1] [(x, .inr (11, [.ref (r 0), .ref (r 1), .ref (r 2), .ref (r 3), .ref (r 4), .ref (r 5), .ref (r 6), .ref (r 7), .ref (r 8), .ref (r 9), .ref (r 10), .ref (r 11), .ref (r 12), .ref (r 13), .ref (r 14), .ref (r 15), .int 0, .int 0, .int 0])), (r 0, .inr (0, [.ref (u 0), .ref (u 1), .ref (u 2), .ref (u 3), .ref (u 4), .int 0, .int 0, .int 0, .int 0])), (u 2, .inr (1, [.ref (u 11), .ref (u 12), .ref (u 13), .ref (u 14), .ref (u 15), .ref (u 16), .ref (u 17), .int 0, .int 0]))] (Ri (S := Unit) G (fun r _ => r = (-2)) (fun _ => [])) := by
  refine Mt.start (by decide) (Nat.le_of_ble_eq_true rfl) ?_
  intro p e s m below meth c A ls C0 hini h hl
  have C0 : Cx p s m _ meth c RX11 cX11_buy 5 (some .int) := C0
  obtain ⟨hx, hb, hml, hown, hts, -⟩ := id C0
  have hl : lv_has ls 5 [(0, .ref x), (1, .int p0), (2, .int p1)] := hl
  refine lv_aload_n hx hb dX11_buy_0 rfl (lv_at hl 0 rfl) ?_
  refine lv_iload_n hx hb dX11_buy_1 rfl (lv_at hl 1 rfl) ?_
  refine m_cli (wr := []) h (m_rV (ci := 11) (q0 := 0) (As := [.int p0]) (rest := []) C0 h (c_X11_isPerson l G x r u p0) k_X11_isPerson q_903 q_23 q_901 rfl rfl rfl [0, 1, 2] (by decide) rfl hl.1 rfl rfl (Nat.le_of_ble_eq_true rfl) dX11_buy_2 ⟨Nat.le_of_ble_eq_true rfl, Nat.le_of_ble_eq_true rfl⟩ ⟨Nat.le_of_ble_eq_true rfl, Nat.le_of_ble_eq_true rfl⟩) [0, 1, 2] [] rfl rfl (by decide) (by decide) (fun r_3 u_1 H locs hp_2 h => ?_)
  have h : Wd G A s H locs [(x, .inr (11, [.ref (r 0), .ref (r 1), .ref (r 2), .ref (r 3), .ref (r 4), .ref (r 5), .ref (r 6), .ref (r 7), .ref (r 8), .ref (r 9), .ref (r 10), .ref (r 11), .ref (r 12), .ref (r 13), .ref (r 14), .ref (r 15), .int 0, .int 0, .int 0])), (r 0, .inr (0, [.ref (u 0), .ref (u 1), .ref (u 2), .ref (u 3), .ref (u 4), .int 0, .int 0, .int 0, .int 0])), (u 2, .inr (1, [.ref (u 11), .ref (u 12), .ref (u 13), .ref (u 14), .ref (u 15), .ref (u 16), .ref (u 17), .int 0, .int 0]))] := h
  obtain rfl : r_3 = 0 := hp_2
  refine lv_if_ne (tgt := 11) hx hb dX11_buy_5 (by decide) (fun c_4 => ?_) (fun c_4 => ?_)
  · -- 5 ¬ 0 = 0
    exact absurd c_4 (by decide)
  · -- 5 0 = 0
    refine lv_bipush (v := (-2)) hx hb dX11_buy_8 (by decide) ?_
    exact m_iret () C0 h [] (by decide) rfl rfl (Nat.le_of_ble_eq_true rfl) (Nat.le_of_ble_eq_true rfl) dX11_buy_10
set_option maxHeartbeats 4000000 in
set_option maxRecDepth 100000 in
theorem c_X11_sell (l : Launch) (G : GG) (x : Nat) (r : Nat → Nat) (u : Nat → Nat) (p0 : Int32) : Mt l yX11_sell cX11_sell 4 (some .int) 3 0 0 G [.ref x, .int p0] [(x, .inr (11, [.ref (r 0), .ref (r 1), .ref (r 2), .ref (r 3), .ref (r 4), .ref (r 5), .ref (r 6), .ref (r 7), .ref (r 8), .ref (r 9), .ref (r 10), .ref (r 11), .ref (r 12), .ref (r 13), .ref (r 14), .ref (r 15), .int 0, .int 0, .int 0])), (r 0, .inr (0, [.ref (u 0), .ref (u 1), .ref (u 2), .ref (u 3), .ref (u 4), .int 0, .int 0, .int 0, .int 0])), (u 2, .inr (1, [.ref (u 11), .ref (u 12), .ref (u 13), .ref (u 14), .ref (u 15), .ref (u 16), .ref (u 17), .int 0, .int 0]))] (Ri (S := Unit) G (fun r _ => r = (-2)) (fun _ => [])) := by
  refine Mt.start (by decide) (Nat.le_of_ble_eq_true rfl) ?_
  intro p e s m below meth c A ls C0 hini h hl
  have C0 : Cx p s m _ meth c RX11 cX11_sell 4 (some .int) := C0
  obtain ⟨hx, hb, hml, hown, hts, -⟩ := id C0
  have hl : lv_has ls 4 [(0, .ref x), (1, .int p0)] := hl
  refine lv_aload_n hx hb dX11_sell_0 rfl (lv_at hl 0 rfl) ?_
  refine lv_iload_n hx hb dX11_sell_1 rfl (lv_at hl 1 rfl) ?_
  refine m_cli (wr := []) h (m_rV (ci := 11) (q0 := 0) (As := [.int p0]) (rest := []) C0 h (c_X11_isPerson l G x r u p0) k_X11_isPerson q_903 q_23 q_901 rfl rfl rfl [0, 1, 2] (by decide) rfl hl.1 rfl rfl (Nat.le_of_ble_eq_true rfl) dX11_sell_2 ⟨Nat.le_of_ble_eq_true rfl, Nat.le_of_ble_eq_true rfl⟩ ⟨Nat.le_of_ble_eq_true rfl, Nat.le_of_ble_eq_true rfl⟩) [0, 1, 2] [] rfl rfl (by decide) (by decide) (fun r_3 u_1 H locs hp_2 h => ?_)
  have h : Wd G A s H locs [(x, .inr (11, [.ref (r 0), .ref (r 1), .ref (r 2), .ref (r 3), .ref (r 4), .ref (r 5), .ref (r 6), .ref (r 7), .ref (r 8), .ref (r 9), .ref (r 10), .ref (r 11), .ref (r 12), .ref (r 13), .ref (r 14), .ref (r 15), .int 0, .int 0, .int 0])), (r 0, .inr (0, [.ref (u 0), .ref (u 1), .ref (u 2), .ref (u 3), .ref (u 4), .int 0, .int 0, .int 0, .int 0])), (u 2, .inr (1, [.ref (u 11), .ref (u 12), .ref (u 13), .ref (u 14), .ref (u 15), .ref (u 16), .ref (u 17), .int 0, .int 0]))] := h
  obtain rfl : r_3 = 0 := hp_2
  refine lv_if_ne (tgt := 11) hx hb dX11_sell_5 (by decide) (fun c_4 => ?_) (fun c_4 => ?_)
  · -- 5 ¬ 0 = 0
    exact absurd c_4 (by decide)
  · -- 5 0 = 0
    refine lv_bipush (v := (-2)) hx hb dX11_sell_8 (by decide) ?_
    exact m_iret () C0 h [] (by decide) rfl rfl (Nat.le_of_ble_eq_true rfl) (Nat.le_of_ble_eq_true rfl) dX11_sell_10
set_option maxHeartbeats 4000000 in
set_option maxRecDepth 100000 in
theorem c_X11_hand (l : Launch) (G : GG) (x : Nat) (r : Nat → Nat) (u : Nat → Nat) (p0 : Int32) (p1 : Int32) (p2 : Int32) : Mt l yX11_hand cX11_hand 5 (some .int) 3 0 0 G [.ref x, .int p0, .int p1, .int p2] [(x, .inr (11, [.ref (r 0), .ref (r 1), .ref (r 2), .ref (r 3), .ref (r 4), .ref (r 5), .ref (r 6), .ref (r 7), .ref (r 8), .ref (r 9), .ref (r 10), .ref (r 11), .ref (r 12), .ref (r 13), .ref (r 14), .ref (r 15), .int 0, .int 0, .int 0])), (r 0, .inr (0, [.ref (u 0), .ref (u 1), .ref (u 2), .ref (u 3), .ref (u 4), .int 0, .int 0, .int 0, .int 0])), (u 2, .inr (1, [.ref (u 11), .ref (u 12), .ref (u 13), .ref (u 14), .ref (u 15), .ref (u 16), .ref (u 17), .int 0, .int 0]))] (Ri (S := Unit) G (fun r _ => r = (-2)) (fun _ => [])) := by
  refine Mt.start (by decide) (Nat.le_of_ble_eq_true rfl) ?_
  intro p e s m below meth c A ls C0 hini h hl
  have C0 : Cx p s m _ meth c RX11 cX11_hand 5 (some .int) := C0
  obtain ⟨hx, hb, hml, hown, hts, -⟩ := id C0
  have hl : lv_has ls 5 [(0, .ref x), (1, .int p0), (2, .int p1), (3, .int p2)] := hl
  refine lv_aload_n hx hb dX11_hand_0 rfl (lv_at hl 0 rfl) ?_
  refine lv_iload_n hx hb dX11_hand_1 rfl (lv_at hl 1 rfl) ?_
  refine m_cli (wr := []) h (m_rV (ci := 11) (q0 := 0) (As := [.int p0]) (rest := []) C0 h (c_X11_isPerson l G x r u p0) k_X11_isPerson q_903 q_23 q_901 rfl rfl rfl [0, 1, 2] (by decide) rfl hl.1 rfl rfl (Nat.le_of_ble_eq_true rfl) dX11_hand_2 ⟨Nat.le_of_ble_eq_true rfl, Nat.le_of_ble_eq_true rfl⟩ ⟨Nat.le_of_ble_eq_true rfl, Nat.le_of_ble_eq_true rfl⟩) [0, 1, 2] [] rfl rfl (by decide) (by decide) (fun r_3 u_1 H locs hp_2 h => ?_)
  have h : Wd G A s H locs [(x, .inr (11, [.ref (r 0), .ref (r 1), .ref (r 2), .ref (r 3), .ref (r 4), .ref (r 5), .ref (r 6), .ref (r 7), .ref (r 8), .ref (r 9), .ref (r 10), .ref (r 11), .ref (r 12), .ref (r 13), .ref (r 14), .ref (r 15), .int 0, .int 0, .int 0])), (r 0, .inr (0, [.ref (u 0), .ref (u 1), .ref (u 2), .ref (u 3), .ref (u 4), .int 0, .int 0, .int 0, .int 0])), (u 2, .inr (1, [.ref (u 11), .ref (u 12), .ref (u 13), .ref (u 14), .ref (u 15), .ref (u 16), .ref (u 17), .int 0, .int 0]))] := h
  obtain rfl : r_3 = 0 := hp_2
  refine lv_if_eq (tgt := 21) hx hb dX11_hand_5 (by decide) (fun c_4 => ?_) (fun c_4 => ?_)
  · -- 5 0 = 0
    refine lv_bipush (v := (-2)) hx hb dX11_hand_21 (by decide) ?_
    exact m_iret () C0 h [] (by decide) rfl rfl (Nat.le_of_ble_eq_true rfl) (Nat.le_of_ble_eq_true rfl) dX11_hand_23
  · -- 5 ¬ 0 = 0
    exact absurd c_4 (by decide)
set_option maxHeartbeats 4000000 in
set_option maxRecDepth 100000 in
theorem c_X11_fog (l : Launch) (G : GG) (x : Nat) (r : Nat → Nat) (u : Nat → Nat) (p0 : Int32) (p1 : Int32) : Mt l yX11_fog cX11_fog 3 (some .int) 3 0 0 G [.ref x, .int p0, .int p1] [(x, .inr (11, [.ref (r 0), .ref (r 1), .ref (r 2), .ref (r 3), .ref (r 4), .ref (r 5), .ref (r 6), .ref (r 7), .ref (r 8), .ref (r 9), .ref (r 10), .ref (r 11), .ref (r 12), .ref (r 13), .ref (r 14), .ref (r 15), .int 0, .int 0, .int 0])), (r 0, .inr (0, [.ref (u 0), .ref (u 1), .ref (u 2), .ref (u 3), .ref (u 4), .int 0, .int 0, .int 0, .int 0])), (u 2, .inr (1, [.ref (u 11), .ref (u 12), .ref (u 13), .ref (u 14), .ref (u 15), .ref (u 16), .ref (u 17), .int 0, .int 0]))] (Ri (S := Unit) G (fun r _ => r = (-2)) (fun _ => [])) := by
  refine Mt.start (by decide) (Nat.le_of_ble_eq_true rfl) ?_
  intro p e s m below meth c A ls C0 hini h hl
  have C0 : Cx p s m _ meth c RX11 cX11_fog 3 (some .int) := C0
  obtain ⟨hx, hb, hml, hown, hts, -⟩ := id C0
  have hl : lv_has ls 3 [(0, .ref x), (1, .int p0), (2, .int p1)] := hl
  refine lv_aload_n hx hb dX11_fog_0 rfl (lv_at hl 0 rfl) ?_
  refine lv_iload_n hx hb dX11_fog_1 rfl (lv_at hl 1 rfl) ?_
  refine m_cli (wr := [(u 2, .inr (1, [.ref (u 11), .ref (u 12), .ref (u 13), .ref (u 14), .ref (u 15), .ref (u 16), .ref (u 17), .int 0, .int 0]))]) h (m_rV (ci := 11) (q0 := 0) (As := [.int p0]) (rest := []) C0 h (c_X11_isCrossing l G x r u p0) k_X11_isCrossing q_915 q_25 q_913 rfl rfl rfl [0, 1] (by decide) rfl hl.1 rfl rfl (Nat.le_of_ble_eq_true rfl) dX11_fog_2 ⟨Nat.le_of_ble_eq_true rfl, Nat.le_of_ble_eq_true rfl⟩ ⟨Nat.le_of_ble_eq_true rfl, Nat.le_of_ble_eq_true rfl⟩) [0, 1] [2] rfl rfl (by decide) (by decide) (fun r_3 u_1 H locs hp_2 h => ?_)
  have h : Wd G A s H locs [(u 2, .inr (1, [.ref (u 11), .ref (u 12), .ref (u 13), .ref (u 14), .ref (u 15), .ref (u 16), .ref (u 17), .int 0, .int 0])), (x, .inr (11, [.ref (r 0), .ref (r 1), .ref (r 2), .ref (r 3), .ref (r 4), .ref (r 5), .ref (r 6), .ref (r 7), .ref (r 8), .ref (r 9), .ref (r 10), .ref (r 11), .ref (r 12), .ref (r 13), .ref (r 14), .ref (r 15), .int 0, .int 0, .int 0])), (r 0, .inr (0, [.ref (u 0), .ref (u 1), .ref (u 2), .ref (u 3), .ref (u 4), .int 0, .int 0, .int 0, .int 0]))] := h
  obtain rfl : r_3 = 0 := hp_2
  refine lv_if_ne (tgt := 11) hx hb dX11_fog_5 (by decide) (fun c_4 => ?_) (fun c_4 => ?_)
  · -- 5 ¬ 0 = 0
    exact absurd c_4 (by decide)
  · -- 5 0 = 0
    refine lv_bipush (v := (-2)) hx hb dX11_fog_8 (by decide) ?_
    exact m_iret () C0 h [] (by decide) rfl rfl (Nat.le_of_ble_eq_true rfl) (Nat.le_of_ble_eq_true rfl) dX11_fog_10
set_option maxHeartbeats 4000000 in
set_option maxRecDepth 100000 in
theorem c_X11_way (l : Launch) (G : GG) (x : Nat) (r : Nat → Nat) (u : Nat → Nat) (p0 : Int32) (p1 : Int32) (p2 : Int32) : Mt l yX11_way cX11_way 4 (some .int) 3 0 0 G [.ref x, .int p0, .int p1, .int p2] [(x, .inr (11, [.ref (r 0), .ref (r 1), .ref (r 2), .ref (r 3), .ref (r 4), .ref (r 5), .ref (r 6), .ref (r 7), .ref (r 8), .ref (r 9), .ref (r 10), .ref (r 11), .ref (r 12), .ref (r 13), .ref (r 14), .ref (r 15), .int 0, .int 0, .int 0])), (r 0, .inr (0, [.ref (u 0), .ref (u 1), .ref (u 2), .ref (u 3), .ref (u 4), .int 0, .int 0, .int 0, .int 0])), (u 2, .inr (1, [.ref (u 11), .ref (u 12), .ref (u 13), .ref (u 14), .ref (u 15), .ref (u 16), .ref (u 17), .int 0, .int 0]))] (Ri (S := Unit) G (fun r _ => r = (-2)) (fun _ => [])) := by
  refine Mt.start (by decide) (Nat.le_of_ble_eq_true rfl) ?_
  intro p e s m below meth c A ls C0 hini h hl
  have C0 : Cx p s m _ meth c RX11 cX11_way 4 (some .int) := C0
  obtain ⟨hx, hb, hml, hown, hts, -⟩ := id C0
  have hl : lv_has ls 4 [(0, .ref x), (1, .int p0), (2, .int p1), (3, .int p2)] := hl
  refine lv_aload_n hx hb dX11_way_0 rfl (lv_at hl 0 rfl) ?_
  refine lv_iload_n hx hb dX11_way_1 rfl (lv_at hl 1 rfl) ?_
  refine m_cli (wr := []) h (m_rV (ci := 11) (q0 := 0) (As := [.int p0]) (rest := []) C0 h (c_X11_isPerson l G x r u p0) k_X11_isPerson q_903 q_23 q_901 rfl rfl rfl [0, 1, 2] (by decide) rfl hl.1 rfl rfl (Nat.le_of_ble_eq_true rfl) dX11_way_2 ⟨Nat.le_of_ble_eq_true rfl, Nat.le_of_ble_eq_true rfl⟩ ⟨Nat.le_of_ble_eq_true rfl, Nat.le_of_ble_eq_true rfl⟩) [0, 1, 2] [] rfl rfl (by decide) (by decide) (fun r_3 u_1 H locs hp_2 h => ?_)
  have h : Wd G A s H locs [(x, .inr (11, [.ref (r 0), .ref (r 1), .ref (r 2), .ref (r 3), .ref (r 4), .ref (r 5), .ref (r 6), .ref (r 7), .ref (r 8), .ref (r 9), .ref (r 10), .ref (r 11), .ref (r 12), .ref (r 13), .ref (r 14), .ref (r 15), .int 0, .int 0, .int 0])), (r 0, .inr (0, [.ref (u 0), .ref (u 1), .ref (u 2), .ref (u 3), .ref (u 4), .int 0, .int 0, .int 0, .int 0])), (u 2, .inr (1, [.ref (u 11), .ref (u 12), .ref (u 13), .ref (u 14), .ref (u 15), .ref (u 16), .ref (u 17), .int 0, .int 0]))] := h
  obtain rfl : r_3 = 0 := hp_2
  refine lv_if_eq (tgt := 16) hx hb dX11_way_5 (by decide) (fun c_4 => ?_) (fun c_4 => ?_)
  · -- 5 0 = 0
    refine lv_bipush (v := (-2)) hx hb dX11_way_16 (by decide) ?_
    exact m_iret () C0 h [] (by decide) rfl rfl (Nat.le_of_ble_eq_true rfl) (Nat.le_of_ble_eq_true rfl) dX11_way_18
  · -- 5 ¬ 0 = 0
    exact absurd c_4 (by decide)
set_option maxHeartbeats 4000000 in
set_option maxRecDepth 100000 in
theorem c_X11_turn (l : Launch) (G : GG) (x : Nat) (r : Nat → Nat) (u : Nat → Nat) (p0 : Int32) (p1 : Int32) (p2 : Int32) (p3 : Int32) : Mt l yX11_turn cX11_turn 5 (some .int) 3 0 0 G [.ref x, .int p0, .int p1, .int p2, .int p3] [(x, .inr (11, [.ref (r 0), .ref (r 1), .ref (r 2), .ref (r 3), .ref (r 4), .ref (r 5), .ref (r 6), .ref (r 7), .ref (r 8), .ref (r 9), .ref (r 10), .ref (r 11), .ref (r 12), .ref (r 13), .ref (r 14), .ref (r 15), .int 0, .int 0, .int 0])), (r 0, .inr (0, [.ref (u 0), .ref (u 1), .ref (u 2), .ref (u 3), .ref (u 4), .int 0, .int 0, .int 0, .int 0])), (u 2, .inr (1, [.ref (u 11), .ref (u 12), .ref (u 13), .ref (u 14), .ref (u 15), .ref (u 16), .ref (u 17), .int 0, .int 0]))] (Ri (S := Unit) G (fun r _ => r = (-2)) (fun _ => [])) := by
  refine Mt.start (by decide) (Nat.le_of_ble_eq_true rfl) ?_
  intro p e s m below meth c A ls C0 hini h hl
  have C0 : Cx p s m _ meth c RX11 cX11_turn 5 (some .int) := C0
  obtain ⟨hx, hb, hml, hown, hts, -⟩ := id C0
  have hl : lv_has ls 5 [(0, .ref x), (1, .int p0), (2, .int p1), (3, .int p2), (4, .int p3)] := hl
  refine lv_aload_n hx hb dX11_turn_0 rfl (lv_at hl 0 rfl) ?_
  refine lv_iload_n hx hb dX11_turn_1 rfl (lv_at hl 1 rfl) ?_
  refine m_cli (wr := []) h (m_rV (ci := 11) (q0 := 0) (As := [.int p0]) (rest := []) C0 h (c_X11_isPerson l G x r u p0) k_X11_isPerson q_903 q_23 q_901 rfl rfl rfl [0, 1, 2] (by decide) rfl hl.1 rfl rfl (Nat.le_of_ble_eq_true rfl) dX11_turn_2 ⟨Nat.le_of_ble_eq_true rfl, Nat.le_of_ble_eq_true rfl⟩ ⟨Nat.le_of_ble_eq_true rfl, Nat.le_of_ble_eq_true rfl⟩) [0, 1, 2] [] rfl rfl (by decide) (by decide) (fun r_3 u_1 H locs hp_2 h => ?_)
  have h : Wd G A s H locs [(x, .inr (11, [.ref (r 0), .ref (r 1), .ref (r 2), .ref (r 3), .ref (r 4), .ref (r 5), .ref (r 6), .ref (r 7), .ref (r 8), .ref (r 9), .ref (r 10), .ref (r 11), .ref (r 12), .ref (r 13), .ref (r 14), .ref (r 15), .int 0, .int 0, .int 0])), (r 0, .inr (0, [.ref (u 0), .ref (u 1), .ref (u 2), .ref (u 3), .ref (u 4), .int 0, .int 0, .int 0, .int 0])), (u 2, .inr (1, [.ref (u 11), .ref (u 12), .ref (u 13), .ref (u 14), .ref (u 15), .ref (u 16), .ref (u 17), .int 0, .int 0]))] := h
  obtain rfl : r_3 = 0 := hp_2
  refine lv_if_eq (tgt := 16) hx hb dX11_turn_5 (by decide) (fun c_4 => ?_) (fun c_4 => ?_)
  · -- 5 0 = 0
    refine lv_bipush (v := (-2)) hx hb dX11_turn_16 (by decide) ?_
    exact m_iret () C0 h [] (by decide) rfl rfl (Nat.le_of_ble_eq_true rfl) (Nat.le_of_ble_eq_true rfl) dX11_turn_18
  · -- 5 ¬ 0 = 0
    exact absurd c_4 (by decide)
set_option maxHeartbeats 4000000 in
set_option maxRecDepth 100000 in
theorem c_X11_fewest (l : Launch) (G : GG) (x : Nat) (r : Nat → Nat) (u : Nat → Nat) (p0 : Int32) (p1 : Int32) (p2 : Int32) : Mt l yX11_fewest cX11_fewest 4 (some .int) 3 0 0 G [.ref x, .int p0, .int p1, .int p2] [(x, .inr (11, [.ref (r 0), .ref (r 1), .ref (r 2), .ref (r 3), .ref (r 4), .ref (r 5), .ref (r 6), .ref (r 7), .ref (r 8), .ref (r 9), .ref (r 10), .ref (r 11), .ref (r 12), .ref (r 13), .ref (r 14), .ref (r 15), .int 0, .int 0, .int 0])), (r 0, .inr (0, [.ref (u 0), .ref (u 1), .ref (u 2), .ref (u 3), .ref (u 4), .int 0, .int 0, .int 0, .int 0])), (u 2, .inr (1, [.ref (u 11), .ref (u 12), .ref (u 13), .ref (u 14), .ref (u 15), .ref (u 16), .ref (u 17), .int 0, .int 0]))] (Ri (S := Unit) G (fun r _ => r = (-2)) (fun _ => [])) := by
  refine Mt.start (by decide) (Nat.le_of_ble_eq_true rfl) ?_
  intro p e s m below meth c A ls C0 hini h hl
  have C0 : Cx p s m _ meth c RX11 cX11_fewest 4 (some .int) := C0
  obtain ⟨hx, hb, hml, hown, hts, -⟩ := id C0
  have hl : lv_has ls 4 [(0, .ref x), (1, .int p0), (2, .int p1), (3, .int p2)] := hl
  refine lv_aload_n hx hb dX11_fewest_0 rfl (lv_at hl 0 rfl) ?_
  refine lv_iload_n hx hb dX11_fewest_1 rfl (lv_at hl 1 rfl) ?_
  refine m_cli (wr := []) h (m_rV (ci := 11) (q0 := 0) (As := [.int p0]) (rest := []) C0 h (c_X11_isPerson l G x r u p0) k_X11_isPerson q_903 q_23 q_901 rfl rfl rfl [0, 1, 2] (by decide) rfl hl.1 rfl rfl (Nat.le_of_ble_eq_true rfl) dX11_fewest_2 ⟨Nat.le_of_ble_eq_true rfl, Nat.le_of_ble_eq_true rfl⟩ ⟨Nat.le_of_ble_eq_true rfl, Nat.le_of_ble_eq_true rfl⟩) [0, 1, 2] [] rfl rfl (by decide) (by decide) (fun r_3 u_1 H locs hp_2 h => ?_)
  have h : Wd G A s H locs [(x, .inr (11, [.ref (r 0), .ref (r 1), .ref (r 2), .ref (r 3), .ref (r 4), .ref (r 5), .ref (r 6), .ref (r 7), .ref (r 8), .ref (r 9), .ref (r 10), .ref (r 11), .ref (r 12), .ref (r 13), .ref (r 14), .ref (r 15), .int 0, .int 0, .int 0])), (r 0, .inr (0, [.ref (u 0), .ref (u 1), .ref (u 2), .ref (u 3), .ref (u 4), .int 0, .int 0, .int 0, .int 0])), (u 2, .inr (1, [.ref (u 11), .ref (u 12), .ref (u 13), .ref (u 14), .ref (u 15), .ref (u 16), .ref (u 17), .int 0, .int 0]))] := h
  obtain rfl : r_3 = 0 := hp_2
  refine lv_if_eq (tgt := 16) hx hb dX11_fewest_5 (by decide) (fun c_4 => ?_) (fun c_4 => ?_)
  · -- 5 0 = 0
    refine lv_bipush (v := (-2)) hx hb dX11_fewest_16 (by decide) ?_
    exact m_iret () C0 h [] (by decide) rfl rfl (Nat.le_of_ble_eq_true rfl) (Nat.le_of_ble_eq_true rfl) dX11_fewest_18
  · -- 5 ¬ 0 = 0
    exact absurd c_4 (by decide)
set_option maxHeartbeats 4000000 in
set_option maxRecDepth 100000 in
theorem c_X11_cheapest (l : Launch) (G : GG) (x : Nat) (r : Nat → Nat) (u : Nat → Nat) (p0 : Int32) (p1 : Int32) (p2 : Int32) : Mt l yX11_cheapest cX11_cheapest 4 (some .int) 3 0 0 G [.ref x, .int p0, .int p1, .int p2] [(x, .inr (11, [.ref (r 0), .ref (r 1), .ref (r 2), .ref (r 3), .ref (r 4), .ref (r 5), .ref (r 6), .ref (r 7), .ref (r 8), .ref (r 9), .ref (r 10), .ref (r 11), .ref (r 12), .ref (r 13), .ref (r 14), .ref (r 15), .int 0, .int 0, .int 0])), (r 0, .inr (0, [.ref (u 0), .ref (u 1), .ref (u 2), .ref (u 3), .ref (u 4), .int 0, .int 0, .int 0, .int 0])), (u 2, .inr (1, [.ref (u 11), .ref (u 12), .ref (u 13), .ref (u 14), .ref (u 15), .ref (u 16), .ref (u 17), .int 0, .int 0]))] (Ri (S := Unit) G (fun r _ => r = (-2)) (fun _ => [])) := by
  refine Mt.start (by decide) (Nat.le_of_ble_eq_true rfl) ?_
  intro p e s m below meth c A ls C0 hini h hl
  have C0 : Cx p s m _ meth c RX11 cX11_cheapest 4 (some .int) := C0
  obtain ⟨hx, hb, hml, hown, hts, -⟩ := id C0
  have hl : lv_has ls 4 [(0, .ref x), (1, .int p0), (2, .int p1), (3, .int p2)] := hl
  refine lv_aload_n hx hb dX11_cheapest_0 rfl (lv_at hl 0 rfl) ?_
  refine lv_iload_n hx hb dX11_cheapest_1 rfl (lv_at hl 1 rfl) ?_
  refine m_cli (wr := []) h (m_rV (ci := 11) (q0 := 0) (As := [.int p0]) (rest := []) C0 h (c_X11_isPerson l G x r u p0) k_X11_isPerson q_903 q_23 q_901 rfl rfl rfl [0, 1, 2] (by decide) rfl hl.1 rfl rfl (Nat.le_of_ble_eq_true rfl) dX11_cheapest_2 ⟨Nat.le_of_ble_eq_true rfl, Nat.le_of_ble_eq_true rfl⟩ ⟨Nat.le_of_ble_eq_true rfl, Nat.le_of_ble_eq_true rfl⟩) [0, 1, 2] [] rfl rfl (by decide) (by decide) (fun r_3 u_1 H locs hp_2 h => ?_)
  have h : Wd G A s H locs [(x, .inr (11, [.ref (r 0), .ref (r 1), .ref (r 2), .ref (r 3), .ref (r 4), .ref (r 5), .ref (r 6), .ref (r 7), .ref (r 8), .ref (r 9), .ref (r 10), .ref (r 11), .ref (r 12), .ref (r 13), .ref (r 14), .ref (r 15), .int 0, .int 0, .int 0])), (r 0, .inr (0, [.ref (u 0), .ref (u 1), .ref (u 2), .ref (u 3), .ref (u 4), .int 0, .int 0, .int 0, .int 0])), (u 2, .inr (1, [.ref (u 11), .ref (u 12), .ref (u 13), .ref (u 14), .ref (u 15), .ref (u 16), .ref (u 17), .int 0, .int 0]))] := h
  obtain rfl : r_3 = 0 := hp_2
  refine lv_if_eq (tgt := 16) hx hb dX11_cheapest_5 (by decide) (fun c_4 => ?_) (fun c_4 => ?_)
  · -- 5 0 = 0
    refine lv_bipush (v := (-2)) hx hb dX11_cheapest_16 (by decide) ?_
    exact m_iret () C0 h [] (by decide) rfl rfl (Nat.le_of_ble_eq_true rfl) (Nat.le_of_ble_eq_true rfl) dX11_cheapest_18
  · -- 5 ¬ 0 = 0
    exact absurd c_4 (by decide)
set_option maxHeartbeats 4000000 in
set_option maxRecDepth 100000 in
theorem c_X11_reach (l : Launch) (G : GG) (x : Nat) (r : Nat → Nat) (u : Nat → Nat) (p0 : Int32) (p1 : Int32) : Mt l yX11_reach cX11_reach 3 (some .int) 3 0 0 G [.ref x, .int p0, .int p1] [(x, .inr (11, [.ref (r 0), .ref (r 1), .ref (r 2), .ref (r 3), .ref (r 4), .ref (r 5), .ref (r 6), .ref (r 7), .ref (r 8), .ref (r 9), .ref (r 10), .ref (r 11), .ref (r 12), .ref (r 13), .ref (r 14), .ref (r 15), .int 0, .int 0, .int 0])), (r 0, .inr (0, [.ref (u 0), .ref (u 1), .ref (u 2), .ref (u 3), .ref (u 4), .int 0, .int 0, .int 0, .int 0])), (u 2, .inr (1, [.ref (u 11), .ref (u 12), .ref (u 13), .ref (u 14), .ref (u 15), .ref (u 16), .ref (u 17), .int 0, .int 0]))] (Ri (S := Unit) G (fun r _ => r = (-2)) (fun _ => [])) := by
  refine Mt.start (by decide) (Nat.le_of_ble_eq_true rfl) ?_
  intro p e s m below meth c A ls C0 hini h hl
  have C0 : Cx p s m _ meth c RX11 cX11_reach 3 (some .int) := C0
  obtain ⟨hx, hb, hml, hown, hts, -⟩ := id C0
  have hl : lv_has ls 3 [(0, .ref x), (1, .int p0), (2, .int p1)] := hl
  refine lv_aload_n hx hb dX11_reach_0 rfl (lv_at hl 0 rfl) ?_
  refine lv_iload_n hx hb dX11_reach_1 rfl (lv_at hl 1 rfl) ?_
  refine m_cli (wr := []) h (m_rV (ci := 11) (q0 := 0) (As := [.int p0]) (rest := []) C0 h (c_X11_isPerson l G x r u p0) k_X11_isPerson q_903 q_23 q_901 rfl rfl rfl [0, 1, 2] (by decide) rfl hl.1 rfl rfl (Nat.le_of_ble_eq_true rfl) dX11_reach_2 ⟨Nat.le_of_ble_eq_true rfl, Nat.le_of_ble_eq_true rfl⟩ ⟨Nat.le_of_ble_eq_true rfl, Nat.le_of_ble_eq_true rfl⟩) [0, 1, 2] [] rfl rfl (by decide) (by decide) (fun r_3 u_1 H locs hp_2 h => ?_)
  have h : Wd G A s H locs [(x, .inr (11, [.ref (r 0), .ref (r 1), .ref (r 2), .ref (r 3), .ref (r 4), .ref (r 5), .ref (r 6), .ref (r 7), .ref (r 8), .ref (r 9), .ref (r 10), .ref (r 11), .ref (r 12), .ref (r 13), .ref (r 14), .ref (r 15), .int 0, .int 0, .int 0])), (r 0, .inr (0, [.ref (u 0), .ref (u 1), .ref (u 2), .ref (u 3), .ref (u 4), .int 0, .int 0, .int 0, .int 0])), (u 2, .inr (1, [.ref (u 11), .ref (u 12), .ref (u 13), .ref (u 14), .ref (u 15), .ref (u 16), .ref (u 17), .int 0, .int 0]))] := h
  obtain rfl : r_3 = 0 := hp_2
  refine lv_if_ne (tgt := 11) hx hb dX11_reach_5 (by decide) (fun c_4 => ?_) (fun c_4 => ?_)
  · -- 5 ¬ 0 = 0
    exact absurd c_4 (by decide)
  · -- 5 0 = 0
    refine lv_bipush (v := (-2)) hx hb dX11_reach_8 (by decide) ?_
    exact m_iret () C0 h [] (by decide) rfl rfl (Nat.le_of_ble_eq_true rfl) (Nat.le_of_ble_eq_true rfl) dX11_reach_10
set_option maxHeartbeats 4000000 in
set_option maxRecDepth 100000 in
theorem c_X11_enough (l : Launch) (G : GG) (x : Nat) (r : Nat → Nat) (u : Nat → Nat) (p0 : Int32) : Mt l yX11_enough cX11_enough 2 (some .int) 3 0 0 G [.ref x, .int p0] [(x, .inr (11, [.ref (r 0), .ref (r 1), .ref (r 2), .ref (r 3), .ref (r 4), .ref (r 5), .ref (r 6), .ref (r 7), .ref (r 8), .ref (r 9), .ref (r 10), .ref (r 11), .ref (r 12), .ref (r 13), .ref (r 14), .ref (r 15), .int 0, .int 0, .int 0])), (r 0, .inr (0, [.ref (u 0), .ref (u 1), .ref (u 2), .ref (u 3), .ref (u 4), .int 0, .int 0, .int 0, .int 0])), (u 2, .inr (1, [.ref (u 11), .ref (u 12), .ref (u 13), .ref (u 14), .ref (u 15), .ref (u 16), .ref (u 17), .int 0, .int 0]))] (Ri (S := Unit) G (fun r _ => r = (-2)) (fun _ => [])) := by
  refine Mt.start (by decide) (Nat.le_of_ble_eq_true rfl) ?_
  intro p e s m below meth c A ls C0 hini h hl
  have C0 : Cx p s m _ meth c RX11 cX11_enough 2 (some .int) := C0
  obtain ⟨hx, hb, hml, hown, hts, -⟩ := id C0
  have hl : lv_has ls 2 [(0, .ref x), (1, .int p0)] := hl
  refine lv_aload_n hx hb dX11_enough_0 rfl (lv_at hl 0 rfl) ?_
  refine lv_iload_n hx hb dX11_enough_1 rfl (lv_at hl 1 rfl) ?_
  refine m_cli (wr := []) h (m_rV (ci := 11) (q0 := 0) (As := [.int p0]) (rest := []) C0 h (c_X11_isPerson l G x r u p0) k_X11_isPerson q_903 q_23 q_901 rfl rfl rfl [0, 1, 2] (by decide) rfl hl.1 rfl rfl (Nat.le_of_ble_eq_true rfl) dX11_enough_2 ⟨Nat.le_of_ble_eq_true rfl, Nat.le_of_ble_eq_true rfl⟩ ⟨Nat.le_of_ble_eq_true rfl, Nat.le_of_ble_eq_true rfl⟩) [0, 1, 2] [] rfl rfl (by decide) (by decide) (fun r_3 u_1 H locs hp_2 h => ?_)
  have h : Wd G A s H locs [(x, .inr (11, [.ref (r 0), .ref (r 1), .ref (r 2), .ref (r 3), .ref (r 4), .ref (r 5), .ref (r 6), .ref (r 7), .ref (r 8), .ref (r 9), .ref (r 10), .ref (r 11), .ref (r 12), .ref (r 13), .ref (r 14), .ref (r 15), .int 0, .int 0, .int 0])), (r 0, .inr (0, [.ref (u 0), .ref (u 1), .ref (u 2), .ref (u 3), .ref (u 4), .int 0, .int 0, .int 0, .int 0])), (u 2, .inr (1, [.ref (u 11), .ref (u 12), .ref (u 13), .ref (u 14), .ref (u 15), .ref (u 16), .ref (u 17), .int 0, .int 0]))] := h
  obtain rfl : r_3 = 0 := hp_2
  refine lv_if_ne (tgt := 11) hx hb dX11_enough_5 (by decide) (fun c_4 => ?_) (fun c_4 => ?_)
  · -- 5 ¬ 0 = 0
    exact absurd c_4 (by decide)
  · -- 5 0 = 0
    refine lv_bipush (v := (-2)) hx hb dX11_enough_8 (by decide) ?_
    exact m_iret () C0 h [] (by decide) rfl rfl (Nat.le_of_ble_eq_true rfl) (Nat.le_of_ble_eq_true rfl) dX11_enough_10
set_option maxHeartbeats 4000000 in
set_option maxRecDepth 100000 in
theorem c_X11_byRights (l : Launch) (G : GG) (x : Nat) (r : Nat → Nat) (u : Nat → Nat) (p0 : Int32) (p1 : Int32) : Mt l yX11_byRights cX11_byRights 3 (some .int) 3 0 0 G [.ref x, .int p0, .int p1] [(x, .inr (11, [.ref (r 0), .ref (r 1), .ref (r 2), .ref (r 3), .ref (r 4), .ref (r 5), .ref (r 6), .ref (r 7), .ref (r 8), .ref (r 9), .ref (r 10), .ref (r 11), .ref (r 12), .ref (r 13), .ref (r 14), .ref (r 15), .int 0, .int 0, .int 0])), (r 0, .inr (0, [.ref (u 0), .ref (u 1), .ref (u 2), .ref (u 3), .ref (u 4), .int 0, .int 0, .int 0, .int 0])), (u 2, .inr (1, [.ref (u 11), .ref (u 12), .ref (u 13), .ref (u 14), .ref (u 15), .ref (u 16), .ref (u 17), .int 0, .int 0]))] (Ri (S := Unit) G (fun r _ => r = (-2)) (fun _ => [])) := by
  refine Mt.start (by decide) (Nat.le_of_ble_eq_true rfl) ?_
  intro p e s m below meth c A ls C0 hini h hl
  have C0 : Cx p s m _ meth c RX11 cX11_byRights 3 (some .int) := C0
  obtain ⟨hx, hb, hml, hown, hts, -⟩ := id C0
  have hl : lv_has ls 3 [(0, .ref x), (1, .int p0), (2, .int p1)] := hl
  refine lv_aload_n hx hb dX11_byRights_0 rfl (lv_at hl 0 rfl) ?_
  refine lv_iload_n hx hb dX11_byRights_1 rfl (lv_at hl 1 rfl) ?_
  refine lv_iload_n hx hb dX11_byRights_2 rfl (lv_at hl 2 rfl) ?_
  refine m_cli (wr := [(u 2, .inr (1, [.ref (u 11), .ref (u 12), .ref (u 13), .ref (u 14), .ref (u 15), .ref (u 16), .ref (u 17), .int 0, .int 0]))]) h (m_rV (ci := 11) (q0 := 0) (As := [.int p0, .int p1]) (rest := []) C0 h (c_X11_isStand l G x r u p0 p1) k_X11_isStand q_911 q_24 q_909 rfl rfl rfl [0, 1] (by decide) rfl hl.1 rfl rfl (Nat.le_of_ble_eq_true rfl) dX11_byRights_3 ⟨Nat.le_of_ble_eq_true rfl, Nat.le_of_ble_eq_true rfl⟩ ⟨Nat.le_of_ble_eq_true rfl, Nat.le_of_ble_eq_true rfl⟩) [0, 1] [2] rfl rfl (by decide) (by decide) (fun r_3 u_1 H locs hp_2 h => ?_)
  have h : Wd G A s H locs [(u 2, .inr (1, [.ref (u 11), .ref (u 12), .ref (u 13), .ref (u 14), .ref (u 15), .ref (u 16), .ref (u 17), .int 0, .int 0])), (x, .inr (11, [.ref (r 0), .ref (r 1), .ref (r 2), .ref (r 3), .ref (r 4), .ref (r 5), .ref (r 6), .ref (r 7), .ref (r 8), .ref (r 9), .ref (r 10), .ref (r 11), .ref (r 12), .ref (r 13), .ref (r 14), .ref (r 15), .int 0, .int 0, .int 0])), (r 0, .inr (0, [.ref (u 0), .ref (u 1), .ref (u 2), .ref (u 3), .ref (u 4), .int 0, .int 0, .int 0, .int 0]))] := h
  obtain rfl : r_3 = 0 := hp_2
  refine lv_if_ne (tgt := 12) hx hb dX11_byRights_6 (by decide) (fun c_4 => ?_) (fun c_4 => ?_)
  · -- 6 ¬ 0 = 0
    exact absurd c_4 (by decide)
  · -- 6 0 = 0
    refine lv_bipush (v := (-2)) hx hb dX11_byRights_9 (by decide) ?_
    exact m_iret () C0 h [] (by decide) rfl rfl (Nat.le_of_ble_eq_true rfl) (Nat.le_of_ble_eq_true rfl) dX11_byRights_11
set_option maxHeartbeats 4000000 in
set_option maxRecDepth 100000 in
theorem c_X11_round (l : Launch) (G : GG) (x : Nat) (r : Nat → Nat) (u : Nat → Nat) (p0 : Int32) (p1 : Int32) (p2 : Int32) : Mt l yX11_round cX11_round 5 (some .int) 3 0 0 G [.ref x, .int p0, .int p1, .int p2] [(x, .inr (11, [.ref (r 0), .ref (r 1), .ref (r 2), .ref (r 3), .ref (r 4), .ref (r 5), .ref (r 6), .ref (r 7), .ref (r 8), .ref (r 9), .ref (r 10), .ref (r 11), .ref (r 12), .ref (r 13), .ref (r 14), .ref (r 15), .int 0, .int 0, .int 0])), (r 0, .inr (0, [.ref (u 0), .ref (u 1), .ref (u 2), .ref (u 3), .ref (u 4), .int 0, .int 0, .int 0, .int 0])), (u 2, .inr (1, [.ref (u 11), .ref (u 12), .ref (u 13), .ref (u 14), .ref (u 15), .ref (u 16), .ref (u 17), .int 0, .int 0]))] (Ri (S := Unit) G (fun r _ => r = (-2)) (fun _ => [])) := by
  refine Mt.start (by decide) (Nat.le_of_ble_eq_true rfl) ?_
  intro p e s m below meth c A ls C0 hini h hl
  have C0 : Cx p s m _ meth c RX11 cX11_round 5 (some .int) := C0
  obtain ⟨hx, hb, hml, hown, hts, -⟩ := id C0
  have hl : lv_has ls 5 [(0, .ref x), (1, .int p0), (2, .int p1), (3, .int p2)] := hl
  refine lv_aload_n hx hb dX11_round_0 rfl (lv_at hl 0 rfl) ?_
  refine lv_iload_n hx hb dX11_round_1 rfl (lv_at hl 1 rfl) ?_
  refine m_cli (wr := []) h (m_rV (ci := 11) (q0 := 0) (As := [.int p0]) (rest := []) C0 h (c_X11_isPerson l G x r u p0) k_X11_isPerson q_903 q_23 q_901 rfl rfl rfl [0, 1, 2] (by decide) rfl hl.1 rfl rfl (Nat.le_of_ble_eq_true rfl) dX11_round_2 ⟨Nat.le_of_ble_eq_true rfl, Nat.le_of_ble_eq_true rfl⟩ ⟨Nat.le_of_ble_eq_true rfl, Nat.le_of_ble_eq_true rfl⟩) [0, 1, 2] [] rfl rfl (by decide) (by decide) (fun r_3 u_1 H locs hp_2 h => ?_)
  have h : Wd G A s H locs [(x, .inr (11, [.ref (r 0), .ref (r 1), .ref (r 2), .ref (r 3), .ref (r 4), .ref (r 5), .ref (r 6), .ref (r 7), .ref (r 8), .ref (r 9), .ref (r 10), .ref (r 11), .ref (r 12), .ref (r 13), .ref (r 14), .ref (r 15), .int 0, .int 0, .int 0])), (r 0, .inr (0, [.ref (u 0), .ref (u 1), .ref (u 2), .ref (u 3), .ref (u 4), .int 0, .int 0, .int 0, .int 0])), (u 2, .inr (1, [.ref (u 11), .ref (u 12), .ref (u 13), .ref (u 14), .ref (u 15), .ref (u 16), .ref (u 17), .int 0, .int 0]))] := h
  obtain rfl : r_3 = 0 := hp_2
  refine lv_if_eq (tgt := 30) hx hb dX11_round_5 (by decide) (fun c_4 => ?_) (fun c_4 => ?_)
  · -- 5 0 = 0
    refine lv_bipush (v := (-2)) hx hb dX11_round_30 (by decide) ?_
    exact m_iret () C0 h [] (by decide) rfl rfl (Nat.le_of_ble_eq_true rfl) (Nat.le_of_ble_eq_true rfl) dX11_round_32
  · -- 5 ¬ 0 = 0
    exact absurd c_4 (by decide)
set_option maxHeartbeats 4000000 in
set_option maxRecDepth 100000 in
theorem c_X11_makeFree (l : Launch) (G : GG) (x : Nat) (r : Nat → Nat) (u : Nat → Nat) (p0 : Int32) (p1 : Int32) (p2 : Int32) (p3 : Int32) : Mt l yX11_makeFree cX11_makeFree 6 (some .int) 3 0 0 G [.ref x, .int p0, .int p1, .int p2, .int p3] [(x, .inr (11, [.ref (r 0), .ref (r 1), .ref (r 2), .ref (r 3), .ref (r 4), .ref (r 5), .ref (r 6), .ref (r 7), .ref (r 8), .ref (r 9), .ref (r 10), .ref (r 11), .ref (r 12), .ref (r 13), .ref (r 14), .ref (r 15), .int 0, .int 0, .int 0])), (r 0, .inr (0, [.ref (u 0), .ref (u 1), .ref (u 2), .ref (u 3), .ref (u 4), .int 0, .int 0, .int 0, .int 0])), (u 2, .inr (1, [.ref (u 11), .ref (u 12), .ref (u 13), .ref (u 14), .ref (u 15), .ref (u 16), .ref (u 17), .int 0, .int 0]))] (Ri (S := Unit) G (fun r _ => r = (-2)) (fun _ => [])) := by
  refine Mt.start (by decide) (Nat.le_of_ble_eq_true rfl) ?_
  intro p e s m below meth c A ls C0 hini h hl
  have C0 : Cx p s m _ meth c RX11 cX11_makeFree 6 (some .int) := C0
  obtain ⟨hx, hb, hml, hown, hts, -⟩ := id C0
  have hl : lv_has ls 6 [(0, .ref x), (1, .int p0), (2, .int p1), (3, .int p2), (4, .int p3)] := hl
  refine lv_aload_n hx hb dX11_makeFree_0 rfl (lv_at hl 0 rfl) ?_
  refine lv_iload_n hx hb dX11_makeFree_1 rfl (lv_at hl 1 rfl) ?_
  refine m_cli (wr := []) h (m_rV (ci := 11) (q0 := 0) (As := [.int p0]) (rest := []) C0 h (c_X11_isPerson l G x r u p0) k_X11_isPerson q_903 q_23 q_901 rfl rfl rfl [0, 1, 2] (by decide) rfl hl.1 rfl rfl (Nat.le_of_ble_eq_true rfl) dX11_makeFree_2 ⟨Nat.le_of_ble_eq_true rfl, Nat.le_of_ble_eq_true rfl⟩ ⟨Nat.le_of_ble_eq_true rfl, Nat.le_of_ble_eq_true rfl⟩) [0, 1, 2] [] rfl rfl (by decide) (by decide) (fun r_3 u_1 H locs hp_2 h => ?_)
  have h : Wd G A s H locs [(x, .inr (11, [.ref (r 0), .ref (r 1), .ref (r 2), .ref (r 3), .ref (r 4), .ref (r 5), .ref (r 6), .ref (r 7), .ref (r 8), .ref (r 9), .ref (r 10), .ref (r 11), .ref (r 12), .ref (r 13), .ref (r 14), .ref (r 15), .int 0, .int 0, .int 0])), (r 0, .inr (0, [.ref (u 0), .ref (u 1), .ref (u 2), .ref (u 3), .ref (u 4), .int 0, .int 0, .int 0, .int 0])), (u 2, .inr (1, [.ref (u 11), .ref (u 12), .ref (u 13), .ref (u 14), .ref (u 15), .ref (u 16), .ref (u 17), .int 0, .int 0]))] := h
  obtain rfl : r_3 = 0 := hp_2
  refine lv_if_eq (tgt := 27) hx hb dX11_makeFree_5 (by decide) (fun c_4 => ?_) (fun c_4 => ?_)
  · -- 5 0 = 0
    refine lv_bipush (v := (-2)) hx hb dX11_makeFree_27 (by decide) ?_
    exact m_iret () C0 h [] (by decide) rfl rfl (Nat.le_of_ble_eq_true rfl) (Nat.le_of_ble_eq_true rfl) dX11_makeFree_29
  · -- 5 ¬ 0 = 0
    exact absurd c_4 (by decide)
set_option maxHeartbeats 4000000 in
set_option maxRecDepth 100000 in
theorem c_X11_bestCorner (l : Launch) (G : GG) (x : Nat) (r : Nat → Nat) (u : Nat → Nat) (p0 : Int32) (p1 : Int32) (p2 : Int32) : Mt l yX11_bestCorner cX11_bestCorner 9 (some .int) 3 0 0 G [.ref x, .int p0, .int p1, .int p2] [(x, .inr (11, [.ref (r 0), .ref (r 1), .ref (r 2), .ref (r 3), .ref (r 4), .ref (r 5), .ref (r 6), .ref (r 7), .ref (r 8), .ref (r 9), .ref (r 10), .ref (r 11), .ref (r 12), .ref (r 13), .ref (r 14), .ref (r 15), .int 0, .int 0, .int 0])), (r 0, .inr (0, [.ref (u 0), .ref (u 1), .ref (u 2), .ref (u 3), .ref (u 4), .int 0, .int 0, .int 0, .int 0])), (u 2, .inr (1, [.ref (u 11), .ref (u 12), .ref (u 13), .ref (u 14), .ref (u 15), .ref (u 16), .ref (u 17), .int 0, .int 0]))] (Ri (S := Unit) G (fun r _ => r = (-2)) (fun _ => [])) := by
  refine Mt.start (by decide) (Nat.le_of_ble_eq_true rfl) ?_
  intro p e s m below meth c A ls C0 hini h hl
  have C0 : Cx p s m _ meth c RX11 cX11_bestCorner 9 (some .int) := C0
  obtain ⟨hx, hb, hml, hown, hts, -⟩ := id C0
  have hl : lv_has ls 9 [(0, .ref x), (1, .int p0), (2, .int p1), (3, .int p2)] := hl
  refine lv_aload_n hx hb dX11_bestCorner_0 rfl (lv_at hl 0 rfl) ?_
  refine lv_iload_n hx hb dX11_bestCorner_1 rfl (lv_at hl 1 rfl) ?_
  refine m_cli (wr := []) h (m_rV (ci := 11) (q0 := 0) (As := [.int p0]) (rest := []) C0 h (c_X11_isPerson l G x r u p0) k_X11_isPerson q_903 q_23 q_901 rfl rfl rfl [0, 1, 2] (by decide) rfl hl.1 rfl rfl (Nat.le_of_ble_eq_true rfl) dX11_bestCorner_2 ⟨Nat.le_of_ble_eq_true rfl, Nat.le_of_ble_eq_true rfl⟩ ⟨Nat.le_of_ble_eq_true rfl, Nat.le_of_ble_eq_true rfl⟩) [0, 1, 2] [] rfl rfl (by decide) (by decide) (fun r_3 u_1 H locs hp_2 h => ?_)
  have h : Wd G A s H locs [(x, .inr (11, [.ref (r 0), .ref (r 1), .ref (r 2), .ref (r 3), .ref (r 4), .ref (r 5), .ref (r 6), .ref (r 7), .ref (r 8), .ref (r 9), .ref (r 10), .ref (r 11), .ref (r 12), .ref (r 13), .ref (r 14), .ref (r 15), .int 0, .int 0, .int 0])), (r 0, .inr (0, [.ref (u 0), .ref (u 1), .ref (u 2), .ref (u 3), .ref (u 4), .int 0, .int 0, .int 0, .int 0])), (u 2, .inr (1, [.ref (u 11), .ref (u 12), .ref (u 13), .ref (u 14), .ref (u 15), .ref (u 16), .ref (u 17), .int 0, .int 0]))] := h
  obtain rfl : r_3 = 0 := hp_2
  refine lv_if_eq (tgt := 16) hx hb dX11_bestCorner_5 (by decide) (fun c_4 => ?_) (fun c_4 => ?_)
  · -- 5 0 = 0
    refine lv_bipush (v := (-2)) hx hb dX11_bestCorner_16 (by decide) ?_
    exact m_iret () C0 h [] (by decide) rfl rfl (Nat.le_of_ble_eq_true rfl) (Nat.le_of_ble_eq_true rfl) dX11_bestCorner_18
  · -- 5 ¬ 0 = 0
    exact absurd c_4 (by decide)
set_option maxHeartbeats 4000000 in
set_option maxRecDepth 100000 in
theorem c_X11_dealing (l : Launch) (G : GG) (x : Nat) (r : Nat → Nat) (u : Nat → Nat) (p0 : Int32) (p1 : Int32) (p2 : Int32) : Mt l yX11_dealing cX11_dealing 9 (some .int) 3 0 0 G [.ref x, .int p0, .int p1, .int p2] [(x, .inr (11, [.ref (r 0), .ref (r 1), .ref (r 2), .ref (r 3), .ref (r 4), .ref (r 5), .ref (r 6), .ref (r 7), .ref (r 8), .ref (r 9), .ref (r 10), .ref (r 11), .ref (r 12), .ref (r 13), .ref (r 14), .ref (r 15), .int 0, .int 0, .int 0])), (r 0, .inr (0, [.ref (u 0), .ref (u 1), .ref (u 2), .ref (u 3), .ref (u 4), .int 0, .int 0, .int 0, .int 0])), (u 2, .inr (1, [.ref (u 11), .ref (u 12), .ref (u 13), .ref (u 14), .ref (u 15), .ref (u 16), .ref (u 17), .int 0, .int 0]))] (Ri (S := Unit) G (fun r _ => r = (-2)) (fun _ => [])) := by
  refine Mt.start (by decide) (Nat.le_of_ble_eq_true rfl) ?_
  intro p e s m below meth c A ls C0 hini h hl
  have C0 : Cx p s m _ meth c RX11 cX11_dealing 9 (some .int) := C0
  obtain ⟨hx, hb, hml, hown, hts, -⟩ := id C0
  have hl : lv_has ls 9 [(0, .ref x), (1, .int p0), (2, .int p1), (3, .int p2)] := hl
  refine lv_aload_n hx hb dX11_dealing_0 rfl (lv_at hl 0 rfl) ?_
  refine lv_iload_n hx hb dX11_dealing_1 rfl (lv_at hl 1 rfl) ?_
  refine lv_iload_n hx hb dX11_dealing_2 rfl (lv_at hl 2 rfl) ?_
  refine m_cli (wr := [(u 2, .inr (1, [.ref (u 11), .ref (u 12), .ref (u 13), .ref (u 14), .ref (u 15), .ref (u 16), .ref (u 17), .int 0, .int 0]))]) h (m_rV (ci := 11) (q0 := 0) (As := [.int p0, .int p1]) (rest := []) C0 h (c_X11_isStand l G x r u p0 p1) k_X11_isStand q_911 q_24 q_909 rfl rfl rfl [0, 1] (by decide) rfl hl.1 rfl rfl (Nat.le_of_ble_eq_true rfl) dX11_dealing_3 ⟨Nat.le_of_ble_eq_true rfl, Nat.le_of_ble_eq_true rfl⟩ ⟨Nat.le_of_ble_eq_true rfl, Nat.le_of_ble_eq_true rfl⟩) [0, 1] [2] rfl rfl (by decide) (by decide) (fun r_3 u_1 H locs hp_2 h => ?_)
  have h : Wd G A s H locs [(u 2, .inr (1, [.ref (u 11), .ref (u 12), .ref (u 13), .ref (u 14), .ref (u 15), .ref (u 16), .ref (u 17), .int 0, .int 0])), (x, .inr (11, [.ref (r 0), .ref (r 1), .ref (r 2), .ref (r 3), .ref (r 4), .ref (r 5), .ref (r 6), .ref (r 7), .ref (r 8), .ref (r 9), .ref (r 10), .ref (r 11), .ref (r 12), .ref (r 13), .ref (r 14), .ref (r 15), .int 0, .int 0, .int 0])), (r 0, .inr (0, [.ref (u 0), .ref (u 1), .ref (u 2), .ref (u 3), .ref (u 4), .int 0, .int 0, .int 0, .int 0]))] := h
  obtain rfl : r_3 = 0 := hp_2
  refine lv_if_eq (tgt := 18) hx hb dX11_dealing_6 (by decide) (fun c_4 => ?_) (fun c_4 => ?_)
  · -- 6 0 = 0
    refine lv_bipush (v := (-2)) hx hb dX11_dealing_18 (by decide) ?_
    exact m_iret () C0 h [] (by decide) rfl rfl (Nat.le_of_ble_eq_true rfl) (Nat.le_of_ble_eq_true rfl) dX11_dealing_20
  · -- 6 ¬ 0 = 0
    exact absurd c_4 (by decide)
set_option maxHeartbeats 4000000 in
set_option maxRecDepth 100000 in
theorem c_X11_affords (l : Launch) (G : GG) (x : Nat) (r : Nat → Nat) (u : Nat → Nat) (p0 : Int32) : Mt l yX11_affords cX11_affords 6 (some .int) 3 0 0 G [.ref x, .int p0] [(x, .inr (11, [.ref (r 0), .ref (r 1), .ref (r 2), .ref (r 3), .ref (r 4), .ref (r 5), .ref (r 6), .ref (r 7), .ref (r 8), .ref (r 9), .ref (r 10), .ref (r 11), .ref (r 12), .ref (r 13), .ref (r 14), .ref (r 15), .int 0, .int 0, .int 0])), (r 0, .inr (0, [.ref (u 0), .ref (u 1), .ref (u 2), .ref (u 3), .ref (u 4), .int 0, .int 0, .int 0, .int 0])), (u 2, .inr (1, [.ref (u 11), .ref (u 12), .ref (u 13), .ref (u 14), .ref (u 15), .ref (u 16), .ref (u 17), .int 0, .int 0]))] (Ri (S := Unit) G (fun r _ => r = (-2)) (fun _ => [])) := by
  refine Mt.start (by decide) (Nat.le_of_ble_eq_true rfl) ?_
  intro p e s m below meth c A ls C0 hini h hl
  have C0 : Cx p s m _ meth c RX11 cX11_affords 6 (some .int) := C0
  obtain ⟨hx, hb, hml, hown, hts, -⟩ := id C0
  have hl : lv_has ls 6 [(0, .ref x), (1, .int p0)] := hl
  refine lv_aload_n hx hb dX11_affords_0 rfl (lv_at hl 0 rfl) ?_
  refine lv_iload_n hx hb dX11_affords_1 rfl (lv_at hl 1 rfl) ?_
  refine m_cli (wr := []) h (m_rV (ci := 11) (q0 := 0) (As := [.int p0]) (rest := []) C0 h (c_X11_isPerson l G x r u p0) k_X11_isPerson q_903 q_23 q_901 rfl rfl rfl [0, 1, 2] (by decide) rfl hl.1 rfl rfl (Nat.le_of_ble_eq_true rfl) dX11_affords_2 ⟨Nat.le_of_ble_eq_true rfl, Nat.le_of_ble_eq_true rfl⟩ ⟨Nat.le_of_ble_eq_true rfl, Nat.le_of_ble_eq_true rfl⟩) [0, 1, 2] [] rfl rfl (by decide) (by decide) (fun r_3 u_1 H locs hp_2 h => ?_)
  have h : Wd G A s H locs [(x, .inr (11, [.ref (r 0), .ref (r 1), .ref (r 2), .ref (r 3), .ref (r 4), .ref (r 5), .ref (r 6), .ref (r 7), .ref (r 8), .ref (r 9), .ref (r 10), .ref (r 11), .ref (r 12), .ref (r 13), .ref (r 14), .ref (r 15), .int 0, .int 0, .int 0])), (r 0, .inr (0, [.ref (u 0), .ref (u 1), .ref (u 2), .ref (u 3), .ref (u 4), .int 0, .int 0, .int 0, .int 0])), (u 2, .inr (1, [.ref (u 11), .ref (u 12), .ref (u 13), .ref (u 14), .ref (u 15), .ref (u 16), .ref (u 17), .int 0, .int 0]))] := h
  obtain rfl : r_3 = 0 := hp_2
  refine lv_if_ne (tgt := 11) hx hb dX11_affords_5 (by decide) (fun c_4 => ?_) (fun c_4 => ?_)
  · -- 5 ¬ 0 = 0
    exact absurd c_4 (by decide)
  · -- 5 0 = 0
    refine lv_bipush (v := (-2)) hx hb dX11_affords_8 (by decide) ?_
    exact m_iret () C0 h [] (by decide) rfl rfl (Nat.le_of_ble_eq_true rfl) (Nat.le_of_ble_eq_true rfl) dX11_affords_10
set_option maxHeartbeats 4000000 in
set_option maxRecDepth 100000 in
theorem c_X11_found (l : Launch) (G : GG) (x : Nat) (r : Nat → Nat) (u : Nat → Nat) (p0 : Int32) (p1 : Int32) (p2 : Int32) : Mt l yX11_found cX11_found 5 (some .int) 3 0 0 G [.ref x, .int p0, .int p1, .int p2] [(x, .inr (11, [.ref (r 0), .ref (r 1), .ref (r 2), .ref (r 3), .ref (r 4), .ref (r 5), .ref (r 6), .ref (r 7), .ref (r 8), .ref (r 9), .ref (r 10), .ref (r 11), .ref (r 12), .ref (r 13), .ref (r 14), .ref (r 15), .int 0, .int 0, .int 0])), (r 0, .inr (0, [.ref (u 0), .ref (u 1), .ref (u 2), .ref (u 3), .ref (u 4), .int 0, .int 0, .int 0, .int 0])), (u 2, .inr (1, [.ref (u 11), .ref (u 12), .ref (u 13), .ref (u 14), .ref (u 15), .ref (u 16), .ref (u 17), .int 0, .int 0]))] (Ri (S := Unit) G (fun r _ => r = (-2)) (fun _ => [])) := by
  refine Mt.start (by decide) (Nat.le_of_ble_eq_true rfl) ?_
  intro p e s m below meth c A ls C0 hini h hl
  have C0 : Cx p s m _ meth c RX11 cX11_found 5 (some .int) := C0
  obtain ⟨hx, hb, hml, hown, hts, -⟩ := id C0
  have hl : lv_has ls 5 [(0, .ref x), (1, .int p0), (2, .int p1), (3, .int p2)] := hl
  refine lv_aload_n hx hb dX11_found_0 rfl (lv_at hl 0 rfl) ?_
  refine lv_iload_n hx hb dX11_found_1 rfl (lv_at hl 1 rfl) ?_
  refine m_cli (wr := []) h (m_rV (ci := 11) (q0 := 0) (As := [.int p0]) (rest := []) C0 h (c_X11_isPerson l G x r u p0) k_X11_isPerson q_903 q_23 q_901 rfl rfl rfl [0, 1, 2] (by decide) rfl hl.1 rfl rfl (Nat.le_of_ble_eq_true rfl) dX11_found_2 ⟨Nat.le_of_ble_eq_true rfl, Nat.le_of_ble_eq_true rfl⟩ ⟨Nat.le_of_ble_eq_true rfl, Nat.le_of_ble_eq_true rfl⟩) [0, 1, 2] [] rfl rfl (by decide) (by decide) (fun r_3 u_1 H locs hp_2 h => ?_)
  have h : Wd G A s H locs [(x, .inr (11, [.ref (r 0), .ref (r 1), .ref (r 2), .ref (r 3), .ref (r 4), .ref (r 5), .ref (r 6), .ref (r 7), .ref (r 8), .ref (r 9), .ref (r 10), .ref (r 11), .ref (r 12), .ref (r 13), .ref (r 14), .ref (r 15), .int 0, .int 0, .int 0])), (r 0, .inr (0, [.ref (u 0), .ref (u 1), .ref (u 2), .ref (u 3), .ref (u 4), .int 0, .int 0, .int 0, .int 0])), (u 2, .inr (1, [.ref (u 11), .ref (u 12), .ref (u 13), .ref (u 14), .ref (u 15), .ref (u 16), .ref (u 17), .int 0, .int 0]))] := h
  obtain rfl : r_3 = 0 := hp_2
  refine lv_if_eq (tgt := 15) hx hb dX11_found_5 (by decide) (fun c_4 => ?_) (fun c_4 => ?_)
  · -- 5 0 = 0
    refine lv_bipush (v := (-2)) hx hb dX11_found_15 (by decide) ?_
    exact m_iret () C0 h [] (by decide) rfl rfl (Nat.le_of_ble_eq_true rfl) (Nat.le_of_ble_eq_true rfl) dX11_found_17
  · -- 5 ¬ 0 = 0
    exact absurd c_4 (by decide)
set_option maxHeartbeats 4000000 in
set_option maxRecDepth 100000 in
theorem c_X11_chase (l : Launch) (G : GG) (x : Nat) (r : Nat → Nat) (u : Nat → Nat) (p0 : Int32) (p1 : Int32) (p2 : Int32) (p3 : Int32) : Mt l yX11_chase cX11_chase 6 (some .int) 3 0 0 G [.ref x, .int p0, .int p1, .int p2, .int p3] [(x, .inr (11, [.ref (r 0), .ref (r 1), .ref (r 2), .ref (r 3), .ref (r 4), .ref (r 5), .ref (r 6), .ref (r 7), .ref (r 8), .ref (r 9), .ref (r 10), .ref (r 11), .ref (r 12), .ref (r 13), .ref (r 14), .ref (r 15), .int 0, .int 0, .int 0])), (r 0, .inr (0, [.ref (u 0), .ref (u 1), .ref (u 2), .ref (u 3), .ref (u 4), .int 0, .int 0, .int 0, .int 0])), (u 2, .inr (1, [.ref (u 11), .ref (u 12), .ref (u 13), .ref (u 14), .ref (u 15), .ref (u 16), .ref (u 17), .int 0, .int 0]))] (Ri (S := Unit) G (fun r _ => r = (-2)) (fun _ => [])) := by
  refine Mt.start (by decide) (Nat.le_of_ble_eq_true rfl) ?_
  intro p e s m below meth c A ls C0 hini h hl
  have C0 : Cx p s m _ meth c RX11 cX11_chase 6 (some .int) := C0
  obtain ⟨hx, hb, hml, hown, hts, -⟩ := id C0
  have hl : lv_has ls 6 [(0, .ref x), (1, .int p0), (2, .int p1), (3, .int p2), (4, .int p3)] := hl
  refine lv_aload_n hx hb dX11_chase_0 rfl (lv_at hl 0 rfl) ?_
  refine lv_iload_n hx hb dX11_chase_1 rfl (lv_at hl 1 rfl) ?_
  refine lv_iload_n hx hb dX11_chase_2 rfl (lv_at hl 2 rfl) ?_
  refine m_cli (wr := [(u 2, .inr (1, [.ref (u 11), .ref (u 12), .ref (u 13), .ref (u 14), .ref (u 15), .ref (u 16), .ref (u 17), .int 0, .int 0]))]) h (m_rV (ci := 11) (q0 := 0) (As := [.int p0, .int p1]) (rest := []) C0 h (c_X11_isStand l G x r u p0 p1) k_X11_isStand q_911 q_24 q_909 rfl rfl rfl [0, 1] (by decide) rfl hl.1 rfl rfl (Nat.le_of_ble_eq_true rfl) dX11_chase_3 ⟨Nat.le_of_ble_eq_true rfl, Nat.le_of_ble_eq_true rfl⟩ ⟨Nat.le_of_ble_eq_true rfl, Nat.le_of_ble_eq_true rfl⟩) [0, 1] [2] rfl rfl (by decide) (by decide) (fun r_3 u_1 H locs hp_2 h => ?_)
  have h : Wd G A s H locs [(u 2, .inr (1, [.ref (u 11), .ref (u 12), .ref (u 13), .ref (u 14), .ref (u 15), .ref (u 16), .ref (u 17), .int 0, .int 0])), (x, .inr (11, [.ref (r 0), .ref (r 1), .ref (r 2), .ref (r 3), .ref (r 4), .ref (r 5), .ref (r 6), .ref (r 7), .ref (r 8), .ref (r 9), .ref (r 10), .ref (r 11), .ref (r 12), .ref (r 13), .ref (r 14), .ref (r 15), .int 0, .int 0, .int 0])), (r 0, .inr (0, [.ref (u 0), .ref (u 1), .ref (u 2), .ref (u 3), .ref (u 4), .int 0, .int 0, .int 0, .int 0]))] := h
  obtain rfl : r_3 = 0 := hp_2
  refine lv_if_eq (tgt := 19) hx hb dX11_chase_6 (by decide) (fun c_4 => ?_) (fun c_4 => ?_)
  · -- 6 0 = 0
    refine lv_bipush (v := (-2)) hx hb dX11_chase_19 (by decide) ?_
    exact m_iret () C0 h [] (by decide) rfl rfl (Nat.le_of_ble_eq_true rfl) (Nat.le_of_ble_eq_true rfl) dX11_chase_21
  · -- 6 ¬ 0 = 0
    exact absurd c_4 (by decide)
set_option maxHeartbeats 4000000 in
set_option maxRecDepth 100000 in
theorem c_X11_posts (l : Launch) (G : GG) (x : Nat) (r : Nat → Nat) (u : Nat → Nat) (p0 : Int32) (p1 : Int32) (p2 : Int32) (p3 : Int32) : Mt l yX11_posts cX11_posts 5 (some .int) 3 0 0 G [.ref x, .int p0, .int p1, .int p2, .int p3] [(x, .inr (11, [.ref (r 0), .ref (r 1), .ref (r 2), .ref (r 3), .ref (r 4), .ref (r 5), .ref (r 6), .ref (r 7), .ref (r 8), .ref (r 9), .ref (r 10), .ref (r 11), .ref (r 12), .ref (r 13), .ref (r 14), .ref (r 15), .int 0, .int 0, .int 0])), (r 0, .inr (0, [.ref (u 0), .ref (u 1), .ref (u 2), .ref (u 3), .ref (u 4), .int 0, .int 0, .int 0, .int 0])), (u 2, .inr (1, [.ref (u 11), .ref (u 12), .ref (u 13), .ref (u 14), .ref (u 15), .ref (u 16), .ref (u 17), .int 0, .int 0]))] (Ri (S := Unit) G (fun r _ => r = (-2)) (fun _ => [])) := by
  refine Mt.start (by decide) (Nat.le_of_ble_eq_true rfl) ?_
  intro p e s m below meth c A ls C0 hini h hl
  have C0 : Cx p s m _ meth c RX11 cX11_posts 5 (some .int) := C0
  obtain ⟨hx, hb, hml, hown, hts, -⟩ := id C0
  have hl : lv_has ls 5 [(0, .ref x), (1, .int p0), (2, .int p1), (3, .int p2), (4, .int p3)] := hl
  refine lv_aload_n hx hb dX11_posts_0 rfl (lv_at hl 0 rfl) ?_
  refine lv_iload_n hx hb dX11_posts_1 rfl (lv_at hl 1 rfl) ?_
  refine lv_iload_n hx hb dX11_posts_2 rfl (lv_at hl 2 rfl) ?_
  refine m_cli (wr := [(u 2, .inr (1, [.ref (u 11), .ref (u 12), .ref (u 13), .ref (u 14), .ref (u 15), .ref (u 16), .ref (u 17), .int 0, .int 0]))]) h (m_rV (ci := 11) (q0 := 0) (As := [.int p0, .int p1]) (rest := []) C0 h (c_X11_isStand l G x r u p0 p1) k_X11_isStand q_911 q_24 q_909 rfl rfl rfl [0, 1] (by decide) rfl hl.1 rfl rfl (Nat.le_of_ble_eq_true rfl) dX11_posts_3 ⟨Nat.le_of_ble_eq_true rfl, Nat.le_of_ble_eq_true rfl⟩ ⟨Nat.le_of_ble_eq_true rfl, Nat.le_of_ble_eq_true rfl⟩) [0, 1] [2] rfl rfl (by decide) (by decide) (fun r_3 u_1 H locs hp_2 h => ?_)
  have h : Wd G A s H locs [(u 2, .inr (1, [.ref (u 11), .ref (u 12), .ref (u 13), .ref (u 14), .ref (u 15), .ref (u 16), .ref (u 17), .int 0, .int 0])), (x, .inr (11, [.ref (r 0), .ref (r 1), .ref (r 2), .ref (r 3), .ref (r 4), .ref (r 5), .ref (r 6), .ref (r 7), .ref (r 8), .ref (r 9), .ref (r 10), .ref (r 11), .ref (r 12), .ref (r 13), .ref (r 14), .ref (r 15), .int 0, .int 0, .int 0])), (r 0, .inr (0, [.ref (u 0), .ref (u 1), .ref (u 2), .ref (u 3), .ref (u 4), .int 0, .int 0, .int 0, .int 0]))] := h
  obtain rfl : r_3 = 0 := hp_2
  refine lv_if_eq (tgt := 18) hx hb dX11_posts_6 (by decide) (fun c_4 => ?_) (fun c_4 => ?_)
  · -- 6 0 = 0
    refine lv_bipush (v := (-2)) hx hb dX11_posts_18 (by decide) ?_
    exact m_iret () C0 h [] (by decide) rfl rfl (Nat.le_of_ble_eq_true rfl) (Nat.le_of_ble_eq_true rfl) dX11_posts_20
  · -- 6 ¬ 0 = 0
    exact absurd c_4 (by decide)
set_option maxHeartbeats 4000000 in
set_option maxRecDepth 100000 in
theorem c_X11_ways (l : Launch) (G : GG) (x : Nat) (r : Nat → Nat) (u : Nat → Nat) (p0 : Int32) (p1 : Int32) (p2 : Int32) (p3 : Int32) : Mt l yX11_ways cX11_ways 5 (some .long) 3 0 0 G [.ref x, .int p0, .int p1, .int p2, .int p3] [(x, .inr (11, [.ref (r 0), .ref (r 1), .ref (r 2), .ref (r 3), .ref (r 4), .ref (r 5), .ref (r 6), .ref (r 7), .ref (r 8), .ref (r 9), .ref (r 10), .ref (r 11), .ref (r 12), .ref (r 13), .ref (r 14), .ref (r 15), .int 0, .int 0, .int 0])), (r 0, .inr (0, [.ref (u 0), .ref (u 1), .ref (u 2), .ref (u 3), .ref (u 4), .int 0, .int 0, .int 0, .int 0])), (u 2, .inr (1, [.ref (u 11), .ref (u 12), .ref (u 13), .ref (u 14), .ref (u 15), .ref (u 16), .ref (u 17), .int 0, .int 0]))] (Rl (S := Unit) G (fun r _ => r = (-2)) (fun _ => [])) := by
  refine Mt.start (by decide) (Nat.le_of_ble_eq_true rfl) ?_
  intro p e s m below meth c A ls C0 hini h hl
  have C0 : Cx p s m _ meth c RX11 cX11_ways 5 (some .long) := C0
  obtain ⟨hx, hb, hml, hown, hts, -⟩ := id C0
  have hl : lv_has ls 5 [(0, .ref x), (1, .int p0), (2, .int p1), (3, .int p2), (4, .int p3)] := hl
  refine lv_aload_n hx hb dX11_ways_0 rfl (lv_at hl 0 rfl) ?_
  refine lv_iload_n hx hb dX11_ways_1 rfl (lv_at hl 1 rfl) ?_
  refine m_cli (wr := []) h (m_rV (ci := 11) (q0 := 0) (As := [.int p0]) (rest := []) C0 h (c_X11_isPerson l G x r u p0) k_X11_isPerson q_903 q_23 q_901 rfl rfl rfl [0, 1, 2] (by decide) rfl hl.1 rfl rfl (Nat.le_of_ble_eq_true rfl) dX11_ways_2 ⟨Nat.le_of_ble_eq_true rfl, Nat.le_of_ble_eq_true rfl⟩ ⟨Nat.le_of_ble_eq_true rfl, Nat.le_of_ble_eq_true rfl⟩) [0, 1, 2] [] rfl rfl (by decide) (by decide) (fun r_3 u_1 H locs hp_2 h => ?_)
  have h : Wd G A s H locs [(x, .inr (11, [.ref (r 0), .ref (r 1), .ref (r 2), .ref (r 3), .ref (r 4), .ref (r 5), .ref (r 6), .ref (r 7), .ref (r 8), .ref (r 9), .ref (r 10), .ref (r 11), .ref (r 12), .ref (r 13), .ref (r 14), .ref (r 15), .int 0, .int 0, .int 0])), (r 0, .inr (0, [.ref (u 0), .ref (u 1), .ref (u 2), .ref (u 3), .ref (u 4), .int 0, .int 0, .int 0, .int 0])), (u 2, .inr (1, [.ref (u 11), .ref (u 12), .ref (u 13), .ref (u 14), .ref (u 15), .ref (u 16), .ref (u 17), .int 0, .int 0]))] := h
  obtain rfl : r_3 = 0 := hp_2
  refine lv_if_eq (tgt := 16) hx hb dX11_ways_5 (by decide) (fun c_4 => ?_) (fun c_4 => ?_)
  · -- 5 0 = 0
    refine lv_ldc2 (v := (-2)) hx hb hown (hts _ q_1229) dX11_ways_16 ?_
    exact m_lret () C0 h [] (by decide) rfl rfl (Nat.le_of_ble_eq_true rfl) (Nat.le_of_ble_eq_true rfl) dX11_ways_19
  · -- 5 ¬ 0 = 0
    exact absurd c_4 (by decide)
set_option maxHeartbeats 4000000 in
set_option maxRecDepth 100000 in
theorem c_X11_lists (l : Launch) (G : GG) (x : Nat) (r : Nat → Nat) (u : Nat → Nat) (p0 : Int32) (p1 : Int32) (p2 : Int32) (p3 : Int32) : Mt l yX11_lists cX11_lists 8 (some .int) 3 0 0 G [.ref x, .int p0, .int p1, .int p2, .int p3] [(x, .inr (11, [.ref (r 0), .ref (r 1), .ref (r 2), .ref (r 3), .ref (r 4), .ref (r 5), .ref (r 6), .ref (r 7), .ref (r 8), .ref (r 9), .ref (r 10), .ref (r 11), .ref (r 12), .ref (r 13), .ref (r 14), .ref (r 15), .int 0, .int 0, .int 0])), (r 0, .inr (0, [.ref (u 0), .ref (u 1), .ref (u 2), .ref (u 3), .ref (u 4), .int 0, .int 0, .int 0, .int 0])), (u 2, .inr (1, [.ref (u 11), .ref (u 12), .ref (u 13), .ref (u 14), .ref (u 15), .ref (u 16), .ref (u 17), .int 0, .int 0]))] (Ri (S := Unit) G (fun r _ => r = (-2)) (fun _ => [])) := by
  refine Mt.start (by decide) (Nat.le_of_ble_eq_true rfl) ?_
  intro p e s m below meth c A ls C0 hini h hl
  have C0 : Cx p s m _ meth c RX11 cX11_lists 8 (some .int) := C0
  obtain ⟨hx, hb, hml, hown, hts, -⟩ := id C0
  have hl : lv_has ls 8 [(0, .ref x), (1, .int p0), (2, .int p1), (3, .int p2), (4, .int p3)] := hl
  refine lv_iload_n hx hb dX11_lists_0 rfl (lv_at hl 1 rfl) ?_
  refine m_cli (wr := [(x, .inr (11, [.ref (r 0), .ref (r 1), .ref (r 2), .ref (r 3), .ref (r 4), .ref (r 5), .ref (r 6), .ref (r 7), .ref (r 8), .ref (r 9), .ref (r 10), .ref (r 11), .ref (r 12), .ref (r 13), .ref (r 14), .ref (r 15), .int 0, .int 0, .int 0])), (r 0, .inr (0, [.ref (u 0), .ref (u 1), .ref (u 2), .ref (u 3), .ref (u 4), .int 0, .int 0, .int 0, .int 0])), (u 2, .inr (1, [.ref (u 11), .ref (u 12), .ref (u 13), .ref (u 14), .ref (u 15), .ref (u 16), .ref (u 17), .int 0, .int 0]))]) h (m_rS (As := [.int p0]) (rest := []) C0 h (c_X11_isTray l G p0) k_X11_isTray q_998 q_997 [] (by decide) rfl hl.1 rfl rfl (Nat.le_of_ble_eq_true rfl) dX11_lists_1 ⟨Nat.le_of_ble_eq_true rfl, Nat.le_of_ble_eq_true rfl⟩ ⟨Nat.le_of_ble_eq_true rfl, Nat.le_of_ble_eq_true rfl⟩) [] [0, 1, 2] rfl rfl (by decide) (by decide) (fun r_3 u_1 H locs hp_2 h => ?_)
  have h : Wd G A s H locs [(x, .inr (11, [.ref (r 0), .ref (r 1), .ref (r 2), .ref (r 3), .ref (r 4), .ref (r 5), .ref (r 6), .ref (r 7), .ref (r 8), .ref (r 9), .ref (r 10), .ref (r 11), .ref (r 12), .ref (r 13), .ref (r 14), .ref (r 15), .int 0, .int 0, .int 0])), (r 0, .inr (0, [.ref (u 0), .ref (u 1), .ref (u 2), .ref (u 3), .ref (u 4), .int 0, .int 0, .int 0, .int 0])), (u 2, .inr (1, [.ref (u 11), .ref (u 12), .ref (u 13), .ref (u 14), .ref (u 15), .ref (u 16), .ref (u 17), .int 0, .int 0]))] := h
  rcases hp_2 with ⟨rfl, hp_2w⟩ | ⟨rfl, hp_2w⟩
  · -- answer 1
    refine lv_if_eq (tgt := 23) hx hb dX11_lists_4 (by decide) (fun c_4 => ?_) (fun c_4 => ?_)
    · -- 4 1 = 0
      exact absurd c_4 (by decide)
    · -- 4 ¬ 1 = 0
      refine lv_aload_n hx hb dX11_lists_7 rfl (lv_at hl 0 rfl) ?_
      refine lv_iload_n hx hb dX11_lists_8 rfl (lv_at hl 2 rfl) ?_
      refine m_cli (wr := []) h (m_rV (ci := 11) (q0 := 0) (As := [.int p1]) (rest := []) C0 h (c_X11_isPerson l G x r u p1) k_X11_isPerson q_903 q_23 q_901 rfl rfl rfl [0, 1, 2] (by decide) rfl hl.1 rfl rfl (Nat.le_of_ble_eq_true rfl) dX11_lists_9 ⟨Nat.le_of_ble_eq_true rfl, Nat.le_of_ble_eq_true rfl⟩ ⟨Nat.le_of_ble_eq_true rfl, Nat.le_of_ble_eq_true rfl⟩) [0, 1, 2] [] rfl rfl (by decide) (by decide) (fun r_7 u_5 H locs hp_6 h => ?_)
      have h : Wd G A s H locs [(x, .inr (11, [.ref (r 0), .ref (r 1), .ref (r 2), .ref (r 3), .ref (r 4), .ref (r 5), .ref (r 6), .ref (r 7), .ref (r 8), .ref (r 9), .ref (r 10), .ref (r 11), .ref (r 12), .ref (r 13), .ref (r 14), .ref (r 15), .int 0, .int 0, .int 0])), (r 0, .inr (0, [.ref (u 0), .ref (u 1), .ref (u 2), .ref (u 3), .ref (u 4), .int 0, .int 0, .int 0, .int 0])), (u 2, .inr (1, [.ref (u 11), .ref (u 12), .ref (u 13), .ref (u 14), .ref (u 15), .ref (u 16), .ref (u 17), .int 0, .int 0]))] := h
      obtain rfl : r_7 = 0 := hp_6
      refine lv_if_eq (tgt := 23) hx hb dX11_lists_12 (by decide) (fun c_8 => ?_) (fun c_8 => ?_)
      · -- 12 0 = 0
        refine lv_bipush (v := (-2)) hx hb dX11_lists_23 (by decide) ?_
        exact m_iret () C0 h [] (by decide) rfl rfl (Nat.le_of_ble_eq_true rfl) (Nat.le_of_ble_eq_true rfl) dX11_lists_25
      · -- 12 ¬ 0 = 0
        exact absurd c_8 (by decide)
  · -- answer 0
    refine lv_if_eq (tgt := 23) hx hb dX11_lists_4 (by decide) (fun c_9 => ?_) (fun c_9 => ?_)
    · -- 4 0 = 0
      refine lv_bipush (v := (-2)) hx hb dX11_lists_23 (by decide) ?_
      exact m_iret () C0 h [] (by decide) rfl rfl (Nat.le_of_ble_eq_true rfl) (Nat.le_of_ble_eq_true rfl) dX11_lists_25
    · -- 4 ¬ 0 = 0
      exact absurd c_9 (by decide)
set_option maxHeartbeats 4000000 in
set_option maxRecDepth 100000 in
theorem c_X11_cheap (l : Launch) (G : GG) (x : Nat) (r : Nat → Nat) (u : Nat → Nat) : Mt l yX11_cheap cX11_cheap 5 (some .int) 3 0 0 G [.ref x] [(x, .inr (11, [.ref (r 0), .ref (r 1), .ref (r 2), .ref (r 3), .ref (r 4), .ref (r 5), .ref (r 6), .ref (r 7), .ref (r 8), .ref (r 9), .ref (r 10), .ref (r 11), .ref (r 12), .ref (r 13), .ref (r 14), .ref (r 15), .int 0, .int 0, .int 0])), (r 0, .inr (0, [.ref (u 0), .ref (u 1), .ref (u 2), .ref (u 3), .ref (u 4), .int 0, .int 0, .int 0, .int 0])), (u 2, .inr (1, [.ref (u 11), .ref (u 12), .ref (u 13), .ref (u 14), .ref (u 15), .ref (u 16), .ref (u 17), .int 0, .int 0]))] (Ri (S := Unit) G (fun r _ => r = (-1)) (fun _ => [])) := by
  refine Mt.start (by decide) (Nat.le_of_ble_eq_true rfl) ?_
  intro p e s m below meth c A ls C0 hini h hl
  have C0 : Cx p s m _ meth c RX11 cX11_cheap 5 (some .int) := C0
  obtain ⟨hx, hb, hml, hown, hts, -⟩ := id C0
  have hl : lv_has ls 5 [(0, .ref x)] := hl
  refine lv_iconst (v := (-1)) hx hb dX11_cheap_0 (by decide) ?_
  refine lv_istore_n (lv' := [(1, .int (-1)), (0, .ref x)]) hx hb dX11_cheap_1 rfl hl (by decide) rfl (fun ls hl => ?_)
  refine lv_iconst (v := 0) hx hb dX11_cheap_2 (by decide) ?_
  refine lv_istore_n (lv' := [(2, .int 0), (1, .int (-1)), (0, .ref x)]) hx hb dX11_cheap_3 rfl hl (by decide) rfl (fun ls hl => ?_)
  refine lv_iconst (v := 0) hx hb dX11_cheap_4 (by decide) ?_
  refine lv_istore_n (lv' := [(3, .int 0), (2, .int 0), (1, .int (-1)), (0, .ref x)]) hx hb dX11_cheap_5 rfl hl (by decide) rfl (fun ls hl => ?_)
  refine lv_iload_n hx hb dX11_cheap_6 rfl (lv_at hl 0 rfl) ?_
  refine lv_aload_n hx hb dX11_cheap_7 rfl (lv_at hl 3 rfl) ?_
  refine g_X11_now C0 h 0 q_515 rfl rfl dX11_cheap_8 ?_
  refine m_cli (wr := [(x, .inr (11, [.ref (r 0), .ref (r 1), .ref (r 2), .ref (r 3), .ref (r 4), .ref (r 5), .ref (r 6), .ref (r 7), .ref (r 8), .ref (r 9), .ref (r 10), .ref (r 11), .ref (r 12), .ref (r 13), .ref (r 14), .ref (r 15), .int 0, .int 0, .int 0])), (u 2, .inr (1, [.ref (u 11), .ref (u 12), .ref (u 13), .ref (u 14), .ref (u 15), .ref (u 16), .ref (u 17), .int 0, .int 0]))]) h (m_rV (ci := 0) (q0 := 1) (As := []) (rest := [.int 0]) C0 h (c_X0_crossings l G (r 0) u) k_X0_crossings q_918 q_919 q_917 rfl rfl rfl [1] (by decide) rfl hl.1 rfl rfl (Nat.le_of_ble_eq_true rfl) dX11_cheap_11 ⟨Nat.le_of_ble_eq_true rfl, Nat.le_of_ble_eq_true rfl⟩ ⟨Nat.le_of_ble_eq_true rfl, Nat.le_of_ble_eq_true rfl⟩) [1] [0, 2] rfl rfl (by decide) (by decide) (fun r_3 u_1 H locs hp_2 h => ?_)
  have h : Wd G A s H locs [(x, .inr (11, [.ref (r 0), .ref (r 1), .ref (r 2), .ref (r 3), .ref (r 4), .ref (r 5), .ref (r 6), .ref (r 7), .ref (r 8), .ref (r 9), .ref (r 10), .ref (r 11), .ref (r 12), .ref (r 13), .ref (r 14), .ref (r 15), .int 0, .int 0, .int 0])), (u 2, .inr (1, [.ref (u 11), .ref (u 12), .ref (u 13), .ref (u 14), .ref (u 15), .ref (u 16), .ref (u 17), .int 0, .int 0])), (r 0, .inr (0, [.ref (u 0), .ref (u 1), .ref (u 2), .ref (u 3), .ref (u 4), .int 0, .int 0, .int 0, .int 0]))] := h
  obtain rfl : r_3 = 0 := hp_2
  refine lv_icmp_ge (tgt := 71) hx hb dX11_cheap_14 (by decide) (fun c_4 => ?_) (fun c_4 => ?_)
  · -- 14 0 ≤ 0
    refine lv_iload_n hx hb dX11_cheap_71 rfl (lv_at hl 2 rfl) ?_
    exact m_iret () C0 h [] (by decide) rfl rfl (Nat.le_of_ble_eq_true rfl) (Nat.le_of_ble_eq_true rfl) dX11_cheap_72
  · -- 14 ¬ 0 ≤ 0
    exact absurd c_4 (by decide)
set_option maxHeartbeats 4000000 in
set_option maxRecDepth 100000 in
theorem c_X0_hindrance (l : Launch) (G : GG) (a : Nat) (u : Nat → Nat) (p0 : Int32) (p1 : Int32) : Mt l yX0_hindrance cX0_hindrance 5 (some .int) 2 0 0 G [.ref a, .int p0, .int p1] [(a, .inr (0, [.ref (u 0), .ref (u 1), .ref (u 2), .ref (u 3), .ref (u 4), .int 0, .int 0, .int 0, .int 0])), (u 2, .inr (1, [.ref (u 11), .ref (u 12), .ref (u 13), .ref (u 14), .ref (u 15), .ref (u 16), .ref (u 17), .int 0, .int 0]))] (Ri (S := Unit) G (fun r _ => r = 1) (fun _ => [(a, .inr (0, [.ref (u 0), .ref (u 1), .ref (u 2), .ref (u 3), .ref (u 4), .int 0, .int 0, .int 0, .int 0])), (u 2, .inr (1, [.ref (u 11), .ref (u 12), .ref (u 13), .ref (u 14), .ref (u 15), .ref (u 16), .ref (u 17), .int 0, .int 0]))])) := by
  refine Mt.start (by decide) (Nat.le_of_ble_eq_true rfl) ?_
  intro p e s m below meth c A ls C0 hini h hl
  have C0 : Cx p s m _ meth c RX0 cX0_hindrance 5 (some .int) := C0
  obtain ⟨hx, hb, hml, hown, hts, -⟩ := id C0
  have hl : lv_has ls 5 [(0, .ref a), (1, .int p0), (2, .int p1)] := hl
  refine lv_iload_n hx hb dX0_hindrance_0 rfl (lv_at hl 1 rfl) ?_
  refine lv_if_lt (tgt := 24) hx hb dX0_hindrance_1 (by decide) (fun c_1 => ?_) (fun c_1 => ?_)
  · -- 1 p0 < 0
    refine lv_iconst (v := 1) hx hb dX0_hindrance_24 (by decide) ?_
    exact m_iret () C0 h [0, 1] (by decide) rfl rfl (Nat.le_of_ble_eq_true rfl) (Nat.le_of_ble_eq_true rfl) dX0_hindrance_25
  · -- 1 ¬ p0 < 0
    refine lv_iload_n hx hb dX0_hindrance_4 rfl (lv_at hl 1 rfl) ?_
    refine lv_aload_n hx hb dX0_hindrance_5 rfl (lv_at hl 0 rfl) ?_
    refine g_X0_folk C0 h 0 q_247 rfl rfl dX0_hindrance_6 ?_
    refine g_X1_people C0 h 1 q_214 rfl rfl dX0_hindrance_9 ?_
    refine lv_icmp_ge (tgt := 24) hx hb dX0_hindrance_12 (by decide) (fun c_2 => ?_) (fun c_2 => ?_)
    · -- 12 0 ≤ p0
      refine lv_iconst (v := 1) hx hb dX0_hindrance_24 (by decide) ?_
      exact m_iret () C0 h [0, 1] (by decide) rfl rfl (Nat.le_of_ble_eq_true rfl) (Nat.le_of_ble_eq_true rfl) dX0_hindrance_25
    · -- 12 ¬ 0 ≤ p0
      exfalso; grind
set_option maxHeartbeats 4000000 in
set_option maxRecDepth 100000 in
theorem c_X11_why (l : Launch) (G : GG) (x : Nat) (r : Nat → Nat) (u : Nat → Nat) (p0 : Int32) (p1 : Int32) : Mt l yX11_why cX11_why 3 (some .int) 3 0 0 G [.ref x, .int p0, .int p1] [(x, .inr (11, [.ref (r 0), .ref (r 1), .ref (r 2), .ref (r 3), .ref (r 4), .ref (r 5), .ref (r 6), .ref (r 7), .ref (r 8), .ref (r 9), .ref (r 10), .ref (r 11), .ref (r 12), .ref (r 13), .ref (r 14), .ref (r 15), .int 0, .int 0, .int 0])), (r 0, .inr (0, [.ref (u 0), .ref (u 1), .ref (u 2), .ref (u 3), .ref (u 4), .int 0, .int 0, .int 0, .int 0])), (u 2, .inr (1, [.ref (u 11), .ref (u 12), .ref (u 13), .ref (u 14), .ref (u 15), .ref (u 16), .ref (u 17), .int 0, .int 0]))] (Ri (S := Unit) G (fun r _ => r = 1) (fun _ => [])) := by
  refine Mt.start (by decide) (Nat.le_of_ble_eq_true rfl) ?_
  intro p e s m below meth c A ls C0 hini h hl
  have C0 : Cx p s m _ meth c RX11 cX11_why 3 (some .int) := C0
  obtain ⟨hx, hb, hml, hown, hts, -⟩ := id C0
  have hl : lv_has ls 3 [(0, .ref x), (1, .int p0), (2, .int p1)] := hl
  refine lv_aload_n hx hb dX11_why_0 rfl (lv_at hl 0 rfl) ?_
  refine g_X11_now C0 h 0 q_515 rfl rfl dX11_why_1 ?_
  refine lv_iload_n hx hb dX11_why_4 rfl (lv_at hl 1 rfl) ?_
  refine lv_iload_n hx hb dX11_why_5 rfl (lv_at hl 2 rfl) ?_
  refine m_cli (wr := [(x, .inr (11, [.ref (r 0), .ref (r 1), .ref (r 2), .ref (r 3), .ref (r 4), .ref (r 5), .ref (r 6), .ref (r 7), .ref (r 8), .ref (r 9), .ref (r 10), .ref (r 11), .ref (r 12), .ref (r 13), .ref (r 14), .ref (r 15), .int 0, .int 0, .int 0]))]) h (m_rV (ci := 0) (q0 := 1) (As := [.int p0, .int p1]) (rest := []) C0 h (c_X0_hindrance l G (r 0) u p0 p1) k_X0_hindrance q_965 q_966 q_964 rfl rfl rfl [1, 2] (by decide) rfl hl.1 rfl rfl (Nat.le_of_ble_eq_true rfl) dX11_why_6 ⟨Nat.le_of_ble_eq_true rfl, Nat.le_of_ble_eq_true rfl⟩ ⟨Nat.le_of_ble_eq_true rfl, Nat.le_of_ble_eq_true rfl⟩) [1, 2] [0] rfl rfl (by decide) (by decide) (fun r_3 u_1 H locs hp_2 h => ?_)
  have h : Wd G A s H locs [(x, .inr (11, [.ref (r 0), .ref (r 1), .ref (r 2), .ref (r 3), .ref (r 4), .ref (r 5), .ref (r 6), .ref (r 7), .ref (r 8), .ref (r 9), .ref (r 10), .ref (r 11), .ref (r 12), .ref (r 13), .ref (r 14), .ref (r 15), .int 0, .int 0, .int 0])), (r 0, .inr (0, [.ref (u 0), .ref (u 1), .ref (u 2), .ref (u 3), .ref (u 4), .int 0, .int 0, .int 0, .int 0])), (u 2, .inr (1, [.ref (u 11), .ref (u 12), .ref (u 13), .ref (u 14), .ref (u 15), .ref (u 16), .ref (u 17), .int 0, .int 0]))] := h
  obtain rfl : r_3 = 1 := hp_2
  exact m_iret () C0 h [] (by decide) rfl rfl (Nat.le_of_ble_eq_true rfl) (Nat.le_of_ble_eq_true rfl) dX11_why_9
set_option maxHeartbeats 4000000 in
set_option maxRecDepth 100000 in
theorem c_X11_go (l : Launch) (G : GG) (x : Nat) (r : Nat → Nat) (u : Nat → Nat) (p0 : Int32) (p1 : Int32) : Mt l yX11_go cX11_go 4 (some .int) 3 0 0 G [.ref x, .int p0, .int p1] [(x, .inr (11, [.ref (r 0), .ref (r 1), .ref (r 2), .ref (r 3), .ref (r 4), .ref (r 5), .ref (r 6), .ref (r 7), .ref (r 8), .ref (r 9), .ref (r 10), .ref (r 11), .ref (r 12), .ref (r 13), .ref (r 14), .ref (r 15), .int 0, .int 0, .int 0])), (r 0, .inr (0, [.ref (u 0), .ref (u 1), .ref (u 2), .ref (u 3), .ref (u 4), .int 0, .int 0, .int 0, .int 0])), (u 2, .inr (1, [.ref (u 11), .ref (u 12), .ref (u 13), .ref (u 14), .ref (u 15), .ref (u 16), .ref (u 17), .int 0, .int 0]))] (Ri (S := Unit) G (fun r _ => r = (-11)) (fun _ => [])) := by
  refine Mt.start (by decide) (Nat.le_of_ble_eq_true rfl) ?_
  intro p e s m below meth c A ls C0 hini h hl
  have C0 : Cx p s m _ meth c RX11 cX11_go 4 (some .int) := C0
  obtain ⟨hx, hb, hml, hown, hts, -⟩ := id C0
  have hl : lv_has ls 4 [(0, .ref x), (1, .int p0), (2, .int p1)] := hl
  refine lv_aload_n hx hb dX11_go_0 rfl (lv_at hl 0 rfl) ?_
  refine g_X11_now C0 h 0 q_515 rfl rfl dX11_go_1 ?_
  refine lv_iload_n hx hb dX11_go_4 rfl (lv_at hl 1 rfl) ?_
  refine lv_iload_n hx hb dX11_go_5 rfl (lv_at hl 2 rfl) ?_
  refine m_cli (wr := [(x, .inr (11, [.ref (r 0), .ref (r 1), .ref (r 2), .ref (r 3), .ref (r 4), .ref (r 5), .ref (r 6), .ref (r 7), .ref (r 8), .ref (r 9), .ref (r 10), .ref (r 11), .ref (r 12), .ref (r 13), .ref (r 14), .ref (r 15), .int 0, .int 0, .int 0]))]) h (m_rV (ci := 0) (q0 := 1) (As := [.int p0, .int p1]) (rest := []) C0 h (c_X0_hindrance l G (r 0) u p0 p1) k_X0_hindrance q_965 q_966 q_964 rfl rfl rfl [1, 2] (by decide) rfl hl.1 rfl rfl (Nat.le_of_ble_eq_true rfl) dX11_go_6 ⟨Nat.le_of_ble_eq_true rfl, Nat.le_of_ble_eq_true rfl⟩ ⟨Nat.le_of_ble_eq_true rfl, Nat.le_of_ble_eq_true rfl⟩) [1, 2] [0] rfl rfl (by decide) (by decide) (fun r_3 u_1 H locs hp_2 h => ?_)
  have h : Wd G A s H locs [(x, .inr (11, [.ref (r 0), .ref (r 1), .ref (r 2), .ref (r 3), .ref (r 4), .ref (r 5), .ref (r 6), .ref (r 7), .ref (r 8), .ref (r 9), .ref (r 10), .ref (r 11), .ref (r 12), .ref (r 13), .ref (r 14), .ref (r 15), .int 0, .int 0, .int 0])), (r 0, .inr (0, [.ref (u 0), .ref (u 1), .ref (u 2), .ref (u 3), .ref (u 4), .int 0, .int 0, .int 0, .int 0])), (u 2, .inr (1, [.ref (u 11), .ref (u 12), .ref (u 13), .ref (u 14), .ref (u 15), .ref (u 16), .ref (u 17), .int 0, .int 0]))] := h
  obtain rfl : r_3 = 1 := hp_2
  refine lv_istore_n (lv' := [(3, .int 1), (0, .ref x), (1, .int p0), (2, .int p1)]) hx hb dX11_go_9 rfl hl (by decide) rfl (fun ls hl => ?_)
  refine lv_iload_n hx hb dX11_go_10 rfl (lv_at hl 0 rfl) ?_
  refine lv_if_eq (tgt := 19) hx hb dX11_go_11 (by decide) (fun c_4 => ?_) (fun c_4 => ?_)
  · -- 11 1 = 0
    exact absurd c_4 (by decide)
  · -- 11 ¬ 1 = 0
    refine lv_bipush (v := (-10)) hx hb dX11_go_14 (by decide) ?_
    refine lv_iload_n hx hb dX11_go_16 rfl (lv_at hl 0 rfl) ?_
    refine lv_isub hx hb dX11_go_17 ?_
    refine lv_topi (fun k_5 ek_5 => ?_)
    obtain rfl : k_5 = (-11) := ek_5.trans (by decide)
    exact m_iret () C0 h [] (by decide) rfl rfl (Nat.le_of_ble_eq_true rfl) (Nat.le_of_ble_eq_true rfl) dX11_go_18
set_option maxHeartbeats 4000000 in
set_option maxRecDepth 100000 in
theorem c_X11_undo (l : Launch) (G : GG) (x : Nat) (r : Nat → Nat) (u : Nat → Nat) (p0 : Int32) : Mt l yX11_undo cX11_undo 2 (some .int) 3 0 0 G [.ref x, .int p0] [(x, .inr (11, [.ref (r 0), .ref (r 1), .ref (r 2), .ref (r 3), .ref (r 4), .ref (r 5), .ref (r 6), .ref (r 7), .ref (r 8), .ref (r 9), .ref (r 10), .ref (r 11), .ref (r 12), .ref (r 13), .ref (r 14), .ref (r 15), .int 0, .int 0, .int 0])), (r 0, .inr (0, [.ref (u 0), .ref (u 1), .ref (u 2), .ref (u 3), .ref (u 4), .int 0, .int 0, .int 0, .int 0])), (u 2, .inr (1, [.ref (u 11), .ref (u 12), .ref (u 13), .ref (u 14), .ref (u 15), .ref (u 16), .ref (u 17), .int 0, .int 0]))] (Ri (S := Unit) G (fun r _ => r = (-3)) (fun _ => [])) := by
  refine Mt.start (by decide) (Nat.le_of_ble_eq_true rfl) ?_
  intro p e s m below meth c A ls C0 hini h hl
  have C0 : Cx p s m _ meth c RX11 cX11_undo 2 (some .int) := C0
  obtain ⟨hx, hb, hml, hown, hts, -⟩ := id C0
  have hl : lv_has ls 2 [(0, .ref x), (1, .int p0)] := hl
  refine lv_iload_n hx hb dX11_undo_0 rfl (lv_at hl 1 rfl) ?_
  refine lv_iconst (v := 1) hx hb dX11_undo_1 (by decide) ?_
  refine lv_icmp_lt (tgt := 13) hx hb dX11_undo_2 (by decide) (fun c_1 => ?_) (fun c_1 => ?_)
  · -- 2 p0 < 1
    refine lv_bipush (v := (-3)) hx hb dX11_undo_13 (by decide) ?_
    exact m_iret () C0 h [] (by decide) rfl rfl (Nat.le_of_ble_eq_true rfl) (Nat.le_of_ble_eq_true rfl) dX11_undo_15
  · -- 2 ¬ p0 < 1
    refine lv_iload_n hx hb dX11_undo_5 rfl (lv_at hl 1 rfl) ?_
    refine lv_aload_n hx hb dX11_undo_6 rfl (lv_at hl 0 rfl) ?_
    refine g_X11_pastSize C0 h 0 q_532 rfl rfl dX11_undo_7 ?_
    refine lv_icmp_le (tgt := 16) hx hb dX11_undo_10 (by decide) (fun c_2 => ?_) (fun c_2 => ?_)
    · -- 10 p0 ≤ 0
      exfalso; grind
    · -- 10 ¬ p0 ≤ 0
      refine lv_bipush (v := (-3)) hx hb dX11_undo_13 (by decide) ?_
      exact m_iret () C0 h [] (by decide) rfl rfl (Nat.le_of_ble_eq_true rfl) (Nat.le_of_ble_eq_true rfl) dX11_undo_15
set_option maxHeartbeats 4000000 in
set_option maxRecDepth 100000 in
theorem c_X11_week (l : Launch) (G : GG) (x : Nat) (r : Nat → Nat) (u : Nat → Nat) (p0 : Int32) (p1 : Int32) : Mt l yX11_week cX11_week 5 (some .int) 3 0 0 G [.ref x, .int p0, .int p1] [(x, .inr (11, [.ref (r 0), .ref (r 1), .ref (r 2), .ref (r 3), .ref (r 4), .ref (r 5), .ref (r 6), .ref (r 7), .ref (r 8), .ref (r 9), .ref (r 10), .ref (r 11), .ref (r 12), .ref (r 13), .ref (r 14), .ref (r 15), .int 0, .int 0, .int 0])), (r 0, .inr (0, [.ref (u 0), .ref (u 1), .ref (u 2), .ref (u 3), .ref (u 4), .int 0, .int 0, .int 0, .int 0])), (u 2, .inr (1, [.ref (u 11), .ref (u 12), .ref (u 13), .ref (u 14), .ref (u 15), .ref (u 16), .ref (u 17), .int 0, .int 0]))] (Ri (S := Unit) G (fun r _ => r = sp_week p1) (fun _ => [])) := by
  refine Mt.start (by decide) (Nat.le_of_ble_eq_true rfl) ?_
  intro p e s m below meth c A ls C0 hini h hl
  have C0 : Cx p s m _ meth c RX11 cX11_week 5 (some .int) := C0
  obtain ⟨hx, hb, hml, hown, hts, -⟩ := id C0
  have hl : lv_has ls 5 [(0, .ref x), (1, .int p0), (2, .int p1)] := hl
  refine lv_iload_n hx hb dX11_week_0 rfl (lv_at hl 2 rfl) ?_
  refine lv_iconst (v := 1) hx hb dX11_week_1 (by decide) ?_
  refine lv_icmp_lt (tgt := 11) hx hb dX11_week_2 (by decide) (fun c_1 => ?_) (fun c_1 => ?_)
  · -- 2 p1 < 1
    refine lv_bipush (v := (-3)) hx hb dX11_week_11 (by decide) ?_
    exact m_iret () C0 h [] (by decide) rfl (by unfold sp_week; grind) (Nat.le_of_ble_eq_true rfl) (Nat.le_of_ble_eq_true rfl) dX11_week_13
  · -- 2 ¬ p1 < 1
    refine lv_iload_n hx hb dX11_week_5 rfl (lv_at hl 2 rfl) ?_
    refine lv_bipush (v := 60) hx hb dX11_week_6 (by decide) ?_
    refine lv_icmp_le (tgt := 14) hx hb dX11_week_8 (by decide) (fun c_2 => ?_) (fun c_2 => ?_)
    · -- 8 p1 ≤ 60
      refine lv_aload_n hx hb dX11_week_14 rfl (lv_at hl 0 rfl) ?_
      refine g_X11_now C0 h 0 q_515 rfl rfl dX11_week_15 ?_
      refine g_X0_folk C0 h 1 q_249 rfl rfl dX11_week_18 ?_
      refine g_X1_people C0 h 2 q_215 rfl rfl dX11_week_21 ?_
      refine lv_if_ne (tgt := 30) hx hb dX11_week_24 (by decide) (fun c_3 => ?_) (fun c_3 => ?_)
      · -- 24 ¬ 0 = 0
        exact absurd c_3 (by decide)
      · -- 24 0 = 0
        refine lv_bipush (v := (-5)) hx hb dX11_week_27 (by decide) ?_
        exact m_iret () C0 h [] (by decide) rfl (by unfold sp_week; grind) (Nat.le_of_ble_eq_true rfl) (Nat.le_of_ble_eq_true rfl) dX11_week_29
    · -- 8 ¬ p1 ≤ 60
      refine lv_bipush (v := (-3)) hx hb dX11_week_11 (by decide) ?_
      exact m_iret () C0 h [] (by decide) rfl (by unfold sp_week; grind) (Nat.le_of_ble_eq_true rfl) (Nat.le_of_ble_eq_true rfl) dX11_week_13
end
section
theorem dJ7_fill_d0a16_0 : decode cJ7_fill_d0a16 0 = .ok (.iconst 0, 1) := by decide +kernel
theorem dJ7_fill_d0a16_1 : decode cJ7_fill_d0a16 1 = .ok (.istore_n 3, 1) := by decide +kernel
theorem dJ7_fill_d0a16_2 : decode cJ7_fill_d0a16 2 = .ok (.aload_n 0, 1) := by decide +kernel
theorem dJ7_fill_d0a16_3 : decode cJ7_fill_d0a16 3 = .ok (.arraylength, 1) := by decide +kernel
theorem dJ7_fill_d0a16_4 : decode cJ7_fill_d0a16 4 = .ok (.istore 4, 2) := by decide +kernel
theorem dJ7_fill_d0a16_6 : decode cJ7_fill_d0a16 6 = .ok (.iload_n 3, 1) := by decide +kernel
theorem dJ7_fill_d0a16_7 : decode cJ7_fill_d0a16 7 = .ok (.iload 4, 2) := by decide +kernel
theorem dJ7_fill_d0a16_9 : decode cJ7_fill_d0a16 9 = .ok (.if_icmp .ge 13, 3) := by decide +kernel
theorem dJ7_fill_d0a16_12 : decode cJ7_fill_d0a16 12 = .ok (.aload_n 0, 1) := by decide +kernel
theorem dJ7_fill_d0a16_13 : decode cJ7_fill_d0a16 13 = .ok (.iload_n 3, 1) := by decide +kernel
theorem dJ7_fill_d0a16_14 : decode cJ7_fill_d0a16 14 = .ok (.lload_n 1, 1) := by decide +kernel
theorem dJ7_fill_d0a16_15 : decode cJ7_fill_d0a16 15 = .ok (.lastore, 1) := by decide +kernel
theorem dJ7_fill_d0a16_16 : decode cJ7_fill_d0a16 16 = .ok (.iinc 3 1, 3) := by decide +kernel
theorem dJ7_fill_d0a16_19 : decode cJ7_fill_d0a16 19 = .ok (.goto (-13), 3) := by decide +kernel
theorem dJ7_fill_d0a16_22 : decode cJ7_fill_d0a16 22 = .ok (.return_, 1) := by decide +kernel
theorem dJ7_fill_53178_0 : decode cJ7_fill_53178 0 = .ok (.iconst 0, 1) := by decide +kernel
theorem dJ7_fill_53178_1 : decode cJ7_fill_53178 1 = .ok (.istore_n 2, 1) := by decide +kernel
theorem dJ7_fill_53178_2 : decode cJ7_fill_53178 2 = .ok (.aload_n 0, 1) := by decide +kernel
theorem dJ7_fill_53178_3 : decode cJ7_fill_53178 3 = .ok (.arraylength, 1) := by decide +kernel
theorem dJ7_fill_53178_4 : decode cJ7_fill_53178 4 = .ok (.istore_n 3, 1) := by decide +kernel
theorem dJ7_fill_53178_5 : decode cJ7_fill_53178 5 = .ok (.iload_n 2, 1) := by decide +kernel
theorem dJ7_fill_53178_6 : decode cJ7_fill_53178 6 = .ok (.iload_n 3, 1) := by decide +kernel
theorem dJ7_fill_53178_7 : decode cJ7_fill_53178 7 = .ok (.if_icmp .ge 13, 3) := by decide +kernel
theorem dJ7_fill_53178_10 : decode cJ7_fill_53178 10 = .ok (.aload_n 0, 1) := by decide +kernel
theorem dJ7_fill_53178_11 : decode cJ7_fill_53178 11 = .ok (.iload_n 2, 1) := by decide +kernel
theorem dJ7_fill_53178_12 : decode cJ7_fill_53178 12 = .ok (.iload_n 1, 1) := by decide +kernel
theorem dJ7_fill_53178_13 : decode cJ7_fill_53178 13 = .ok (.iastore, 1) := by decide +kernel
theorem dJ7_fill_53178_14 : decode cJ7_fill_53178 14 = .ok (.iinc 2 1, 3) := by decide +kernel
theorem dJ7_fill_53178_17 : decode cJ7_fill_53178 17 = .ok (.goto (-12), 3) := by decide +kernel
theorem dJ7_fill_53178_20 : decode cJ7_fill_53178 20 = .ok (.return_, 1) := by decide +kernel
set_option maxHeartbeats 4000000 in
set_option maxRecDepth 100000 in
theorem c_J7_fill_d0a16 (l : Launch) (G : GG) (a : Nat) (N : Nat) (f : Nat → Int64) (v : Int64) (hN : N < 2 ^ 31) : Mt l yJ7_fill_d0a16 cJ7_fill_d0a16 5 none 0 0 0 G [.ref a, .long v] [(a, .inl (G.2 2, N, .inr (.inl f)))] (Rv (S := (Nat → Int64)) G (fun _ => True) (fun g => [(a, .inl (G.2 2, N, .inr (.inl g)))])) := by
  refine Mt.start (by decide) (Nat.le_of_ble_eq_true rfl) ?_
  intro p e s m below meth c A ls C0 hini h hl
  have C0 : Cx p s m _ meth c RJ7 cJ7_fill_d0a16 5 none := C0
  obtain ⟨hx, hb, hml, hown, hts, -⟩ := id C0
  have hl : lv_has ls 5 [(0, .ref a), (1, .long v)] := hl
  refine lv_iconst (v := 0) hx hb dJ7_fill_d0a16_0 (by decide) ?_
  refine lv_istore_n (lv' := [(3, .int 0), (0, .ref a), (1, .long v)]) hx hb dJ7_fill_d0a16_1 rfl hl (by decide) rfl (fun ls hl => ?_)
  refine lv_aload_n hx hb dJ7_fill_d0a16_2 rfl (lv_at hl 1 rfl) ?_
  refine m_alen (v := nI N) C0 h 0 2 rfl rfl rfl dJ7_fill_d0a16_3 ?_
  refine lv_istore (lv' := [(4, .int (nI N)), (3, .int 0), (0, .ref a), (1, .long v)]) hx hb dJ7_fill_d0a16_4 hl (by decide) rfl (fun ls hl => ?_)
  have lp_6 : ∀ (n i : Nat) (g : Nat → Int64) (H : Heap) (locs : List Loc) (ls : Array Slot), i + n = N → Wd G A s H locs [(a, .inl (G.2 2, N, .inr (.inl g)))] → lv_has ls 5 [(4, .int (nI N)), (3, .int (nI i)), (0, .ref a), (1, .long v)] → W p l e (rmd 0 0 0) s m ([.ref a, .long v]).toArray below meth c H locs 0 0 (MQ below ((Rv (S := (Nat → Int64)) G (fun _ => True) (fun g => [(a, .inl (G.2 2, N, .inr (.inl g)))])) A) ([.ref a, .long v]).toArray s 0 0 A) (F0 m 6 ls []) := by
    intro n
    induction n with
    | zero =>
      intro i g H locs ls hn h hl
      refine lv_iload_n hx hb dJ7_fill_d0a16_6 rfl (lv_at hl 1 rfl) ?_
      refine lv_iload hx hb dJ7_fill_d0a16_7 (lv_at hl 0 rfl) ?_
      refine lv_icmp_ge (tgt := 22) hx hb dJ7_fill_d0a16_9 (by decide) (fun c_1 => ?_) (fun c_1 => ?_)
      · -- 9 nI N ≤ nI i
        exact m_vret g C0 h [0] (by decide) rfl trivial (Nat.le_of_ble_eq_true rfl) (Nat.le_of_ble_eq_true rfl) dJ7_fill_d0a16_22
      · -- 9 ¬ nI N ≤ nI i
        exact absurd ((nI_leI (a := N) (b := i) (by omega) (by omega)).mpr (by omega)) c_1
    | succ n ih_6 =>
      intro i g H locs ls hn h hl
      refine lv_iload_n hx hb dJ7_fill_d0a16_6 rfl (lv_at hl 1 rfl) ?_
      refine lv_iload hx hb dJ7_fill_d0a16_7 (lv_at hl 0 rfl) ?_
      refine lv_icmp_ge (tgt := 22) hx hb dJ7_fill_d0a16_9 (by decide) (fun c_2 => ?_) (fun c_2 => ?_)
      · -- 9 nI N ≤ nI i
        exact absurd ((nI_leI (a := N) (b := i) (by omega) (by omega)).mp c_2) (by omega)
      · -- 9 ¬ nI N ≤ nI i
        refine lv_aload_n hx hb dJ7_fill_d0a16_12 rfl (lv_at hl 2 rfl) ?_
        refine lv_iload_n hx hb dJ7_fill_d0a16_13 rfl (lv_at hl 1 rfl) ?_
        refine lv_lload_n hx hb dJ7_fill_d0a16_14 rfl (lv_at hl 3 rfl) ?_
        refine m_last (ws' := [(a, .inl (G.2 2, N, .inr (.inl (vp_updL g i v))))]) C0 h 0 i rfl rfl (by omega) (by assumption) rfl dJ7_fill_d0a16_15 (fun H locs h => ?_)
        refine lv_iinc (v := nI (i + 1)) (lv' := [(3, .int (nI (i + 1))), (4, .int (nI N)), (0, .ref a), (1, .long v)]) hx hb dJ7_fill_d0a16_16 hl (k := 1) rfl (nI_1 _) (by decide) rfl (fun ls hl => ?_)
        refine lv_goto (tgt := 6) hx hb dJ7_fill_d0a16_19 (by decide) ?_
        exact ih_6 (i + 1) (vp_updL g i v) _ _ _ (by omega) h (lv_sub hl [1, 0, 2, 3] rfl)
  exact lp_6 (N - 0) 0 f _ _ _ (by omega) h (lv_sub hl [0, 1, 2, 3] rfl)
set_option maxHeartbeats 4000000 in
set_option maxRecDepth 100000 in
theorem c_J7_fill_53178 (l : Launch) (G : GG) (a : Nat) (N : Nat) (f : Nat → Int32) (v : Int32) (hN : N < 2 ^ 31) : Mt l yJ7_fill_53178 cJ7_fill_53178 4 none 0 0 0 G [.ref a, .int v] [(a, .inl (G.2 1, N, .inl f))] (Rv (S := (Nat → Int32)) G (fun _ => True) (fun g => [(a, .inl (G.2 1, N, .inl g))])) := by
  refine Mt.start (by decide) (Nat.le_of_ble_eq_true rfl) ?_
  intro p e s m below meth c A ls C0 hini h hl
  have C0 : Cx p s m _ meth c RJ7 cJ7_fill_53178 4 none := C0
  obtain ⟨hx, hb, hml, hown, hts, -⟩ := id C0
  have hl : lv_has ls 4 [(0, .ref a), (1, .int v)] := hl
  refine lv_iconst (v := 0) hx hb dJ7_fill_53178_0 (by decide) ?_
  refine lv_istore_n (lv' := [(2, .int 0), (0, .ref a), (1, .int v)]) hx hb dJ7_fill_53178_1 rfl hl (by decide) rfl (fun ls hl => ?_)
  refine lv_aload_n hx hb dJ7_fill_53178_2 rfl (lv_at hl 1 rfl) ?_
  refine m_alen (v := nI N) C0 h 0 1 rfl rfl rfl dJ7_fill_53178_3 ?_
  refine lv_istore_n (lv' := [(3, .int (nI N)), (2, .int 0), (0, .ref a), (1, .int v)]) hx hb dJ7_fill_53178_4 rfl hl (by decide) rfl (fun ls hl => ?_)
  have lp_5 : ∀ (n i : Nat) (g : Nat → Int32) (H : Heap) (locs : List Loc) (ls : Array Slot), i + n = N → Wd G A s H locs [(a, .inl (G.2 1, N, .inl g))] → lv_has ls 4 [(3, .int (nI N)), (2, .int (nI i)), (0, .ref a), (1, .int v)] → W p l e (rmd 0 0 0) s m ([.ref a, .int v]).toArray below meth c H locs 0 0 (MQ below ((Rv (S := (Nat → Int32)) G (fun _ => True) (fun g => [(a, .inl (G.2 1, N, .inl g))])) A) ([.ref a, .int v]).toArray s 0 0 A) (F0 m 5 ls []) := by
    intro n
    induction n with
    | zero =>
      intro i g H locs ls hn h hl
      refine lv_iload_n hx hb dJ7_fill_53178_5 rfl (lv_at hl 1 rfl) ?_
      refine lv_iload_n hx hb dJ7_fill_53178_6 rfl (lv_at hl 0 rfl) ?_
      refine lv_icmp_ge (tgt := 20) hx hb dJ7_fill_53178_7 (by decide) (fun c_1 => ?_) (fun c_1 => ?_)
      · -- 7 nI N ≤ nI i
        exact m_vret g C0 h [0] (by decide) rfl trivial (Nat.le_of_ble_eq_true rfl) (Nat.le_of_ble_eq_true rfl) dJ7_fill_53178_20
      · -- 7 ¬ nI N ≤ nI i
        exact absurd ((nI_leI (a := N) (b := i) (by omega) (by omega)).mpr (by omega)) c_1
    | succ n ih_5 =>
      intro i g H locs ls hn h hl
      refine lv_iload_n hx hb dJ7_fill_53178_5 rfl (lv_at hl 1 rfl) ?_
      refine lv_iload_n hx hb dJ7_fill_53178_6 rfl (lv_at hl 0 rfl) ?_
      refine lv_icmp_ge (tgt := 20) hx hb dJ7_fill_53178_7 (by decide) (fun c_2 => ?_) (fun c_2 => ?_)
      · -- 7 nI N ≤ nI i
        exact absurd ((nI_leI (a := N) (b := i) (by omega) (by omega)).mp c_2) (by omega)
      · -- 7 ¬ nI N ≤ nI i
        refine lv_aload_n hx hb dJ7_fill_53178_10 rfl (lv_at hl 2 rfl) ?_
        refine lv_iload_n hx hb dJ7_fill_53178_11 rfl (lv_at hl 1 rfl) ?_
        refine lv_iload_n hx hb dJ7_fill_53178_12 rfl (lv_at hl 3 rfl) ?_
        refine m_iast (ws' := [(a, .inl (G.2 1, N, .inl (upd g i v)))]) C0 h 0 i rfl rfl (by omega) (by assumption) rfl dJ7_fill_53178_13 (fun H locs h => ?_)
        refine lv_iinc (v := nI (i + 1)) (lv' := [(2, .int (nI (i + 1))), (3, .int (nI N)), (0, .ref a), (1, .int v)]) hx hb dJ7_fill_53178_14 hl (k := 1) rfl (nI_1 _) (by decide) rfl (fun ls hl => ?_)
        refine lv_goto (tgt := 5) hx hb dJ7_fill_53178_17 (by decide) ?_
        exact ih_5 (i + 1) (upd g i v) _ _ _ (by omega) h (lv_sub hl [1, 0, 2, 3] rfl)
  exact lp_5 (N - 0) 0 f _ _ _ (by omega) h (lv_sub hl [0, 1, 2, 3] rfl)
end
section
abbrev trF (t : Nat → Nat) : Nat → Option Nat := va_up (va_up (va_up (va_up (fun _ => none) 0 (some (t 0))) 1 (some (t 1))) 2 (some (t 2))) 3 (some (t 3))
abbrev imF (t : Nat → Nat) : Nat → Option Nat := va_up (va_up (fun _ => none) 0 (some (t 8))) 1 (some (t 9))
theorem in4' {x : Int32} (h1 : ¬ x < 0) (h2 : x < 4) : x = 0 ∨ x = 1 ∨ x = 2 ∨ x = 3 := in4 (by grind) (by grind)
def sp_trayL (t : Int32) : Int64 := if 0 ≤ t ∧ t ≤ 3 then -6 else -2
theorem dX11_judge_0 : decode cX11_judge 0 = .ok (.iload_n 1, 1) := by decide +kernel
theorem dX11_judge_1 : decode cX11_judge 1 = .ok (.invokestatic 211, 3) := by decide +kernel
theorem dX11_judge_4 : decode cX11_judge 4 = .ok (.ifCond .eq 16, 3) := by decide +kernel
theorem dX11_judge_7 : decode cX11_judge 7 = .ok (.iload_n 2, 1) := by decide +kernel
theorem dX11_judge_8 : decode cX11_judge 8 = .ok (.ifCond .lt 12, 3) := by decide +kernel
theorem dX11_judge_11 : decode cX11_judge 11 = .ok (.iload_n 2, 1) := by decide +kernel
theorem dX11_judge_12 : decode cX11_judge 12 = .ok (.aload_n 0, 1) := by decide +kernel
theorem dX11_judge_13 : decode cX11_judge 13 = .ok (.getfield 102, 3) := by decide +kernel
theorem dX11_judge_16 : decode cX11_judge 16 = .ok (.arraylength, 1) := by decide +kernel
theorem dX11_judge_17 : decode cX11_judge 17 = .ok (.if_icmp .lt 6, 3) := by decide +kernel
theorem dX11_judge_20 : decode cX11_judge 20 = .ok (.bipush (-2), 2) := by decide +kernel
theorem dX11_judge_22 : decode cX11_judge 22 = .ok (.ireturn, 1) := by decide +kernel
theorem dX11_judge_23 : decode cX11_judge 23 = .ok (.aload_n 0, 1) := by decide +kernel
theorem dX11_judge_24 : decode cX11_judge 24 = .ok (.getfield 78, 3) := by decide +kernel
theorem dX11_judge_27 : decode cX11_judge 27 = .ok (.iload_n 1, 1) := by decide +kernel
theorem dX11_judge_28 : decode cX11_judge 28 = .ok (.aaload, 1) := by decide +kernel
theorem dX11_judge_29 : decode cX11_judge 29 = .ok (.getfield 214, 3) := by decide +kernel
theorem dX11_judge_32 : decode cX11_judge 32 = .ok (.ifCond .ge 6, 3) := by decide +kernel
theorem dX11_judge_35 : decode cX11_judge 35 = .ok (.bipush (-6), 2) := by decide +kernel
theorem dX11_judge_37 : decode cX11_judge 37 = .ok (.ireturn, 1) := by decide +kernel
theorem dX11_walk_0 : decode cX11_walk 0 = .ok (.iload_n 1, 1) := by decide +kernel
theorem dX11_walk_1 : decode cX11_walk 1 = .ok (.invokestatic 211, 3) := by decide +kernel
theorem dX11_walk_4 : decode cX11_walk 4 = .ok (.ifCond .ne 6, 3) := by decide +kernel
theorem dX11_walk_7 : decode cX11_walk 7 = .ok (.bipush (-2), 2) := by decide +kernel
theorem dX11_walk_9 : decode cX11_walk 9 = .ok (.ireturn, 1) := by decide +kernel
theorem dX11_walk_10 : decode cX11_walk 10 = .ok (.aload_n 0, 1) := by decide +kernel
theorem dX11_walk_11 : decode cX11_walk 11 = .ok (.getfield 78, 3) := by decide +kernel
theorem dX11_walk_14 : decode cX11_walk 14 = .ok (.iload_n 1, 1) := by decide +kernel
theorem dX11_walk_15 : decode cX11_walk 15 = .ok (.aaload, 1) := by decide +kernel
theorem dX11_walk_16 : decode cX11_walk 16 = .ok (.getfield 214, 3) := by decide +kernel
theorem dX11_walk_19 : decode cX11_walk 19 = .ok (.ifCond .ge 6, 3) := by decide +kernel
theorem dX11_walk_22 : decode cX11_walk 22 = .ok (.bipush (-6), 2) := by decide +kernel
theorem dX11_walk_24 : decode cX11_walk 24 = .ok (.ireturn, 1) := by decide +kernel
theorem dX11_write_0 : decode cX11_write 0 = .ok (.iload_n 1, 1) := by decide +kernel
theorem dX11_write_1 : decode cX11_write 1 = .ok (.invokestatic 211, 3) := by decide +kernel
theorem dX11_write_4 : decode cX11_write 4 = .ok (.ifCond .ne 7, 3) := by decide +kernel
theorem dX11_write_7 : decode cX11_write 7 = .ok (.ldc2_w 270, 3) := by decide +kernel
theorem dX11_write_10 : decode cX11_write 10 = .ok (.lreturn, 1) := by decide +kernel
theorem dX11_write_11 : decode cX11_write 11 = .ok (.aload_n 0, 1) := by decide +kernel
theorem dX11_write_12 : decode cX11_write 12 = .ok (.getfield 78, 3) := by decide +kernel
theorem dX11_write_15 : decode cX11_write 15 = .ok (.iload_n 1, 1) := by decide +kernel
theorem dX11_write_16 : decode cX11_write 16 = .ok (.aaload, 1) := by decide +kernel
theorem dX11_write_17 : decode cX11_write 17 = .ok (.astore 5, 2) := by decide +kernel
theorem dX11_write_19 : decode cX11_write 19 = .ok (.aload 5, 2) := by decide +kernel
theorem dX11_write_21 : decode cX11_write 21 = .ok (.getfield 214, 3) := by decide +kernel
theorem dX11_write_24 : decode cX11_write 24 = .ok (.ifCond .ge 7, 3) := by decide +kernel
theorem dX11_write_27 : decode cX11_write 27 = .ok (.ldc2_w 318, 3) := by decide +kernel
theorem dX11_write_30 : decode cX11_write 30 = .ok (.lreturn, 1) := by decide +kernel
theorem dX10_lay_0 : decode cX10_lay 0 = .ok (.aload_n 0, 1) := by decide +kernel
theorem dX10_lay_1 : decode cX10_lay 1 = .ok (.getfield 11, 3) := by decide +kernel
theorem dX10_lay_4 : decode cX10_lay 4 = .ok (.lconst 0, 1) := by decide +kernel
theorem dX10_lay_5 : decode cX10_lay 5 = .ok (.invokestatic 19, 3) := by decide +kernel
theorem dX10_lay_8 : decode cX10_lay 8 = .ok (.aload_n 0, 1) := by decide +kernel
theorem dX10_lay_9 : decode cX10_lay 9 = .ok (.iload_n 1, 1) := by decide +kernel
theorem dX10_lay_10 : decode cX10_lay 10 = .ok (.putfield 25, 3) := by decide +kernel
theorem dX10_lay_13 : decode cX10_lay 13 = .ok (.aload_n 0, 1) := by decide +kernel
theorem dX10_lay_14 : decode cX10_lay 14 = .ok (.iload_n 2, 1) := by decide +kernel
theorem dX10_lay_15 : decode cX10_lay 15 = .ok (.putfield 15, 3) := by decide +kernel
theorem dX10_lay_18 : decode cX10_lay 18 = .ok (.return_, 1) := by decide +kernel
theorem dX11_numbers_0 : decode cX11_numbers 0 = .ok (.iload_n 1, 1) := by decide +kernel
theorem dX11_numbers_1 : decode cX11_numbers 1 = .ok (.invokestatic 211, 3) := by decide +kernel
theorem dX11_numbers_4 : decode cX11_numbers 4 = .ok (.ifCond .eq 12, 3) := by decide +kernel
theorem dX11_numbers_7 : decode cX11_numbers 7 = .ok (.iload_n 2, 1) := by decide +kernel
theorem dX11_numbers_8 : decode cX11_numbers 8 = .ok (.ifCond .lt 8, 3) := by decide +kernel
theorem dX11_numbers_11 : decode cX11_numbers 11 = .ok (.iload_n 2, 1) := by decide +kernel
theorem dX11_numbers_12 : decode cX11_numbers 12 = .ok (.iconst 3, 1) := by decide +kernel
theorem dX11_numbers_13 : decode cX11_numbers 13 = .ok (.if_icmp .le 6, 3) := by decide +kernel
theorem dX11_numbers_16 : decode cX11_numbers 16 = .ok (.bipush (-2), 2) := by decide +kernel
theorem dX11_numbers_18 : decode cX11_numbers 18 = .ok (.ireturn, 1) := by decide +kernel
theorem dX11_numbers_19 : decode cX11_numbers 19 = .ok (.iload_n 3, 1) := by decide +kernel
theorem dX11_numbers_20 : decode cX11_numbers 20 = .ok (.ifCond .lt 9, 3) := by decide +kernel
theorem dX11_numbers_23 : decode cX11_numbers 23 = .ok (.iload_n 3, 1) := by decide +kernel
theorem dX11_numbers_24 : decode cX11_numbers 24 = .ok (.bipush 40, 2) := by decide +kernel
theorem dX11_numbers_26 : decode cX11_numbers 26 = .ok (.if_icmp .le 6, 3) := by decide +kernel
theorem dX11_numbers_29 : decode cX11_numbers 29 = .ok (.bipush (-3), 2) := by decide +kernel
theorem dX11_numbers_31 : decode cX11_numbers 31 = .ok (.ireturn, 1) := by decide +kernel
theorem dX11_numbers_32 : decode cX11_numbers 32 = .ok (.aload_n 0, 1) := by decide +kernel
theorem dX11_numbers_33 : decode cX11_numbers 33 = .ok (.getfield 78, 3) := by decide +kernel
theorem dX11_numbers_36 : decode cX11_numbers 36 = .ok (.iload_n 1, 1) := by decide +kernel
theorem dX11_numbers_37 : decode cX11_numbers 37 = .ok (.aaload, 1) := by decide +kernel
theorem dX11_numbers_38 : decode cX11_numbers 38 = .ok (.iload_n 2, 1) := by decide +kernel
theorem dX11_numbers_39 : decode cX11_numbers 39 = .ok (.iload_n 3, 1) := by decide +kernel
theorem dX11_numbers_40 : decode cX11_numbers 40 = .ok (.invokevirtual 314, 3) := by decide +kernel
theorem dX11_numbers_43 : decode cX11_numbers 43 = .ok (.iconst 0, 1) := by decide +kernel
theorem dX11_numbers_44 : decode cX11_numbers 44 = .ok (.ireturn, 1) := by decide +kernel
theorem dX11_restore_0 : decode cX11_restore 0 = .ok (.iload_n 1, 1) := by decide +kernel
theorem dX11_restore_1 : decode cX11_restore 1 = .ok (.ifCond .lt 8, 3) := by decide +kernel
theorem dX11_restore_4 : decode cX11_restore 4 = .ok (.iload_n 1, 1) := by decide +kernel
theorem dX11_restore_5 : decode cX11_restore 5 = .ok (.iconst 2, 1) := by decide +kernel
theorem dX11_restore_6 : decode cX11_restore 6 = .ok (.if_icmp .lt 6, 3) := by decide +kernel
theorem dX11_restore_9 : decode cX11_restore 9 = .ok (.bipush (-2), 2) := by decide +kernel
theorem dX11_restore_11 : decode cX11_restore 11 = .ok (.ireturn, 1) := by decide +kernel
theorem dX11_restore_12 : decode cX11_restore 12 = .ok (.aload_n 0, 1) := by decide +kernel
theorem dX11_restore_13 : decode cX11_restore 13 = .ok (.getfield 87, 3) := by decide +kernel
theorem dX11_restore_16 : decode cX11_restore 16 = .ok (.iload_n 1, 1) := by decide +kernel
theorem dX11_restore_17 : decode cX11_restore 17 = .ok (.baload, 1) := by decide +kernel
theorem dX11_restore_18 : decode cX11_restore 18 = .ok (.ifCond .ne 6, 3) := by decide +kernel
theorem dX11_restore_21 : decode cX11_restore 21 = .ok (.bipush (-5), 2) := by decide +kernel
theorem dX11_restore_23 : decode cX11_restore 23 = .ok (.ireturn, 1) := by decide +kernel
theorem dX5_faultKind_0 : decode cX5_faultKind 0 = .ok (.aload_n 0, 1) := by decide +kernel
theorem dX5_faultKind_1 : decode cX5_faultKind 1 = .ok (.getfield 35, 3) := by decide +kernel
theorem dX5_faultKind_4 : decode cX5_faultKind 4 = .ok (.ireturn, 1) := by decide +kernel
theorem dX5_faultPlace_0 : decode cX5_faultPlace 0 = .ok (.aload_n 0, 1) := by decide +kernel
theorem dX5_faultPlace_1 : decode cX5_faultPlace 1 = .ok (.getfield 15, 3) := by decide +kernel
theorem dX5_faultPlace_4 : decode cX5_faultPlace 4 = .ok (.ireturn, 1) := by decide +kernel
theorem dX11_fault_0 : decode cX11_fault 0 = .ok (.iload_n 1, 1) := by decide +kernel
theorem dX11_fault_1 : decode cX11_fault 1 = .ok (.ifCond .ne 13, 3) := by decide +kernel
theorem dX11_fault_4 : decode cX11_fault 4 = .ok (.aload_n 0, 1) := by decide +kernel
theorem dX11_fault_5 : decode cX11_fault 5 = .ok (.getfield 37, 3) := by decide +kernel
theorem dX11_fault_8 : decode cX11_fault 8 = .ok (.invokevirtual 135, 3) := by decide +kernel
theorem dX11_fault_11 : decode cX11_fault 11 = .ok (.goto 19, 3) := by decide +kernel
theorem dX11_fault_14 : decode cX11_fault 14 = .ok (.iload_n 1, 1) := by decide +kernel
theorem dX11_fault_15 : decode cX11_fault 15 = .ok (.iconst 1, 1) := by decide +kernel
theorem dX11_fault_16 : decode cX11_fault 16 = .ok (.if_icmp .ne 13, 3) := by decide +kernel
theorem dX11_fault_19 : decode cX11_fault 19 = .ok (.aload_n 0, 1) := by decide +kernel
theorem dX11_fault_20 : decode cX11_fault 20 = .ok (.getfield 37, 3) := by decide +kernel
theorem dX11_fault_23 : decode cX11_fault 23 = .ok (.invokevirtual 138, 3) := by decide +kernel
theorem dX11_fault_26 : decode cX11_fault 26 = .ok (.goto 4, 3) := by decide +kernel
theorem dX11_fault_29 : decode cX11_fault 29 = .ok (.iconst (-1), 1) := by decide +kernel
theorem dX11_fault_30 : decode cX11_fault 30 = .ok (.ireturn, 1) := by decide +kernel
theorem dX5_fed_0 : decode cX5_fed 0 = .ok (.aload_n 0, 1) := by decide +kernel
theorem dX5_fed_1 : decode cX5_fed 1 = .ok (.getfield 32, 3) := by decide +kernel
theorem dX5_fed_4 : decode cX5_fed 4 = .ok (.ireturn, 1) := by decide +kernel
theorem dX5_hasRoom_0 : decode cX5_hasRoom 0 = .ok (.aload_n 0, 1) := by decide +kernel
theorem dX5_hasRoom_1 : decode cX5_hasRoom 1 = .ok (.getfield 32, 3) := by decide +kernel
theorem dX5_hasRoom_4 : decode cX5_hasRoom 4 = .ok (.bipush 20, 2) := by decide +kernel
theorem dX5_hasRoom_6 : decode cX5_hasRoom 6 = .ok (.iadd, 1) := by decide +kernel
theorem dX5_hasRoom_7 : decode cX5_hasRoom 7 = .ok (.sipush 900, 3) := by decide +kernel
theorem dX5_hasRoom_10 : decode cX5_hasRoom 10 = .ok (.if_icmp .gt 7, 3) := by decide +kernel
theorem dX5_hasRoom_13 : decode cX5_hasRoom 13 = .ok (.iconst 1, 1) := by decide +kernel
theorem dX5_hasRoom_14 : decode cX5_hasRoom 14 = .ok (.goto 4, 3) := by decide +kernel
theorem dX5_hasRoom_18 : decode cX5_hasRoom 18 = .ok (.ireturn, 1) := by decide +kernel
theorem dX5_put_0 : decode cX5_put 0 = .ok (.bipush 24, 2) := by decide +kernel
theorem dX5_put_2 : decode cX5_put 2 = .ok (.istore_n 2, 1) := by decide +kernel
theorem dX5_put_3 : decode cX5_put 3 = .ok (.iload_n 2, 1) := by decide +kernel
theorem dX5_put_4 : decode cX5_put 4 = .ok (.ifCond .lt 42, 3) := by decide +kernel
theorem dX5_put_7 : decode cX5_put 7 = .ok (.aload_n 0, 1) := by decide +kernel
theorem dX5_put_8 : decode cX5_put 8 = .ok (.getfield 32, 3) := by decide +kernel
theorem dX5_put_11 : decode cX5_put 11 = .ok (.sipush 900, 3) := by decide +kernel
theorem dX5_put_14 : decode cX5_put 14 = .ok (.if_icmp .ge 32, 3) := by decide +kernel
theorem dX5_put_17 : decode cX5_put 17 = .ok (.aload_n 0, 1) := by decide +kernel
theorem dX5_put_18 : decode cX5_put 18 = .ok (.getfield 9, 3) := by decide +kernel
theorem dX5_put_21 : decode cX5_put 21 = .ok (.aload_n 0, 1) := by decide +kernel
theorem dX5_put_22 : decode cX5_put 22 = .ok (.getfield 32, 3) := by decide +kernel
theorem dX5_put_25 : decode cX5_put 25 = .ok (.iload_n 1, 1) := by decide +kernel
theorem dX5_put_26 : decode cX5_put 26 = .ok (.iload_n 2, 1) := by decide +kernel
theorem dX5_put_27 : decode cX5_put 27 = .ok (.ishr, 1) := by decide +kernel
theorem dX5_put_28 : decode cX5_put 28 = .ok (.i2b, 1) := by decide +kernel
theorem dX5_put_29 : decode cX5_put 29 = .ok (.bastore, 1) := by decide +kernel
theorem dX5_put_30 : decode cX5_put 30 = .ok (.aload_n 0, 1) := by decide +kernel
theorem dX5_put_31 : decode cX5_put 31 = .ok (.dup, 1) := by decide +kernel
theorem dX5_put_32 : decode cX5_put 32 = .ok (.getfield 32, 3) := by decide +kernel
theorem dX5_put_35 : decode cX5_put 35 = .ok (.iconst 1, 1) := by decide +kernel
theorem dX5_put_36 : decode cX5_put 36 = .ok (.iadd, 1) := by decide +kernel
theorem dX5_put_37 : decode cX5_put 37 = .ok (.putfield 32, 3) := by decide +kernel
theorem dX5_put_40 : decode cX5_put 40 = .ok (.iinc 2 (-8), 3) := by decide +kernel
theorem dX5_put_43 : decode cX5_put 43 = .ok (.goto (-40), 3) := by decide +kernel
theorem dX5_put_46 : decode cX5_put 46 = .ok (.return_, 1) := by decide +kernel
theorem dX11_feed_0 : decode cX11_feed 0 = .ok (.aload_n 0, 1) := by decide +kernel
theorem dX11_feed_1 : decode cX11_feed 1 = .ok (.getfield 37, 3) := by decide +kernel
theorem dX11_feed_4 : decode cX11_feed 4 = .ok (.invokevirtual 109, 3) := by decide +kernel
theorem dX11_feed_7 : decode cX11_feed 7 = .ok (.ifCond .ne 6, 3) := by decide +kernel
theorem dX11_feed_13 : decode cX11_feed 13 = .ok (.aload_n 0, 1) := by decide +kernel
theorem dX11_feed_14 : decode cX11_feed 14 = .ok (.getfield 37, 3) := by decide +kernel
theorem dX11_feed_17 : decode cX11_feed 17 = .ok (.iload_n 1, 1) := by decide +kernel
theorem dX11_feed_18 : decode cX11_feed 18 = .ok (.invokevirtual 113, 3) := by decide +kernel
theorem dX11_feed_21 : decode cX11_feed 21 = .ok (.aload_n 0, 1) := by decide +kernel
theorem dX11_feed_22 : decode cX11_feed 22 = .ok (.getfield 37, 3) := by decide +kernel
theorem dX11_feed_25 : decode cX11_feed 25 = .ok (.iload_n 2, 1) := by decide +kernel
theorem dX11_feed_26 : decode cX11_feed 26 = .ok (.invokevirtual 113, 3) := by decide +kernel
theorem dX11_feed_29 : decode cX11_feed 29 = .ok (.aload_n 0, 1) := by decide +kernel
theorem dX11_feed_30 : decode cX11_feed 30 = .ok (.getfield 37, 3) := by decide +kernel
theorem dX11_feed_33 : decode cX11_feed 33 = .ok (.iload_n 3, 1) := by decide +kernel
theorem dX11_feed_34 : decode cX11_feed 34 = .ok (.invokevirtual 113, 3) := by decide +kernel
theorem dX11_feed_37 : decode cX11_feed 37 = .ok (.aload_n 0, 1) := by decide +kernel
theorem dX11_feed_38 : decode cX11_feed 38 = .ok (.getfield 37, 3) := by decide +kernel
theorem dX11_feed_41 : decode cX11_feed 41 = .ok (.iload 4, 2) := by decide +kernel
theorem dX11_feed_43 : decode cX11_feed 43 = .ok (.invokevirtual 113, 3) := by decide +kernel
theorem dX11_feed_46 : decode cX11_feed 46 = .ok (.aload_n 0, 1) := by decide +kernel
theorem dX11_feed_47 : decode cX11_feed 47 = .ok (.getfield 37, 3) := by decide +kernel
theorem dX11_feed_50 : decode cX11_feed 50 = .ok (.iload 5, 2) := by decide +kernel
theorem dX11_feed_52 : decode cX11_feed 52 = .ok (.invokevirtual 113, 3) := by decide +kernel
theorem dX11_feed_55 : decode cX11_feed 55 = .ok (.aload_n 0, 1) := by decide +kernel
theorem dX11_feed_56 : decode cX11_feed 56 = .ok (.getfield 37, 3) := by decide +kernel
theorem dX11_feed_59 : decode cX11_feed 59 = .ok (.invokevirtual 117, 3) := by decide +kernel
theorem dX11_feed_62 : decode cX11_feed 62 = .ok (.ireturn, 1) := by decide +kernel
set_option maxHeartbeats 4000000 in
set_option maxRecDepth 100000 in
theorem c_X11_judge (l : Launch) (G : GG) (x : Nat) (r : Nat → Nat) (t : Nat → Nat) (p0 : Int32) (p1 : Int32) : Mt l yX11_judge cX11_judge 3 (some .int) 3 0 0 G [.ref x, .int p0, .int p1] [(x, .inr (11, [.ref (r 0), .ref (r 1), .ref (r 2), .ref (r 3), .ref (r 4), .ref (r 5), .ref (r 6), .ref (r 7), .ref (r 8), .ref (r 9), .ref (r 10), .ref (r 11), .ref (r 12), .ref (r 13), .ref (r 14), .ref (r 15), .int 0, .int 0, .int 0])), (r 9, .inl (G.2 6, 4, .inr (.inr (.inr (.inr (trF t)))))), (t 0, .inr (10, [.ref (t 4), .int 0, .int (-1)])), (t 1, .inr (10, [.ref (t 5), .int 0, .int (-1)])), (t 2, .inr (10, [.ref (t 6), .int 0, .int (-1)])), (t 3, .inr (10, [.ref (t 7), .int 0, .int (-1)])), (r 14, .inl (G.2 1, 4, .inl (fun _ => 0)))] (Ri (S := Unit) G (fun r _ => r = sp_judge p0 p1) (fun _ => [])) := by
  refine Mt.start (by decide) (Nat.le_of_ble_eq_true rfl) ?_
  intro p e s m below meth c A ls C0 hini h hl
  have C0 : Cx p s m _ meth c RX11 cX11_judge 3 (some .int) := C0
  obtain ⟨hx, hb, hml, hown, hts, -⟩ := id C0
  have hl : lv_has ls 3 [(0, .ref x), (1, .int p0), (2, .int p1)] := hl
  refine lv_iload_n hx hb dX11_judge_0 rfl (lv_at hl 1 rfl) ?_
  refine m_cli (wr := [(x, .inr (11, [.ref (r 0), .ref (r 1), .ref (r 2), .ref (r 3), .ref (r 4), .ref (r 5), .ref (r 6), .ref (r 7), .ref (r 8), .ref (r 9), .ref (r 10), .ref (r 11), .ref (r 12), .ref (r 13), .ref (r 14), .ref (r 15), .int 0, .int 0, .int 0])), (r 9, .inl (G.2 6, 4, .inr (.inr (.inr (.inr (trF t)))))), (t 0, .inr (10, [.ref (t 4), .int 0, .int (-1)])), (t 1, .inr (10, [.ref (t 5), .int 0, .int (-1)])), (t 2, .inr (10, [.ref (t 6), .int 0, .int (-1)])), (t 3, .inr (10, [.ref (t 7), .int 0, .int (-1)])), (r 14, .inl (G.2 1, 4, .inl (fun _ => 0)))]) h (m_rS (As := [.int p0]) (rest := []) C0 h (c_X11_isTray l G p0) k_X11_isTray q_998 q_997 [] (by decide) rfl hl.1 rfl rfl (Nat.le_of_ble_eq_true rfl) dX11_judge_1 ⟨Nat.le_of_ble_eq_true rfl, Nat.le_of_ble_eq_true rfl⟩ ⟨Nat.le_of_ble_eq_true rfl, Nat.le_of_ble_eq_true rfl⟩) [] [0, 1, 2, 3, 4, 5, 6] rfl rfl (by decide) (by decide) (fun r_3 u_1 H locs hp_2 h => ?_)
  have h : Wd G A s H locs [(x, .inr (11, [.ref (r 0), .ref (r 1), .ref (r 2), .ref (r 3), .ref (r 4), .ref (r 5), .ref (r 6), .ref (r 7), .ref (r 8), .ref (r 9), .ref (r 10), .ref (r 11), .ref (r 12), .ref (r 13), .ref (r 14), .ref (r 15), .int 0, .int 0, .int 0])), (r 9, .inl (G.2 6, 4, .inr (.inr (.inr (.inr (trF t)))))), (t 0, .inr (10, [.ref (t 4), .int 0, .int (-1)])), (t 1, .inr (10, [.ref (t 5), .int 0, .int (-1)])), (t 2, .inr (10, [.ref (t 6), .int 0, .int (-1)])), (t 3, .inr (10, [.ref (t 7), .int 0, .int (-1)])), (r 14, .inl (G.2 1, 4, .inl (fun _ => 0)))] := h
  rcases hp_2 with ⟨rfl, hp_2w⟩ | ⟨rfl, hp_2w⟩
  · -- answer 1
    refine lv_if_eq (tgt := 20) hx hb dX11_judge_4 (by decide) (fun c_4 => ?_) (fun c_4 => ?_)
    · -- 4 1 = 0
      exact absurd c_4 (by decide)
    · -- 4 ¬ 1 = 0
      refine lv_iload_n hx hb dX11_judge_7 rfl (lv_at hl 2 rfl) ?_
      refine lv_if_lt (tgt := 20) hx hb dX11_judge_8 (by decide) (fun c_5 => ?_) (fun c_5 => ?_)
      · -- 8 p1 < 0
        refine lv_bipush (v := (-2)) hx hb dX11_judge_20 (by decide) ?_
        exact m_iret () C0 h [] (by decide) rfl (by unfold sp_judge; grind) (Nat.le_of_ble_eq_true rfl) (Nat.le_of_ble_eq_true rfl) dX11_judge_22
      · -- 8 ¬ p1 < 0
        refine lv_iload_n hx hb dX11_judge_11 rfl (lv_at hl 2 rfl) ?_
        refine lv_aload_n hx hb dX11_judge_12 rfl (lv_at hl 0 rfl) ?_
        refine g_X11_walked C0 h 0 q_529 rfl rfl dX11_judge_13 ?_
        refine m_alen (v := 4) C0 h 6 1 rfl rfl rfl dX11_judge_16 ?_
        refine lv_icmp_lt (tgt := 23) hx hb dX11_judge_17 (by decide) (fun c_6 => ?_) (fun c_6 => ?_)
        · -- 17 p1 < 4
          refine lv_aload_n hx hb dX11_judge_23 rfl (lv_at hl 0 rfl) ?_
          refine g_X11_trays C0 h 0 q_524 rfl rfl dX11_judge_24 ?_
          refine lv_iload_n hx hb dX11_judge_27 rfl (lv_at hl 1 rfl) ?_
          rcases (in4 hp_2w.1 hp_2w.2) with rfl | rfl | rfl | rfl
          · -- p0 = 0
            refine m_aald C0 h 1 6 0 rfl rfl (by decide) (by decide) (by decide) dX11_judge_28 ?_
            refine W.eq (g2 := F0 m 29 ls [.ref (t 0)]) rfl ?_
            refine g_X10_size C0 h 2 q_502 rfl rfl dX11_judge_29 ?_
            refine lv_if_ge (tgt := 38) hx hb dX11_judge_32 (by decide) (fun c_7 => ?_) (fun c_7 => ?_)
            · -- 32 0 ≤ (-1)
              exact absurd c_7 (by decide)
            · -- 32 ¬ 0 ≤ (-1)
              refine lv_bipush (v := (-6)) hx hb dX11_judge_35 (by decide) ?_
              exact m_iret () C0 h [] (by decide) rfl (by unfold sp_judge; grind) (Nat.le_of_ble_eq_true rfl) (Nat.le_of_ble_eq_true rfl) dX11_judge_37
          · -- p0 = 1
            refine m_aald C0 h 1 6 1 rfl rfl (by decide) (by decide) (by decide) dX11_judge_28 ?_
            refine W.eq (g2 := F0 m 29 ls [.ref (t 1)]) rfl ?_
            refine g_X10_size C0 h 3 q_502 rfl rfl dX11_judge_29 ?_
            refine lv_if_ge (tgt := 38) hx hb dX11_judge_32 (by decide) (fun c_8 => ?_) (fun c_8 => ?_)
            · -- 32 0 ≤ (-1)
              exact absurd c_8 (by decide)
            · -- 32 ¬ 0 ≤ (-1)
              refine lv_bipush (v := (-6)) hx hb dX11_judge_35 (by decide) ?_
              exact m_iret () C0 h [] (by decide) rfl (by unfold sp_judge; grind) (Nat.le_of_ble_eq_true rfl) (Nat.le_of_ble_eq_true rfl) dX11_judge_37
          · -- p0 = 2
            refine m_aald C0 h 1 6 2 rfl rfl (by decide) (by decide) (by decide) dX11_judge_28 ?_
            refine W.eq (g2 := F0 m 29 ls [.ref (t 2)]) rfl ?_
            refine g_X10_size C0 h 4 q_502 rfl rfl dX11_judge_29 ?_
            refine lv_if_ge (tgt := 38) hx hb dX11_judge_32 (by decide) (fun c_9 => ?_) (fun c_9 => ?_)
            · -- 32 0 ≤ (-1)
              exact absurd c_9 (by decide)
            · -- 32 ¬ 0 ≤ (-1)
              refine lv_bipush (v := (-6)) hx hb dX11_judge_35 (by decide) ?_
              exact m_iret () C0 h [] (by decide) rfl (by unfold sp_judge; grind) (Nat.le_of_ble_eq_true rfl) (Nat.le_of_ble_eq_true rfl) dX11_judge_37
          · -- p0 = 3
            refine m_aald C0 h 1 6 3 rfl rfl (by decide) (by decide) (by decide) dX11_judge_28 ?_
            refine W.eq (g2 := F0 m 29 ls [.ref (t 3)]) rfl ?_
            refine g_X10_size C0 h 5 q_502 rfl rfl dX11_judge_29 ?_
            refine lv_if_ge (tgt := 38) hx hb dX11_judge_32 (by decide) (fun c_10 => ?_) (fun c_10 => ?_)
            · -- 32 0 ≤ (-1)
              exact absurd c_10 (by decide)
            · -- 32 ¬ 0 ≤ (-1)
              refine lv_bipush (v := (-6)) hx hb dX11_judge_35 (by decide) ?_
              exact m_iret () C0 h [] (by decide) rfl (by unfold sp_judge; grind) (Nat.le_of_ble_eq_true rfl) (Nat.le_of_ble_eq_true rfl) dX11_judge_37
        · -- 17 ¬ p1 < 4
          refine lv_bipush (v := (-2)) hx hb dX11_judge_20 (by decide) ?_
          exact m_iret () C0 h [] (by decide) rfl (by unfold sp_judge; grind) (Nat.le_of_ble_eq_true rfl) (Nat.le_of_ble_eq_true rfl) dX11_judge_22
  · -- answer 0
    refine lv_if_eq (tgt := 20) hx hb dX11_judge_4 (by decide) (fun c_11 => ?_) (fun c_11 => ?_)
    · -- 4 0 = 0
      refine lv_bipush (v := (-2)) hx hb dX11_judge_20 (by decide) ?_
      exact m_iret () C0 h [] (by decide) rfl (by unfold sp_judge; grind) (Nat.le_of_ble_eq_true rfl) (Nat.le_of_ble_eq_true rfl) dX11_judge_22
    · -- 4 ¬ 0 = 0
      exact absurd c_11 (by decide)
set_option maxHeartbeats 4000000 in
set_option maxRecDepth 100000 in
theorem c_X11_walk (l : Launch) (G : GG) (x : Nat) (r : Nat → Nat) (t : Nat → Nat) (p0 : Int32) : Mt l yX11_walk cX11_walk 3 (some .int) 3 0 0 G [.ref x, .int p0] [(x, .inr (11, [.ref (r 0), .ref (r 1), .ref (r 2), .ref (r 3), .ref (r 4), .ref (r 5), .ref (r 6), .ref (r 7), .ref (r 8), .ref (r 9), .ref (r 10), .ref (r 11), .ref (r 12), .ref (r 13), .ref (r 14), .ref (r 15), .int 0, .int 0, .int 0])), (r 9, .inl (G.2 6, 4, .inr (.inr (.inr (.inr (trF t)))))), (t 0, .inr (10, [.ref (t 4), .int 0, .int (-1)])), (t 1, .inr (10, [.ref (t 5), .int 0, .int (-1)])), (t 2, .inr (10, [.ref (t 6), .int 0, .int (-1)])), (t 3, .inr (10, [.ref (t 7), .int 0, .int (-1)]))] (Ri (S := Unit) G (fun r _ => r = sp_tray p0) (fun _ => [])) := by
  refine Mt.start (by decide) (Nat.le_of_ble_eq_true rfl) ?_
  intro p e s m below meth c A ls C0 hini h hl
  have C0 : Cx p s m _ meth c RX11 cX11_walk 3 (some .int) := C0
  obtain ⟨hx, hb, hml, hown, hts, -⟩ := id C0
  have hl : lv_has ls 3 [(0, .ref x), (1, .int p0)] := hl
  refine lv_iload_n hx hb dX11_walk_0 rfl (lv_at hl 1 rfl) ?_
  refine m_cli (wr := [(x, .inr (11, [.ref (r 0), .ref (r 1), .ref (r 2), .ref (r 3), .ref (r 4), .ref (r 5), .ref (r 6), .ref (r 7), .ref (r 8), .ref (r 9), .ref (r 10), .ref (r 11), .ref (r 12), .ref (r 13), .ref (r 14), .ref (r 15), .int 0, .int 0, .int 0])), (r 9, .inl (G.2 6, 4, .inr (.inr (.inr (.inr (trF t)))))), (t 0, .inr (10, [.ref (t 4), .int 0, .int (-1)])), (t 1, .inr (10, [.ref (t 5), .int 0, .int (-1)])), (t 2, .inr (10, [.ref (t 6), .int 0, .int (-1)])), (t 3, .inr (10, [.ref (t 7), .int 0, .int (-1)]))]) h (m_rS (As := [.int p0]) (rest := []) C0 h (c_X11_isTray l G p0) k_X11_isTray q_998 q_997 [] (by decide) rfl hl.1 rfl rfl (Nat.le_of_ble_eq_true rfl) dX11_walk_1 ⟨Nat.le_of_ble_eq_true rfl, Nat.le_of_ble_eq_true rfl⟩ ⟨Nat.le_of_ble_eq_true rfl, Nat.le_of_ble_eq_true rfl⟩) [] [0, 1, 2, 3, 4, 5] rfl rfl (by decide) (by decide) (fun r_3 u_1 H locs hp_2 h => ?_)
  have h : Wd G A s H locs [(x, .inr (11, [.ref (r 0), .ref (r 1), .ref (r 2), .ref (r 3), .ref (r 4), .ref (r 5), .ref (r 6), .ref (r 7), .ref (r 8), .ref (r 9), .ref (r 10), .ref (r 11), .ref (r 12), .ref (r 13), .ref (r 14), .ref (r 15), .int 0, .int 0, .int 0])), (r 9, .inl (G.2 6, 4, .inr (.inr (.inr (.inr (trF t)))))), (t 0, .inr (10, [.ref (t 4), .int 0, .int (-1)])), (t 1, .inr (10, [.ref (t 5), .int 0, .int (-1)])), (t 2, .inr (10, [.ref (t 6), .int 0, .int (-1)])), (t 3, .inr (10, [.ref (t 7), .int 0, .int (-1)]))] := h
  rcases hp_2 with ⟨rfl, hp_2w⟩ | ⟨rfl, hp_2w⟩
  · -- answer 1
    refine lv_if_ne (tgt := 10) hx hb dX11_walk_4 (by decide) (fun c_4 => ?_) (fun c_4 => ?_)
    · -- 4 ¬ 1 = 0
      refine lv_aload_n hx hb dX11_walk_10 rfl (lv_at hl 0 rfl) ?_
      refine g_X11_trays C0 h 0 q_524 rfl rfl dX11_walk_11 ?_
      refine lv_iload_n hx hb dX11_walk_14 rfl (lv_at hl 1 rfl) ?_
      rcases (in4 hp_2w.1 hp_2w.2) with rfl | rfl | rfl | rfl
      · -- p0 = 0
        refine m_aald C0 h 1 6 0 rfl rfl (by decide) (by decide) (by decide) dX11_walk_15 ?_
        refine W.eq (g2 := F0 m 16 ls [.ref (t 0)]) rfl ?_
        refine g_X10_size C0 h 2 q_502 rfl rfl dX11_walk_16 ?_
        refine lv_if_ge (tgt := 25) hx hb dX11_walk_19 (by decide) (fun c_5 => ?_) (fun c_5 => ?_)
        · -- 19 0 ≤ (-1)
          exact absurd c_5 (by decide)
        · -- 19 ¬ 0 ≤ (-1)
          refine lv_bipush (v := (-6)) hx hb dX11_walk_22 (by decide) ?_
          exact m_iret () C0 h [] (by decide) rfl (by unfold sp_tray; grind) (Nat.le_of_ble_eq_true rfl) (Nat.le_of_ble_eq_true rfl) dX11_walk_24
      · -- p0 = 1
        refine m_aald C0 h 1 6 1 rfl rfl (by decide) (by decide) (by decide) dX11_walk_15 ?_
        refine W.eq (g2 := F0 m 16 ls [.ref (t 1)]) rfl ?_
        refine g_X10_size C0 h 3 q_502 rfl rfl dX11_walk_16 ?_
        refine lv_if_ge (tgt := 25) hx hb dX11_walk_19 (by decide) (fun c_6 => ?_) (fun c_6 => ?_)
        · -- 19 0 ≤ (-1)
          exact absurd c_6 (by decide)
        · -- 19 ¬ 0 ≤ (-1)
          refine lv_bipush (v := (-6)) hx hb dX11_walk_22 (by decide) ?_
          exact m_iret () C0 h [] (by decide) rfl (by unfold sp_tray; grind) (Nat.le_of_ble_eq_true rfl) (Nat.le_of_ble_eq_true rfl) dX11_walk_24
      · -- p0 = 2
        refine m_aald C0 h 1 6 2 rfl rfl (by decide) (by decide) (by decide) dX11_walk_15 ?_
        refine W.eq (g2 := F0 m 16 ls [.ref (t 2)]) rfl ?_
        refine g_X10_size C0 h 4 q_502 rfl rfl dX11_walk_16 ?_
        refine lv_if_ge (tgt := 25) hx hb dX11_walk_19 (by decide) (fun c_7 => ?_) (fun c_7 => ?_)
        · -- 19 0 ≤ (-1)
          exact absurd c_7 (by decide)
        · -- 19 ¬ 0 ≤ (-1)
          refine lv_bipush (v := (-6)) hx hb dX11_walk_22 (by decide) ?_
          exact m_iret () C0 h [] (by decide) rfl (by unfold sp_tray; grind) (Nat.le_of_ble_eq_true rfl) (Nat.le_of_ble_eq_true rfl) dX11_walk_24
      · -- p0 = 3
        refine m_aald C0 h 1 6 3 rfl rfl (by decide) (by decide) (by decide) dX11_walk_15 ?_
        refine W.eq (g2 := F0 m 16 ls [.ref (t 3)]) rfl ?_
        refine g_X10_size C0 h 5 q_502 rfl rfl dX11_walk_16 ?_
        refine lv_if_ge (tgt := 25) hx hb dX11_walk_19 (by decide) (fun c_8 => ?_) (fun c_8 => ?_)
        · -- 19 0 ≤ (-1)
          exact absurd c_8 (by decide)
        · -- 19 ¬ 0 ≤ (-1)
          refine lv_bipush (v := (-6)) hx hb dX11_walk_22 (by decide) ?_
          exact m_iret () C0 h [] (by decide) rfl (by unfold sp_tray; grind) (Nat.le_of_ble_eq_true rfl) (Nat.le_of_ble_eq_true rfl) dX11_walk_24
    · -- 4 1 = 0
      exact absurd c_4 (by decide)
  · -- answer 0
    refine lv_if_ne (tgt := 10) hx hb dX11_walk_4 (by decide) (fun c_9 => ?_) (fun c_9 => ?_)
    · -- 4 ¬ 0 = 0
      exact absurd c_9 (by decide)
    · -- 4 0 = 0
      refine lv_bipush (v := (-2)) hx hb dX11_walk_7 (by decide) ?_
      exact m_iret () C0 h [] (by decide) rfl (by unfold sp_tray; grind) (Nat.le_of_ble_eq_true rfl) (Nat.le_of_ble_eq_true rfl) dX11_walk_9
set_option maxHeartbeats 4000000 in
set_option maxRecDepth 100000 in
theorem c_X11_write (l : Launch) (G : GG) (x : Nat) (r : Nat → Nat) (t : Nat → Nat) (p0 : Int32) (p1 : Int32) (p2 : Int64) : Mt l yX11_write cX11_write 6 (some .long) 3 0 0 G [.ref x, .int p0, .int p1, .long p2] [(x, .inr (11, [.ref (r 0), .ref (r 1), .ref (r 2), .ref (r 3), .ref (r 4), .ref (r 5), .ref (r 6), .ref (r 7), .ref (r 8), .ref (r 9), .ref (r 10), .ref (r 11), .ref (r 12), .ref (r 13), .ref (r 14), .ref (r 15), .int 0, .int 0, .int 0])), (r 9, .inl (G.2 6, 4, .inr (.inr (.inr (.inr (trF t)))))), (t 0, .inr (10, [.ref (t 4), .int 0, .int (-1)])), (t 1, .inr (10, [.ref (t 5), .int 0, .int (-1)])), (t 2, .inr (10, [.ref (t 6), .int 0, .int (-1)])), (t 3, .inr (10, [.ref (t 7), .int 0, .int (-1)]))] (Rl (S := Unit) G (fun r _ => r = sp_trayL p0) (fun _ => [])) := by
  refine Mt.start (by decide) (Nat.le_of_ble_eq_true rfl) ?_
  intro p e s m below meth c A ls C0 hini h hl
  have C0 : Cx p s m _ meth c RX11 cX11_write 6 (some .long) := C0
  obtain ⟨hx, hb, hml, hown, hts, -⟩ := id C0
  have hl : lv_has ls 6 [(0, .ref x), (1, .int p0), (2, .int p1), (3, .long p2)] := hl
  refine lv_iload_n hx hb dX11_write_0 rfl (lv_at hl 1 rfl) ?_
  refine m_cli (wr := [(x, .inr (11, [.ref (r 0), .ref (r 1), .ref (r 2), .ref (r 3), .ref (r 4), .ref (r 5), .ref (r 6), .ref (r 7), .ref (r 8), .ref (r 9), .ref (r 10), .ref (r 11), .ref (r 12), .ref (r 13), .ref (r 14), .ref (r 15), .int 0, .int 0, .int 0])), (r 9, .inl (G.2 6, 4, .inr (.inr (.inr (.inr (trF t)))))), (t 0, .inr (10, [.ref (t 4), .int 0, .int (-1)])), (t 1, .inr (10, [.ref (t 5), .int 0, .int (-1)])), (t 2, .inr (10, [.ref (t 6), .int 0, .int (-1)])), (t 3, .inr (10, [.ref (t 7), .int 0, .int (-1)]))]) h (m_rS (As := [.int p0]) (rest := []) C0 h (c_X11_isTray l G p0) k_X11_isTray q_998 q_997 [] (by decide) rfl hl.1 rfl rfl (Nat.le_of_ble_eq_true rfl) dX11_write_1 ⟨Nat.le_of_ble_eq_true rfl, Nat.le_of_ble_eq_true rfl⟩ ⟨Nat.le_of_ble_eq_true rfl, Nat.le_of_ble_eq_true rfl⟩) [] [0, 1, 2, 3, 4, 5] rfl rfl (by decide) (by decide) (fun r_3 u_1 H locs hp_2 h => ?_)
  have h : Wd G A s H locs [(x, .inr (11, [.ref (r 0), .ref (r 1), .ref (r 2), .ref (r 3), .ref (r 4), .ref (r 5), .ref (r 6), .ref (r 7), .ref (r 8), .ref (r 9), .ref (r 10), .ref (r 11), .ref (r 12), .ref (r 13), .ref (r 14), .ref (r 15), .int 0, .int 0, .int 0])), (r 9, .inl (G.2 6, 4, .inr (.inr (.inr (.inr (trF t)))))), (t 0, .inr (10, [.ref (t 4), .int 0, .int (-1)])), (t 1, .inr (10, [.ref (t 5), .int 0, .int (-1)])), (t 2, .inr (10, [.ref (t 6), .int 0, .int (-1)])), (t 3, .inr (10, [.ref (t 7), .int 0, .int (-1)]))] := h
  rcases hp_2 with ⟨rfl, hp_2w⟩ | ⟨rfl, hp_2w⟩
  · -- answer 1
    refine lv_if_ne (tgt := 11) hx hb dX11_write_4 (by decide) (fun c_4 => ?_) (fun c_4 => ?_)
    · -- 4 ¬ 1 = 0
      refine lv_aload_n hx hb dX11_write_11 rfl (lv_at hl 0 rfl) ?_
      refine g_X11_trays C0 h 0 q_524 rfl rfl dX11_write_12 ?_
      refine lv_iload_n hx hb dX11_write_15 rfl (lv_at hl 1 rfl) ?_
      rcases (in4 hp_2w.1 hp_2w.2) with rfl | rfl | rfl | rfl
      · -- p0 = 0
        refine m_aald C0 h 1 6 0 rfl rfl (by decide) (by decide) (by decide) dX11_write_16 ?_
        refine W.eq (g2 := F0 m 17 ls [.ref (t 0)]) rfl ?_
        refine lv_astore (lv' := [(5, .ref (t 0)), (0, .ref x), (1, .int 0), (2, .int p1), (3, .long p2)]) hx hb dX11_write_17 hl (by decide) rfl (fun ls hl => ?_)
        refine lv_aload hx hb dX11_write_19 (lv_at hl 0 rfl) ?_
        refine g_X10_size C0 h 2 q_502 rfl rfl dX11_write_21 ?_
        refine lv_if_ge (tgt := 31) hx hb dX11_write_24 (by decide) (fun c_5 => ?_) (fun c_5 => ?_)
        · -- 24 0 ≤ (-1)
          exact absurd c_5 (by decide)
        · -- 24 ¬ 0 ≤ (-1)
          refine lv_ldc2 (v := (-6)) hx hb hown (hts _ q_1398) dX11_write_27 ?_
          exact m_lret () C0 h [] (by decide) rfl (by unfold sp_trayL; grind) (Nat.le_of_ble_eq_true rfl) (Nat.le_of_ble_eq_true rfl) dX11_write_30
      · -- p0 = 1
        refine m_aald C0 h 1 6 1 rfl rfl (by decide) (by decide) (by decide) dX11_write_16 ?_
        refine W.eq (g2 := F0 m 17 ls [.ref (t 1)]) rfl ?_
        refine lv_astore (lv' := [(5, .ref (t 1)), (0, .ref x), (1, .int 1), (2, .int p1), (3, .long p2)]) hx hb dX11_write_17 hl (by decide) rfl (fun ls hl => ?_)
        refine lv_aload hx hb dX11_write_19 (lv_at hl 0 rfl) ?_
        refine g_X10_size C0 h 3 q_502 rfl rfl dX11_write_21 ?_
        refine lv_if_ge (tgt := 31) hx hb dX11_write_24 (by decide) (fun c_6 => ?_) (fun c_6 => ?_)
        · -- 24 0 ≤ (-1)
          exact absurd c_6 (by decide)
        · -- 24 ¬ 0 ≤ (-1)
          refine lv_ldc2 (v := (-6)) hx hb hown (hts _ q_1398) dX11_write_27 ?_
          exact m_lret () C0 h [] (by decide) rfl (by unfold sp_trayL; grind) (Nat.le_of_ble_eq_true rfl) (Nat.le_of_ble_eq_true rfl) dX11_write_30
      · -- p0 = 2
        refine m_aald C0 h 1 6 2 rfl rfl (by decide) (by decide) (by decide) dX11_write_16 ?_
        refine W.eq (g2 := F0 m 17 ls [.ref (t 2)]) rfl ?_
        refine lv_astore (lv' := [(5, .ref (t 2)), (0, .ref x), (1, .int 2), (2, .int p1), (3, .long p2)]) hx hb dX11_write_17 hl (by decide) rfl (fun ls hl => ?_)
        refine lv_aload hx hb dX11_write_19 (lv_at hl 0 rfl) ?_
        refine g_X10_size C0 h 4 q_502 rfl rfl dX11_write_21 ?_
        refine lv_if_ge (tgt := 31) hx hb dX11_write_24 (by decide) (fun c_7 => ?_) (fun c_7 => ?_)
        · -- 24 0 ≤ (-1)
          exact absurd c_7 (by decide)
        · -- 24 ¬ 0 ≤ (-1)
          refine lv_ldc2 (v := (-6)) hx hb hown (hts _ q_1398) dX11_write_27 ?_
          exact m_lret () C0 h [] (by decide) rfl (by unfold sp_trayL; grind) (Nat.le_of_ble_eq_true rfl) (Nat.le_of_ble_eq_true rfl) dX11_write_30
      · -- p0 = 3
        refine m_aald C0 h 1 6 3 rfl rfl (by decide) (by decide) (by decide) dX11_write_16 ?_
        refine W.eq (g2 := F0 m 17 ls [.ref (t 3)]) rfl ?_
        refine lv_astore (lv' := [(5, .ref (t 3)), (0, .ref x), (1, .int 3), (2, .int p1), (3, .long p2)]) hx hb dX11_write_17 hl (by decide) rfl (fun ls hl => ?_)
        refine lv_aload hx hb dX11_write_19 (lv_at hl 0 rfl) ?_
        refine g_X10_size C0 h 5 q_502 rfl rfl dX11_write_21 ?_
        refine lv_if_ge (tgt := 31) hx hb dX11_write_24 (by decide) (fun c_8 => ?_) (fun c_8 => ?_)
        · -- 24 0 ≤ (-1)
          exact absurd c_8 (by decide)
        · -- 24 ¬ 0 ≤ (-1)
          refine lv_ldc2 (v := (-6)) hx hb hown (hts _ q_1398) dX11_write_27 ?_
          exact m_lret () C0 h [] (by decide) rfl (by unfold sp_trayL; grind) (Nat.le_of_ble_eq_true rfl) (Nat.le_of_ble_eq_true rfl) dX11_write_30
    · -- 4 1 = 0
      exact absurd c_4 (by decide)
  · -- answer 0
    refine lv_if_ne (tgt := 11) hx hb dX11_write_4 (by decide) (fun c_9 => ?_) (fun c_9 => ?_)
    · -- 4 ¬ 0 = 0
      exact absurd c_9 (by decide)
    · -- 4 0 = 0
      refine lv_ldc2 (v := (-2)) hx hb hown (hts _ q_1229) dX11_write_7 ?_
      exact m_lret () C0 h [] (by decide) rfl (by unfold sp_trayL; grind) (Nat.le_of_ble_eq_true rfl) (Nat.le_of_ble_eq_true rfl) dX11_write_10
set_option maxHeartbeats 4000000 in
set_option maxRecDepth 100000 in
theorem c_X10_lay (l : Launch) (G : GG) (a : Nat) (b : Nat) (so : Int32) (sz : Int32) (p0 : Int32) (p1 : Int32) : Mt l yX10_lay cX10_lay 3 none 2 0 0 G [.ref a, .int p0, .int p1] [(a, .inr (10, [.ref b, .int so, .int sz])), (b, .inl (G.2 2, 40, .inr (.inl (fun _ => 0))))] (Rv (S := Unit) G (fun _ => True) (fun _ => [])) := by
  refine Mt.start (by decide) (Nat.le_of_ble_eq_true rfl) ?_
  intro p e s m below meth c A ls C0 hini h hl
  have C0 : Cx p s m _ meth c RX10 cX10_lay 3 none := C0
  obtain ⟨hx, hb, hml, hown, hts, -⟩ := id C0
  have hl : lv_has ls 3 [(0, .ref a), (1, .int p0), (2, .int p1)] := hl
  refine lv_aload_n hx hb dX10_lay_0 rfl (lv_at hl 0 rfl) ?_
  refine g_X10_values C0 h 0 q_498 rfl rfl dX10_lay_1 ?_
  refine lv_lconst (v := 0) hx hb dX10_lay_4 (by decide) ?_
  refine m_clv (wr := [(a, .inr (10, [.ref b, .int so, .int sz]))]) h (m_rS (As := [.ref b, .long 0]) (rest := []) C0 h (c_J7_fill_d0a16 l G b 40 (fun _ => 0) 0 (by decide)) k_J7_fill_d0a16 q_1392 q_1391 [1] (by decide) rfl hl.1 rfl rfl (Nat.le_of_ble_eq_true rfl) dX10_lay_5 ⟨Nat.le_of_ble_eq_true rfl, Nat.le_of_ble_eq_true rfl⟩ ⟨Nat.le_of_ble_eq_true rfl, Nat.le_of_ble_eq_true rfl⟩) [1] [0] rfl rfl (by decide) (by decide) (fun u_1 H locs hp_2 h => ?_)
  have h : Wd G A s H locs [(a, .inr (10, [.ref b, .int so, .int sz])), (b, .inl (G.2 2, 40, .inr (.inl u_1)))] := h
  refine lv_aload_n hx hb dX10_lay_8 rfl (lv_at hl 0 rfl) ?_
  refine lv_iload_n hx hb dX10_lay_9 rfl (lv_at hl 1 rfl) ?_
  refine p_X10_sort (ws' := [(a, .inr (10, [.ref b, .int p0, .int sz])), (b, .inl (G.2 2, 40, .inr (.inl u_1)))]) C0 h 0 q_499 rfl (Nat.le_of_ble_eq_true rfl) rfl rfl rfl dX10_lay_10 (fun H locs h => ?_)
  refine lv_aload_n hx hb dX10_lay_13 rfl (lv_at hl 0 rfl) ?_
  refine lv_iload_n hx hb dX10_lay_14 rfl (lv_at hl 2 rfl) ?_
  refine p_X10_size (ws' := [(a, .inr (10, [.ref b, .int p0, .int p1])), (b, .inl (G.2 2, 40, .inr (.inl u_1)))]) C0 h 0 q_500 rfl (Nat.le_of_ble_eq_true rfl) rfl rfl rfl dX10_lay_15 (fun H locs h => ?_)
  exact m_vret () C0 h [] (by decide) rfl trivial (Nat.le_of_ble_eq_true rfl) (Nat.le_of_ble_eq_true rfl) dX10_lay_18
set_option maxHeartbeats 4000000 in
set_option maxRecDepth 100000 in
theorem c_X11_numbers (l : Launch) (G : GG) (x : Nat) (r : Nat → Nat) (t : Nat → Nat) (p0 : Int32) (p1 : Int32) (p2 : Int32) : Mt l yX11_numbers cX11_numbers 4 (some .int) 3 0 0 G [.ref x, .int p0, .int p1, .int p2] [(x, .inr (11, [.ref (r 0), .ref (r 1), .ref (r 2), .ref (r 3), .ref (r 4), .ref (r 5), .ref (r 6), .ref (r 7), .ref (r 8), .ref (r 9), .ref (r 10), .ref (r 11), .ref (r 12), .ref (r 13), .ref (r 14), .ref (r 15), .int 0, .int 0, .int 0])), (r 9, .inl (G.2 6, 4, .inr (.inr (.inr (.inr (trF t)))))), (t 0, .inr (10, [.ref (t 4), .int 0, .int (-1)])), (t 1, .inr (10, [.ref (t 5), .int 0, .int (-1)])), (t 2, .inr (10, [.ref (t 6), .int 0, .int (-1)])), (t 3, .inr (10, [.ref (t 7), .int 0, .int (-1)])), (t 4, .inl (G.2 2, 40, .inr (.inl (fun _ => 0)))), (t 5, .inl (G.2 2, 40, .inr (.inl (fun _ => 0)))), (t 6, .inl (G.2 2, 40, .inr (.inl (fun _ => 0)))), (t 7, .inl (G.2 2, 40, .inr (.inl (fun _ => 0))))] (Ri (S := Unit) G (fun r _ => r = sp_numbers p0 p1 p2) (fun _ => [])) := by
  refine Mt.start (by decide) (Nat.le_of_ble_eq_true rfl) ?_
  intro p e s m below meth c A ls C0 hini h hl
  have C0 : Cx p s m _ meth c RX11 cX11_numbers 4 (some .int) := C0
  obtain ⟨hx, hb, hml, hown, hts, -⟩ := id C0
  have hl : lv_has ls 4 [(0, .ref x), (1, .int p0), (2, .int p1), (3, .int p2)] := hl
  refine lv_iload_n hx hb dX11_numbers_0 rfl (lv_at hl 1 rfl) ?_
  refine m_cli (wr := [(x, .inr (11, [.ref (r 0), .ref (r 1), .ref (r 2), .ref (r 3), .ref (r 4), .ref (r 5), .ref (r 6), .ref (r 7), .ref (r 8), .ref (r 9), .ref (r 10), .ref (r 11), .ref (r 12), .ref (r 13), .ref (r 14), .ref (r 15), .int 0, .int 0, .int 0])), (r 9, .inl (G.2 6, 4, .inr (.inr (.inr (.inr (trF t)))))), (t 0, .inr (10, [.ref (t 4), .int 0, .int (-1)])), (t 1, .inr (10, [.ref (t 5), .int 0, .int (-1)])), (t 2, .inr (10, [.ref (t 6), .int 0, .int (-1)])), (t 3, .inr (10, [.ref (t 7), .int 0, .int (-1)])), (t 4, .inl (G.2 2, 40, .inr (.inl (fun _ => 0)))), (t 5, .inl (G.2 2, 40, .inr (.inl (fun _ => 0)))), (t 6, .inl (G.2 2, 40, .inr (.inl (fun _ => 0)))), (t 7, .inl (G.2 2, 40, .inr (.inl (fun _ => 0))))]) h (m_rS (As := [.int p0]) (rest := []) C0 h (c_X11_isTray l G p0) k_X11_isTray q_998 q_997 [] (by decide) rfl hl.1 rfl rfl (Nat.le_of_ble_eq_true rfl) dX11_numbers_1 ⟨Nat.le_of_ble_eq_true rfl, Nat.le_of_ble_eq_true rfl⟩ ⟨Nat.le_of_ble_eq_true rfl, Nat.le_of_ble_eq_true rfl⟩) [] [0, 1, 2, 3, 4, 5, 6, 7, 8, 9] rfl rfl (by decide) (by decide) (fun r_3 u_1 H locs hp_2 h => ?_)
  have h : Wd G A s H locs [(x, .inr (11, [.ref (r 0), .ref (r 1), .ref (r 2), .ref (r 3), .ref (r 4), .ref (r 5), .ref (r 6), .ref (r 7), .ref (r 8), .ref (r 9), .ref (r 10), .ref (r 11), .ref (r 12), .ref (r 13), .ref (r 14), .ref (r 15), .int 0, .int 0, .int 0])), (r 9, .inl (G.2 6, 4, .inr (.inr (.inr (.inr (trF t)))))), (t 0, .inr (10, [.ref (t 4), .int 0, .int (-1)])), (t 1, .inr (10, [.ref (t 5), .int 0, .int (-1)])), (t 2, .inr (10, [.ref (t 6), .int 0, .int (-1)])), (t 3, .inr (10, [.ref (t 7), .int 0, .int (-1)])), (t 4, .inl (G.2 2, 40, .inr (.inl (fun _ => 0)))), (t 5, .inl (G.2 2, 40, .inr (.inl (fun _ => 0)))), (t 6, .inl (G.2 2, 40, .inr (.inl (fun _ => 0)))), (t 7, .inl (G.2 2, 40, .inr (.inl (fun _ => 0))))] := h
  rcases hp_2 with ⟨rfl, hp_2w⟩ | ⟨rfl, hp_2w⟩
  · -- answer 1
    refine lv_if_eq (tgt := 16) hx hb dX11_numbers_4 (by decide) (fun c_4 => ?_) (fun c_4 => ?_)
    · -- 4 1 = 0
      exact absurd c_4 (by decide)
    · -- 4 ¬ 1 = 0
      refine lv_iload_n hx hb dX11_numbers_7 rfl (lv_at hl 2 rfl) ?_
      refine lv_if_lt (tgt := 16) hx hb dX11_numbers_8 (by decide) (fun c_5 => ?_) (fun c_5 => ?_)
      · -- 8 p1 < 0
        refine lv_bipush (v := (-2)) hx hb dX11_numbers_16 (by decide) ?_
        exact m_iret () C0 h [] (by decide) rfl (by unfold sp_numbers; grind) (Nat.le_of_ble_eq_true rfl) (Nat.le_of_ble_eq_true rfl) dX11_numbers_18
      · -- 8 ¬ p1 < 0
        refine lv_iload_n hx hb dX11_numbers_11 rfl (lv_at hl 2 rfl) ?_
        refine lv_iconst (v := 3) hx hb dX11_numbers_12 (by decide) ?_
        refine lv_icmp_le (tgt := 19) hx hb dX11_numbers_13 (by decide) (fun c_6 => ?_) (fun c_6 => ?_)
        · -- 13 p1 ≤ 3
          refine lv_iload_n hx hb dX11_numbers_19 rfl (lv_at hl 3 rfl) ?_
          refine lv_if_lt (tgt := 29) hx hb dX11_numbers_20 (by decide) (fun c_7 => ?_) (fun c_7 => ?_)
          · -- 20 p2 < 0
            refine lv_bipush (v := (-3)) hx hb dX11_numbers_29 (by decide) ?_
            exact m_iret () C0 h [] (by decide) rfl (by unfold sp_numbers; grind) (Nat.le_of_ble_eq_true rfl) (Nat.le_of_ble_eq_true rfl) dX11_numbers_31
          · -- 20 ¬ p2 < 0
            refine lv_iload_n hx hb dX11_numbers_23 rfl (lv_at hl 3 rfl) ?_
            refine lv_bipush (v := 40) hx hb dX11_numbers_24 (by decide) ?_
            refine lv_icmp_le (tgt := 32) hx hb dX11_numbers_26 (by decide) (fun c_8 => ?_) (fun c_8 => ?_)
            · -- 26 p2 ≤ 40
              refine lv_aload_n hx hb dX11_numbers_32 rfl (lv_at hl 0 rfl) ?_
              refine g_X11_trays C0 h 0 q_524 rfl rfl dX11_numbers_33 ?_
              refine lv_iload_n hx hb dX11_numbers_36 rfl (lv_at hl 1 rfl) ?_
              rcases (in4 hp_2w.1 hp_2w.2) with rfl | rfl | rfl | rfl
              · -- p0 = 0
                refine m_aald C0 h 1 6 0 rfl rfl (by decide) (by decide) (by decide) dX11_numbers_37 ?_
                refine W.eq (g2 := F0 m 38 ls [.ref (t 0)]) rfl ?_
                refine lv_iload_n hx hb dX11_numbers_38 rfl (lv_at hl 2 rfl) ?_
                refine lv_iload_n hx hb dX11_numbers_39 rfl (lv_at hl 3 rfl) ?_
                refine m_clv (wr := [(x, .inr (11, [.ref (r 0), .ref (r 1), .ref (r 2), .ref (r 3), .ref (r 4), .ref (r 5), .ref (r 6), .ref (r 7), .ref (r 8), .ref (r 9), .ref (r 10), .ref (r 11), .ref (r 12), .ref (r 13), .ref (r 14), .ref (r 15), .int 0, .int 0, .int 0])), (r 9, .inl (G.2 6, 4, .inr (.inr (.inr (.inr (trF t)))))), (t 1, .inr (10, [.ref (t 5), .int 0, .int (-1)])), (t 2, .inr (10, [.ref (t 6), .int 0, .int (-1)])), (t 3, .inr (10, [.ref (t 7), .int 0, .int (-1)])), (t 5, .inl (G.2 2, 40, .inr (.inl (fun _ => 0)))), (t 6, .inl (G.2 2, 40, .inr (.inl (fun _ => 0)))), (t 7, .inl (G.2 2, 40, .inr (.inl (fun _ => 0))))]) h (m_rV (ci := 10) (q0 := 2) (As := [.int p1, .int p2]) (rest := []) C0 h (c_X10_lay l G (t 0) (t 4) 0 (-1) p1 p2) k_X10_lay q_1388 q_1389 q_1387 rfl rfl rfl [2, 6] (by decide) rfl hl.1 rfl rfl (Nat.le_of_ble_eq_true rfl) dX11_numbers_40 ⟨Nat.le_of_ble_eq_true rfl, Nat.le_of_ble_eq_true rfl⟩ ⟨Nat.le_of_ble_eq_true rfl, Nat.le_of_ble_eq_true rfl⟩) [2, 6] [0, 1, 3, 4, 5, 7, 8, 9] rfl rfl (by decide) (by decide) (fun u_9 H locs hp_10 h => ?_)
                have h : Wd G A s H locs [(x, .inr (11, [.ref (r 0), .ref (r 1), .ref (r 2), .ref (r 3), .ref (r 4), .ref (r 5), .ref (r 6), .ref (r 7), .ref (r 8), .ref (r 9), .ref (r 10), .ref (r 11), .ref (r 12), .ref (r 13), .ref (r 14), .ref (r 15), .int 0, .int 0, .int 0])), (r 9, .inl (G.2 6, 4, .inr (.inr (.inr (.inr (trF t)))))), (t 1, .inr (10, [.ref (t 5), .int 0, .int (-1)])), (t 2, .inr (10, [.ref (t 6), .int 0, .int (-1)])), (t 3, .inr (10, [.ref (t 7), .int 0, .int (-1)])), (t 5, .inl (G.2 2, 40, .inr (.inl (fun _ => 0)))), (t 6, .inl (G.2 2, 40, .inr (.inl (fun _ => 0)))), (t 7, .inl (G.2 2, 40, .inr (.inl (fun _ => 0))))] := h
                refine lv_iconst (v := 0) hx hb dX11_numbers_43 (by decide) ?_
                exact m_iret () C0 h [] (by decide) rfl (by unfold sp_numbers; grind) (Nat.le_of_ble_eq_true rfl) (Nat.le_of_ble_eq_true rfl) dX11_numbers_44
              · -- p0 = 1
                refine m_aald C0 h 1 6 1 rfl rfl (by decide) (by decide) (by decide) dX11_numbers_37 ?_
                refine W.eq (g2 := F0 m 38 ls [.ref (t 1)]) rfl ?_
                refine lv_iload_n hx hb dX11_numbers_38 rfl (lv_at hl 2 rfl) ?_
                refine lv_iload_n hx hb dX11_numbers_39 rfl (lv_at hl 3 rfl) ?_
                refine m_clv (wr := [(x, .inr (11, [.ref (r 0), .ref (r 1), .ref (r 2), .ref (r 3), .ref (r 4), .ref (r 5), .ref (r 6), .ref (r 7), .ref (r 8), .ref (r 9), .ref (r 10), .ref (r 11), .ref (r 12), .ref (r 13), .ref (r 14), .ref (r 15), .int 0, .int 0, .int 0])), (r 9, .inl (G.2 6, 4, .inr (.inr (.inr (.inr (trF t)))))), (t 0, .inr (10, [.ref (t 4), .int 0, .int (-1)])), (t 2, .inr (10, [.ref (t 6), .int 0, .int (-1)])), (t 3, .inr (10, [.ref (t 7), .int 0, .int (-1)])), (t 4, .inl (G.2 2, 40, .inr (.inl (fun _ => 0)))), (t 6, .inl (G.2 2, 40, .inr (.inl (fun _ => 0)))), (t 7, .inl (G.2 2, 40, .inr (.inl (fun _ => 0))))]) h (m_rV (ci := 10) (q0 := 3) (As := [.int p1, .int p2]) (rest := []) C0 h (c_X10_lay l G (t 1) (t 5) 0 (-1) p1 p2) k_X10_lay q_1388 q_1389 q_1387 rfl rfl rfl [3, 7] (by decide) rfl hl.1 rfl rfl (Nat.le_of_ble_eq_true rfl) dX11_numbers_40 ⟨Nat.le_of_ble_eq_true rfl, Nat.le_of_ble_eq_true rfl⟩ ⟨Nat.le_of_ble_eq_true rfl, Nat.le_of_ble_eq_true rfl⟩) [3, 7] [0, 1, 2, 4, 5, 6, 8, 9] rfl rfl (by decide) (by decide) (fun u_11 H locs hp_12 h => ?_)
                have h : Wd G A s H locs [(x, .inr (11, [.ref (r 0), .ref (r 1), .ref (r 2), .ref (r 3), .ref (r 4), .ref (r 5), .ref (r 6), .ref (r 7), .ref (r 8), .ref (r 9), .ref (r 10), .ref (r 11), .ref (r 12), .ref (r 13), .ref (r 14), .ref (r 15), .int 0, .int 0, .int 0])), (r 9, .inl (G.2 6, 4, .inr (.inr (.inr (.inr (trF t)))))), (t 0, .inr (10, [.ref (t 4), .int 0, .int (-1)])), (t 2, .inr (10, [.ref (t 6), .int 0, .int (-1)])), (t 3, .inr (10, [.ref (t 7), .int 0, .int (-1)])), (t 4, .inl (G.2 2, 40, .inr (.inl (fun _ => 0)))), (t 6, .inl (G.2 2, 40, .inr (.inl (fun _ => 0)))), (t 7, .inl (G.2 2, 40, .inr (.inl (fun _ => 0))))] := h
                refine lv_iconst (v := 0) hx hb dX11_numbers_43 (by decide) ?_
                exact m_iret () C0 h [] (by decide) rfl (by unfold sp_numbers; grind) (Nat.le_of_ble_eq_true rfl) (Nat.le_of_ble_eq_true rfl) dX11_numbers_44
              · -- p0 = 2
                refine m_aald C0 h 1 6 2 rfl rfl (by decide) (by decide) (by decide) dX11_numbers_37 ?_
                refine W.eq (g2 := F0 m 38 ls [.ref (t 2)]) rfl ?_
                refine lv_iload_n hx hb dX11_numbers_38 rfl (lv_at hl 2 rfl) ?_
                refine lv_iload_n hx hb dX11_numbers_39 rfl (lv_at hl 3 rfl) ?_
                refine m_clv (wr := [(x, .inr (11, [.ref (r 0), .ref (r 1), .ref (r 2), .ref (r 3), .ref (r 4), .ref (r 5), .ref (r 6), .ref (r 7), .ref (r 8), .ref (r 9), .ref (r 10), .ref (r 11), .ref (r 12), .ref (r 13), .ref (r 14), .ref (r 15), .int 0, .int 0, .int 0])), (r 9, .inl (G.2 6, 4, .inr (.inr (.inr (.inr (trF t)))))), (t 0, .inr (10, [.ref (t 4), .int 0, .int (-1)])), (t 1, .inr (10, [.ref (t 5), .int 0, .int (-1)])), (t 3, .inr (10, [.ref (t 7), .int 0, .int (-1)])), (t 4, .inl (G.2 2, 40, .inr (.inl (fun _ => 0)))), (t 5, .inl (G.2 2, 40, .inr (.inl (fun _ => 0)))), (t 7, .inl (G.2 2, 40, .inr (.inl (fun _ => 0))))]) h (m_rV (ci := 10) (q0 := 4) (As := [.int p1, .int p2]) (rest := []) C0 h (c_X10_lay l G (t 2) (t 6) 0 (-1) p1 p2) k_X10_lay q_1388 q_1389 q_1387 rfl rfl rfl [4, 8] (by decide) rfl hl.1 rfl rfl (Nat.le_of_ble_eq_true rfl) dX11_numbers_40 ⟨Nat.le_of_ble_eq_true rfl, Nat.le_of_ble_eq_true rfl⟩ ⟨Nat.le_of_ble_eq_true rfl, Nat.le_of_ble_eq_true rfl⟩) [4, 8] [0, 1, 2, 3, 5, 6, 7, 9] rfl rfl (by decide) (by decide) (fun u_13 H locs hp_14 h => ?_)
                have h : Wd G A s H locs [(x, .inr (11, [.ref (r 0), .ref (r 1), .ref (r 2), .ref (r 3), .ref (r 4), .ref (r 5), .ref (r 6), .ref (r 7), .ref (r 8), .ref (r 9), .ref (r 10), .ref (r 11), .ref (r 12), .ref (r 13), .ref (r 14), .ref (r 15), .int 0, .int 0, .int 0])), (r 9, .inl (G.2 6, 4, .inr (.inr (.inr (.inr (trF t)))))), (t 0, .inr (10, [.ref (t 4), .int 0, .int (-1)])), (t 1, .inr (10, [.ref (t 5), .int 0, .int (-1)])), (t 3, .inr (10, [.ref (t 7), .int 0, .int (-1)])), (t 4, .inl (G.2 2, 40, .inr (.inl (fun _ => 0)))), (t 5, .inl (G.2 2, 40, .inr (.inl (fun _ => 0)))), (t 7, .inl (G.2 2, 40, .inr (.inl (fun _ => 0))))] := h
                refine lv_iconst (v := 0) hx hb dX11_numbers_43 (by decide) ?_
                exact m_iret () C0 h [] (by decide) rfl (by unfold sp_numbers; grind) (Nat.le_of_ble_eq_true rfl) (Nat.le_of_ble_eq_true rfl) dX11_numbers_44
              · -- p0 = 3
                refine m_aald C0 h 1 6 3 rfl rfl (by decide) (by decide) (by decide) dX11_numbers_37 ?_
                refine W.eq (g2 := F0 m 38 ls [.ref (t 3)]) rfl ?_
                refine lv_iload_n hx hb dX11_numbers_38 rfl (lv_at hl 2 rfl) ?_
                refine lv_iload_n hx hb dX11_numbers_39 rfl (lv_at hl 3 rfl) ?_
                refine m_clv (wr := [(x, .inr (11, [.ref (r 0), .ref (r 1), .ref (r 2), .ref (r 3), .ref (r 4), .ref (r 5), .ref (r 6), .ref (r 7), .ref (r 8), .ref (r 9), .ref (r 10), .ref (r 11), .ref (r 12), .ref (r 13), .ref (r 14), .ref (r 15), .int 0, .int 0, .int 0])), (r 9, .inl (G.2 6, 4, .inr (.inr (.inr (.inr (trF t)))))), (t 0, .inr (10, [.ref (t 4), .int 0, .int (-1)])), (t 1, .inr (10, [.ref (t 5), .int 0, .int (-1)])), (t 2, .inr (10, [.ref (t 6), .int 0, .int (-1)])), (t 4, .inl (G.2 2, 40, .inr (.inl (fun _ => 0)))), (t 5, .inl (G.2 2, 40, .inr (.inl (fun _ => 0)))), (t 6, .inl (G.2 2, 40, .inr (.inl (fun _ => 0))))]) h (m_rV (ci := 10) (q0 := 5) (As := [.int p1, .int p2]) (rest := []) C0 h (c_X10_lay l G (t 3) (t 7) 0 (-1) p1 p2) k_X10_lay q_1388 q_1389 q_1387 rfl rfl rfl [5, 9] (by decide) rfl hl.1 rfl rfl (Nat.le_of_ble_eq_true rfl) dX11_numbers_40 ⟨Nat.le_of_ble_eq_true rfl, Nat.le_of_ble_eq_true rfl⟩ ⟨Nat.le_of_ble_eq_true rfl, Nat.le_of_ble_eq_true rfl⟩) [5, 9] [0, 1, 2, 3, 4, 6, 7, 8] rfl rfl (by decide) (by decide) (fun u_15 H locs hp_16 h => ?_)
                have h : Wd G A s H locs [(x, .inr (11, [.ref (r 0), .ref (r 1), .ref (r 2), .ref (r 3), .ref (r 4), .ref (r 5), .ref (r 6), .ref (r 7), .ref (r 8), .ref (r 9), .ref (r 10), .ref (r 11), .ref (r 12), .ref (r 13), .ref (r 14), .ref (r 15), .int 0, .int 0, .int 0])), (r 9, .inl (G.2 6, 4, .inr (.inr (.inr (.inr (trF t)))))), (t 0, .inr (10, [.ref (t 4), .int 0, .int (-1)])), (t 1, .inr (10, [.ref (t 5), .int 0, .int (-1)])), (t 2, .inr (10, [.ref (t 6), .int 0, .int (-1)])), (t 4, .inl (G.2 2, 40, .inr (.inl (fun _ => 0)))), (t 5, .inl (G.2 2, 40, .inr (.inl (fun _ => 0)))), (t 6, .inl (G.2 2, 40, .inr (.inl (fun _ => 0))))] := h
                refine lv_iconst (v := 0) hx hb dX11_numbers_43 (by decide) ?_
                exact m_iret () C0 h [] (by decide) rfl (by unfold sp_numbers; grind) (Nat.le_of_ble_eq_true rfl) (Nat.le_of_ble_eq_true rfl) dX11_numbers_44
            · -- 26 ¬ p2 ≤ 40
              refine lv_bipush (v := (-3)) hx hb dX11_numbers_29 (by decide) ?_
              exact m_iret () C0 h [] (by decide) rfl (by unfold sp_numbers; grind) (Nat.le_of_ble_eq_true rfl) (Nat.le_of_ble_eq_true rfl) dX11_numbers_31
        · -- 13 ¬ p1 ≤ 3
          refine lv_bipush (v := (-2)) hx hb dX11_numbers_16 (by decide) ?_
          exact m_iret () C0 h [] (by decide) rfl (by unfold sp_numbers; grind) (Nat.le_of_ble_eq_true rfl) (Nat.le_of_ble_eq_true rfl) dX11_numbers_18
  · -- answer 0
    refine lv_if_eq (tgt := 16) hx hb dX11_numbers_4 (by decide) (fun c_17 => ?_) (fun c_17 => ?_)
    · -- 4 0 = 0
      refine lv_bipush (v := (-2)) hx hb dX11_numbers_16 (by decide) ?_
      exact m_iret () C0 h [] (by decide) rfl (by unfold sp_numbers; grind) (Nat.le_of_ble_eq_true rfl) (Nat.le_of_ble_eq_true rfl) dX11_numbers_18
    · -- 4 ¬ 0 = 0
      exact absurd c_17 (by decide)
set_option maxHeartbeats 4000000 in
set_option maxRecDepth 100000 in
theorem c_X11_restore (l : Launch) (G : GG) (x : Nat) (r : Nat → Nat) (p0 : Int32) : Mt l yX11_restore cX11_restore 2 (some .int) 3 0 0 G [.ref x, .int p0] [(x, .inr (11, [.ref (r 0), .ref (r 1), .ref (r 2), .ref (r 3), .ref (r 4), .ref (r 5), .ref (r 6), .ref (r 7), .ref (r 8), .ref (r 9), .ref (r 10), .ref (r 11), .ref (r 12), .ref (r 13), .ref (r 14), .ref (r 15), .int 0, .int 0, .int 0])), (r 11, .inl (G.2 3, 2, .inl (fun _ => 0)))] (Ri (S := Unit) G (fun r _ => r = sp_restore p0) (fun _ => [])) := by
  refine Mt.start (by decide) (Nat.le_of_ble_eq_true rfl) ?_
  intro p e s m below meth c A ls C0 hini h hl
  have C0 : Cx p s m _ meth c RX11 cX11_restore 2 (some .int) := C0
  obtain ⟨hx, hb, hml, hown, hts, -⟩ := id C0
  have hl : lv_has ls 2 [(0, .ref x), (1, .int p0)] := hl
  refine lv_iload_n hx hb dX11_restore_0 rfl (lv_at hl 1 rfl) ?_
  refine lv_if_lt (tgt := 9) hx hb dX11_restore_1 (by decide) (fun c_1 => ?_) (fun c_1 => ?_)
  · -- 1 p0 < 0
    refine lv_bipush (v := (-2)) hx hb dX11_restore_9 (by decide) ?_
    exact m_iret () C0 h [] (by decide) rfl (by unfold sp_restore; grind) (Nat.le_of_ble_eq_true rfl) (Nat.le_of_ble_eq_true rfl) dX11_restore_11
  · -- 1 ¬ p0 < 0
    refine lv_iload_n hx hb dX11_restore_4 rfl (lv_at hl 1 rfl) ?_
    refine lv_iconst (v := 2) hx hb dX11_restore_5 (by decide) ?_
    refine lv_icmp_lt (tgt := 12) hx hb dX11_restore_6 (by decide) (fun c_2 => ?_) (fun c_2 => ?_)
    · -- 6 p0 < 2
      refine lv_aload_n hx hb dX11_restore_12 rfl (lv_at hl 0 rfl) ?_
      refine g_X11_imageMade C0 h 0 q_526 rfl rfl dX11_restore_13 ?_
      refine lv_iload_n hx hb dX11_restore_16 rfl (lv_at hl 1 rfl) ?_
      rcases (in2 (x := p0) (by grind) (by grind)) with rfl | rfl
      · -- p0 = 0
        refine m_zald C0 h 1 0 rfl (by decide) (by decide) (by decide) dX11_restore_17 ?_
        refine W.eq (g2 := F0 m 18 ls [.int 0]) rfl ?_
        refine lv_if_ne (tgt := 24) hx hb dX11_restore_18 (by decide) (fun c_3 => ?_) (fun c_3 => ?_)
        · -- 18 ¬ 0 = 0
          exact absurd c_3 (by decide)
        · -- 18 0 = 0
          refine lv_bipush (v := (-5)) hx hb dX11_restore_21 (by decide) ?_
          exact m_iret () C0 h [] (by decide) rfl (by unfold sp_restore; grind) (Nat.le_of_ble_eq_true rfl) (Nat.le_of_ble_eq_true rfl) dX11_restore_23
      · -- p0 = 1
        refine m_zald C0 h 1 1 rfl (by decide) (by decide) (by decide) dX11_restore_17 ?_
        refine W.eq (g2 := F0 m 18 ls [.int 0]) rfl ?_
        refine lv_if_ne (tgt := 24) hx hb dX11_restore_18 (by decide) (fun c_4 => ?_) (fun c_4 => ?_)
        · -- 18 ¬ 0 = 0
          exact absurd c_4 (by decide)
        · -- 18 0 = 0
          refine lv_bipush (v := (-5)) hx hb dX11_restore_21 (by decide) ?_
          exact m_iret () C0 h [] (by decide) rfl (by unfold sp_restore; grind) (Nat.le_of_ble_eq_true rfl) (Nat.le_of_ble_eq_true rfl) dX11_restore_23
    · -- 6 ¬ p0 < 2
      refine lv_bipush (v := (-2)) hx hb dX11_restore_9 (by decide) ?_
      exact m_iret () C0 h [] (by decide) rfl (by unfold sp_restore; grind) (Nat.le_of_ble_eq_true rfl) (Nat.le_of_ble_eq_true rfl) dX11_restore_11
set_option maxHeartbeats 4000000 in
set_option maxRecDepth 100000 in
theorem c_X5_faultKind (l : Launch) (G : GG) (a : Nat) (r : Nat → Nat) (v : Nat → Nat) (z : Nat → Nat) : Mt l yX5_faultKind cX5_faultKind 1 (some .int) 0 0 0 G [.ref a] [(a, .inr (5, [.ref (r 1), .ref (z 0), .int 0, .int 0, .int 0, .int 0, .int 0, .int 0, .int 0, .int (-1), .ref (v 0)]))] (Ri (S := Unit) G (fun r _ => r = 0) (fun _ => [(a, .inr (5, [.ref (r 1), .ref (z 0), .int 0, .int 0, .int 0, .int 0, .int 0, .int 0, .int 0, .int (-1), .ref (v 0)]))])) := by
  refine Mt.start (by decide) (Nat.le_of_ble_eq_true rfl) ?_
  intro p e s m below meth c A ls C0 hini h hl
  have C0 : Cx p s m _ meth c RX5 cX5_faultKind 1 (some .int) := C0
  obtain ⟨hx, hb, hml, hown, hts, -⟩ := id C0
  have hl : lv_has ls 1 [(0, .ref a)] := hl
  refine lv_aload_n hx hb dX5_faultKind_0 rfl (lv_at hl 0 rfl) ?_
  refine g_X5_fault C0 h 0 q_378 rfl rfl dX5_faultKind_1 ?_
  exact m_iret () C0 h [0] (by decide) rfl rfl (Nat.le_of_ble_eq_true rfl) (Nat.le_of_ble_eq_true rfl) dX5_faultKind_4
set_option maxHeartbeats 4000000 in
set_option maxRecDepth 100000 in
theorem c_X5_faultPlace (l : Launch) (G : GG) (a : Nat) (r : Nat → Nat) (v : Nat → Nat) (z : Nat → Nat) : Mt l yX5_faultPlace cX5_faultPlace 1 (some .int) 0 0 0 G [.ref a] [(a, .inr (5, [.ref (r 1), .ref (z 0), .int 0, .int 0, .int 0, .int 0, .int 0, .int 0, .int 0, .int (-1), .ref (v 0)]))] (Ri (S := Unit) G (fun r _ => r = (-1)) (fun _ => [(a, .inr (5, [.ref (r 1), .ref (z 0), .int 0, .int 0, .int 0, .int 0, .int 0, .int 0, .int 0, .int (-1), .ref (v 0)]))])) := by
  refine Mt.start (by decide) (Nat.le_of_ble_eq_true rfl) ?_
  intro p e s m below meth c A ls C0 hini h hl
  have C0 : Cx p s m _ meth c RX5 cX5_faultPlace 1 (some .int) := C0
  obtain ⟨hx, hb, hml, hown, hts, -⟩ := id C0
  have hl : lv_has ls 1 [(0, .ref a)] := hl
  refine lv_aload_n hx hb dX5_faultPlace_0 rfl (lv_at hl 0 rfl) ?_
  refine g_X5_place C0 h 0 q_379 rfl rfl dX5_faultPlace_1 ?_
  exact m_iret () C0 h [0] (by decide) rfl rfl (Nat.le_of_ble_eq_true rfl) (Nat.le_of_ble_eq_true rfl) dX5_faultPlace_4
set_option maxHeartbeats 4000000 in
set_option maxRecDepth 100000 in
theorem c_X11_fault (l : Launch) (G : GG) (x : Nat) (r : Nat → Nat) (v : Nat → Nat) (z : Nat → Nat) (p0 : Int32) : Mt l yX11_fault cX11_fault 2 (some .int) 3 0 0 G [.ref x, .int p0] [(x, .inr (11, [.ref (r 0), .ref (r 1), .ref (r 2), .ref (r 3), .ref (r 4), .ref (r 5), .ref (r 6), .ref (r 7), .ref (r 8), .ref (r 9), .ref (r 10), .ref (r 11), .ref (r 12), .ref (r 13), .ref (r 14), .ref (r 15), .int 0, .int 0, .int 0])), (r 2, .inr (5, [.ref (r 1), .ref (z 0), .int 0, .int 0, .int 0, .int 0, .int 0, .int 0, .int 0, .int (-1), .ref (v 0)]))] (Ri (S := Unit) G (fun r _ => r = sp_fault p0) (fun _ => [])) := by
  refine Mt.start (by decide) (Nat.le_of_ble_eq_true rfl) ?_
  intro p e s m below meth c A ls C0 hini h hl
  have C0 : Cx p s m _ meth c RX11 cX11_fault 2 (some .int) := C0
  obtain ⟨hx, hb, hml, hown, hts, -⟩ := id C0
  have hl : lv_has ls 2 [(0, .ref x), (1, .int p0)] := hl
  refine lv_iload_n hx hb dX11_fault_0 rfl (lv_at hl 1 rfl) ?_
  refine lv_if_ne (tgt := 14) hx hb dX11_fault_1 (by decide) (fun c_1 => ?_) (fun c_1 => ?_)
  · -- 1 ¬ p0 = 0
    refine lv_iload_n hx hb dX11_fault_14 rfl (lv_at hl 1 rfl) ?_
    refine lv_iconst (v := 1) hx hb dX11_fault_15 (by decide) ?_
    refine lv_icmp_ne (tgt := 29) hx hb dX11_fault_16 (by decide) (fun c_2 => ?_) (fun c_2 => ?_)
    · -- 16 p0 ≠ 1
      refine lv_iconst (v := (-1)) hx hb dX11_fault_29 (by decide) ?_
      exact m_iret () C0 h [] (by decide) rfl (by unfold sp_fault; grind) (Nat.le_of_ble_eq_true rfl) (Nat.le_of_ble_eq_true rfl) dX11_fault_30
    · -- 16 ¬ p0 ≠ 1
      refine lv_aload_n hx hb dX11_fault_19 rfl (lv_at hl 0 rfl) ?_
      refine g_X11_reader C0 h 0 q_517 rfl rfl dX11_fault_20 ?_
      refine m_cli (wr := [(x, .inr (11, [.ref (r 0), .ref (r 1), .ref (r 2), .ref (r 3), .ref (r 4), .ref (r 5), .ref (r 6), .ref (r 7), .ref (r 8), .ref (r 9), .ref (r 10), .ref (r 11), .ref (r 12), .ref (r 13), .ref (r 14), .ref (r 15), .int 0, .int 0, .int 0]))]) h (m_rV (ci := 5) (q0 := 1) (As := []) (rest := []) C0 h (c_X5_faultPlace l G (r 2) r v z) k_X5_faultPlace q_894 q_895 q_893 rfl rfl rfl [1] (by decide) rfl hl.1 rfl rfl (Nat.le_of_ble_eq_true rfl) dX11_fault_23 ⟨Nat.le_of_ble_eq_true rfl, Nat.le_of_ble_eq_true rfl⟩ ⟨Nat.le_of_ble_eq_true rfl, Nat.le_of_ble_eq_true rfl⟩) [1] [0] rfl rfl (by decide) (by decide) (fun r_5 u_3 H locs hp_4 h => ?_)
      have h : Wd G A s H locs [(x, .inr (11, [.ref (r 0), .ref (r 1), .ref (r 2), .ref (r 3), .ref (r 4), .ref (r 5), .ref (r 6), .ref (r 7), .ref (r 8), .ref (r 9), .ref (r 10), .ref (r 11), .ref (r 12), .ref (r 13), .ref (r 14), .ref (r 15), .int 0, .int 0, .int 0])), (r 2, .inr (5, [.ref (r 1), .ref (z 0), .int 0, .int 0, .int 0, .int 0, .int 0, .int 0, .int 0, .int (-1), .ref (v 0)]))] := h
      obtain rfl : r_5 = (-1) := hp_4
      refine lv_goto (tgt := 30) hx hb dX11_fault_26 (by decide) ?_
      exact m_iret () C0 h [] (by decide) rfl (by unfold sp_fault; grind) (Nat.le_of_ble_eq_true rfl) (Nat.le_of_ble_eq_true rfl) dX11_fault_30
  · -- 1 p0 = 0
    refine lv_aload_n hx hb dX11_fault_4 rfl (lv_at hl 0 rfl) ?_
    refine g_X11_reader C0 h 0 q_517 rfl rfl dX11_fault_5 ?_
    refine m_cli (wr := [(x, .inr (11, [.ref (r 0), .ref (r 1), .ref (r 2), .ref (r 3), .ref (r 4), .ref (r 5), .ref (r 6), .ref (r 7), .ref (r 8), .ref (r 9), .ref (r 10), .ref (r 11), .ref (r 12), .ref (r 13), .ref (r 14), .ref (r 15), .int 0, .int 0, .int 0]))]) h (m_rV (ci := 5) (q0 := 1) (As := []) (rest := []) C0 h (c_X5_faultKind l G (r 2) r v z) k_X5_faultKind q_890 q_891 q_889 rfl rfl rfl [1] (by decide) rfl hl.1 rfl rfl (Nat.le_of_ble_eq_true rfl) dX11_fault_8 ⟨Nat.le_of_ble_eq_true rfl, Nat.le_of_ble_eq_true rfl⟩ ⟨Nat.le_of_ble_eq_true rfl, Nat.le_of_ble_eq_true rfl⟩) [1] [0] rfl rfl (by decide) (by decide) (fun r_8 u_6 H locs hp_7 h => ?_)
    have h : Wd G A s H locs [(x, .inr (11, [.ref (r 0), .ref (r 1), .ref (r 2), .ref (r 3), .ref (r 4), .ref (r 5), .ref (r 6), .ref (r 7), .ref (r 8), .ref (r 9), .ref (r 10), .ref (r 11), .ref (r 12), .ref (r 13), .ref (r 14), .ref (r 15), .int 0, .int 0, .int 0])), (r 2, .inr (5, [.ref (r 1), .ref (z 0), .int 0, .int 0, .int 0, .int 0, .int 0, .int 0, .int 0, .int (-1), .ref (v 0)]))] := h
    obtain rfl : r_8 = 0 := hp_7
    refine lv_goto (tgt := 30) hx hb dX11_fault_11 (by decide) ?_
    exact m_iret () C0 h [] (by decide) rfl (by unfold sp_fault; grind) (Nat.le_of_ble_eq_true rfl) (Nat.le_of_ble_eq_true rfl) dX11_fault_30
set_option maxHeartbeats 4000000 in
set_option maxRecDepth 100000 in
theorem c_X5_fed_0 (l : Launch) (G : GG) (a : Nat) (r : Nat → Nat) (v : Nat → Nat) (z : Nat → Nat) : Mt l yX5_fed cX5_fed 1 (some .int) 0 0 0 G [.ref a] [(a, .inr (5, [.ref (r 1), .ref (z 0), .int 0, .int 0, .int 0, .int 0, .int 0, .int 0, .int 0, .int (-1), .ref (v 0)]))] (Ri (S := Unit) G (fun r _ => r = 0) (fun _ => [(a, .inr (5, [.ref (r 1), .ref (z 0), .int 0, .int 0, .int 0, .int 0, .int 0, .int 0, .int 0, .int (-1), .ref (v 0)]))])) := by
  refine Mt.start (by decide) (Nat.le_of_ble_eq_true rfl) ?_
  intro p e s m below meth c A ls C0 hini h hl
  have C0 : Cx p s m _ meth c RX5 cX5_fed 1 (some .int) := C0
  obtain ⟨hx, hb, hml, hown, hts, -⟩ := id C0
  have hl : lv_has ls 1 [(0, .ref a)] := hl
  refine lv_aload_n hx hb dX5_fed_0 rfl (lv_at hl 0 rfl) ?_
  refine g_X5_fed C0 h 0 q_372 rfl rfl dX5_fed_1 ?_
  exact m_iret () C0 h [0] (by decide) rfl rfl (Nat.le_of_ble_eq_true rfl) (Nat.le_of_ble_eq_true rfl) dX5_fed_4
set_option maxHeartbeats 4000000 in
set_option maxRecDepth 100000 in
theorem c_X5_fed_20 (l : Launch) (G : GG) (a : Nat) (r : Nat → Nat) (v : Nat → Nat) (z : Nat → Nat) : Mt l yX5_fed cX5_fed 1 (some .int) 0 0 0 G [.ref a] [(a, .inr (5, [.ref (r 1), .ref (z 0), .int 20, .int 0, .int 0, .int 0, .int 0, .int 0, .int 0, .int (-1), .ref (v 0)]))] (Ri (S := Unit) G (fun r _ => r = 20) (fun _ => [(a, .inr (5, [.ref (r 1), .ref (z 0), .int 20, .int 0, .int 0, .int 0, .int 0, .int 0, .int 0, .int (-1), .ref (v 0)]))])) := by
  refine Mt.start (by decide) (Nat.le_of_ble_eq_true rfl) ?_
  intro p e s m below meth c A ls C0 hini h hl
  have C0 : Cx p s m _ meth c RX5 cX5_fed 1 (some .int) := C0
  obtain ⟨hx, hb, hml, hown, hts, -⟩ := id C0
  have hl : lv_has ls 1 [(0, .ref a)] := hl
  refine lv_aload_n hx hb dX5_fed_0 rfl (lv_at hl 0 rfl) ?_
  refine g_X5_fed C0 h 0 q_372 rfl rfl dX5_fed_1 ?_
  exact m_iret () C0 h [0] (by decide) rfl rfl (Nat.le_of_ble_eq_true rfl) (Nat.le_of_ble_eq_true rfl) dX5_fed_4
set_option maxHeartbeats 4000000 in
set_option maxRecDepth 100000 in
theorem c_X5_hasRoom (l : Launch) (G : GG) (a : Nat) (r : Nat → Nat) (v : Nat → Nat) (z : Nat → Nat) : Mt l yX5_hasRoom cX5_hasRoom 1 (some .boolean) 0 0 0 G [.ref a] [(a, .inr (5, [.ref (r 1), .ref (z 0), .int 0, .int 0, .int 0, .int 0, .int 0, .int 0, .int 0, .int (-1), .ref (v 0)]))] (Ri (S := Unit) G (fun r _ => r = 1) (fun _ => [(a, .inr (5, [.ref (r 1), .ref (z 0), .int 0, .int 0, .int 0, .int 0, .int 0, .int 0, .int 0, .int (-1), .ref (v 0)]))])) := by
  refine Mt.start (by decide) (Nat.le_of_ble_eq_true rfl) ?_
  intro p e s m below meth c A ls C0 hini h hl
  have C0 : Cx p s m _ meth c RX5 cX5_hasRoom 1 (some .boolean) := C0
  obtain ⟨hx, hb, hml, hown, hts, -⟩ := id C0
  have hl : lv_has ls 1 [(0, .ref a)] := hl
  refine lv_aload_n hx hb dX5_hasRoom_0 rfl (lv_at hl 0 rfl) ?_
  refine g_X5_fed C0 h 0 q_372 rfl rfl dX5_hasRoom_1 ?_
  refine lv_bipush (v := 20) hx hb dX5_hasRoom_4 (by decide) ?_
  refine lv_iadd hx hb dX5_hasRoom_6 ?_
  refine lv_topi (fun k_1 ek_1 => ?_)
  obtain rfl : k_1 = 20 := ek_1.trans (by decide)
  refine lv_sipush (v := 900) hx hb dX5_hasRoom_7 (by decide) ?_
  refine lv_icmp_gt (tgt := 17) hx hb dX5_hasRoom_10 (by decide) (fun c_2 => ?_) (fun c_2 => ?_)
  · -- 10 900 < 20
    exact absurd c_2 (by decide)
  · -- 10 ¬ 900 < 20
    refine lv_iconst (v := 1) hx hb dX5_hasRoom_13 (by decide) ?_
    refine lv_goto (tgt := 18) hx hb dX5_hasRoom_14 (by decide) ?_
    exact m_zret () C0 h (by decide) [0] (by decide) rfl rfl (Nat.le_of_ble_eq_true rfl) (Nat.le_of_ble_eq_true rfl) dX5_hasRoom_18
set_option maxHeartbeats 4000000 in
set_option maxRecDepth 100000 in
theorem c_X5_put_0 (l : Launch) (G : GG) (a : Nat) (r : Nat → Nat) (v : Nat → Nat) (z : Nat → Nat) (f : Nat → Int32) (p0 : Int32) : Mt l yX5_put cX5_put 3 none 0 0 0 G [.ref a, .int p0] [(a, .inr (5, [.ref (r 1), .ref (z 0), .int 0, .int 0, .int 0, .int 0, .int 0, .int 0, .int 0, .int (-1), .ref (v 0)])), (z 0, .inl (G.2 0, 900, .inl f))] (Rv (S := (Nat → Int32)) G (fun _ => True) (fun g => [(a, .inr (5, [.ref (r 1), .ref (z 0), .int 4, .int 0, .int 0, .int 0, .int 0, .int 0, .int 0, .int (-1), .ref (v 0)])), (z 0, .inl (G.2 0, 900, .inl g))])) := by
  refine Mt.start (by decide) (Nat.le_of_ble_eq_true rfl) ?_
  intro p e s m below meth c A ls C0 hini h hl
  have C0 : Cx p s m _ meth c RX5 cX5_put 3 none := C0
  obtain ⟨hx, hb, hml, hown, hts, -⟩ := id C0
  have hl : lv_has ls 3 [(0, .ref a), (1, .int p0)] := hl
  refine lv_bipush (v := 24) hx hb dX5_put_0 (by decide) ?_
  refine lv_istore_n (lv' := [(2, .int 24), (0, .ref a), (1, .int p0)]) hx hb dX5_put_2 rfl hl (by decide) rfl (fun ls hl => ?_)
  refine lv_iload_n hx hb dX5_put_3 rfl (lv_at hl 0 rfl) ?_
  refine lv_if_lt (tgt := 46) hx hb dX5_put_4 (by decide) (fun c_1 => ?_) (fun c_1 => ?_)
  · -- 4 24 < 0
    exact absurd c_1 (by decide)
  · -- 4 ¬ 24 < 0
    refine lv_aload_n hx hb dX5_put_7 rfl (lv_at hl 1 rfl) ?_
    refine g_X5_fed C0 h 0 q_372 rfl rfl dX5_put_8 ?_
    refine lv_sipush (v := 900) hx hb dX5_put_11 (by decide) ?_
    refine lv_icmp_ge (tgt := 46) hx hb dX5_put_14 (by decide) (fun c_2 => ?_) (fun c_2 => ?_)
    · -- 14 900 ≤ 0
      exact absurd c_2 (by decide)
    · -- 14 ¬ 900 ≤ 0
      refine lv_aload_n hx hb dX5_put_17 rfl (lv_at hl 1 rfl) ?_
      refine g_X5_tape C0 h 0 q_371 rfl rfl dX5_put_18 ?_
      refine lv_aload_n hx hb dX5_put_21 rfl (lv_at hl 1 rfl) ?_
      refine g_X5_fed C0 h 0 q_372 rfl rfl dX5_put_22 ?_
      refine lv_iload_n hx hb dX5_put_25 rfl (lv_at hl 2 rfl) ?_
      refine lv_iload_n hx hb dX5_put_26 rfl (lv_at hl 0 rfl) ?_
      refine lv_ishr hx hb dX5_put_27 ?_
      refine lv_i2b (v := (p0 >>> (24 &&& 31)).toInt8.toInt32) hx hb dX5_put_28 rfl ?_
      refine m_bast (ws' := [(a, .inr (5, [.ref (r 1), .ref (z 0), .int 0, .int 0, .int 0, .int 0, .int 0, .int 0, .int 0, .int (-1), .ref (v 0)])), (z 0, .inl (G.2 0, 900, .inl (upd f 0 (vp_nar .byte ((p0 >>> (24 &&& 31)).toInt8.toInt32)))))]) C0 h 1 0 rfl (by decide) (by decide) (by decide) rfl dX5_put_29 (fun H locs h => ?_)
      refine lv_aload_n hx hb dX5_put_30 rfl (lv_at hl 1 rfl) ?_
      refine lv_dup hx hb dX5_put_31 rfl ?_
      refine g_X5_fed C0 h 0 q_372 rfl rfl dX5_put_32 ?_
      refine lv_iconst (v := 1) hx hb dX5_put_35 (by decide) ?_
      refine lv_iadd hx hb dX5_put_36 ?_
      refine lv_topi (fun k_3 ek_3 => ?_)
      obtain rfl : k_3 = 1 := ek_3.trans (by decide)
      refine p_X5_fed (ws' := [(a, .inr (5, [.ref (r 1), .ref (z 0), .int 1, .int 0, .int 0, .int 0, .int 0, .int 0, .int 0, .int (-1), .ref (v 0)])), (z 0, .inl (G.2 0, 900, .inl (upd f 0 (vp_nar .byte ((p0 >>> (24 &&& 31)).toInt8.toInt32)))))]) C0 h 0 q_372 rfl (Nat.le_of_ble_eq_true rfl) rfl rfl rfl dX5_put_37 (fun H locs h => ?_)
      refine lv_iinc (v := 16) (lv' := [(2, .int 16), (0, .ref a), (1, .int p0)]) hx hb dX5_put_40 hl (k := 0) rfl (by decide) (by decide) rfl (fun ls hl => ?_)
      refine lv_goto (tgt := 3) hx hb dX5_put_43 (by decide) ?_
      refine lv_iload_n hx hb dX5_put_3 rfl (lv_at hl 0 rfl) ?_
      refine lv_if_lt (tgt := 46) hx hb dX5_put_4 (by decide) (fun c_4 => ?_) (fun c_4 => ?_)
      · -- 4 16 < 0
        exact absurd c_4 (by decide)
      · -- 4 ¬ 16 < 0
        refine lv_aload_n hx hb dX5_put_7 rfl (lv_at hl 1 rfl) ?_
        refine g_X5_fed C0 h 0 q_372 rfl rfl dX5_put_8 ?_
        refine lv_sipush (v := 900) hx hb dX5_put_11 (by decide) ?_
        refine lv_icmp_ge (tgt := 46) hx hb dX5_put_14 (by decide) (fun c_5 => ?_) (fun c_5 => ?_)
        · -- 14 900 ≤ 1
          exact absurd c_5 (by decide)
        · -- 14 ¬ 900 ≤ 1
          refine lv_aload_n hx hb dX5_put_17 rfl (lv_at hl 1 rfl) ?_
          refine g_X5_tape C0 h 0 q_371 rfl rfl dX5_put_18 ?_
          refine lv_aload_n hx hb dX5_put_21 rfl (lv_at hl 1 rfl) ?_
          refine g_X5_fed C0 h 0 q_372 rfl rfl dX5_put_22 ?_
          refine lv_iload_n hx hb dX5_put_25 rfl (lv_at hl 2 rfl) ?_
          refine lv_iload_n hx hb dX5_put_26 rfl (lv_at hl 0 rfl) ?_
          refine lv_ishr hx hb dX5_put_27 ?_
          refine lv_i2b (v := (p0 >>> (16 &&& 31)).toInt8.toInt32) hx hb dX5_put_28 rfl ?_
          refine m_bast (ws' := [(a, .inr (5, [.ref (r 1), .ref (z 0), .int 1, .int 0, .int 0, .int 0, .int 0, .int 0, .int 0, .int (-1), .ref (v 0)])), (z 0, .inl (G.2 0, 900, .inl (upd (upd f 0 (vp_nar .byte ((p0 >>> (24 &&& 31)).toInt8.toInt32))) 1 (vp_nar .byte ((p0 >>> (16 &&& 31)).toInt8.toInt32)))))]) C0 h 1 1 rfl (by decide) (by decide) (by decide) rfl dX5_put_29 (fun H locs h => ?_)
          refine lv_aload_n hx hb dX5_put_30 rfl (lv_at hl 1 rfl) ?_
          refine lv_dup hx hb dX5_put_31 rfl ?_
          refine g_X5_fed C0 h 0 q_372 rfl rfl dX5_put_32 ?_
          refine lv_iconst (v := 1) hx hb dX5_put_35 (by decide) ?_
          refine lv_iadd hx hb dX5_put_36 ?_
          refine lv_topi (fun k_6 ek_6 => ?_)
          obtain rfl : k_6 = 2 := ek_6.trans (by decide)
          refine p_X5_fed (ws' := [(a, .inr (5, [.ref (r 1), .ref (z 0), .int 2, .int 0, .int 0, .int 0, .int 0, .int 0, .int 0, .int (-1), .ref (v 0)])), (z 0, .inl (G.2 0, 900, .inl (upd (upd f 0 (vp_nar .byte ((p0 >>> (24 &&& 31)).toInt8.toInt32))) 1 (vp_nar .byte ((p0 >>> (16 &&& 31)).toInt8.toInt32)))))]) C0 h 0 q_372 rfl (Nat.le_of_ble_eq_true rfl) rfl rfl rfl dX5_put_37 (fun H locs h => ?_)
          refine lv_iinc (v := 8) (lv' := [(2, .int 8), (0, .ref a), (1, .int p0)]) hx hb dX5_put_40 hl (k := 0) rfl (by decide) (by decide) rfl (fun ls hl => ?_)
          refine lv_goto (tgt := 3) hx hb dX5_put_43 (by decide) ?_
          refine lv_iload_n hx hb dX5_put_3 rfl (lv_at hl 0 rfl) ?_
          refine lv_if_lt (tgt := 46) hx hb dX5_put_4 (by decide) (fun c_7 => ?_) (fun c_7 => ?_)
          · -- 4 8 < 0
            exact absurd c_7 (by decide)
          · -- 4 ¬ 8 < 0
            refine lv_aload_n hx hb dX5_put_7 rfl (lv_at hl 1 rfl) ?_
            refine g_X5_fed C0 h 0 q_372 rfl rfl dX5_put_8 ?_
            refine lv_sipush (v := 900) hx hb dX5_put_11 (by decide) ?_
            refine lv_icmp_ge (tgt := 46) hx hb dX5_put_14 (by decide) (fun c_8 => ?_) (fun c_8 => ?_)
            · -- 14 900 ≤ 2
              exact absurd c_8 (by decide)
            · -- 14 ¬ 900 ≤ 2
              refine lv_aload_n hx hb dX5_put_17 rfl (lv_at hl 1 rfl) ?_
              refine g_X5_tape C0 h 0 q_371 rfl rfl dX5_put_18 ?_
              refine lv_aload_n hx hb dX5_put_21 rfl (lv_at hl 1 rfl) ?_
              refine g_X5_fed C0 h 0 q_372 rfl rfl dX5_put_22 ?_
              refine lv_iload_n hx hb dX5_put_25 rfl (lv_at hl 2 rfl) ?_
              refine lv_iload_n hx hb dX5_put_26 rfl (lv_at hl 0 rfl) ?_
              refine lv_ishr hx hb dX5_put_27 ?_
              refine lv_i2b (v := (p0 >>> (8 &&& 31)).toInt8.toInt32) hx hb dX5_put_28 rfl ?_
              refine m_bast (ws' := [(a, .inr (5, [.ref (r 1), .ref (z 0), .int 2, .int 0, .int 0, .int 0, .int 0, .int 0, .int 0, .int (-1), .ref (v 0)])), (z 0, .inl (G.2 0, 900, .inl (upd (upd (upd f 0 (vp_nar .byte ((p0 >>> (24 &&& 31)).toInt8.toInt32))) 1 (vp_nar .byte ((p0 >>> (16 &&& 31)).toInt8.toInt32))) 2 (vp_nar .byte ((p0 >>> (8 &&& 31)).toInt8.toInt32)))))]) C0 h 1 2 rfl (by decide) (by decide) (by decide) rfl dX5_put_29 (fun H locs h => ?_)
              refine lv_aload_n hx hb dX5_put_30 rfl (lv_at hl 1 rfl) ?_
              refine lv_dup hx hb dX5_put_31 rfl ?_
              refine g_X5_fed C0 h 0 q_372 rfl rfl dX5_put_32 ?_
              refine lv_iconst (v := 1) hx hb dX5_put_35 (by decide) ?_
              refine lv_iadd hx hb dX5_put_36 ?_
              refine lv_topi (fun k_9 ek_9 => ?_)
              obtain rfl : k_9 = 3 := ek_9.trans (by decide)
              refine p_X5_fed (ws' := [(a, .inr (5, [.ref (r 1), .ref (z 0), .int 3, .int 0, .int 0, .int 0, .int 0, .int 0, .int 0, .int (-1), .ref (v 0)])), (z 0, .inl (G.2 0, 900, .inl (upd (upd (upd f 0 (vp_nar .byte ((p0 >>> (24 &&& 31)).toInt8.toInt32))) 1 (vp_nar .byte ((p0 >>> (16 &&& 31)).toInt8.toInt32))) 2 (vp_nar .byte ((p0 >>> (8 &&& 31)).toInt8.toInt32)))))]) C0 h 0 q_372 rfl (Nat.le_of_ble_eq_true rfl) rfl rfl rfl dX5_put_37 (fun H locs h => ?_)
              refine lv_iinc (v := 0) (lv' := [(2, .int 0), (0, .ref a), (1, .int p0)]) hx hb dX5_put_40 hl (k := 0) rfl (by decide) (by decide) rfl (fun ls hl => ?_)
              refine lv_goto (tgt := 3) hx hb dX5_put_43 (by decide) ?_
              refine lv_iload_n hx hb dX5_put_3 rfl (lv_at hl 0 rfl) ?_
              refine lv_if_lt (tgt := 46) hx hb dX5_put_4 (by decide) (fun c_10 => ?_) (fun c_10 => ?_)
              · -- 4 0 < 0
                exact absurd c_10 (by decide)
              · -- 4 ¬ 0 < 0
                refine lv_aload_n hx hb dX5_put_7 rfl (lv_at hl 1 rfl) ?_
                refine g_X5_fed C0 h 0 q_372 rfl rfl dX5_put_8 ?_
                refine lv_sipush (v := 900) hx hb dX5_put_11 (by decide) ?_
                refine lv_icmp_ge (tgt := 46) hx hb dX5_put_14 (by decide) (fun c_11 => ?_) (fun c_11 => ?_)
                · -- 14 900 ≤ 3
                  exact absurd c_11 (by decide)
                · -- 14 ¬ 900 ≤ 3
                  refine lv_aload_n hx hb dX5_put_17 rfl (lv_at hl 1 rfl) ?_
                  refine g_X5_tape C0 h 0 q_371 rfl rfl dX5_put_18 ?_
                  refine lv_aload_n hx hb dX5_put_21 rfl (lv_at hl 1 rfl) ?_
                  refine g_X5_fed C0 h 0 q_372 rfl rfl dX5_put_22 ?_
                  refine lv_iload_n hx hb dX5_put_25 rfl (lv_at hl 2 rfl) ?_
                  refine lv_iload_n hx hb dX5_put_26 rfl (lv_at hl 0 rfl) ?_
                  refine lv_ishr hx hb dX5_put_27 ?_
                  refine lv_i2b (v := (p0 >>> (0 &&& 31)).toInt8.toInt32) hx hb dX5_put_28 rfl ?_
                  refine m_bast (ws' := [(a, .inr (5, [.ref (r 1), .ref (z 0), .int 3, .int 0, .int 0, .int 0, .int 0, .int 0, .int 0, .int (-1), .ref (v 0)])), (z 0, .inl (G.2 0, 900, .inl (upd (upd (upd (upd f 0 (vp_nar .byte ((p0 >>> (24 &&& 31)).toInt8.toInt32))) 1 (vp_nar .byte ((p0 >>> (16 &&& 31)).toInt8.toInt32))) 2 (vp_nar .byte ((p0 >>> (8 &&& 31)).toInt8.toInt32))) 3 (vp_nar .byte ((p0 >>> (0 &&& 31)).toInt8.toInt32)))))]) C0 h 1 3 rfl (by decide) (by decide) (by decide) rfl dX5_put_29 (fun H locs h => ?_)
                  refine lv_aload_n hx hb dX5_put_30 rfl (lv_at hl 1 rfl) ?_
                  refine lv_dup hx hb dX5_put_31 rfl ?_
                  refine g_X5_fed C0 h 0 q_372 rfl rfl dX5_put_32 ?_
                  refine lv_iconst (v := 1) hx hb dX5_put_35 (by decide) ?_
                  refine lv_iadd hx hb dX5_put_36 ?_
                  refine lv_topi (fun k_12 ek_12 => ?_)
                  obtain rfl : k_12 = 4 := ek_12.trans (by decide)
                  refine p_X5_fed (ws' := [(a, .inr (5, [.ref (r 1), .ref (z 0), .int 4, .int 0, .int 0, .int 0, .int 0, .int 0, .int 0, .int (-1), .ref (v 0)])), (z 0, .inl (G.2 0, 900, .inl (upd (upd (upd (upd f 0 (vp_nar .byte ((p0 >>> (24 &&& 31)).toInt8.toInt32))) 1 (vp_nar .byte ((p0 >>> (16 &&& 31)).toInt8.toInt32))) 2 (vp_nar .byte ((p0 >>> (8 &&& 31)).toInt8.toInt32))) 3 (vp_nar .byte ((p0 >>> (0 &&& 31)).toInt8.toInt32)))))]) C0 h 0 q_372 rfl (Nat.le_of_ble_eq_true rfl) rfl rfl rfl dX5_put_37 (fun H locs h => ?_)
                  refine lv_iinc (v := (-8)) (lv' := [(2, .int (-8)), (0, .ref a), (1, .int p0)]) hx hb dX5_put_40 hl (k := 0) rfl (by decide) (by decide) rfl (fun ls hl => ?_)
                  refine lv_goto (tgt := 3) hx hb dX5_put_43 (by decide) ?_
                  refine lv_iload_n hx hb dX5_put_3 rfl (lv_at hl 0 rfl) ?_
                  refine lv_if_lt (tgt := 46) hx hb dX5_put_4 (by decide) (fun c_13 => ?_) (fun c_13 => ?_)
                  · -- 4 (-8) < 0
                    exact m_vret (upd (upd (upd (upd f 0 (vp_nar .byte ((p0 >>> (24 &&& 31)).toInt8.toInt32))) 1 (vp_nar .byte ((p0 >>> (16 &&& 31)).toInt8.toInt32))) 2 (vp_nar .byte ((p0 >>> (8 &&& 31)).toInt8.toInt32))) 3 (vp_nar .byte ((p0 >>> (0 &&& 31)).toInt8.toInt32))) C0 h [0, 1] (by decide) rfl trivial (Nat.le_of_ble_eq_true rfl) (Nat.le_of_ble_eq_true rfl) dX5_put_46
                  · -- 4 ¬ (-8) < 0
                    exact absurd c_13 (by decide)
set_option maxHeartbeats 4000000 in
set_option maxRecDepth 100000 in
theorem c_X5_put_4 (l : Launch) (G : GG) (a : Nat) (r : Nat → Nat) (v : Nat → Nat) (z : Nat → Nat) (f : Nat → Int32) (p0 : Int32) : Mt l yX5_put cX5_put 3 none 0 0 0 G [.ref a, .int p0] [(a, .inr (5, [.ref (r 1), .ref (z 0), .int 4, .int 0, .int 0, .int 0, .int 0, .int 0, .int 0, .int (-1), .ref (v 0)])), (z 0, .inl (G.2 0, 900, .inl f))] (Rv (S := (Nat → Int32)) G (fun _ => True) (fun g => [(a, .inr (5, [.ref (r 1), .ref (z 0), .int 8, .int 0, .int 0, .int 0, .int 0, .int 0, .int 0, .int (-1), .ref (v 0)])), (z 0, .inl (G.2 0, 900, .inl g))])) := by
  refine Mt.start (by decide) (Nat.le_of_ble_eq_true rfl) ?_
  intro p e s m below meth c A ls C0 hini h hl
  have C0 : Cx p s m _ meth c RX5 cX5_put 3 none := C0
  obtain ⟨hx, hb, hml, hown, hts, -⟩ := id C0
  have hl : lv_has ls 3 [(0, .ref a), (1, .int p0)] := hl
  refine lv_bipush (v := 24) hx hb dX5_put_0 (by decide) ?_
  refine lv_istore_n (lv' := [(2, .int 24), (0, .ref a), (1, .int p0)]) hx hb dX5_put_2 rfl hl (by decide) rfl (fun ls hl => ?_)
  refine lv_iload_n hx hb dX5_put_3 rfl (lv_at hl 0 rfl) ?_
  refine lv_if_lt (tgt := 46) hx hb dX5_put_4 (by decide) (fun c_1 => ?_) (fun c_1 => ?_)
  · -- 4 24 < 0
    exact absurd c_1 (by decide)
  · -- 4 ¬ 24 < 0
    refine lv_aload_n hx hb dX5_put_7 rfl (lv_at hl 1 rfl) ?_
    refine g_X5_fed C0 h 0 q_372 rfl rfl dX5_put_8 ?_
    refine lv_sipush (v := 900) hx hb dX5_put_11 (by decide) ?_
    refine lv_icmp_ge (tgt := 46) hx hb dX5_put_14 (by decide) (fun c_2 => ?_) (fun c_2 => ?_)
    · -- 14 900 ≤ 4
      exact absurd c_2 (by decide)
    · -- 14 ¬ 900 ≤ 4
      refine lv_aload_n hx hb dX5_put_17 rfl (lv_at hl 1 rfl) ?_
      refine g_X5_tape C0 h 0 q_371 rfl rfl dX5_put_18 ?_
      refine lv_aload_n hx hb dX5_put_21 rfl (lv_at hl 1 rfl) ?_
      refine g_X5_fed C0 h 0 q_372 rfl rfl dX5_put_22 ?_
      refine lv_iload_n hx hb dX5_put_25 rfl (lv_at hl 2 rfl) ?_
      refine lv_iload_n hx hb dX5_put_26 rfl (lv_at hl 0 rfl) ?_
      refine lv_ishr hx hb dX5_put_27 ?_
      refine lv_i2b (v := (p0 >>> (24 &&& 31)).toInt8.toInt32) hx hb dX5_put_28 rfl ?_
      refine m_bast (ws' := [(a, .inr (5, [.ref (r 1), .ref (z 0), .int 4, .int 0, .int 0, .int 0, .int 0, .int 0, .int 0, .int (-1), .ref (v 0)])), (z 0, .inl (G.2 0, 900, .inl (upd f 4 (vp_nar .byte ((p0 >>> (24 &&& 31)).toInt8.toInt32)))))]) C0 h 1 4 rfl (by decide) (by decide) (by decide) rfl dX5_put_29 (fun H locs h => ?_)
      refine lv_aload_n hx hb dX5_put_30 rfl (lv_at hl 1 rfl) ?_
      refine lv_dup hx hb dX5_put_31 rfl ?_
      refine g_X5_fed C0 h 0 q_372 rfl rfl dX5_put_32 ?_
      refine lv_iconst (v := 1) hx hb dX5_put_35 (by decide) ?_
      refine lv_iadd hx hb dX5_put_36 ?_
      refine lv_topi (fun k_3 ek_3 => ?_)
      obtain rfl : k_3 = 5 := ek_3.trans (by decide)
      refine p_X5_fed (ws' := [(a, .inr (5, [.ref (r 1), .ref (z 0), .int 5, .int 0, .int 0, .int 0, .int 0, .int 0, .int 0, .int (-1), .ref (v 0)])), (z 0, .inl (G.2 0, 900, .inl (upd f 4 (vp_nar .byte ((p0 >>> (24 &&& 31)).toInt8.toInt32)))))]) C0 h 0 q_372 rfl (Nat.le_of_ble_eq_true rfl) rfl rfl rfl dX5_put_37 (fun H locs h => ?_)
      refine lv_iinc (v := 16) (lv' := [(2, .int 16), (0, .ref a), (1, .int p0)]) hx hb dX5_put_40 hl (k := 0) rfl (by decide) (by decide) rfl (fun ls hl => ?_)
      refine lv_goto (tgt := 3) hx hb dX5_put_43 (by decide) ?_
      refine lv_iload_n hx hb dX5_put_3 rfl (lv_at hl 0 rfl) ?_
      refine lv_if_lt (tgt := 46) hx hb dX5_put_4 (by decide) (fun c_4 => ?_) (fun c_4 => ?_)
      · -- 4 16 < 0
        exact absurd c_4 (by decide)
      · -- 4 ¬ 16 < 0
        refine lv_aload_n hx hb dX5_put_7 rfl (lv_at hl 1 rfl) ?_
        refine g_X5_fed C0 h 0 q_372 rfl rfl dX5_put_8 ?_
        refine lv_sipush (v := 900) hx hb dX5_put_11 (by decide) ?_
        refine lv_icmp_ge (tgt := 46) hx hb dX5_put_14 (by decide) (fun c_5 => ?_) (fun c_5 => ?_)
        · -- 14 900 ≤ 5
          exact absurd c_5 (by decide)
        · -- 14 ¬ 900 ≤ 5
          refine lv_aload_n hx hb dX5_put_17 rfl (lv_at hl 1 rfl) ?_
          refine g_X5_tape C0 h 0 q_371 rfl rfl dX5_put_18 ?_
          refine lv_aload_n hx hb dX5_put_21 rfl (lv_at hl 1 rfl) ?_
          refine g_X5_fed C0 h 0 q_372 rfl rfl dX5_put_22 ?_
          refine lv_iload_n hx hb dX5_put_25 rfl (lv_at hl 2 rfl) ?_
          refine lv_iload_n hx hb dX5_put_26 rfl (lv_at hl 0 rfl) ?_
          refine lv_ishr hx hb dX5_put_27 ?_
          refine lv_i2b (v := (p0 >>> (16 &&& 31)).toInt8.toInt32) hx hb dX5_put_28 rfl ?_
          refine m_bast (ws' := [(a, .inr (5, [.ref (r 1), .ref (z 0), .int 5, .int 0, .int 0, .int 0, .int 0, .int 0, .int 0, .int (-1), .ref (v 0)])), (z 0, .inl (G.2 0, 900, .inl (upd (upd f 4 (vp_nar .byte ((p0 >>> (24 &&& 31)).toInt8.toInt32))) 5 (vp_nar .byte ((p0 >>> (16 &&& 31)).toInt8.toInt32)))))]) C0 h 1 5 rfl (by decide) (by decide) (by decide) rfl dX5_put_29 (fun H locs h => ?_)
          refine lv_aload_n hx hb dX5_put_30 rfl (lv_at hl 1 rfl) ?_
          refine lv_dup hx hb dX5_put_31 rfl ?_
          refine g_X5_fed C0 h 0 q_372 rfl rfl dX5_put_32 ?_
          refine lv_iconst (v := 1) hx hb dX5_put_35 (by decide) ?_
          refine lv_iadd hx hb dX5_put_36 ?_
          refine lv_topi (fun k_6 ek_6 => ?_)
          obtain rfl : k_6 = 6 := ek_6.trans (by decide)
          refine p_X5_fed (ws' := [(a, .inr (5, [.ref (r 1), .ref (z 0), .int 6, .int 0, .int 0, .int 0, .int 0, .int 0, .int 0, .int (-1), .ref (v 0)])), (z 0, .inl (G.2 0, 900, .inl (upd (upd f 4 (vp_nar .byte ((p0 >>> (24 &&& 31)).toInt8.toInt32))) 5 (vp_nar .byte ((p0 >>> (16 &&& 31)).toInt8.toInt32)))))]) C0 h 0 q_372 rfl (Nat.le_of_ble_eq_true rfl) rfl rfl rfl dX5_put_37 (fun H locs h => ?_)
          refine lv_iinc (v := 8) (lv' := [(2, .int 8), (0, .ref a), (1, .int p0)]) hx hb dX5_put_40 hl (k := 0) rfl (by decide) (by decide) rfl (fun ls hl => ?_)
          refine lv_goto (tgt := 3) hx hb dX5_put_43 (by decide) ?_
          refine lv_iload_n hx hb dX5_put_3 rfl (lv_at hl 0 rfl) ?_
          refine lv_if_lt (tgt := 46) hx hb dX5_put_4 (by decide) (fun c_7 => ?_) (fun c_7 => ?_)
          · -- 4 8 < 0
            exact absurd c_7 (by decide)
          · -- 4 ¬ 8 < 0
            refine lv_aload_n hx hb dX5_put_7 rfl (lv_at hl 1 rfl) ?_
            refine g_X5_fed C0 h 0 q_372 rfl rfl dX5_put_8 ?_
            refine lv_sipush (v := 900) hx hb dX5_put_11 (by decide) ?_
            refine lv_icmp_ge (tgt := 46) hx hb dX5_put_14 (by decide) (fun c_8 => ?_) (fun c_8 => ?_)
            · -- 14 900 ≤ 6
              exact absurd c_8 (by decide)
            · -- 14 ¬ 900 ≤ 6
              refine lv_aload_n hx hb dX5_put_17 rfl (lv_at hl 1 rfl) ?_
              refine g_X5_tape C0 h 0 q_371 rfl rfl dX5_put_18 ?_
              refine lv_aload_n hx hb dX5_put_21 rfl (lv_at hl 1 rfl) ?_
              refine g_X5_fed C0 h 0 q_372 rfl rfl dX5_put_22 ?_
              refine lv_iload_n hx hb dX5_put_25 rfl (lv_at hl 2 rfl) ?_
              refine lv_iload_n hx hb dX5_put_26 rfl (lv_at hl 0 rfl) ?_
              refine lv_ishr hx hb dX5_put_27 ?_
              refine lv_i2b (v := (p0 >>> (8 &&& 31)).toInt8.toInt32) hx hb dX5_put_28 rfl ?_
              refine m_bast (ws' := [(a, .inr (5, [.ref (r 1), .ref (z 0), .int 6, .int 0, .int 0, .int 0, .int 0, .int 0, .int 0, .int (-1), .ref (v 0)])), (z 0, .inl (G.2 0, 900, .inl (upd (upd (upd f 4 (vp_nar .byte ((p0 >>> (24 &&& 31)).toInt8.toInt32))) 5 (vp_nar .byte ((p0 >>> (16 &&& 31)).toInt8.toInt32))) 6 (vp_nar .byte ((p0 >>> (8 &&& 31)).toInt8.toInt32)))))]) C0 h 1 6 rfl (by decide) (by decide) (by decide) rfl dX5_put_29 (fun H locs h => ?_)
              refine lv_aload_n hx hb dX5_put_30 rfl (lv_at hl 1 rfl) ?_
              refine lv_dup hx hb dX5_put_31 rfl ?_
              refine g_X5_fed C0 h 0 q_372 rfl rfl dX5_put_32 ?_
              refine lv_iconst (v := 1) hx hb dX5_put_35 (by decide) ?_
              refine lv_iadd hx hb dX5_put_36 ?_
              refine lv_topi (fun k_9 ek_9 => ?_)
              obtain rfl : k_9 = 7 := ek_9.trans (by decide)
              refine p_X5_fed (ws' := [(a, .inr (5, [.ref (r 1), .ref (z 0), .int 7, .int 0, .int 0, .int 0, .int 0, .int 0, .int 0, .int (-1), .ref (v 0)])), (z 0, .inl (G.2 0, 900, .inl (upd (upd (upd f 4 (vp_nar .byte ((p0 >>> (24 &&& 31)).toInt8.toInt32))) 5 (vp_nar .byte ((p0 >>> (16 &&& 31)).toInt8.toInt32))) 6 (vp_nar .byte ((p0 >>> (8 &&& 31)).toInt8.toInt32)))))]) C0 h 0 q_372 rfl (Nat.le_of_ble_eq_true rfl) rfl rfl rfl dX5_put_37 (fun H locs h => ?_)
              refine lv_iinc (v := 0) (lv' := [(2, .int 0), (0, .ref a), (1, .int p0)]) hx hb dX5_put_40 hl (k := 0) rfl (by decide) (by decide) rfl (fun ls hl => ?_)
              refine lv_goto (tgt := 3) hx hb dX5_put_43 (by decide) ?_
              refine lv_iload_n hx hb dX5_put_3 rfl (lv_at hl 0 rfl) ?_
              refine lv_if_lt (tgt := 46) hx hb dX5_put_4 (by decide) (fun c_10 => ?_) (fun c_10 => ?_)
              · -- 4 0 < 0
                exact absurd c_10 (by decide)
              · -- 4 ¬ 0 < 0
                refine lv_aload_n hx hb dX5_put_7 rfl (lv_at hl 1 rfl) ?_
                refine g_X5_fed C0 h 0 q_372 rfl rfl dX5_put_8 ?_
                refine lv_sipush (v := 900) hx hb dX5_put_11 (by decide) ?_
                refine lv_icmp_ge (tgt := 46) hx hb dX5_put_14 (by decide) (fun c_11 => ?_) (fun c_11 => ?_)
                · -- 14 900 ≤ 7
                  exact absurd c_11 (by decide)
                · -- 14 ¬ 900 ≤ 7
                  refine lv_aload_n hx hb dX5_put_17 rfl (lv_at hl 1 rfl) ?_
                  refine g_X5_tape C0 h 0 q_371 rfl rfl dX5_put_18 ?_
                  refine lv_aload_n hx hb dX5_put_21 rfl (lv_at hl 1 rfl) ?_
                  refine g_X5_fed C0 h 0 q_372 rfl rfl dX5_put_22 ?_
                  refine lv_iload_n hx hb dX5_put_25 rfl (lv_at hl 2 rfl) ?_
                  refine lv_iload_n hx hb dX5_put_26 rfl (lv_at hl 0 rfl) ?_
                  refine lv_ishr hx hb dX5_put_27 ?_
                  refine lv_i2b (v := (p0 >>> (0 &&& 31)).toInt8.toInt32) hx hb dX5_put_28 rfl ?_
                  refine m_bast (ws' := [(a, .inr (5, [.ref (r 1), .ref (z 0), .int 7, .int 0, .int 0, .int 0, .int 0, .int 0, .int 0, .int (-1), .ref (v 0)])), (z 0, .inl (G.2 0, 900, .inl (upd (upd (upd (upd f 4 (vp_nar .byte ((p0 >>> (24 &&& 31)).toInt8.toInt32))) 5 (vp_nar .byte ((p0 >>> (16 &&& 31)).toInt8.toInt32))) 6 (vp_nar .byte ((p0 >>> (8 &&& 31)).toInt8.toInt32))) 7 (vp_nar .byte ((p0 >>> (0 &&& 31)).toInt8.toInt32)))))]) C0 h 1 7 rfl (by decide) (by decide) (by decide) rfl dX5_put_29 (fun H locs h => ?_)
                  refine lv_aload_n hx hb dX5_put_30 rfl (lv_at hl 1 rfl) ?_
                  refine lv_dup hx hb dX5_put_31 rfl ?_
                  refine g_X5_fed C0 h 0 q_372 rfl rfl dX5_put_32 ?_
                  refine lv_iconst (v := 1) hx hb dX5_put_35 (by decide) ?_
                  refine lv_iadd hx hb dX5_put_36 ?_
                  refine lv_topi (fun k_12 ek_12 => ?_)
                  obtain rfl : k_12 = 8 := ek_12.trans (by decide)
                  refine p_X5_fed (ws' := [(a, .inr (5, [.ref (r 1), .ref (z 0), .int 8, .int 0, .int 0, .int 0, .int 0, .int 0, .int 0, .int (-1), .ref (v 0)])), (z 0, .inl (G.2 0, 900, .inl (upd (upd (upd (upd f 4 (vp_nar .byte ((p0 >>> (24 &&& 31)).toInt8.toInt32))) 5 (vp_nar .byte ((p0 >>> (16 &&& 31)).toInt8.toInt32))) 6 (vp_nar .byte ((p0 >>> (8 &&& 31)).toInt8.toInt32))) 7 (vp_nar .byte ((p0 >>> (0 &&& 31)).toInt8.toInt32)))))]) C0 h 0 q_372 rfl (Nat.le_of_ble_eq_true rfl) rfl rfl rfl dX5_put_37 (fun H locs h => ?_)
                  refine lv_iinc (v := (-8)) (lv' := [(2, .int (-8)), (0, .ref a), (1, .int p0)]) hx hb dX5_put_40 hl (k := 0) rfl (by decide) (by decide) rfl (fun ls hl => ?_)
                  refine lv_goto (tgt := 3) hx hb dX5_put_43 (by decide) ?_
                  refine lv_iload_n hx hb dX5_put_3 rfl (lv_at hl 0 rfl) ?_
                  refine lv_if_lt (tgt := 46) hx hb dX5_put_4 (by decide) (fun c_13 => ?_) (fun c_13 => ?_)
                  · -- 4 (-8) < 0
                    exact m_vret (upd (upd (upd (upd f 4 (vp_nar .byte ((p0 >>> (24 &&& 31)).toInt8.toInt32))) 5 (vp_nar .byte ((p0 >>> (16 &&& 31)).toInt8.toInt32))) 6 (vp_nar .byte ((p0 >>> (8 &&& 31)).toInt8.toInt32))) 7 (vp_nar .byte ((p0 >>> (0 &&& 31)).toInt8.toInt32))) C0 h [0, 1] (by decide) rfl trivial (Nat.le_of_ble_eq_true rfl) (Nat.le_of_ble_eq_true rfl) dX5_put_46
                  · -- 4 ¬ (-8) < 0
                    exact absurd c_13 (by decide)
set_option maxHeartbeats 4000000 in
set_option maxRecDepth 100000 in
theorem c_X5_put_8 (l : Launch) (G : GG) (a : Nat) (r : Nat → Nat) (v : Nat → Nat) (z : Nat → Nat) (f : Nat → Int32) (p0 : Int32) : Mt l yX5_put cX5_put 3 none 0 0 0 G [.ref a, .int p0] [(a, .inr (5, [.ref (r 1), .ref (z 0), .int 8, .int 0, .int 0, .int 0, .int 0, .int 0, .int 0, .int (-1), .ref (v 0)])), (z 0, .inl (G.2 0, 900, .inl f))] (Rv (S := (Nat → Int32)) G (fun _ => True) (fun g => [(a, .inr (5, [.ref (r 1), .ref (z 0), .int 12, .int 0, .int 0, .int 0, .int 0, .int 0, .int 0, .int (-1), .ref (v 0)])), (z 0, .inl (G.2 0, 900, .inl g))])) := by
  refine Mt.start (by decide) (Nat.le_of_ble_eq_true rfl) ?_
  intro p e s m below meth c A ls C0 hini h hl
  have C0 : Cx p s m _ meth c RX5 cX5_put 3 none := C0
  obtain ⟨hx, hb, hml, hown, hts, -⟩ := id C0
  have hl : lv_has ls 3 [(0, .ref a), (1, .int p0)] := hl
  refine lv_bipush (v := 24) hx hb dX5_put_0 (by decide) ?_
  refine lv_istore_n (lv' := [(2, .int 24), (0, .ref a), (1, .int p0)]) hx hb dX5_put_2 rfl hl (by decide) rfl (fun ls hl => ?_)
  refine lv_iload_n hx hb dX5_put_3 rfl (lv_at hl 0 rfl) ?_
  refine lv_if_lt (tgt := 46) hx hb dX5_put_4 (by decide) (fun c_1 => ?_) (fun c_1 => ?_)
  · -- 4 24 < 0
    exact absurd c_1 (by decide)
  · -- 4 ¬ 24 < 0
    refine lv_aload_n hx hb dX5_put_7 rfl (lv_at hl 1 rfl) ?_
    refine g_X5_fed C0 h 0 q_372 rfl rfl dX5_put_8 ?_
    refine lv_sipush (v := 900) hx hb dX5_put_11 (by decide) ?_
    refine lv_icmp_ge (tgt := 46) hx hb dX5_put_14 (by decide) (fun c_2 => ?_) (fun c_2 => ?_)
    · -- 14 900 ≤ 8
      exact absurd c_2 (by decide)
    · -- 14 ¬ 900 ≤ 8
      refine lv_aload_n hx hb dX5_put_17 rfl (lv_at hl 1 rfl) ?_
      refine g_X5_tape C0 h 0 q_371 rfl rfl dX5_put_18 ?_
      refine lv_aload_n hx hb dX5_put_21 rfl (lv_at hl 1 rfl) ?_
      refine g_X5_fed C0 h 0 q_372 rfl rfl dX5_put_22 ?_
      refine lv_iload_n hx hb dX5_put_25 rfl (lv_at hl 2 rfl) ?_
      refine lv_iload_n hx hb dX5_put_26 rfl (lv_at hl 0 rfl) ?_
      refine lv_ishr hx hb dX5_put_27 ?_
      refine lv_i2b (v := (p0 >>> (24 &&& 31)).toInt8.toInt32) hx hb dX5_put_28 rfl ?_
      refine m_bast (ws' := [(a, .inr (5, [.ref (r 1), .ref (z 0), .int 8, .int 0, .int 0, .int 0, .int 0, .int 0, .int 0, .int (-1), .ref (v 0)])), (z 0, .inl (G.2 0, 900, .inl (upd f 8 (vp_nar .byte ((p0 >>> (24 &&& 31)).toInt8.toInt32)))))]) C0 h 1 8 rfl (by decide) (by decide) (by decide) rfl dX5_put_29 (fun H locs h => ?_)
      refine lv_aload_n hx hb dX5_put_30 rfl (lv_at hl 1 rfl) ?_
      refine lv_dup hx hb dX5_put_31 rfl ?_
      refine g_X5_fed C0 h 0 q_372 rfl rfl dX5_put_32 ?_
      refine lv_iconst (v := 1) hx hb dX5_put_35 (by decide) ?_
      refine lv_iadd hx hb dX5_put_36 ?_
      refine lv_topi (fun k_3 ek_3 => ?_)
      obtain rfl : k_3 = 9 := ek_3.trans (by decide)
      refine p_X5_fed (ws' := [(a, .inr (5, [.ref (r 1), .ref (z 0), .int 9, .int 0, .int 0, .int 0, .int 0, .int 0, .int 0, .int (-1), .ref (v 0)])), (z 0, .inl (G.2 0, 900, .inl (upd f 8 (vp_nar .byte ((p0 >>> (24 &&& 31)).toInt8.toInt32)))))]) C0 h 0 q_372 rfl (Nat.le_of_ble_eq_true rfl) rfl rfl rfl dX5_put_37 (fun H locs h => ?_)
      refine lv_iinc (v := 16) (lv' := [(2, .int 16), (0, .ref a), (1, .int p0)]) hx hb dX5_put_40 hl (k := 0) rfl (by decide) (by decide) rfl (fun ls hl => ?_)
      refine lv_goto (tgt := 3) hx hb dX5_put_43 (by decide) ?_
      refine lv_iload_n hx hb dX5_put_3 rfl (lv_at hl 0 rfl) ?_
      refine lv_if_lt (tgt := 46) hx hb dX5_put_4 (by decide) (fun c_4 => ?_) (fun c_4 => ?_)
      · -- 4 16 < 0
        exact absurd c_4 (by decide)
      · -- 4 ¬ 16 < 0
        refine lv_aload_n hx hb dX5_put_7 rfl (lv_at hl 1 rfl) ?_
        refine g_X5_fed C0 h 0 q_372 rfl rfl dX5_put_8 ?_
        refine lv_sipush (v := 900) hx hb dX5_put_11 (by decide) ?_
        refine lv_icmp_ge (tgt := 46) hx hb dX5_put_14 (by decide) (fun c_5 => ?_) (fun c_5 => ?_)
        · -- 14 900 ≤ 9
          exact absurd c_5 (by decide)
        · -- 14 ¬ 900 ≤ 9
          refine lv_aload_n hx hb dX5_put_17 rfl (lv_at hl 1 rfl) ?_
          refine g_X5_tape C0 h 0 q_371 rfl rfl dX5_put_18 ?_
          refine lv_aload_n hx hb dX5_put_21 rfl (lv_at hl 1 rfl) ?_
          refine g_X5_fed C0 h 0 q_372 rfl rfl dX5_put_22 ?_
          refine lv_iload_n hx hb dX5_put_25 rfl (lv_at hl 2 rfl) ?_
          refine lv_iload_n hx hb dX5_put_26 rfl (lv_at hl 0 rfl) ?_
          refine lv_ishr hx hb dX5_put_27 ?_
          refine lv_i2b (v := (p0 >>> (16 &&& 31)).toInt8.toInt32) hx hb dX5_put_28 rfl ?_
          refine m_bast (ws' := [(a, .inr (5, [.ref (r 1), .ref (z 0), .int 9, .int 0, .int 0, .int 0, .int 0, .int 0, .int 0, .int (-1), .ref (v 0)])), (z 0, .inl (G.2 0, 900, .inl (upd (upd f 8 (vp_nar .byte ((p0 >>> (24 &&& 31)).toInt8.toInt32))) 9 (vp_nar .byte ((p0 >>> (16 &&& 31)).toInt8.toInt32)))))]) C0 h 1 9 rfl (by decide) (by decide) (by decide) rfl dX5_put_29 (fun H locs h => ?_)
          refine lv_aload_n hx hb dX5_put_30 rfl (lv_at hl 1 rfl) ?_
          refine lv_dup hx hb dX5_put_31 rfl ?_
          refine g_X5_fed C0 h 0 q_372 rfl rfl dX5_put_32 ?_
          refine lv_iconst (v := 1) hx hb dX5_put_35 (by decide) ?_
          refine lv_iadd hx hb dX5_put_36 ?_
          refine lv_topi (fun k_6 ek_6 => ?_)
          obtain rfl : k_6 = 10 := ek_6.trans (by decide)
          refine p_X5_fed (ws' := [(a, .inr (5, [.ref (r 1), .ref (z 0), .int 10, .int 0, .int 0, .int 0, .int 0, .int 0, .int 0, .int (-1), .ref (v 0)])), (z 0, .inl (G.2 0, 900, .inl (upd (upd f 8 (vp_nar .byte ((p0 >>> (24 &&& 31)).toInt8.toInt32))) 9 (vp_nar .byte ((p0 >>> (16 &&& 31)).toInt8.toInt32)))))]) C0 h 0 q_372 rfl (Nat.le_of_ble_eq_true rfl) rfl rfl rfl dX5_put_37 (fun H locs h => ?_)
          refine lv_iinc (v := 8) (lv' := [(2, .int 8), (0, .ref a), (1, .int p0)]) hx hb dX5_put_40 hl (k := 0) rfl (by decide) (by decide) rfl (fun ls hl => ?_)
          refine lv_goto (tgt := 3) hx hb dX5_put_43 (by decide) ?_
          refine lv_iload_n hx hb dX5_put_3 rfl (lv_at hl 0 rfl) ?_
          refine lv_if_lt (tgt := 46) hx hb dX5_put_4 (by decide) (fun c_7 => ?_) (fun c_7 => ?_)
          · -- 4 8 < 0
            exact absurd c_7 (by decide)
          · -- 4 ¬ 8 < 0
            refine lv_aload_n hx hb dX5_put_7 rfl (lv_at hl 1 rfl) ?_
            refine g_X5_fed C0 h 0 q_372 rfl rfl dX5_put_8 ?_
            refine lv_sipush (v := 900) hx hb dX5_put_11 (by decide) ?_
            refine lv_icmp_ge (tgt := 46) hx hb dX5_put_14 (by decide) (fun c_8 => ?_) (fun c_8 => ?_)
            · -- 14 900 ≤ 10
              exact absurd c_8 (by decide)
            · -- 14 ¬ 900 ≤ 10
              refine lv_aload_n hx hb dX5_put_17 rfl (lv_at hl 1 rfl) ?_
              refine g_X5_tape C0 h 0 q_371 rfl rfl dX5_put_18 ?_
              refine lv_aload_n hx hb dX5_put_21 rfl (lv_at hl 1 rfl) ?_
              refine g_X5_fed C0 h 0 q_372 rfl rfl dX5_put_22 ?_
              refine lv_iload_n hx hb dX5_put_25 rfl (lv_at hl 2 rfl) ?_
              refine lv_iload_n hx hb dX5_put_26 rfl (lv_at hl 0 rfl) ?_
              refine lv_ishr hx hb dX5_put_27 ?_
              refine lv_i2b (v := (p0 >>> (8 &&& 31)).toInt8.toInt32) hx hb dX5_put_28 rfl ?_
              refine m_bast (ws' := [(a, .inr (5, [.ref (r 1), .ref (z 0), .int 10, .int 0, .int 0, .int 0, .int 0, .int 0, .int 0, .int (-1), .ref (v 0)])), (z 0, .inl (G.2 0, 900, .inl (upd (upd (upd f 8 (vp_nar .byte ((p0 >>> (24 &&& 31)).toInt8.toInt32))) 9 (vp_nar .byte ((p0 >>> (16 &&& 31)).toInt8.toInt32))) 10 (vp_nar .byte ((p0 >>> (8 &&& 31)).toInt8.toInt32)))))]) C0 h 1 10 rfl (by decide) (by decide) (by decide) rfl dX5_put_29 (fun H locs h => ?_)
              refine lv_aload_n hx hb dX5_put_30 rfl (lv_at hl 1 rfl) ?_
              refine lv_dup hx hb dX5_put_31 rfl ?_
              refine g_X5_fed C0 h 0 q_372 rfl rfl dX5_put_32 ?_
              refine lv_iconst (v := 1) hx hb dX5_put_35 (by decide) ?_
              refine lv_iadd hx hb dX5_put_36 ?_
              refine lv_topi (fun k_9 ek_9 => ?_)
              obtain rfl : k_9 = 11 := ek_9.trans (by decide)
              refine p_X5_fed (ws' := [(a, .inr (5, [.ref (r 1), .ref (z 0), .int 11, .int 0, .int 0, .int 0, .int 0, .int 0, .int 0, .int (-1), .ref (v 0)])), (z 0, .inl (G.2 0, 900, .inl (upd (upd (upd f 8 (vp_nar .byte ((p0 >>> (24 &&& 31)).toInt8.toInt32))) 9 (vp_nar .byte ((p0 >>> (16 &&& 31)).toInt8.toInt32))) 10 (vp_nar .byte ((p0 >>> (8 &&& 31)).toInt8.toInt32)))))]) C0 h 0 q_372 rfl (Nat.le_of_ble_eq_true rfl) rfl rfl rfl dX5_put_37 (fun H locs h => ?_)
              refine lv_iinc (v := 0) (lv' := [(2, .int 0), (0, .ref a), (1, .int p0)]) hx hb dX5_put_40 hl (k := 0) rfl (by decide) (by decide) rfl (fun ls hl => ?_)
              refine lv_goto (tgt := 3) hx hb dX5_put_43 (by decide) ?_
              refine lv_iload_n hx hb dX5_put_3 rfl (lv_at hl 0 rfl) ?_
              refine lv_if_lt (tgt := 46) hx hb dX5_put_4 (by decide) (fun c_10 => ?_) (fun c_10 => ?_)
              · -- 4 0 < 0
                exact absurd c_10 (by decide)
              · -- 4 ¬ 0 < 0
                refine lv_aload_n hx hb dX5_put_7 rfl (lv_at hl 1 rfl) ?_
                refine g_X5_fed C0 h 0 q_372 rfl rfl dX5_put_8 ?_
                refine lv_sipush (v := 900) hx hb dX5_put_11 (by decide) ?_
                refine lv_icmp_ge (tgt := 46) hx hb dX5_put_14 (by decide) (fun c_11 => ?_) (fun c_11 => ?_)
                · -- 14 900 ≤ 11
                  exact absurd c_11 (by decide)
                · -- 14 ¬ 900 ≤ 11
                  refine lv_aload_n hx hb dX5_put_17 rfl (lv_at hl 1 rfl) ?_
                  refine g_X5_tape C0 h 0 q_371 rfl rfl dX5_put_18 ?_
                  refine lv_aload_n hx hb dX5_put_21 rfl (lv_at hl 1 rfl) ?_
                  refine g_X5_fed C0 h 0 q_372 rfl rfl dX5_put_22 ?_
                  refine lv_iload_n hx hb dX5_put_25 rfl (lv_at hl 2 rfl) ?_
                  refine lv_iload_n hx hb dX5_put_26 rfl (lv_at hl 0 rfl) ?_
                  refine lv_ishr hx hb dX5_put_27 ?_
                  refine lv_i2b (v := (p0 >>> (0 &&& 31)).toInt8.toInt32) hx hb dX5_put_28 rfl ?_
                  refine m_bast (ws' := [(a, .inr (5, [.ref (r 1), .ref (z 0), .int 11, .int 0, .int 0, .int 0, .int 0, .int 0, .int 0, .int (-1), .ref (v 0)])), (z 0, .inl (G.2 0, 900, .inl (upd (upd (upd (upd f 8 (vp_nar .byte ((p0 >>> (24 &&& 31)).toInt8.toInt32))) 9 (vp_nar .byte ((p0 >>> (16 &&& 31)).toInt8.toInt32))) 10 (vp_nar .byte ((p0 >>> (8 &&& 31)).toInt8.toInt32))) 11 (vp_nar .byte ((p0 >>> (0 &&& 31)).toInt8.toInt32)))))]) C0 h 1 11 rfl (by decide) (by decide) (by decide) rfl dX5_put_29 (fun H locs h => ?_)
                  refine lv_aload_n hx hb dX5_put_30 rfl (lv_at hl 1 rfl) ?_
                  refine lv_dup hx hb dX5_put_31 rfl ?_
                  refine g_X5_fed C0 h 0 q_372 rfl rfl dX5_put_32 ?_
                  refine lv_iconst (v := 1) hx hb dX5_put_35 (by decide) ?_
                  refine lv_iadd hx hb dX5_put_36 ?_
                  refine lv_topi (fun k_12 ek_12 => ?_)
                  obtain rfl : k_12 = 12 := ek_12.trans (by decide)
                  refine p_X5_fed (ws' := [(a, .inr (5, [.ref (r 1), .ref (z 0), .int 12, .int 0, .int 0, .int 0, .int 0, .int 0, .int 0, .int (-1), .ref (v 0)])), (z 0, .inl (G.2 0, 900, .inl (upd (upd (upd (upd f 8 (vp_nar .byte ((p0 >>> (24 &&& 31)).toInt8.toInt32))) 9 (vp_nar .byte ((p0 >>> (16 &&& 31)).toInt8.toInt32))) 10 (vp_nar .byte ((p0 >>> (8 &&& 31)).toInt8.toInt32))) 11 (vp_nar .byte ((p0 >>> (0 &&& 31)).toInt8.toInt32)))))]) C0 h 0 q_372 rfl (Nat.le_of_ble_eq_true rfl) rfl rfl rfl dX5_put_37 (fun H locs h => ?_)
                  refine lv_iinc (v := (-8)) (lv' := [(2, .int (-8)), (0, .ref a), (1, .int p0)]) hx hb dX5_put_40 hl (k := 0) rfl (by decide) (by decide) rfl (fun ls hl => ?_)
                  refine lv_goto (tgt := 3) hx hb dX5_put_43 (by decide) ?_
                  refine lv_iload_n hx hb dX5_put_3 rfl (lv_at hl 0 rfl) ?_
                  refine lv_if_lt (tgt := 46) hx hb dX5_put_4 (by decide) (fun c_13 => ?_) (fun c_13 => ?_)
                  · -- 4 (-8) < 0
                    exact m_vret (upd (upd (upd (upd f 8 (vp_nar .byte ((p0 >>> (24 &&& 31)).toInt8.toInt32))) 9 (vp_nar .byte ((p0 >>> (16 &&& 31)).toInt8.toInt32))) 10 (vp_nar .byte ((p0 >>> (8 &&& 31)).toInt8.toInt32))) 11 (vp_nar .byte ((p0 >>> (0 &&& 31)).toInt8.toInt32))) C0 h [0, 1] (by decide) rfl trivial (Nat.le_of_ble_eq_true rfl) (Nat.le_of_ble_eq_true rfl) dX5_put_46
                  · -- 4 ¬ (-8) < 0
                    exact absurd c_13 (by decide)
set_option maxHeartbeats 4000000 in
set_option maxRecDepth 100000 in
theorem c_X5_put_12 (l : Launch) (G : GG) (a : Nat) (r : Nat → Nat) (v : Nat → Nat) (z : Nat → Nat) (f : Nat → Int32) (p0 : Int32) : Mt l yX5_put cX5_put 3 none 0 0 0 G [.ref a, .int p0] [(a, .inr (5, [.ref (r 1), .ref (z 0), .int 12, .int 0, .int 0, .int 0, .int 0, .int 0, .int 0, .int (-1), .ref (v 0)])), (z 0, .inl (G.2 0, 900, .inl f))] (Rv (S := (Nat → Int32)) G (fun _ => True) (fun g => [(a, .inr (5, [.ref (r 1), .ref (z 0), .int 16, .int 0, .int 0, .int 0, .int 0, .int 0, .int 0, .int (-1), .ref (v 0)])), (z 0, .inl (G.2 0, 900, .inl g))])) := by
  refine Mt.start (by decide) (Nat.le_of_ble_eq_true rfl) ?_
  intro p e s m below meth c A ls C0 hini h hl
  have C0 : Cx p s m _ meth c RX5 cX5_put 3 none := C0
  obtain ⟨hx, hb, hml, hown, hts, -⟩ := id C0
  have hl : lv_has ls 3 [(0, .ref a), (1, .int p0)] := hl
  refine lv_bipush (v := 24) hx hb dX5_put_0 (by decide) ?_
  refine lv_istore_n (lv' := [(2, .int 24), (0, .ref a), (1, .int p0)]) hx hb dX5_put_2 rfl hl (by decide) rfl (fun ls hl => ?_)
  refine lv_iload_n hx hb dX5_put_3 rfl (lv_at hl 0 rfl) ?_
  refine lv_if_lt (tgt := 46) hx hb dX5_put_4 (by decide) (fun c_1 => ?_) (fun c_1 => ?_)
  · -- 4 24 < 0
    exact absurd c_1 (by decide)
  · -- 4 ¬ 24 < 0
    refine lv_aload_n hx hb dX5_put_7 rfl (lv_at hl 1 rfl) ?_
    refine g_X5_fed C0 h 0 q_372 rfl rfl dX5_put_8 ?_
    refine lv_sipush (v := 900) hx hb dX5_put_11 (by decide) ?_
    refine lv_icmp_ge (tgt := 46) hx hb dX5_put_14 (by decide) (fun c_2 => ?_) (fun c_2 => ?_)
    · -- 14 900 ≤ 12
      exact absurd c_2 (by decide)
    · -- 14 ¬ 900 ≤ 12
      refine lv_aload_n hx hb dX5_put_17 rfl (lv_at hl 1 rfl) ?_
      refine g_X5_tape C0 h 0 q_371 rfl rfl dX5_put_18 ?_
      refine lv_aload_n hx hb dX5_put_21 rfl (lv_at hl 1 rfl) ?_
      refine g_X5_fed C0 h 0 q_372 rfl rfl dX5_put_22 ?_
      refine lv_iload_n hx hb dX5_put_25 rfl (lv_at hl 2 rfl) ?_
      refine lv_iload_n hx hb dX5_put_26 rfl (lv_at hl 0 rfl) ?_
      refine lv_ishr hx hb dX5_put_27 ?_
      refine lv_i2b (v := (p0 >>> (24 &&& 31)).toInt8.toInt32) hx hb dX5_put_28 rfl ?_
      refine m_bast (ws' := [(a, .inr (5, [.ref (r 1), .ref (z 0), .int 12, .int 0, .int 0, .int 0, .int 0, .int 0, .int 0, .int (-1), .ref (v 0)])), (z 0, .inl (G.2 0, 900, .inl (upd f 12 (vp_nar .byte ((p0 >>> (24 &&& 31)).toInt8.toInt32)))))]) C0 h 1 12 rfl (by decide) (by decide) (by decide) rfl dX5_put_29 (fun H locs h => ?_)
      refine lv_aload_n hx hb dX5_put_30 rfl (lv_at hl 1 rfl) ?_
      refine lv_dup hx hb dX5_put_31 rfl ?_
      refine g_X5_fed C0 h 0 q_372 rfl rfl dX5_put_32 ?_
      refine lv_iconst (v := 1) hx hb dX5_put_35 (by decide) ?_
      refine lv_iadd hx hb dX5_put_36 ?_
      refine lv_topi (fun k_3 ek_3 => ?_)
      obtain rfl : k_3 = 13 := ek_3.trans (by decide)
      refine p_X5_fed (ws' := [(a, .inr (5, [.ref (r 1), .ref (z 0), .int 13, .int 0, .int 0, .int 0, .int 0, .int 0, .int 0, .int (-1), .ref (v 0)])), (z 0, .inl (G.2 0, 900, .inl (upd f 12 (vp_nar .byte ((p0 >>> (24 &&& 31)).toInt8.toInt32)))))]) C0 h 0 q_372 rfl (Nat.le_of_ble_eq_true rfl) rfl rfl rfl dX5_put_37 (fun H locs h => ?_)
      refine lv_iinc (v := 16) (lv' := [(2, .int 16), (0, .ref a), (1, .int p0)]) hx hb dX5_put_40 hl (k := 0) rfl (by decide) (by decide) rfl (fun ls hl => ?_)
      refine lv_goto (tgt := 3) hx hb dX5_put_43 (by decide) ?_
      refine lv_iload_n hx hb dX5_put_3 rfl (lv_at hl 0 rfl) ?_
      refine lv_if_lt (tgt := 46) hx hb dX5_put_4 (by decide) (fun c_4 => ?_) (fun c_4 => ?_)
      · -- 4 16 < 0
        exact absurd c_4 (by decide)
      · -- 4 ¬ 16 < 0
        refine lv_aload_n hx hb dX5_put_7 rfl (lv_at hl 1 rfl) ?_
        refine g_X5_fed C0 h 0 q_372 rfl rfl dX5_put_8 ?_
        refine lv_sipush (v := 900) hx hb dX5_put_11 (by decide) ?_
        refine lv_icmp_ge (tgt := 46) hx hb dX5_put_14 (by decide) (fun c_5 => ?_) (fun c_5 => ?_)
        · -- 14 900 ≤ 13
          exact absurd c_5 (by decide)
        · -- 14 ¬ 900 ≤ 13
          refine lv_aload_n hx hb dX5_put_17 rfl (lv_at hl 1 rfl) ?_
          refine g_X5_tape C0 h 0 q_371 rfl rfl dX5_put_18 ?_
          refine lv_aload_n hx hb dX5_put_21 rfl (lv_at hl 1 rfl) ?_
          refine g_X5_fed C0 h 0 q_372 rfl rfl dX5_put_22 ?_
          refine lv_iload_n hx hb dX5_put_25 rfl (lv_at hl 2 rfl) ?_
          refine lv_iload_n hx hb dX5_put_26 rfl (lv_at hl 0 rfl) ?_
          refine lv_ishr hx hb dX5_put_27 ?_
          refine lv_i2b (v := (p0 >>> (16 &&& 31)).toInt8.toInt32) hx hb dX5_put_28 rfl ?_
          refine m_bast (ws' := [(a, .inr (5, [.ref (r 1), .ref (z 0), .int 13, .int 0, .int 0, .int 0, .int 0, .int 0, .int 0, .int (-1), .ref (v 0)])), (z 0, .inl (G.2 0, 900, .inl (upd (upd f 12 (vp_nar .byte ((p0 >>> (24 &&& 31)).toInt8.toInt32))) 13 (vp_nar .byte ((p0 >>> (16 &&& 31)).toInt8.toInt32)))))]) C0 h 1 13 rfl (by decide) (by decide) (by decide) rfl dX5_put_29 (fun H locs h => ?_)
          refine lv_aload_n hx hb dX5_put_30 rfl (lv_at hl 1 rfl) ?_
          refine lv_dup hx hb dX5_put_31 rfl ?_
          refine g_X5_fed C0 h 0 q_372 rfl rfl dX5_put_32 ?_
          refine lv_iconst (v := 1) hx hb dX5_put_35 (by decide) ?_
          refine lv_iadd hx hb dX5_put_36 ?_
          refine lv_topi (fun k_6 ek_6 => ?_)
          obtain rfl : k_6 = 14 := ek_6.trans (by decide)
          refine p_X5_fed (ws' := [(a, .inr (5, [.ref (r 1), .ref (z 0), .int 14, .int 0, .int 0, .int 0, .int 0, .int 0, .int 0, .int (-1), .ref (v 0)])), (z 0, .inl (G.2 0, 900, .inl (upd (upd f 12 (vp_nar .byte ((p0 >>> (24 &&& 31)).toInt8.toInt32))) 13 (vp_nar .byte ((p0 >>> (16 &&& 31)).toInt8.toInt32)))))]) C0 h 0 q_372 rfl (Nat.le_of_ble_eq_true rfl) rfl rfl rfl dX5_put_37 (fun H locs h => ?_)
          refine lv_iinc (v := 8) (lv' := [(2, .int 8), (0, .ref a), (1, .int p0)]) hx hb dX5_put_40 hl (k := 0) rfl (by decide) (by decide) rfl (fun ls hl => ?_)
          refine lv_goto (tgt := 3) hx hb dX5_put_43 (by decide) ?_
          refine lv_iload_n hx hb dX5_put_3 rfl (lv_at hl 0 rfl) ?_
          refine lv_if_lt (tgt := 46) hx hb dX5_put_4 (by decide) (fun c_7 => ?_) (fun c_7 => ?_)
          · -- 4 8 < 0
            exact absurd c_7 (by decide)
          · -- 4 ¬ 8 < 0
            refine lv_aload_n hx hb dX5_put_7 rfl (lv_at hl 1 rfl) ?_
            refine g_X5_fed C0 h 0 q_372 rfl rfl dX5_put_8 ?_
            refine lv_sipush (v := 900) hx hb dX5_put_11 (by decide) ?_
            refine lv_icmp_ge (tgt := 46) hx hb dX5_put_14 (by decide) (fun c_8 => ?_) (fun c_8 => ?_)
            · -- 14 900 ≤ 14
              exact absurd c_8 (by decide)
            · -- 14 ¬ 900 ≤ 14
              refine lv_aload_n hx hb dX5_put_17 rfl (lv_at hl 1 rfl) ?_
              refine g_X5_tape C0 h 0 q_371 rfl rfl dX5_put_18 ?_
              refine lv_aload_n hx hb dX5_put_21 rfl (lv_at hl 1 rfl) ?_
              refine g_X5_fed C0 h 0 q_372 rfl rfl dX5_put_22 ?_
              refine lv_iload_n hx hb dX5_put_25 rfl (lv_at hl 2 rfl) ?_
              refine lv_iload_n hx hb dX5_put_26 rfl (lv_at hl 0 rfl) ?_
              refine lv_ishr hx hb dX5_put_27 ?_
              refine lv_i2b (v := (p0 >>> (8 &&& 31)).toInt8.toInt32) hx hb dX5_put_28 rfl ?_
              refine m_bast (ws' := [(a, .inr (5, [.ref (r 1), .ref (z 0), .int 14, .int 0, .int 0, .int 0, .int 0, .int 0, .int 0, .int (-1), .ref (v 0)])), (z 0, .inl (G.2 0, 900, .inl (upd (upd (upd f 12 (vp_nar .byte ((p0 >>> (24 &&& 31)).toInt8.toInt32))) 13 (vp_nar .byte ((p0 >>> (16 &&& 31)).toInt8.toInt32))) 14 (vp_nar .byte ((p0 >>> (8 &&& 31)).toInt8.toInt32)))))]) C0 h 1 14 rfl (by decide) (by decide) (by decide) rfl dX5_put_29 (fun H locs h => ?_)
              refine lv_aload_n hx hb dX5_put_30 rfl (lv_at hl 1 rfl) ?_
              refine lv_dup hx hb dX5_put_31 rfl ?_
              refine g_X5_fed C0 h 0 q_372 rfl rfl dX5_put_32 ?_
              refine lv_iconst (v := 1) hx hb dX5_put_35 (by decide) ?_
              refine lv_iadd hx hb dX5_put_36 ?_
              refine lv_topi (fun k_9 ek_9 => ?_)
              obtain rfl : k_9 = 15 := ek_9.trans (by decide)
              refine p_X5_fed (ws' := [(a, .inr (5, [.ref (r 1), .ref (z 0), .int 15, .int 0, .int 0, .int 0, .int 0, .int 0, .int 0, .int (-1), .ref (v 0)])), (z 0, .inl (G.2 0, 900, .inl (upd (upd (upd f 12 (vp_nar .byte ((p0 >>> (24 &&& 31)).toInt8.toInt32))) 13 (vp_nar .byte ((p0 >>> (16 &&& 31)).toInt8.toInt32))) 14 (vp_nar .byte ((p0 >>> (8 &&& 31)).toInt8.toInt32)))))]) C0 h 0 q_372 rfl (Nat.le_of_ble_eq_true rfl) rfl rfl rfl dX5_put_37 (fun H locs h => ?_)
              refine lv_iinc (v := 0) (lv' := [(2, .int 0), (0, .ref a), (1, .int p0)]) hx hb dX5_put_40 hl (k := 0) rfl (by decide) (by decide) rfl (fun ls hl => ?_)
              refine lv_goto (tgt := 3) hx hb dX5_put_43 (by decide) ?_
              refine lv_iload_n hx hb dX5_put_3 rfl (lv_at hl 0 rfl) ?_
              refine lv_if_lt (tgt := 46) hx hb dX5_put_4 (by decide) (fun c_10 => ?_) (fun c_10 => ?_)
              · -- 4 0 < 0
                exact absurd c_10 (by decide)
              · -- 4 ¬ 0 < 0
                refine lv_aload_n hx hb dX5_put_7 rfl (lv_at hl 1 rfl) ?_
                refine g_X5_fed C0 h 0 q_372 rfl rfl dX5_put_8 ?_
                refine lv_sipush (v := 900) hx hb dX5_put_11 (by decide) ?_
                refine lv_icmp_ge (tgt := 46) hx hb dX5_put_14 (by decide) (fun c_11 => ?_) (fun c_11 => ?_)
                · -- 14 900 ≤ 15
                  exact absurd c_11 (by decide)
                · -- 14 ¬ 900 ≤ 15
                  refine lv_aload_n hx hb dX5_put_17 rfl (lv_at hl 1 rfl) ?_
                  refine g_X5_tape C0 h 0 q_371 rfl rfl dX5_put_18 ?_
                  refine lv_aload_n hx hb dX5_put_21 rfl (lv_at hl 1 rfl) ?_
                  refine g_X5_fed C0 h 0 q_372 rfl rfl dX5_put_22 ?_
                  refine lv_iload_n hx hb dX5_put_25 rfl (lv_at hl 2 rfl) ?_
                  refine lv_iload_n hx hb dX5_put_26 rfl (lv_at hl 0 rfl) ?_
                  refine lv_ishr hx hb dX5_put_27 ?_
                  refine lv_i2b (v := (p0 >>> (0 &&& 31)).toInt8.toInt32) hx hb dX5_put_28 rfl ?_
                  refine m_bast (ws' := [(a, .inr (5, [.ref (r 1), .ref (z 0), .int 15, .int 0, .int 0, .int 0, .int 0, .int 0, .int 0, .int (-1), .ref (v 0)])), (z 0, .inl (G.2 0, 900, .inl (upd (upd (upd (upd f 12 (vp_nar .byte ((p0 >>> (24 &&& 31)).toInt8.toInt32))) 13 (vp_nar .byte ((p0 >>> (16 &&& 31)).toInt8.toInt32))) 14 (vp_nar .byte ((p0 >>> (8 &&& 31)).toInt8.toInt32))) 15 (vp_nar .byte ((p0 >>> (0 &&& 31)).toInt8.toInt32)))))]) C0 h 1 15 rfl (by decide) (by decide) (by decide) rfl dX5_put_29 (fun H locs h => ?_)
                  refine lv_aload_n hx hb dX5_put_30 rfl (lv_at hl 1 rfl) ?_
                  refine lv_dup hx hb dX5_put_31 rfl ?_
                  refine g_X5_fed C0 h 0 q_372 rfl rfl dX5_put_32 ?_
                  refine lv_iconst (v := 1) hx hb dX5_put_35 (by decide) ?_
                  refine lv_iadd hx hb dX5_put_36 ?_
                  refine lv_topi (fun k_12 ek_12 => ?_)
                  obtain rfl : k_12 = 16 := ek_12.trans (by decide)
                  refine p_X5_fed (ws' := [(a, .inr (5, [.ref (r 1), .ref (z 0), .int 16, .int 0, .int 0, .int 0, .int 0, .int 0, .int 0, .int (-1), .ref (v 0)])), (z 0, .inl (G.2 0, 900, .inl (upd (upd (upd (upd f 12 (vp_nar .byte ((p0 >>> (24 &&& 31)).toInt8.toInt32))) 13 (vp_nar .byte ((p0 >>> (16 &&& 31)).toInt8.toInt32))) 14 (vp_nar .byte ((p0 >>> (8 &&& 31)).toInt8.toInt32))) 15 (vp_nar .byte ((p0 >>> (0 &&& 31)).toInt8.toInt32)))))]) C0 h 0 q_372 rfl (Nat.le_of_ble_eq_true rfl) rfl rfl rfl dX5_put_37 (fun H locs h => ?_)
                  refine lv_iinc (v := (-8)) (lv' := [(2, .int (-8)), (0, .ref a), (1, .int p0)]) hx hb dX5_put_40 hl (k := 0) rfl (by decide) (by decide) rfl (fun ls hl => ?_)
                  refine lv_goto (tgt := 3) hx hb dX5_put_43 (by decide) ?_
                  refine lv_iload_n hx hb dX5_put_3 rfl (lv_at hl 0 rfl) ?_
                  refine lv_if_lt (tgt := 46) hx hb dX5_put_4 (by decide) (fun c_13 => ?_) (fun c_13 => ?_)
                  · -- 4 (-8) < 0
                    exact m_vret (upd (upd (upd (upd f 12 (vp_nar .byte ((p0 >>> (24 &&& 31)).toInt8.toInt32))) 13 (vp_nar .byte ((p0 >>> (16 &&& 31)).toInt8.toInt32))) 14 (vp_nar .byte ((p0 >>> (8 &&& 31)).toInt8.toInt32))) 15 (vp_nar .byte ((p0 >>> (0 &&& 31)).toInt8.toInt32))) C0 h [0, 1] (by decide) rfl trivial (Nat.le_of_ble_eq_true rfl) (Nat.le_of_ble_eq_true rfl) dX5_put_46
                  · -- 4 ¬ (-8) < 0
                    exact absurd c_13 (by decide)
set_option maxHeartbeats 4000000 in
set_option maxRecDepth 100000 in
theorem c_X5_put_16 (l : Launch) (G : GG) (a : Nat) (r : Nat → Nat) (v : Nat → Nat) (z : Nat → Nat) (f : Nat → Int32) (p0 : Int32) : Mt l yX5_put cX5_put 3 none 0 0 0 G [.ref a, .int p0] [(a, .inr (5, [.ref (r 1), .ref (z 0), .int 16, .int 0, .int 0, .int 0, .int 0, .int 0, .int 0, .int (-1), .ref (v 0)])), (z 0, .inl (G.2 0, 900, .inl f))] (Rv (S := (Nat → Int32)) G (fun _ => True) (fun g => [(a, .inr (5, [.ref (r 1), .ref (z 0), .int 20, .int 0, .int 0, .int 0, .int 0, .int 0, .int 0, .int (-1), .ref (v 0)])), (z 0, .inl (G.2 0, 900, .inl g))])) := by
  refine Mt.start (by decide) (Nat.le_of_ble_eq_true rfl) ?_
  intro p e s m below meth c A ls C0 hini h hl
  have C0 : Cx p s m _ meth c RX5 cX5_put 3 none := C0
  obtain ⟨hx, hb, hml, hown, hts, -⟩ := id C0
  have hl : lv_has ls 3 [(0, .ref a), (1, .int p0)] := hl
  refine lv_bipush (v := 24) hx hb dX5_put_0 (by decide) ?_
  refine lv_istore_n (lv' := [(2, .int 24), (0, .ref a), (1, .int p0)]) hx hb dX5_put_2 rfl hl (by decide) rfl (fun ls hl => ?_)
  refine lv_iload_n hx hb dX5_put_3 rfl (lv_at hl 0 rfl) ?_
  refine lv_if_lt (tgt := 46) hx hb dX5_put_4 (by decide) (fun c_1 => ?_) (fun c_1 => ?_)
  · -- 4 24 < 0
    exact absurd c_1 (by decide)
  · -- 4 ¬ 24 < 0
    refine lv_aload_n hx hb dX5_put_7 rfl (lv_at hl 1 rfl) ?_
    refine g_X5_fed C0 h 0 q_372 rfl rfl dX5_put_8 ?_
    refine lv_sipush (v := 900) hx hb dX5_put_11 (by decide) ?_
    refine lv_icmp_ge (tgt := 46) hx hb dX5_put_14 (by decide) (fun c_2 => ?_) (fun c_2 => ?_)
    · -- 14 900 ≤ 16
      exact absurd c_2 (by decide)
    · -- 14 ¬ 900 ≤ 16
      refine lv_aload_n hx hb dX5_put_17 rfl (lv_at hl 1 rfl) ?_
      refine g_X5_tape C0 h 0 q_371 rfl rfl dX5_put_18 ?_
      refine lv_aload_n hx hb dX5_put_21 rfl (lv_at hl 1 rfl) ?_
      refine g_X5_fed C0 h 0 q_372 rfl rfl dX5_put_22 ?_
      refine lv_iload_n hx hb dX5_put_25 rfl (lv_at hl 2 rfl) ?_
      refine lv_iload_n hx hb dX5_put_26 rfl (lv_at hl 0 rfl) ?_
      refine lv_ishr hx hb dX5_put_27 ?_
      refine lv_i2b (v := (p0 >>> (24 &&& 31)).toInt8.toInt32) hx hb dX5_put_28 rfl ?_
      refine m_bast (ws' := [(a, .inr (5, [.ref (r 1), .ref (z 0), .int 16, .int 0, .int 0, .int 0, .int 0, .int 0, .int 0, .int (-1), .ref (v 0)])), (z 0, .inl (G.2 0, 900, .inl (upd f 16 (vp_nar .byte ((p0 >>> (24 &&& 31)).toInt8.toInt32)))))]) C0 h 1 16 rfl (by decide) (by decide) (by decide) rfl dX5_put_29 (fun H locs h => ?_)
      refine lv_aload_n hx hb dX5_put_30 rfl (lv_at hl 1 rfl) ?_
      refine lv_dup hx hb dX5_put_31 rfl ?_
      refine g_X5_fed C0 h 0 q_372 rfl rfl dX5_put_32 ?_
      refine lv_iconst (v := 1) hx hb dX5_put_35 (by decide) ?_
      refine lv_iadd hx hb dX5_put_36 ?_
      refine lv_topi (fun k_3 ek_3 => ?_)
      obtain rfl : k_3 = 17 := ek_3.trans (by decide)
      refine p_X5_fed (ws' := [(a, .inr (5, [.ref (r 1), .ref (z 0), .int 17, .int 0, .int 0, .int 0, .int 0, .int 0, .int 0, .int (-1), .ref (v 0)])), (z 0, .inl (G.2 0, 900, .inl (upd f 16 (vp_nar .byte ((p0 >>> (24 &&& 31)).toInt8.toInt32)))))]) C0 h 0 q_372 rfl (Nat.le_of_ble_eq_true rfl) rfl rfl rfl dX5_put_37 (fun H locs h => ?_)
      refine lv_iinc (v := 16) (lv' := [(2, .int 16), (0, .ref a), (1, .int p0)]) hx hb dX5_put_40 hl (k := 0) rfl (by decide) (by decide) rfl (fun ls hl => ?_)
      refine lv_goto (tgt := 3) hx hb dX5_put_43 (by decide) ?_
      refine lv_iload_n hx hb dX5_put_3 rfl (lv_at hl 0 rfl) ?_
      refine lv_if_lt (tgt := 46) hx hb dX5_put_4 (by decide) (fun c_4 => ?_) (fun c_4 => ?_)
      · -- 4 16 < 0
        exact absurd c_4 (by decide)
      · -- 4 ¬ 16 < 0
        refine lv_aload_n hx hb dX5_put_7 rfl (lv_at hl 1 rfl) ?_
        refine g_X5_fed C0 h 0 q_372 rfl rfl dX5_put_8 ?_
        refine lv_sipush (v := 900) hx hb dX5_put_11 (by decide) ?_
        refine lv_icmp_ge (tgt := 46) hx hb dX5_put_14 (by decide) (fun c_5 => ?_) (fun c_5 => ?_)
        · -- 14 900 ≤ 17
          exact absurd c_5 (by decide)
        · -- 14 ¬ 900 ≤ 17
          refine lv_aload_n hx hb dX5_put_17 rfl (lv_at hl 1 rfl) ?_
          refine g_X5_tape C0 h 0 q_371 rfl rfl dX5_put_18 ?_
          refine lv_aload_n hx hb dX5_put_21 rfl (lv_at hl 1 rfl) ?_
          refine g_X5_fed C0 h 0 q_372 rfl rfl dX5_put_22 ?_
          refine lv_iload_n hx hb dX5_put_25 rfl (lv_at hl 2 rfl) ?_
          refine lv_iload_n hx hb dX5_put_26 rfl (lv_at hl 0 rfl) ?_
          refine lv_ishr hx hb dX5_put_27 ?_
          refine lv_i2b (v := (p0 >>> (16 &&& 31)).toInt8.toInt32) hx hb dX5_put_28 rfl ?_
          refine m_bast (ws' := [(a, .inr (5, [.ref (r 1), .ref (z 0), .int 17, .int 0, .int 0, .int 0, .int 0, .int 0, .int 0, .int (-1), .ref (v 0)])), (z 0, .inl (G.2 0, 900, .inl (upd (upd f 16 (vp_nar .byte ((p0 >>> (24 &&& 31)).toInt8.toInt32))) 17 (vp_nar .byte ((p0 >>> (16 &&& 31)).toInt8.toInt32)))))]) C0 h 1 17 rfl (by decide) (by decide) (by decide) rfl dX5_put_29 (fun H locs h => ?_)
          refine lv_aload_n hx hb dX5_put_30 rfl (lv_at hl 1 rfl) ?_
          refine lv_dup hx hb dX5_put_31 rfl ?_
          refine g_X5_fed C0 h 0 q_372 rfl rfl dX5_put_32 ?_
          refine lv_iconst (v := 1) hx hb dX5_put_35 (by decide) ?_
          refine lv_iadd hx hb dX5_put_36 ?_
          refine lv_topi (fun k_6 ek_6 => ?_)
          obtain rfl : k_6 = 18 := ek_6.trans (by decide)
          refine p_X5_fed (ws' := [(a, .inr (5, [.ref (r 1), .ref (z 0), .int 18, .int 0, .int 0, .int 0, .int 0, .int 0, .int 0, .int (-1), .ref (v 0)])), (z 0, .inl (G.2 0, 900, .inl (upd (upd f 16 (vp_nar .byte ((p0 >>> (24 &&& 31)).toInt8.toInt32))) 17 (vp_nar .byte ((p0 >>> (16 &&& 31)).toInt8.toInt32)))))]) C0 h 0 q_372 rfl (Nat.le_of_ble_eq_true rfl) rfl rfl rfl dX5_put_37 (fun H locs h => ?_)
          refine lv_iinc (v := 8) (lv' := [(2, .int 8), (0, .ref a), (1, .int p0)]) hx hb dX5_put_40 hl (k := 0) rfl (by decide) (by decide) rfl (fun ls hl => ?_)
          refine lv_goto (tgt := 3) hx hb dX5_put_43 (by decide) ?_
          refine lv_iload_n hx hb dX5_put_3 rfl (lv_at hl 0 rfl) ?_
          refine lv_if_lt (tgt := 46) hx hb dX5_put_4 (by decide) (fun c_7 => ?_) (fun c_7 => ?_)
          · -- 4 8 < 0
            exact absurd c_7 (by decide)
          · -- 4 ¬ 8 < 0
            refine lv_aload_n hx hb dX5_put_7 rfl (lv_at hl 1 rfl) ?_
            refine g_X5_fed C0 h 0 q_372 rfl rfl dX5_put_8 ?_
            refine lv_sipush (v := 900) hx hb dX5_put_11 (by decide) ?_
            refine lv_icmp_ge (tgt := 46) hx hb dX5_put_14 (by decide) (fun c_8 => ?_) (fun c_8 => ?_)
            · -- 14 900 ≤ 18
              exact absurd c_8 (by decide)
            · -- 14 ¬ 900 ≤ 18
              refine lv_aload_n hx hb dX5_put_17 rfl (lv_at hl 1 rfl) ?_
              refine g_X5_tape C0 h 0 q_371 rfl rfl dX5_put_18 ?_
              refine lv_aload_n hx hb dX5_put_21 rfl (lv_at hl 1 rfl) ?_
              refine g_X5_fed C0 h 0 q_372 rfl rfl dX5_put_22 ?_
              refine lv_iload_n hx hb dX5_put_25 rfl (lv_at hl 2 rfl) ?_
              refine lv_iload_n hx hb dX5_put_26 rfl (lv_at hl 0 rfl) ?_
              refine lv_ishr hx hb dX5_put_27 ?_
              refine lv_i2b (v := (p0 >>> (8 &&& 31)).toInt8.toInt32) hx hb dX5_put_28 rfl ?_
              refine m_bast (ws' := [(a, .inr (5, [.ref (r 1), .ref (z 0), .int 18, .int 0, .int 0, .int 0, .int 0, .int 0, .int 0, .int (-1), .ref (v 0)])), (z 0, .inl (G.2 0, 900, .inl (upd (upd (upd f 16 (vp_nar .byte ((p0 >>> (24 &&& 31)).toInt8.toInt32))) 17 (vp_nar .byte ((p0 >>> (16 &&& 31)).toInt8.toInt32))) 18 (vp_nar .byte ((p0 >>> (8 &&& 31)).toInt8.toInt32)))))]) C0 h 1 18 rfl (by decide) (by decide) (by decide) rfl dX5_put_29 (fun H locs h => ?_)
              refine lv_aload_n hx hb dX5_put_30 rfl (lv_at hl 1 rfl) ?_
              refine lv_dup hx hb dX5_put_31 rfl ?_
              refine g_X5_fed C0 h 0 q_372 rfl rfl dX5_put_32 ?_
              refine lv_iconst (v := 1) hx hb dX5_put_35 (by decide) ?_
              refine lv_iadd hx hb dX5_put_36 ?_
              refine lv_topi (fun k_9 ek_9 => ?_)
              obtain rfl : k_9 = 19 := ek_9.trans (by decide)
              refine p_X5_fed (ws' := [(a, .inr (5, [.ref (r 1), .ref (z 0), .int 19, .int 0, .int 0, .int 0, .int 0, .int 0, .int 0, .int (-1), .ref (v 0)])), (z 0, .inl (G.2 0, 900, .inl (upd (upd (upd f 16 (vp_nar .byte ((p0 >>> (24 &&& 31)).toInt8.toInt32))) 17 (vp_nar .byte ((p0 >>> (16 &&& 31)).toInt8.toInt32))) 18 (vp_nar .byte ((p0 >>> (8 &&& 31)).toInt8.toInt32)))))]) C0 h 0 q_372 rfl (Nat.le_of_ble_eq_true rfl) rfl rfl rfl dX5_put_37 (fun H locs h => ?_)
              refine lv_iinc (v := 0) (lv' := [(2, .int 0), (0, .ref a), (1, .int p0)]) hx hb dX5_put_40 hl (k := 0) rfl (by decide) (by decide) rfl (fun ls hl => ?_)
              refine lv_goto (tgt := 3) hx hb dX5_put_43 (by decide) ?_
              refine lv_iload_n hx hb dX5_put_3 rfl (lv_at hl 0 rfl) ?_
              refine lv_if_lt (tgt := 46) hx hb dX5_put_4 (by decide) (fun c_10 => ?_) (fun c_10 => ?_)
              · -- 4 0 < 0
                exact absurd c_10 (by decide)
              · -- 4 ¬ 0 < 0
                refine lv_aload_n hx hb dX5_put_7 rfl (lv_at hl 1 rfl) ?_
                refine g_X5_fed C0 h 0 q_372 rfl rfl dX5_put_8 ?_
                refine lv_sipush (v := 900) hx hb dX5_put_11 (by decide) ?_
                refine lv_icmp_ge (tgt := 46) hx hb dX5_put_14 (by decide) (fun c_11 => ?_) (fun c_11 => ?_)
                · -- 14 900 ≤ 19
                  exact absurd c_11 (by decide)
                · -- 14 ¬ 900 ≤ 19
                  refine lv_aload_n hx hb dX5_put_17 rfl (lv_at hl 1 rfl) ?_
                  refine g_X5_tape C0 h 0 q_371 rfl rfl dX5_put_18 ?_
                  refine lv_aload_n hx hb dX5_put_21 rfl (lv_at hl 1 rfl) ?_
                  refine g_X5_fed C0 h 0 q_372 rfl rfl dX5_put_22 ?_
                  refine lv_iload_n hx hb dX5_put_25 rfl (lv_at hl 2 rfl) ?_
                  refine lv_iload_n hx hb dX5_put_26 rfl (lv_at hl 0 rfl) ?_
                  refine lv_ishr hx hb dX5_put_27 ?_
                  refine lv_i2b (v := (p0 >>> (0 &&& 31)).toInt8.toInt32) hx hb dX5_put_28 rfl ?_
                  refine m_bast (ws' := [(a, .inr (5, [.ref (r 1), .ref (z 0), .int 19, .int 0, .int 0, .int 0, .int 0, .int 0, .int 0, .int (-1), .ref (v 0)])), (z 0, .inl (G.2 0, 900, .inl (upd (upd (upd (upd f 16 (vp_nar .byte ((p0 >>> (24 &&& 31)).toInt8.toInt32))) 17 (vp_nar .byte ((p0 >>> (16 &&& 31)).toInt8.toInt32))) 18 (vp_nar .byte ((p0 >>> (8 &&& 31)).toInt8.toInt32))) 19 (vp_nar .byte ((p0 >>> (0 &&& 31)).toInt8.toInt32)))))]) C0 h 1 19 rfl (by decide) (by decide) (by decide) rfl dX5_put_29 (fun H locs h => ?_)
                  refine lv_aload_n hx hb dX5_put_30 rfl (lv_at hl 1 rfl) ?_
                  refine lv_dup hx hb dX5_put_31 rfl ?_
                  refine g_X5_fed C0 h 0 q_372 rfl rfl dX5_put_32 ?_
                  refine lv_iconst (v := 1) hx hb dX5_put_35 (by decide) ?_
                  refine lv_iadd hx hb dX5_put_36 ?_
                  refine lv_topi (fun k_12 ek_12 => ?_)
                  obtain rfl : k_12 = 20 := ek_12.trans (by decide)
                  refine p_X5_fed (ws' := [(a, .inr (5, [.ref (r 1), .ref (z 0), .int 20, .int 0, .int 0, .int 0, .int 0, .int 0, .int 0, .int (-1), .ref (v 0)])), (z 0, .inl (G.2 0, 900, .inl (upd (upd (upd (upd f 16 (vp_nar .byte ((p0 >>> (24 &&& 31)).toInt8.toInt32))) 17 (vp_nar .byte ((p0 >>> (16 &&& 31)).toInt8.toInt32))) 18 (vp_nar .byte ((p0 >>> (8 &&& 31)).toInt8.toInt32))) 19 (vp_nar .byte ((p0 >>> (0 &&& 31)).toInt8.toInt32)))))]) C0 h 0 q_372 rfl (Nat.le_of_ble_eq_true rfl) rfl rfl rfl dX5_put_37 (fun H locs h => ?_)
                  refine lv_iinc (v := (-8)) (lv' := [(2, .int (-8)), (0, .ref a), (1, .int p0)]) hx hb dX5_put_40 hl (k := 0) rfl (by decide) (by decide) rfl (fun ls hl => ?_)
                  refine lv_goto (tgt := 3) hx hb dX5_put_43 (by decide) ?_
                  refine lv_iload_n hx hb dX5_put_3 rfl (lv_at hl 0 rfl) ?_
                  refine lv_if_lt (tgt := 46) hx hb dX5_put_4 (by decide) (fun c_13 => ?_) (fun c_13 => ?_)
                  · -- 4 (-8) < 0
                    exact m_vret (upd (upd (upd (upd f 16 (vp_nar .byte ((p0 >>> (24 &&& 31)).toInt8.toInt32))) 17 (vp_nar .byte ((p0 >>> (16 &&& 31)).toInt8.toInt32))) 18 (vp_nar .byte ((p0 >>> (8 &&& 31)).toInt8.toInt32))) 19 (vp_nar .byte ((p0 >>> (0 &&& 31)).toInt8.toInt32))) C0 h [0, 1] (by decide) rfl trivial (Nat.le_of_ble_eq_true rfl) (Nat.le_of_ble_eq_true rfl) dX5_put_46
                  · -- 4 ¬ (-8) < 0
                    exact absurd c_13 (by decide)
set_option maxHeartbeats 4000000 in
set_option maxRecDepth 100000 in
theorem c_X11_feed (l : Launch) (G : GG) (x : Nat) (r : Nat → Nat) (v : Nat → Nat) (z : Nat → Nat) (p0 : Int32) (p1 : Int32) (p2 : Int32) (p3 : Int32) (p4 : Int32) : Mt l yX11_feed cX11_feed 6 (some .int) 3 0 0 G [.ref x, .int p0, .int p1, .int p2, .int p3, .int p4] [(x, .inr (11, [.ref (r 0), .ref (r 1), .ref (r 2), .ref (r 3), .ref (r 4), .ref (r 5), .ref (r 6), .ref (r 7), .ref (r 8), .ref (r 9), .ref (r 10), .ref (r 11), .ref (r 12), .ref (r 13), .ref (r 14), .ref (r 15), .int 0, .int 0, .int 0])), (r 2, .inr (5, [.ref (r 1), .ref (z 0), .int 0, .int 0, .int 0, .int 0, .int 0, .int 0, .int 0, .int (-1), .ref (v 0)])), (z 0, .inl (G.2 0, 900, .inl (fun _ => 0)))] (Ri (S := Unit) G (fun r _ => r = 20) (fun _ => [])) := by
  refine Mt.start (by decide) (Nat.le_of_ble_eq_true rfl) ?_
  intro p e s m below meth c A ls C0 hini h hl
  have C0 : Cx p s m _ meth c RX11 cX11_feed 6 (some .int) := C0
  obtain ⟨hx, hb, hml, hown, hts, -⟩ := id C0
  have hl : lv_has ls 6 [(0, .ref x), (1, .int p0), (2, .int p1), (3, .int p2), (4, .int p3), (5, .int p4)] := hl
  refine lv_aload_n hx hb dX11_feed_0 rfl (lv_at hl 0 rfl) ?_
  refine g_X11_reader C0 h 0 q_517 rfl rfl dX11_feed_1 ?_
  refine m_cli (wr := [(x, .inr (11, [.ref (r 0), .ref (r 1), .ref (r 2), .ref (r 3), .ref (r 4), .ref (r 5), .ref (r 6), .ref (r 7), .ref (r 8), .ref (r 9), .ref (r 10), .ref (r 11), .ref (r 12), .ref (r 13), .ref (r 14), .ref (r 15), .int 0, .int 0, .int 0])), (z 0, .inl (G.2 0, 900, .inl (fun _ => 0)))]) h (m_rV (ci := 5) (q0 := 1) (As := []) (rest := []) C0 h (c_X5_hasRoom l G (r 2) r v z) k_X5_hasRoom q_579 q_580 q_578 rfl rfl rfl [1] (by decide) rfl hl.1 rfl rfl (Nat.le_of_ble_eq_true rfl) dX11_feed_4 ⟨Nat.le_of_ble_eq_true rfl, Nat.le_of_ble_eq_true rfl⟩ ⟨Nat.le_of_ble_eq_true rfl, Nat.le_of_ble_eq_true rfl⟩) [1] [0, 2] rfl rfl (by decide) (by decide) (fun r_3 u_1 H locs hp_2 h => ?_)
  have h : Wd G A s H locs [(x, .inr (11, [.ref (r 0), .ref (r 1), .ref (r 2), .ref (r 3), .ref (r 4), .ref (r 5), .ref (r 6), .ref (r 7), .ref (r 8), .ref (r 9), .ref (r 10), .ref (r 11), .ref (r 12), .ref (r 13), .ref (r 14), .ref (r 15), .int 0, .int 0, .int 0])), (z 0, .inl (G.2 0, 900, .inl (fun _ => 0))), (r 2, .inr (5, [.ref (r 1), .ref (z 0), .int 0, .int 0, .int 0, .int 0, .int 0, .int 0, .int 0, .int (-1), .ref (v 0)]))] := h
  obtain rfl : r_3 = 1 := hp_2
  refine lv_if_ne (tgt := 13) hx hb dX11_feed_7 (by decide) (fun c_4 => ?_) (fun c_4 => ?_)
  · -- 7 ¬ 1 = 0
    refine lv_aload_n hx hb dX11_feed_13 rfl (lv_at hl 0 rfl) ?_
    refine g_X11_reader C0 h 0 q_517 rfl rfl dX11_feed_14 ?_
    refine lv_iload_n hx hb dX11_feed_17 rfl (lv_at hl 1 rfl) ?_
    refine m_clv (wr := [(x, .inr (11, [.ref (r 0), .ref (r 1), .ref (r 2), .ref (r 3), .ref (r 4), .ref (r 5), .ref (r 6), .ref (r 7), .ref (r 8), .ref (r 9), .ref (r 10), .ref (r 11), .ref (r 12), .ref (r 13), .ref (r 14), .ref (r 15), .int 0, .int 0, .int 0]))]) h (m_rV (ci := 5) (q0 := 2) (As := [.int p0]) (rest := []) C0 h (c_X5_put_0 l G (r 2) r v z (fun _ => 0) p0) k_X5_put q_583 q_584 q_582 rfl rfl rfl [2, 1] (by decide) rfl hl.1 rfl rfl (Nat.le_of_ble_eq_true rfl) dX11_feed_18 ⟨Nat.le_of_ble_eq_true rfl, Nat.le_of_ble_eq_true rfl⟩ ⟨Nat.le_of_ble_eq_true rfl, Nat.le_of_ble_eq_true rfl⟩) [2, 1] [0] rfl rfl (by decide) (by decide) (fun u_5 H locs hp_6 h => ?_)
    have h : Wd G A s H locs [(x, .inr (11, [.ref (r 0), .ref (r 1), .ref (r 2), .ref (r 3), .ref (r 4), .ref (r 5), .ref (r 6), .ref (r 7), .ref (r 8), .ref (r 9), .ref (r 10), .ref (r 11), .ref (r 12), .ref (r 13), .ref (r 14), .ref (r 15), .int 0, .int 0, .int 0])), (r 2, .inr (5, [.ref (r 1), .ref (z 0), .int 4, .int 0, .int 0, .int 0, .int 0, .int 0, .int 0, .int (-1), .ref (v 0)])), (z 0, .inl (G.2 0, 900, .inl u_5))] := h
    refine lv_aload_n hx hb dX11_feed_21 rfl (lv_at hl 0 rfl) ?_
    refine g_X11_reader C0 h 0 q_517 rfl rfl dX11_feed_22 ?_
    refine lv_iload_n hx hb dX11_feed_25 rfl (lv_at hl 2 rfl) ?_
    refine m_clv (wr := [(x, .inr (11, [.ref (r 0), .ref (r 1), .ref (r 2), .ref (r 3), .ref (r 4), .ref (r 5), .ref (r 6), .ref (r 7), .ref (r 8), .ref (r 9), .ref (r 10), .ref (r 11), .ref (r 12), .ref (r 13), .ref (r 14), .ref (r 15), .int 0, .int 0, .int 0]))]) h (m_rV (ci := 5) (q0 := 1) (As := [.int p1]) (rest := []) C0 h (c_X5_put_4 l G (r 2) r v z u_5 p1) k_X5_put q_583 q_584 q_582 rfl rfl rfl [1, 2] (by decide) rfl hl.1 rfl rfl (Nat.le_of_ble_eq_true rfl) dX11_feed_26 ⟨Nat.le_of_ble_eq_true rfl, Nat.le_of_ble_eq_true rfl⟩ ⟨Nat.le_of_ble_eq_true rfl, Nat.le_of_ble_eq_true rfl⟩) [1, 2] [0] rfl rfl (by decide) (by decide) (fun u_7 H locs hp_8 h => ?_)
    have h : Wd G A s H locs [(x, .inr (11, [.ref (r 0), .ref (r 1), .ref (r 2), .ref (r 3), .ref (r 4), .ref (r 5), .ref (r 6), .ref (r 7), .ref (r 8), .ref (r 9), .ref (r 10), .ref (r 11), .ref (r 12), .ref (r 13), .ref (r 14), .ref (r 15), .int 0, .int 0, .int 0])), (r 2, .inr (5, [.ref (r 1), .ref (z 0), .int 8, .int 0, .int 0, .int 0, .int 0, .int 0, .int 0, .int (-1), .ref (v 0)])), (z 0, .inl (G.2 0, 900, .inl u_7))] := h
    refine lv_aload_n hx hb dX11_feed_29 rfl (lv_at hl 0 rfl) ?_
    refine g_X11_reader C0 h 0 q_517 rfl rfl dX11_feed_30 ?_
    refine lv_iload_n hx hb dX11_feed_33 rfl (lv_at hl 3 rfl) ?_
    refine m_clv (wr := [(x, .inr (11, [.ref (r 0), .ref (r 1), .ref (r 2), .ref (r 3), .ref (r 4), .ref (r 5), .ref (r 6), .ref (r 7), .ref (r 8), .ref (r 9), .ref (r 10), .ref (r 11), .ref (r 12), .ref (r 13), .ref (r 14), .ref (r 15), .int 0, .int 0, .int 0]))]) h (m_rV (ci := 5) (q0 := 1) (As := [.int p2]) (rest := []) C0 h (c_X5_put_8 l G (r 2) r v z u_7 p2) k_X5_put q_583 q_584 q_582 rfl rfl rfl [1, 2] (by decide) rfl hl.1 rfl rfl (Nat.le_of_ble_eq_true rfl) dX11_feed_34 ⟨Nat.le_of_ble_eq_true rfl, Nat.le_of_ble_eq_true rfl⟩ ⟨Nat.le_of_ble_eq_true rfl, Nat.le_of_ble_eq_true rfl⟩) [1, 2] [0] rfl rfl (by decide) (by decide) (fun u_9 H locs hp_10 h => ?_)
    have h : Wd G A s H locs [(x, .inr (11, [.ref (r 0), .ref (r 1), .ref (r 2), .ref (r 3), .ref (r 4), .ref (r 5), .ref (r 6), .ref (r 7), .ref (r 8), .ref (r 9), .ref (r 10), .ref (r 11), .ref (r 12), .ref (r 13), .ref (r 14), .ref (r 15), .int 0, .int 0, .int 0])), (r 2, .inr (5, [.ref (r 1), .ref (z 0), .int 12, .int 0, .int 0, .int 0, .int 0, .int 0, .int 0, .int (-1), .ref (v 0)])), (z 0, .inl (G.2 0, 900, .inl u_9))] := h
    refine lv_aload_n hx hb dX11_feed_37 rfl (lv_at hl 0 rfl) ?_
    refine g_X11_reader C0 h 0 q_517 rfl rfl dX11_feed_38 ?_
    refine lv_iload hx hb dX11_feed_41 (lv_at hl 4 rfl) ?_
    refine m_clv (wr := [(x, .inr (11, [.ref (r 0), .ref (r 1), .ref (r 2), .ref (r 3), .ref (r 4), .ref (r 5), .ref (r 6), .ref (r 7), .ref (r 8), .ref (r 9), .ref (r 10), .ref (r 11), .ref (r 12), .ref (r 13), .ref (r 14), .ref (r 15), .int 0, .int 0, .int 0]))]) h (m_rV (ci := 5) (q0 := 1) (As := [.int p3]) (rest := []) C0 h (c_X5_put_12 l G (r 2) r v z u_9 p3) k_X5_put q_583 q_584 q_582 rfl rfl rfl [1, 2] (by decide) rfl hl.1 rfl rfl (Nat.le_of_ble_eq_true rfl) dX11_feed_43 ⟨Nat.le_of_ble_eq_true rfl, Nat.le_of_ble_eq_true rfl⟩ ⟨Nat.le_of_ble_eq_true rfl, Nat.le_of_ble_eq_true rfl⟩) [1, 2] [0] rfl rfl (by decide) (by decide) (fun u_11 H locs hp_12 h => ?_)
    have h : Wd G A s H locs [(x, .inr (11, [.ref (r 0), .ref (r 1), .ref (r 2), .ref (r 3), .ref (r 4), .ref (r 5), .ref (r 6), .ref (r 7), .ref (r 8), .ref (r 9), .ref (r 10), .ref (r 11), .ref (r 12), .ref (r 13), .ref (r 14), .ref (r 15), .int 0, .int 0, .int 0])), (r 2, .inr (5, [.ref (r 1), .ref (z 0), .int 16, .int 0, .int 0, .int 0, .int 0, .int 0, .int 0, .int (-1), .ref (v 0)])), (z 0, .inl (G.2 0, 900, .inl u_11))] := h
    refine lv_aload_n hx hb dX11_feed_46 rfl (lv_at hl 0 rfl) ?_
    refine g_X11_reader C0 h 0 q_517 rfl rfl dX11_feed_47 ?_
    refine lv_iload hx hb dX11_feed_50 (lv_at hl 5 rfl) ?_
    refine m_clv (wr := [(x, .inr (11, [.ref (r 0), .ref (r 1), .ref (r 2), .ref (r 3), .ref (r 4), .ref (r 5), .ref (r 6), .ref (r 7), .ref (r 8), .ref (r 9), .ref (r 10), .ref (r 11), .ref (r 12), .ref (r 13), .ref (r 14), .ref (r 15), .int 0, .int 0, .int 0]))]) h (m_rV (ci := 5) (q0 := 1) (As := [.int p4]) (rest := []) C0 h (c_X5_put_16 l G (r 2) r v z u_11 p4) k_X5_put q_583 q_584 q_582 rfl rfl rfl [1, 2] (by decide) rfl hl.1 rfl rfl (Nat.le_of_ble_eq_true rfl) dX11_feed_52 ⟨Nat.le_of_ble_eq_true rfl, Nat.le_of_ble_eq_true rfl⟩ ⟨Nat.le_of_ble_eq_true rfl, Nat.le_of_ble_eq_true rfl⟩) [1, 2] [0] rfl rfl (by decide) (by decide) (fun u_13 H locs hp_14 h => ?_)
    have h : Wd G A s H locs [(x, .inr (11, [.ref (r 0), .ref (r 1), .ref (r 2), .ref (r 3), .ref (r 4), .ref (r 5), .ref (r 6), .ref (r 7), .ref (r 8), .ref (r 9), .ref (r 10), .ref (r 11), .ref (r 12), .ref (r 13), .ref (r 14), .ref (r 15), .int 0, .int 0, .int 0])), (r 2, .inr (5, [.ref (r 1), .ref (z 0), .int 20, .int 0, .int 0, .int 0, .int 0, .int 0, .int 0, .int (-1), .ref (v 0)])), (z 0, .inl (G.2 0, 900, .inl u_13))] := h
    refine lv_aload_n hx hb dX11_feed_55 rfl (lv_at hl 0 rfl) ?_
    refine g_X11_reader C0 h 0 q_517 rfl rfl dX11_feed_56 ?_
    refine m_cli (wr := [(x, .inr (11, [.ref (r 0), .ref (r 1), .ref (r 2), .ref (r 3), .ref (r 4), .ref (r 5), .ref (r 6), .ref (r 7), .ref (r 8), .ref (r 9), .ref (r 10), .ref (r 11), .ref (r 12), .ref (r 13), .ref (r 14), .ref (r 15), .int 0, .int 0, .int 0])), (z 0, .inl (G.2 0, 900, .inl u_13))]) h (m_rV (ci := 5) (q0 := 1) (As := []) (rest := []) C0 h (c_X5_fed_20 l G (r 2) r v z) k_X5_fed q_587 q_588 q_586 rfl rfl rfl [1] (by decide) rfl hl.1 rfl rfl (Nat.le_of_ble_eq_true rfl) dX11_feed_59 ⟨Nat.le_of_ble_eq_true rfl, Nat.le_of_ble_eq_true rfl⟩ ⟨Nat.le_of_ble_eq_true rfl, Nat.le_of_ble_eq_true rfl⟩) [1] [0, 2] rfl rfl (by decide) (by decide) (fun r_17 u_15 H locs hp_16 h => ?_)
    have h : Wd G A s H locs [(x, .inr (11, [.ref (r 0), .ref (r 1), .ref (r 2), .ref (r 3), .ref (r 4), .ref (r 5), .ref (r 6), .ref (r 7), .ref (r 8), .ref (r 9), .ref (r 10), .ref (r 11), .ref (r 12), .ref (r 13), .ref (r 14), .ref (r 15), .int 0, .int 0, .int 0])), (z 0, .inl (G.2 0, 900, .inl u_13)), (r 2, .inr (5, [.ref (r 1), .ref (z 0), .int 20, .int 0, .int 0, .int 0, .int 0, .int 0, .int 0, .int (-1), .ref (v 0)]))] := h
    obtain rfl : r_17 = 20 := hp_16
    exact m_iret () C0 h [] (by decide) rfl rfl (Nat.le_of_ble_eq_true rfl) (Nat.le_of_ble_eq_true rfl) dX11_feed_62
  · -- 7 1 = 0
    exact absurd c_4 (by decide)
end
