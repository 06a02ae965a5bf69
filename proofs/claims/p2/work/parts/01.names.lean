-- ===== PART A: goes FIRST, ahead of the names: the tables' words, and 'selects' of the private methods out of them =====
/-- a private method of a class that the tables say can be made, by its rows of tables_1 -/
def lw_okq (q : MethodName × Nat) : Prop := (q.1.cls ≠ "java/lang/invoke/MethodHandle" ∧ q.1.cls ≠ "java/lang/invoke/VarHandle") ∧ Cond.instantiable q.1.cls q.2 ∈ tables_1 ∧ Cond.privateMethod q.1 ∈ tables_1 ∧ Cond.instanceMethod q.1 ∈ tables_1
theorem lw_p0 : lw_okq (⟨"HeadStart", "refuse", "(I)I"⟩, 16) := ⟨⟨by decide +kernel, by decide +kernel⟩, List.mem_of_getElem? (i := 11) (by decide +kernel), List.mem_of_getElem? (i := 246) (by decide +kernel), List.mem_of_getElem? (i := 247) (by decide +kernel)⟩
theorem lw_p1 : lw_okq (⟨"HeadStart", "refuseLong", "(I)J"⟩, 16) := ⟨⟨by decide +kernel, by decide +kernel⟩, List.mem_of_getElem? (i := 11) (by decide +kernel), List.mem_of_getElem? (i := 433) (by decide +kernel), List.mem_of_getElem? (i := 434) (by decide +kernel)⟩
theorem lw_p2 : lw_okq (⟨"HeadStart", "notTwo", "(II)Z"⟩, 16) := ⟨⟨by decide +kernel, by decide +kernel⟩, List.mem_of_getElem? (i := 11) (by decide +kernel), List.mem_of_getElem? (i := 520) (by decide +kernel), List.mem_of_getElem? (i := 521) (by decide +kernel)⟩
theorem lw_p3 : lw_okq (⟨"HeadStart", "alone", "(II)I"⟩, 16) := ⟨⟨by decide +kernel, by decide +kernel⟩, List.mem_of_getElem? (i := 11) (by decide +kernel), List.mem_of_getElem? (i := 524) (by decide +kernel), List.mem_of_getElem? (i := 525) (by decide +kernel)⟩
theorem lw_p4 : lw_okq (⟨"HeadStart", "evenest", "(II)I"⟩, 16) := ⟨⟨by decide +kernel, by decide +kernel⟩, List.mem_of_getElem? (i := 11) (by decide +kernel), List.mem_of_getElem? (i := 541) (by decide +kernel), List.mem_of_getElem? (i := 542) (by decide +kernel)⟩
theorem lw_p5 : lw_okq (⟨"HeadStart", "putStarts", "(II)V"⟩, 16) := ⟨⟨by decide +kernel, by decide +kernel⟩, List.mem_of_getElem? (i := 11) (by decide +kernel), List.mem_of_getElem? (i := 549) (by decide +kernel), List.mem_of_getElem? (i := 550) (by decide +kernel)⟩
theorem lw_p6 : lw_okq (⟨"HeadStart", "winsIn", "(II)I"⟩, 16) := ⟨⟨by decide +kernel, by decide +kernel⟩, List.mem_of_getElem? (i := 11) (by decide +kernel), List.mem_of_getElem? (i := 562) (by decide +kernel), List.mem_of_getElem? (i := 563) (by decide +kernel)⟩
theorem lw_p7 : lw_okq (⟨"HeadStart", "gaps", "(IZ)I"⟩, 16) := ⟨⟨by decide +kernel, by decide +kernel⟩, List.mem_of_getElem? (i := 11) (by decide +kernel), List.mem_of_getElem? (i := 578) (by decide +kernel), List.mem_of_getElem? (i := 579) (by decide +kernel)⟩
theorem lw_p8 : lw_okq (⟨"HeadStart", "refuseHigh", "(I)I"⟩, 16) := ⟨⟨by decide +kernel, by decide +kernel⟩, List.mem_of_getElem? (i := 11) (by decide +kernel), List.mem_of_getElem? (i := 598) (by decide +kernel), List.mem_of_getElem? (i := 599) (by decide +kernel)⟩
theorem lw_p9 : lw_okq (⟨"HeadStart", "winsAs", "(III)I"⟩, 16) := ⟨⟨by decide +kernel, by decide +kernel⟩, List.mem_of_getElem? (i := 11) (by decide +kernel), List.mem_of_getElem? (i := 603) (by decide +kernel), List.mem_of_getElem? (i := 604) (by decide +kernel)⟩
theorem lw_p10 : lw_okq (⟨"HeadStart", "gained", "(II)I"⟩, 16) := ⟨⟨by decide +kernel, by decide +kernel⟩, List.mem_of_getElem? (i := 11) (by decide +kernel), List.mem_of_getElem? (i := 611) (by decide +kernel), List.mem_of_getElem? (i := 612) (by decide +kernel)⟩
theorem lw_p11 : lw_okq (⟨"HeadStart", "apart", "(I)I"⟩, 16) := ⟨⟨by decide +kernel, by decide +kernel⟩, List.mem_of_getElem? (i := 11) (by decide +kernel), List.mem_of_getElem? (i := 623) (by decide +kernel), List.mem_of_getElem? (i := 624) (by decide +kernel)⟩
theorem lw_p12 : lw_okq (⟨"HeadStart", "firstNotSo", "()I"⟩, 16) := ⟨⟨by decide +kernel, by decide +kernel⟩, List.mem_of_getElem? (i := 11) (by decide +kernel), List.mem_of_getElem? (i := 636) (by decide +kernel), List.mem_of_getElem? (i := 637) (by decide +kernel)⟩
theorem lw_p13 : lw_okq (⟨"HeadStart", "carrying", "(III)I"⟩, 16) := ⟨⟨by decide +kernel, by decide +kernel⟩, List.mem_of_getElem? (i := 11) (by decide +kernel), List.mem_of_getElem? (i := 691) (by decide +kernel), List.mem_of_getElem? (i := 692) (by decide +kernel)⟩
theorem lw_p14 : lw_okq (⟨"HeadStart", "sixteenths", "(II)I"⟩, 16) := ⟨⟨by decide +kernel, by decide +kernel⟩, List.mem_of_getElem? (i := 11) (by decide +kernel), List.mem_of_getElem? (i := 699) (by decide +kernel), List.mem_of_getElem? (i := 700) (by decide +kernel)⟩
theorem lw_p15 : lw_okq (⟨"HeadStart", "cupWays", "(II)I"⟩, 16) := ⟨⟨by decide +kernel, by decide +kernel⟩, List.mem_of_getElem? (i := 11) (by decide +kernel), List.mem_of_getElem? (i := 707) (by decide +kernel), List.mem_of_getElem? (i := 708) (by decide +kernel)⟩
def lw_privs_1 : List (MethodName × Nat) := [(⟨"HeadStart", "refuse", "(I)I"⟩, 16), (⟨"HeadStart", "refuseLong", "(I)J"⟩, 16), (⟨"HeadStart", "notTwo", "(II)Z"⟩, 16), (⟨"HeadStart", "alone", "(II)I"⟩, 16), (⟨"HeadStart", "evenest", "(II)I"⟩, 16), (⟨"HeadStart", "putStarts", "(II)V"⟩, 16), (⟨"HeadStart", "winsIn", "(II)I"⟩, 16), (⟨"HeadStart", "gaps", "(IZ)I"⟩, 16), (⟨"HeadStart", "refuseHigh", "(I)I"⟩, 16), (⟨"HeadStart", "winsAs", "(III)I"⟩, 16), (⟨"HeadStart", "gained", "(II)I"⟩, 16), (⟨"HeadStart", "apart", "(I)I"⟩, 16), (⟨"HeadStart", "firstNotSo", "()I"⟩, 16), (⟨"HeadStart", "carrying", "(III)I"⟩, 16), (⟨"HeadStart", "sixteenths", "(II)I"⟩, 16), (⟨"HeadStart", "cupWays", "(II)I"⟩, 16)]
theorem lw_r1 : ∀ q ∈ lw_privs_1, lw_okq q := List.forall_mem_cons.mpr ⟨lw_p0, List.forall_mem_cons.mpr ⟨lw_p1, List.forall_mem_cons.mpr ⟨lw_p2, List.forall_mem_cons.mpr ⟨lw_p3, List.forall_mem_cons.mpr ⟨lw_p4, List.forall_mem_cons.mpr ⟨lw_p5, List.forall_mem_cons.mpr ⟨lw_p6, List.forall_mem_cons.mpr ⟨lw_p7, List.forall_mem_cons.mpr ⟨lw_p8, List.forall_mem_cons.mpr ⟨lw_p9, List.forall_mem_cons.mpr ⟨lw_p10, List.forall_mem_cons.mpr ⟨lw_p11, List.forall_mem_cons.mpr ⟨lw_p12, List.forall_mem_cons.mpr ⟨lw_p13, List.forall_mem_cons.mpr ⟨lw_p14, List.forall_mem_cons.mpr ⟨lw_p15, fun _ h => absurd h List.not_mem_nil⟩⟩⟩⟩⟩⟩⟩⟩⟩⟩⟩⟩⟩⟩⟩⟩
theorem lw_p16 : lw_okq (⟨"HeadStart", "leagueWays", "(I)I"⟩, 16) := ⟨⟨by decide +kernel, by decide +kernel⟩, List.mem_of_getElem? (i := 11) (by decide +kernel), List.mem_of_getElem? (i := 720) (by decide +kernel), List.mem_of_getElem? (i := 721) (by decide +kernel)⟩
theorem lw_p17 : lw_okq (⟨"HeadStart", "holdWorth", "(III)I"⟩, 16) := ⟨⟨by decide +kernel, by decide +kernel⟩, List.mem_of_getElem? (i := 11) (by decide +kernel), List.mem_of_getElem? (i := 734) (by decide +kernel), List.mem_of_getElem? (i := 735) (by decide +kernel)⟩
theorem lw_p18 : lw_okq (⟨"HeadStart", "relay", "(III)I"⟩, 16) := ⟨⟨by decide +kernel, by decide +kernel⟩, List.mem_of_getElem? (i := 11) (by decide +kernel), List.mem_of_getElem? (i := 742) (by decide +kernel), List.mem_of_getElem? (i := 743) (by decide +kernel)⟩
theorem lw_p19 : lw_okq (⟨"HeadStart", "betsTold", "()Z"⟩, 16) := ⟨⟨by decide +kernel, by decide +kernel⟩, List.mem_of_getElem? (i := 11) (by decide +kernel), List.mem_of_getElem? (i := 750) (by decide +kernel), List.mem_of_getElem? (i := 751) (by decide +kernel)⟩
theorem lw_p20 : lw_okq (⟨"HeadStart", "bestBet", "()I"⟩, 16) := ⟨⟨by decide +kernel, by decide +kernel⟩, List.mem_of_getElem? (i := 11) (by decide +kernel), List.mem_of_getElem? (i := 754) (by decide +kernel), List.mem_of_getElem? (i := 755) (by decide +kernel)⟩
theorem lw_p21 : lw_okq (⟨"HeadStart", "betWays", "(I)I"⟩, 16) := ⟨⟨by decide +kernel, by decide +kernel⟩, List.mem_of_getElem? (i := 11) (by decide +kernel), List.mem_of_getElem? (i := 758) (by decide +kernel), List.mem_of_getElem? (i := 759) (by decide +kernel)⟩
theorem lw_p22 : lw_okq (⟨"HeadStart", "tookThese", "(I)Z"⟩, 16) := ⟨⟨by decide +kernel, by decide +kernel⟩, List.mem_of_getElem? (i := 11) (by decide +kernel), List.mem_of_getElem? (i := 800) (by decide +kernel), List.mem_of_getElem? (i := 801) (by decide +kernel)⟩
theorem lw_p23 : lw_okq (⟨"HeadStartModel", "no", "(I)I"⟩, 43) := ⟨⟨by decide +kernel, by decide +kernel⟩, List.mem_of_getElem? (i := 835) (by decide +kernel), List.mem_of_getElem? (i := 978) (by decide +kernel), List.mem_of_getElem? (i := 979) (by decide +kernel)⟩
theorem lw_p24 : lw_okq (⟨"HeadStartModel", "statement", "()Z"⟩, 43) := ⟨⟨by decide +kernel, by decide +kernel⟩, List.mem_of_getElem? (i := 835) (by decide +kernel), List.mem_of_getElem? (i := 986) (by decide +kernel), List.mem_of_getElem? (i := 987) (by decide +kernel)⟩
theorem lw_p25 : lw_okq (⟨"HeadStartModel", "next", "()I"⟩, 43) := ⟨⟨by decide +kernel, by decide +kernel⟩, List.mem_of_getElem? (i := 835) (by decide +kernel), List.mem_of_getElem? (i := 990) (by decide +kernel), List.mem_of_getElem? (i := 991) (by decide +kernel)⟩
theorem lw_p26 : lw_okq (⟨"HeadStartModel", "readsAll", "(II)Z"⟩, 43) := ⟨⟨by decide +kernel, by decide +kernel⟩, List.mem_of_getElem? (i := 835) (by decide +kernel), List.mem_of_getElem? (i := 994) (by decide +kernel), List.mem_of_getElem? (i := 995) (by decide +kernel)⟩
theorem lw_p27 : lw_okq (⟨"HeadStartModel", "readsNumber", "(III)Z"⟩, 43) := ⟨⟨by decide +kernel, by decide +kernel⟩, List.mem_of_getElem? (i := 835) (by decide +kernel), List.mem_of_getElem? (i := 998) (by decide +kernel), List.mem_of_getElem? (i := 999) (by decide +kernel)⟩
theorem lw_p28 : lw_okq (⟨"HeadStartModel", "readsRunner", "(I)Z"⟩, 43) := ⟨⟨by decide +kernel, by decide +kernel⟩, List.mem_of_getElem? (i := 835) (by decide +kernel), List.mem_of_getElem? (i := 1005) (by decide +kernel), List.mem_of_getElem? (i := 1006) (by decide +kernel)⟩
theorem lw_p29 : lw_okq (⟨"HeadStartModel", "passesAll", "(IZ)V"⟩, 43) := ⟨⟨by decide +kernel, by decide +kernel⟩, List.mem_of_getElem? (i := 835) (by decide +kernel), List.mem_of_getElem? (i := 1009) (by decide +kernel), List.mem_of_getElem? (i := 1010) (by decide +kernel)⟩
theorem lw_p30 : lw_okq (⟨"HeadStartModel", "passes", "([I)V"⟩, 43) := ⟨⟨by decide +kernel, by decide +kernel⟩, List.mem_of_getElem? (i := 835) (by decide +kernel), List.mem_of_getElem? (i := 1013) (by decide +kernel), List.mem_of_getElem? (i := 1014) (by decide +kernel)⟩
theorem lw_p31 : lw_okq (⟨"HeadStartModel", "passOne", "(I)I"⟩, 43) := ⟨⟨by decide +kernel, by decide +kernel⟩, List.mem_of_getElem? (i := 835) (by decide +kernel), List.mem_of_getElem? (i := 1017) (by decide +kernel), List.mem_of_getElem? (i := 1018) (by decide +kernel)⟩
def lw_privs_2 : List (MethodName × Nat) := [(⟨"HeadStart", "leagueWays", "(I)I"⟩, 16), (⟨"HeadStart", "holdWorth", "(III)I"⟩, 16), (⟨"HeadStart", "relay", "(III)I"⟩, 16), (⟨"HeadStart", "betsTold", "()Z"⟩, 16), (⟨"HeadStart", "bestBet", "()I"⟩, 16), (⟨"HeadStart", "betWays", "(I)I"⟩, 16), (⟨"HeadStart", "tookThese", "(I)Z"⟩, 16), (⟨"HeadStartModel", "no", "(I)I"⟩, 43), (⟨"HeadStartModel", "statement", "()Z"⟩, 43), (⟨"HeadStartModel", "next", "()I"⟩, 43), (⟨"HeadStartModel", "readsAll", "(II)Z"⟩, 43), (⟨"HeadStartModel", "readsNumber", "(III)Z"⟩, 43), (⟨"HeadStartModel", "readsRunner", "(I)Z"⟩, 43), (⟨"HeadStartModel", "passesAll", "(IZ)V"⟩, 43), (⟨"HeadStartModel", "passes", "([I)V"⟩, 43), (⟨"HeadStartModel", "passOne", "(I)I"⟩, 43)]
theorem lw_r2 : ∀ q ∈ lw_privs_2, lw_okq q := List.forall_mem_cons.mpr ⟨lw_p16, List.forall_mem_cons.mpr ⟨lw_p17, List.forall_mem_cons.mpr ⟨lw_p18, List.forall_mem_cons.mpr ⟨lw_p19, List.forall_mem_cons.mpr ⟨lw_p20, List.forall_mem_cons.mpr ⟨lw_p21, List.forall_mem_cons.mpr ⟨lw_p22, List.forall_mem_cons.mpr ⟨lw_p23, List.forall_mem_cons.mpr ⟨lw_p24, List.forall_mem_cons.mpr ⟨lw_p25, List.forall_mem_cons.mpr ⟨lw_p26, List.forall_mem_cons.mpr ⟨lw_p27, List.forall_mem_cons.mpr ⟨lw_p28, List.forall_mem_cons.mpr ⟨lw_p29, List.forall_mem_cons.mpr ⟨lw_p30, List.forall_mem_cons.mpr ⟨lw_p31, fun _ h => absurd h List.not_mem_nil⟩⟩⟩⟩⟩⟩⟩⟩⟩⟩⟩⟩⟩⟩⟩⟩
theorem lw_p32 : lw_okq (⟨"HeadStartModel", "comes", "(I)Z"⟩, 43) := ⟨⟨by decide +kernel, by decide +kernel⟩, List.mem_of_getElem? (i := 835) (by decide +kernel), List.mem_of_getElem? (i := 1021) (by decide +kernel), List.mem_of_getElem? (i := 1022) (by decide +kernel)⟩
theorem lw_p33 : lw_okq (⟨"HeadStartModel", "comesRunner", "(I)Z"⟩, 43) := ⟨⟨by decide +kernel, by decide +kernel⟩, List.mem_of_getElem? (i := 835) (by decide +kernel), List.mem_of_getElem? (i := 1025) (by decide +kernel), List.mem_of_getElem? (i := 1026) (by decide +kernel)⟩
theorem lw_p34 : lw_okq (⟨"HeadStartModel", "isRunner", "(I)Z"⟩, 43) := ⟨⟨by decide +kernel, by decide +kernel⟩, List.mem_of_getElem? (i := 835) (by decide +kernel), List.mem_of_getElem? (i := 1029) (by decide +kernel), List.mem_of_getElem? (i := 1030) (by decide +kernel)⟩
theorem lw_p35 : lw_okq (⟨"HeadStartModel", "runs", "()I"⟩, 43) := ⟨⟨by decide +kernel, by decide +kernel⟩, List.mem_of_getElem? (i := 835) (by decide +kernel), List.mem_of_getElem? (i := 1033) (by decide +kernel), List.mem_of_getElem? (i := 1034) (by decide +kernel)⟩
theorem lw_p36 : lw_okq (⟨"HeadStartModel", "takesTimes", "()V"⟩, 43) := ⟨⟨by decide +kernel, by decide +kernel⟩, List.mem_of_getElem? (i := 835) (by decide +kernel), List.mem_of_getElem? (i := 1037) (by decide +kernel), List.mem_of_getElem? (i := 1038) (by decide +kernel)⟩
theorem lw_p37 : lw_okq (⟨"HeadStartModel", "timeOf", "(I)I"⟩, 43) := ⟨⟨by decide +kernel, by decide +kernel⟩, List.mem_of_getElem? (i := 835) (by decide +kernel), List.mem_of_getElem? (i := 1041) (by decide +kernel), List.mem_of_getElem? (i := 1042) (by decide +kernel)⟩
theorem lw_p38 : lw_okq (⟨"HeadStartModel", "timeBy", "(II)I"⟩, 43) := ⟨⟨by decide +kernel, by decide +kernel⟩, List.mem_of_getElem? (i := 835) (by decide +kernel), List.mem_of_getElem? (i := 1045) (by decide +kernel), List.mem_of_getElem? (i := 1046) (by decide +kernel)⟩
theorem lw_p39 : lw_okq (⟨"HeadStartModel", "timeOver", "(III)I"⟩, 43) := ⟨⟨by decide +kernel, by decide +kernel⟩, List.mem_of_getElem? (i := 835) (by decide +kernel), List.mem_of_getElem? (i := 1049) (by decide +kernel), List.mem_of_getElem? (i := 1050) (by decide +kernel)⟩
theorem lw_p40 : lw_okq (⟨"HeadStartModel", "sorts", "()V"⟩, 43) := ⟨⟨by decide +kernel, by decide +kernel⟩, List.mem_of_getElem? (i := 835) (by decide +kernel), List.mem_of_getElem? (i := 1056) (by decide +kernel), List.mem_of_getElem? (i := 1057) (by decide +kernel)⟩
theorem lw_p41 : lw_okq (⟨"HeadStartModel", "mends", "()V"⟩, 43) := ⟨⟨by decide +kernel, by decide +kernel⟩, List.mem_of_getElem? (i := 835) (by decide +kernel), List.mem_of_getElem? (i := 1060) (by decide +kernel), List.mem_of_getElem? (i := 1061) (by decide +kernel)⟩
theorem lw_p42 : lw_okq (⟨"HeadStartModel", "keepsRun", "()V"⟩, 43) := ⟨⟨by decide +kernel, by decide +kernel⟩, List.mem_of_getElem? (i := 835) (by decide +kernel), List.mem_of_getElem? (i := 1095) (by decide +kernel), List.mem_of_getElem? (i := 1096) (by decide +kernel)⟩
theorem lw_p43 : lw_okq (⟨"HeadStartModel", "digits", "()I"⟩, 43) := ⟨⟨by decide +kernel, by decide +kernel⟩, List.mem_of_getElem? (i := 835) (by decide +kernel), List.mem_of_getElem? (i := 1107) (by decide +kernel), List.mem_of_getElem? (i := 1108) (by decide +kernel)⟩
theorem lw_p44 : lw_okq (⟨"HeadStartModel", "lowest", "(I)J"⟩, 43) := ⟨⟨by decide +kernel, by decide +kernel⟩, List.mem_of_getElem? (i := 835) (by decide +kernel), List.mem_of_getElem? (i := 1115) (by decide +kernel), List.mem_of_getElem? (i := 1116) (by decide +kernel)⟩
theorem lw_p45 : lw_okq (⟨"HeadStartModel", "findFirsts", "()V"⟩, 43) := ⟨⟨by decide +kernel, by decide +kernel⟩, List.mem_of_getElem? (i := 835) (by decide +kernel), List.mem_of_getElem? (i := 1120) (by decide +kernel), List.mem_of_getElem? (i := 1121) (by decide +kernel)⟩
theorem lw_p46 : lw_okq (⟨"HeadStartModel", "races", "()I"⟩, 43) := ⟨⟨by decide +kernel, by decide +kernel⟩, List.mem_of_getElem? (i := 835) (by decide +kernel), List.mem_of_getElem? (i := 1124) (by decide +kernel), List.mem_of_getElem? (i := 1125) (by decide +kernel)⟩
theorem lw_p47 : lw_okq (⟨"HeadStartModel", "takesParts", "(I)V"⟩, 43) := ⟨⟨by decide +kernel, by decide +kernel⟩, List.mem_of_getElem? (i := 835) (by decide +kernel), List.mem_of_getElem? (i := 1128) (by decide +kernel), List.mem_of_getElem? (i := 1129) (by decide +kernel)⟩
def lw_privs_3 : List (MethodName × Nat) := [(⟨"HeadStartModel", "comes", "(I)Z"⟩, 43), (⟨"HeadStartModel", "comesRunner", "(I)Z"⟩, 43), (⟨"HeadStartModel", "isRunner", "(I)Z"⟩, 43), (⟨"HeadStartModel", "runs", "()I"⟩, 43), (⟨"HeadStartModel", "takesTimes", "()V"⟩, 43), (⟨"HeadStartModel", "timeOf", "(I)I"⟩, 43), (⟨"HeadStartModel", "timeBy", "(II)I"⟩, 43), (⟨"HeadStartModel", "timeOver", "(III)I"⟩, 43), (⟨"HeadStartModel", "sorts", "()V"⟩, 43), (⟨"HeadStartModel", "mends", "()V"⟩, 43), (⟨"HeadStartModel", "keepsRun", "()V"⟩, 43), (⟨"HeadStartModel", "digits", "()I"⟩, 43), (⟨"HeadStartModel", "lowest", "(I)J"⟩, 43), (⟨"HeadStartModel", "findFirsts", "()V"⟩, 43), (⟨"HeadStartModel", "races", "()I"⟩, 43), (⟨"HeadStartModel", "takesParts", "(I)V"⟩, 43)]
theorem lw_r3 : ∀ q ∈ lw_privs_3, lw_okq q := List.forall_mem_cons.mpr ⟨lw_p32, List.forall_mem_cons.mpr ⟨lw_p33, List.forall_mem_cons.mpr ⟨lw_p34, List.forall_mem_cons.mpr ⟨lw_p35, List.forall_mem_cons.mpr ⟨lw_p36, List.forall_mem_cons.mpr ⟨lw_p37, List.forall_mem_cons.mpr ⟨lw_p38, List.forall_mem_cons.mpr ⟨lw_p39, List.forall_mem_cons.mpr ⟨lw_p40, List.forall_mem_cons.mpr ⟨lw_p41, List.forall_mem_cons.mpr ⟨lw_p42, List.forall_mem_cons.mpr ⟨lw_p43, List.forall_mem_cons.mpr ⟨lw_p44, List.forall_mem_cons.mpr ⟨lw_p45, List.forall_mem_cons.mpr ⟨lw_p46, List.forall_mem_cons.mpr ⟨lw_p47, fun _ h => absurd h List.not_mem_nil⟩⟩⟩⟩⟩⟩⟩⟩⟩⟩⟩⟩⟩⟩⟩⟩
theorem lw_p48 : lw_okq (⟨"HeadStartModel", "partTime", "(II)I"⟩, 43) := ⟨⟨by decide +kernel, by decide +kernel⟩, List.mem_of_getElem? (i := 835) (by decide +kernel), List.mem_of_getElem? (i := 1132) (by decide +kernel), List.mem_of_getElem? (i := 1133) (by decide +kernel)⟩
theorem lw_p49 : lw_okq (⟨"HeadStartModel", "isOrder", "(I)Z"⟩, 43) := ⟨⟨by decide +kernel, by decide +kernel⟩, List.mem_of_getElem? (i := 835) (by decide +kernel), List.mem_of_getElem? (i := 1146) (by decide +kernel), List.mem_of_getElem? (i := 1147) (by decide +kernel)⟩
theorem lw_p50 : lw_okq (⟨"HeadStartModel", "uneven", "()I"⟩, 43) := ⟨⟨by decide +kernel, by decide +kernel⟩, List.mem_of_getElem? (i := 835) (by decide +kernel), List.mem_of_getElem? (i := 1154) (by decide +kernel), List.mem_of_getElem? (i := 1155) (by decide +kernel)⟩
theorem lw_p51 : lw_okq (⟨"HeadStartModel", "gap", "()I"⟩, 43) := ⟨⟨by decide +kernel, by decide +kernel⟩, List.mem_of_getElem? (i := 835) (by decide +kernel), List.mem_of_getElem? (i := 1158) (by decide +kernel), List.mem_of_getElem? (i := 1159) (by decide +kernel)⟩
theorem lw_p52 : lw_okq (⟨"HeadStartModel", "areTwo", "(II)Z"⟩, 43) := ⟨⟨by decide +kernel, by decide +kernel⟩, List.mem_of_getElem? (i := 835) (by decide +kernel), List.mem_of_getElem? (i := 1170) (by decide +kernel), List.mem_of_getElem? (i := 1171) (by decide +kernel)⟩
theorem lw_p53 : lw_okq (⟨"HeadStartModel", "aheadOf", "(II)I"⟩, 43) := ⟨⟨by decide +kernel, by decide +kernel⟩, List.mem_of_getElem? (i := 835) (by decide +kernel), List.mem_of_getElem? (i := 1174) (by decide +kernel), List.mem_of_getElem? (i := 1175) (by decide +kernel)⟩
theorem lw_p54 : lw_okq (⟨"HeadStartModel", "aheadBy", "(IIII)I"⟩, 43) := ⟨⟨by decide +kernel, by decide +kernel⟩, List.mem_of_getElem? (i := 835) (by decide +kernel), List.mem_of_getElem? (i := 1178) (by decide +kernel), List.mem_of_getElem? (i := 1179) (by decide +kernel)⟩
theorem lw_p55 : lw_okq (⟨"HeadStartModel", "findStarts", "(I)V"⟩, 43) := ⟨⟨by decide +kernel, by decide +kernel⟩, List.mem_of_getElem? (i := 835) (by decide +kernel), List.mem_of_getElem? (i := 1189) (by decide +kernel), List.mem_of_getElem? (i := 1190) (by decide +kernel)⟩
theorem lw_p56 : lw_okq (⟨"HeadStartModel", "goesOn", "(II)V"⟩, 43) := ⟨⟨by decide +kernel, by decide +kernel⟩, List.mem_of_getElem? (i := 835) (by decide +kernel), List.mem_of_getElem? (i := 1201) (by decide +kernel), List.mem_of_getElem? (i := 1202) (by decide +kernel)⟩
theorem lw_p57 : lw_okq (⟨"HeadStartModel", "startsNumber", "()I"⟩, 43) := ⟨⟨by decide +kernel, by decide +kernel⟩, List.mem_of_getElem? (i := 835) (by decide +kernel), List.mem_of_getElem? (i := 1209) (by decide +kernel), List.mem_of_getElem? (i := 1210) (by decide +kernel)⟩
theorem lw_p58 : lw_okq (⟨"HeadStartModel", "gapsBy", "(II)I"⟩, 43) := ⟨⟨by decide +kernel, by decide +kernel⟩, List.mem_of_getElem? (i := 835) (by decide +kernel), List.mem_of_getElem? (i := 1217) (by decide +kernel), List.mem_of_getElem? (i := 1218) (by decide +kernel)⟩
theorem lw_p59 : lw_okq (⟨"HeadStartModel", "lower", "(I)I"⟩, 43) := ⟨⟨by decide +kernel, by decide +kernel⟩, List.mem_of_getElem? (i := 835) (by decide +kernel), List.mem_of_getElem? (i := 1225) (by decide +kernel), List.mem_of_getElem? (i := 1226) (by decide +kernel)⟩
theorem lw_p60 : lw_okq (⟨"HeadStartModel", "worthOf", "(II)I"⟩, 43) := ⟨⟨by decide +kernel, by decide +kernel⟩, List.mem_of_getElem? (i := 835) (by decide +kernel), List.mem_of_getElem? (i := 1234) (by decide +kernel), List.mem_of_getElem? (i := 1235) (by decide +kernel)⟩
theorem lw_p61 : lw_okq (⟨"HeadStartModel", "apartBy", "(I)I"⟩, 43) := ⟨⟨by decide +kernel, by decide +kernel⟩, List.mem_of_getElem? (i := 835) (by decide +kernel), List.mem_of_getElem? (i := 1246) (by decide +kernel), List.mem_of_getElem? (i := 1247) (by decide +kernel)⟩
theorem lw_p62 : lw_okq (⟨"HeadStartModel", "bagsFar", "(III)I"⟩, 43) := ⟨⟨by decide +kernel, by decide +kernel⟩, List.mem_of_getElem? (i := 835) (by decide +kernel), List.mem_of_getElem? (i := 1270) (by decide +kernel), List.mem_of_getElem? (i := 1271) (by decide +kernel)⟩
theorem lw_p63 : lw_okq (⟨"HeadStartModel", "cupParts", "(II)J"⟩, 43) := ⟨⟨by decide +kernel, by decide +kernel⟩, List.mem_of_getElem? (i := 835) (by decide +kernel), List.mem_of_getElem? (i := 1282) (by decide +kernel), List.mem_of_getElem? (i := 1283) (by decide +kernel)⟩
def lw_privs_4 : List (MethodName × Nat) := [(⟨"HeadStartModel", "partTime", "(II)I"⟩, 43), (⟨"HeadStartModel", "isOrder", "(I)Z"⟩, 43), (⟨"HeadStartModel", "uneven", "()I"⟩, 43), (⟨"HeadStartModel", "gap", "()I"⟩, 43), (⟨"HeadStartModel", "areTwo", "(II)Z"⟩, 43), (⟨"HeadStartModel", "aheadOf", "(II)I"⟩, 43), (⟨"HeadStartModel", "aheadBy", "(IIII)I"⟩, 43), (⟨"HeadStartModel", "findStarts", "(I)V"⟩, 43), (⟨"HeadStartModel", "goesOn", "(II)V"⟩, 43), (⟨"HeadStartModel", "startsNumber", "()I"⟩, 43), (⟨"HeadStartModel", "gapsBy", "(II)I"⟩, 43), (⟨"HeadStartModel", "lower", "(I)I"⟩, 43), (⟨"HeadStartModel", "worthOf", "(II)I"⟩, 43), (⟨"HeadStartModel", "apartBy", "(I)I"⟩, 43), (⟨"HeadStartModel", "bagsFar", "(III)I"⟩, 43), (⟨"HeadStartModel", "cupParts", "(II)J"⟩, 43)]
theorem lw_r4 : ∀ q ∈ lw_privs_4, lw_okq q := List.forall_mem_cons.mpr ⟨lw_p48, List.forall_mem_cons.mpr ⟨lw_p49, List.forall_mem_cons.mpr ⟨lw_p50, List.forall_mem_cons.mpr ⟨lw_p51, List.forall_mem_cons.mpr ⟨lw_p52, List.forall_mem_cons.mpr ⟨lw_p53, List.forall_mem_cons.mpr ⟨lw_p54, List.forall_mem_cons.mpr ⟨lw_p55, List.forall_mem_cons.mpr ⟨lw_p56, List.forall_mem_cons.mpr ⟨lw_p57, List.forall_mem_cons.mpr ⟨lw_p58, List.forall_mem_cons.mpr ⟨lw_p59, List.forall_mem_cons.mpr ⟨lw_p60, List.forall_mem_cons.mpr ⟨lw_p61, List.forall_mem_cons.mpr ⟨lw_p62, List.forall_mem_cons.mpr ⟨lw_p63, fun _ h => absurd h List.not_mem_nil⟩⟩⟩⟩⟩⟩⟩⟩⟩⟩⟩⟩⟩⟩⟩⟩
theorem lw_p64 : lw_okq (⟨"HeadStartModel", "leaguePoints", "(I)I"⟩, 43) := ⟨⟨by decide +kernel, by decide +kernel⟩, List.mem_of_getElem? (i := 835) (by decide +kernel), List.mem_of_getElem? (i := 1298) (by decide +kernel), List.mem_of_getElem? (i := 1299) (by decide +kernel)⟩
theorem lw_p65 : lw_okq (⟨"HeadStartModel", "worthOfPair", "(III)I"⟩, 43) := ⟨⟨by decide +kernel, by decide +kernel⟩, List.mem_of_getElem? (i := 835) (by decide +kernel), List.mem_of_getElem? (i := 1311) (by decide +kernel), List.mem_of_getElem? (i := 1312) (by decide +kernel)⟩
theorem lw_p66 : lw_okq (⟨"HeadStartModel", "legsBy", "(III)I"⟩, 43) := ⟨⟨by decide +kernel, by decide +kernel⟩, List.mem_of_getElem? (i := 835) (by decide +kernel), List.mem_of_getElem? (i := 1319) (by decide +kernel), List.mem_of_getElem? (i := 1320) (by decide +kernel)⟩
theorem lw_p67 : lw_okq (⟨"HeadStartModel", "areBets", "()Z"⟩, 43) := ⟨⟨by decide +kernel, by decide +kernel⟩, List.mem_of_getElem? (i := 835) (by decide +kernel), List.mem_of_getElem? (i := 1327) (by decide +kernel), List.mem_of_getElem? (i := 1328) (by decide +kernel)⟩
theorem lw_p68 : lw_okq (⟨"HeadStartModel", "bestBet", "()I"⟩, 43) := ⟨⟨by decide +kernel, by decide +kernel⟩, List.mem_of_getElem? (i := 835) (by decide +kernel), List.mem_of_getElem? (i := 1331) (by decide +kernel), List.mem_of_getElem? (i := 1332) (by decide +kernel)⟩
theorem lw_p69 : lw_okq (⟨"HeadStartModel", "gapsByHabit", "(I)I"⟩, 43) := ⟨⟨by decide +kernel, by decide +kernel⟩, List.mem_of_getElem? (i := 835) (by decide +kernel), List.mem_of_getElem? (i := 1351) (by decide +kernel), List.mem_of_getElem? (i := 1352) (by decide +kernel)⟩
theorem lw_p70 : lw_okq (⟨"HeadStartModel", "mendsByHabit", "()V"⟩, 43) := ⟨⟨by decide +kernel, by decide +kernel⟩, List.mem_of_getElem? (i := 835) (by decide +kernel), List.mem_of_getElem? (i := 1355) (by decide +kernel), List.mem_of_getElem? (i := 1356) (by decide +kernel)⟩
theorem lw_p71 : lw_okq (⟨"HeadStartModel", "isWhom", "(II)Z"⟩, 43) := ⟨⟨by decide +kernel, by decide +kernel⟩, List.mem_of_getElem? (i := 835) (by decide +kernel), List.mem_of_getElem? (i := 1359) (by decide +kernel), List.mem_of_getElem? (i := 1360) (by decide +kernel)⟩
theorem lw_p72 : lw_okq (⟨"HeadStartModel", "hasTimes", "(I)Z"⟩, 43) := ⟨⟨by decide +kernel, by decide +kernel⟩, List.mem_of_getElem? (i := 835) (by decide +kernel), List.mem_of_getElem? (i := 1379) (by decide +kernel), List.mem_of_getElem? (i := 1380) (by decide +kernel)⟩
theorem lw_p73 : lw_okq (⟨"HeadStartModel", "wrongAt", "()I"⟩, 43) := ⟨⟨by decide +kernel, by decide +kernel⟩, List.mem_of_getElem? (i := 835) (by decide +kernel), List.mem_of_getElem? (i := 1391) (by decide +kernel), List.mem_of_getElem? (i := 1392) (by decide +kernel)⟩
def lw_privs_5 : List (MethodName × Nat) := [(⟨"HeadStartModel", "leaguePoints", "(I)I"⟩, 43), (⟨"HeadStartModel", "worthOfPair", "(III)I"⟩, 43), (⟨"HeadStartModel", "legsBy", "(III)I"⟩, 43), (⟨"HeadStartModel", "areBets", "()Z"⟩, 43), (⟨"HeadStartModel", "bestBet", "()I"⟩, 43), (⟨"HeadStartModel", "gapsByHabit", "(I)I"⟩, 43), (⟨"HeadStartModel", "mendsByHabit", "()V"⟩, 43), (⟨"HeadStartModel", "isWhom", "(II)Z"⟩, 43), (⟨"HeadStartModel", "hasTimes", "(I)Z"⟩, 43), (⟨"HeadStartModel", "wrongAt", "()I"⟩, 43)]
theorem lw_r5 : ∀ q ∈ lw_privs_5, lw_okq q := List.forall_mem_cons.mpr ⟨lw_p64, List.forall_mem_cons.mpr ⟨lw_p65, List.forall_mem_cons.mpr ⟨lw_p66, List.forall_mem_cons.mpr ⟨lw_p67, List.forall_mem_cons.mpr ⟨lw_p68, List.forall_mem_cons.mpr ⟨lw_p69, List.forall_mem_cons.mpr ⟨lw_p70, List.forall_mem_cons.mpr ⟨lw_p71, List.forall_mem_cons.mpr ⟨lw_p72, List.forall_mem_cons.mpr ⟨lw_p73, fun _ h => absurd h List.not_mem_nil⟩⟩⟩⟩⟩⟩⟩⟩⟩⟩
def lw_privs : List (MethodName × Nat) := lw_privs_1 ++ (lw_privs_2 ++ (lw_privs_3 ++ (lw_privs_4 ++ (lw_privs_5))))
def lw_tbl : List Cond := k2_sels lw_privs ++ tables_1
theorem lw_privs_ok : ∀ q ∈ lw_privs, lw_okq q := by
  show ∀ q ∈ lw_privs_1 ++ (lw_privs_2 ++ (lw_privs_3 ++ (lw_privs_4 ++ (lw_privs_5)))), lw_okq q
  exact List.forall_mem_append.mpr ⟨lw_r1, List.forall_mem_append.mpr ⟨lw_r2, List.forall_mem_append.mpr ⟨lw_r3, List.forall_mem_append.mpr ⟨lw_r4, lw_r5⟩⟩⟩⟩

def RX0 : String := "HeadStart$Field"
def TX0 : u_T := fun k => match k with
  | 0 => ("HeadStart$Field", "way", "I", false)
  | 1 => ("HeadStart$Field", "week", "I", false)
  | 2 => ("HeadStart$Field", "rule", "I", false)
  | 3 => ("HeadStart$Field", "yard", "I", false)
  | 4 => ("HeadStart$Field", "n", "I", false)
  | 5 => ("HeadStart$Field", "kind", "[I", true)
  | 6 => ("HeadStart$Field", "figure", "[I", true)
  | 7 => ("HeadStart$Field", "pace", "[I", true)
  | 8 => ("HeadStart$Field", "spread", "[I", true)
  | 9 => ("HeadStart$Field", "start", "[I", true)
  | _ => ("HeadStart$Field", "wins", "[I", true)
def tyX0 : Nat → FieldType := fun k => match k with
  | 0 => .int
  | 1 => .int
  | 2 => .int
  | 3 => .int
  | 4 => .int
  | 5 => .array .int
  | 6 => .array .int
  | 7 => .array .int
  | 8 => .array .int
  | 9 => .array .int
  | _ => .array .int
abbrev wsX00 : List Cond := u_ws RX0 TX0 11
theorem nmX0 : ∀ a, a < 11 → ∀ b, b < 11 → a ≠ b → (TX0 a).2.1 ≠ (TX0 b).2.1 := by decide +kernel
theorem tyX0_ok : ∀ k, k < 11 → parseFieldDescriptor (TX0 k).2.2.1 = some (tyX0 k) := by decide +kernel
abbrev cX0_init : ByteArray := prog_2_method_1_code
def yX0_init : MethodName := ⟨RX0, "<init>", "()V"⟩
abbrev cX0_has : ByteArray := prog_2_method_2_code
def yX0_has : MethodName := ⟨RX0, "has", "(I)Z"⟩
abbrev cX0_take : ByteArray := prog_2_method_3_code
def yX0_take : MethodName := ⟨RX0, "take", "(LHeadStart$Field;)V"⟩
abbrev cX0_takeTwo : ByteArray := prog_2_method_4_code
def yX0_takeTwo : MethodName := ⟨RX0, "takeTwo", "(LHeadStart$Field;II)V"⟩
abbrev cX0_takeSettings : ByteArray := prog_2_method_5_code
def yX0_takeSettings : MethodName := ⟨RX0, "takeSettings", "(LHeadStart$Field;)V"⟩
abbrev cX0_takeRunner : ByteArray := prog_2_method_6_code
def yX0_takeRunner : MethodName := ⟨RX0, "takeRunner", "(ILHeadStart$Field;I)V"⟩
abbrev cX0_setting : ByteArray := prog_2_method_7_code
def yX0_setting : MethodName := ⟨RX0, "setting", "(I)I"⟩
abbrev cX0_become : ByteArray := prog_2_method_8_code
def yX0_become : MethodName := ⟨RX0, "become", "(II)V"⟩
abbrev cX0_tenths : ByteArray := prog_2_method_9_code
def yX0_tenths : MethodName := ⟨RX0, "tenths", "(I)I"⟩
abbrev cX0_tenthsFrom : ByteArray := prog_2_method_10_code
def yX0_tenthsFrom : MethodName := ⟨RX0, "tenthsFrom", "(II)I"⟩
abbrev cX0_tenthsOver : ByteArray := prog_2_method_11_code
def yX0_tenthsOver : MethodName := ⟨RX0, "tenthsOver", "(III)I"⟩
abbrev cX0_more : ByteArray := prog_2_method_12_code
def yX0_more : MethodName := ⟨RX0, "more", "(II)V"⟩
abbrev cX0_mend : ByteArray := prog_2_method_13_code
def yX0_mend : MethodName := ⟨RX0, "mend", "(II)V"⟩
abbrev cX0_startsAs : ByteArray := prog_2_method_14_code
def yX0_startsAs : MethodName := ⟨RX0, "startsAs", "(LHeadStart$Field;)Z"⟩
abbrev cX0_sum : ByteArray := prog_2_method_15_code
def yX0_sum : MethodName := ⟨RX0, "sum", "([I)I"⟩
abbrev cX0_eachOnce : ByteArray := prog_2_method_16_code
def yX0_eachOnce : MethodName := ⟨RX0, "eachOnce", "(I)Z"⟩
def RX1 : String := "HeadStart$Habit"
def TX1 : u_T := fun k => match k with
  | 0 => ("HeadStart$Habit", "whom", "LHeadStart$Row;", true)
  | _ => ("HeadStart$Habit", "yards", "LHeadStart$Row;", true)
def tyX1 : Nat → FieldType := fun k => match k with
  | 0 => .object "HeadStart$Row"
  | _ => .object "HeadStart$Row"
abbrev wsX10 : List Cond := u_ws RX1 TX1 2
theorem nmX1 : ∀ a, a < 2 → ∀ b, b < 2 → a ≠ b → (TX1 a).2.1 ≠ (TX1 b).2.1 := by decide +kernel
theorem tyX1_ok : ∀ k, k < 2 → parseFieldDescriptor (TX1 k).2.2.1 = some (tyX1 k) := by decide +kernel
abbrev cX1_init : ByteArray := prog_3_method_1_code
def yX1_init : MethodName := ⟨RX1, "<init>", "()V"⟩
abbrev cX1_put : ByteArray := prog_3_method_2_code
def yX1_put : MethodName := ⟨RX1, "put", "(II)I"⟩
abbrev cX1_drop : ByteArray := prog_3_method_3_code
def yX1_drop : MethodName := ⟨RX1, "drop", "()I"⟩
abbrev cX1_take : ByteArray := prog_3_method_4_code
def yX1_take : MethodName := ⟨RX1, "take", "(LHeadStart$Habit;)V"⟩
abbrev cX1_mend : ByteArray := prog_3_method_5_code
def yX1_mend : MethodName := ⟨RX1, "mend", "(LHeadStart$Field;LHeadStart$Race;)V"⟩
abbrev cX1_means : ByteArray := prog_3_method_6_code
def yX1_means : MethodName := ⟨RX1, "means", "(IZZ)Z"⟩
def RX2 : String := "HeadStart$Race"
def TX2 : u_T := fun k => match k with
  | 0 => ("HeadStart$Race", "n", "I", false)
  | 1 => ("HeadStart$Race", "low", "[I", true)
  | 2 => ("HeadStart$Race", "mid", "[I", true)
  | 3 => ("HeadStart$Race", "high", "[I", true)
  | 4 => ("HeadStart$Race", "tenths", "[I", true)
  | _ => ("HeadStart$Race", "places", "[I", true)
def tyX2 : Nat → FieldType := fun k => match k with
  | 0 => .int
  | 1 => .array .int
  | 2 => .array .int
  | 3 => .array .int
  | 4 => .array .int
  | _ => .array .int
abbrev wsX20 : List Cond := u_ws RX2 TX2 6
theorem nmX2 : ∀ a, a < 6 → ∀ b, b < 6 → a ≠ b → (TX2 a).2.1 ≠ (TX2 b).2.1 := by decide +kernel
theorem tyX2_ok : ∀ k, k < 6 → parseFieldDescriptor (TX2 k).2.2.1 = some (tyX2 k) := by decide +kernel
abbrev cX2_init : ByteArray := prog_4_method_1_code
def yX2_init : MethodName := ⟨RX2, "<init>", "()V"⟩
abbrev cX2_draw : ByteArray := prog_4_method_2_code
def yX2_draw : MethodName := ⟨RX2, "draw", "(LHeadStart$Field;)V"⟩
abbrev cX2_put : ByteArray := prog_4_method_3_code
def yX2_put : MethodName := ⟨RX2, "put", "(III)V"⟩
abbrev cX2_allWays : ByteArray := prog_4_method_4_code
def yX2_allWays : MethodName := ⟨RX2, "allWays", "()I"⟩
abbrev cX2_ways : ByteArray := prog_4_method_5_code
def yX2_ways : MethodName := ⟨RX2, "ways", "(I)I"⟩
abbrev cX2_waysAt : ByteArray := prog_4_method_6_code
def yX2_waysAt : MethodName := ⟨RX2, "waysAt", "(II)I"⟩
abbrev cX2_quarters : ByteArray := prog_4_method_7_code
def yX2_quarters : MethodName := ⟨RX2, "quarters", "(II)I"⟩
abbrev cX2_uneven : ByteArray := prog_4_method_8_code
def yX2_uneven : MethodName := ⟨RX2, "uneven", "()I"⟩
abbrev cX2_outcomes : ByteArray := prog_4_method_9_code
def yX2_outcomes : MethodName := ⟨RX2, "outcomes", "()I"⟩
abbrev cX2_deal : ByteArray := prog_4_method_10_code
def yX2_deal : MethodName := ⟨RX2, "deal", "(I)I"⟩
abbrev cX2_waysOf : ByteArray := prog_4_method_11_code
def yX2_waysOf : MethodName := ⟨RX2, "waysOf", "(I)I"⟩
abbrev cX2_gapInAllWays : ByteArray := prog_4_method_12_code
def yX2_gapInAllWays : MethodName := ⟨RX2, "gapInAllWays", "()I"⟩
abbrev cX2_drawn : ByteArray := prog_4_method_13_code
def yX2_drawn : MethodName := ⟨RX2, "drawn", "(LHeadStart$Field;I)I"⟩
abbrev cX2_asRule : ByteArray := prog_4_method_14_code
def yX2_asRule : MethodName := ⟨RX2, "asRule", "(LHeadStart$Field;)V"⟩
abbrev cX2_goOn : ByteArray := prog_4_method_15_code
def yX2_goOn : MethodName := ⟨RX2, "goOn", "(LHeadStart$Field;)I"⟩
abbrev cX2_behind : ByteArray := prog_4_method_16_code
def yX2_behind : MethodName := ⟨RX2, "behind", "(LHeadStart$Field;)V"⟩
abbrev cX2_line : ByteArray := prog_4_method_17_code
def yX2_line : MethodName := ⟨RX2, "line", "()V"⟩
abbrev cX2_first : ByteArray := prog_4_method_18_code
def yX2_first : MethodName := ⟨RX2, "first", "()I"⟩
abbrev cX2_last : ByteArray := prog_4_method_19_code
def yX2_last : MethodName := ⟨RX2, "last", "()I"⟩
abbrev cX2_gap : ByteArray := prog_4_method_20_code
def yX2_gap : MethodName := ⟨RX2, "gap", "()I"⟩
abbrev cX2_digits : ByteArray := prog_4_method_21_code
def yX2_digits : MethodName := ⟨RX2, "digits", "()I"⟩
def RX3 : String := "HeadStart$Row"
def TX3 : u_T := fun k => match k with
  | 0 => ("HeadStart$Row", "cells", "[I", true)
  | _ => ("HeadStart$Row", "n", "I", false)
def tyX3 : Nat → FieldType := fun k => match k with
  | 0 => .array .int
  | _ => .int
abbrev wsX30 : List Cond := u_ws RX3 TX3 2
theorem nmX3 : ∀ a, a < 2 → ∀ b, b < 2 → a ≠ b → (TX3 a).2.1 ≠ (TX3 b).2.1 := by decide +kernel
theorem tyX3_ok : ∀ k, k < 2 → parseFieldDescriptor (TX3 k).2.2.1 = some (tyX3 k) := by decide +kernel
abbrev cX3_init : ByteArray := prog_5_method_1_code
def yX3_init : MethodName := ⟨RX3, "<init>", "(I)V"⟩
abbrev cX3_full : ByteArray := prog_5_method_2_code
def yX3_full : MethodName := ⟨RX3, "full", "()Z"⟩
abbrev cX3_put : ByteArray := prog_5_method_3_code
def yX3_put : MethodName := ⟨RX3, "put", "(I)I"⟩
abbrev cX3_at : ByteArray := prog_5_method_4_code
def yX3_at : MethodName := ⟨RX3, "at", "(I)I"⟩
abbrev cX3_drop : ByteArray := prog_5_method_5_code
def yX3_drop : MethodName := ⟨RX3, "drop", "()I"⟩
abbrev cX3_take : ByteArray := prog_5_method_6_code
def yX3_take : MethodName := ⟨RX3, "take", "(LHeadStart$Row;)V"⟩
def RX4 : String := "HeadStart$Runs"
def TX4 : u_T := fun k => match k with
  | 0 => ("HeadStart$Runs", "starts", "[[I", true)
  | 1 => ("HeadStart$Runs", "wins", "[[I", true)
  | 2 => ("HeadStart$Runs", "weeks", "[I", true)
  | _ => ("HeadStart$Runs", "n", "I", false)
def tyX4 : Nat → FieldType := fun k => match k with
  | 0 => .array (.array .int)
  | 1 => .array (.array .int)
  | 2 => .array .int
  | _ => .int
abbrev wsX40 : List Cond := u_ws RX4 TX4 4
theorem nmX4 : ∀ a, a < 4 → ∀ b, b < 4 → a ≠ b → (TX4 a).2.1 ≠ (TX4 b).2.1 := by decide +kernel
theorem tyX4_ok : ∀ k, k < 4 → parseFieldDescriptor (TX4 k).2.2.1 = some (tyX4 k) := by decide +kernel
abbrev cX4_init : ByteArray := prog_6_method_1_code
def yX4_init : MethodName := ⟨RX4, "<init>", "()V"⟩
abbrev cX4_keep : ByteArray := prog_6_method_2_code
def yX4_keep : MethodName := ⟨RX4, "keep", "(LHeadStart$Field;)V"⟩
abbrev cX4_loseOldest : ByteArray := prog_6_method_3_code
def yX4_loseOldest : MethodName := ⟨RX4, "loseOldest", "()V"⟩
abbrev cX4_bring : ByteArray := prog_6_method_4_code
def yX4_bring : MethodName := ⟨RX4, "bring", "(LHeadStart$Field;)I"⟩
abbrev cX4_drop : ByteArray := prog_6_method_5_code
def yX4_drop : MethodName := ⟨RX4, "drop", "()V"⟩
def RX5 : String := "HeadStart$Teller"
def TX5 : u_T := fun k => match k with
  | 0 => ("HeadStart$Teller", "letters", "LHeadStart$Row;", true)
  | _ => ("HeadStart$Teller", "race", "LHeadStart$Race;", true)
def tyX5 : Nat → FieldType := fun k => match k with
  | 0 => .object "HeadStart$Row"
  | _ => .object "HeadStart$Race"
abbrev wsX50 : List Cond := u_ws RX5 TX5 2
theorem nmX5 : ∀ a, a < 2 → ∀ b, b < 2 → a ≠ b → (TX5 a).2.1 ≠ (TX5 b).2.1 := by decide +kernel
theorem tyX5_ok : ∀ k, k < 2 → parseFieldDescriptor (TX5 k).2.2.1 = some (tyX5 k) := by decide +kernel
abbrev cX5_init : ByteArray := prog_7_method_1_code
def yX5_init : MethodName := ⟨RX5, "<init>", "()V"⟩
abbrev cX5_tell : ByteArray := prog_7_method_2_code
def yX5_tell : MethodName := ⟨RX5, "tell", "(LHeadStart$Field;)I"⟩
abbrev cX5_firstFault : ByteArray := prog_7_method_3_code
def yX5_firstFault : MethodName := ⟨RX5, "firstFault", "()I"⟩
abbrev cX5_behind : ByteArray := prog_7_method_4_code
def yX5_behind : MethodName := ⟨RX5, "behind", "(I)I"⟩
abbrev cX5_mostDigits : ByteArray := prog_7_method_5_code
def yX5_mostDigits : MethodName := ⟨RX5, "mostDigits", "(I)I"⟩
abbrev cX5_digit : ByteArray := prog_7_method_6_code
def yX5_digit : MethodName := ⟨RX5, "digit", "(I)I"⟩
abbrev cX5_two : ByteArray := prog_7_method_7_code
def yX5_two : MethodName := ⟨RX5, "two", "(I)I"⟩
abbrev cX5_comes : ByteArray := prog_7_method_8_code
def yX5_comes : MethodName := ⟨RX5, "comes", "(LHeadStart$Field;I)Z"⟩
abbrev cX5_wayComes : ByteArray := prog_7_method_9_code
def yX5_wayComes : MethodName := ⟨RX5, "wayComes", "(LHeadStart$Field;I)Z"⟩
abbrev cX5_runnerComes : ByteArray := prog_7_method_10_code
def yX5_runnerComes : MethodName := ⟨RX5, "runnerComes", "(LHeadStart$Field;I)Z"⟩
abbrev cX5_ruleComes : ByteArray := prog_7_method_11_code
def yX5_ruleComes : MethodName := ⟨RX5, "ruleComes", "(LHeadStart$Field;I)Z"⟩
abbrev cX5_startComes : ByteArray := prog_7_method_12_code
def yX5_startComes : MethodName := ⟨RX5, "startComes", "(LHeadStart$Field;I)Z"⟩
def RX6 : String := "HeadStart"
def TX6 : u_T := fun k => match k with
  | 0 => ("HeadStart", "now", "LHeadStart$Field;", true)
  | 1 => ("HeadStart", "mind", "LHeadStart$Field;", true)
  | 2 => ("HeadStart", "aside", "LHeadStart$Field;", true)
  | 3 => ("HeadStart", "saved", "LHeadStart$Field;", true)
  | 4 => ("HeadStart", "race", "LHeadStart$Race;", true)
  | 5 => ("HeadStart", "teller", "LHeadStart$Teller;", true)
  | 6 => ("HeadStart", "told", "LHeadStart$Row;", true)
  | 7 => ("HeadStart", "toldTimes", "LHeadStart$Row;", true)
  | 8 => ("HeadStart", "bags", "LHeadStart$Row;", true)
  | 9 => ("HeadStart", "savedBags", "LHeadStart$Row;", true)
  | 10 => ("HeadStart", "habit", "LHeadStart$Habit;", true)
  | 11 => ("HeadStart", "savedHabit", "LHeadStart$Habit;", true)
  | 12 => ("HeadStart", "runs", "LHeadStart$Runs;", true)
  | 13 => ("HeadStart", "refused", "[I", true)
  | 14 => ("HeadStart", "table", "[[I", true)
  | _ => ("HeadStart", "imaged", "Z", false)
def tyX6 : Nat → FieldType := fun k => match k with
  | 0 => .object "HeadStart$Field"
  | 1 => .object "HeadStart$Field"
  | 2 => .object "HeadStart$Field"
  | 3 => .object "HeadStart$Field"
  | 4 => .object "HeadStart$Race"
  | 5 => .object "HeadStart$Teller"
  | 6 => .object "HeadStart$Row"
  | 7 => .object "HeadStart$Row"
  | 8 => .object "HeadStart$Row"
  | 9 => .object "HeadStart$Row"
  | 10 => .object "HeadStart$Habit"
  | 11 => .object "HeadStart$Habit"
  | 12 => .object "HeadStart$Runs"
  | 13 => .array .int
  | 14 => .array (.array .int)
  | _ => .boolean
abbrev wsX60 : List Cond := u_ws RX6 TX6 16
theorem nmX6 : ∀ a, a < 16 → ∀ b, b < 16 → a ≠ b → (TX6 a).2.1 ≠ (TX6 b).2.1 := by decide +kernel
theorem tyX6_ok : ∀ k, k < 16 → parseFieldDescriptor (TX6 k).2.2.1 = some (tyX6 k) := by decide +kernel
abbrev cX6_init : ByteArray := prog_1_method_1_code
def yX6_init : MethodName := ⟨RX6, "<init>", "()V"⟩
abbrev cX6_feed : ByteArray := prog_1_method_2_code
def yX6_feed : MethodName := ⟨RX6, "feed", "(I)I"⟩
abbrev cX6_lane : ByteArray := prog_1_method_3_code
def yX6_lane : MethodName := ⟨RX6, "lane", "()I"⟩
abbrev cX6_runner : ByteArray := prog_1_method_4_code
def yX6_runner : MethodName := ⟨RX6, "runner", "(II)I"⟩
abbrev cX6_start : ByteArray := prog_1_method_5_code
def yX6_start : MethodName := ⟨RX6, "start", "(II)I"⟩
abbrev cX6_kind : ByteArray := prog_1_method_6_code
def yX6_kind : MethodName := ⟨RX6, "kind", "(III)I"⟩
abbrev cX6_set : ByteArray := prog_1_method_7_code
def yX6_set : MethodName := ⟨RX6, "set", "(II)I"⟩
abbrev cX6_run : ByteArray := prog_1_method_8_code
def yX6_run : MethodName := ⟨RX6, "run", "()I"⟩
abbrev cX6_order : ByteArray := prog_1_method_9_code
def yX6_order : MethodName := ⟨RX6, "order", "()I"⟩
abbrev cX6_likely : ByteArray := prog_1_method_10_code
def yX6_likely : MethodName := ⟨RX6, "likely", "(II)J"⟩
abbrev cX6_ordered : ByteArray := prog_1_method_11_code
def yX6_ordered : MethodName := ⟨RX6, "ordered", "(II)J"⟩
abbrev cX6_close : ByteArray := prog_1_method_12_code
def yX6_close : MethodName := ⟨RX6, "close", "(II)J"⟩
abbrev cX6_sure : ByteArray := prog_1_method_13_code
def yX6_sure : MethodName := ⟨RX6, "sure", "(I)I"⟩
abbrev cX6_even : ByteArray := prog_1_method_14_code
def yX6_even : MethodName := ⟨RX6, "even", "(II)I"⟩
abbrev cX6_starts : ByteArray := prog_1_method_15_code
def yX6_starts : MethodName := ⟨RX6, "starts", "(II)I"⟩
abbrev cX6_load : ByteArray := prog_1_method_16_code
def yX6_load : MethodName := ⟨RX6, "load", "(I)I"⟩
abbrev cX6_on : ByteArray := prog_1_method_17_code
def yX6_on : MethodName := ⟨RX6, "on", "(III)I"⟩
abbrev cX6_settles : ByteArray := prog_1_method_18_code
def yX6_settles : MethodName := ⟨RX6, "settles", "()I"⟩
abbrev cX6_best : ByteArray := prog_1_method_19_code
def yX6_best : MethodName := ⟨RX6, "best", "(I)I"⟩
abbrev cX6_pays : ByteArray := prog_1_method_20_code
def yX6_pays : MethodName := ⟨RX6, "pays", "(II)I"⟩
abbrev cX6_worth : ByteArray := prog_1_method_21_code
def yX6_worth : MethodName := ⟨RX6, "worth", "(II)I"⟩
abbrev cX6_same : ByteArray := prog_1_method_22_code
def yX6_same : MethodName := ⟨RX6, "same", "(III)I"⟩
abbrev cX6_teams : ByteArray := prog_1_method_23_code
def yX6_teams : MethodName := ⟨RX6, "teams", "(I)I"⟩
abbrev cX6_longer : ByteArray := prog_1_method_24_code
def yX6_longer : MethodName := ⟨RX6, "longer", "(I)I"⟩
abbrev cX6_fits : ByteArray := prog_1_method_25_code
def yX6_fits : MethodName := ⟨RX6, "fits", "(II)I"⟩
abbrev cX6_let : ByteArray := prog_1_method_26_code
def yX6_let : MethodName := ⟨RX6, "let", "()I"⟩
abbrev cX6_row : ByteArray := prog_1_method_27_code
def yX6_row : MethodName := ⟨RX6, "row", "(I)I"⟩
abbrev cX6_judge : ByteArray := prog_1_method_28_code
def yX6_judge : MethodName := ⟨RX6, "judge", "()I"⟩
abbrev cX6_clear : ByteArray := prog_1_method_29_code
def yX6_clear : MethodName := ⟨RX6, "clear", "()I"⟩
abbrev cX6_seeds : ByteArray := prog_1_method_30_code
def yX6_seeds : MethodName := ⟨RX6, "seeds", "(IIII)I"⟩
abbrev cX6_back : ByteArray := prog_1_method_31_code
def yX6_back : MethodName := ⟨RX6, "back", "()I"⟩
abbrev cX6_bag : ByteArray := prog_1_method_32_code
def yX6_bag : MethodName := ⟨RX6, "bag", "(I)I"⟩
abbrev cX6_empty : ByteArray := prog_1_method_33_code
def yX6_empty : MethodName := ⟨RX6, "empty", "()I"⟩
abbrev cX6_bags : ByteArray := prog_1_method_34_code
def yX6_bags : MethodName := ⟨RX6, "bags", "(III)I"⟩
abbrev cX6_ahead : ByteArray := prog_1_method_35_code
def yX6_ahead : MethodName := ⟨RX6, "ahead", "(II)I"⟩
abbrev cX6_cup : ByteArray := prog_1_method_36_code
def yX6_cup : MethodName := ⟨RX6, "cup", "(III)J"⟩
abbrev cX6_bracket : ByteArray := prog_1_method_37_code
def yX6_bracket : MethodName := ⟨RX6, "bracket", "(I)I"⟩
abbrev cX6_league : ByteArray := prog_1_method_38_code
def yX6_league : MethodName := ⟨RX6, "league", "(II)J"⟩
abbrev cX6_ranks : ByteArray := prog_1_method_39_code
def yX6_ranks : MethodName := ⟨RX6, "ranks", "()I"⟩
abbrev cX6_hold : ByteArray := prog_1_method_40_code
def yX6_hold : MethodName := ⟨RX6, "hold", "(II)I"⟩
abbrev cX6_legs : ByteArray := prog_1_method_41_code
def yX6_legs : MethodName := ⟨RX6, "legs", "(IIII)I"⟩
abbrev cX6_bet : ByteArray := prog_1_method_42_code
def yX6_bet : MethodName := ⟨RX6, "bet", "()I"⟩
abbrev cX6_bets : ByteArray := prog_1_method_43_code
def yX6_bets : MethodName := ⟨RX6, "bets", "(I)J"⟩
abbrev cX6_habit : ByteArray := prog_1_method_44_code
def yX6_habit : MethodName := ⟨RX6, "habit", "(II)I"⟩
abbrev cX6_forget : ByteArray := prog_1_method_45_code
def yX6_forget : MethodName := ⟨RX6, "forget", "()I"⟩
abbrev cX6_tried : ByteArray := prog_1_method_46_code
def yX6_tried : MethodName := ⟨RX6, "tried", "(II)I"⟩
abbrev cX6_had : ByteArray := prog_1_method_47_code
def yX6_had : MethodName := ⟨RX6, "had", "(IIII)I"⟩
abbrev cX6_time : ByteArray := prog_1_method_48_code
def yX6_time : MethodName := ⟨RX6, "time", "(I)I"⟩
abbrev cX6_past : ByteArray := prog_1_method_49_code
def yX6_past : MethodName := ⟨RX6, "past", "(II)I"⟩
abbrev cX6_wipe : ByteArray := prog_1_method_50_code
def yX6_wipe : MethodName := ⟨RX6, "wipe", "()I"⟩
abbrev cX6_image : ByteArray := prog_1_method_51_code
def yX6_image : MethodName := ⟨RX6, "image", "()I"⟩
abbrev cX6_restore : ByteArray := prog_1_method_52_code
def yX6_restore : MethodName := ⟨RX6, "restore", "()I"⟩
abbrev cX6_count : ByteArray := prog_1_method_53_code
def yX6_count : MethodName := ⟨RX6, "count", "(I)I"⟩
abbrev cX6_refuse : ByteArray := prog_1_method_54_code
def yX6_refuse : MethodName := ⟨RX6, "refuse", "(I)I"⟩
abbrev cX6_refuseHigh : ByteArray := prog_1_method_55_code
def yX6_refuseHigh : MethodName := ⟨RX6, "refuseHigh", "(I)I"⟩
abbrev cX6_refuseLong : ByteArray := prog_1_method_56_code
def yX6_refuseLong : MethodName := ⟨RX6, "refuseLong", "(I)J"⟩
abbrev cX6_noPart : ByteArray := prog_1_method_57_code
def yX6_noPart : MethodName := ⟨RX6, "noPart", "(I)Z"⟩
abbrev cX6_notTwo : ByteArray := prog_1_method_58_code
def yX6_notTwo : MethodName := ⟨RX6, "notTwo", "(II)Z"⟩
abbrev cX6_fraction : ByteArray := prog_1_method_59_code
def yX6_fraction : MethodName := ⟨RX6, "fraction", "(JJI)J"⟩
abbrev cX6_leastOf : ByteArray := prog_1_method_60_code
def yX6_leastOf : MethodName := ⟨RX6, "leastOf", "(I)I"⟩
abbrev cX6_mostOf : ByteArray := prog_1_method_61_code
def yX6_mostOf : MethodName := ⟨RX6, "mostOf", "(I)I"⟩
abbrev cX6_alone : ByteArray := prog_1_method_62_code
def yX6_alone : MethodName := ⟨RX6, "alone", "(II)I"⟩
abbrev cX6_sixteenths : ByteArray := prog_1_method_63_code
def yX6_sixteenths : MethodName := ⟨RX6, "sixteenths", "(II)I"⟩
abbrev cX6_evenest : ByteArray := prog_1_method_64_code
def yX6_evenest : MethodName := ⟨RX6, "evenest", "(II)I"⟩
abbrev cX6_putStarts : ByteArray := prog_1_method_65_code
def yX6_putStarts : MethodName := ⟨RX6, "putStarts", "(II)V"⟩
abbrev cX6_winsIn : ByteArray := prog_1_method_66_code
def yX6_winsIn : MethodName := ⟨RX6, "winsIn", "(II)I"⟩
abbrev cX6_winsAs : ByteArray := prog_1_method_67_code
def yX6_winsAs : MethodName := ⟨RX6, "winsAs", "(III)I"⟩
abbrev cX6_gaps : ByteArray := prog_1_method_68_code
def yX6_gaps : MethodName := ⟨RX6, "gaps", "(IZ)I"⟩
abbrev cX6_gained : ByteArray := prog_1_method_69_code
def yX6_gained : MethodName := ⟨RX6, "gained", "(II)I"⟩
abbrev cX6_apart : ByteArray := prog_1_method_70_code
def yX6_apart : MethodName := ⟨RX6, "apart", "(I)I"⟩
abbrev cX6_firstNotSo : ByteArray := prog_1_method_71_code
def yX6_firstNotSo : MethodName := ⟨RX6, "firstNotSo", "()I"⟩
abbrev cX6_carrying : ByteArray := prog_1_method_72_code
def yX6_carrying : MethodName := ⟨RX6, "carrying", "(III)I"⟩
abbrev cX6_cupWays : ByteArray := prog_1_method_73_code
def yX6_cupWays : MethodName := ⟨RX6, "cupWays", "(II)I"⟩
abbrev cX6_leagueWays : ByteArray := prog_1_method_74_code
def yX6_leagueWays : MethodName := ⟨RX6, "leagueWays", "(I)I"⟩
abbrev cX6_holdWorth : ByteArray := prog_1_method_75_code
def yX6_holdWorth : MethodName := ⟨RX6, "holdWorth", "(III)I"⟩
abbrev cX6_relay : ByteArray := prog_1_method_76_code
def yX6_relay : MethodName := ⟨RX6, "relay", "(III)I"⟩
abbrev cX6_betsTold : ByteArray := prog_1_method_77_code
def yX6_betsTold : MethodName := ⟨RX6, "betsTold", "()Z"⟩
abbrev cX6_bestBet : ByteArray := prog_1_method_78_code
def yX6_bestBet : MethodName := ⟨RX6, "bestBet", "()I"⟩
abbrev cX6_betWays : ByteArray := prog_1_method_79_code
def yX6_betWays : MethodName := ⟨RX6, "betWays", "(I)I"⟩
abbrev cX6_tookThese : ByteArray := prog_1_method_80_code
def yX6_tookThese : MethodName := ⟨RX6, "tookThese", "(I)Z"⟩
def RX7 : String := "HeadStartModel"
def TX7 : u_T := fun k => match k with
  | 0 => ("HeadStartModel", "refused", "[I", true)
  | 1 => ("HeadStartModel", "kind", "[I", true)
  | 2 => ("HeadStartModel", "figure", "[I", true)
  | 3 => ("HeadStartModel", "pace", "[I", true)
  | 4 => ("HeadStartModel", "spread", "[I", true)
  | 5 => ("HeadStartModel", "start", "[I", true)
  | 6 => ("HeadStartModel", "wins", "[I", true)
  | 7 => ("HeadStartModel", "bag", "[I", true)
  | 8 => ("HeadStartModel", "clauseWhom", "[I", true)
  | 9 => ("HeadStartModel", "clauseYards", "[I", true)
  | 10 => ("HeadStartModel", "way", "I", false)
  | 11 => ("HeadStartModel", "week", "I", false)
  | 12 => ("HeadStartModel", "rule", "I", false)
  | 13 => ("HeadStartModel", "yard", "I", false)
  | 14 => ("HeadStartModel", "runners", "I", false)
  | 15 => ("HeadStartModel", "bags", "I", false)
  | 16 => ("HeadStartModel", "clauses", "I", false)
  | 17 => ("HeadStartModel", "tape", "[I", true)
  | 18 => ("HeadStartModel", "letter", "[I", true)
  | 19 => ("HeadStartModel", "letterAt", "[I", true)
  | 20 => ("HeadStartModel", "told", "[I", true)
  | 21 => ("HeadStartModel", "taped", "I", false)
  | 22 => ("HeadStartModel", "at", "I", false)
  | 23 => ("HeadStartModel", "statements", "I", false)
  | 24 => ("HeadStartModel", "kept", "[I", true)
  | 25 => ("HeadStartModel", "hasImage", "Z", false)
  | 26 => ("HeadStartModel", "isKeeping", "Z", false)
  | 27 => ("HeadStartModel", "cursor", "I", false)
  | 28 => ("HeadStartModel", "takes", "[I", true)
  | 29 => ("HeadStartModel", "order", "[I", true)
  | 30 => ("HeadStartModel", "backStarts", "[I", true)
  | 31 => ("HeadStartModel", "backWins", "[I", true)
  | 32 => ("HeadStartModel", "backWeek", "[I", true)
  | 33 => ("HeadStartModel", "backs", "I", false)
  | 34 => ("HeadStartModel", "firsts", "[I", true)
  | 35 => ("HeadStartModel", "bestStarts", "I", false)
  | 36 => ("HeadStartModel", "leastUneven", "I", false)
  | 37 => ("HeadStartModel", "wonThen", "I", false)
  | 38 => ("HeadStartModel", "startThen", "I", false)
  | 39 => ("HeadStartModel", "tenths", "[I", true)
  | 40 => ("HeadStartModel", "tenthsMany", "I", false)
  | 41 => ("HeadStartModel", "row", "[I", true)
  | _ => ("HeadStartModel", "rowMany", "I", false)
def tyX7 : Nat → FieldType := fun k => match k with
  | 0 => .array .int
  | 1 => .array .int
  | 2 => .array .int
  | 3 => .array .int
  | 4 => .array .int
  | 5 => .array .int
  | 6 => .array .int
  | 7 => .array .int
  | 8 => .array .int
  | 9 => .array .int
  | 10 => .int
  | 11 => .int
  | 12 => .int
  | 13 => .int
  | 14 => .int
  | 15 => .int
  | 16 => .int
  | 17 => .array .int
  | 18 => .array .int
  | 19 => .array .int
  | 20 => .array .int
  | 21 => .int
  | 22 => .int
  | 23 => .int
  | 24 => .array .int
  | 25 => .boolean
  | 26 => .boolean
  | 27 => .int
  | 28 => .array .int
  | 29 => .array .int
  | 30 => .array .int
  | 31 => .array .int
  | 32 => .array .int
  | 33 => .int
  | 34 => .array .int
  | 35 => .int
  | 36 => .int
  | 37 => .int
  | 38 => .int
  | 39 => .array .int
  | 40 => .int
  | 41 => .array .int
  | _ => .int
abbrev wsX70 : List Cond := u_ws RX7 TX7 43
theorem nmX7 : ∀ a, a < 43 → ∀ b, b < 43 → a ≠ b → (TX7 a).2.1 ≠ (TX7 b).2.1 := by decide +kernel
theorem tyX7_ok : ∀ k, k < 43 → parseFieldDescriptor (TX7 k).2.2.1 = some (tyX7 k) := by decide +kernel
abbrev cX7_init : ByteArray := prog_9_method_1_code
def yX7_init : MethodName := ⟨RX7, "<init>", "()V"⟩
abbrev cX7_no : ByteArray := prog_9_method_2_code
def yX7_no : MethodName := ⟨RX7, "no", "(I)I"⟩
abbrev cX7_lower : ByteArray := prog_9_method_3_code
def yX7_lower : MethodName := ⟨RX7, "lower", "(I)I"⟩
abbrev cX7_lowest : ByteArray := prog_9_method_4_code
def yX7_lowest : MethodName := ⟨RX7, "lowest", "(I)J"⟩
abbrev cX7_isIn : ByteArray := prog_9_method_5_code
def yX7_isIn : MethodName := ⟨RX7, "isIn", "(III)Z"⟩
abbrev cX7_bound : ByteArray := prog_9_method_6_code
def yX7_bound : MethodName := ⟨RX7, "bound", "(III)I"⟩
abbrev cX7_atLeastOne : ByteArray := prog_9_method_7_code
def yX7_atLeastOne : MethodName := ⟨RX7, "atLeastOne", "(I)I"⟩
abbrev cX7_isRunner : ByteArray := prog_9_method_8_code
def yX7_isRunner : MethodName := ⟨RX7, "isRunner", "(I)Z"⟩
abbrev cX7_areTwo : ByteArray := prog_9_method_9_code
def yX7_areTwo : MethodName := ⟨RX7, "areTwo", "(II)Z"⟩
abbrev cX7_feed : ByteArray := prog_9_method_10_code
def yX7_feed : MethodName := ⟨RX7, "feed", "(I)I"⟩
abbrev cX7_next : ByteArray := prog_9_method_11_code
def yX7_next : MethodName := ⟨RX7, "next", "()I"⟩
abbrev cX7_readsNumber : ByteArray := prog_9_method_12_code
def yX7_readsNumber : MethodName := ⟨RX7, "readsNumber", "(III)Z"⟩
abbrev cX7_readsRunner : ByteArray := prog_9_method_13_code
def yX7_readsRunner : MethodName := ⟨RX7, "readsRunner", "(I)Z"⟩
abbrev cX7_readsAll : ByteArray := prog_9_method_14_code
def yX7_readsAll : MethodName := ⟨RX7, "readsAll", "(II)Z"⟩
abbrev cX7_statement : ByteArray := prog_9_method_15_code
def yX7_statement : MethodName := ⟨RX7, "statement", "()Z"⟩
abbrev cX7_comesRunner : ByteArray := prog_9_method_16_code
def yX7_comesRunner : MethodName := ⟨RX7, "comesRunner", "(I)Z"⟩
abbrev cX7_comes : ByteArray := prog_9_method_17_code
def yX7_comes : MethodName := ⟨RX7, "comes", "(I)Z"⟩
abbrev cX7_lane : ByteArray := prog_9_method_18_code
def yX7_lane : MethodName := ⟨RX7, "lane", "()I"⟩
abbrev cX7_passes : ByteArray := prog_9_method_19_code
def yX7_passes : MethodName := ⟨RX7, "passes", "([I)V"⟩
abbrev cX7_passOne : ByteArray := prog_9_method_20_code
def yX7_passOne : MethodName := ⟨RX7, "passOne", "(I)I"⟩
abbrev cX7_passesAll : ByteArray := prog_9_method_21_code
def yX7_passesAll : MethodName := ⟨RX7, "passesAll", "(IZ)V"⟩
abbrev cX7_image : ByteArray := prog_9_method_22_code
def yX7_image : MethodName := ⟨RX7, "image", "()I"⟩
abbrev cX7_restore : ByteArray := prog_9_method_23_code
def yX7_restore : MethodName := ⟨RX7, "restore", "()I"⟩
abbrev cX7_timeOver : ByteArray := prog_9_method_24_code
def yX7_timeOver : MethodName := ⟨RX7, "timeOver", "(III)I"⟩
abbrev cX7_timeBy : ByteArray := prog_9_method_25_code
def yX7_timeBy : MethodName := ⟨RX7, "timeBy", "(II)I"⟩
abbrev cX7_timeOf : ByteArray := prog_9_method_26_code
def yX7_timeOf : MethodName := ⟨RX7, "timeOf", "(I)I"⟩
abbrev cX7_sorts : ByteArray := prog_9_method_27_code
def yX7_sorts : MethodName := ⟨RX7, "sorts", "()V"⟩
abbrev cX7_takesTimes : ByteArray := prog_9_method_28_code
def yX7_takesTimes : MethodName := ⟨RX7, "takesTimes", "()V"⟩
abbrev cX7_partTime : ByteArray := prog_9_method_29_code
def yX7_partTime : MethodName := ⟨RX7, "partTime", "(II)I"⟩
abbrev cX7_takesParts : ByteArray := prog_9_method_30_code
def yX7_takesParts : MethodName := ⟨RX7, "takesParts", "(I)V"⟩
abbrev cX7_races : ByteArray := prog_9_method_31_code
def yX7_races : MethodName := ⟨RX7, "races", "()I"⟩
abbrev cX7_held : ByteArray := prog_9_method_32_code
def yX7_held : MethodName := ⟨RX7, "held", "(I)I"⟩
abbrev cX7_mends : ByteArray := prog_9_method_33_code
def yX7_mends : MethodName := ⟨RX7, "mends", "()V"⟩
abbrev cX7_runs : ByteArray := prog_9_method_34_code
def yX7_runs : MethodName := ⟨RX7, "runs", "()I"⟩
abbrev cX7_runner : ByteArray := prog_9_method_35_code
def yX7_runner : MethodName := ⟨RX7, "runner", "(II)I"⟩
abbrev cX7_start : ByteArray := prog_9_method_36_code
def yX7_start : MethodName := ⟨RX7, "start", "(II)I"⟩
abbrev cX7_kind : ByteArray := prog_9_method_37_code
def yX7_kind : MethodName := ⟨RX7, "kind", "(III)I"⟩
abbrev cX7_set : ByteArray := prog_9_method_38_code
def yX7_set : MethodName := ⟨RX7, "set", "(II)I"⟩
abbrev cX7_run : ByteArray := prog_9_method_39_code
def yX7_run : MethodName := ⟨RX7, "run", "()I"⟩
abbrev cX7_digits : ByteArray := prog_9_method_40_code
def yX7_digits : MethodName := ⟨RX7, "digits", "()I"⟩
abbrev cX7_keepsRun : ByteArray := prog_9_method_41_code
def yX7_keepsRun : MethodName := ⟨RX7, "keepsRun", "()V"⟩
abbrev cX7_back : ByteArray := prog_9_method_42_code
def yX7_back : MethodName := ⟨RX7, "back", "()I"⟩
abbrev cX7_order : ByteArray := prog_9_method_43_code
def yX7_order : MethodName := ⟨RX7, "order", "()I"⟩
abbrev cX7_findFirsts : ByteArray := prog_9_method_44_code
def yX7_findFirsts : MethodName := ⟨RX7, "findFirsts", "()V"⟩
abbrev cX7_uneven : ByteArray := prog_9_method_45_code
def yX7_uneven : MethodName := ⟨RX7, "uneven", "()I"⟩
abbrev cX7_divisor : ByteArray := prog_9_method_46_code
def yX7_divisor : MethodName := ⟨RX7, "divisor", "(JJ)J"⟩
abbrev cX7_partOf : ByteArray := prog_9_method_47_code
def yX7_partOf : MethodName := ⟨RX7, "partOf", "(JJI)J"⟩
abbrev cX7_likely : ByteArray := prog_9_method_48_code
def yX7_likely : MethodName := ⟨RX7, "likely", "(II)J"⟩
abbrev cX7_isOrder : ByteArray := prog_9_method_49_code
def yX7_isOrder : MethodName := ⟨RX7, "isOrder", "(I)Z"⟩
abbrev cX7_ordered : ByteArray := prog_9_method_50_code
def yX7_ordered : MethodName := ⟨RX7, "ordered", "(II)J"⟩
abbrev cX7_gap : ByteArray := prog_9_method_51_code
def yX7_gap : MethodName := ⟨RX7, "gap", "()I"⟩
abbrev cX7_close : ByteArray := prog_9_method_52_code
def yX7_close : MethodName := ⟨RX7, "close", "(II)J"⟩
abbrev cX7_sure : ByteArray := prog_9_method_53_code
def yX7_sure : MethodName := ⟨RX7, "sure", "(I)I"⟩
abbrev cX7_partBy : ByteArray := prog_9_method_54_code
def yX7_partBy : MethodName := ⟨RX7, "partBy", "(III)I"⟩
abbrev cX7_aheadBy : ByteArray := prog_9_method_55_code
def yX7_aheadBy : MethodName := ⟨RX7, "aheadBy", "(IIII)I"⟩
abbrev cX7_aheadOf : ByteArray := prog_9_method_56_code
def yX7_aheadOf : MethodName := ⟨RX7, "aheadOf", "(II)I"⟩
abbrev cX7_even : ByteArray := prog_9_method_57_code
def yX7_even : MethodName := ⟨RX7, "even", "(II)I"⟩
abbrev cX7_findStarts : ByteArray := prog_9_method_58_code
def yX7_findStarts : MethodName := ⟨RX7, "findStarts", "(I)V"⟩
abbrev cX7_starts : ByteArray := prog_9_method_59_code
def yX7_starts : MethodName := ⟨RX7, "starts", "(II)I"⟩
abbrev cX7_load : ByteArray := prog_9_method_60_code
def yX7_load : MethodName := ⟨RX7, "load", "(I)I"⟩
abbrev cX7_goesOn : ByteArray := prog_9_method_61_code
def yX7_goesOn : MethodName := ⟨RX7, "goesOn", "(II)V"⟩
abbrev cX7_on : ByteArray := prog_9_method_62_code
def yX7_on : MethodName := ⟨RX7, "on", "(III)I"⟩
abbrev cX7_startsNumber : ByteArray := prog_9_method_63_code
def yX7_startsNumber : MethodName := ⟨RX7, "startsNumber", "()I"⟩
abbrev cX7_settles : ByteArray := prog_9_method_64_code
def yX7_settles : MethodName := ⟨RX7, "settles", "()I"⟩
abbrev cX7_gapsBy : ByteArray := prog_9_method_65_code
def yX7_gapsBy : MethodName := ⟨RX7, "gapsBy", "(II)I"⟩
abbrev cX7_best : ByteArray := prog_9_method_66_code
def yX7_best : MethodName := ⟨RX7, "best", "(I)I"⟩
abbrev cX7_pays : ByteArray := prog_9_method_67_code
def yX7_pays : MethodName := ⟨RX7, "pays", "(II)I"⟩
abbrev cX7_worthOf : ByteArray := prog_9_method_68_code
def yX7_worthOf : MethodName := ⟨RX7, "worthOf", "(II)I"⟩
abbrev cX7_worth : ByteArray := prog_9_method_69_code
def yX7_worth : MethodName := ⟨RX7, "worth", "(II)I"⟩
abbrev cX7_same : ByteArray := prog_9_method_70_code
def yX7_same : MethodName := ⟨RX7, "same", "(III)I"⟩
abbrev cX7_apartBy : ByteArray := prog_9_method_71_code
def yX7_apartBy : MethodName := ⟨RX7, "apartBy", "(I)I"⟩
abbrev cX7_teams : ByteArray := prog_9_method_72_code
def yX7_teams : MethodName := ⟨RX7, "teams", "(I)I"⟩
abbrev cX7_longer : ByteArray := prog_9_method_73_code
def yX7_longer : MethodName := ⟨RX7, "longer", "(I)I"⟩
abbrev cX7_let : ByteArray := prog_9_method_74_code
def yX7_let : MethodName := ⟨RX7, "let", "()I"⟩
abbrev cX7_bag : ByteArray := prog_9_method_75_code
def yX7_bag : MethodName := ⟨RX7, "bag", "(I)I"⟩
abbrev cX7_empty : ByteArray := prog_9_method_76_code
def yX7_empty : MethodName := ⟨RX7, "empty", "()I"⟩
abbrev cX7_bagsFar : ByteArray := prog_9_method_77_code
def yX7_bagsFar : MethodName := ⟨RX7, "bagsFar", "(III)I"⟩
abbrev cX7_bags : ByteArray := prog_9_method_78_code
def yX7_bags : MethodName := ⟨RX7, "bags", "(III)I"⟩
abbrev cX7_ahead : ByteArray := prog_9_method_79_code
def yX7_ahead : MethodName := ⟨RX7, "ahead", "(II)I"⟩
abbrev cX7_partner : ByteArray := prog_9_method_80_code
def yX7_partner : MethodName := ⟨RX7, "partner", "(II)I"⟩
abbrev cX7_cupParts : ByteArray := prog_9_method_81_code
def yX7_cupParts : MethodName := ⟨RX7, "cupParts", "(II)J"⟩
abbrev cX7_cup : ByteArray := prog_9_method_82_code
def yX7_cup : MethodName := ⟨RX7, "cup", "(III)J"⟩
abbrev cX7_bracket : ByteArray := prog_9_method_83_code
def yX7_bracket : MethodName := ⟨RX7, "bracket", "(I)I"⟩
abbrev cX7_leaguePoints : ByteArray := prog_9_method_84_code
def yX7_leaguePoints : MethodName := ⟨RX7, "leaguePoints", "(I)I"⟩
abbrev cX7_league : ByteArray := prog_9_method_85_code
def yX7_league : MethodName := ⟨RX7, "league", "(II)J"⟩
abbrev cX7_ranks : ByteArray := prog_9_method_86_code
def yX7_ranks : MethodName := ⟨RX7, "ranks", "()I"⟩
abbrev cX7_worthOfPair : ByteArray := prog_9_method_87_code
def yX7_worthOfPair : MethodName := ⟨RX7, "worthOfPair", "(III)I"⟩
abbrev cX7_hold : ByteArray := prog_9_method_88_code
def yX7_hold : MethodName := ⟨RX7, "hold", "(II)I"⟩
abbrev cX7_legsBy : ByteArray := prog_9_method_89_code
def yX7_legsBy : MethodName := ⟨RX7, "legsBy", "(III)I"⟩
abbrev cX7_legs : ByteArray := prog_9_method_90_code
def yX7_legs : MethodName := ⟨RX7, "legs", "(IIII)I"⟩
abbrev cX7_areBets : ByteArray := prog_9_method_91_code
def yX7_areBets : MethodName := ⟨RX7, "areBets", "()Z"⟩
abbrev cX7_bestBet : ByteArray := prog_9_method_92_code
def yX7_bestBet : MethodName := ⟨RX7, "bestBet", "()I"⟩
abbrev cX7_bet : ByteArray := prog_9_method_93_code
def yX7_bet : MethodName := ⟨RX7, "bet", "()I"⟩
abbrev cX7_bets : ByteArray := prog_9_method_94_code
def yX7_bets : MethodName := ⟨RX7, "bets", "(I)J"⟩
abbrev cX7_habit : ByteArray := prog_9_method_95_code
def yX7_habit : MethodName := ⟨RX7, "habit", "(II)I"⟩
abbrev cX7_forget : ByteArray := prog_9_method_96_code
def yX7_forget : MethodName := ⟨RX7, "forget", "()I"⟩
abbrev cX7_isWhom : ByteArray := prog_9_method_97_code
def yX7_isWhom : MethodName := ⟨RX7, "isWhom", "(II)Z"⟩
abbrev cX7_mendsByHabit : ByteArray := prog_9_method_98_code
def yX7_mendsByHabit : MethodName := ⟨RX7, "mendsByHabit", "()V"⟩
abbrev cX7_gapsByHabit : ByteArray := prog_9_method_99_code
def yX7_gapsByHabit : MethodName := ⟨RX7, "gapsByHabit", "(I)I"⟩
abbrev cX7_tried : ByteArray := prog_9_method_100_code
def yX7_tried : MethodName := ⟨RX7, "tried", "(II)I"⟩
abbrev cX7_had : ByteArray := prog_9_method_101_code
def yX7_had : MethodName := ⟨RX7, "had", "(IIII)I"⟩
abbrev cX7_time : ByteArray := prog_9_method_102_code
def yX7_time : MethodName := ⟨RX7, "time", "(I)I"⟩
abbrev cX7_wipe : ByteArray := prog_9_method_103_code
def yX7_wipe : MethodName := ⟨RX7, "wipe", "()I"⟩
abbrev cX7_hasTimes : ByteArray := prog_9_method_104_code
def yX7_hasTimes : MethodName := ⟨RX7, "hasTimes", "(I)Z"⟩
abbrev cX7_past : ByteArray := prog_9_method_105_code
def yX7_past : MethodName := ⟨RX7, "past", "(II)I"⟩
abbrev cX7_row : ByteArray := prog_9_method_106_code
def yX7_row : MethodName := ⟨RX7, "row", "(I)I"⟩
abbrev cX7_wrongAt : ByteArray := prog_9_method_107_code
def yX7_wrongAt : MethodName := ⟨RX7, "wrongAt", "()I"⟩
abbrev cX7_fits : ByteArray := prog_9_method_108_code
def yX7_fits : MethodName := ⟨RX7, "fits", "(II)I"⟩
abbrev cX7_judge : ByteArray := prog_9_method_109_code
def yX7_judge : MethodName := ⟨RX7, "judge", "()I"⟩
abbrev cX7_clear : ByteArray := prog_9_method_110_code
def yX7_clear : MethodName := ⟨RX7, "clear", "()I"⟩
abbrev cX7_seeds : ByteArray := prog_9_method_111_code
def yX7_seeds : MethodName := ⟨RX7, "seeds", "(IIII)I"⟩
abbrev cX7_count : ByteArray := prog_9_method_112_code
def yX7_count : MethodName := ⟨RX7, "count", "(I)I"⟩
def RJ9 : String := "java/lang/Math"
def TJ9 : u_T := fun k => match k with
  | _ => ("", "", "", false)
def tyJ9 : Nat → FieldType := fun k => match k with
  | _ => .int
abbrev wsJ90 : List Cond := u_ws RJ9 TJ9 0
theorem nmJ9 : ∀ a, a < 0 → ∀ b, b < 0 → a ≠ b → (TJ9 a).2.1 ≠ (TJ9 b).2.1 := by decide +kernel
theorem tyJ9_ok : ∀ k, k < 0 → parseFieldDescriptor (TJ9 k).2.2.1 = some (tyJ9 k) := by decide +kernel
abbrev cJ9_abs_0f7a4 : ByteArray := prog_10_method_59_code
def yJ9_abs_0f7a4 : MethodName := ⟨RJ9, "abs", "(I)I"⟩
abbrev cJ9_max_7cf53 : ByteArray := prog_10_method_65_code
def yJ9_max_7cf53 : MethodName := ⟨RJ9, "max", "(II)I"⟩
abbrev cJ9_min_7cf53 : ByteArray := prog_10_method_69_code
def yJ9_min_7cf53 : MethodName := ⟨RJ9, "min", "(II)I"⟩
def RL : String := "HeadStartLaw"
abbrev cL_law : ByteArray := code
def yL_law : MethodName := ⟨RL, "law", "([I)Z"⟩
def wsL_law_r1 : List Cond := [Cond.classLink RL 7 RX6, Cond.instantiable RX6 16, Cond.initialized RX6, Cond.classLink RL 10 RX7, Cond.instantiable RX7 43, Cond.initialized RX7, Cond.methodLink RL 9 yX6_init, Cond.instanceMethod yX6_init, Cond.code yX6_init cX6_init 1 none, Cond.methodLink RX6 1 objectInit, Cond.instanceMethod objectInit, Cond.code objectInit ⟨#[0xb1]⟩ 1 none, Cond.classLink RX6 7 RX0, Cond.instantiable RX0 11, Cond.initialized RX0, Cond.fieldLink RX6 10 "HeadStart" "now" "LHeadStart$Field;", Cond.fieldLink RX6 16 "HeadStart" "mind" "LHeadStart$Field;", Cond.fieldLink RX6 19 "HeadStart" "aside" "LHeadStart$Field;", Cond.fieldLink RX6 22 "HeadStart" "saved" "LHeadStart$Field;", Cond.classLink RX6 25 RX2, Cond.instantiable RX2 6, Cond.initialized RX2, Cond.fieldLink RX6 28 "HeadStart" "race" "LHeadStart$Race;", Cond.classLink RX6 32 RX5]
def wsL_law_r2 : List Cond := [Cond.instantiable RX5 2, Cond.initialized RX5, Cond.fieldLink RX6 35 "HeadStart" "teller" "LHeadStart$Teller;", Cond.classLink RX6 39 RX3, Cond.instantiable RX3 2, Cond.initialized RX3, Cond.fieldLink RX6 44 "HeadStart" "told" "LHeadStart$Row;", Cond.fieldLink RX6 48 "HeadStart" "toldTimes" "LHeadStart$Row;", Cond.fieldLink RX6 51 "HeadStart" "bags" "LHeadStart$Row;", Cond.fieldLink RX6 54 "HeadStart" "savedBags" "LHeadStart$Row;", Cond.classLink RX6 57 RX1, Cond.instantiable RX1 2, Cond.initialized RX1, Cond.fieldLink RX6 60 "HeadStart" "habit" "LHeadStart$Habit;", Cond.fieldLink RX6 64 "HeadStart" "savedHabit" "LHeadStart$Habit;", Cond.classLink RX6 67 RX4, Cond.instantiable RX4 4, Cond.initialized RX4, Cond.fieldLink RX6 70 "HeadStart" "runs" "LHeadStart$Runs;", Cond.arrayClass .int, Cond.fieldLink RX6 74 "HeadStart" "refused" "[I", Cond.classLink RX6 78 "[[I", Cond.fieldLink RX6 80 "HeadStart" "table" "[[I", Cond.fieldLink RX6 83 "HeadStart" "imaged" "Z"]
def wsL_law_r3 : List Cond := [Cond.methodLink RX6 9 yX0_init, Cond.instanceMethod yX0_init, Cond.code yX0_init cX0_init 1 none, Cond.methodLink RX0 3 objectInit, Cond.fieldLink RX0 9 "HeadStart$Field" "way" "I", Cond.fieldLink RX0 15 "HeadStart$Field" "week" "I", Cond.fieldLink RX0 18 "HeadStart$Field" "rule" "I", Cond.fieldLink RX0 21 "HeadStart$Field" "yard" "I", Cond.fieldLink RX0 24 "HeadStart$Field" "n" "I", Cond.fieldLink RX0 27 "HeadStart$Field" "kind" "[I", Cond.fieldLink RX0 31 "HeadStart$Field" "figure" "[I", Cond.fieldLink RX0 34 "HeadStart$Field" "pace" "[I", Cond.fieldLink RX0 37 "HeadStart$Field" "spread" "[I", Cond.fieldLink RX0 40 "HeadStart$Field" "start" "[I", Cond.fieldLink RX0 43 "HeadStart$Field" "wins" "[I", Cond.methodLink RX6 27 yX2_init, Cond.instanceMethod yX2_init, Cond.code yX2_init cX2_init 1 none, Cond.methodLink RX2 3 objectInit, Cond.fieldLink RX2 9 "HeadStart$Race" "n" "I", Cond.fieldLink RX2 15 "HeadStart$Race" "low" "[I", Cond.fieldLink RX2 19 "HeadStart$Race" "mid" "[I", Cond.fieldLink RX2 22 "HeadStart$Race" "high" "[I", Cond.fieldLink RX2 25 "HeadStart$Race" "tenths" "[I"]
def wsL_law_r4 : List Cond := [Cond.fieldLink RX2 28 "HeadStart$Race" "places" "[I", Cond.methodLink RX6 34 yX5_init, Cond.instanceMethod yX5_init, Cond.code yX5_init cX5_init 1 none, Cond.methodLink RX5 3 objectInit, Cond.classLink RX5 9 RX3, Cond.fieldLink RX5 14 "HeadStart$Teller" "letters" "LHeadStart$Row;", Cond.classLink RX5 20 RX2, Cond.fieldLink RX5 23 "HeadStart$Teller" "race" "LHeadStart$Race;", Cond.methodLink RX5 11 yX3_init, Cond.instanceMethod yX3_init, Cond.code yX3_init cX3_init 2 none, Cond.methodLink RX3 1 objectInit, Cond.fieldLink RX3 7 "HeadStart$Row" "n" "I", Cond.methodLink RX3 13 Lib.Math.max.name, Cond.static Lib.Math.max.name, Cond.initialized "java/lang/Math", Cond.code Lib.Math.max.name Lib.Math.max.code 2 (some .int), Cond.fieldLink RX3 19 "HeadStart$Row" "cells" "[I", Cond.methodLink RX5 22 yX2_init, Cond.methodLink RX6 41 yX3_init, Cond.methodLink RX6 59 yX1_init, Cond.instanceMethod yX1_init, Cond.code yX1_init cX1_init 1 none]
def wsL_law_r5 : List Cond := [Cond.methodLink RX1 1 objectInit, Cond.classLink RX1 7 RX3, Cond.fieldLink RX1 12 "HeadStart$Habit" "whom" "LHeadStart$Row;", Cond.fieldLink RX1 18 "HeadStart$Habit" "yards" "LHeadStart$Row;", Cond.methodLink RX1 9 yX3_init, Cond.methodLink RX6 69 yX4_init, Cond.instanceMethod yX4_init, Cond.code yX4_init cX4_init 1 none, Cond.methodLink RX4 3 objectInit, Cond.classLink RX4 11 "[[I", Cond.fieldLink RX4 13 "HeadStart$Runs" "starts" "[[I", Cond.fieldLink RX4 16 "HeadStart$Runs" "wins" "[[I", Cond.fieldLink RX4 19 "HeadStart$Runs" "weeks" "[I", Cond.fieldLink RX4 23 "HeadStart$Runs" "n" "I", Cond.methodLink RL 12 yX7_init, Cond.instanceMethod yX7_init, Cond.code yX7_init cX7_init 1 none, Cond.methodLink RX7 1 objectInit, Cond.fieldLink RX7 7 "HeadStartModel" "refused" "[I", Cond.fieldLink RX7 13 "HeadStartModel" "kind" "[I", Cond.fieldLink RX7 16 "HeadStartModel" "figure" "[I", Cond.fieldLink RX7 19 "HeadStartModel" "pace" "[I", Cond.fieldLink RX7 22 "HeadStartModel" "spread" "[I", Cond.fieldLink RX7 25 "HeadStartModel" "start" "[I"]
def wsL_law_r6 : List Cond := [Cond.fieldLink RX7 28 "HeadStartModel" "wins" "[I", Cond.fieldLink RX7 31 "HeadStartModel" "bag" "[I", Cond.fieldLink RX7 34 "HeadStartModel" "clauseWhom" "[I", Cond.fieldLink RX7 37 "HeadStartModel" "clauseYards" "[I", Cond.fieldLink RX7 40 "HeadStartModel" "way" "I", Cond.fieldLink RX7 44 "HeadStartModel" "yard" "I", Cond.fieldLink RX7 47 "HeadStartModel" "tape" "[I", Cond.fieldLink RX7 50 "HeadStartModel" "letter" "[I", Cond.fieldLink RX7 53 "HeadStartModel" "letterAt" "[I", Cond.fieldLink RX7 56 "HeadStartModel" "told" "[I", Cond.fieldLink RX7 59 "HeadStartModel" "kept" "[I", Cond.fieldLink RX7 62 "HeadStartModel" "takes" "[I", Cond.fieldLink RX7 65 "HeadStartModel" "order" "[I", Cond.fieldLink RX7 68 "HeadStartModel" "backStarts" "[I", Cond.fieldLink RX7 71 "HeadStartModel" "backWins" "[I", Cond.fieldLink RX7 74 "HeadStartModel" "backWeek" "[I", Cond.fieldLink RX7 77 "HeadStartModel" "firsts" "[I", Cond.fieldLink RX7 80 "HeadStartModel" "tenths" "[I", Cond.fieldLink RX7 83 "HeadStartModel" "row" "[I", Cond.methodLink RL 13 yX6_feed, Cond.instanceMethod yX6_feed, Cond.selects RX6 yX6_feed yX6_feed, Cond.code yX6_feed cX6_feed 2 (some .int), Cond.fieldLink RX6 91 "HeadStart$Teller" "letters" "LHeadStart$Row;"]
def wsL_law_r7 : List Cond := [Cond.methodLink RX6 87 yX6_refuse, Cond.instanceMethod yX6_refuse, Cond.selects RX6 yX6_refuse yX6_refuse, Cond.code yX6_refuse cX6_refuse 3 (some .int), Cond.methodLink RX6 94 yX3_full, Cond.instanceMethod yX3_full, Cond.selects RX3 yX3_full yX3_full, Cond.code yX3_full cX3_full 1 (some .boolean), Cond.methodLink RX6 98 yX3_put, Cond.instanceMethod yX3_put, Cond.selects RX3 yX3_put yX3_put, Cond.code yX3_put cX3_put 2 (some .int), Cond.methodLink RX3 23 yX3_full, Cond.methodLink RL 17 yX7_feed, Cond.instanceMethod yX7_feed, Cond.selects RX7 yX7_feed yX7_feed, Cond.code yX7_feed cX7_feed 3 (some .int), Cond.fieldLink RX7 100 "HeadStartModel" "taped" "I", Cond.methodLink RX7 96 yX7_bound, Cond.static yX7_bound, Cond.code yX7_bound cX7_bound 3 (some .int), Cond.methodLink RX7 103 yX7_no, Cond.instanceMethod yX7_no, Cond.selects RX7 yX7_no yX7_no]
def wsL_law_r8 : List Cond := [Cond.code yX7_no cX7_no 2 (some .int), Cond.methodLink RL 18 yX6_lane, Cond.instanceMethod yX6_lane, Cond.selects RX6 yX6_lane yX6_lane, Cond.code yX6_lane cX6_lane 2 (some .int), Cond.methodLink RX6 101 yX0_take, Cond.instanceMethod yX0_take, Cond.selects RX0 yX0_take yX0_take, Cond.code yX0_take cX0_take 3 none, Cond.methodLink RX0 46 yX0_takeSettings, Cond.instanceMethod yX0_takeSettings, Cond.selects RX0 yX0_takeSettings yX0_takeSettings, Cond.code yX0_takeSettings cX0_takeSettings 2 none, Cond.methodLink RX0 50 yX0_takeRunner, Cond.instanceMethod yX0_takeRunner, Cond.selects RX0 yX0_takeRunner yX0_takeRunner, Cond.code yX0_takeRunner cX0_takeRunner 4 none, Cond.methodLink RX6 105 yX5_tell, Cond.instanceMethod yX5_tell, Cond.selects RX5 yX5_tell yX5_tell, Cond.code yX5_tell cX5_tell 6 (some .int), Cond.fieldLink RX5 31 "HeadStart$Row" "n" "I", Cond.methodLink RX5 27 yX5_firstFault, Cond.instanceMethod yX5_firstFault]
def wsL_law_r9 : List Cond := [Cond.selects RX5 yX5_firstFault yX5_firstFault, Cond.code yX5_firstFault cX5_firstFault 4 (some .int), Cond.methodLink RX5 39 yX5_behind, Cond.instanceMethod yX5_behind, Cond.selects RX5 yX5_behind yX5_behind, Cond.code yX5_behind cX5_behind 6 (some .int), Cond.methodLink RX5 43 yX3_at, Cond.instanceMethod yX3_at, Cond.selects RX3 yX3_at yX3_at, Cond.code yX3_at cX3_at 2 (some .int), Cond.methodLink RX5 46 yX5_mostDigits, Cond.static yX5_mostDigits, Cond.code yX5_mostDigits cX5_mostDigits 1 (some .int), Cond.methodLink RX5 49 yX5_digit, Cond.instanceMethod yX5_digit, Cond.selects RX5 yX5_digit yX5_digit, Cond.code yX5_digit cX5_digit 3 (some .int), Cond.methodLink RX5 35 yX5_comes, Cond.instanceMethod yX5_comes, Cond.selects RX5 yX5_comes yX5_comes, Cond.code yX5_comes cX5_comes 3 (some .boolean), Cond.fieldLink RX5 64 "HeadStart$Field" "n" "I", Cond.fieldLink RX5 67 "HeadStart$Field" "week" "I", Cond.methodLink RX5 52 yX5_wayComes]
def wsL_law_r10 : List Cond := [Cond.instanceMethod yX5_wayComes, Cond.selects RX5 yX5_wayComes yX5_wayComes, Cond.code yX5_wayComes cX5_wayComes 5 (some .boolean), Cond.fieldLink RX5 74 "HeadStart$Field" "way" "I", Cond.methodLink RX5 55 yX5_runnerComes, Cond.instanceMethod yX5_runnerComes, Cond.selects RX5 yX5_runnerComes yX5_runnerComes, Cond.code yX5_runnerComes cX5_runnerComes 6 (some .boolean), Cond.fieldLink RX5 80 "HeadStart$Field" "kind" "[I", Cond.fieldLink RX5 84 "HeadStart$Field" "figure" "[I", Cond.fieldLink RX5 87 "HeadStart$Field" "pace" "[I", Cond.fieldLink RX5 90 "HeadStart$Field" "spread" "[I", Cond.fieldLink RX5 93 "HeadStart$Field" "start" "[I", Cond.fieldLink RX5 96 "HeadStart$Field" "wins" "[I", Cond.methodLink RX5 77 yX5_two, Cond.instanceMethod yX5_two, Cond.selects RX5 yX5_two yX5_two, Cond.code yX5_two cX5_two 2 (some .int), Cond.methodLink RX5 58 yX5_ruleComes, Cond.instanceMethod yX5_ruleComes, Cond.selects RX5 yX5_ruleComes yX5_ruleComes, Cond.code yX5_ruleComes cX5_ruleComes 5 (some .boolean), Cond.fieldLink RX5 99 "HeadStart$Field" "rule" "I", Cond.fieldLink RX5 102 "HeadStart$Field" "yard" "I"]
def wsL_law_r11 : List Cond := [Cond.methodLink RX5 61 yX5_startComes, Cond.instanceMethod yX5_startComes, Cond.selects RX5 yX5_startComes yX5_startComes, Cond.code yX5_startComes cX5_startComes 4 (some .boolean), Cond.methodLink RX5 105 yX0_has, Cond.instanceMethod yX0_has, Cond.selects RX0 yX0_has yX0_has, Cond.code yX0_has cX0_has 2 (some .boolean), Cond.methodLink RX5 70 yX2_goOn, Cond.instanceMethod yX2_goOn, Cond.selects RX2 yX2_goOn yX2_goOn, Cond.code yX2_goOn cX2_goOn 3 (some .int), Cond.fieldLink RX2 98 "HeadStart$Field" "wins" "[I", Cond.methodLink RX2 88 yX2_asRule, Cond.instanceMethod yX2_asRule, Cond.selects RX2 yX2_asRule yX2_asRule, Cond.code yX2_asRule cX2_asRule 3 none, Cond.fieldLink RX2 31 "HeadStart$Field" "n" "I", Cond.methodLink RX2 34 yX0_tenths, Cond.instanceMethod yX0_tenths, Cond.selects RX0 yX0_tenths yX0_tenths, Cond.code yX0_tenths cX0_tenths 2 (some .int), Cond.methodLink RX0 54 yX0_tenthsOver, Cond.instanceMethod yX0_tenthsOver]
def wsL_law_r12 : List Cond := [Cond.selects RX0 yX0_tenthsOver yX0_tenthsOver, Cond.code yX0_tenthsOver cX0_tenthsOver 8 (some .int), Cond.methodLink RX2 66 yX2_line, Cond.instanceMethod yX2_line, Cond.selects RX2 yX2_line yX2_line, Cond.code yX2_line cX2_line 4 none, Cond.methodLink RX2 91 yX2_first, Cond.instanceMethod yX2_first, Cond.selects RX2 yX2_first yX2_first, Cond.code yX2_first cX2_first 1 (some .int), Cond.methodLink RX2 94 yX0_has, Cond.methodLink RX2 101 yX2_behind, Cond.instanceMethod yX2_behind, Cond.selects RX2 yX2_behind yX2_behind, Cond.code yX2_behind cX2_behind 2 none, Cond.fieldLink RX2 111 "HeadStart$Field" "week" "I", Cond.methodLink RX2 104 yX2_last, Cond.instanceMethod yX2_last, Cond.selects RX2 yX2_last yX2_last, Cond.code yX2_last cX2_last 1 (some .int), Cond.methodLink RX2 107 yX0_mend, Cond.instanceMethod yX0_mend, Cond.selects RX0 yX0_mend yX0_mend, Cond.code yX0_mend cX0_mend 4 none]
def wsL_law_r13 : List Cond := [Cond.methodLink RX0 58 yX0_more, Cond.instanceMethod yX0_more, Cond.selects RX0 yX0_more yX0_more, Cond.code yX0_more cX0_more 4 none, Cond.methodLink RX6 109 yX3_drop, Cond.instanceMethod yX3_drop, Cond.selects RX3 yX3_drop yX3_drop, Cond.code yX3_drop cX3_drop 2 (some .int), Cond.methodLink RX6 113 yX4_drop, Cond.instanceMethod yX4_drop, Cond.selects RX4 yX4_drop yX4_drop, Cond.code yX4_drop cX4_drop 1 none, Cond.methodLink RL 22 yX7_lane, Cond.instanceMethod yX7_lane, Cond.selects RX7 yX7_lane yX7_lane, Cond.code yX7_lane cX7_lane 3 (some .int), Cond.fieldLink RX7 107 "HeadStartModel" "at" "I", Cond.fieldLink RX7 124 "HeadStartModel" "statements" "I", Cond.fieldLink RX7 154 "HeadStartModel" "backs" "I", Cond.methodLink RX7 143 yX7_statement, Cond.instanceMethod yX7_statement, Cond.selects RX7 yX7_statement yX7_statement, Cond.code yX7_statement cX7_statement 2 (some .boolean), Cond.methodLink RX7 110 yX7_next]
def wsL_law_r14 : List Cond := [Cond.instanceMethod yX7_next, Cond.selects RX7 yX7_next yX7_next, Cond.code yX7_next cX7_next 1 (some .int), Cond.methodLink RX7 127 yX7_readsAll, Cond.instanceMethod yX7_readsAll, Cond.selects RX7 yX7_readsAll yX7_readsAll, Cond.code yX7_readsAll cX7_readsAll 3 (some .boolean), Cond.methodLink RX7 118 yX7_readsNumber, Cond.instanceMethod yX7_readsNumber, Cond.selects RX7 yX7_readsNumber yX7_readsNumber, Cond.code yX7_readsNumber cX7_readsNumber 6 (some .boolean), Cond.methodLink RX7 114 yX7_isIn, Cond.static yX7_isIn, Cond.code yX7_isIn cX7_isIn 3 (some .boolean), Cond.methodLink RX7 121 yX7_readsRunner, Cond.instanceMethod yX7_readsRunner, Cond.selects RX7 yX7_readsRunner yX7_readsRunner, Cond.code yX7_readsRunner cX7_readsRunner 2 (some .boolean), Cond.methodLink RX7 147 yX7_passesAll, Cond.instanceMethod yX7_passesAll, Cond.selects RX7 yX7_passesAll yX7_passesAll, Cond.code yX7_passesAll cX7_passesAll 3 none, Cond.fieldLink RX7 161 "HeadStartModel" "cursor" "I", Cond.fieldLink RX7 157 "HeadStartModel" "isKeeping" "Z"]
def wsL_law_r15 : List Cond := [Cond.fieldLink RX7 168 "HeadStartModel" "bags" "I", Cond.fieldLink RX7 174 "HeadStartModel" "clauses" "I", Cond.fieldLink RX7 137 "HeadStartModel" "week" "I", Cond.fieldLink RX7 134 "HeadStartModel" "rule" "I", Cond.fieldLink RX7 89 "HeadStartModel" "runners" "I", Cond.methodLink RX7 164 yX7_passes, Cond.instanceMethod yX7_passes, Cond.selects RX7 yX7_passes yX7_passes, Cond.code yX7_passes cX7_passes 3 none, Cond.methodLink RX7 171 yX7_passOne, Cond.instanceMethod yX7_passOne, Cond.selects RX7 yX7_passOne yX7_passOne, Cond.code yX7_passOne cX7_passOne 3 (some .int), Cond.methodLink RX7 151 yX7_comes, Cond.instanceMethod yX7_comes, Cond.selects RX7 yX7_comes yX7_comes, Cond.code yX7_comes cX7_comes 3 (some .boolean), Cond.methodLink RX7 131 yX7_comesRunner, Cond.instanceMethod yX7_comesRunner, Cond.selects RX7 yX7_comesRunner yX7_comesRunner, Cond.code yX7_comesRunner cX7_comesRunner 2 (some .boolean), Cond.methodLink RX7 92 yX7_isRunner, Cond.instanceMethod yX7_isRunner, Cond.selects RX7 yX7_isRunner yX7_isRunner]
def wsL_law_r16 : List Cond := [Cond.code yX7_isRunner cX7_isRunner 2 (some .boolean), Cond.methodLink RX7 140 yX7_runs, Cond.instanceMethod yX7_runs, Cond.selects RX7 yX7_runs yX7_runs, Cond.code yX7_runs cX7_runs 1 (some .int), Cond.methodLink RX7 202 yX7_takesTimes, Cond.instanceMethod yX7_takesTimes, Cond.selects RX7 yX7_takesTimes yX7_takesTimes, Cond.code yX7_takesTimes cX7_takesTimes 2 none, Cond.methodLink RX7 190 yX7_timeOf, Cond.instanceMethod yX7_timeOf, Cond.selects RX7 yX7_timeOf yX7_timeOf, Cond.code yX7_timeOf cX7_timeOf 2 (some .int), Cond.methodLink RX7 186 yX7_timeBy, Cond.instanceMethod yX7_timeBy, Cond.selects RX7 yX7_timeBy yX7_timeBy, Cond.code yX7_timeBy cX7_timeBy 3 (some .int), Cond.methodLink RX7 183 yX7_timeOver, Cond.instanceMethod yX7_timeOver, Cond.selects RX7 yX7_timeOver yX7_timeOver, Cond.code yX7_timeOver cX7_timeOver 8 (some .int), Cond.methodLink RX7 180 yX7_atLeastOne, Cond.static yX7_atLeastOne, Cond.code yX7_atLeastOne cX7_atLeastOne 1 (some .int)]
def wsL_law_r17 : List Cond := [Cond.methodLink RX7 193 yX7_sorts, Cond.instanceMethod yX7_sorts, Cond.selects RX7 yX7_sorts yX7_sorts, Cond.code yX7_sorts cX7_sorts 3 none, Cond.methodLink RX7 205 yX7_mends, Cond.instanceMethod yX7_mends, Cond.selects RX7 yX7_mends yX7_mends, Cond.code yX7_mends cX7_mends 4 none, Cond.methodLink RX7 199 yX7_held, Cond.static yX7_held, Cond.code yX7_held cX7_held 1 (some .int), Cond.methodLink RL 23 yX6_runner, Cond.instanceMethod yX6_runner, Cond.selects RX6 yX6_runner yX6_runner, Cond.code yX6_runner cX6_runner 3 (some .int), Cond.fieldLink RX6 119 "HeadStart$Field" "kind" "[I", Cond.fieldLink RX6 122 "HeadStart$Field" "figure" "[I", Cond.fieldLink RX6 125 "HeadStart$Field" "pace" "[I", Cond.fieldLink RX6 128 "HeadStart$Field" "spread" "[I", Cond.fieldLink RX6 131 "HeadStart$Field" "start" "[I", Cond.fieldLink RX6 137 "HeadStart$Field" "wins" "[I", Cond.methodLink RX6 115 yX0_has, Cond.methodLink RX6 134 yX0_tenths, Cond.methodLink RL 27 yX7_runner]
def wsL_law_r18 : List Cond := [Cond.instanceMethod yX7_runner, Cond.selects RX7 yX7_runner yX7_runner, Cond.code yX7_runner cX7_runner 3 (some .int), Cond.methodLink RL 28 yX6_start, Cond.instanceMethod yX6_start, Cond.selects RX6 yX6_start yX6_start, Cond.code yX6_start cX6_start 4 (some .int), Cond.methodLink RL 31 yX7_start, Cond.instanceMethod yX7_start, Cond.selects RX7 yX7_start yX7_start, Cond.code yX7_start cX7_start 5 (some .int), Cond.methodLink RL 32 yX6_kind, Cond.instanceMethod yX6_kind, Cond.selects RX6 yX6_kind yX6_kind, Cond.code yX6_kind cX6_kind 5 (some .int), Cond.methodLink RL 36 yX7_kind, Cond.instanceMethod yX7_kind, Cond.selects RX7 yX7_kind yX7_kind, Cond.code yX7_kind cX7_kind 6 (some .int), Cond.methodLink RL 37 yX6_set, Cond.instanceMethod yX6_set, Cond.selects RX6 yX6_set yX6_set, Cond.code yX6_set cX6_set 4 (some .int), Cond.methodLink RX6 140 yX6_leastOf]
def wsL_law_r19 : List Cond := [Cond.static yX6_leastOf, Cond.code yX6_leastOf cX6_leastOf 1 (some .int), Cond.methodLink RX6 143 yX6_mostOf, Cond.static yX6_mostOf, Cond.code yX6_mostOf cX6_mostOf 1 (some .int), Cond.methodLink RX6 146 yX0_setting, Cond.instanceMethod yX0_setting, Cond.selects RX0 yX0_setting yX0_setting, Cond.code yX0_setting cX0_setting 2 (some .int), Cond.methodLink RX6 149 yX0_become, Cond.instanceMethod yX0_become, Cond.selects RX0 yX0_become yX0_become, Cond.code yX0_become cX0_become 3 none, Cond.methodLink RL 40 yX7_set, Cond.instanceMethod yX7_set, Cond.selects RX7 yX7_set yX7_set, Cond.code yX7_set cX7_set 5 (some .int), Cond.methodLink RL 41 yX6_run, Cond.instanceMethod yX6_run, Cond.selects RX6 yX6_run yX6_run, Cond.code yX6_run cX6_run 1 (some .int), Cond.fieldLink RX6 153 "HeadStart$Field" "n" "I", Cond.fieldLink RX6 157 "HeadStart$Field" "week" "I", Cond.methodLink RX6 160 yX4_keep]
def wsL_law_r20 : List Cond := [Cond.instanceMethod yX4_keep, Cond.selects RX4 yX4_keep yX4_keep, Cond.code yX4_keep cX4_keep 3 none, Cond.fieldLink RX4 30 "HeadStart$Field" "start" "[I", Cond.fieldLink RX4 35 "HeadStart$Field" "wins" "[I", Cond.fieldLink RX4 37 "HeadStart$Field" "week" "I", Cond.methodLink RX4 27 yX4_loseOldest, Cond.instanceMethod yX4_loseOldest, Cond.selects RX4 yX4_loseOldest yX4_loseOldest, Cond.code yX4_loseOldest cX4_loseOldest 3 none, Cond.methodLink RX6 163 yX2_goOn, Cond.methodLink RL 44 yX7_run, Cond.instanceMethod yX7_run, Cond.selects RX7 yX7_run yX7_run, Cond.code yX7_run cX7_run 2 (some .int), Cond.methodLink RX7 208 yX7_keepsRun, Cond.instanceMethod yX7_keepsRun, Cond.selects RX7 yX7_keepsRun yX7_keepsRun, Cond.code yX7_keepsRun cX7_keepsRun 3 none, Cond.methodLink RL 45 yX6_order, Cond.instanceMethod yX6_order, Cond.selects RX6 yX6_order yX6_order, Cond.code yX6_order cX6_order 1 (some .int), Cond.methodLink RX6 166 yX2_asRule]
def wsL_law_r21 : List Cond := [Cond.methodLink RX6 169 yX2_digits, Cond.instanceMethod yX2_digits, Cond.selects RX2 yX2_digits yX2_digits, Cond.code yX2_digits cX2_digits 3 (some .int), Cond.methodLink RL 48 yX7_order, Cond.instanceMethod yX7_order, Cond.selects RX7 yX7_order yX7_order, Cond.code yX7_order cX7_order 1 (some .int), Cond.methodLink RX7 211 yX7_digits, Cond.instanceMethod yX7_digits, Cond.selects RX7 yX7_digits yX7_digits, Cond.code yX7_digits cX7_digits 3 (some .int), Cond.methodLink RL 49 yX6_likely, Cond.instanceMethod yX6_likely, Cond.selects RX6 yX6_likely yX6_likely, Cond.code yX6_likely cX6_likely 3 (some .long), Cond.methodLink RX6 172 yX6_refuseLong, Cond.instanceMethod yX6_refuseLong, Cond.selects RX6 yX6_refuseLong yX6_refuseLong, Cond.code yX6_refuseLong cX6_refuseLong 2 (some .long), Cond.constantLong RX6 334 (4000000000000000000), Cond.methodLink RX6 176 yX6_noPart, Cond.static yX6_noPart, Cond.code yX6_noPart cX6_noPart 1 (some .boolean)]
def wsL_law_r22 : List Cond := [Cond.methodLink RX6 179 yX2_draw, Cond.instanceMethod yX2_draw, Cond.selects RX2 yX2_draw yX2_draw, Cond.code yX2_draw cX2_draw 3 none, Cond.fieldLink RX2 37 "HeadStart$Field" "spread" "[I", Cond.methodLink RX2 40 yX2_put, Cond.instanceMethod yX2_put, Cond.selects RX2 yX2_put yX2_put, Cond.code yX2_put cX2_put 4 none, Cond.methodLink RX2 44 Lib.Math.max.name, Cond.methodLink RX6 182 yX2_ways, Cond.instanceMethod yX2_ways, Cond.selects RX2 yX2_ways yX2_ways, Cond.code yX2_ways cX2_ways 2 (some .int), Cond.methodLink RX2 50 yX2_waysAt, Cond.instanceMethod yX2_waysAt, Cond.selects RX2 yX2_waysAt yX2_waysAt, Cond.code yX2_waysAt cX2_waysAt 5 (some .int), Cond.methodLink RX2 53 yX2_quarters, Cond.instanceMethod yX2_quarters, Cond.selects RX2 yX2_quarters yX2_quarters, Cond.code yX2_quarters cX2_quarters 3 (some .int), Cond.methodLink RX6 185 yX2_allWays, Cond.instanceMethod yX2_allWays]
def wsL_law_r23 : List Cond := [Cond.selects RX2 yX2_allWays yX2_allWays, Cond.code yX2_allWays cX2_allWays 1 (some .int), Cond.methodLink RX6 188 yX6_fraction, Cond.static yX6_fraction, Cond.code yX6_fraction cX6_fraction 10 (some .long), Cond.constantLong RX6 336 (2), Cond.methodLink RL 53 yX7_likely, Cond.instanceMethod yX7_likely, Cond.selects RX7 yX7_likely yX7_likely, Cond.code yX7_likely cX7_likely 3 (some .long), Cond.methodLink RX7 228 yX7_lowest, Cond.instanceMethod yX7_lowest, Cond.selects RX7 yX7_lowest yX7_lowest, Cond.code yX7_lowest cX7_lowest 2 (some .long), Cond.constantLong RX7 87 (4000000000000000000), Cond.methodLink RX7 221 yX7_findFirsts, Cond.instanceMethod yX7_findFirsts, Cond.selects RX7 yX7_findFirsts yX7_findFirsts, Cond.code yX7_findFirsts cX7_findFirsts 2 none, Cond.methodLink RX7 214 yX7_races, Cond.instanceMethod yX7_races, Cond.selects RX7 yX7_races yX7_races, Cond.code yX7_races cX7_races 1 (some .int), Cond.methodLink RX7 217 yX7_takesParts]
def wsL_law_r24 : List Cond := [Cond.instanceMethod yX7_takesParts, Cond.selects RX7 yX7_takesParts yX7_takesParts, Cond.code yX7_takesParts cX7_takesParts 3 none, Cond.methodLink RX7 196 yX7_partTime, Cond.instanceMethod yX7_partTime, Cond.selects RX7 yX7_partTime yX7_partTime, Cond.code yX7_partTime cX7_partTime 3 (some .int), Cond.methodLink RX7 232 yX7_partOf, Cond.static yX7_partOf, Cond.code yX7_partOf cX7_partOf 5 (some .long), Cond.methodLink RX7 224 yX7_divisor, Cond.static yX7_divisor, Cond.code yX7_divisor cX7_divisor 10 (some .long), Cond.methodLink RL 54 yX6_ordered, Cond.instanceMethod yX6_ordered, Cond.selects RX6 yX6_ordered yX6_ordered, Cond.code yX6_ordered cX6_ordered 3 (some .long), Cond.methodLink RX6 192 yX0_eachOnce, Cond.instanceMethod yX0_eachOnce, Cond.selects RX0 yX0_eachOnce yX0_eachOnce, Cond.code yX0_eachOnce cX0_eachOnce 5 (some .boolean), Cond.methodLink RX6 195 yX2_waysOf, Cond.instanceMethod yX2_waysOf, Cond.selects RX2 yX2_waysOf yX2_waysOf]
def wsL_law_r25 : List Cond := [Cond.code yX2_waysOf cX2_waysOf 6 (some .int), Cond.methodLink RX2 69 yX2_outcomes, Cond.instanceMethod yX2_outcomes, Cond.selects RX2 yX2_outcomes yX2_outcomes, Cond.code yX2_outcomes cX2_outcomes 3 (some .int), Cond.methodLink RX2 72 yX2_deal, Cond.instanceMethod yX2_deal, Cond.selects RX2 yX2_deal yX2_deal, Cond.code yX2_deal cX2_deal 6 (some .int), Cond.methodLink RX2 75 yX2_digits, Cond.methodLink RL 57 yX7_ordered, Cond.instanceMethod yX7_ordered, Cond.selects RX7 yX7_ordered yX7_ordered, Cond.code yX7_ordered cX7_ordered 5 (some .long), Cond.methodLink RX7 236 yX7_isOrder, Cond.instanceMethod yX7_isOrder, Cond.selects RX7 yX7_isOrder yX7_isOrder, Cond.code yX7_isOrder cX7_isOrder 6 (some .boolean), Cond.methodLink RL 58 yX6_close, Cond.instanceMethod yX6_close, Cond.selects RX6 yX6_close yX6_close, Cond.code yX6_close cX6_close 4 (some .long), Cond.methodLink RX6 198 yX2_gapInAllWays, Cond.instanceMethod yX2_gapInAllWays]
def wsL_law_r26 : List Cond := [Cond.selects RX2 yX2_gapInAllWays yX2_gapInAllWays, Cond.code yX2_gapInAllWays cX2_gapInAllWays 5 (some .int), Cond.methodLink RX2 78 yX2_gap, Cond.instanceMethod yX2_gap, Cond.selects RX2 yX2_gap yX2_gap, Cond.code yX2_gap cX2_gap 1 (some .int), Cond.methodLink RX6 201 yX2_uneven, Cond.instanceMethod yX2_uneven, Cond.selects RX2 yX2_uneven yX2_uneven, Cond.code yX2_uneven cX2_uneven 5 (some .int), Cond.methodLink RX2 63 Lib.Math.min.name, Cond.static Lib.Math.min.name, Cond.code Lib.Math.min.name Lib.Math.min.code 2 (some .int), Cond.methodLink RX2 56 yX2_allWays, Cond.methodLink RX2 60 yX2_ways, Cond.methodLink RL 61 yX7_close, Cond.instanceMethod yX7_close, Cond.selects RX7 yX7_close yX7_close, Cond.code yX7_close cX7_close 7 (some .long), Cond.methodLink RX7 239 yX7_uneven, Cond.instanceMethod yX7_uneven, Cond.selects RX7 yX7_uneven yX7_uneven, Cond.code yX7_uneven cX7_uneven 4 (some .int), Cond.methodLink RX7 242 yX7_gap]
def wsL_law_r27 : List Cond := [Cond.instanceMethod yX7_gap, Cond.selects RX7 yX7_gap yX7_gap, Cond.code yX7_gap cX7_gap 1 (some .int), Cond.methodLink RL 62 yX6_sure, Cond.instanceMethod yX6_sure, Cond.selects RX6 yX6_sure yX6_sure, Cond.code yX6_sure cX6_sure 5 (some .int), Cond.methodLink RL 65 yX7_sure, Cond.instanceMethod yX7_sure, Cond.selects RX7 yX7_sure yX7_sure, Cond.code yX7_sure cX7_sure 4 (some .int), Cond.methodLink RL 66 yX6_even, Cond.instanceMethod yX6_even, Cond.selects RX6 yX6_even yX6_even, Cond.code yX6_even cX6_even 8 (some .int), Cond.methodLink RX6 212 Lib.Math.abs.name, Cond.static Lib.Math.abs.name, Cond.code Lib.Math.abs.name Lib.Math.abs.code 1 (some .int), Cond.methodLink RX6 204 yX6_notTwo, Cond.instanceMethod yX6_notTwo, Cond.selects RX6 yX6_notTwo yX6_notTwo, Cond.code yX6_notTwo cX6_notTwo 3 (some .boolean), Cond.methodLink RX6 208 yX6_alone, Cond.instanceMethod yX6_alone]
def wsL_law_r28 : List Cond := [Cond.selects RX6 yX6_alone yX6_alone, Cond.code yX6_alone cX6_alone 3 (some .int), Cond.methodLink RX6 299 Lib.Math.min.name, Cond.methodLink RX6 338 Lib.Math.max.name, Cond.methodLink RX6 341 yX0_takeTwo, Cond.instanceMethod yX0_takeTwo, Cond.selects RX0 yX0_takeTwo yX0_takeTwo, Cond.code yX0_takeTwo cX0_takeTwo 4 none, Cond.methodLink RL 69 yX7_even, Cond.instanceMethod yX7_even, Cond.selects RX7 yX7_even yX7_even, Cond.code yX7_even cX7_even 8 (some .int), Cond.methodLink RX7 252 yX7_areTwo, Cond.instanceMethod yX7_areTwo, Cond.selects RX7 yX7_areTwo yX7_areTwo, Cond.code yX7_areTwo cX7_areTwo 3 (some .boolean), Cond.methodLink RX7 255 yX7_aheadOf, Cond.instanceMethod yX7_aheadOf, Cond.selects RX7 yX7_aheadOf yX7_aheadOf, Cond.code yX7_aheadOf cX7_aheadOf 3 (some .int), Cond.methodLink RX7 248 yX7_aheadBy, Cond.instanceMethod yX7_aheadBy, Cond.selects RX7 yX7_aheadBy yX7_aheadBy, Cond.code yX7_aheadBy cX7_aheadBy 9 (some .int)]
def wsL_law_r29 : List Cond := [Cond.methodLink RX7 245 yX7_partBy, Cond.static yX7_partBy, Cond.code yX7_partBy cX7_partBy 3 (some .int), Cond.methodLink RL 70 yX6_starts, Cond.instanceMethod yX6_starts, Cond.selects RX6 yX6_starts yX6_starts, Cond.code yX6_starts cX6_starts 6 (some .int), Cond.methodLink RX6 217 yX6_evenest, Cond.instanceMethod yX6_evenest, Cond.selects RX6 yX6_evenest yX6_evenest, Cond.code yX6_evenest cX6_evenest 8 (some .int), Cond.fieldLink RX6 289 "HeadStart$Race" "n" "I", Cond.methodLink RX6 345 yX0_tenthsFrom, Cond.instanceMethod yX0_tenthsFrom, Cond.selects RX0 yX0_tenthsFrom yX0_tenthsFrom, Cond.code yX0_tenthsFrom cX0_tenthsFrom 3 (some .int), Cond.methodLink RX6 348 yX6_putStarts, Cond.instanceMethod yX6_putStarts, Cond.selects RX6 yX6_putStarts yX6_putStarts, Cond.code yX6_putStarts cX6_putStarts 6 none, Cond.methodLink RX6 351 yX2_put, Cond.methodLink RL 73 yX7_starts, Cond.instanceMethod yX7_starts, Cond.selects RX7 yX7_starts yX7_starts]
def wsL_law_r30 : List Cond := [Cond.code yX7_starts cX7_starts 7 (some .int), Cond.fieldLink RX7 258 "HeadStartModel" "bestStarts" "I", Cond.methodLink RX7 264 yX7_findStarts, Cond.instanceMethod yX7_findStarts, Cond.selects RX7 yX7_findStarts yX7_findStarts, Cond.code yX7_findStarts cX7_findStarts 7 none, Cond.fieldLink RX7 261 "HeadStartModel" "leastUneven" "I", Cond.methodLink RL 74 yX6_load, Cond.instanceMethod yX6_load, Cond.selects RX6 yX6_load yX6_load, Cond.code yX6_load cX6_load 6 (some .int), Cond.methodLink RL 77 yX7_load, Cond.instanceMethod yX7_load, Cond.selects RX7 yX7_load yX7_load, Cond.code yX7_load cX7_load 6 (some .int), Cond.methodLink RL 78 yX6_on, Cond.instanceMethod yX6_on, Cond.selects RX6 yX6_on yX6_on, Cond.code yX6_on cX6_on 5 (some .int), Cond.methodLink RX6 220 yX6_winsIn, Cond.instanceMethod yX6_winsIn, Cond.selects RX6 yX6_winsIn yX6_winsIn, Cond.code yX6_winsIn cX6_winsIn 5 (some .int), Cond.methodLink RL 81 yX7_on]
def wsL_law_r31 : List Cond := [Cond.instanceMethod yX7_on, Cond.selects RX7 yX7_on yX7_on, Cond.code yX7_on cX7_on 5 (some .int), Cond.fieldLink RX7 270 "HeadStartModel" "startThen" "I", Cond.fieldLink RX7 267 "HeadStartModel" "wonThen" "I", Cond.methodLink RX7 273 yX7_goesOn, Cond.instanceMethod yX7_goesOn, Cond.selects RX7 yX7_goesOn yX7_goesOn, Cond.code yX7_goesOn cX7_goesOn 4 none, Cond.methodLink RL 82 yX6_settles, Cond.instanceMethod yX6_settles, Cond.selects RX6 yX6_settles yX6_settles, Cond.code yX6_settles cX6_settles 3 (some .int), Cond.methodLink RX6 223 yX0_startsAs, Cond.instanceMethod yX0_startsAs, Cond.selects RX0 yX0_startsAs yX0_startsAs, Cond.code yX0_startsAs cX0_startsAs 3 (some .boolean), Cond.methodLink RL 85 yX7_settles, Cond.instanceMethod yX7_settles, Cond.selects RX7 yX7_settles yX7_settles, Cond.code yX7_settles cX7_settles 4 (some .int), Cond.methodLink RX7 277 yX7_startsNumber, Cond.instanceMethod yX7_startsNumber, Cond.selects RX7 yX7_startsNumber yX7_startsNumber]
def wsL_law_r32 : List Cond := [Cond.code yX7_startsNumber cX7_startsNumber 3 (some .int), Cond.methodLink RL 86 yX6_best, Cond.instanceMethod yX6_best, Cond.selects RX6 yX6_best yX6_best, Cond.code yX6_best cX6_best 6 (some .int), Cond.fieldLink RX6 227 "HeadStart$Field" "rule" "I", Cond.methodLink RX6 230 yX6_gaps, Cond.instanceMethod yX6_gaps, Cond.selects RX6 yX6_gaps yX6_gaps, Cond.code yX6_gaps cX6_gaps 5 (some .int), Cond.methodLink RX6 260 yX2_gap, Cond.methodLink RX6 354 yX1_mend, Cond.instanceMethod yX1_mend, Cond.selects RX1 yX1_mend yX1_mend, Cond.code yX1_mend cX1_mend 5 none, Cond.fieldLink RX1 33 "HeadStart$Row" "n" "I", Cond.fieldLink RX1 37 "HeadStart$Field" "n" "I", Cond.methodLink RX1 40 yX3_at, Cond.methodLink RX1 43 yX2_first, Cond.methodLink RX1 48 yX2_last, Cond.methodLink RX1 51 yX1_means, Cond.static yX1_means, Cond.code yX1_means cX1_means 3 (some .boolean), Cond.methodLink RX1 55 yX0_more]
def wsL_law_r33 : List Cond := [Cond.methodLink RL 89 yX7_best, Cond.instanceMethod yX7_best, Cond.selects RX7 yX7_best yX7_best, Cond.code yX7_best cX7_best 5 (some .int), Cond.methodLink RX7 280 yX7_gapsBy, Cond.instanceMethod yX7_gapsBy, Cond.selects RX7 yX7_gapsBy yX7_gapsBy, Cond.code yX7_gapsBy cX7_gapsBy 5 (some .int), Cond.methodLink RL 90 yX6_pays, Cond.instanceMethod yX6_pays, Cond.selects RX6 yX6_pays yX6_pays, Cond.code yX6_pays cX6_pays 3 (some .int), Cond.methodLink RX6 234 yX6_refuseHigh, Cond.instanceMethod yX6_refuseHigh, Cond.selects RX6 yX6_refuseHigh yX6_refuseHigh, Cond.code yX6_refuseHigh cX6_refuseHigh 2 (some .int), Cond.constant RX6 333 (1000000000), Cond.methodLink RX6 237 yX6_winsAs, Cond.instanceMethod yX6_winsAs, Cond.selects RX6 yX6_winsAs yX6_winsAs, Cond.code yX6_winsAs cX6_winsAs 4 (some .int), Cond.methodLink RL 93 yX7_pays, Cond.instanceMethod yX7_pays, Cond.selects RX7 yX7_pays yX7_pays]
def wsL_law_r34 : List Cond := [Cond.code yX7_pays cX7_pays 6 (some .int), Cond.methodLink RX7 283 yX7_lower, Cond.instanceMethod yX7_lower, Cond.selects RX7 yX7_lower yX7_lower, Cond.code yX7_lower cX7_lower 2 (some .int), Cond.constant RX7 86 (1000000000), Cond.methodLink RL 94 yX6_worth, Cond.instanceMethod yX6_worth, Cond.selects RX6 yX6_worth yX6_worth, Cond.code yX6_worth cX6_worth 3 (some .int), Cond.methodLink RX6 241 yX6_gained, Cond.instanceMethod yX6_gained, Cond.selects RX6 yX6_gained yX6_gained, Cond.code yX6_gained cX6_gained 3 (some .int), Cond.methodLink RL 97 yX7_worth, Cond.instanceMethod yX7_worth, Cond.selects RX7 yX7_worth yX7_worth, Cond.code yX7_worth cX7_worth 4 (some .int), Cond.methodLink RX7 286 yX7_worthOf, Cond.instanceMethod yX7_worthOf, Cond.selects RX7 yX7_worthOf yX7_worthOf, Cond.code yX7_worthOf cX7_worthOf 3 (some .int), Cond.methodLink RL 98 yX6_same, Cond.instanceMethod yX6_same]
def wsL_law_r35 : List Cond := [Cond.selects RX6 yX6_same yX6_same, Cond.code yX6_same cX6_same 6 (some .int), Cond.methodLink RL 101 yX7_same, Cond.instanceMethod yX7_same, Cond.selects RX7 yX7_same yX7_same, Cond.code yX7_same cX7_same 6 (some .int), Cond.methodLink RL 102 yX6_teams, Cond.instanceMethod yX6_teams, Cond.selects RX6 yX6_teams yX6_teams, Cond.code yX6_teams cX6_teams 7 (some .int), Cond.methodLink RX6 244 yX6_apart, Cond.instanceMethod yX6_apart, Cond.selects RX6 yX6_apart yX6_apart, Cond.code yX6_apart cX6_apart 5 (some .int), Cond.fieldLink RX6 247 "HeadStart$Field" "way" "I", Cond.methodLink RX6 358 yX0_tenthsOver, Cond.methodLink RL 105 yX7_teams, Cond.instanceMethod yX7_teams, Cond.selects RX7 yX7_teams yX7_teams, Cond.code yX7_teams cX7_teams 5 (some .int), Cond.methodLink RX7 289 yX7_apartBy, Cond.instanceMethod yX7_apartBy, Cond.selects RX7 yX7_apartBy yX7_apartBy, Cond.code yX7_apartBy cX7_apartBy 4 (some .int)]
def wsL_law_r36 : List Cond := [Cond.methodLink RL 106 yX6_longer, Cond.instanceMethod yX6_longer, Cond.selects RX6 yX6_longer yX6_longer, Cond.code yX6_longer cX6_longer 3 (some .int), Cond.methodLink RL 109 yX7_longer, Cond.instanceMethod yX7_longer, Cond.selects RX7 yX7_longer yX7_longer, Cond.code yX7_longer cX7_longer 4 (some .int), Cond.methodLink RL 110 yX6_fits, Cond.instanceMethod yX6_fits, Cond.selects RX6 yX6_fits yX6_fits, Cond.code yX6_fits cX6_fits 6 (some .int), Cond.methodLink RX6 250 yX6_firstNotSo, Cond.instanceMethod yX6_firstNotSo, Cond.selects RX6 yX6_firstNotSo yX6_firstNotSo, Cond.code yX6_firstNotSo cX6_firstNotSo 2 (some .int), Cond.fieldLink RX6 270 "HeadStart$Row" "n" "I", Cond.methodLink RX6 361 yX3_at, Cond.methodLink RL 113 yX7_fits, Cond.instanceMethod yX7_fits, Cond.selects RX7 yX7_fits yX7_fits, Cond.code yX7_fits cX7_fits 7 (some .int), Cond.methodLink RX7 339 yX7_wrongAt, Cond.instanceMethod yX7_wrongAt]
def wsL_law_r37 : List Cond := [Cond.selects RX7 yX7_wrongAt yX7_wrongAt, Cond.code yX7_wrongAt cX7_wrongAt 3 (some .int), Cond.fieldLink RX7 315 "HeadStartModel" "rowMany" "I", Cond.methodLink RL 114 yX6_let, Cond.instanceMethod yX6_let, Cond.selects RX6 yX6_let yX6_let, Cond.code yX6_let cX6_let 4 (some .int), Cond.methodLink RX6 253 yX2_first, Cond.methodLink RL 117 yX7_let, Cond.instanceMethod yX7_let, Cond.selects RX7 yX7_let yX7_let, Cond.code yX7_let cX7_let 5 (some .int), Cond.methodLink RL 118 yX6_row, Cond.instanceMethod yX6_row, Cond.selects RX6 yX6_row yX6_row, Cond.code yX6_row cX6_row 2 (some .int), Cond.methodLink RL 121 yX7_row, Cond.instanceMethod yX7_row, Cond.selects RX7 yX7_row yX7_row, Cond.code yX7_row cX7_row 3 (some .int), Cond.methodLink RL 122 yX6_judge, Cond.instanceMethod yX6_judge, Cond.selects RX6 yX6_judge yX6_judge, Cond.code yX6_judge cX6_judge 2 (some .int)]
def wsL_law_r38 : List Cond := [Cond.methodLink RL 125 yX7_judge, Cond.instanceMethod yX7_judge, Cond.selects RX7 yX7_judge yX7_judge, Cond.code yX7_judge cX7_judge 2 (some .int), Cond.methodLink RL 126 yX6_clear, Cond.instanceMethod yX6_clear, Cond.selects RX6 yX6_clear yX6_clear, Cond.code yX6_clear cX6_clear 1 (some .int), Cond.methodLink RL 129 yX7_clear, Cond.instanceMethod yX7_clear, Cond.selects RX7 yX7_clear yX7_clear, Cond.code yX7_clear cX7_clear 2 (some .int), Cond.methodLink RL 130 yX6_seeds, Cond.instanceMethod yX6_seeds, Cond.selects RX6 yX6_seeds yX6_seeds, Cond.code yX6_seeds cX6_seeds 9 (some .int), Cond.methodLink RX6 256 yX2_drawn, Cond.instanceMethod yX2_drawn, Cond.selects RX2 yX2_drawn yX2_drawn, Cond.code yX2_drawn cX2_drawn 6 (some .int), Cond.constant RX2 85 (1103515245), Cond.constant RX2 86 (2147483647), Cond.constant RX2 87 (65536), Cond.methodLink RX2 81 yX2_draw]
def wsL_law_r39 : List Cond := [Cond.methodLink RX6 263 yX2_behind, Cond.methodLink RL 134 yX7_seeds, Cond.instanceMethod yX7_seeds, Cond.selects RX7 yX7_seeds yX7_seeds, Cond.code yX7_seeds cX7_seeds 11 (some .int), Cond.constant RX7 342 (1103515245), Cond.constant RX7 343 (2147483647), Cond.constant RX7 344 (65536), Cond.methodLink RL 135 yX6_back, Cond.instanceMethod yX6_back, Cond.selects RX6 yX6_back yX6_back, Cond.code yX6_back cX6_back 1 (some .int), Cond.fieldLink RX6 266 "HeadStart$Runs" "n" "I", Cond.methodLink RX6 267 yX4_bring, Cond.instanceMethod yX4_bring, Cond.selects RX4 yX4_bring yX4_bring, Cond.code yX4_bring cX4_bring 3 (some .int), Cond.methodLink RL 138 yX7_back, Cond.instanceMethod yX7_back, Cond.selects RX7 yX7_back yX7_back, Cond.code yX7_back cX7_back 3 (some .int), Cond.methodLink RL 139 yX6_bag, Cond.instanceMethod yX6_bag, Cond.selects RX6 yX6_bag yX6_bag]
def wsL_law_r40 : List Cond := [Cond.code yX6_bag cX6_bag 2 (some .int), Cond.methodLink RL 142 yX7_bag, Cond.instanceMethod yX7_bag, Cond.selects RX7 yX7_bag yX7_bag, Cond.code yX7_bag cX7_bag 3 (some .int), Cond.methodLink RL 143 yX6_empty, Cond.instanceMethod yX6_empty, Cond.selects RX6 yX6_empty yX6_empty, Cond.code yX6_empty cX6_empty 1 (some .int), Cond.methodLink RL 146 yX7_empty, Cond.instanceMethod yX7_empty, Cond.selects RX7 yX7_empty yX7_empty, Cond.code yX7_empty cX7_empty 2 (some .int), Cond.methodLink RL 147 yX6_bags, Cond.instanceMethod yX6_bags, Cond.selects RX6 yX6_bags yX6_bags, Cond.code yX6_bags cX6_bags 8 (some .int), Cond.methodLink RX6 271 yX6_carrying, Cond.instanceMethod yX6_carrying, Cond.selects RX6 yX6_carrying yX6_carrying, Cond.code yX6_carrying cX6_carrying 8 (some .int), Cond.methodLink RL 150 yX7_bags, Cond.instanceMethod yX7_bags, Cond.selects RX7 yX7_bags yX7_bags]
def wsL_law_r41 : List Cond := [Cond.code yX7_bags cX7_bags 7 (some .int), Cond.methodLink RX7 292 yX7_bagsFar, Cond.instanceMethod yX7_bagsFar, Cond.selects RX7 yX7_bagsFar yX7_bagsFar, Cond.code yX7_bagsFar cX7_bagsFar 7 (some .int), Cond.methodLink RL 151 yX6_ahead, Cond.instanceMethod yX6_ahead, Cond.selects RX6 yX6_ahead yX6_ahead, Cond.code yX6_ahead cX6_ahead 3 (some .int), Cond.methodLink RX6 274 yX6_sixteenths, Cond.instanceMethod yX6_sixteenths, Cond.selects RX6 yX6_sixteenths yX6_sixteenths, Cond.code yX6_sixteenths cX6_sixteenths 4 (some .int), Cond.methodLink RL 154 yX7_ahead, Cond.instanceMethod yX7_ahead, Cond.selects RX7 yX7_ahead yX7_ahead, Cond.code yX7_ahead cX7_ahead 3 (some .int), Cond.methodLink RL 155 yX6_cup, Cond.instanceMethod yX6_cup, Cond.selects RX6 yX6_cup yX6_cup, Cond.code yX6_cup cX6_cup 4 (some .long), Cond.constantLong RX6 280 (4096), Cond.methodLink RX6 277 yX6_cupWays, Cond.instanceMethod yX6_cupWays]
def wsL_law_r42 : List Cond := [Cond.selects RX6 yX6_cupWays yX6_cupWays, Cond.code yX6_cupWays cX6_cupWays 6 (some .int), Cond.methodLink RL 159 yX7_cup, Cond.instanceMethod yX7_cup, Cond.selects RX7 yX7_cup yX7_cup, Cond.code yX7_cup cX7_cup 5 (some .long), Cond.constantLong RX7 302 (4096), Cond.methodLink RX7 298 yX7_cupParts, Cond.instanceMethod yX7_cupParts, Cond.selects RX7 yX7_cupParts yX7_cupParts, Cond.code yX7_cupParts cX7_cupParts 7 (some .long), Cond.methodLink RX7 295 yX7_partner, Cond.static yX7_partner, Cond.code yX7_partner cX7_partner 2 (some .int), Cond.methodLink RL 160 yX6_bracket, Cond.instanceMethod yX6_bracket, Cond.selects RX6 yX6_bracket yX6_bracket, Cond.code yX6_bracket cX6_bracket 6 (some .int), Cond.methodLink RL 163 yX7_bracket, Cond.instanceMethod yX7_bracket, Cond.selects RX7 yX7_bracket yX7_bracket, Cond.code yX7_bracket cX7_bracket 5 (some .int), Cond.methodLink RL 164 yX6_league, Cond.instanceMethod yX6_league]
def wsL_law_r43 : List Cond := [Cond.selects RX6 yX6_league yX6_league, Cond.code yX6_league cX6_league 3 (some .long), Cond.constantLong RX6 285 (16), Cond.methodLink RX6 282 yX6_leagueWays, Cond.instanceMethod yX6_leagueWays, Cond.selects RX6 yX6_leagueWays yX6_leagueWays, Cond.code yX6_leagueWays cX6_leagueWays 4 (some .int), Cond.methodLink RL 167 yX7_league, Cond.instanceMethod yX7_league, Cond.selects RX7 yX7_league yX7_league, Cond.code yX7_league cX7_league 4 (some .long), Cond.constantLong RX7 307 (16), Cond.methodLink RX7 304 yX7_leaguePoints, Cond.instanceMethod yX7_leaguePoints, Cond.selects RX7 yX7_leaguePoints yX7_leaguePoints, Cond.code yX7_leaguePoints cX7_leaguePoints 4 (some .int), Cond.methodLink RL 168 yX6_ranks, Cond.instanceMethod yX6_ranks, Cond.selects RX6 yX6_ranks yX6_ranks, Cond.code yX6_ranks cX6_ranks 2 (some .int), Cond.fieldLink RX6 287 "HeadStart$Race" "tenths" "[I", Cond.methodLink RX6 290 yX2_line, Cond.methodLink RL 171 yX7_ranks, Cond.instanceMethod yX7_ranks]
def wsL_law_r44 : List Cond := [Cond.selects RX7 yX7_ranks yX7_ranks, Cond.code yX7_ranks cX7_ranks 2 (some .int), Cond.methodLink RL 172 yX6_hold, Cond.instanceMethod yX6_hold, Cond.selects RX6 yX6_hold yX6_hold, Cond.code yX6_hold cX6_hold 7 (some .int), Cond.methodLink RX6 293 yX6_holdWorth, Cond.instanceMethod yX6_holdWorth, Cond.selects RX6 yX6_holdWorth yX6_holdWorth, Cond.code yX6_holdWorth cX6_holdWorth 8 (some .int), Cond.methodLink RL 175 yX7_hold, Cond.instanceMethod yX7_hold, Cond.selects RX7 yX7_hold yX7_hold, Cond.code yX7_hold cX7_hold 6 (some .int), Cond.methodLink RX7 309 yX7_worthOfPair, Cond.instanceMethod yX7_worthOfPair, Cond.selects RX7 yX7_worthOfPair yX7_worthOfPair, Cond.code yX7_worthOfPair cX7_worthOfPair 12 (some .int), Cond.methodLink RL 176 yX6_legs, Cond.instanceMethod yX6_legs, Cond.selects RX6 yX6_legs yX6_legs, Cond.code yX6_legs cX6_legs 7 (some .int), Cond.methodLink RX6 296 yX6_relay, Cond.instanceMethod yX6_relay]
def wsL_law_r45 : List Cond := [Cond.selects RX6 yX6_relay yX6_relay, Cond.code yX6_relay cX6_relay 5 (some .int), Cond.methodLink RL 179 yX7_legs, Cond.instanceMethod yX7_legs, Cond.selects RX7 yX7_legs yX7_legs, Cond.code yX7_legs cX7_legs 8 (some .int), Cond.methodLink RX7 312 yX7_legsBy, Cond.instanceMethod yX7_legsBy, Cond.selects RX7 yX7_legsBy yX7_legsBy, Cond.code yX7_legsBy cX7_legsBy 4 (some .int), Cond.methodLink RL 180 yX6_bet, Cond.instanceMethod yX6_bet, Cond.selects RX6 yX6_bet yX6_bet, Cond.code yX6_bet cX6_bet 1 (some .int), Cond.methodLink RX6 302 yX6_betsTold, Cond.instanceMethod yX6_betsTold, Cond.selects RX6 yX6_betsTold yX6_betsTold, Cond.code yX6_betsTold cX6_betsTold 2 (some .boolean), Cond.methodLink RX6 305 yX6_bestBet, Cond.instanceMethod yX6_bestBet, Cond.selects RX6 yX6_bestBet yX6_bestBet, Cond.code yX6_bestBet cX6_bestBet 3 (some .int), Cond.methodLink RX6 308 yX6_betWays, Cond.instanceMethod yX6_betWays]
def wsL_law_r46 : List Cond := [Cond.selects RX6 yX6_betWays yX6_betWays, Cond.code yX6_betWays cX6_betWays 2 (some .int), Cond.methodLink RL 183 yX7_bet, Cond.instanceMethod yX7_bet, Cond.selects RX7 yX7_bet yX7_bet, Cond.code yX7_bet cX7_bet 1 (some .int), Cond.methodLink RX7 318 yX7_areBets, Cond.instanceMethod yX7_areBets, Cond.selects RX7 yX7_areBets yX7_areBets, Cond.code yX7_areBets cX7_areBets 2 (some .boolean), Cond.methodLink RX7 321 yX7_bestBet, Cond.instanceMethod yX7_bestBet, Cond.selects RX7 yX7_bestBet yX7_bestBet, Cond.code yX7_bestBet cX7_bestBet 3 (some .int), Cond.methodLink RL 184 yX6_bets, Cond.instanceMethod yX6_bets, Cond.selects RX6 yX6_bets yX6_bets, Cond.code yX6_bets cX6_bets 3 (some .long), Cond.methodLink RL 188 yX7_bets, Cond.instanceMethod yX7_bets, Cond.selects RX7 yX7_bets yX7_bets, Cond.code yX7_bets cX7_bets 4 (some .long), Cond.methodLink RL 189 yX6_habit, Cond.instanceMethod yX6_habit]
def wsL_law_r47 : List Cond := [Cond.selects RX6 yX6_habit yX6_habit, Cond.code yX6_habit cX6_habit 3 (some .int), Cond.fieldLink RX6 311 "HeadStart$Habit" "whom" "LHeadStart$Row;", Cond.methodLink RX6 314 yX1_put, Cond.instanceMethod yX1_put, Cond.selects RX1 yX1_put yX1_put, Cond.code yX1_put cX1_put 3 (some .int), Cond.methodLink RX1 21 yX3_put, Cond.methodLink RL 192 yX7_habit, Cond.instanceMethod yX7_habit, Cond.selects RX7 yX7_habit yX7_habit, Cond.code yX7_habit cX7_habit 4 (some .int), Cond.methodLink RL 193 yX6_forget, Cond.instanceMethod yX6_forget, Cond.selects RX6 yX6_forget yX6_forget, Cond.code yX6_forget cX6_forget 1 (some .int), Cond.methodLink RX6 316 yX1_drop, Cond.instanceMethod yX1_drop, Cond.selects RX1 yX1_drop yX1_drop, Cond.code yX1_drop cX1_drop 1 (some .int), Cond.methodLink RX1 25 yX3_drop, Cond.methodLink RL 196 yX7_forget, Cond.instanceMethod yX7_forget, Cond.selects RX7 yX7_forget yX7_forget]
def wsL_law_r48 : List Cond := [Cond.code yX7_forget cX7_forget 2 (some .int), Cond.methodLink RL 197 yX6_tried, Cond.instanceMethod yX6_tried, Cond.selects RX6 yX6_tried yX6_tried, Cond.code yX6_tried cX6_tried 4 (some .int), Cond.methodLink RL 200 yX7_tried, Cond.instanceMethod yX7_tried, Cond.selects RX7 yX7_tried yX7_tried, Cond.code yX7_tried cX7_tried 5 (some .int), Cond.methodLink RX7 330 yX7_gapsByHabit, Cond.instanceMethod yX7_gapsByHabit, Cond.selects RX7 yX7_gapsByHabit yX7_gapsByHabit, Cond.code yX7_gapsByHabit cX7_gapsByHabit 4 (some .int), Cond.methodLink RX7 327 yX7_mendsByHabit, Cond.instanceMethod yX7_mendsByHabit, Cond.selects RX7 yX7_mendsByHabit yX7_mendsByHabit, Cond.code yX7_mendsByHabit cX7_mendsByHabit 3 none, Cond.methodLink RX7 324 yX7_isWhom, Cond.instanceMethod yX7_isWhom, Cond.selects RX7 yX7_isWhom yX7_isWhom, Cond.code yX7_isWhom cX7_isWhom 5 (some .boolean), Cond.methodLink RL 201 yX6_had, Cond.instanceMethod yX6_had, Cond.selects RX6 yX6_had yX6_had]
def wsL_law_r49 : List Cond := [Cond.code yX6_had cX6_had 8 (some .int), Cond.methodLink RL 204 yX7_had, Cond.instanceMethod yX7_had, Cond.selects RX7 yX7_had yX7_had, Cond.code yX7_had cX7_had 10 (some .int), Cond.methodLink RL 205 yX6_time, Cond.instanceMethod yX6_time, Cond.selects RX6 yX6_time yX6_time, Cond.code yX6_time cX6_time 2 (some .int), Cond.methodLink RL 208 yX7_time, Cond.instanceMethod yX7_time, Cond.selects RX7 yX7_time yX7_time, Cond.code yX7_time cX7_time 3 (some .int), Cond.fieldLink RX7 333 "HeadStartModel" "tenthsMany" "I", Cond.methodLink RL 209 yX6_past, Cond.instanceMethod yX6_past, Cond.selects RX6 yX6_past yX6_past, Cond.code yX6_past cX6_past 6 (some .int), Cond.methodLink RX6 317 yX6_tookThese, Cond.instanceMethod yX6_tookThese, Cond.selects RX6 yX6_tookThese yX6_tookThese, Cond.code yX6_tookThese cX6_tookThese 3 (some .boolean), Cond.methodLink RL 212 yX7_past, Cond.instanceMethod yX7_past]
def wsL_law_r50 : List Cond := [Cond.selects RX7 yX7_past yX7_past, Cond.code yX7_past cX7_past 9 (some .int), Cond.methodLink RX7 336 yX7_hasTimes, Cond.instanceMethod yX7_hasTimes, Cond.selects RX7 yX7_hasTimes yX7_hasTimes, Cond.code yX7_hasTimes cX7_hasTimes 5 (some .boolean), Cond.methodLink RL 213 yX6_wipe, Cond.instanceMethod yX6_wipe, Cond.selects RX6 yX6_wipe yX6_wipe, Cond.code yX6_wipe cX6_wipe 1 (some .int), Cond.methodLink RL 216 yX7_wipe, Cond.instanceMethod yX7_wipe, Cond.selects RX7 yX7_wipe yX7_wipe, Cond.code yX7_wipe cX7_wipe 2 (some .int), Cond.methodLink RL 217 yX6_image, Cond.instanceMethod yX6_image, Cond.selects RX6 yX6_image yX6_image, Cond.code yX6_image cX6_image 1 (some .int), Cond.methodLink RX6 320 yX3_take, Cond.instanceMethod yX3_take, Cond.selects RX3 yX3_take yX3_take, Cond.code yX3_take cX3_take 3 none, Cond.methodLink RX3 27 Lib.Math.min.name, Cond.methodLink RX3 30 yX3_at]
def wsL_law_r51 : List Cond := [Cond.methodLink RX6 323 yX1_take, Cond.instanceMethod yX1_take, Cond.selects RX1 yX1_take yX1_take, Cond.code yX1_take cX1_take 2 none, Cond.methodLink RX1 29 yX3_take, Cond.methodLink RL 220 yX7_image, Cond.instanceMethod yX7_image, Cond.selects RX7 yX7_image yX7_image, Cond.code yX7_image cX7_image 1 (some .int), Cond.fieldLink RX7 177 "HeadStartModel" "hasImage" "Z", Cond.methodLink RL 221 yX6_restore, Cond.instanceMethod yX6_restore, Cond.selects RX6 yX6_restore yX6_restore, Cond.code yX6_restore cX6_restore 1 (some .int), Cond.methodLink RL 224 yX7_restore, Cond.instanceMethod yX7_restore, Cond.selects RX7 yX7_restore yX7_restore, Cond.code yX7_restore cX7_restore 1 (some .int), Cond.methodLink RL 225 yX6_count, Cond.instanceMethod yX6_count, Cond.selects RX6 yX6_count yX6_count, Cond.code yX6_count cX6_count 2 (some .int), Cond.fieldLink RX6 326 "HeadStart$Field" "yard" "I", Cond.methodLink RX6 329 yX0_sum]
def wsL_law_r52 : List Cond := [Cond.instanceMethod yX0_sum, Cond.selects RX0 yX0_sum yX0_sum, Cond.code yX0_sum cX0_sum 4 (some .int), Cond.methodLink RL 228 yX7_count, Cond.instanceMethod yX7_count, Cond.selects RX7 yX7_count yX7_count, Cond.code yX7_count cX7_count 4 (some .int)]
def wsL_law : List Cond := (wsL_law_r1 ++ (wsL_law_r2 ++ (wsL_law_r3 ++ (wsL_law_r4 ++ (wsL_law_r5 ++ (wsL_law_r6 ++ (wsL_law_r7 ++ (wsL_law_r8 ++ (wsL_law_r9 ++ (wsL_law_r10 ++ (wsL_law_r11 ++ (wsL_law_r12 ++ (wsL_law_r13 ++ (wsL_law_r14 ++ (wsL_law_r15 ++ (wsL_law_r16 ++ (wsL_law_r17 ++ (wsL_law_r18 ++ (wsL_law_r19 ++ (wsL_law_r20 ++ (wsL_law_r21 ++ (wsL_law_r22 ++ (wsL_law_r23 ++ (wsL_law_r24 ++ (wsL_law_r25 ++ (wsL_law_r26 ++ (wsL_law_r27 ++ (wsL_law_r28 ++ (wsL_law_r29 ++ (wsL_law_r30 ++ (wsL_law_r31 ++ (wsL_law_r32 ++ (wsL_law_r33 ++ (wsL_law_r34 ++ (wsL_law_r35 ++ (wsL_law_r36 ++ (wsL_law_r37 ++ (wsL_law_r38 ++ (wsL_law_r39 ++ (wsL_law_r40 ++ (wsL_law_r41 ++ (wsL_law_r42 ++ (wsL_law_r43 ++ (wsL_law_r44 ++ (wsL_law_r45 ++ (wsL_law_r46 ++ (wsL_law_r47 ++ (wsL_law_r48 ++ (wsL_law_r49 ++ (wsL_law_r50 ++ (wsL_law_r51 ++ wsL_law_r52))))))))))))))))))))))))))))))))))))))))))))))))))) ++ wsX60 ++ wsX70 ++ wsX00 ++ wsX20 ++ wsX50 ++ wsX30 ++ wsX10 ++ wsX40 ++ ([] : List Cond)
set_option maxRecDepth 20000 in
theorem wsL_law_in : ∀ w ∈ wsL_law, w ∈ lw_tbl := fun w h => (goodIn_p wsL_law [88, 91, 96, 167, 194, 200, 204, 231, 247, 912, 318, 322, 326, 330, 1047, 1050, 1054, 335, 339, 343, 347, 351, 355, 359, 363, 366, 370, 374, 378, 382, 386, 390, 394, 398, 402, 406, 410, 414, 418, 422, 427, 431, 435, 439, 443, 447, 1058, 1062, 1066, 1070, 1074, 1077, 1081, 1085, 1089, 1093, 1097, 1101, 1105, 1109, 1113, 1117, 1121, 1125, 1128, 1132, 1136, 1139, 451, 1151, 457, 1155, 461, 1159, 465, 468, 471, 475, 479, 1163, 483, 487, 491, 1167, 1171, 496, 501, 1179, 1183, 505, 509, 513, 517, 521, 526, 530, 534, 538, 541, 1187, 1191, 1196, 1200, 1204, 1208, 1211, 1214, 546, 550, 554, 558, 562, 1218, 1222, 567, 571, 575, 579, 584, 1226, 1230, 1234, 588, 1238, 592, 609, 596, 600, 606, 1242, 1246, 1250, 1254, 1257, 613, 617, 621, 625, 1261, 1265, 630, 1269, 634, 638, 1273, 1277, 642, 646, 1281, 1285, 650, 654, 659, 665, 1289, 1293, 670, 674, 679, 1297, 1301, 683, 687, 1306, 1310, 691, 1314, 695, 699, 1318, 1322, 704, 1326, 708, 712, 1463, 1467, 717, 1330, 722, 1459, 726, 1471, 730, 1475, 734, 738, 1479, 747, 751, 1175, 755, 1334, 759, 1338, 763, 767, 1342, 1346, 771, 775, 1350, 779, 783, 1354, 1358, 1361, 788, 1366, 792, 796, 1370, 1374, 801, 1379, 806, 810, 1383, 1387, 814, 818, 1391, 1395, 822, 826, 830, 834, 1399, 1403, 1407, 838, 1411, 842, 846, 1415, 851, 855, 1419, 860, 1423, 1427, 1431, 1435, 864, 1439, 868, 1443, 872, 876, 1451, 1455, 880, 1447, 884, 888, 894, 1143, 899, 1147, 903, 907, 1486] (by decide +kernel) (by decide +kernel) w h).1
abbrev vwCl : List vw_C := [(RX0, TX0, 11), (RX1, TX1, 2), (RX2, TX2, 6), (RX3, TX3, 2), (RX4, TX4, 4), (RX5, TX5, 2), (RX6, TX6, 16), (RX7, TX7, 43)]
