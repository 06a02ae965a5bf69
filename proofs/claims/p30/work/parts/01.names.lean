-- ===== PART A: goes FIRST, ahead of the names: the tables' words, and 'selects' of the private methods out of them =====
/-- a private method of a class that the tables say can be made, by its rows of tables_1 -/
def lw_okq (q : MethodName × Nat) : Prop := (q.1.cls ≠ "java/lang/invoke/MethodHandle" ∧ q.1.cls ≠ "java/lang/invoke/VarHandle") ∧ Cond.instantiable q.1.cls q.2 ∈ tables_1 ∧ Cond.privateMethod q.1 ∈ tables_1 ∧ Cond.instanceMethod q.1 ∈ tables_1
theorem lw_p0 : lw_okq (⟨"HeadStart", "refuse", "(I)I"⟩, 16) := ⟨⟨by decide +kernel, by decide +kernel⟩, List.mem_of_getElem? (i := 11) (by decide +kernel), List.mem_of_getElem? (i := 246) (by decide +kernel), List.mem_of_getElem? (i := 247) (by decide +kernel)⟩
theorem lw_p1 : lw_okq (⟨"HeadStart", "refuseLong", "(I)J"⟩, 16) := ⟨⟨by decide +kernel, by decide +kernel⟩, List.mem_of_getElem? (i := 11) (by decide +kernel), List.mem_of_getElem? (i := 433) (by decide +kernel), List.mem_of_getElem? (i := 434) (by decide +kernel)⟩
theorem lw_p2 : lw_okq (⟨"HeadStart", "notTwo", "(II)Z"⟩, 16) := ⟨⟨by decide +kernel, by decide +kernel⟩, List.mem_of_getElem? (i := 11) (by decide +kernel), List.mem_of_getElem? (i := 520) (by decide +kernel), List.mem_of_getElem? (i := 521) (by decide +kernel)⟩
theorem lw_p3 : lw_okq (⟨"HeadStart", "alone", "(II)I"⟩, 16) := ⟨⟨by decide +kernel, by decide +kernel⟩, List.mem_of_getElem? (i := 11) (by decide +kernel), List.mem_of_getElem? (i := 524) (by decide +kernel), List.mem_of_getElem? (i := 525) (by decide +kernel)⟩
theorem lw_p4 : lw_okq (⟨"HeadStart", "evenest", "(II)I"⟩, 16) := ⟨⟨by decide +kernel, by decide +kernel⟩, List.mem_of_getElem? (i := 11) (by decide +kernel), List.mem_of_getElem? (i := 541) (by decide +kernel), List.mem_of_getElem? (i := 542) (by decide +kernel)⟩
theorem lw_p5 : lw_okq (⟨"HeadStart", "putStarts", "(II)V"⟩, 16) := ⟨⟨by decide +kernel, by decide +kernel⟩, List.mem_of_getElem? (i := 11) (by decide +kernel), List.mem_of_getElem? (i := 549) (by decide +kernel), List.mem_of_getElem? (i := 550) (by decide +kernel)⟩
theorem lw_p6 : lw_okq (⟨"HeadStart", "winsIn", "(II)I"⟩, 16) := ⟨⟨by decide +kernel, by decide +kernel⟩, List.mem_of_getElem? (i := 11) (by decide +kernel), List.mem_of_getElem? (i := 562) (by decide +kernel), List.mem_of_getElem? (i := 563) (by decide +kernel)⟩
theorem lw_p7 : lw_okq (⟨"HeadStart", "gaps", "(IZ)I"⟩, 16) := ⟨⟨by decide +kernel, by decide +kernel⟩, List.mem_of_getElem? (i := 11) (by decide +kernel), List.mem_of_getElem? (i := 578) (by decide +kernel), List.mem_of_getElem? (i := 579) (by decide +kernel)⟩
theorem lw_p8 : lw_okq (⟨"HeadStart", "refuseHigh", "(I)I"⟩, 16) := ⟨⟨by decide +kernel, by decide +kernel⟩, List.mem_of_getElem? (i := 11) (by decide +kernel), List.mem_of_getElem? (i := 598) (by decide +kernel), List.mem_of_getElem? (i := 599) (by decide +kernel)⟩
theorem lw_p9 : lw_okq (⟨"HeadStart", "winsAs", "(III)I"⟩, 16) := ⟨⟨by decide +kernel, by decide +kernel⟩, List.mem_of_getElem? (i := 11) (by decide +kernel), List.mem_of_getElem? (i := 603) (by decide +kernel), List.mem_of_getElem? (i := 604) (by decide +kernel)⟩
theorem lw_p10 : lw_okq (⟨"HeadStart", "gained", "(II)I"⟩, 16) := ⟨⟨by decide +kernel, by decide +kernel⟩, List.mem_of_getElem? (i := 11) (by decide +kernel), List.mem_of_getElem? (i := 611) (by decide +kernel), List.mem_of_getElem? (i := 612) (by decide +kernel)⟩
theorem lw_p11 : lw_okq (⟨"HeadStart", "apart", "(I)I"⟩, 16) := ⟨⟨by decide +kernel, by decide +kernel⟩, List.mem_of_getElem? (i := 11) (by decide +kernel), List.mem_of_getElem? (i := 623) (by decide +kernel), List.mem_of_getElem? (i := 624) (by decide +kernel)⟩
theorem lw_p12 : lw_okq (⟨"HeadStart", "firstNotSo", "()I"⟩, 16) := ⟨⟨by decide +kernel, by decide +kernel⟩, List.mem_of_getElem? (i := 11) (by decide +kernel), List.mem_of_getElem? (i := 636) (by decide +kernel), List.mem_of_getElem? (i := 637) (by decide +kernel)⟩
theorem lw_p13 : lw_okq (⟨"HeadStart", "carrying", "(III)I"⟩, 16) := ⟨⟨by decide +kernel, by decide +kernel⟩, List.mem_of_getElem? (i := 11) (by decide +kernel), List.mem_of_getElem? (i := 691) (by decide +kernel), List.mem_of_getElem? (i := 692) (by decide +kernel)⟩
theorem lw_p14 : lw_okq (⟨"HeadStart", "sixteenths", "(II)I"⟩, 16) := ⟨⟨by decide +kernel, by decide +kernel⟩, List.mem_of_getElem? (i := 11) (by decide +kernel), List.mem_of_getElem? (i := 699) (by decide +kernel), List.mem_of_getElem? (i := 700) (by decide +kernel)⟩
theorem lw_p15 : lw_okq (⟨"HeadStart", "cupWays", "(II)I"⟩, 16) := ⟨⟨by decide +kernel, by decide +kernel⟩, List.mem_of_getElem? (i := 11) (by decide +kernel), List.mem_of_getElem? (i := 707) (by decide +kernel), List.mem_of_getElem? (i := 708) (by decide +kernel)⟩
def lw_privs_1 : List (MethodName × Nat) := [(⟨"HeadStart", "refuse", "(I)I"⟩, 16), (⟨"HeadStart", "refuseLong", "(I)J"⟩, 16), (⟨"HeadStart", "notTwo", "(II)Z"⟩, 16), (⟨"HeadStart", "alone", "(II)I"⟩, 16), (⟨"HeadStart", "evenest", "(II)I"⟩, 16), (⟨"HeadStart", "putStarts", "(II)V"⟩, 16), (⟨"HeadStart", "winsIn", "(II)I"⟩, 16), (⟨"HeadStart", "gaps", "(IZ)I"⟩, 16), (⟨"HeadStart", "refuseHigh", "(I)I"⟩, 16), (⟨"HeadStart", "winsAs", "(III)I"⟩, 16), (⟨"HeadStart", "gained", "(II)I"⟩, 16), (⟨"HeadStart", "apart", "(I)I"⟩, 16), (⟨"HeadStart", "firstNotSo", "()I"⟩, 16), (⟨"HeadStart", "carrying", "(III)I"⟩, 16), (⟨"HeadStart", "sixteenths", "(II)I"⟩, 16), (⟨"HeadStart", "cupWays", "(II)I"⟩, 16)]
theorem lw_r1 : ∀ q ∈ lw_privs_1, lw_okq q := List.forall_mem_cons.mpr ⟨lw_p0, List.forall_mem_cons.mpr ⟨lw_p1, List.forall_mem_cons.mpr ⟨lw_p2, List.forall_mem_cons.mpr ⟨lw_p3, List.forall_mem_cons.mpr ⟨lw_p4, List.forall_mem_cons.mpr ⟨lw_p5, List.forall_mem_cons.mpr ⟨lw_p6, List.forall_mem_cons.mpr ⟨lw_p7, List.forall_mem_cons.mpr ⟨lw_p8, List.forall_mem_cons.mpr ⟨lw_p9, List.forall_mem_cons.mpr ⟨lw_p10, List.forall_mem_cons.mpr ⟨lw_p11, List.forall_mem_cons.mpr ⟨lw_p12, List.forall_mem_cons.mpr ⟨lw_p13, List.forall_mem_cons.mpr ⟨lw_p14, List.forall_mem_cons.mpr ⟨lw_p15, fun _ h => absurd h List.not_mem_nil⟩⟩⟩⟩⟩⟩⟩⟩⟩⟩⟩⟩⟩⟩⟩⟩
theorem lw_p16 : lw_okq (⟨"HeadStart", "leagueWays", "(I)I"⟩, 16) := ⟨⟨by decide +kernel, by decide +kernel⟩, List.mem_of_getElem? (i := 11) (by decide +kernel), List.mem_of_getElem? (i := 720) (by decide +kernel), List.mem_of_getElem? (i := 721) (by decide +kernel)⟩
theorem lw_p17 : lw_okq (⟨"HeadStart", "holdWorth", "(III)I"⟩, 16) := ⟨⟨by decide +kernel, by decide +kernel⟩, List.mem_of_getElem? (i := 11) (by decide +kernel), List.mem_of_getElem? (i := 734) (by decide +kernel), List.mem_of_getElem? (i := 735) (by decide +kernel)⟩
theorem lw_p18 : lw_okq (⟨"HeadStart", "relay", "(III)I"⟩, 16) := ⟨⟨by decide +kernel, by decide +kernel⟩, List.mem_of_getElem? (i := 11) (by decide +kernel), List.mem_of_getElem? (i := 742) (by decide +kernel), List.mem_of_getElem? (i := 743) (by decide +kernel)⟩
theorem lw_p19 : lw_okq (⟨"HeadStart", "betsTold", "()Z"⟩, 16) := ⟨⟨by decide +kernel, by decide +kernel⟩, List.mem_of_getElem? (i := 11) (by decide +kernel), List.mem_of_getElem? (i := 750) (by decide +kernel), List.mem_of_getElem? (i := 751) (by decide +kernel)⟩
theorem lw_p20 : lw_okq (⟨"HeadStart", "bestBet", "()I"⟩, 16) := ⟨⟨by decide +kernel, by decide +kernel⟩, List.mem_of_getElem? (i := 11) (by decide +kernel), List.mem_of_getElem? (i := 754) (by decide +kernel), List.mem_of_getElem? (i := 755) (by decide +kernel)⟩
theorem lw_p21 : lw_okq (⟨"HeadStart", "betWays", "(I)I"⟩, 16) := ⟨⟨by decide +kernel, by decide +kernel⟩, List.mem_of_getElem? (i := 11) (by decide +kernel), List.mem_of_getElem? (i := 758) (by decide +kernel), List.mem_of_getElem? (i := 759) (by decide +kernel)⟩
theorem lw_p22 : lw_okq (⟨"HeadStart", "tookThese", "(I)Z"⟩, 16) := ⟨⟨by decide +kernel, by decide +kernel⟩, List.mem_of_getElem? (i := 11) (by decide +kernel), List.mem_of_getElem? (i := 800) (by decide +kernel), List.mem_of_getElem? (i := 801) (by decide +kernel)⟩
theorem lw_p23 : lw_okq (⟨"HeadStartModel", "no", "(I)I"⟩, 43) := ⟨⟨by decide +kernel, by decide +kernel⟩, List.mem_of_getElem? (i := 835) (by decide +kernel), List.mem_of_getElem? (i := 978) (by decide +kernel), List.mem_of_getElem? (i := 979) (by decide +kernel)⟩
theorem lw_p24 : lw_okq (⟨"HeadStartModel", "statement", "()Z"⟩, 43) := ⟨⟨by decide +kernel, by decide +kernel⟩, List.mem_of_getElem? (i := 835) (by decide +kernel), List.mem_of_getElem? (i := 986) (by decide +kernel), List.mem_of_getElem? (i := 987) (by decide +kernel)⟩
theorem lw_p25 : lw_okq (⟨"HeadStartModel", "next", "()I"⟩, 43) := ⟨⟨by decide +kernel, by decide +kernel⟩, List.mem_of_getElem? (i := 835) (by decide +kernel), List.mem_of_getElem? (i := 990) (by decide +kernel), List.mem_of_getElem? (i := 991) (by decide +kernel)⟩
theorem lw_p26 : lw_okq (⟨"HeadStartModel", "readsAll", "(II)Z"⟩, 43) := ⟨⟨by decide +kernel, by decide +kernel⟩, List.mem_of_getElem? (i := 835) (by decide +kernel), List.mem_of_getElem? (i := 994) (by decide +kernel), List.mem_of_getElem? (i := 995) (by decide +kernel)⟩
theorem lw_p27 : lw_okq (⟨"HeadStartModel", "readsNumber", "(III)Z"⟩, 43) := ⟨⟨by decide +kernel, by decide +kernel⟩, List.mem_of_getElem? (i := 835) (by decide +kernel), List.mem_of_getElem? (i := 998) (by decide +kernel), List.mem_of_getElem? (i := 999) (by decide +kernel)⟩
theorem lw_p28 : lw_okq (⟨"HeadStartModel", "readsRunner", "(I)Z"⟩, 43) := ⟨⟨by decide +kernel, by decide +kernel⟩, List.mem_of_getElem? (i := 835) (by decide +kernel), List.mem_of_getElem? (i := 1005) (by decide +kernel), List.mem_of_getElem? (i := 1006) (by decide +kernel)⟩
theorem lw_p29 : lw_okq (⟨"HeadStartModel", "passesAll", "(IZ)V"⟩, 43) := ⟨⟨by decide +kernel, by decide +kernel⟩, List.mem_of_getElem? (i := 835) (by decide +kernel), List.mem_of_getElem? (i := 1009) (by decide +kernel), List.mem_of_getElem? (i := 1010) (by decide +kernel)⟩
theorem lw_p30 : lw_okq (⟨"HeadStartModel", "passes", "([I)V"⟩, 43) := ⟨⟨by decide +kernel, by decide +kernel⟩, List.mem_of_getElem? (i := 835) (by decide +kernel), List.mem_of_getElem? (i := 1013) (by decide +kernel), List.mem_of_getElem? (i := 1014) (by decide +kernel)⟩
theorem lw_p31 : lw_okq (⟨"HeadStartModel", "passOne", "(I)I"⟩, 43) := ⟨⟨by decide +kernel, by decide +kernel⟩, List.mem_of_getElem? (i := 835) (by decide +kernel), List.mem_of_getElem? (i := 1017) (by decide +kernel), List.mem_of_getElem? (i := 1018) (by decide +kernel)⟩
def lw_privs_2 : List (MethodName × Nat) := [(⟨"HeadStart", "leagueWays", "(I)I"⟩, 16), (⟨"HeadStart", "holdWorth", "(III)I"⟩, 16), (⟨"HeadStart", "relay", "(III)I"⟩, 16), (⟨"HeadStart", "betsTold", "()Z"⟩, 16), (⟨"HeadStart", "bestBet", "()I"⟩, 16), (⟨"HeadStart", "betWays", "(I)I"⟩, 16), (⟨"HeadStart", "tookThese", "(I)Z"⟩, 16), (⟨"HeadStartModel", "no", "(I)I"⟩, 43), (⟨"HeadStartModel", "statement", "()Z"⟩, 43), (⟨"HeadStartModel", "next", "()I"⟩, 43), (⟨"HeadStartModel", "readsAll", "(II)Z"⟩, 43), (⟨"HeadStartModel", "readsNumber", "(III)Z"⟩, 43), (⟨"HeadStartModel", "readsRunner", "(I)Z"⟩, 43), (⟨"HeadStartModel", "passesAll", "(IZ)V"⟩, 43), (⟨"HeadStartModel", "passes", "([I)V"⟩, 43), (⟨"HeadStartModel", "passOne", "(I)I"⟩, 43)]
theorem lw_r2 : ∀ q ∈ lw_privs_2, lw_okq q := List.forall_mem_cons.mpr ⟨lw_p16, List.forall_mem_cons.mpr ⟨lw_p17, List.forall_mem_cons.mpr ⟨lw_p18, List.forall_mem_cons.mpr ⟨lw_p19, List.forall_mem_cons.mpr ⟨lw_p20, List.forall_mem_cons.mpr ⟨lw_p21, List.forall_mem_cons.mpr ⟨lw_p22, List.forall_mem_cons.mpr ⟨lw_p23, List.forall_mem_cons.mpr ⟨lw_p24, List.forall_mem_cons.mpr ⟨lw_p25, List.forall_mem_cons.mpr ⟨lw_p26, List.forall_mem_cons.mpr ⟨lw_p27, List.forall_mem_cons.mpr ⟨lw_p28, List.forall_mem_cons.mpr ⟨lw_p29, List.forall_mem_cons.mpr ⟨lw_p30, List.forall_mem_cons.mpr ⟨lw_p31, fun _ h => absurd h List.not_mem_nil⟩⟩⟩⟩⟩⟩⟩⟩⟩⟩⟩⟩⟩⟩⟩⟩
theorem lw_p32 : lw_okq (⟨"HeadStartModel", "comes", "(I)Z"⟩, 43) := ⟨⟨by decide +kernel, by decide +kernel⟩, List.mem_of_getElem? (i := 835) (by decide +kernel), List.mem_of_getElem? (i := 1021) (by decide +kernel), List.mem_of_getElem? (i := 1022) (by decide +kernel)⟩
theorem lw_p33 : lw_okq (⟨"HeadStartModel", "comesRunner", "(I)Z"⟩, 43) := ⟨⟨by decide +kernel, by decide +kernel⟩, List.mem_of_getElem? (i := 835) (by decide +kernel), List.mem_of_getElem? (i := 1025) (by decide +kernel), List.mem_of_getElem? (i := 1026) (by decide +kernel)⟩
theorem lw_p34 : lw_okq (⟨"HeadStartModel", "isRunner", "(I)Z"⟩, 43) := ⟨⟨by decide +kernel, by decide +kernel⟩, List.mem_of_getElem? (i := 835) (by decide +kernel), List.mem_of_getElem? (i := 1029) (by decide +kernel), List.mem_of_getElem? (i := 1030) (by decide +kernel)⟩
theorem lw_p35 : lw_okq (⟨"HeadStartModel", "runs", "()I"⟩, 43) := ⟨⟨by decide +kernel, by decide +kernel⟩, List.mem_of_getElem? (i := 835) (by decide +kernel), List.mem_of_getElem? (i := 1033) (by decide +kernel), List.mem_of_getElem? (i := 1034) (by decide +kernel)⟩
theorem lw_p36 : lw_okq (⟨"HeadStartModel", "takesTimes", "()V"⟩, 43) := ⟨⟨by decide +kernel, by decide +kernel⟩, List.mem_of_getElem? (i := 835) (by decide +kernel), List.mem_of_getElem? (i := 1037) (by decide +kernel), List.mem_of_getElem? (i := 1038) (by decide +kernel)⟩
theorem lw_p37 : lw_okq (⟨"HeadStartModel", "timeOf", "(I)I"⟩, 43) := ⟨⟨by decide +kernel, by decide +kernel⟩, List.mem_of_getElem? (i := 835) (by decide +kernel), List.mem_of_getElem? (i := 1041) (by decide +kernel), List.mem_of_getElem? (i := 1042) (by decide +kernel)⟩
theorem lw_p38 : lw_okq (⟨"HeadStartModel", "timeBy", "(II)I"⟩, 43) := ⟨⟨by decide +kernel, by decide +kernel⟩, List.mem_of_getElem? (i := 835) (by decide +kernel), List.mem_of_getElem? (i := 1045) (by decide +kernel), List.mem_of_getElem? (i := 1046) (by decide +kernel)⟩
theorem lw_p39 : lw_okq (⟨"HeadStartModel", "timeOver", "(III)I"⟩, 43) := ⟨⟨by decide +kernel, by decide +kernel⟩, List.mem_of_getElem? (i := 835) (by decide +kernel), List.mem_of_getElem? (i := 1049) (by decide +kernel), List.mem_of_getElem? (i := 1050) (by decide +kernel)⟩
theorem lw_p40 : lw_okq (⟨"HeadStartModel", "sorts", "()V"⟩, 43) := ⟨⟨by decide +kernel, by decide +kernel⟩, List.mem_of_getElem? (i := 835) (by decide +kernel), List.mem_of_getElem? (i := 1056) (by decide +kernel), List.mem_of_getElem? (i := 1057) (by decide +kernel)⟩
theorem lw_p41 : lw_okq (⟨"HeadStartModel", "mends", "()V"⟩, 43) := ⟨⟨by decide +kernel, by decide +kernel⟩, List.mem_of_getElem? (i := 835) (by decide +kernel), List.mem_of_getElem? (i := 1060) (by decide +kernel), List.mem_of_getElem? (i := 1061) (by decide +kernel)⟩
theorem lw_p42 : lw_okq (⟨"HeadStartModel", "keepsRun", "()V"⟩, 43) := ⟨⟨by decide +kernel, by decide +kernel⟩, List.mem_of_getElem? (i := 835) (by decide +kernel), List.mem_of_getElem? (i := 1095) (by decide +kernel), List.mem_of_getElem? (i := 1096) (by decide +kernel)⟩
theorem lw_p43 : lw_okq (⟨"HeadStartModel", "digits", "()I"⟩, 43) := ⟨⟨by decide +kernel, by decide +kernel⟩, List.mem_of_getElem? (i := 835) (by decide +kernel), List.mem_of_getElem? (i := 1107) (by decide +kernel), List.mem_of_getElem? (i := 1108) (by decide +kernel)⟩
theorem lw_p44 : lw_okq (⟨"HeadStartModel", "lowest", "(I)J"⟩, 43) := ⟨⟨by decide +kernel, by decide +kernel⟩, List.mem_of_getElem? (i := 835) (by decide +kernel), List.mem_of_getElem? (i := 1115) (by decide +kernel), List.mem_of_getElem? (i := 1116) (by decide +kernel)⟩
theorem lw_p45 : lw_okq (⟨"HeadStartModel", "findFirsts", "()V"⟩, 43) := ⟨⟨by decide +kernel, by decide +kernel⟩, List.mem_of_getElem? (i := 835) (by decide +kernel), List.mem_of_getElem? (i := 1120) (by decide +kernel), List.mem_of_getElem? (i := 1121) (by decide +kernel)⟩
theorem lw_p46 : lw_okq (⟨"HeadStartModel", "races", "()I"⟩, 43) := ⟨⟨by decide +kernel, by decide +kernel⟩, List.mem_of_getElem? (i := 835) (by decide +kernel), List.mem_of_getElem? (i := 1124) (by decide +kernel), List.mem_of_getElem? (i := 1125) (by decide +kernel)⟩
theorem lw_p47 : lw_okq (⟨"HeadStartModel", "takesParts", "(I)V"⟩, 43) := ⟨⟨by decide +kernel, by decide +kernel⟩, List.mem_of_getElem? (i := 835) (by decide +kernel), List.mem_of_getElem? (i := 1128) (by decide +kernel), List.mem_of_getElem? (i := 1129) (by decide +kernel)⟩
def lw_privs_3 : List (MethodName × Nat) := [(⟨"HeadStartModel", "comes", "(I)Z"⟩, 43), (⟨"HeadStartModel", "comesRunner", "(I)Z"⟩, 43), (⟨"HeadStartModel", "isRunner", "(I)Z"⟩, 43), (⟨"HeadStartModel", "runs", "()I"⟩, 43), (⟨"HeadStartModel", "takesTimes", "()V"⟩, 43), (⟨"HeadStartModel", "timeOf", "(I)I"⟩, 43), (⟨"HeadStartModel", "timeBy", "(II)I"⟩, 43), (⟨"HeadStartModel", "timeOver", "(III)I"⟩, 43), (⟨"HeadStartModel", "sorts", "()V"⟩, 43), (⟨"HeadStartModel", "mends", "()V"⟩, 43), (⟨"HeadStartModel", "keepsRun", "()V"⟩, 43), (⟨"HeadStartModel", "digits", "()I"⟩, 43), (⟨"HeadStartModel", "lowest", "(I)J"⟩, 43), (⟨"HeadStartModel", "findFirsts", "()V"⟩, 43), (⟨"HeadStartModel", "races", "()I"⟩, 43), (⟨"HeadStartModel", "takesParts", "(I)V"⟩, 43)]
theorem lw_r3 : ∀ q ∈ lw_privs_3, lw_okq q := List.forall_mem_cons.mpr ⟨lw_p32, List.forall_mem_cons.mpr ⟨lw_p33, List.forall_mem_cons.mpr ⟨lw_p34, List.forall_mem_cons.mpr ⟨lw_p35, List.forall_mem_cons.mpr ⟨lw_p36, List.forall_mem_cons.mpr ⟨lw_p37, List.forall_mem_cons.mpr ⟨lw_p38, List.forall_mem_cons.mpr ⟨lw_p39, List.forall_mem_cons.mpr ⟨lw_p40, List.forall_mem_cons.mpr ⟨lw_p41, List.forall_mem_cons.mpr ⟨lw_p42, List.forall_mem_cons.mpr ⟨lw_p43, List.forall_mem_cons.mpr ⟨lw_p44, List.forall_mem_cons.mpr ⟨lw_p45, List.forall_mem_cons.mpr ⟨lw_p46, List.forall_mem_cons.mpr ⟨lw_p47, fun _ h => absurd h List.not_mem_nil⟩⟩⟩⟩⟩⟩⟩⟩⟩⟩⟩⟩⟩⟩⟩⟩
theorem lw_p48 : lw_okq (⟨"HeadStartModel", "partTime", "(II)I"⟩, 43) := ⟨⟨by decide +kernel, by decide +kernel⟩, List.mem_of_getElem? (i := 835) (by decide +kernel), List.mem_of_getElem? (i := 1132) (by decide +kernel), List.mem_of_getElem? (i := 1133) (by decide +kernel)⟩
theorem lw_p49 : lw_okq (⟨"HeadStartModel", "isOrder", "(I)Z"⟩, 43) := ⟨⟨by decide +kernel, by decide +kernel⟩, List.mem_of_getElem? (i := 835) (by decide +kernel), List.mem_of_getElem? (i := 1146) (by decide +kernel), List.mem_of_getElem? (i := 1147) (by decide +kernel)⟩
theorem lw_p50 : lw_okq (⟨"HeadStartModel", "uneven", "()I"⟩, 43) := ⟨⟨by decide +kernel, by decide +kernel⟩, List.mem_of_getElem? (i := 835) (by decide +kernel), List.mem_of_getElem? (i := 1154) (by decide +kernel), List.mem_of_getElem? (i := 1155) (by decide +kernel)⟩
theorem lw_p51 : lw_okq (⟨"HeadStartModel", "gap", "()I"⟩, 43) := ⟨⟨by decide +kernel, by decide +kernel⟩, List.mem_of_getElem? (i := 835) (by decide +kernel), List.mem_of_getElem? (i := 1158) (by decide +kernel), List.mem_of_getElem? (i := 1159) (by decide +kernel)⟩
theorem lw_p52 : lw_okq (⟨"HeadStartModel", "areTwo", "(II)Z"⟩, 43) := ⟨⟨by decide +kernel, by decide +kernel⟩, List.mem_of_getElem? (i := 835) (by decide +kernel), List.mem_of_getElem? (i := 1170) (by decide +kernel), List.mem_of_getElem? (i := 1171) (by decide +kernel)⟩
theorem lw_p53 : lw_okq (⟨"HeadStartModel", "aheadOf", "(II)I"⟩, 43) := ⟨⟨by decide +kernel, by decide +kernel⟩, List.mem_of_getElem? (i := 835) (by decide +kernel), List.mem_of_getElem? (i := 1174) (by decide +kernel), List.mem_of_getElem? (i := 1175) (by decide +kernel)⟩
theorem lw_p54 : lw_okq (⟨"HeadStartModel", "aheadBy", "(IIII)I"⟩, 43) := ⟨⟨by decide +kernel, by decide +kernel⟩, List.mem_of_getElem? (i := 835) (by decide +kernel), List.mem_of_getElem? (i := 1178) (by decide +kernel), List.mem_of_getElem? (i := 1179) (by decide +kernel)⟩
theorem lw_p55 : lw_okq (⟨"HeadStartModel", "findStarts", "(I)V"⟩, 43) := ⟨⟨by decide +kernel, by decide +kernel⟩, List.mem_of_getElem? (i := 835) (by decide +kernel), List.mem_of_getElem? (i := 1189) (by decide +kernel), List.mem_of_getElem? (i := 1190) (by decide +kernel)⟩
theorem lw_p56 : lw_okq (⟨"HeadStartModel", "goesOn", "(II)V"⟩, 43) := ⟨⟨by decide +kernel, by decide +kernel⟩, List.mem_of_getElem? (i := 835) (by decide +kernel), List.mem_of_getElem? (i := 1201) (by decide +kernel), List.mem_of_getElem? (i := 1202) (by decide +kernel)⟩
theorem lw_p57 : lw_okq (⟨"HeadStartModel", "startsNumber", "()I"⟩, 43) := ⟨⟨by decide +kernel, by decide +kernel⟩, List.mem_of_getElem? (i := 835) (by decide +kernel), List.mem_of_getElem? (i := 1209) (by decide +kernel), List.mem_of_getElem? (i := 1210) (by decide +kernel)⟩
theorem lw_p58 : lw_okq (⟨"HeadStartModel", "gapsBy", "(II)I"⟩, 43) := ⟨⟨by decide +kernel, by decide +kernel⟩, List.mem_of_getElem? (i := 835) (by decide +kernel), List.mem_of_getElem? (i := 1217) (by decide +kernel), List.mem_of_getElem? (i := 1218) (by decide +kernel)⟩
theorem lw_p59 : lw_okq (⟨"HeadStartModel", "lower", "(I)I"⟩, 43) := ⟨⟨by decide +kernel, by decide +kernel⟩, List.mem_of_getElem? (i := 835) (by decide +kernel), List.mem_of_getElem? (i := 1225) (by decide +kernel), List.mem_of_getElem? (i := 1226) (by decide +kernel)⟩
theorem lw_p60 : lw_okq (⟨"HeadStartModel", "worthOf", "(II)I"⟩, 43) := ⟨⟨by decide +kernel, by decide +kernel⟩, List.mem_of_getElem? (i := 835) (by decide +kernel), List.mem_of_getElem? (i := 1234) (by decide +kernel), List.mem_of_getElem? (i := 1235) (by decide +kernel)⟩
theorem lw_p61 : lw_okq (⟨"HeadStartModel", "apartBy", "(I)I"⟩, 43) := ⟨⟨by decide +kernel, by decide +kernel⟩, List.mem_of_getElem? (i := 835) (by decide +kernel), List.mem_of_getElem? (i := 1246) (by decide +kernel), List.mem_of_getElem? (i := 1247) (by decide +kernel)⟩
theorem lw_p62 : lw_okq (⟨"HeadStartModel", "bagsFar", "(III)I"⟩, 43) := ⟨⟨by decide +kernel, by decide +kernel⟩, List.mem_of_getElem? (i := 835) (by decide +kernel), List.mem_of_getElem? (i := 1270) (by decide +kernel), List.mem_of_getElem? (i := 1271) (by decide +kernel)⟩
theorem lw_p63 : lw_okq (⟨"HeadStartModel", "cupParts", "(II)J"⟩, 43) := ⟨⟨by decide +kernel, by decide +kernel⟩, List.mem_of_getElem? (i := 835) (by decide +kernel), List.mem_of_getElem? (i := 1282) (by decide +kernel), List.mem_of_getElem? (i := 1283) (by decide +kernel)⟩
def lw_privs_4 : List (MethodName × Nat) := [(⟨"HeadStartModel", "partTime", "(II)I"⟩, 43), (⟨"HeadStartModel", "isOrder", "(I)Z"⟩, 43), (⟨"HeadStartModel", "uneven", "()I"⟩, 43), (⟨"HeadStartModel", "gap", "()I"⟩, 43), (⟨"HeadStartModel", "areTwo", "(II)Z"⟩, 43), (⟨"HeadStartModel", "aheadOf", "(II)I"⟩, 43), (⟨"HeadStartModel", "aheadBy", "(IIII)I"⟩, 43), (⟨"HeadStartModel", "findStarts", "(I)V"⟩, 43), (⟨"HeadStartModel", "goesOn", "(II)V"⟩, 43), (⟨"HeadStartModel", "startsNumber", "()I"⟩, 43), (⟨"HeadStartModel", "gapsBy", "(II)I"⟩, 43), (⟨"HeadStartModel", "lower", "(I)I"⟩, 43), (⟨"HeadStartModel", "worthOf", "(II)I"⟩, 43), (⟨"HeadStartModel", "apartBy", "(I)I"⟩, 43), (⟨"HeadStartModel", "bagsFar", "(III)I"⟩, 43), (⟨"HeadStartModel", "cupParts", "(II)J"⟩, 43)]
theorem lw_r4 : ∀ q ∈ lw_privs_4, lw_okq q := List.forall_mem_cons.mpr ⟨lw_p48, List.forall_mem_cons.mpr ⟨lw_p49, List.forall_mem_cons.mpr ⟨lw_p50, List.forall_mem_cons.mpr ⟨lw_p51, List.forall_mem_cons.mpr ⟨lw_p52, List.forall_mem_cons.mpr ⟨lw_p53, List.forall_mem_cons.mpr ⟨lw_p54, List.forall_mem_cons.mpr ⟨lw_p55, List.forall_mem_cons.mpr ⟨lw_p56, List.forall_mem_cons.mpr ⟨lw_p57, List.forall_mem_cons.mpr ⟨lw_p58, List.forall_mem_cons.mpr ⟨lw_p59, List.forall_mem_cons.mpr ⟨lw_p60, List.forall_mem_cons.mpr ⟨lw_p61, List.forall_mem_cons.mpr ⟨lw_p62, List.forall_mem_cons.mpr ⟨lw_p63, fun _ h => absurd h List.not_mem_nil⟩⟩⟩⟩⟩⟩⟩⟩⟩⟩⟩⟩⟩⟩⟩⟩
theorem lw_p64 : lw_okq (⟨"HeadStartModel", "leaguePoints", "(I)I"⟩, 43) := ⟨⟨by decide +kernel, by decide +kernel⟩, List.mem_of_getElem? (i := 835) (by decide +kernel), List.mem_of_getElem? (i := 1298) (by decide +kernel), List.mem_of_getElem? (i := 1299) (by decide +kernel)⟩
theorem lw_p65 : lw_okq (⟨"HeadStartModel", "worthOfPair", "(III)I"⟩, 43) := ⟨⟨by decide +kernel, by decide +kernel⟩, List.mem_of_getElem? (i := 835) (by decide +kernel), List.mem_of_getElem? (i := 1311) (by decide +kernel), List.mem_of_getElem? (i := 1312) (by decide +kernel)⟩
theorem lw_p66 : lw_okq (⟨"HeadStartModel", "legsBy", "(III)I"⟩, 43) := ⟨⟨by decide +kernel, by decide +kernel⟩, List.mem_of_getElem? (i := 835) (by decide +kernel), List.mem_of_getElem? (i := 1319) (by decide +kernel), List.mem_of_getElem? (i := 1320) (by decide +kernel)⟩
theorem lw_p67 : lw_okq (⟨"HeadStartModel", "areBets", "()Z"⟩, 43) := ⟨⟨by decide +kernel, by decide +kernel⟩, List.mem_of_getElem? (i := 835) (by decide +kernel), List.mem_of_getElem? (i := 1327) (by decide +kernel), List.mem_of_getElem? (i := 1328) (by decide +kernel)⟩
theorem lw_p68 : lw_okq (⟨"HeadStartModel", "bestBet", "()I"⟩, 43) := ⟨⟨by decide +kernel, by decide +kernel⟩, List.mem_of_getElem? (i := 835) (by decide +kernel), List.mem_of_getElem? (i := 1331) (by decide +kernel), List.mem_of_getElem? (i := 1332) (by decide +kernel)⟩
theorem lw_p69 : lw_okq (⟨"HeadStartModel", "gapsByHabit", "(I)I"⟩, 43) := ⟨⟨by decide +kernel, by decide +kernel⟩, List.mem_of_getElem? (i := 835) (by decide +kernel), List.mem_of_getElem? (i := 1351) (by decide +kernel), List.mem_of_getElem? (i := 1352) (by decide +kernel)⟩
theorem lw_p70 : lw_okq (⟨"HeadStartModel", "mendsByHabit", "()V"⟩, 43) := ⟨⟨by decide +kernel, by decide +kernel⟩, List.mem_of_getElem? (i := 835) (by decide +kernel), List.mem_of_getElem? (i := 1355) (by decide +kernel), List.mem_of_getElem? (i := 1356) (by decide +kernel)⟩
theorem lw_p71 : lw_okq (⟨"HeadStartModel", "isWhom", "(II)Z"⟩, 43) := ⟨⟨by decide +kernel, by decide +kernel⟩, List.mem_of_getElem? (i := 835) (by decide +kernel), List.mem_of_getElem? (i := 1359) (by decide +kernel), List.mem_of_getElem? (i := 1360) (by decide +kernel)⟩
theorem lw_p72 : lw_okq (⟨"HeadStartModel", "hasTimes", "(I)Z"⟩, 43) := ⟨⟨by decide +kernel, by decide +kernel⟩, List.mem_of_getElem? (i := 835) (by decide +kernel), List.mem_of_getElem? (i := 1379) (by decide +kernel), List.mem_of_getElem? (i := 1380) (by decide +kernel)⟩
theorem lw_p73 : lw_okq (⟨"HeadStartModel", "wrongAt", "()I"⟩, 43) := ⟨⟨by decide +kernel, by decide +kernel⟩, List.mem_of_getElem? (i := 835) (by decide +kernel), List.mem_of_getElem? (i := 1391) (by decide +kernel), List.mem_of_getElem? (i := 1392) (by decide +kernel)⟩
def lw_privs_5 : List (MethodName × Nat) := [(⟨"HeadStartModel", "leaguePoints", "(I)I"⟩, 43), (⟨"HeadStartModel", "worthOfPair", "(III)I"⟩, 43), (⟨"HeadStartModel", "legsBy", "(III)I"⟩, 43), (⟨"HeadStartModel", "areBets", "()Z"⟩, 43), (⟨"HeadStartModel", "bestBet", "()I"⟩, 43), (⟨"HeadStartModel", "gapsByHabit", "(I)I"⟩, 43), (⟨"HeadStartModel", "mendsByHabit", "()V"⟩, 43), (⟨"HeadStartModel", "isWhom", "(II)Z"⟩, 43), (⟨"HeadStartModel", "hasTimes", "(I)Z"⟩, 43), (⟨"HeadStartModel", "wrongAt", "()I"⟩, 43)]
theorem lw_r5 : ∀ q ∈ lw_privs_5, lw_okq q := List.forall_mem_cons.mpr ⟨lw_p64, List.forall_mem_cons.mpr ⟨lw_p65, List.forall_mem_cons.mpr ⟨lw_p66, List.forall_mem_cons.mpr ⟨lw_p67, List.forall_mem_cons.mpr ⟨lw_p68, List.forall_mem_cons.mpr ⟨lw_p69, List.forall_mem_cons.mpr ⟨lw_p70, List.forall_mem_cons.mpr ⟨lw_p71, List.forall_mem_cons.mpr ⟨lw_p72, List.forall_mem_cons.mpr ⟨lw_p73, fun _ h => absurd h List.not_mem_nil⟩⟩⟩⟩⟩⟩⟩⟩⟩⟩
def lw_privs : List (MethodName × Nat) := lw_privs_1 ++ (lw_privs_2 ++ (lw_privs_3 ++ (lw_privs_4 ++ (lw_privs_5))))
def lw_tbl : List Cond := k2_sels lw_privs ++ tables_1
theorem lw_privs_ok : ∀ q ∈ lw_privs, lw_okq q := by
  show ∀ q ∈ lw_privs_1 ++ (lw_privs_2 ++ (lw_privs_3 ++ (lw_privs_4 ++ (lw_privs_5)))), lw_okq q
  exact List.forall_mem_append.mpr ⟨lw_r1, List.forall_mem_append.mpr ⟨lw_r2, List.forall_mem_append.mpr ⟨lw_r3, List.forall_mem_append.mpr ⟨lw_r4, lw_r5⟩⟩⟩⟩

def RX0 : String := "HeadStart$Field"
def TX0 : u_T := fun k => match k with
  | 0 => ("HeadStart$Field", "way", "I", false)
  | 1 => ("HeadStart$Field", "week", "I", false)
  | 2 => ("HeadStart$Field", "rule", "I", false)
  | 3 => ("HeadStart$Field", "yard", "I", false)
  | 4 => ("HeadStart$Field", "n", "I", false)
  | 5 => ("HeadStart$Field", "kind", "[I", true)
  | 6 => ("HeadStart$Field", "figure", "[I", true)
  | 7 => ("HeadStart$Field", "pace", "[I", true)
  | 8 => ("HeadStart$Field", "spread", "[I", true)
  | 9 => ("HeadStart$Field", "start", "[I", true)
  | _ => ("HeadStart$Field", "wins", "[I", true)
def tyX0 : Nat → FieldType := fun k => match k with
  | 0 => .int
  | 1 => .int
  | 2 => .int
  | 3 => .int
  | 4 => .int
  | 5 => .array .int
  | 6 => .array .int
  | 7 => .array .int
  | 8 => .array .int
  | 9 => .array .int
  | _ => .array .int
abbrev wsX00 : List Cond := u_ws RX0 TX0 11
theorem nmX0 : ∀ a, a < 11 → ∀ b, b < 11 → a ≠ b → (TX0 a).2.1 ≠ (TX0 b).2.1 := by decide +kernel
theorem tyX0_ok : ∀ k, k < 11 → parseFieldDescriptor (TX0 k).2.2.1 = some (tyX0 k) := by decide +kernel
abbrev cX0_init : ByteArray := prog_2_method_1_code
def yX0_init : MethodName := ⟨RX0, "<init>", "()V"⟩
abbrev cX0_has : ByteArray := prog_2_method_2_code
def yX0_has : MethodName := ⟨RX0, "has", "(I)Z"⟩
abbrev cX0_take : ByteArray := prog_2_method_3_code
def yX0_take : MethodName := ⟨RX0, "take", "(LHeadStart$Field;)V"⟩
abbrev cX0_takeTwo : ByteArray := prog_2_method_4_code
def yX0_takeTwo : MethodName := ⟨RX0, "takeTwo", "(LHeadStart$Field;II)V"⟩
abbrev cX0_takeSettings : ByteArray := prog_2_method_5_code
def yX0_takeSettings : MethodName := ⟨RX0, "takeSettings", "(LHeadStart$Field;)V"⟩
abbrev cX0_takeRunner : ByteArray := prog_2_method_6_code
def yX0_takeRunner : MethodName := ⟨RX0, "takeRunner", "(ILHeadStart$Field;I)V"⟩
abbrev cX0_setting : ByteArray := prog_2_method_7_code
def yX0_setting : MethodName := ⟨RX0, "setting", "(I)I"⟩
abbrev cX0_become : ByteArray := prog_2_method_8_code
def yX0_become : MethodName := ⟨RX0, "become", "(II)V"⟩
abbrev cX0_tenths : ByteArray := prog_2_method_9_code
def yX0_tenths : MethodName := ⟨RX0, "tenths", "(I)I"⟩
abbrev cX0_tenthsFrom : ByteArray := prog_2_method_10_code
def yX0_tenthsFrom : MethodName := ⟨RX0, "tenthsFrom", "(II)I"⟩
abbrev cX0_tenthsOver : ByteArray := prog_2_method_11_code
def yX0_tenthsOver : MethodName := ⟨RX0, "tenthsOver", "(III)I"⟩
abbrev cX0_more : ByteArray := prog_2_method_12_code
def yX0_more : MethodName := ⟨RX0, "more", "(II)V"⟩
abbrev cX0_mend : ByteArray := prog_2_method_13_code
def yX0_mend : MethodName := ⟨RX0, "mend", "(II)V"⟩
abbrev cX0_startsAs : ByteArray := prog_2_method_14_code
def yX0_startsAs : MethodName := ⟨RX0, "startsAs", "(LHeadStart$Field;)Z"⟩
abbrev cX0_sum : ByteArray := prog_2_method_15_code
def yX0_sum : MethodName := ⟨RX0, "sum", "([I)I"⟩
abbrev cX0_eachOnce : ByteArray := prog_2_method_16_code
def yX0_eachOnce : MethodName := ⟨RX0, "eachOnce", "(I)Z"⟩
def RX1 : String := "HeadStart$Habit"
def TX1 : u_T := fun k => match k with
  | 0 => ("HeadStart$Habit", "whom", "LHeadStart$Row;", true)
  | _ => ("HeadStart$Habit", "yards", "LHeadStart$Row;", true)
def tyX1 : Nat → FieldType := fun k => match k with
  | 0 => .object "HeadStart$Row"
  | _ => .object "HeadStart$Row"
abbrev wsX10 : List Cond := u_ws RX1 TX1 2
theorem nmX1 : ∀ a, a < 2 → ∀ b, b < 2 → a ≠ b → (TX1 a).2.1 ≠ (TX1 b).2.1 := by decide +kernel
theorem tyX1_ok : ∀ k, k < 2 → parseFieldDescriptor (TX1 k).2.2.1 = some (tyX1 k) := by decide +kernel
abbrev cX1_init : ByteArray := prog_3_method_1_code
def yX1_init : MethodName := ⟨RX1, "<init>", "()V"⟩
abbrev cX1_put : ByteArray := prog_3_method_2_code
def yX1_put : MethodName := ⟨RX1, "put", "(II)I"⟩
abbrev cX1_drop : ByteArray := prog_3_method_3_code
def yX1_drop : MethodName := ⟨RX1, "drop", "()I"⟩
abbrev cX1_take : ByteArray := prog_3_method_4_code
def yX1_take : MethodName := ⟨RX1, "take", "(LHeadStart$Habit;)V"⟩
abbrev cX1_mend : ByteArray := prog_3_method_5_code
def yX1_mend : MethodName := ⟨RX1, "mend", "(LHeadStart$Field;LHeadStart$Race;)V"⟩
abbrev cX1_means : ByteArray := prog_3_method_6_code
def yX1_means : MethodName := ⟨RX1, "means", "(IZZ)Z"⟩
def RX2 : String := "HeadStart$Race"
def TX2 : u_T := fun k => match k with
  | 0 => ("HeadStart$Race", "n", "I", false)
  | 1 => ("HeadStart$Race", "low", "[I", true)
  | 2 => ("HeadStart$Race", "mid", "[I", true)
  | 3 => ("HeadStart$Race", "high", "[I", true)
  | 4 => ("HeadStart$Race", "tenths", "[I", true)
  | _ => ("HeadStart$Race", "places", "[I", true)
def tyX2 : Nat → FieldType := fun k => match k with
  | 0 => .int
  | 1 => .array .int
  | 2 => .array .int
  | 3 => .array .int
  | 4 => .array .int
  | _ => .array .int
abbrev wsX20 : List Cond := u_ws RX2 TX2 6
theorem nmX2 : ∀ a, a < 6 → ∀ b, b < 6 → a ≠ b → (TX2 a).2.1 ≠ (TX2 b).2.1 := by decide +kernel
theorem tyX2_ok : ∀ k, k < 6 → parseFieldDescriptor (TX2 k).2.2.1 = some (tyX2 k) := by decide +kernel
abbrev cX2_init : ByteArray := prog_4_method_1_code
def yX2_init : MethodName := ⟨RX2, "<init>", "()V"⟩
abbrev cX2_draw : ByteArray := prog_4_method_2_code
def yX2_draw : MethodName := ⟨RX2, "draw", "(LHeadStart$Field;)V"⟩
abbrev cX2_put : ByteArray := prog_4_method_3_code
def yX2_put : MethodName := ⟨RX2, "put", "(III)V"⟩
abbrev cX2_allWays : ByteArray := prog_4_method_4_code
def yX2_allWays : MethodName := ⟨RX2, "allWays", "()I"⟩
abbrev cX2_ways : ByteArray := prog_4_method_5_code
def yX2_ways : MethodName := ⟨RX2, "ways", "(I)I"⟩
abbrev cX2_waysAt : ByteArray := prog_4_method_6_code
def yX2_waysAt : MethodName := ⟨RX2, "waysAt", "(II)I"⟩
abbrev cX2_quarters : ByteArray := prog_4_method_7_code
def yX2_quarters : MethodName := ⟨RX2, "quarters", "(II)I"⟩
abbrev cX2_uneven : ByteArray := prog_4_method_8_code
def yX2_uneven : MethodName := ⟨RX2, "uneven", "()I"⟩
abbrev cX2_outcomes : ByteArray := prog_4_method_9_code
def yX2_outcomes : MethodName := ⟨RX2, "outcomes", "()I"⟩
abbrev cX2_deal : ByteArray := prog_4_method_10_code
def yX2_deal : MethodName := ⟨RX2, "deal", "(I)I"⟩
abbrev cX2_waysOf : ByteArray := prog_4_method_11_code
def yX2_waysOf : MethodName := ⟨RX2, "waysOf", "(I)I"⟩
abbrev cX2_gapInAllWays : ByteArray := prog_4_method_12_code
def yX2_gapInAllWays : MethodName := ⟨RX2, "gapInAllWays", "()I"⟩
abbrev cX2_drawn : ByteArray := prog_4_method_13_code
def yX2_drawn : MethodName := ⟨RX2, "drawn", "(LHeadStart$Field;I)I"⟩
abbrev cX2_asRule : ByteArray := prog_4_method_14_code
def yX2_asRule : MethodName := ⟨RX2, "asRule", "(LHeadStart$Field;)V"⟩
abbrev cX2_goOn : ByteArray := prog_4_method_15_code
def yX2_goOn : MethodName := ⟨RX2, "goOn", "(LHeadStart$Field;)I"⟩
abbrev cX2_behind : ByteArray := prog_4_method_16_code
def yX2_behind : MethodName := ⟨RX2, "behind", "(LHeadStart$Field;)V"⟩
abbrev cX2_line : ByteArray := prog_4_method_17_code
def yX2_line : MethodName := ⟨RX2, "line", "()V"⟩
abbrev cX2_first : ByteArray := prog_4_method_18_code
def yX2_first : MethodName := ⟨RX2, "first", "()I"⟩
abbrev cX2_last : ByteArray := prog_4_method_19_code
def yX2_last : MethodName := ⟨RX2, "last", "()I"⟩
abbrev cX2_gap : ByteArray := prog_4_method_20_code
def yX2_gap : MethodName := ⟨RX2, "gap", "()I"⟩
abbrev cX2_digits : ByteArray := prog_4_method_21_code
def yX2_digits : MethodName := ⟨RX2, "digits", "()I"⟩
def RX3 : String := "HeadStart$Row"
def TX3 : u_T := fun k => match k with
  | 0 => ("HeadStart$Row", "cells", "[I", true)
  | _ => ("HeadStart$Row", "n", "I", false)
def tyX3 : Nat → FieldType := fun k => match k with
  | 0 => .array .int
  | _ => .int
abbrev wsX30 : List Cond := u_ws RX3 TX3 2
theorem nmX3 : ∀ a, a < 2 → ∀ b, b < 2 → a ≠ b → (TX3 a).2.1 ≠ (TX3 b).2.1 := by decide +kernel
theorem tyX3_ok : ∀ k, k < 2 → parseFieldDescriptor (TX3 k).2.2.1 = some (tyX3 k) := by decide +kernel
abbrev cX3_init : ByteArray := prog_5_method_1_code
def yX3_init : MethodName := ⟨RX3, "<init>", "(I)V"⟩
abbrev cX3_full : ByteArray := prog_5_method_2_code
def yX3_full : MethodName := ⟨RX3, "full", "()Z"⟩
abbrev cX3_put : ByteArray := prog_5_method_3_code
def yX3_put : MethodName := ⟨RX3, "put", "(I)I"⟩
abbrev cX3_at : ByteArray := prog_5_method_4_code
def yX3_at : MethodName := ⟨RX3, "at", "(I)I"⟩
abbrev cX3_drop : ByteArray := prog_5_method_5_code
def yX3_drop : MethodName := ⟨RX3, "drop", "()I"⟩
abbrev cX3_take : ByteArray := prog_5_method_6_code
def yX3_take : MethodName := ⟨RX3, "take", "(LHeadStart$Row;)V"⟩
def RX4 : String := "HeadStart$Runs"
def TX4 : u_T := fun k => match k with
  | 0 => ("HeadStart$Runs", "starts", "[[I", true)
  | 1 => ("HeadStart$Runs", "wins", "[[I", true)
  | 2 => ("HeadStart$Runs", "weeks", "[I", true)
  | _ => ("HeadStart$Runs", "n", "I", false)
def tyX4 : Nat → FieldType := fun k => match k with
  | 0 => .array (.array .int)
  | 1 => .array (.array .int)
  | 2 => .array .int
  | _ => .int
abbrev wsX40 : List Cond := u_ws RX4 TX4 4
theorem nmX4 : ∀ a, a < 4 → ∀ b, b < 4 → a ≠ b → (TX4 a).2.1 ≠ (TX4 b).2.1 := by decide +kernel
theorem tyX4_ok : ∀ k, k < 4 → parseFieldDescriptor (TX4 k).2.2.1 = some (tyX4 k) := by decide +kernel
abbrev cX4_init : ByteArray := prog_6_method_1_code
def yX4_init : MethodName := ⟨RX4, "<init>", "()V"⟩
abbrev cX4_keep : ByteArray := prog_6_method_2_code
def yX4_keep : MethodName := ⟨RX4, "keep", "(LHeadStart$Field;)V"⟩
abbrev cX4_loseOldest : ByteArray := prog_6_method_3_code
def yX4_loseOldest : MethodName := ⟨RX4, "loseOldest", "()V"⟩
abbrev cX4_bring : ByteArray := prog_6_method_4_code
def yX4_bring : MethodName := ⟨RX4, "bring", "(LHeadStart$Field;)I"⟩
abbrev cX4_drop : ByteArray := prog_6_method_5_code
def yX4_drop : MethodName := ⟨RX4, "drop", "()V"⟩
def RX5 : String := "HeadStart$Teller"
def TX5 : u_T := fun k => match k with
  | 0 => ("HeadStart$Teller", "letters", "LHeadStart$Row;", true)
  | _ => ("HeadStart$Teller", "race", "LHeadStart$Race;", true)
def tyX5 : Nat → FieldType := fun k => match k with
  | 0 => .object "HeadStart$Row"
  | _ => .object "HeadStart$Race"
abbrev wsX50 : List Cond := u_ws RX5 TX5 2
theorem nmX5 : ∀ a, a < 2 → ∀ b, b < 2 → a ≠ b → (TX5 a).2.1 ≠ (TX5 b).2.1 := by decide +kernel
theorem tyX5_ok : ∀ k, k < 2 → parseFieldDescriptor (TX5 k).2.2.1 = some (tyX5 k) := by decide +kernel
abbrev cX5_init : ByteArray := prog_7_method_1_code
def yX5_init : MethodName := ⟨RX5, "<init>", "()V"⟩
abbrev cX5_tell : ByteArray := prog_7_method_2_code
def yX5_tell : MethodName := ⟨RX5, "tell", "(LHeadStart$Field;)I"⟩
abbrev cX5_firstFault : ByteArray := prog_7_method_3_code
def yX5_firstFault : MethodName := ⟨RX5, "firstFault", "()I"⟩
abbrev cX5_behind : ByteArray := prog_7_method_4_code
def yX5_behind : MethodName := ⟨RX5, "behind", "(I)I"⟩
abbrev cX5_mostDigits : ByteArray := prog_7_method_5_code
def yX5_mostDigits : MethodName := ⟨RX5, "mostDigits", "(I)I"⟩
abbrev cX5_digit : ByteArray := prog_7_method_6_code
def yX5_digit : MethodName := ⟨RX5, "digit", "(I)I"⟩
abbrev cX5_two : ByteArray := prog_7_method_7_code
def yX5_two : MethodName := ⟨RX5, "two", "(I)I"⟩
abbrev cX5_comes : ByteArray := prog_7_method_8_code
def yX5_comes : MethodName := ⟨RX5, "comes", "(LHeadStart$Field;I)Z"⟩
abbrev cX5_wayComes : ByteArray := prog_7_method_9_code
def yX5_wayComes : MethodName := ⟨RX5, "wayComes", "(LHeadStart$Field;I)Z"⟩
abbrev cX5_runnerComes : ByteArray := prog_7_method_10_code
def yX5_runnerComes : MethodName := ⟨RX5, "runnerComes", "(LHeadStart$Field;I)Z"⟩
abbrev cX5_ruleComes : ByteArray := prog_7_method_11_code
def yX5_ruleComes : MethodName := ⟨RX5, "ruleComes", "(LHeadStart$Field;I)Z"⟩
abbrev cX5_startComes : ByteArray := prog_7_method_12_code
def yX5_startComes : MethodName := ⟨RX5, "startComes", "(LHeadStart$Field;I)Z"⟩
def RX6 : String := "HeadStart"
def TX6 : u_T := fun k => match k with
  | 0 => ("HeadStart", "now", "LHeadStart$Field;", true)
  | 1 => ("HeadStart", "mind", "LHeadStart$Field;", true)
  | 2 => ("HeadStart", "aside", "LHeadStart$Field;", true)
  | 3 => ("HeadStart", "saved", "LHeadStart$Field;", true)
  | 4 => ("HeadStart", "race", "LHeadStart$Race;", true)
  | 5 => ("HeadStart", "teller", "LHeadStart$Teller;", true)
  | 6 => ("HeadStart", "told", "LHeadStart$Row;", true)
  | 7 => ("HeadStart", "toldTimes", "LHeadStart$Row;", true)
  | 8 => ("HeadStart", "bags", "LHeadStart$Row;", true)
  | 9 => ("HeadStart", "savedBags", "LHeadStart$Row;", true)
  | 10 => ("HeadStart", "habit", "LHeadStart$Habit;", true)
  | 11 => ("HeadStart", "savedHabit", "LHeadStart$Habit;", true)
  | 12 => ("HeadStart", "runs", "LHeadStart$Runs;", true)
  | 13 => ("HeadStart", "refused", "[I", true)
  | 14 => ("HeadStart", "table", "[[I", true)
  | _ => ("HeadStart", "imaged", "Z", false)
def tyX6 : Nat → FieldType := fun k => match k with
  | 0 => .object "HeadStart$Field"
  | 1 => .object "HeadStart$Field"
  | 2 => .object "HeadStart$Field"
  | 3 => .object "HeadStart$Field"
  | 4 => .object "HeadStart$Race"
  | 5 => .object "HeadStart$Teller"
  | 6 => .object "HeadStart$Row"
  | 7 => .object "HeadStart$Row"
  | 8 => .object "HeadStart$Row"
  | 9 => .object "HeadStart$Row"
  | 10 => .object "HeadStart$Habit"
  | 11 => .object "HeadStart$Habit"
  | 12 => .object "HeadStart$Runs"
  | 13 => .array .int
  | 14 => .array (.array .int)
  | _ => .boolean
abbrev wsX60 : List Cond := u_ws RX6 TX6 16
theorem nmX6 : ∀ a, a < 16 → ∀ b, b < 16 → a ≠ b → (TX6 a).2.1 ≠ (TX6 b).2.1 := by decide +kernel
theorem tyX6_ok : ∀ k, k < 16 → parseFieldDescriptor (TX6 k).2.2.1 = some (tyX6 k) := by decide +kernel
abbrev cX6_init : ByteArray := prog_1_method_1_code
def yX6_init : MethodName := ⟨RX6, "<init>", "()V"⟩
abbrev cX6_feed : ByteArray := prog_1_method_2_code
def yX6_feed : MethodName := ⟨RX6, "feed", "(I)I"⟩
abbrev cX6_lane : ByteArray := prog_1_method_3_code
def yX6_lane : MethodName := ⟨RX6, "lane", "()I"⟩
abbrev cX6_runner : ByteArray := prog_1_method_4_code
def yX6_runner : MethodName := ⟨RX6, "runner", "(II)I"⟩
abbrev cX6_start : ByteArray := prog_1_method_5_code
def yX6_start : MethodName := ⟨RX6, "start", "(II)I"⟩
abbrev cX6_kind : ByteArray := prog_1_method_6_code
def yX6_kind : MethodName := ⟨RX6, "kind", "(III)I"⟩
abbrev cX6_set : ByteArray := prog_1_method_7_code
def yX6_set : MethodName := ⟨RX6, "set", "(II)I"⟩
abbrev cX6_run : ByteArray := prog_1_method_8_code
def yX6_run : MethodName := ⟨RX6, "run", "()I"⟩
abbrev cX6_order : ByteArray := prog_1_method_9_code
def yX6_order : MethodName := ⟨RX6, "order", "()I"⟩
abbrev cX6_likely : ByteArray := prog_1_method_10_code
def yX6_likely : MethodName := ⟨RX6, "likely", "(II)J"⟩
abbrev cX6_ordered : ByteArray := prog_1_method_11_code
def yX6_ordered : MethodName := ⟨RX6, "ordered", "(II)J"⟩
abbrev cX6_close : ByteArray := prog_1_method_12_code
def yX6_close : MethodName := ⟨RX6, "close", "(II)J"⟩
abbrev cX6_sure : ByteArray := prog_1_method_13_code
def yX6_sure : MethodName := ⟨RX6, "sure", "(I)I"⟩
abbrev cX6_even : ByteArray := prog_1_method_14_code
def yX6_even : MethodName := ⟨RX6, "even", "(II)I"⟩
abbrev cX6_starts : ByteArray := prog_1_method_15_code
def yX6_starts : MethodName := ⟨RX6, "starts", "(II)I"⟩
abbrev cX6_load : ByteArray := prog_1_method_16_code
def yX6_load : MethodName := ⟨RX6, "load", "(I)I"⟩
abbrev cX6_on : ByteArray := prog_1_method_17_code
def yX6_on : MethodName := ⟨RX6, "on", "(III)I"⟩
abbrev cX6_settles : ByteArray := prog_1_method_18_code
def yX6_settles : MethodName := ⟨RX6, "settles", "()I"⟩
abbrev cX6_best : ByteArray := prog_1_method_19_code
def yX6_best : MethodName := ⟨RX6, "best", "(I)I"⟩
abbrev cX6_pays : ByteArray := prog_1_method_20_code
def yX6_pays : MethodName := ⟨RX6, "pays", "(II)I"⟩
abbrev cX6_worth : ByteArray := prog_1_method_21_code
def yX6_worth : MethodName := ⟨RX6, "worth", "(II)I"⟩
abbrev cX6_same : ByteArray := prog_1_method_22_code
def yX6_same : MethodName := ⟨RX6, "same", "(III)I"⟩
abbrev cX6_teams : ByteArray := prog_1_method_23_code
def yX6_teams : MethodName := ⟨RX6, "teams", "(I)I"⟩
abbrev cX6_longer : ByteArray := prog_1_method_24_code
def yX6_longer : MethodName := ⟨RX6, "longer", "(I)I"⟩
abbrev cX6_fits : ByteArray := prog_1_method_25_code
def yX6_fits : MethodName := ⟨RX6, "fits", "(II)I"⟩
abbrev cX6_let : ByteArray := prog_1_method_26_code
def yX6_let : MethodName := ⟨RX6, "let", "()I"⟩
abbrev cX6_row : ByteArray := prog_1_method_27_code
def yX6_row : MethodName := ⟨RX6, "row", "(I)I"⟩
abbrev cX6_judge : ByteArray := prog_1_method_28_code
def yX6_judge : MethodName := ⟨RX6, "judge", "()I"⟩
abbrev cX6_clear : ByteArray := prog_1_method_29_code
def yX6_clear : MethodName := ⟨RX6, "clear", "()I"⟩
abbrev cX6_seeds : ByteArray := prog_1_method_30_code
def yX6_seeds : MethodName := ⟨RX6, "seeds", "(IIII)I"⟩
abbrev cX6_back : ByteArray := prog_1_method_31_code
def yX6_back : MethodName := ⟨RX6, "back", "()I"⟩
abbrev cX6_bag : ByteArray := prog_1_method_32_code
def yX6_bag : MethodName := ⟨RX6, "bag", "(I)I"⟩
abbrev cX6_empty : ByteArray := prog_1_method_33_code
def yX6_empty : MethodName := ⟨RX6, "empty", "()I"⟩
abbrev cX6_bags : ByteArray := prog_1_method_34_code
def yX6_bags : MethodName := ⟨RX6, "bags", "(III)I"⟩
abbrev cX6_ahead : ByteArray := prog_1_method_35_code
def yX6_ahead : MethodName := ⟨RX6, "ahead", "(II)I"⟩
abbrev cX6_cup : ByteArray := prog_1_method_36_code
def yX6_cup : MethodName := ⟨RX6, "cup", "(III)J"⟩
abbrev cX6_bracket : ByteArray := prog_1_method_37_code
def yX6_bracket : MethodName := ⟨RX6, "bracket", "(I)I"⟩
abbrev cX6_league : ByteArray := prog_1_method_38_code
def yX6_league : MethodName := ⟨RX6, "league", "(II)J"⟩
abbrev cX6_ranks : ByteArray := prog_1_method_39_code
def yX6_ranks : MethodName := ⟨RX6, "ranks", "()I"⟩
abbrev cX6_hold : ByteArray := prog_1_method_40_code
def yX6_hold : MethodName := ⟨RX6, "hold", "(II)I"⟩
abbrev cX6_legs : ByteArray := prog_1_method_41_code
def yX6_legs : MethodName := ⟨RX6, "legs", "(IIII)I"⟩
abbrev cX6_bet : ByteArray := prog_1_method_42_code
def yX6_bet : MethodName := ⟨RX6, "bet", "()I"⟩
abbrev cX6_bets : ByteArray := prog_1_method_43_code
def yX6_bets : MethodName := ⟨RX6, "bets", "(I)J"⟩
abbrev cX6_habit : ByteArray := prog_1_method_44_code
def yX6_habit : MethodName := ⟨RX6, "habit", "(II)I"⟩
abbrev cX6_forget : ByteArray := prog_1_method_45_code
def yX6_forget : MethodName := ⟨RX6, "forget", "()I"⟩
abbrev cX6_tried : ByteArray := prog_1_method_46_code
def yX6_tried : MethodName := ⟨RX6, "tried", "(II)I"⟩
abbrev cX6_had : ByteArray := prog_1_method_47_code
def yX6_had : MethodName := ⟨RX6, "had", "(IIII)I"⟩
abbrev cX6_time : ByteArray := prog_1_method_48_code
def yX6_time : MethodName := ⟨RX6, "time", "(I)I"⟩
abbrev cX6_past : ByteArray := prog_1_method_49_code
def yX6_past : MethodName := ⟨RX6, "past", "(II)I"⟩
abbrev cX6_wipe : ByteArray := prog_1_method_50_code
def yX6_wipe : MethodName := ⟨RX6, "wipe", "()I"⟩
abbrev cX6_image : ByteArray := prog_1_method_51_code
def yX6_image : MethodName := ⟨RX6, "image", "()I"⟩
abbrev cX6_restore : ByteArray := prog_1_method_52_code
def yX6_restore : MethodName := ⟨RX6, "restore", "()I"⟩
abbrev cX6_count : ByteArray := prog_1_method_53_code
def yX6_count : MethodName := ⟨RX6, "count", "(I)I"⟩
abbrev cX6_refuse : ByteArray := prog_1_method_54_code
def yX6_refuse : MethodName := ⟨RX6, "refuse", "(I)I"⟩
abbrev cX6_refuseHigh : ByteArray := prog_1_method_55_code
def yX6_refuseHigh : MethodName := ⟨RX6, "refuseHigh", "(I)I"⟩
abbrev cX6_refuseLong : ByteArray := prog_1_method_56_code
def yX6_refuseLong : MethodName := ⟨RX6, "refuseLong", "(I)J"⟩
abbrev cX6_noPart : ByteArray := prog_1_method_57_code
def yX6_noPart : MethodName := ⟨RX6, "noPart", "(I)Z"⟩
abbrev cX6_notTwo : ByteArray := prog_1_method_58_code
def yX6_notTwo : MethodName := ⟨RX6, "notTwo", "(II)Z"⟩
abbrev cX6_fraction : ByteArray := prog_1_method_59_code
def yX6_fraction : MethodName := ⟨RX6, "fraction", "(JJI)J"⟩
abbrev cX6_leastOf : ByteArray := prog_1_method_60_code
def yX6_leastOf : MethodName := ⟨RX6, "leastOf", "(I)I"⟩
abbrev cX6_mostOf : ByteArray := prog_1_method_61_code
def yX6_mostOf : MethodName := ⟨RX6, "mostOf", "(I)I"⟩
abbrev cX6_alone : ByteArray := prog_1_method_62_code
def yX6_alone : MethodName := ⟨RX6, "alone", "(II)I"⟩
abbrev cX6_sixteenths : ByteArray := prog_1_method_63_code
def yX6_sixteenths : MethodName := ⟨RX6, "sixteenths", "(II)I"⟩
abbrev cX6_evenest : ByteArray := prog_1_method_64_code
def yX6_evenest : MethodName := ⟨RX6, "evenest", "(II)I"⟩
abbrev cX6_putStarts : ByteArray := prog_1_method_65_code
def yX6_putStarts : MethodName := ⟨RX6, "putStarts", "(II)V"⟩
abbrev cX6_winsIn : ByteArray := prog_1_method_66_code
def yX6_winsIn : MethodName := ⟨RX6, "winsIn", "(II)I"⟩
abbrev cX6_winsAs : ByteArray := prog_1_method_67_code
def yX6_winsAs : MethodName := ⟨RX6, "winsAs", "(III)I"⟩
abbrev cX6_gaps : ByteArray := prog_1_method_68_code
def yX6_gaps : MethodName := ⟨RX6, "gaps", "(IZ)I"⟩
abbrev cX6_gained : ByteArray := prog_1_method_69_code
def yX6_gained : MethodName := ⟨RX6, "gained", "(II)I"⟩
abbrev cX6_apart : ByteArray := prog_1_method_70_code
def yX6_apart : MethodName := ⟨RX6, "apart", "(I)I"⟩
abbrev cX6_firstNotSo : ByteArray := prog_1_method_71_code
def yX6_firstNotSo : MethodName := ⟨RX6, "firstNotSo", "()I"⟩
abbrev cX6_carrying : ByteArray := prog_1_method_72_code
def yX6_carrying : MethodName := ⟨RX6, "carrying", "(III)I"⟩
abbrev cX6_cupWays : ByteArray := prog_1_method_73_code
def yX6_cupWays : MethodName := ⟨RX6, "cupWays", "(II)I"⟩
abbrev cX6_leagueWays : ByteArray := prog_1_method_74_code
def yX6_leagueWays : MethodName := ⟨RX6, "leagueWays", "(I)I"⟩
abbrev cX6_holdWorth : ByteArray := prog_1_method_75_code
def yX6_holdWorth : MethodName := ⟨RX6, "holdWorth", "(III)I"⟩
abbrev cX6_relay : ByteArray := prog_1_method_76_code
def yX6_relay : MethodName := ⟨RX6, "relay", "(III)I"⟩
abbrev cX6_betsTold : ByteArray := prog_1_method_77_code
def yX6_betsTold : MethodName := ⟨RX6, "betsTold", "()Z"⟩
abbrev cX6_bestBet : ByteArray := prog_1_method_78_code
def yX6_bestBet : MethodName := ⟨RX6, "bestBet", "()I"⟩
abbrev cX6_betWays : ByteArray := prog_1_method_79_code
def yX6_betWays : MethodName := ⟨RX6, "betWays", "(I)I"⟩
abbrev cX6_tookThese : ByteArray := prog_1_method_80_code
def yX6_tookThese : MethodName := ⟨RX6, "tookThese", "(I)Z"⟩
def RX7 : String := "HeadStartModel"
def TX7 : u_T := fun k => match k with
  | 0 => ("HeadStartModel", "refused", "[I", true)
  | 1 => ("HeadStartModel", "kind", "[I", true)
  | 2 => ("HeadStartModel", "figure", "[I", true)
  | 3 => ("HeadStartModel", "pace", "[I", true)
  | 4 => ("HeadStartModel", "spread", "[I", true)
  | 5 => ("HeadStartModel", "start", "[I", true)
  | 6 => ("HeadStartModel", "wins", "[I", true)
  | 7 => ("HeadStartModel", "bag", "[I", true)
  | 8 => ("HeadStartModel", "clauseWhom", "[I", true)
  | 9 => ("HeadStartModel", "clauseYards", "[I", true)
  | 10 => ("HeadStartModel", "way", "I", false)
  | 11 => ("HeadStartModel", "week", "I", false)
  | 12 => ("HeadStartModel", "rule", "I", false)
  | 13 => ("HeadStartModel", "yard", "I", false)
  | 14 => ("HeadStartModel", "runners", "I", false)
  | 15 => ("HeadStartModel", "bags", "I", false)
  | 16 => ("HeadStartModel", "clauses", "I", false)
  | 17 => ("HeadStartModel", "tape", "[I", true)
  | 18 => ("HeadStartModel", "letter", "[I", true)
  | 19 => ("HeadStartModel", "letterAt", "[I", true)
  | 20 => ("HeadStartModel", "told", "[I", true)
  | 21 => ("HeadStartModel", "taped", "I", false)
  | 22 => ("HeadStartModel", "at", "I", false)
  | 23 => ("HeadStartModel", "statements", "I", false)
  | 24 => ("HeadStartModel", "kept", "[I", true)
  | 25 => ("HeadStartModel", "hasImage", "Z", false)
  | 26 => ("HeadStartModel", "isKeeping", "Z", false)
  | 27 => ("HeadStartModel", "cursor", "I", false)
  | 28 => ("HeadStartModel", "takes", "[I", true)
  | 29 => ("HeadStartModel", "order", "[I", true)
  | 30 => ("HeadStartModel", "backStarts", "[I", true)
  | 31 => ("HeadStartModel", "backWins", "[I", true)
  | 32 => ("HeadStartModel", "backWeek", "[I", true)
  | 33 => ("HeadStartModel", "backs", "I", false)
  | 34 => ("HeadStartModel", "firsts", "[I", true)
  | 35 => ("HeadStartModel", "bestStarts", "I", false)
  | 36 => ("HeadStartModel", "leastUneven", "I", false)
  | 37 => ("HeadStartModel", "wonThen", "I", false)
  | 38 => ("HeadStartModel", "startThen", "I", false)
  | 39 => ("HeadStartModel", "tenths", "[I", true)
  | 40 => ("HeadStartModel", "tenthsMany", "I", false)
  | 41 => ("HeadStartModel", "row", "[I", true)
  | _ => ("HeadStartModel", "rowMany", "I", false)
def tyX7 : Nat → FieldType := fun k => match k with
  | 0 => .array .int
  | 1 => .array .int
  | 2 => .array .int
  | 3 => .array .int
  | 4 => .array .int
  | 5 => .array .int
  | 6 => .array .int
  | 7 => .array .int
  | 8 => .array .int
  | 9 => .array .int
  | 10 => .int
  | 11 => .int
  | 12 => .int
  | 13 => .int
  | 14 => .int
  | 15 => .int
  | 16 => .int
  | 17 => .array .int
  | 18 => .array .int
  | 19 => .array .int
  | 20 => .array .int
  | 21 => .int
  | 22 => .int
  | 23 => .int
  | 24 => .array .int
  | 25 => .boolean
  | 26 => .boolean
  | 27 => .int
  | 28 => .array .int
  | 29 => .array .int
  | 30 => .array .int
  | 31 => .array .int
  | 32 => .array .int
  | 33 => .int
  | 34 => .array .int
  | 35 => .int
  | 36 => .int
  | 37 => .int
  | 38 => .int
  | 39 => .array .int
  | 40 => .int
  | 41 => .array .int
  | _ => .int
abbrev wsX70 : List Cond := u_ws RX7 TX7 43
theorem nmX7 : ∀ a, a < 43 → ∀ b, b < 43 → a ≠ b → (TX7 a).2.1 ≠ (TX7 b).2.1 := by decide +kernel
theorem tyX7_ok : ∀ k, k < 43 → parseFieldDescriptor (TX7 k).2.2.1 = some (tyX7 k) := by decide +kernel
abbrev cX7_init : ByteArray := prog_9_method_1_code
def yX7_init : MethodName := ⟨RX7, "<init>", "()V"⟩
abbrev cX7_no : ByteArray := prog_9_method_2_code
def yX7_no : MethodName := ⟨RX7, "no", "(I)I"⟩
abbrev cX7_lower : ByteArray := prog_9_method_3_code
def yX7_lower : MethodName := ⟨RX7, "lower", "(I)I"⟩
abbrev cX7_lowest : ByteArray := prog_9_method_4_code
def yX7_lowest : MethodName := ⟨RX7, "lowest", "(I)J"⟩
abbrev cX7_isIn : ByteArray := prog_9_method_5_code
def yX7_isIn : MethodName := ⟨RX7, "isIn", "(III)Z"⟩
abbrev cX7_bound : ByteArray := prog_9_method_6_code
def yX7_bound : MethodName := ⟨RX7, "bound", "(III)I"⟩
abbrev cX7_atLeastOne : ByteArray := prog_9_method_7_code
def yX7_atLeastOne : MethodName := ⟨RX7, "atLeastOne", "(I)I"⟩
abbrev cX7_isRunner : ByteArray := prog_9_method_8_code
def yX7_isRunner : MethodName := ⟨RX7, "isRunner", "(I)Z"⟩
abbrev cX7_areTwo : ByteArray := prog_9_method_9_code
def yX7_areTwo : MethodName := ⟨RX7, "areTwo", "(II)Z"⟩
abbrev cX7_feed : ByteArray := prog_9_method_10_code
def yX7_feed : MethodName := ⟨RX7, "feed", "(I)I"⟩
abbrev cX7_next : ByteArray := prog_9_method_11_code
def yX7_next : MethodName := ⟨RX7, "next", "()I"⟩
abbrev cX7_readsNumber : ByteArray := prog_9_method_12_code
def yX7_readsNumber : MethodName := ⟨RX7, "readsNumber", "(III)Z"⟩
abbrev cX7_readsRunner : ByteArray := prog_9_method_13_code
def yX7_readsRunner : MethodName := ⟨RX7, "readsRunner", "(I)Z"⟩
abbrev cX7_readsAll : ByteArray := prog_9_method_14_code
def yX7_readsAll : MethodName := ⟨RX7, "readsAll", "(II)Z"⟩
abbrev cX7_statement : ByteArray := prog_9_method_15_code
def yX7_statement : MethodName := ⟨RX7, "statement", "()Z"⟩
abbrev cX7_comesRunner : ByteArray := prog_9_method_16_code
def yX7_comesRunner : MethodName := ⟨RX7, "comesRunner", "(I)Z"⟩
abbrev cX7_comes : ByteArray := prog_9_method_17_code
def yX7_comes : MethodName := ⟨RX7, "comes", "(I)Z"⟩
abbrev cX7_lane : ByteArray := prog_9_method_18_code
def yX7_lane : MethodName := ⟨RX7, "lane", "()I"⟩
abbrev cX7_passes : ByteArray := prog_9_method_19_code
def yX7_passes : MethodName := ⟨RX7, "passes", "([I)V"⟩
abbrev cX7_passOne : ByteArray := prog_9_method_20_code
def yX7_passOne : MethodName := ⟨RX7, "passOne", "(I)I"⟩
abbrev cX7_passesAll : ByteArray := prog_9_method_21_code
def yX7_passesAll : MethodName := ⟨RX7, "passesAll", "(IZ)V"⟩
abbrev cX7_image : ByteArray := prog_9_method_22_code
def yX7_image : MethodName := ⟨RX7, "image", "()I"⟩
abbrev cX7_restore : ByteArray := prog_9_method_23_code
def yX7_restore : MethodName := ⟨RX7, "restore", "()I"⟩
abbrev cX7_timeOver : ByteArray := prog_9_method_24_code
def yX7_timeOver : MethodName := ⟨RX7, "timeOver", "(III)I"⟩
abbrev cX7_timeBy : ByteArray := prog_9_method_25_code
def yX7_timeBy : MethodName := ⟨RX7, "timeBy", "(II)I"⟩
abbrev cX7_timeOf : ByteArray := prog_9_method_26_code
def yX7_timeOf : MethodName := ⟨RX7, "timeOf", "(I)I"⟩
abbrev cX7_sorts : ByteArray := prog_9_method_27_code
def yX7_sorts : MethodName := ⟨RX7, "sorts", "()V"⟩
abbrev cX7_takesTimes : ByteArray := prog_9_method_28_code
def yX7_takesTimes : MethodName := ⟨RX7, "takesTimes", "()V"⟩
abbrev cX7_partTime : ByteArray := prog_9_method_29_code
def yX7_partTime : MethodName := ⟨RX7, "partTime", "(II)I"⟩
abbrev cX7_takesParts : ByteArray := prog_9_method_30_code
def yX7_takesParts : MethodName := ⟨RX7, "takesParts", "(I)V"⟩
abbrev cX7_races : ByteArray := prog_9_method_31_code
def yX7_races : MethodName := ⟨RX7, "races", "()I"⟩
abbrev cX7_held : ByteArray := prog_9_method_32_code
def yX7_held : MethodName := ⟨RX7, "held", "(I)I"⟩
abbrev cX7_mends : ByteArray := prog_9_method_33_code
def yX7_mends : MethodName := ⟨RX7, "mends", "()V"⟩
abbrev cX7_runs : ByteArray := prog_9_method_34_code
def yX7_runs : MethodName := ⟨RX7, "runs", "()I"⟩
abbrev cX7_runner : ByteArray := prog_9_method_35_code
def yX7_runner : MethodName := ⟨RX7, "runner", "(II)I"⟩
abbrev cX7_start : ByteArray := prog_9_method_36_code
def yX7_start : MethodName := ⟨RX7, "start", "(II)I"⟩
abbrev cX7_kind : ByteArray := prog_9_method_37_code
def yX7_kind : MethodName := ⟨RX7, "kind", "(III)I"⟩
abbrev cX7_set : ByteArray := prog_9_method_38_code
def yX7_set : MethodName := ⟨RX7, "set", "(II)I"⟩
abbrev cX7_run : ByteArray := prog_9_method_39_code
def yX7_run : MethodName := ⟨RX7, "run", "()I"⟩
abbrev cX7_digits : ByteArray := prog_9_method_40_code
def yX7_digits : MethodName := ⟨RX7, "digits", "()I"⟩
abbrev cX7_keepsRun : ByteArray := prog_9_method_41_code
def yX7_keepsRun : MethodName := ⟨RX7, "keepsRun", "()V"⟩
abbrev cX7_back : ByteArray := prog_9_method_42_code
def yX7_back : MethodName := ⟨RX7, "back", "()I"⟩
abbrev cX7_order : ByteArray := prog_9_method_43_code
def yX7_order : MethodName := ⟨RX7, "order", "()I"⟩
abbrev cX7_findFirsts : ByteArray := prog_9_method_44_code
def yX7_findFirsts : MethodName := ⟨RX7, "findFirsts", "()V"⟩
abbrev cX7_uneven : ByteArray := prog_9_method_45_code
def yX7_uneven : MethodName := ⟨RX7, "uneven", "()I"⟩
abbrev cX7_divisor : ByteArray := prog_9_method_46_code
def yX7_divisor : MethodName := ⟨RX7, "divisor", "(JJ)J"⟩
abbrev cX7_partOf : ByteArray := prog_9_method_47_code
def yX7_partOf : MethodName := ⟨RX7, "partOf", "(JJI)J"⟩
abbrev cX7_likely : ByteArray := prog_9_method_48_code
def yX7_likely : MethodName := ⟨RX7, "likely", "(II)J"⟩
abbrev cX7_isOrder : ByteArray := prog_9_method_49_code
def yX7_isOrder : MethodName := ⟨RX7, "isOrder", "(I)Z"⟩
abbrev cX7_ordered : ByteArray := prog_9_method_50_code
def yX7_ordered : MethodName := ⟨RX7, "ordered", "(II)J"⟩
abbrev cX7_gap : ByteArray := prog_9_method_51_code
def yX7_gap : MethodName := ⟨RX7, "gap", "()I"⟩
abbrev cX7_close : ByteArray := prog_9_method_52_code
def yX7_close : MethodName := ⟨RX7, "close", "(II)J"⟩
abbrev cX7_sure : ByteArray := prog_9_method_53_code
def yX7_sure : MethodName := ⟨RX7, "sure", "(I)I"⟩
abbrev cX7_partBy : ByteArray := prog_9_method_54_code
def yX7_partBy : MethodName := ⟨RX7, "partBy", "(III)I"⟩
abbrev cX7_aheadBy : ByteArray := prog_9_method_55_code
def yX7_aheadBy : MethodName := ⟨RX7, "aheadBy", "(IIII)I"⟩
abbrev cX7_aheadOf : ByteArray := prog_9_method_56_code
def yX7_aheadOf : MethodName := ⟨RX7, "aheadOf", "(II)I"⟩
abbrev cX7_even : ByteArray := prog_9_method_57_code
def yX7_even : MethodName := ⟨RX7, "even", "(II)I"⟩
abbrev cX7_findStarts : ByteArray := prog_9_method_58_code
def yX7_findStarts : MethodName := ⟨RX7, "findStarts", "(I)V"⟩
abbrev cX7_starts : ByteArray := prog_9_method_59_code
def yX7_starts : MethodName := ⟨RX7, "starts", "(II)I"⟩
abbrev cX7_load : ByteArray := prog_9_method_60_code
def yX7_load : MethodName := ⟨RX7, "load", "(I)I"⟩
abbrev cX7_goesOn : ByteArray := prog_9_method_61_code
def yX7_goesOn : MethodName := ⟨RX7, "goesOn", "(II)V"⟩
abbrev cX7_on : ByteArray := prog_9_method_62_code
def yX7_on : MethodName := ⟨RX7, "on", "(III)I"⟩
abbrev cX7_startsNumber : ByteArray := prog_9_method_63_code
def yX7_startsNumber : MethodName := ⟨RX7, "startsNumber", "()I"⟩
abbrev cX7_settles : ByteArray := prog_9_method_64_code
def yX7_settles : MethodName := ⟨RX7, "settles", "()I"⟩
abbrev cX7_gapsBy : ByteArray := prog_9_method_65_code
def yX7_gapsBy : MethodName := ⟨RX7, "gapsBy", "(II)I"⟩
abbrev cX7_best : ByteArray := prog_9_method_66_code
def yX7_best : MethodName := ⟨RX7, "best", "(I)I"⟩
abbrev cX7_pays : ByteArray := prog_9_method_67_code
def yX7_pays : MethodName := ⟨RX7, "pays", "(II)I"⟩
abbrev cX7_worthOf : ByteArray := prog_9_method_68_code
def yX7_worthOf : MethodName := ⟨RX7, "worthOf", "(II)I"⟩
abbrev cX7_worth : ByteArray := prog_9_method_69_code
def yX7_worth : MethodName := ⟨RX7, "worth", "(II)I"⟩
abbrev cX7_same : ByteArray := prog_9_method_70_code
def yX7_same : MethodName := ⟨RX7, "same", "(III)I"⟩
abbrev cX7_apartBy : ByteArray := prog_9_method_71_code
def yX7_apartBy : MethodName := ⟨RX7, "apartBy", "(I)I"⟩
abbrev cX7_teams : ByteArray := prog_9_method_72_code
def yX7_teams : MethodName := ⟨RX7, "teams", "(I)I"⟩
abbrev cX7_longer : ByteArray := prog_9_method_73_code
def yX7_longer : MethodName := ⟨RX7, "longer", "(I)I"⟩
abbrev cX7_let : ByteArray := prog_9_method_74_code
def yX7_let : MethodName := ⟨RX7, "let", "()I"⟩
abbrev cX7_bag : ByteArray := prog_9_method_75_code
def yX7_bag : MethodName := ⟨RX7, "bag", "(I)I"⟩
abbrev cX7_empty : ByteArray := prog_9_method_76_code
def yX7_empty : MethodName := ⟨RX7, "empty", "()I"⟩
abbrev cX7_bagsFar : ByteArray := prog_9_method_77_code
def yX7_bagsFar : MethodName := ⟨RX7, "bagsFar", "(III)I"⟩
abbrev cX7_bags : ByteArray := prog_9_method_78_code
def yX7_bags : MethodName := ⟨RX7, "bags", "(III)I"⟩
abbrev cX7_ahead : ByteArray := prog_9_method_79_code
def yX7_ahead : MethodName := ⟨RX7, "ahead", "(II)I"⟩
abbrev cX7_partner : ByteArray := prog_9_method_80_code
def yX7_partner : MethodName := ⟨RX7, "partner", "(II)I"⟩
abbrev cX7_cupParts : ByteArray := prog_9_method_81_code
def yX7_cupParts : MethodName := ⟨RX7, "cupParts", "(II)J"⟩
abbrev cX7_cup : ByteArray := prog_9_method_82_code
def yX7_cup : MethodName := ⟨RX7, "cup", "(III)J"⟩
abbrev cX7_bracket : ByteArray := prog_9_method_83_code
def yX7_bracket : MethodName := ⟨RX7, "bracket", "(I)I"⟩
abbrev cX7_leaguePoints : ByteArray := prog_9_method_84_code
def yX7_leaguePoints : MethodName := ⟨RX7, "leaguePoints", "(I)I"⟩
abbrev cX7_league : ByteArray := prog_9_method_85_code
def yX7_league : MethodName := ⟨RX7, "league", "(II)J"⟩
abbrev cX7_ranks : ByteArray := prog_9_method_86_code
def yX7_ranks : MethodName := ⟨RX7, "ranks", "()I"⟩
abbrev cX7_worthOfPair : ByteArray := prog_9_method_87_code
def yX7_worthOfPair : MethodName := ⟨RX7, "worthOfPair", "(III)I"⟩
abbrev cX7_hold : ByteArray := prog_9_method_88_code
def yX7_hold : MethodName := ⟨RX7, "hold", "(II)I"⟩
abbrev cX7_legsBy : ByteArray := prog_9_method_89_code
def yX7_legsBy : MethodName := ⟨RX7, "legsBy", "(III)I"⟩
abbrev cX7_legs : ByteArray := prog_9_method_90_code
def yX7_legs : MethodName := ⟨RX7, "legs", "(IIII)I"⟩
abbrev cX7_areBets : ByteArray := prog_9_method_91_code
def yX7_areBets : MethodName := ⟨RX7, "areBets", "()Z"⟩
abbrev cX7_bestBet : ByteArray := prog_9_method_92_code
def yX7_bestBet : MethodName := ⟨RX7, "bestBet", "()I"⟩
abbrev cX7_bet : ByteArray := prog_9_method_93_code
def yX7_bet : MethodName := ⟨RX7, "bet", "()I"⟩
abbrev cX7_bets : ByteArray := prog_9_method_94_code
def yX7_bets : MethodName := ⟨RX7, "bets", "(I)J"⟩
abbrev cX7_habit : ByteArray := prog_9_method_95_code
def yX7_habit : MethodName := ⟨RX7, "habit", "(II)I"⟩
abbrev cX7_forget : ByteArray := prog_9_method_96_code
def yX7_forget : MethodName := ⟨RX7, "forget", "()I"⟩
abbrev cX7_isWhom : ByteArray := prog_9_method_97_code
def yX7_isWhom : MethodName := ⟨RX7, "isWhom", "(II)Z"⟩
abbrev cX7_mendsByHabit : ByteArray := prog_9_method_98_code
def yX7_mendsByHabit : MethodName := ⟨RX7, "mendsByHabit", "()V"⟩
abbrev cX7_gapsByHabit : ByteArray := prog_9_method_99_code
def yX7_gapsByHabit : MethodName := ⟨RX7, "gapsByHabit", "(I)I"⟩
abbrev cX7_tried : ByteArray := prog_9_method_100_code
def yX7_tried : MethodName := ⟨RX7, "tried", "(II)I"⟩
abbrev cX7_had : ByteArray := prog_9_method_101_code
def yX7_had : MethodName := ⟨RX7, "had", "(IIII)I"⟩
abbrev cX7_time : ByteArray := prog_9_method_102_code
def yX7_time : MethodName := ⟨RX7, "time", "(I)I"⟩
abbrev cX7_wipe : ByteArray := prog_9_method_103_code
def yX7_wipe : MethodName := ⟨RX7, "wipe", "()I"⟩
abbrev cX7_hasTimes : ByteArray := prog_9_method_104_code
def yX7_hasTimes : MethodName := ⟨RX7, "hasTimes", "(I)Z"⟩
abbrev cX7_past : ByteArray := prog_9_method_105_code
def yX7_past : MethodName := ⟨RX7, "past", "(II)I"⟩
abbrev cX7_row : ByteArray := prog_9_method_106_code
def yX7_row : MethodName := ⟨RX7, "row", "(I)I"⟩
abbrev cX7_wrongAt : ByteArray := prog_9_method_107_code
def yX7_wrongAt : MethodName := ⟨RX7, "wrongAt", "()I"⟩
abbrev cX7_fits : ByteArray := prog_9_method_108_code
def yX7_fits : MethodName := ⟨RX7, "fits", "(II)I"⟩
abbrev cX7_judge : ByteArray := prog_9_method_109_code
def yX7_judge : MethodName := ⟨RX7, "judge", "()I"⟩
abbrev cX7_clear : ByteArray := prog_9_method_110_code
def yX7_clear : MethodName := ⟨RX7, "clear", "()I"⟩
abbrev cX7_seeds : ByteArray := prog_9_method_111_code
def yX7_seeds : MethodName := ⟨RX7, "seeds", "(IIII)I"⟩
abbrev cX7_count : ByteArray := prog_9_method_112_code
def yX7_count : MethodName := ⟨RX7, "count", "(I)I"⟩
def RJ9 : String := "java/lang/Math"
def TJ9 : u_T := fun k => match k with
  | _ => ("", "", "", false)
def tyJ9 : Nat → FieldType := fun k => match k with
  | _ => .int
abbrev wsJ90 : List Cond := u_ws RJ9 TJ9 0
theorem nmJ9 : ∀ a, a < 0 → ∀ b, b < 0 → a ≠ b → (TJ9 a).2.1 ≠ (TJ9 b).2.1 := by decide +kernel
theorem tyJ9_ok : ∀ k, k < 0 → parseFieldDescriptor (TJ9 k).2.2.1 = some (tyJ9 k) := by decide +kernel
abbrev cJ9_abs_0f7a4 : ByteArray := prog_10_method_59_code
def yJ9_abs_0f7a4 : MethodName := ⟨RJ9, "abs", "(I)I"⟩
abbrev cJ9_max_7cf53 : ByteArray := prog_10_method_65_code
def yJ9_max_7cf53 : MethodName := ⟨RJ9, "max", "(II)I"⟩
abbrev cJ9_min_7cf53 : ByteArray := prog_10_method_69_code
def yJ9_min_7cf53 : MethodName := ⟨RJ9, "min", "(II)I"⟩
def RL : String := "HeadStartLaw"
abbrev cL_law : ByteArray := code
def yL_law : MethodName := ⟨RL, "law", "([I)Z"⟩
abbrev vwCl : List vw_C := [(RX0, TX0, 11), (RX1, TX1, 2), (RX2, TX2, 6), (RX3, TX3, 2), (RX4, TX4, 4), (RX5, TX5, 2), (RX6, TX6, 16), (RX7, TX7, 43)]
