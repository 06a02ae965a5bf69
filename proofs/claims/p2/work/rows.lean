section
-- ===== PART A: goes FIRST, ahead of the names: the tables' words, and 'selects' of the private methods out of them =====
/-- a private method of a class that the tables say can be made, by its rows of tables_1 -/
def lw_okq (q : MethodName × Nat) : Prop := (q.1.cls ≠ "java/lang/invoke/MethodHandle" ∧ q.1.cls ≠ "java/lang/invoke/VarHandle") ∧ Cond.instantiable q.1.cls q.2 ∈ tables_1 ∧ Cond.privateMethod q.1 ∈ tables_1 ∧ Cond.instanceMethod q.1 ∈ tables_1
theorem lw_p0 : lw_okq (⟨"HeadStart", "refuse", "(I)I"⟩, 16) := ⟨⟨by decide +kernel, by decide +kernel⟩, List.mem_of_getElem? (i := 11) (by decide +kernel), List.mem_of_getElem? (i := 246) (by decide +kernel), List.mem_of_getElem? (i := 247) (by decide +kernel)⟩
theorem lw_p1 : lw_okq (⟨"HeadStart", "refuseLong", "(I)J"⟩, 16) := ⟨⟨by decide +kernel, by decide +kernel⟩, List.mem_of_getElem? (i := 11) (by decide +kernel), List.mem_of_getElem? (i := 433) (by decide +kernel), List.mem_of_getElem? (i := 434) (by decide +kernel)⟩
theorem lw_p2 : lw_okq (⟨"HeadStart", "notTwo", "(II)Z"⟩, 16) := ⟨⟨by decide +kernel, by decide +kernel⟩, List.mem_of_getElem? (i := 11) (by decide +kernel), List.mem_of_getElem? (i := 520) (by decide +kernel), List.mem_of_getElem? (i := 521) (by decide +kernel)⟩
theorem lw_p3 : lw_okq (⟨"HeadStart", "alone", "(II)I"⟩, 16) := ⟨⟨by decide +kernel, by decide +kernel⟩, List.mem_of_getElem? (i := 11) (by decide +kernel), List.mem_of_getElem? (i := 524) (by decide +kernel), List.mem_of_getElem? (i := 525) (by decide +kernel)⟩
theorem lw_p4 : lw_okq (⟨"HeadStart", "evenest", "(II)I"⟩, 16) := ⟨⟨by decide +kernel, by decide +kernel⟩, List.mem_of_getElem? (i := 11) (by decide +kernel), List.mem_of_getElem? (i := 541) (by decide +kernel), List.mem_of_getElem? (i := 542) (by decide +kernel)⟩
theorem lw_p5 : lw_okq (⟨"HeadStart", "putStarts", "(II)V"⟩, 16) := ⟨⟨by decide +kernel, by decide +kernel⟩, List.mem_of_getElem? (i := 11) (by decide +kernel), List.mem_of_getElem? (i := 549) (by decide +kernel), List.mem_of_getElem? (i := 550) (by decide +kernel)⟩
theorem lw_p6 : lw_okq (⟨"HeadStart", "winsIn", "(II)I"⟩, 16) := ⟨⟨by decide +kernel, by decide +kernel⟩, List.mem_of_getElem? (i := 11) (by decide +kernel), List.mem_of_getElem? (i := 562) (by decide +kernel), List.mem_of_getElem? (i := 563) (by decide +kernel)⟩
theorem lw_p7 : lw_okq (⟨"HeadStart", "gaps", "(IZ)I"⟩, 16) := ⟨⟨by decide +kernel, by decide +kernel⟩, List.mem_of_getElem? (i := 11) (by decide +kernel), List.mem_of_getElem? (i := 578) (by decide +kernel), List.mem_of_getElem? (i := 579) (by decide +kernel)⟩
theorem lw_p8 : lw_okq (⟨"HeadStart", "refuseHigh", "(I)I"⟩, 16) := ⟨⟨by decide +kernel, by decide +kernel⟩, List.mem_of_getElem? (i := 11) (by decide +kernel), List.mem_of_getElem? (i := 598) (by decide +kernel), List.mem_of_getElem? (i := 599) (by decide +kernel)⟩
theorem lw_p9 : lw_okq (⟨"HeadStart", "winsAs", "(III)I"⟩, 16) := ⟨⟨by decide +kernel, by decide +kernel⟩, List.mem_of_getElem? (i := 11) (by decide +kernel), List.mem_of_getElem? (i := 603) (by decide +kernel), List.mem_of_getElem? (i := 604) (by decide +kernel)⟩
theorem lw_p10 : lw_okq (⟨"HeadStart", "gained", "(II)I"⟩, 16) := ⟨⟨by decide +kernel, by decide +kernel⟩, List.mem_of_getElem? (i := 11) (by decide +kernel), List.mem_of_getElem? (i := 611) (by decide +kernel), List.mem_of_getElem? (i := 612) (by decide +kernel)⟩
theorem lw_p11 : lw_okq (⟨"HeadStart", "apart", "(I)I"⟩, 16) := ⟨⟨by decide +kernel, by decide +kernel⟩, List.mem_of_getElem? (i := 11) (by decide +kernel), List.mem_of_getElem? (i := 623) (by decide +kernel), List.mem_of_getElem? (i := 624) (by decide +kernel)⟩
theorem lw_p12 : lw_okq (⟨"HeadStart", "firstNotSo", "()I"⟩, 16) := ⟨⟨by decide +kernel, by decide +kernel⟩, List.mem_of_getElem? (i := 11) (by decide +kernel), List.mem_of_getElem? (i := 636) (by decide +kernel), List.mem_of_getElem? (i := 637) (by decide +kernel)⟩
theorem lw_p13 : lw_okq (⟨"HeadStart", "carrying", "(III)I"⟩, 16) := ⟨⟨by decide +kernel, by decide +kernel⟩, List.mem_of_getElem? (i := 11) (by decide +kernel), List.mem_of_getElem? (i := 691) (by decide +kernel), List.mem_of_getElem? (i := 692) (by decide +kernel)⟩
theorem lw_p14 : lw_okq (⟨"HeadStart", "sixteenths", "(II)I"⟩, 16) := ⟨⟨by decide +kernel, by decide +kernel⟩, List.mem_of_getElem? (i := 11) (by decide +kernel), List.mem_of_getElem? (i := 699) (by decide +kernel), List.mem_of_getElem? (i := 700) (by decide +kernel)⟩
theorem lw_p15 : lw_okq (⟨"HeadStart", "cupWays", "(II)I"⟩, 16) := ⟨⟨by decide +kernel, by decide +kernel⟩, List.mem_of_getElem? (i := 11) (by decide +kernel), List.mem_of_getElem? (i := 707) (by decide +kernel), List.mem_of_getElem? (i := 708) (by decide +kernel)⟩
def lw_privs_1 : List (MethodName × Nat) := [(⟨"HeadStart", "refuse", "(I)I"⟩, 16), (⟨"HeadStart", "refuseLong", "(I)J"⟩, 16), (⟨"HeadStart", "notTwo", "(II)Z"⟩, 16), (⟨"HeadStart", "alone", "(II)I"⟩, 16), (⟨"HeadStart", "evenest", "(II)I"⟩, 16), (⟨"HeadStart", "putStarts", "(II)V"⟩, 16), (⟨"HeadStart", "winsIn", "(II)I"⟩, 16), (⟨"HeadStart", "gaps", "(IZ)I"⟩, 16), (⟨"HeadStart", "refuseHigh", "(I)I"⟩, 16), (⟨"HeadStart", "winsAs", "(III)I"⟩, 16), (⟨"HeadStart", "gained", "(II)I"⟩, 16), (⟨"HeadStart", "apart", "(I)I"⟩, 16), (⟨"HeadStart", "firstNotSo", "()I"⟩, 16), (⟨"HeadStart", "carrying", "(III)I"⟩, 16), (⟨"HeadStart", "sixteenths", "(II)I"⟩, 16), (⟨"HeadStart", "cupWays", "(II)I"⟩, 16)]
theorem lw_r1 : ∀ q ∈ lw_privs_1, lw_okq q := List.forall_mem_cons.mpr ⟨lw_p0, List.forall_mem_cons.mpr ⟨lw_p1, List.forall_mem_cons.mpr ⟨lw_p2, List.forall_mem_cons.mpr ⟨lw_p3, List.forall_mem_cons.mpr ⟨lw_p4, List.forall_mem_cons.mpr ⟨lw_p5, List.forall_mem_cons.mpr ⟨lw_p6, List.forall_mem_cons.mpr ⟨lw_p7, List.forall_mem_cons.mpr ⟨lw_p8, List.forall_mem_cons.mpr ⟨lw_p9, List.forall_mem_cons.mpr ⟨lw_p10, List.forall_mem_cons.mpr ⟨lw_p11, List.forall_mem_cons.mpr ⟨lw_p12, List.forall_mem_cons.mpr ⟨lw_p13, List.forall_mem_cons.mpr ⟨lw_p14, List.forall_mem_cons.mpr ⟨lw_p15, fun _ h => absurd h List.not_mem_nil⟩⟩⟩⟩⟩⟩⟩⟩⟩⟩⟩⟩⟩⟩⟩⟩
theorem lw_p16 : lw_okq (⟨"HeadStart", "leagueWays", "(I)I"⟩, 16) := ⟨⟨by decide +kernel, by decide +kernel⟩, List.mem_of_getElem? (i := 11) (by decide +kernel), List.mem_of_getElem? (i := 720) (by decide +kernel), List.mem_of_getElem? (i := 721) (by decide +kernel)⟩
theorem lw_p17 : lw_okq (⟨"HeadStart", "holdWorth", "(III)I"⟩, 16) := ⟨⟨by decide +kernel, by decide +kernel⟩, List.mem_of_getElem? (i := 11) (by decide +kernel), List.mem_of_getElem? (i := 734) (by decide +kernel), List.mem_of_getElem? (i := 735) (by decide +kernel)⟩
theorem lw_p18 : lw_okq (⟨"HeadStart", "relay", "(III)I"⟩, 16) := ⟨⟨by decide +kernel, by decide +kernel⟩, List.mem_of_getElem? (i := 11) (by decide +kernel), List.mem_of_getElem? (i := 742) (by decide +kernel), List.mem_of_getElem? (i := 743) (by decide +kernel)⟩
theorem lw_p19 : lw_okq (⟨"HeadStart", "betsTold", "()Z"⟩, 16) := ⟨⟨by decide +kernel, by decide +kernel⟩, List.mem_of_getElem? (i := 11) (by decide +kernel), List.mem_of_getElem? (i := 750) (by decide +kernel), List.mem_of_getElem? (i := 751) (by decide +kernel)⟩
theorem lw_p20 : lw_okq (⟨"HeadStart", "bestBet", "()I"⟩, 16) := ⟨⟨by decide +kernel, by decide +kernel⟩, List.mem_of_getElem? (i := 11) (by decide +kernel), List.mem_of_getElem? (i := 754) (by decide +kernel), List.mem_of_getElem? (i := 755) (by decide +kernel)⟩
theorem lw_p21 : lw_okq (⟨"HeadStart", "betWays", "(I)I"⟩, 16) := ⟨⟨by decide +kernel, by decide +kernel⟩, List.mem_of_getElem? (i := 11) (by decide +kernel), List.mem_of_getElem? (i := 758) (by decide +kernel), List.mem_of_getElem? (i := 759) (by decide +kernel)⟩
theorem lw_p22 : lw_okq (⟨"HeadStart", "tookThese", "(I)Z"⟩, 16) := ⟨⟨by decide +kernel, by decide +kernel⟩, List.mem_of_getElem? (i := 11) (by decide +kernel), List.mem_of_getElem? (i := 800) (by decide +kernel), List.mem_of_getElem? (i := 801) (by decide +kernel)⟩
theorem lw_p23 : lw_okq (⟨"HeadStartModel", "no", "(I)I"⟩, 43) := ⟨⟨by decide +kernel, by decide +kernel⟩, List.mem_of_getElem? (i := 835) (by decide +kernel), List.mem_of_getElem? (i := 978) (by decide +kernel), List.mem_of_getElem? (i := 979) (by decide +kernel)⟩
theorem lw_p24 : lw_okq (⟨"HeadStartModel", "statement", "()Z"⟩, 43) := ⟨⟨by decide +kernel, by decide +kernel⟩, List.mem_of_getElem? (i := 835) (by decide +kernel), List.mem_of_getElem? (i := 986) (by decide +kernel), List.mem_of_getElem? (i := 987) (by decide +kernel)⟩
theorem lw_p25 : lw_okq (⟨"HeadStartModel", "next", "()I"⟩, 43) := ⟨⟨by decide +kernel, by decide +kernel⟩, List.mem_of_getElem? (i := 835) (by decide +kernel), List.mem_of_getElem? (i := 990) (by decide +kernel), List.mem_of_getElem? (i := 991) (by decide +kernel)⟩
theorem lw_p26 : lw_okq (⟨"HeadStartModel", "readsAll", "(II)Z"⟩, 43) := ⟨⟨by decide +kernel, by decide +kernel⟩, List.mem_of_getElem? (i := 835) (by decide +kernel), List.mem_of_getElem? (i := 994) (by decide +kernel), List.mem_of_getElem? (i := 995) (by decide +kernel)⟩
theorem lw_p27 : lw_okq (⟨"HeadStartModel", "readsNumber", "(III)Z"⟩, 43) := ⟨⟨by decide +kernel, by decide +kernel⟩, List.mem_of_getElem? (i := 835) (by decide +kernel), List.mem_of_getElem? (i := 998) (by decide +kernel), List.mem_of_getElem? (i := 999) (by decide +kernel)⟩
theorem lw_p28 : lw_okq (⟨"HeadStartModel", "readsRunner", "(I)Z"⟩, 43) := ⟨⟨by decide +kernel, by decide +kernel⟩, List.mem_of_getElem? (i := 835) (by decide +kernel), List.mem_of_getElem? (i := 1005) (by decide +kernel), List.mem_of_getElem? (i := 1006) (by decide +kernel)⟩
theorem lw_p29 : lw_okq (⟨"HeadStartModel", "passesAll", "(IZ)V"⟩, 43) := ⟨⟨by decide +kernel, by decide +kernel⟩, List.mem_of_getElem? (i := 835) (by decide +kernel), List.mem_of_getElem? (i := 1009) (by decide +kernel), List.mem_of_getElem? (i := 1010) (by decide +kernel)⟩
theorem lw_p30 : lw_okq (⟨"HeadStartModel", "passes", "([I)V"⟩, 43) := ⟨⟨by decide +kernel, by decide +kernel⟩, List.mem_of_getElem? (i := 835) (by decide +kernel), List.mem_of_getElem? (i := 1013) (by decide +kernel), List.mem_of_getElem? (i := 1014) (by decide +kernel)⟩
theorem lw_p31 : lw_okq (⟨"HeadStartModel", "passOne", "(I)I"⟩, 43) := ⟨⟨by decide +kernel, by decide +kernel⟩, List.mem_of_getElem? (i := 835) (by decide +kernel), List.mem_of_getElem? (i := 1017) (by decide +kernel), List.mem_of_getElem? (i := 1018) (by decide +kernel)⟩
def lw_privs_2 : List (MethodName × Nat) := [(⟨"HeadStart", "leagueWays", "(I)I"⟩, 16), (⟨"HeadStart", "holdWorth", "(III)I"⟩, 16), (⟨"HeadStart", "relay", "(III)I"⟩, 16), (⟨"HeadStart", "betsTold", "()Z"⟩, 16), (⟨"HeadStart", "bestBet", "()I"⟩, 16), (⟨"HeadStart", "betWays", "(I)I"⟩, 16), (⟨"HeadStart", "tookThese", "(I)Z"⟩, 16), (⟨"HeadStartModel", "no", "(I)I"⟩, 43), (⟨"HeadStartModel", "statement", "()Z"⟩, 43), (⟨"HeadStartModel", "next", "()I"⟩, 43), (⟨"HeadStartModel", "readsAll", "(II)Z"⟩, 43), (⟨"HeadStartModel", "readsNumber", "(III)Z"⟩, 43), (⟨"HeadStartModel", "readsRunner", "(I)Z"⟩, 43), (⟨"HeadStartModel", "passesAll", "(IZ)V"⟩, 43), (⟨"HeadStartModel", "passes", "([I)V"⟩, 43), (⟨"HeadStartModel", "passOne", "(I)I"⟩, 43)]
theorem lw_r2 : ∀ q ∈ lw_privs_2, lw_okq q := List.forall_mem_cons.mpr ⟨lw_p16, List.forall_mem_cons.mpr ⟨lw_p17, List.forall_mem_cons.mpr ⟨lw_p18, List.forall_mem_cons.mpr ⟨lw_p19, List.forall_mem_cons.mpr ⟨lw_p20, List.forall_mem_cons.mpr ⟨lw_p21, List.forall_mem_cons.mpr ⟨lw_p22, List.forall_mem_cons.mpr ⟨lw_p23, List.forall_mem_cons.mpr ⟨lw_p24, List.forall_mem_cons.mpr ⟨lw_p25, List.forall_mem_cons.mpr ⟨lw_p26, List.forall_mem_cons.mpr ⟨lw_p27, List.forall_mem_cons.mpr ⟨lw_p28, List.forall_mem_cons.mpr ⟨lw_p29, List.forall_mem_cons.mpr ⟨lw_p30, List.forall_mem_cons.mpr ⟨lw_p31, fun _ h => absurd h List.not_mem_nil⟩⟩⟩⟩⟩⟩⟩⟩⟩⟩⟩⟩⟩⟩⟩⟩
theorem lw_p32 : lw_okq (⟨"HeadStartModel", "comes", "(I)Z"⟩, 43) := ⟨⟨by decide +kernel, by decide +kernel⟩, List.mem_of_getElem? (i := 835) (by decide +kernel), List.mem_of_getElem? (i := 1021) (by decide +kernel), List.mem_of_getElem? (i := 1022) (by decide +kernel)⟩
theorem lw_p33 : lw_okq (⟨"HeadStartModel", "comesRunner", "(I)Z"⟩, 43) := ⟨⟨by decide +kernel, by decide +kernel⟩, List.mem_of_getElem? (i := 835) (by decide +kernel), List.mem_of_getElem? (i := 1025) (by decide +kernel), List.mem_of_getElem? (i := 1026) (by decide +kernel)⟩
theorem lw_p34 : lw_okq (⟨"HeadStartModel", "isRunner", "(I)Z"⟩, 43) := ⟨⟨by decide +kernel, by decide +kernel⟩, List.mem_of_getElem? (i := 835) (by decide +kernel), List.mem_of_getElem? (i := 1029) (by decide +kernel), List.mem_of_getElem? (i := 1030) (by decide +kernel)⟩
theorem lw_p35 : lw_okq (⟨"HeadStartModel", "runs", "()I"⟩, 43) := ⟨⟨by decide +kernel, by decide +kernel⟩, List.mem_of_getElem? (i := 835) (by decide +kernel), List.mem_of_getElem? (i := 1033) (by decide +kernel), List.mem_of_getElem? (i := 1034) (by decide +kernel)⟩
theorem lw_p36 : lw_okq (⟨"HeadStartModel", "takesTimes", "()V"⟩, 43) := ⟨⟨by decide +kernel, by decide +kernel⟩, List.mem_of_getElem? (i := 835) (by decide +kernel), List.mem_of_getElem? (i := 1037) (by decide +kernel), List.mem_of_getElem? (i := 1038) (by decide +kernel)⟩
theorem lw_p37 : lw_okq (⟨"HeadStartModel", "timeOf", "(I)I"⟩, 43) := ⟨⟨by decide +kernel, by decide +kernel⟩, List.mem_of_getElem? (i := 835) (by decide +kernel), List.mem_of_getElem? (i := 1041) (by decide +kernel), List.mem_of_getElem? (i := 1042) (by decide +kernel)⟩
theorem lw_p38 : lw_okq (⟨"HeadStartModel", "timeBy", "(II)I"⟩, 43) := ⟨⟨by decide +kernel, by decide +kernel⟩, List.mem_of_getElem? (i := 835) (by decide +kernel), List.mem_of_getElem? (i := 1045) (by decide +kernel), List.mem_of_getElem? (i := 1046) (by decide +kernel)⟩
theorem lw_p39 : lw_okq (⟨"HeadStartModel", "timeOver", "(III)I"⟩, 43) := ⟨⟨by decide +kernel, by decide +kernel⟩, List.mem_of_getElem? (i := 835) (by decide +kernel), List.mem_of_getElem? (i := 1049) (by decide +kernel), List.mem_of_getElem? (i := 1050) (by decide +kernel)⟩
theorem lw_p40 : lw_okq (⟨"HeadStartModel", "sorts", "()V"⟩, 43) := ⟨⟨by decide +kernel, by decide +kernel⟩, List.mem_of_getElem? (i := 835) (by decide +kernel), List.mem_of_getElem? (i := 1056) (by decide +kernel), List.mem_of_getElem? (i := 1057) (by decide +kernel)⟩
theorem lw_p41 : lw_okq (⟨"HeadStartModel", "mends", "()V"⟩, 43) := ⟨⟨by decide +kernel, by decide +kernel⟩, List.mem_of_getElem? (i := 835) (by decide +kernel), List.mem_of_getElem? (i := 1060) (by decide +kernel), List.mem_of_getElem? (i := 1061) (by decide +kernel)⟩
theorem lw_p42 : lw_okq (⟨"HeadStartModel", "keepsRun", "()V"⟩, 43) := ⟨⟨by decide +kernel, by decide +kernel⟩, List.mem_of_getElem? (i := 835) (by decide +kernel), List.mem_of_getElem? (i := 1095) (by decide +kernel), List.mem_of_getElem? (i := 1096) (by decide +kernel)⟩
theorem lw_p43 : lw_okq (⟨"HeadStartModel", "digits", "()I"⟩, 43) := ⟨⟨by decide +kernel, by decide +kernel⟩, List.mem_of_getElem? (i := 835) (by decide +kernel), List.mem_of_getElem? (i := 1107) (by decide +kernel), List.mem_of_getElem? (i := 1108) (by decide +kernel)⟩
theorem lw_p44 : lw_okq (⟨"HeadStartModel", "lowest", "(I)J"⟩, 43) := ⟨⟨by decide +kernel, by decide +kernel⟩, List.mem_of_getElem? (i := 835) (by decide +kernel), List.mem_of_getElem? (i := 1115) (by decide +kernel), List.mem_of_getElem? (i := 1116) (by decide +kernel)⟩
theorem lw_p45 : lw_okq (⟨"HeadStartModel", "findFirsts", "()V"⟩, 43) := ⟨⟨by decide +kernel, by decide +kernel⟩, List.mem_of_getElem? (i := 835) (by decide +kernel), List.mem_of_getElem? (i := 1120) (by decide +kernel), List.mem_of_getElem? (i := 1121) (by decide +kernel)⟩
theorem lw_p46 : lw_okq (⟨"HeadStartModel", "races", "()I"⟩, 43) := ⟨⟨by decide +kernel, by decide +kernel⟩, List.mem_of_getElem? (i := 835) (by decide +kernel), List.mem_of_getElem? (i := 1124) (by decide +kernel), List.mem_of_getElem? (i := 1125) (by decide +kernel)⟩
theorem lw_p47 : lw_okq (⟨"HeadStartModel", "takesParts", "(I)V"⟩, 43) := ⟨⟨by decide +kernel, by decide +kernel⟩, List.mem_of_getElem? (i := 835) (by decide +kernel), List.mem_of_getElem? (i := 1128) (by decide +kernel), List.mem_of_getElem? (i := 1129) (by decide +kernel)⟩
def lw_privs_3 : List (MethodName × Nat) := [(⟨"HeadStartModel", "comes", "(I)Z"⟩, 43), (⟨"HeadStartModel", "comesRunner", "(I)Z"⟩, 43), (⟨"HeadStartModel", "isRunner", "(I)Z"⟩, 43), (⟨"HeadStartModel", "runs", "()I"⟩, 43), (⟨"HeadStartModel", "takesTimes", "()V"⟩, 43), (⟨"HeadStartModel", "timeOf", "(I)I"⟩, 43), (⟨"HeadStartModel", "timeBy", "(II)I"⟩, 43), (⟨"HeadStartModel", "timeOver", "(III)I"⟩, 43), (⟨"HeadStartModel", "sorts", "()V"⟩, 43), (⟨"HeadStartModel", "mends", "()V"⟩, 43), (⟨"HeadStartModel", "keepsRun", "()V"⟩, 43), (⟨"HeadStartModel", "digits", "()I"⟩, 43), (⟨"HeadStartModel", "lowest", "(I)J"⟩, 43), (⟨"HeadStartModel", "findFirsts", "()V"⟩, 43), (⟨"HeadStartModel", "races", "()I"⟩, 43), (⟨"HeadStartModel", "takesParts", "(I)V"⟩, 43)]
theorem lw_r3 : ∀ q ∈ lw_privs_3, lw_okq q := List.forall_mem_cons.mpr ⟨lw_p32, List.forall_mem_cons.mpr ⟨lw_p33, List.forall_mem_cons.mpr ⟨lw_p34, List.forall_mem_cons.mpr ⟨lw_p35, List.forall_mem_cons.mpr ⟨lw_p36, List.forall_mem_cons.mpr ⟨lw_p37, List.forall_mem_cons.mpr ⟨lw_p38, List.forall_mem_cons.mpr ⟨lw_p39, List.forall_mem_cons.mpr ⟨lw_p40, List.forall_mem_cons.mpr ⟨lw_p41, List.forall_mem_cons.mpr ⟨lw_p42, List.forall_mem_cons.mpr ⟨lw_p43, List.forall_mem_cons.mpr ⟨lw_p44, List.forall_mem_cons.mpr ⟨lw_p45, List.forall_mem_cons.mpr ⟨lw_p46, List.forall_mem_cons.mpr ⟨lw_p47, fun _ h => absurd h List.not_mem_nil⟩⟩⟩⟩⟩⟩⟩⟩⟩⟩⟩⟩⟩⟩⟩⟩
theorem lw_p48 : lw_okq (⟨"HeadStartModel", "partTime", "(II)I"⟩, 43) := ⟨⟨by decide +kernel, by decide +kernel⟩, List.mem_of_getElem? (i := 835) (by decide +kernel), List.mem_of_getElem? (i := 1132) (by decide +kernel), List.mem_of_getElem? (i := 1133) (by decide +kernel)⟩
theorem lw_p49 : lw_okq (⟨"HeadStartModel", "isOrder", "(I)Z"⟩, 43) := ⟨⟨by decide +kernel, by decide +kernel⟩, List.mem_of_getElem? (i := 835) (by decide +kernel), List.mem_of_getElem? (i := 1146) (by decide +kernel), List.mem_of_getElem? (i := 1147) (by decide +kernel)⟩
theorem lw_p50 : lw_okq (⟨"HeadStartModel", "uneven", "()I"⟩, 43) := ⟨⟨by decide +kernel, by decide +kernel⟩, List.mem_of_getElem? (i := 835) (by decide +kernel), List.mem_of_getElem? (i := 1154) (by decide +kernel), List.mem_of_getElem? (i := 1155) (by decide +kernel)⟩
theorem lw_p51 : lw_okq (⟨"HeadStartModel", "gap", "()I"⟩, 43) := ⟨⟨by decide +kernel, by decide +kernel⟩, List.mem_of_getElem? (i := 835) (by decide +kernel), List.mem_of_getElem? (i := 1158) (by decide +kernel), List.mem_of_getElem? (i := 1159) (by decide +kernel)⟩
theorem lw_p52 : lw_okq (⟨"HeadStartModel", "areTwo", "(II)Z"⟩, 43) := ⟨⟨by decide +kernel, by decide +kernel⟩, List.mem_of_getElem? (i := 835) (by decide +kernel), List.mem_of_getElem? (i := 1170) (by decide +kernel), List.mem_of_getElem? (i := 1171) (by decide +kernel)⟩
theorem lw_p53 : lw_okq (⟨"HeadStartModel", "aheadOf", "(II)I"⟩, 43) := ⟨⟨by decide +kernel, by decide +kernel⟩, List.mem_of_getElem? (i := 835) (by decide +kernel), List.mem_of_getElem? (i := 1174) (by decide +kernel), List.mem_of_getElem? (i := 1175) (by decide +kernel)⟩
theorem lw_p54 : lw_okq (⟨"HeadStartModel", "aheadBy", "(IIII)I"⟩, 43) := ⟨⟨by decide +kernel, by decide +kernel⟩, List.mem_of_getElem? (i := 835) (by decide +kernel), List.mem_of_getElem? (i := 1178) (by decide +kernel), List.mem_of_getElem? (i := 1179) (by decide +kernel)⟩
theorem lw_p55 : lw_okq (⟨"HeadStartModel", "findStarts", "(I)V"⟩, 43) := ⟨⟨by decide +kernel, by decide +kernel⟩, List.mem_of_getElem? (i := 835) (by decide +kernel), List.mem_of_getElem? (i := 1189) (by decide +kernel), List.mem_of_getElem? (i := 1190) (by decide +kernel)⟩
theorem lw_p56 : lw_okq (⟨"HeadStartModel", "goesOn", "(II)V"⟩, 43) := ⟨⟨by decide +kernel, by decide +kernel⟩, List.mem_of_getElem? (i := 835) (by decide +kernel), List.mem_of_getElem? (i := 1201) (by decide +kernel), List.mem_of_getElem? (i := 1202) (by decide +kernel)⟩
theorem lw_p57 : lw_okq (⟨"HeadStartModel", "startsNumber", "()I"⟩, 43) := ⟨⟨by decide +kernel, by decide +kernel⟩, List.mem_of_getElem? (i := 835) (by decide +kernel), List.mem_of_getElem? (i := 1209) (by decide +kernel), List.mem_of_getElem? (i := 1210) (by decide +kernel)⟩
theorem lw_p58 : lw_okq (⟨"HeadStartModel", "gapsBy", "(II)I"⟩, 43) := ⟨⟨by decide +kernel, by decide +kernel⟩, List.mem_of_getElem? (i := 835) (by decide +kernel), List.mem_of_getElem? (i := 1217) (by decide +kernel), List.mem_of_getElem? (i := 1218) (by decide +kernel)⟩
theorem lw_p59 : lw_okq (⟨"HeadStartModel", "lower", "(I)I"⟩, 43) := ⟨⟨by decide +kernel, by decide +kernel⟩, List.mem_of_getElem? (i := 835) (by decide +kernel), List.mem_of_getElem? (i := 1225) (by decide +kernel), List.mem_of_getElem? (i := 1226) (by decide +kernel)⟩
theorem lw_p60 : lw_okq (⟨"HeadStartModel", "worthOf", "(II)I"⟩, 43) := ⟨⟨by decide +kernel, by decide +kernel⟩, List.mem_of_getElem? (i := 835) (by decide +kernel), List.mem_of_getElem? (i := 1234) (by decide +kernel), List.mem_of_getElem? (i := 1235) (by decide +kernel)⟩
theorem lw_p61 : lw_okq (⟨"HeadStartModel", "apartBy", "(I)I"⟩, 43) := ⟨⟨by decide +kernel, by decide +kernel⟩, List.mem_of_getElem? (i := 835) (by decide +kernel), List.mem_of_getElem? (i := 1246) (by decide +kernel), List.mem_of_getElem? (i := 1247) (by decide +kernel)⟩
theorem lw_p62 : lw_okq (⟨"HeadStartModel", "bagsFar", "(III)I"⟩, 43) := ⟨⟨by decide +kernel, by decide +kernel⟩, List.mem_of_getElem? (i := 835) (by decide +kernel), List.mem_of_getElem? (i := 1270) (by decide +kernel), List.mem_of_getElem? (i := 1271) (by decide +kernel)⟩
theorem lw_p63 : lw_okq (⟨"HeadStartModel", "cupParts", "(II)J"⟩, 43) := ⟨⟨by decide +kernel, by decide +kernel⟩, List.mem_of_getElem? (i := 835) (by decide +kernel), List.mem_of_getElem? (i := 1282) (by decide +kernel), List.mem_of_getElem? (i := 1283) (by decide +kernel)⟩
def lw_privs_4 : List (MethodName × Nat) := [(⟨"HeadStartModel", "partTime", "(II)I"⟩, 43), (⟨"HeadStartModel", "isOrder", "(I)Z"⟩, 43), (⟨"HeadStartModel", "uneven", "()I"⟩, 43), (⟨"HeadStartModel", "gap", "()I"⟩, 43), (⟨"HeadStartModel", "areTwo", "(II)Z"⟩, 43), (⟨"HeadStartModel", "aheadOf", "(II)I"⟩, 43), (⟨"HeadStartModel", "aheadBy", "(IIII)I"⟩, 43), (⟨"HeadStartModel", "findStarts", "(I)V"⟩, 43), (⟨"HeadStartModel", "goesOn", "(II)V"⟩, 43), (⟨"HeadStartModel", "startsNumber", "()I"⟩, 43), (⟨"HeadStartModel", "gapsBy", "(II)I"⟩, 43), (⟨"HeadStartModel", "lower", "(I)I"⟩, 43), (⟨"HeadStartModel", "worthOf", "(II)I"⟩, 43), (⟨"HeadStartModel", "apartBy", "(I)I"⟩, 43), (⟨"HeadStartModel", "bagsFar", "(III)I"⟩, 43), (⟨"HeadStartModel", "cupParts", "(II)J"⟩, 43)]
theorem lw_r4 : ∀ q ∈ lw_privs_4, lw_okq q := List.forall_mem_cons.mpr ⟨lw_p48, List.forall_mem_cons.mpr ⟨lw_p49, List.forall_mem_cons.mpr ⟨lw_p50, List.forall_mem_cons.mpr ⟨lw_p51, List.forall_mem_cons.mpr ⟨lw_p52, List.forall_mem_cons.mpr ⟨lw_p53, List.forall_mem_cons.mpr ⟨lw_p54, List.forall_mem_cons.mpr ⟨lw_p55, List.forall_mem_cons.mpr ⟨lw_p56, List.forall_mem_cons.mpr ⟨lw_p57, List.forall_mem_cons.mpr ⟨lw_p58, List.forall_mem_cons.mpr ⟨lw_p59, List.forall_mem_cons.mpr ⟨lw_p60, List.forall_mem_cons.mpr ⟨lw_p61, List.forall_mem_cons.mpr ⟨lw_p62, List.forall_mem_cons.mpr ⟨lw_p63, fun _ h => absurd h List.not_mem_nil⟩⟩⟩⟩⟩⟩⟩⟩⟩⟩⟩⟩⟩⟩⟩⟩
theorem lw_p64 : lw_okq (⟨"HeadStartModel", "leaguePoints", "(I)I"⟩, 43) := ⟨⟨by decide +kernel, by decide +kernel⟩, List.mem_of_getElem? (i := 835) (by decide +kernel), List.mem_of_getElem? (i := 1298) (by decide +kernel), List.mem_of_getElem? (i := 1299) (by decide +kernel)⟩
theorem lw_p65 : lw_okq (⟨"HeadStartModel", "worthOfPair", "(III)I"⟩, 43) := ⟨⟨by decide +kernel, by decide +kernel⟩, List.mem_of_getElem? (i := 835) (by decide +kernel), List.mem_of_getElem? (i := 1311) (by decide +kernel), List.mem_of_getElem? (i := 1312) (by decide +kernel)⟩
theorem lw_p66 : lw_okq (⟨"HeadStartModel", "legsBy", "(III)I"⟩, 43) := ⟨⟨by decide +kernel, by decide +kernel⟩, List.mem_of_getElem? (i := 835) (by decide +kernel), List.mem_of_getElem? (i := 1319) (by decide +kernel), List.mem_of_getElem? (i := 1320) (by decide +kernel)⟩
theorem lw_p67 : lw_okq (⟨"HeadStartModel", "areBets", "()Z"⟩, 43) := ⟨⟨by decide +kernel, by decide +kernel⟩, List.mem_of_getElem? (i := 835) (by decide +kernel), List.mem_of_getElem? (i := 1327) (by decide +kernel), List.mem_of_getElem? (i := 1328) (by decide +kernel)⟩
theorem lw_p68 : lw_okq (⟨"HeadStartModel", "bestBet", "()I"⟩, 43) := ⟨⟨by decide +kernel, by decide +kernel⟩, List.mem_of_getElem? (i := 835) (by decide +kernel), List.mem_of_getElem? (i := 1331) (by decide +kernel), List.mem_of_getElem? (i := 1332) (by decide +kernel)⟩
theorem lw_p69 : lw_okq (⟨"HeadStartModel", "gapsByHabit", "(I)I"⟩, 43) := ⟨⟨by decide +kernel, by decide +kernel⟩, List.mem_of_getElem? (i := 835) (by decide +kernel), List.mem_of_getElem? (i := 1351) (by decide +kernel), List.mem_of_getElem? (i := 1352) (by decide +kernel)⟩
theorem lw_p70 : lw_okq (⟨"HeadStartModel", "mendsByHabit", "()V"⟩, 43) := ⟨⟨by decide +kernel, by decide +kernel⟩, List.mem_of_getElem? (i := 835) (by decide +kernel), List.mem_of_getElem? (i := 1355) (by decide +kernel), List.mem_of_getElem? (i := 1356) (by decide +kernel)⟩
theorem lw_p71 : lw_okq (⟨"HeadStartModel", "isWhom", "(II)Z"⟩, 43) := ⟨⟨by decide +kernel, by decide +kernel⟩, List.mem_of_getElem? (i := 835) (by decide +kernel), List.mem_of_getElem? (i := 1359) (by decide +kernel), List.mem_of_getElem? (i := 1360) (by decide +kernel)⟩
theorem lw_p72 : lw_okq (⟨"HeadStartModel", "hasTimes", "(I)Z"⟩, 43) := ⟨⟨by decide +kernel, by decide +kernel⟩, List.mem_of_getElem? (i := 835) (by decide +kernel), List.mem_of_getElem? (i := 1379) (by decide +kernel), List.mem_of_getElem? (i := 1380) (by decide +kernel)⟩
theorem lw_p73 : lw_okq (⟨"HeadStartModel", "wrongAt", "()I"⟩, 43) := ⟨⟨by decide +kernel, by decide +kernel⟩, List.mem_of_getElem? (i := 835) (by decide +kernel), List.mem_of_getElem? (i := 1391) (by decide +kernel), List.mem_of_getElem? (i := 1392) (by decide +kernel)⟩
def lw_privs_5 : List (MethodName × Nat) := [(⟨"HeadStartModel", "leaguePoints", "(I)I"⟩, 43), (⟨"HeadStartModel", "worthOfPair", "(III)I"⟩, 43), (⟨"HeadStartModel", "legsBy", "(III)I"⟩, 43), (⟨"HeadStartModel", "areBets", "()Z"⟩, 43), (⟨"HeadStartModel", "bestBet", "()I"⟩, 43), (⟨"HeadStartModel", "gapsByHabit", "(I)I"⟩, 43), (⟨"HeadStartModel", "mendsByHabit", "()V"⟩, 43), (⟨"HeadStartModel", "isWhom", "(II)Z"⟩, 43), (⟨"HeadStartModel", "hasTimes", "(I)Z"⟩, 43), (⟨"HeadStartModel", "wrongAt", "()I"⟩, 43)]
theorem lw_r5 : ∀ q ∈ lw_privs_5, lw_okq q := List.forall_mem_cons.mpr ⟨lw_p64, List.forall_mem_cons.mpr ⟨lw_p65, List.forall_mem_cons.mpr ⟨lw_p66, List.forall_mem_cons.mpr ⟨lw_p67, List.forall_mem_cons.mpr ⟨lw_p68, List.forall_mem_cons.mpr ⟨lw_p69, List.forall_mem_cons.mpr ⟨lw_p70, List.forall_mem_cons.mpr ⟨lw_p71, List.forall_mem_cons.mpr ⟨lw_p72, List.forall_mem_cons.mpr ⟨lw_p73, fun _ h => absurd h List.not_mem_nil⟩⟩⟩⟩⟩⟩⟩⟩⟩⟩
def lw_privs : List (MethodName × Nat) := lw_privs_1 ++ (lw_privs_2 ++ (lw_privs_3 ++ (lw_privs_4 ++ (lw_privs_5))))
def lw_tbl : List Cond := k2_sels lw_privs ++ tables_1
theorem lw_privs_ok : ∀ q ∈ lw_privs, lw_okq q := by
  show ∀ q ∈ lw_privs_1 ++ (lw_privs_2 ++ (lw_privs_3 ++ (lw_privs_4 ++ (lw_privs_5)))), lw_okq q
  exact List.forall_mem_append.mpr ⟨lw_r1, List.forall_mem_append.mpr ⟨lw_r2, List.forall_mem_append.mpr ⟨lw_r3, List.forall_mem_append.mpr ⟨lw_r4, lw_r5⟩⟩⟩⟩

def RX0 : String := "HeadStart$Field"
def TX0 : u_T := fun k => match k with
  | 0 => ("HeadStart$Field", "way", "I", false)
  | 1 => ("HeadStart$Field", "week", "I", false)
  | 2 => ("HeadStart$Field", "rule", "I", false)
  | 3 => ("HeadStart$Field", "yard", "I", false)
  | 4 => ("HeadStart$Field", "n", "I", false)
  | 5 => ("HeadStart$Field", "kind", "[I", true)
  | 6 => ("HeadStart$Field", "figure", "[I", true)
  | 7 => ("HeadStart$Field", "pace", "[I", true)
  | 8 => ("HeadStart$Field", "spread", "[I", true)
  | 9 => ("HeadStart$Field", "start", "[I", true)
  | _ => ("HeadStart$Field", "wins", "[I", true)
def tyX0 : Nat → FieldType := fun k => match k with
  | 0 => .int
  | 1 => .int
  | 2 => .int
  | 3 => .int
  | 4 => .int
  | 5 => .array .int
  | 6 => .array .int
  | 7 => .array .int
  | 8 => .array .int
  | 9 => .array .int
  | _ => .array .int
abbrev wsX00 : List Cond := u_ws RX0 TX0 11
theorem nmX0 : ∀ a, a < 11 → ∀ b, b < 11 → a ≠ b → (TX0 a).2.1 ≠ (TX0 b).2.1 := by decide +kernel
theorem tyX0_ok : ∀ k, k < 11 → parseFieldDescriptor (TX0 k).2.2.1 = some (tyX0 k) := by decide +kernel
abbrev cX0_init : ByteArray := prog_2_method_1_code
def yX0_init : MethodName := ⟨RX0, "<init>", "()V"⟩
abbrev cX0_has : ByteArray := prog_2_method_2_code
def yX0_has : MethodName := ⟨RX0, "has", "(I)Z"⟩
abbrev cX0_take : ByteArray := prog_2_method_3_code
def yX0_take : MethodName := ⟨RX0, "take", "(LHeadStart$Field;)V"⟩
abbrev cX0_takeTwo : ByteArray := prog_2_method_4_code
def yX0_takeTwo : MethodName := ⟨RX0, "takeTwo", "(LHeadStart$Field;II)V"⟩
abbrev cX0_takeSettings : ByteArray := prog_2_method_5_code
def yX0_takeSettings : MethodName := ⟨RX0, "takeSettings", "(LHeadStart$Field;)V"⟩
abbrev cX0_takeRunner : ByteArray := prog_2_method_6_code
def yX0_takeRunner : MethodName := ⟨RX0, "takeRunner", "(ILHeadStart$Field;I)V"⟩
abbrev cX0_setting : ByteArray := prog_2_method_7_code
def yX0_setting : MethodName := ⟨RX0, "setting", "(I)I"⟩
abbrev cX0_become : ByteArray := prog_2_method_8_code
def yX0_become : MethodName := ⟨RX0, "become", "(II)V"⟩
abbrev cX0_tenths : ByteArray := prog_2_method_9_code
def yX0_tenths : MethodName := ⟨RX0, "tenths", "(I)I"⟩
abbrev cX0_tenthsFrom : ByteArray := prog_2_method_10_code
def yX0_tenthsFrom : MethodName := ⟨RX0, "tenthsFrom", "(II)I"⟩
abbrev cX0_tenthsOver : ByteArray := prog_2_method_11_code
def yX0_tenthsOver : MethodName := ⟨RX0, "tenthsOver", "(III)I"⟩
abbrev cX0_more : ByteArray := prog_2_method_12_code
def yX0_more : MethodName := ⟨RX0, "more", "(II)V"⟩
abbrev cX0_mend : ByteArray := prog_2_method_13_code
def yX0_mend : MethodName := ⟨RX0, "mend", "(II)V"⟩
abbrev cX0_startsAs : ByteArray := prog_2_method_14_code
def yX0_startsAs : MethodName := ⟨RX0, "startsAs", "(LHeadStart$Field;)Z"⟩
abbrev cX0_sum : ByteArray := prog_2_method_15_code
def yX0_sum : MethodName := ⟨RX0, "sum", "([I)I"⟩
abbrev cX0_eachOnce : ByteArray := prog_2_method_16_code
def yX0_eachOnce : MethodName := ⟨RX0, "eachOnce", "(I)Z"⟩
def RX1 : String := "HeadStart$Habit"
def TX1 : u_T := fun k => match k with
  | 0 => ("HeadStart$Habit", "whom", "LHeadStart$Row;", true)
  | _ => ("HeadStart$Habit", "yards", "LHeadStart$Row;", true)
def tyX1 : Nat → FieldType := fun k => match k with
  | 0 => .object "HeadStart$Row"
  | _ => .object "HeadStart$Row"
abbrev wsX10 : List Cond := u_ws RX1 TX1 2
theorem nmX1 : ∀ a, a < 2 → ∀ b, b < 2 → a ≠ b → (TX1 a).2.1 ≠ (TX1 b).2.1 := by decide +kernel
theorem tyX1_ok : ∀ k, k < 2 → parseFieldDescriptor (TX1 k).2.2.1 = some (tyX1 k) := by decide +kernel
abbrev cX1_init : ByteArray := prog_3_method_1_code
def yX1_init : MethodName := ⟨RX1, "<init>", "()V"⟩
abbrev cX1_put : ByteArray := prog_3_method_2_code
def yX1_put : MethodName := ⟨RX1, "put", "(II)I"⟩
abbrev cX1_drop : ByteArray := prog_3_method_3_code
def yX1_drop : MethodName := ⟨RX1, "drop", "()I"⟩
abbrev cX1_take : ByteArray := prog_3_method_4_code
def yX1_take : MethodName := ⟨RX1, "take", "(LHeadStart$Habit;)V"⟩
abbrev cX1_mend : ByteArray := prog_3_method_5_code
def yX1_mend : MethodName := ⟨RX1, "mend", "(LHeadStart$Field;LHeadStart$Race;)V"⟩
abbrev cX1_means : ByteArray := prog_3_method_6_code
def yX1_means : MethodName := ⟨RX1, "means", "(IZZ)Z"⟩
def RX2 : String := "HeadStart$Race"
def TX2 : u_T := fun k => match k with
  | 0 => ("HeadStart$Race", "n", "I", false)
  | 1 => ("HeadStart$Race", "low", "[I", true)
  | 2 => ("HeadStart$Race", "mid", "[I", true)
  | 3 => ("HeadStart$Race", "high", "[I", true)
  | 4 => ("HeadStart$Race", "tenths", "[I", true)
  | _ => ("HeadStart$Race", "places", "[I", true)
def tyX2 : Nat → FieldType := fun k => match k with
  | 0 => .int
  | 1 => .array .int
  | 2 => .array .int
  | 3 => .array .int
  | 4 => .array .int
  | _ => .array .int
abbrev wsX20 : List Cond := u_ws RX2 TX2 6
theorem nmX2 : ∀ a, a < 6 → ∀ b, b < 6 → a ≠ b → (TX2 a).2.1 ≠ (TX2 b).2.1 := by decide +kernel
theorem tyX2_ok : ∀ k, k < 6 → parseFieldDescriptor (TX2 k).2.2.1 = some (tyX2 k) := by decide +kernel
abbrev cX2_init : ByteArray := prog_4_method_1_code
def yX2_init : MethodName := ⟨RX2, "<init>", "()V"⟩
abbrev cX2_draw : ByteArray := prog_4_method_2_code
def yX2_draw : MethodName := ⟨RX2, "draw", "(LHeadStart$Field;)V"⟩
abbrev cX2_put : ByteArray := prog_4_method_3_code
def yX2_put : MethodName := ⟨RX2, "put", "(III)V"⟩
abbrev cX2_allWays : ByteArray := prog_4_method_4_code
def yX2_allWays : MethodName := ⟨RX2, "allWays", "()I"⟩
abbrev cX2_ways : ByteArray := prog_4_method_5_code
def yX2_ways : MethodName := ⟨RX2, "ways", "(I)I"⟩
abbrev cX2_waysAt : ByteArray := prog_4_method_6_code
def yX2_waysAt : MethodName := ⟨RX2, "waysAt", "(II)I"⟩
abbrev cX2_quarters : ByteArray := prog_4_method_7_code
def yX2_quarters : MethodName := ⟨RX2, "quarters", "(II)I"⟩
abbrev cX2_uneven : ByteArray := prog_4_method_8_code
def yX2_uneven : MethodName := ⟨RX2, "uneven", "()I"⟩
abbrev cX2_outcomes : ByteArray := prog_4_method_9_code
def yX2_outcomes : MethodName := ⟨RX2, "outcomes", "()I"⟩
abbrev cX2_deal : ByteArray := prog_4_method_10_code
def yX2_deal : MethodName := ⟨RX2, "deal", "(I)I"⟩
abbrev cX2_waysOf : ByteArray := prog_4_method_11_code
def yX2_waysOf : MethodName := ⟨RX2, "waysOf", "(I)I"⟩
abbrev cX2_gapInAllWays : ByteArray := prog_4_method_12_code
def yX2_gapInAllWays : MethodName := ⟨RX2, "gapInAllWays", "()I"⟩
abbrev cX2_drawn : ByteArray := prog_4_method_13_code
def yX2_drawn : MethodName := ⟨RX2, "drawn", "(LHeadStart$Field;I)I"⟩
abbrev cX2_asRule : ByteArray := prog_4_method_14_code
def yX2_asRule : MethodName := ⟨RX2, "asRule", "(LHeadStart$Field;)V"⟩
abbrev cX2_goOn : ByteArray := prog_4_method_15_code
def yX2_goOn : MethodName := ⟨RX2, "goOn", "(LHeadStart$Field;)I"⟩
abbrev cX2_behind : ByteArray := prog_4_method_16_code
def yX2_behind : MethodName := ⟨RX2, "behind", "(LHeadStart$Field;)V"⟩
abbrev cX2_line : ByteArray := prog_4_method_17_code
def yX2_line : MethodName := ⟨RX2, "line", "()V"⟩
abbrev cX2_first : ByteArray := prog_4_method_18_code
def yX2_first : MethodName := ⟨RX2, "first", "()I"⟩
abbrev cX2_last : ByteArray := prog_4_method_19_code
def yX2_last : MethodName := ⟨RX2, "last", "()I"⟩
abbrev cX2_gap : ByteArray := prog_4_method_20_code
def yX2_gap : MethodName := ⟨RX2, "gap", "()I"⟩
abbrev cX2_digits : ByteArray := prog_4_method_21_code
def yX2_digits : MethodName := ⟨RX2, "digits", "()I"⟩
def RX3 : String := "HeadStart$Row"
def TX3 : u_T := fun k => match k with
  | 0 => ("HeadStart$Row", "cells", "[I", true)
  | _ => ("HeadStart$Row", "n", "I", false)
def tyX3 : Nat → FieldType := fun k => match k with
  | 0 => .array .int
  | _ => .int
abbrev wsX30 : List Cond := u_ws RX3 TX3 2
theorem nmX3 : ∀ a, a < 2 → ∀ b, b < 2 → a ≠ b → (TX3 a).2.1 ≠ (TX3 b).2.1 := by decide +kernel
theorem tyX3_ok : ∀ k, k < 2 → parseFieldDescriptor (TX3 k).2.2.1 = some (tyX3 k) := by decide +kernel
abbrev cX3_init : ByteArray := prog_5_method_1_code
def yX3_init : MethodName := ⟨RX3, "<init>", "(I)V"⟩
abbrev cX3_full : ByteArray := prog_5_method_2_code
def yX3_full : MethodName := ⟨RX3, "full", "()Z"⟩
abbrev cX3_put : ByteArray := prog_5_method_3_code
def yX3_put : MethodName := ⟨RX3, "put", "(I)I"⟩
abbrev cX3_at : ByteArray := prog_5_method_4_code
def yX3_at : MethodName := ⟨RX3, "at", "(I)I"⟩
abbrev cX3_drop : ByteArray := prog_5_method_5_code
def yX3_drop : MethodName := ⟨RX3, "drop", "()I"⟩
abbrev cX3_take : ByteArray := prog_5_method_6_code
def yX3_take : MethodName := ⟨RX3, "take", "(LHeadStart$Row;)V"⟩
def RX4 : String := "HeadStart$Runs"
def TX4 : u_T := fun k => match k with
  | 0 => ("HeadStart$Runs", "starts", "[[I", true)
  | 1 => ("HeadStart$Runs", "wins", "[[I", true)
  | 2 => ("HeadStart$Runs", "weeks", "[I", true)
  | _ => ("HeadStart$Runs", "n", "I", false)
def tyX4 : Nat → FieldType := fun k => match k with
  | 0 => .array (.array .int)
  | 1 => .array (.array .int)
  | 2 => .array .int
  | _ => .int
abbrev wsX40 : List Cond := u_ws RX4 TX4 4
theorem nmX4 : ∀ a, a < 4 → ∀ b, b < 4 → a ≠ b → (TX4 a).2.1 ≠ (TX4 b).2.1 := by decide +kernel
theorem tyX4_ok : ∀ k, k < 4 → parseFieldDescriptor (TX4 k).2.2.1 = some (tyX4 k) := by decide +kernel
abbrev cX4_init : ByteArray := prog_6_method_1_code
def yX4_init : MethodName := ⟨RX4, "<init>", "()V"⟩
abbrev cX4_keep : ByteArray := prog_6_method_2_code
def yX4_keep : MethodName := ⟨RX4, "keep", "(LHeadStart$Field;)V"⟩
abbrev cX4_loseOldest : ByteArray := prog_6_method_3_code
def yX4_loseOldest : MethodName := ⟨RX4, "loseOldest", "()V"⟩
abbrev cX4_bring : ByteArray := prog_6_method_4_code
def yX4_bring : MethodName := ⟨RX4, "bring", "(LHeadStart$Field;)I"⟩
abbrev cX4_drop : ByteArray := prog_6_method_5_code
def yX4_drop : MethodName := ⟨RX4, "drop", "()V"⟩
def RX5 : String := "HeadStart$Teller"
def TX5 : u_T := fun k => match k with
  | 0 => ("HeadStart$Teller", "letters", "LHeadStart$Row;", true)
  | _ => ("HeadStart$Teller", "race", "LHeadStart$Race;", true)
def tyX5 : Nat → FieldType := fun k => match k with
  | 0 => .object "HeadStart$Row"
  | _ => .object "HeadStart$Race"
abbrev wsX50 : List Cond := u_ws RX5 TX5 2
theorem nmX5 : ∀ a, a < 2 → ∀ b, b < 2 → a ≠ b → (TX5 a).2.1 ≠ (TX5 b).2.1 := by decide +kernel
theorem tyX5_ok : ∀ k, k < 2 → parseFieldDescriptor (TX5 k).2.2.1 = some (tyX5 k) := by decide +kernel
abbrev cX5_init : ByteArray := prog_7_method_1_code
def yX5_init : MethodName := ⟨RX5, "<init>", "()V"⟩
abbrev cX5_tell : ByteArray := prog_7_method_2_code
def yX5_tell : MethodName := ⟨RX5, "tell", "(LHeadStart$Field;)I"⟩
abbrev cX5_firstFault : ByteArray := prog_7_method_3_code
def yX5_firstFault : MethodName := ⟨RX5, "firstFault", "()I"⟩
abbrev cX5_behind : ByteArray := prog_7_method_4_code
def yX5_behind : MethodName := ⟨RX5, "behind", "(I)I"⟩
abbrev cX5_mostDigits : ByteArray := prog_7_method_5_code
def yX5_mostDigits : MethodName := ⟨RX5, "mostDigits", "(I)I"⟩
abbrev cX5_digit : ByteArray := prog_7_method_6_code
def yX5_digit : MethodName := ⟨RX5, "digit", "(I)I"⟩
abbrev cX5_two : ByteArray := prog_7_method_7_code
def yX5_two : MethodName := ⟨RX5, "two", "(I)I"⟩
abbrev cX5_comes : ByteArray := prog_7_method_8_code
def yX5_comes : MethodName := ⟨RX5, "comes", "(LHeadStart$Field;I)Z"⟩
abbrev cX5_wayComes : ByteArray := prog_7_method_9_code
def yX5_wayComes : MethodName := ⟨RX5, "wayComes", "(LHeadStart$Field;I)Z"⟩
abbrev cX5_runnerComes : ByteArray := prog_7_method_10_code
def yX5_runnerComes : MethodName := ⟨RX5, "runnerComes", "(LHeadStart$Field;I)Z"⟩
abbrev cX5_ruleComes : ByteArray := prog_7_method_11_code
def yX5_ruleComes : MethodName := ⟨RX5, "ruleComes", "(LHeadStart$Field;I)Z"⟩
abbrev cX5_startComes : ByteArray := prog_7_method_12_code
def yX5_startComes : MethodName := ⟨RX5, "startComes", "(LHeadStart$Field;I)Z"⟩
def RX6 : String := "HeadStart"
def TX6 : u_T := fun k => match k with
  | 0 => ("HeadStart", "now", "LHeadStart$Field;", true)
  | 1 => ("HeadStart", "mind", "LHeadStart$Field;", true)
  | 2 => ("HeadStart", "aside", "LHeadStart$Field;", true)
  | 3 => ("HeadStart", "saved", "LHeadStart$Field;", true)
  | 4 => ("HeadStart", "race", "LHeadStart$Race;", true)
  | 5 => ("HeadStart", "teller", "LHeadStart$Teller;", true)
  | 6 => ("HeadStart", "told", "LHeadStart$Row;", true)
  | 7 => ("HeadStart", "toldTimes", "LHeadStart$Row;", true)
  | 8 => ("HeadStart", "bags", "LHeadStart$Row;", true)
  | 9 => ("HeadStart", "savedBags", "LHeadStart$Row;", true)
  | 10 => ("HeadStart", "habit", "LHeadStart$Habit;", true)
  | 11 => ("HeadStart", "savedHabit", "LHeadStart$Habit;", true)
  | 12 => ("HeadStart", "runs", "LHeadStart$Runs;", true)
  | 13 => ("HeadStart", "refused", "[I", true)
  | 14 => ("HeadStart", "table", "[[I", true)
  | _ => ("HeadStart", "imaged", "Z", false)
def tyX6 : Nat → FieldType := fun k => match k with
  | 0 => .object "HeadStart$Field"
  | 1 => .object "HeadStart$Field"
  | 2 => .object "HeadStart$Field"
  | 3 => .object "HeadStart$Field"
  | 4 => .object "HeadStart$Race"
  | 5 => .object "HeadStart$Teller"
  | 6 => .object "HeadStart$Row"
  | 7 => .object "HeadStart$Row"
  | 8 => .object "HeadStart$Row"
  | 9 => .object "HeadStart$Row"
  | 10 => .object "HeadStart$Habit"
  | 11 => .object "HeadStart$Habit"
  | 12 => .object "HeadStart$Runs"
  | 13 => .array .int
  | 14 => .array (.array .int)
  | _ => .boolean
abbrev wsX60 : List Cond := u_ws RX6 TX6 16
theorem nmX6 : ∀ a, a < 16 → ∀ b, b < 16 → a ≠ b → (TX6 a).2.1 ≠ (TX6 b).2.1 := by decide +kernel
theorem tyX6_ok : ∀ k, k < 16 → parseFieldDescriptor (TX6 k).2.2.1 = some (tyX6 k) := by decide +kernel
abbrev cX6_init : ByteArray := prog_1_method_1_code
def yX6_init : MethodName := ⟨RX6, "<init>", "()V"⟩
abbrev cX6_feed : ByteArray := prog_1_method_2_code
def yX6_feed : MethodName := ⟨RX6, "feed", "(I)I"⟩
abbrev cX6_lane : ByteArray := prog_1_method_3_code
def yX6_lane : MethodName := ⟨RX6, "lane", "()I"⟩
abbrev cX6_runner : ByteArray := prog_1_method_4_code
def yX6_runner : MethodName := ⟨RX6, "runner", "(II)I"⟩
abbrev cX6_start : ByteArray := prog_1_method_5_code
def yX6_start : MethodName := ⟨RX6, "start", "(II)I"⟩
abbrev cX6_kind : ByteArray := prog_1_method_6_code
def yX6_kind : MethodName := ⟨RX6, "kind", "(III)I"⟩
abbrev cX6_set : ByteArray := prog_1_method_7_code
def yX6_set : MethodName := ⟨RX6, "set", "(II)I"⟩
abbrev cX6_run : ByteArray := prog_1_method_8_code
def yX6_run : MethodName := ⟨RX6, "run", "()I"⟩
abbrev cX6_order : ByteArray := prog_1_method_9_code
def yX6_order : MethodName := ⟨RX6, "order", "()I"⟩
abbrev cX6_likely : ByteArray := prog_1_method_10_code
def yX6_likely : MethodName := ⟨RX6, "likely", "(II)J"⟩
abbrev cX6_ordered : ByteArray := prog_1_method_11_code
def yX6_ordered : MethodName := ⟨RX6, "ordered", "(II)J"⟩
abbrev cX6_close : ByteArray := prog_1_method_12_code
def yX6_close : MethodName := ⟨RX6, "close", "(II)J"⟩
abbrev cX6_sure : ByteArray := prog_1_method_13_code
def yX6_sure : MethodName := ⟨RX6, "sure", "(I)I"⟩
abbrev cX6_even : ByteArray := prog_1_method_14_code
def yX6_even : MethodName := ⟨RX6, "even", "(II)I"⟩
abbrev cX6_starts : ByteArray := prog_1_method_15_code
def yX6_starts : MethodName := ⟨RX6, "starts", "(II)I"⟩
abbrev cX6_load : ByteArray := prog_1_method_16_code
def yX6_load : MethodName := ⟨RX6, "load", "(I)I"⟩
abbrev cX6_on : ByteArray := prog_1_method_17_code
def yX6_on : MethodName := ⟨RX6, "on", "(III)I"⟩
abbrev cX6_settles : ByteArray := prog_1_method_18_code
def yX6_settles : MethodName := ⟨RX6, "settles", "()I"⟩
abbrev cX6_best : ByteArray := prog_1_method_19_code
def yX6_best : MethodName := ⟨RX6, "best", "(I)I"⟩
abbrev cX6_pays : ByteArray := prog_1_method_20_code
def yX6_pays : MethodName := ⟨RX6, "pays", "(II)I"⟩
abbrev cX6_worth : ByteArray := prog_1_method_21_code
def yX6_worth : MethodName := ⟨RX6, "worth", "(II)I"⟩
abbrev cX6_same : ByteArray := prog_1_method_22_code
def yX6_same : MethodName := ⟨RX6, "same", "(III)I"⟩
abbrev cX6_teams : ByteArray := prog_1_method_23_code
def yX6_teams : MethodName := ⟨RX6, "teams", "(I)I"⟩
abbrev cX6_longer : ByteArray := prog_1_method_24_code
def yX6_longer : MethodName := ⟨RX6, "longer", "(I)I"⟩
abbrev cX6_fits : ByteArray := prog_1_method_25_code
def yX6_fits : MethodName := ⟨RX6, "fits", "(II)I"⟩
abbrev cX6_let : ByteArray := prog_1_method_26_code
def yX6_let : MethodName := ⟨RX6, "let", "()I"⟩
abbrev cX6_row : ByteArray := prog_1_method_27_code
def yX6_row : MethodName := ⟨RX6, "row", "(I)I"⟩
abbrev cX6_judge : ByteArray := prog_1_method_28_code
def yX6_judge : MethodName := ⟨RX6, "judge", "()I"⟩
abbrev cX6_clear : ByteArray := prog_1_method_29_code
def yX6_clear : MethodName := ⟨RX6, "clear", "()I"⟩
abbrev cX6_seeds : ByteArray := prog_1_method_30_code
def yX6_seeds : MethodName := ⟨RX6, "seeds", "(IIII)I"⟩
abbrev cX6_back : ByteArray := prog_1_method_31_code
def yX6_back : MethodName := ⟨RX6, "back", "()I"⟩
abbrev cX6_bag : ByteArray := prog_1_method_32_code
def yX6_bag : MethodName := ⟨RX6, "bag", "(I)I"⟩
abbrev cX6_empty : ByteArray := prog_1_method_33_code
def yX6_empty : MethodName := ⟨RX6, "empty", "()I"⟩
abbrev cX6_bags : ByteArray := prog_1_method_34_code
def yX6_bags : MethodName := ⟨RX6, "bags", "(III)I"⟩
abbrev cX6_ahead : ByteArray := prog_1_method_35_code
def yX6_ahead : MethodName := ⟨RX6, "ahead", "(II)I"⟩
abbrev cX6_cup : ByteArray := prog_1_method_36_code
def yX6_cup : MethodName := ⟨RX6, "cup", "(III)J"⟩
abbrev cX6_bracket : ByteArray := prog_1_method_37_code
def yX6_bracket : MethodName := ⟨RX6, "bracket", "(I)I"⟩
abbrev cX6_league : ByteArray := prog_1_method_38_code
def yX6_league : MethodName := ⟨RX6, "league", "(II)J"⟩
abbrev cX6_ranks : ByteArray := prog_1_method_39_code
def yX6_ranks : MethodName := ⟨RX6, "ranks", "()I"⟩
abbrev cX6_hold : ByteArray := prog_1_method_40_code
def yX6_hold : MethodName := ⟨RX6, "hold", "(II)I"⟩
abbrev cX6_legs : ByteArray := prog_1_method_41_code
def yX6_legs : MethodName := ⟨RX6, "legs", "(IIII)I"⟩
abbrev cX6_bet : ByteArray := prog_1_method_42_code
def yX6_bet : MethodName := ⟨RX6, "bet", "()I"⟩
abbrev cX6_bets : ByteArray := prog_1_method_43_code
def yX6_bets : MethodName := ⟨RX6, "bets", "(I)J"⟩
abbrev cX6_habit : ByteArray := prog_1_method_44_code
def yX6_habit : MethodName := ⟨RX6, "habit", "(II)I"⟩
abbrev cX6_forget : ByteArray := prog_1_method_45_code
def yX6_forget : MethodName := ⟨RX6, "forget", "()I"⟩
abbrev cX6_tried : ByteArray := prog_1_method_46_code
def yX6_tried : MethodName := ⟨RX6, "tried", "(II)I"⟩
abbrev cX6_had : ByteArray := prog_1_method_47_code
def yX6_had : MethodName := ⟨RX6, "had", "(IIII)I"⟩
abbrev cX6_time : ByteArray := prog_1_method_48_code
def yX6_time : MethodName := ⟨RX6, "time", "(I)I"⟩
abbrev cX6_past : ByteArray := prog_1_method_49_code
def yX6_past : MethodName := ⟨RX6, "past", "(II)I"⟩
abbrev cX6_wipe : ByteArray := prog_1_method_50_code
def yX6_wipe : MethodName := ⟨RX6, "wipe", "()I"⟩
abbrev cX6_image : ByteArray := prog_1_method_51_code
def yX6_image : MethodName := ⟨RX6, "image", "()I"⟩
abbrev cX6_restore : ByteArray := prog_1_method_52_code
def yX6_restore : MethodName := ⟨RX6, "restore", "()I"⟩
abbrev cX6_count : ByteArray := prog_1_method_53_code
def yX6_count : MethodName := ⟨RX6, "count", "(I)I"⟩
abbrev cX6_refuse : ByteArray := prog_1_method_54_code
def yX6_refuse : MethodName := ⟨RX6, "refuse", "(I)I"⟩
abbrev cX6_refuseHigh : ByteArray := prog_1_method_55_code
def yX6_refuseHigh : MethodName := ⟨RX6, "refuseHigh", "(I)I"⟩
abbrev cX6_refuseLong : ByteArray := prog_1_method_56_code
def yX6_refuseLong : MethodName := ⟨RX6, "refuseLong", "(I)J"⟩
abbrev cX6_noPart : ByteArray := prog_1_method_57_code
def yX6_noPart : MethodName := ⟨RX6, "noPart", "(I)Z"⟩
abbrev cX6_notTwo : ByteArray := prog_1_method_58_code
def yX6_notTwo : MethodName := ⟨RX6, "notTwo", "(II)Z"⟩
abbrev cX6_fraction : ByteArray := prog_1_method_59_code
def yX6_fraction : MethodName := ⟨RX6, "fraction", "(JJI)J"⟩
abbrev cX6_leastOf : ByteArray := prog_1_method_60_code
def yX6_leastOf : MethodName := ⟨RX6, "leastOf", "(I)I"⟩
abbrev cX6_mostOf : ByteArray := prog_1_method_61_code
def yX6_mostOf : MethodName := ⟨RX6, "mostOf", "(I)I"⟩
abbrev cX6_alone : ByteArray := prog_1_method_62_code
def yX6_alone : MethodName := ⟨RX6, "alone", "(II)I"⟩
abbrev cX6_sixteenths : ByteArray := prog_1_method_63_code
def yX6_sixteenths : MethodName := ⟨RX6, "sixteenths", "(II)I"⟩
abbrev cX6_evenest : ByteArray := prog_1_method_64_code
def yX6_evenest : MethodName := ⟨RX6, "evenest", "(II)I"⟩
abbrev cX6_putStarts : ByteArray := prog_1_method_65_code
def yX6_putStarts : MethodName := ⟨RX6, "putStarts", "(II)V"⟩
abbrev cX6_winsIn : ByteArray := prog_1_method_66_code
def yX6_winsIn : MethodName := ⟨RX6, "winsIn", "(II)I"⟩
abbrev cX6_winsAs : ByteArray := prog_1_method_67_code
def yX6_winsAs : MethodName := ⟨RX6, "winsAs", "(III)I"⟩
abbrev cX6_gaps : ByteArray := prog_1_method_68_code
def yX6_gaps : MethodName := ⟨RX6, "gaps", "(IZ)I"⟩
abbrev cX6_gained : ByteArray := prog_1_method_69_code
def yX6_gained : MethodName := ⟨RX6, "gained", "(II)I"⟩
abbrev cX6_apart : ByteArray := prog_1_method_70_code
def yX6_apart : MethodName := ⟨RX6, "apart", "(I)I"⟩
abbrev cX6_firstNotSo : ByteArray := prog_1_method_71_code
def yX6_firstNotSo : MethodName := ⟨RX6, "firstNotSo", "()I"⟩
abbrev cX6_carrying : ByteArray := prog_1_method_72_code
def yX6_carrying : MethodName := ⟨RX6, "carrying", "(III)I"⟩
abbrev cX6_cupWays : ByteArray := prog_1_method_73_code
def yX6_cupWays : MethodName := ⟨RX6, "cupWays", "(II)I"⟩
abbrev cX6_leagueWays : ByteArray := prog_1_method_74_code
def yX6_leagueWays : MethodName := ⟨RX6, "leagueWays", "(I)I"⟩
abbrev cX6_holdWorth : ByteArray := prog_1_method_75_code
def yX6_holdWorth : MethodName := ⟨RX6, "holdWorth", "(III)I"⟩
abbrev cX6_relay : ByteArray := prog_1_method_76_code
def yX6_relay : MethodName := ⟨RX6, "relay", "(III)I"⟩
abbrev cX6_betsTold : ByteArray := prog_1_method_77_code
def yX6_betsTold : MethodName := ⟨RX6, "betsTold", "()Z"⟩
abbrev cX6_bestBet : ByteArray := prog_1_method_78_code
def yX6_bestBet : MethodName := ⟨RX6, "bestBet", "()I"⟩
abbrev cX6_betWays : ByteArray := prog_1_method_79_code
def yX6_betWays : MethodName := ⟨RX6, "betWays", "(I)I"⟩
abbrev cX6_tookThese : ByteArray := prog_1_method_80_code
def yX6_tookThese : MethodName := ⟨RX6, "tookThese", "(I)Z"⟩
def RX7 : String := "HeadStartModel"
def TX7 : u_T := fun k => match k with
  | 0 => ("HeadStartModel", "refused", "[I", true)
  | 1 => ("HeadStartModel", "kind", "[I", true)
  | 2 => ("HeadStartModel", "figure", "[I", true)
  | 3 => ("HeadStartModel", "pace", "[I", true)
  | 4 => ("HeadStartModel", "spread", "[I", true)
  | 5 => ("HeadStartModel", "start", "[I", true)
  | 6 => ("HeadStartModel", "wins", "[I", true)
  | 7 => ("HeadStartModel", "bag", "[I", true)
  | 8 => ("HeadStartModel", "clauseWhom", "[I", true)
  | 9 => ("HeadStartModel", "clauseYards", "[I", true)
  | 10 => ("HeadStartModel", "way", "I", false)
  | 11 => ("HeadStartModel", "week", "I", false)
  | 12 => ("HeadStartModel", "rule", "I", false)
  | 13 => ("HeadStartModel", "yard", "I", false)
  | 14 => ("HeadStartModel", "runners", "I", false)
  | 15 => ("HeadStartModel", "bags", "I", false)
  | 16 => ("HeadStartModel", "clauses", "I", false)
  | 17 => ("HeadStartModel", "tape", "[I", true)
  | 18 => ("HeadStartModel", "letter", "[I", true)
  | 19 => ("HeadStartModel", "letterAt", "[I", true)
  | 20 => ("HeadStartModel", "told", "[I", true)
  | 21 => ("HeadStartModel", "taped", "I", false)
  | 22 => ("HeadStartModel", "at", "I", false)
  | 23 => ("HeadStartModel", "statements", "I", false)
  | 24 => ("HeadStartModel", "kept", "[I", true)
  | 25 => ("HeadStartModel", "hasImage", "Z", false)
  | 26 => ("HeadStartModel", "isKeeping", "Z", false)
  | 27 => ("HeadStartModel", "cursor", "I", false)
  | 28 => ("HeadStartModel", "takes", "[I", true)
  | 29 => ("HeadStartModel", "order", "[I", true)
  | 30 => ("HeadStartModel", "backStarts", "[I", true)
  | 31 => ("HeadStartModel", "backWins", "[I", true)
  | 32 => ("HeadStartModel", "backWeek", "[I", true)
  | 33 => ("HeadStartModel", "backs", "I", false)
  | 34 => ("HeadStartModel", "firsts", "[I", true)
  | 35 => ("HeadStartModel", "bestStarts", "I", false)
  | 36 => ("HeadStartModel", "leastUneven", "I", false)
  | 37 => ("HeadStartModel", "wonThen", "I", false)
  | 38 => ("HeadStartModel", "startThen", "I", false)
  | 39 => ("HeadStartModel", "tenths", "[I", true)
  | 40 => ("HeadStartModel", "tenthsMany", "I", false)
  | 41 => ("HeadStartModel", "row", "[I", true)
  | _ => ("HeadStartModel", "rowMany", "I", false)
def tyX7 : Nat → FieldType := fun k => match k with
  | 0 => .array .int
  | 1 => .array .int
  | 2 => .array .int
  | 3 => .array .int
  | 4 => .array .int
  | 5 => .array .int
  | 6 => .array .int
  | 7 => .array .int
  | 8 => .array .int
  | 9 => .array .int
  | 10 => .int
  | 11 => .int
  | 12 => .int
  | 13 => .int
  | 14 => .int
  | 15 => .int
  | 16 => .int
  | 17 => .array .int
  | 18 => .array .int
  | 19 => .array .int
  | 20 => .array .int
  | 21 => .int
  | 22 => .int
  | 23 => .int
  | 24 => .array .int
  | 25 => .boolean
  | 26 => .boolean
  | 27 => .int
  | 28 => .array .int
  | 29 => .array .int
  | 30 => .array .int
  | 31 => .array .int
  | 32 => .array .int
  | 33 => .int
  | 34 => .array .int
  | 35 => .int
  | 36 => .int
  | 37 => .int
  | 38 => .int
  | 39 => .array .int
  | 40 => .int
  | 41 => .array .int
  | _ => .int
abbrev wsX70 : List Cond := u_ws RX7 TX7 43
theorem nmX7 : ∀ a, a < 43 → ∀ b, b < 43 → a ≠ b → (TX7 a).2.1 ≠ (TX7 b).2.1 := by decide +kernel
theorem tyX7_ok : ∀ k, k < 43 → parseFieldDescriptor (TX7 k).2.2.1 = some (tyX7 k) := by decide +kernel
abbrev cX7_init : ByteArray := prog_9_method_1_code
def yX7_init : MethodName := ⟨RX7, "<init>", "()V"⟩
abbrev cX7_no : ByteArray := prog_9_method_2_code
def yX7_no : MethodName := ⟨RX7, "no", "(I)I"⟩
abbrev cX7_lower : ByteArray := prog_9_method_3_code
def yX7_lower : MethodName := ⟨RX7, "lower", "(I)I"⟩
abbrev cX7_lowest : ByteArray := prog_9_method_4_code
def yX7_lowest : MethodName := ⟨RX7, "lowest", "(I)J"⟩
abbrev cX7_isIn : ByteArray := prog_9_method_5_code
def yX7_isIn : MethodName := ⟨RX7, "isIn", "(III)Z"⟩
abbrev cX7_bound : ByteArray := prog_9_method_6_code
def yX7_bound : MethodName := ⟨RX7, "bound", "(III)I"⟩
abbrev cX7_atLeastOne : ByteArray := prog_9_method_7_code
def yX7_atLeastOne : MethodName := ⟨RX7, "atLeastOne", "(I)I"⟩
abbrev cX7_isRunner : ByteArray := prog_9_method_8_code
def yX7_isRunner : MethodName := ⟨RX7, "isRunner", "(I)Z"⟩
abbrev cX7_areTwo : ByteArray := prog_9_method_9_code
def yX7_areTwo : MethodName := ⟨RX7, "areTwo", "(II)Z"⟩
abbrev cX7_feed : ByteArray := prog_9_method_10_code
def yX7_feed : MethodName := ⟨RX7, "feed", "(I)I"⟩
abbrev cX7_next : ByteArray := prog_9_method_11_code
def yX7_next : MethodName := ⟨RX7, "next", "()I"⟩
abbrev cX7_readsNumber : ByteArray := prog_9_method_12_code
def yX7_readsNumber : MethodName := ⟨RX7, "readsNumber", "(III)Z"⟩
abbrev cX7_readsRunner : ByteArray := prog_9_method_13_code
def yX7_readsRunner : MethodName := ⟨RX7, "readsRunner", "(I)Z"⟩
abbrev cX7_readsAll : ByteArray := prog_9_method_14_code
def yX7_readsAll : MethodName := ⟨RX7, "readsAll", "(II)Z"⟩
abbrev cX7_statement : ByteArray := prog_9_method_15_code
def yX7_statement : MethodName := ⟨RX7, "statement", "()Z"⟩
abbrev cX7_comesRunner : ByteArray := prog_9_method_16_code
def yX7_comesRunner : MethodName := ⟨RX7, "comesRunner", "(I)Z"⟩
abbrev cX7_comes : ByteArray := prog_9_method_17_code
def yX7_comes : MethodName := ⟨RX7, "comes", "(I)Z"⟩
abbrev cX7_lane : ByteArray := prog_9_method_18_code
def yX7_lane : MethodName := ⟨RX7, "lane", "()I"⟩
abbrev cX7_passes : ByteArray := prog_9_method_19_code
def yX7_passes : MethodName := ⟨RX7, "passes", "([I)V"⟩
abbrev cX7_passOne : ByteArray := prog_9_method_20_code
def yX7_passOne : MethodName := ⟨RX7, "passOne", "(I)I"⟩
abbrev cX7_passesAll : ByteArray := prog_9_method_21_code
def yX7_passesAll : MethodName := ⟨RX7, "passesAll", "(IZ)V"⟩
abbrev cX7_image : ByteArray := prog_9_method_22_code
def yX7_image : MethodName := ⟨RX7, "image", "()I"⟩
abbrev cX7_restore : ByteArray := prog_9_method_23_code
def yX7_restore : MethodName := ⟨RX7, "restore", "()I"⟩
abbrev cX7_timeOver : ByteArray := prog_9_method_24_code
def yX7_timeOver : MethodName := ⟨RX7, "timeOver", "(III)I"⟩
abbrev cX7_timeBy : ByteArray := prog_9_method_25_code
def yX7_timeBy : MethodName := ⟨RX7, "timeBy", "(II)I"⟩
abbrev cX7_timeOf : ByteArray := prog_9_method_26_code
def yX7_timeOf : MethodName := ⟨RX7, "timeOf", "(I)I"⟩
abbrev cX7_sorts : ByteArray := prog_9_method_27_code
def yX7_sorts : MethodName := ⟨RX7, "sorts", "()V"⟩
abbrev cX7_takesTimes : ByteArray := prog_9_method_28_code
def yX7_takesTimes : MethodName := ⟨RX7, "takesTimes", "()V"⟩
abbrev cX7_partTime : ByteArray := prog_9_method_29_code
def yX7_partTime : MethodName := ⟨RX7, "partTime", "(II)I"⟩
abbrev cX7_takesParts : ByteArray := prog_9_method_30_code
def yX7_takesParts : MethodName := ⟨RX7, "takesParts", "(I)V"⟩
abbrev cX7_races : ByteArray := prog_9_method_31_code
def yX7_races : MethodName := ⟨RX7, "races", "()I"⟩
abbrev cX7_held : ByteArray := prog_9_method_32_code
def yX7_held : MethodName := ⟨RX7, "held", "(I)I"⟩
abbrev cX7_mends : ByteArray := prog_9_method_33_code
def yX7_mends : MethodName := ⟨RX7, "mends", "()V"⟩
abbrev cX7_runs : ByteArray := prog_9_method_34_code
def yX7_runs : MethodName := ⟨RX7, "runs", "()I"⟩
abbrev cX7_runner : ByteArray := prog_9_method_35_code
def yX7_runner : MethodName := ⟨RX7, "runner", "(II)I"⟩
abbrev cX7_start : ByteArray := prog_9_method_36_code
def yX7_start : MethodName := ⟨RX7, "start", "(II)I"⟩
abbrev cX7_kind : ByteArray := prog_9_method_37_code
def yX7_kind : MethodName := ⟨RX7, "kind", "(III)I"⟩
abbrev cX7_set : ByteArray := prog_9_method_38_code
def yX7_set : MethodName := ⟨RX7, "set", "(II)I"⟩
abbrev cX7_run : ByteArray := prog_9_method_39_code
def yX7_run : MethodName := ⟨RX7, "run", "()I"⟩
abbrev cX7_digits : ByteArray := prog_9_method_40_code
def yX7_digits : MethodName := ⟨RX7, "digits", "()I"⟩
abbrev cX7_keepsRun : ByteArray := prog_9_method_41_code
def yX7_keepsRun : MethodName := ⟨RX7, "keepsRun", "()V"⟩
abbrev cX7_back : ByteArray := prog_9_method_42_code
def yX7_back : MethodName := ⟨RX7, "back", "()I"⟩
abbrev cX7_order : ByteArray := prog_9_method_43_code
def yX7_order : MethodName := ⟨RX7, "order", "()I"⟩
abbrev cX7_findFirsts : ByteArray := prog_9_method_44_code
def yX7_findFirsts : MethodName := ⟨RX7, "findFirsts", "()V"⟩
abbrev cX7_uneven : ByteArray := prog_9_method_45_code
def yX7_uneven : MethodName := ⟨RX7, "uneven", "()I"⟩
abbrev cX7_divisor : ByteArray := prog_9_method_46_code
def yX7_divisor : MethodName := ⟨RX7, "divisor", "(JJ)J"⟩
abbrev cX7_partOf : ByteArray := prog_9_method_47_code
def yX7_partOf : MethodName := ⟨RX7, "partOf", "(JJI)J"⟩
abbrev cX7_likely : ByteArray := prog_9_method_48_code
def yX7_likely : MethodName := ⟨RX7, "likely", "(II)J"⟩
abbrev cX7_isOrder : ByteArray := prog_9_method_49_code
def yX7_isOrder : MethodName := ⟨RX7, "isOrder", "(I)Z"⟩
abbrev cX7_ordered : ByteArray := prog_9_method_50_code
def yX7_ordered : MethodName := ⟨RX7, "ordered", "(II)J"⟩
abbrev cX7_gap : ByteArray := prog_9_method_51_code
def yX7_gap : MethodName := ⟨RX7, "gap", "()I"⟩
abbrev cX7_close : ByteArray := prog_9_method_52_code
def yX7_close : MethodName := ⟨RX7, "close", "(II)J"⟩
abbrev cX7_sure : ByteArray := prog_9_method_53_code
def yX7_sure : MethodName := ⟨RX7, "sure", "(I)I"⟩
abbrev cX7_partBy : ByteArray := prog_9_method_54_code
def yX7_partBy : MethodName := ⟨RX7, "partBy", "(III)I"⟩
abbrev cX7_aheadBy : ByteArray := prog_9_method_55_code
def yX7_aheadBy : MethodName := ⟨RX7, "aheadBy", "(IIII)I"⟩
abbrev cX7_aheadOf : ByteArray := prog_9_method_56_code
def yX7_aheadOf : MethodName := ⟨RX7, "aheadOf", "(II)I"⟩
abbrev cX7_even : ByteArray := prog_9_method_57_code
def yX7_even : MethodName := ⟨RX7, "even", "(II)I"⟩
abbrev cX7_findStarts : ByteArray := prog_9_method_58_code
def yX7_findStarts : MethodName := ⟨RX7, "findStarts", "(I)V"⟩
abbrev cX7_starts : ByteArray := prog_9_method_59_code
def yX7_starts : MethodName := ⟨RX7, "starts", "(II)I"⟩
abbrev cX7_load : ByteArray := prog_9_method_60_code
def yX7_load : MethodName := ⟨RX7, "load", "(I)I"⟩
abbrev cX7_goesOn : ByteArray := prog_9_method_61_code
def yX7_goesOn : MethodName := ⟨RX7, "goesOn", "(II)V"⟩
abbrev cX7_on : ByteArray := prog_9_method_62_code
def yX7_on : MethodName := ⟨RX7, "on", "(III)I"⟩
abbrev cX7_startsNumber : ByteArray := prog_9_method_63_code
def yX7_startsNumber : MethodName := ⟨RX7, "startsNumber", "()I"⟩
abbrev cX7_settles : ByteArray := prog_9_method_64_code
def yX7_settles : MethodName := ⟨RX7, "settles", "()I"⟩
abbrev cX7_gapsBy : ByteArray := prog_9_method_65_code
def yX7_gapsBy : MethodName := ⟨RX7, "gapsBy", "(II)I"⟩
abbrev cX7_best : ByteArray := prog_9_method_66_code
def yX7_best : MethodName := ⟨RX7, "best", "(I)I"⟩
abbrev cX7_pays : ByteArray := prog_9_method_67_code
def yX7_pays : MethodName := ⟨RX7, "pays", "(II)I"⟩
abbrev cX7_worthOf : ByteArray := prog_9_method_68_code
def yX7_worthOf : MethodName := ⟨RX7, "worthOf", "(II)I"⟩
abbrev cX7_worth : ByteArray := prog_9_method_69_code
def yX7_worth : MethodName := ⟨RX7, "worth", "(II)I"⟩
abbrev cX7_same : ByteArray := prog_9_method_70_code
def yX7_same : MethodName := ⟨RX7, "same", "(III)I"⟩
abbrev cX7_apartBy : ByteArray := prog_9_method_71_code
def yX7_apartBy : MethodName := ⟨RX7, "apartBy", "(I)I"⟩
abbrev cX7_teams : ByteArray := prog_9_method_72_code
def yX7_teams : MethodName := ⟨RX7, "teams", "(I)I"⟩
abbrev cX7_longer : ByteArray := prog_9_method_73_code
def yX7_longer : MethodName := ⟨RX7, "longer", "(I)I"⟩
abbrev cX7_let : ByteArray := prog_9_method_74_code
def yX7_let : MethodName := ⟨RX7, "let", "()I"⟩
abbrev cX7_bag : ByteArray := prog_9_method_75_code
def yX7_bag : MethodName := ⟨RX7, "bag", "(I)I"⟩
abbrev cX7_empty : ByteArray := prog_9_method_76_code
def yX7_empty : MethodName := ⟨RX7, "empty", "()I"⟩
abbrev cX7_bagsFar : ByteArray := prog_9_method_77_code
def yX7_bagsFar : MethodName := ⟨RX7, "bagsFar", "(III)I"⟩
abbrev cX7_bags : ByteArray := prog_9_method_78_code
def yX7_bags : MethodName := ⟨RX7, "bags", "(III)I"⟩
abbrev cX7_ahead : ByteArray := prog_9_method_79_code
def yX7_ahead : MethodName := ⟨RX7, "ahead", "(II)I"⟩
abbrev cX7_partner : ByteArray := prog_9_method_80_code
def yX7_partner : MethodName := ⟨RX7, "partner", "(II)I"⟩
abbrev cX7_cupParts : ByteArray := prog_9_method_81_code
def yX7_cupParts : MethodName := ⟨RX7, "cupParts", "(II)J"⟩
abbrev cX7_cup : ByteArray := prog_9_method_82_code
def yX7_cup : MethodName := ⟨RX7, "cup", "(III)J"⟩
abbrev cX7_bracket : ByteArray := prog_9_method_83_code
def yX7_bracket : MethodName := ⟨RX7, "bracket", "(I)I"⟩
abbrev cX7_leaguePoints : ByteArray := prog_9_method_84_code
def yX7_leaguePoints : MethodName := ⟨RX7, "leaguePoints", "(I)I"⟩
abbrev cX7_league : ByteArray := prog_9_method_85_code
def yX7_league : MethodName := ⟨RX7, "league", "(II)J"⟩
abbrev cX7_ranks : ByteArray := prog_9_method_86_code
def yX7_ranks : MethodName := ⟨RX7, "ranks", "()I"⟩
abbrev cX7_worthOfPair : ByteArray := prog_9_method_87_code
def yX7_worthOfPair : MethodName := ⟨RX7, "worthOfPair", "(III)I"⟩
abbrev cX7_hold : ByteArray := prog_9_method_88_code
def yX7_hold : MethodName := ⟨RX7, "hold", "(II)I"⟩
abbrev cX7_legsBy : ByteArray := prog_9_method_89_code
def yX7_legsBy : MethodName := ⟨RX7, "legsBy", "(III)I"⟩
abbrev cX7_legs : ByteArray := prog_9_method_90_code
def yX7_legs : MethodName := ⟨RX7, "legs", "(IIII)I"⟩
abbrev cX7_areBets : ByteArray := prog_9_method_91_code
def yX7_areBets : MethodName := ⟨RX7, "areBets", "()Z"⟩
abbrev cX7_bestBet : ByteArray := prog_9_method_92_code
def yX7_bestBet : MethodName := ⟨RX7, "bestBet", "()I"⟩
abbrev cX7_bet : ByteArray := prog_9_method_93_code
def yX7_bet : MethodName := ⟨RX7, "bet", "()I"⟩
abbrev cX7_bets : ByteArray := prog_9_method_94_code
def yX7_bets : MethodName := ⟨RX7, "bets", "(I)J"⟩
abbrev cX7_habit : ByteArray := prog_9_method_95_code
def yX7_habit : MethodName := ⟨RX7, "habit", "(II)I"⟩
abbrev cX7_forget : ByteArray := prog_9_method_96_code
def yX7_forget : MethodName := ⟨RX7, "forget", "()I"⟩
abbrev cX7_isWhom : ByteArray := prog_9_method_97_code
def yX7_isWhom : MethodName := ⟨RX7, "isWhom", "(II)Z"⟩
abbrev cX7_mendsByHabit : ByteArray := prog_9_method_98_code
def yX7_mendsByHabit : MethodName := ⟨RX7, "mendsByHabit", "()V"⟩
abbrev cX7_gapsByHabit : ByteArray := prog_9_method_99_code
def yX7_gapsByHabit : MethodName := ⟨RX7, "gapsByHabit", "(I)I"⟩
abbrev cX7_tried : ByteArray := prog_9_method_100_code
def yX7_tried : MethodName := ⟨RX7, "tried", "(II)I"⟩
abbrev cX7_had : ByteArray := prog_9_method_101_code
def yX7_had : MethodName := ⟨RX7, "had", "(IIII)I"⟩
abbrev cX7_time : ByteArray := prog_9_method_102_code
def yX7_time : MethodName := ⟨RX7, "time", "(I)I"⟩
abbrev cX7_wipe : ByteArray := prog_9_method_103_code
def yX7_wipe : MethodName := ⟨RX7, "wipe", "()I"⟩
abbrev cX7_hasTimes : ByteArray := prog_9_method_104_code
def yX7_hasTimes : MethodName := ⟨RX7, "hasTimes", "(I)Z"⟩
abbrev cX7_past : ByteArray := prog_9_method_105_code
def yX7_past : MethodName := ⟨RX7, "past", "(II)I"⟩
abbrev cX7_row : ByteArray := prog_9_method_106_code
def yX7_row : MethodName := ⟨RX7, "row", "(I)I"⟩
abbrev cX7_wrongAt : ByteArray := prog_9_method_107_code
def yX7_wrongAt : MethodName := ⟨RX7, "wrongAt", "()I"⟩
abbrev cX7_fits : ByteArray := prog_9_method_108_code
def yX7_fits : MethodName := ⟨RX7, "fits", "(II)I"⟩
abbrev cX7_judge : ByteArray := prog_9_method_109_code
def yX7_judge : MethodName := ⟨RX7, "judge", "()I"⟩
abbrev cX7_clear : ByteArray := prog_9_method_110_code
def yX7_clear : MethodName := ⟨RX7, "clear", "()I"⟩
abbrev cX7_seeds : ByteArray := prog_9_method_111_code
def yX7_seeds : MethodName := ⟨RX7, "seeds", "(IIII)I"⟩
abbrev cX7_count : ByteArray := prog_9_method_112_code
def yX7_count : MethodName := ⟨RX7, "count", "(I)I"⟩
def RJ9 : String := "java/lang/Math"
def TJ9 : u_T := fun k => match k with
  | _ => ("", "", "", false)
def tyJ9 : Nat → FieldType := fun k => match k with
  | _ => .int
abbrev wsJ90 : List Cond := u_ws RJ9 TJ9 0
theorem nmJ9 : ∀ a, a < 0 → ∀ b, b < 0 → a ≠ b → (TJ9 a).2.1 ≠ (TJ9 b).2.1 := by decide +kernel
theorem tyJ9_ok : ∀ k, k < 0 → parseFieldDescriptor (TJ9 k).2.2.1 = some (tyJ9 k) := by decide +kernel
abbrev cJ9_abs_0f7a4 : ByteArray := prog_10_method_59_code
def yJ9_abs_0f7a4 : MethodName := ⟨RJ9, "abs", "(I)I"⟩
abbrev cJ9_max_7cf53 : ByteArray := prog_10_method_65_code
def yJ9_max_7cf53 : MethodName := ⟨RJ9, "max", "(II)I"⟩
abbrev cJ9_min_7cf53 : ByteArray := prog_10_method_69_code
def yJ9_min_7cf53 : MethodName := ⟨RJ9, "min", "(II)I"⟩
def RL : String := "HeadStartLaw"
abbrev cL_law : ByteArray := code
def yL_law : MethodName := ⟨RL, "law", "([I)Z"⟩
abbrev vwCl : List vw_C := [(RX0, TX0, 11), (RX1, TX1, 2), (RX2, TX2, 6), (RX3, TX3, 2), (RX4, TX4, 4), (RX5, TX5, 2), (RX6, TX6, 16), (RX7, TX7, 43)]
end
section
/-! the tables of the abstract machine: which entry of a pool is which field, method or number -/
def am_cn : Nat → String := fun k => match k with
  | 0 => RX0
  | 1 => RX1
  | 2 => RX2
  | 3 => RX3
  | 4 => RX4
  | 5 => RX5
  | 6 => RX6
  | 7 => RX7
  | _ => RL
def am_cT : Nat → u_T := fun k => match k with
  | 0 => TX0
  | 1 => TX1
  | 2 => TX2
  | 3 => TX3
  | 4 => TX4
  | 5 => TX5
  | 6 => TX6
  | _ => TX7
def am_ty : Nat → Nat → FieldType := fun k => match k with
  | 0 => tyX0
  | 1 => tyX1
  | 2 => tyX2
  | 3 => tyX3
  | 4 => tyX4
  | 5 => tyX5
  | 6 => tyX6
  | _ => tyX7
def am_nf : Nat → Nat := fun k => match k with
  | 0 => 11
  | 1 => 2
  | 2 => 6
  | 3 => 2
  | 4 => 4
  | 5 => 2
  | 6 => 16
  | _ => 43
/-- name, code, locals, answer, own class, arguments (with this), frames, locals' room, static -/
abbrev am_MD : Type := MethodName × ByteArray × Nat × Option FieldType × Nat × Nat × Nat × Nat × Bool
def am_mds_0 : List (am_MD) := [(yX0_has, cX0_has, 2, (some .boolean), 0, 2, 0, 0, false), (yX0_take, cX0_take, 3, none, 0, 2, 1, 23, false), (yX0_takeTwo, cX0_takeTwo, 4, none, 0, 4, 1, 23, false), (yX0_takeSettings, cX0_takeSettings, 2, none, 0, 2, 0, 0, false), (yX0_takeRunner, cX0_takeRunner, 4, none, 0, 4, 0, 0, false), (yX0_setting, cX0_setting, 2, (some .int), 0, 2, 0, 0, false), (yX0_become, cX0_become, 3, none, 0, 3, 0, 0, false), (yX0_tenths, cX0_tenths, 2, (some .int), 0, 2, 1, 27, false), (yX0_tenthsFrom, cX0_tenthsFrom, 3, (some .int), 0, 3, 1, 27, false), (yX0_tenthsOver, cX0_tenthsOver, 8, (some .int), 0, 4, 0, 0, false), (yX0_more, cX0_more, 4, none, 0, 3, 0, 0, false), (yX0_mend, cX0_mend, 4, none, 0, 3, 1, 23, false), (yX0_startsAs, cX0_startsAs, 3, (some .boolean), 0, 2, 0, 0, false), (yX0_sum, cX0_sum, 4, (some .int), 0, 2, 0, 0, false), (yX0_eachOnce, cX0_eachOnce, 5, (some .boolean), 0, 2, 0, 0, false), (yX1_put, cX1_put, 3, (some .int), 1, 3, 2, 41, false), (yX1_drop, cX1_drop, 1, (some .int), 1, 1, 1, 21, false), (yX1_take, cX1_take, 2, none, 1, 2, 2, 43, false), (yX1_mend, cX1_mend, 5, none, 1, 3, 1, 23, false), (yX1_means, cX1_means, 3, (some .boolean), 1, 3, 0, 0, true), (yX2_draw, cX2_draw, 3, none, 2, 2, 2, 48, false), (yX2_put, cX2_put, 4, none, 2, 4, 1, 21, false), (yX2_allWays, cX2_allWays, 1, (some .int), 2, 1, 0, 0, false), (yX2_ways, cX2_ways, 2, (some .int), 2, 2, 2, 46, false), (yX2_waysAt, cX2_waysAt, 5, (some .int), 2, 3, 1, 22, false), (yX2_quarters, cX2_quarters, 3, (some .int), 2, 3, 0, 0, false), (yX2_uneven, cX2_uneven, 5, (some .int), 2, 1, 3, 67, false), (yX2_outcomes, cX2_outcomes, 3, (some .int), 2, 1, 0, 0, false), (yX2_deal, cX2_deal, 6, (some .int), 2, 2, 1, 23, false), (yX2_waysOf, cX2_waysOf, 6, (some .int), 2, 2, 2, 48, false), (yX2_gapInAllWays, cX2_gapInAllWays, 5, (some .int), 2, 1, 2, 48, false), (yX2_drawn, cX2_drawn, 6, (some .int), 2, 3, 3, 70, false), (yX2_asRule, cX2_asRule, 3, none, 2, 2, 2, 48, false), (yX2_goOn, cX2_goOn, 3, (some .int), 2, 2, 3, 70, false), (yX2_behind, cX2_behind, 2, none, 2, 2, 2, 46, false), (yX2_line, cX2_line, 4, none, 2, 1, 0, 0, false), (yX2_first, cX2_first, 1, (some .int), 2, 1, 0, 0, false), (yX2_last, cX2_last, 1, (some .int), 2, 1, 0, 0, false), (yX2_gap, cX2_gap, 1, (some .int), 2, 1, 0, 0, false), (yX2_digits, cX2_digits, 3, (some .int), 2, 1, 0, 0, false)]
def am_mds_1 : List (am_MD) := [(yX3_full, cX3_full, 1, (some .boolean), 3, 1, 0, 0, false), (yX3_put, cX3_put, 2, (some .int), 3, 2, 1, 20, false), (yX3_at, cX3_at, 2, (some .int), 3, 2, 0, 0, false), (yX3_drop, cX3_drop, 2, (some .int), 3, 1, 0, 0, false), (yX3_take, cX3_take, 3, none, 3, 2, 1, 21, false), (yX4_keep, cX4_keep, 3, none, 4, 2, 1, 22, false), (yX4_loseOldest, cX4_loseOldest, 3, none, 4, 1, 0, 0, false), (yX4_bring, cX4_bring, 3, (some .int), 4, 2, 0, 0, false), (yX4_drop, cX4_drop, 1, none, 4, 1, 0, 0, false), (yX5_tell, cX5_tell, 6, (some .int), 5, 2, 5, 114, false), (yX5_firstFault, cX5_firstFault, 4, (some .int), 5, 1, 3, 68, false), (yX5_behind, cX5_behind, 6, (some .int), 5, 2, 2, 43, false), (yX5_mostDigits, cX5_mostDigits, 1, (some .int), 5, 1, 0, 0, true), (yX5_digit, cX5_digit, 3, (some .int), 5, 2, 1, 21, false), (yX5_two, cX5_two, 2, (some .int), 5, 2, 2, 43, false), (yX5_comes, cX5_comes, 3, (some .boolean), 5, 3, 4, 92, false), (yX5_wayComes, cX5_wayComes, 5, (some .boolean), 5, 3, 2, 43, false), (yX5_runnerComes, cX5_runnerComes, 6, (some .boolean), 5, 3, 3, 64, false), (yX5_ruleComes, cX5_ruleComes, 5, (some .boolean), 5, 3, 2, 43, false), (yX5_startComes, cX5_startComes, 4, (some .boolean), 5, 3, 3, 64, false), (yX6_feed, cX6_feed, 2, (some .int), 6, 2, 2, 41, false), (yX6_lane, cX6_lane, 2, (some .int), 6, 1, 6, 139, false), (yX6_runner, cX6_runner, 3, (some .int), 6, 3, 2, 48, false), (yX6_start, cX6_start, 4, (some .int), 6, 3, 1, 22, false), (yX6_kind, cX6_kind, 5, (some .int), 6, 4, 1, 22, false), (yX6_set, cX6_set, 4, (some .int), 6, 3, 1, 22, false), (yX6_run, cX6_run, 1, (some .int), 6, 1, 4, 92, false), (yX6_order, cX6_order, 1, (some .int), 6, 1, 3, 70, false), (yX6_likely, cX6_likely, 3, (some .long), 6, 3, 3, 70, false), (yX6_ordered, cX6_ordered, 3, (some .long), 6, 3, 3, 73, false), (yX6_close, cX6_close, 4, (some .long), 6, 3, 4, 91, false), (yX6_sure, cX6_sure, 5, (some .int), 6, 2, 3, 70, false), (yX6_even, cX6_even, 8, (some .int), 6, 3, 3, 70, false), (yX6_starts, cX6_starts, 6, (some .int), 6, 3, 5, 118, false), (yX6_load, cX6_load, 6, (some .int), 6, 2, 4, 91, false), (yX6_on, cX6_on, 5, (some .int), 6, 4, 5, 116, false), (yX6_settles, cX6_settles, 3, (some .int), 6, 1, 4, 92, false), (yX6_best, cX6_best, 6, (some .int), 6, 2, 5, 116, false), (yX6_pays, cX6_pays, 3, (some .int), 6, 3, 6, 139, false), (yX6_worth, cX6_worth, 3, (some .int), 6, 3, 3, 71, false)]
def am_mds_2 : List (am_MD) := [(yX6_same, cX6_same, 6, (some .int), 6, 4, 3, 71, false), (yX6_teams, cX6_teams, 7, (some .int), 6, 2, 2, 51, false), (yX6_longer, cX6_longer, 3, (some .int), 6, 2, 3, 70, false), (yX6_fits, cX6_fits, 6, (some .int), 6, 3, 5, 113, false), (yX6_let, cX6_let, 4, (some .int), 6, 1, 3, 70, false), (yX6_row, cX6_row, 2, (some .int), 6, 2, 2, 41, false), (yX6_judge, cX6_judge, 2, (some .int), 6, 1, 5, 113, false), (yX6_clear, cX6_clear, 1, (some .int), 6, 1, 1, 21, false), (yX6_seeds, cX6_seeds, 9, (some .int), 6, 5, 4, 95, false), (yX6_back, cX6_back, 1, (some .int), 6, 1, 1, 22, false), (yX6_bag, cX6_bag, 2, (some .int), 6, 2, 2, 41, false), (yX6_empty, cX6_empty, 1, (some .int), 6, 1, 1, 21, false), (yX6_bags, cX6_bags, 8, (some .int), 6, 4, 4, 97, false), (yX6_ahead, cX6_ahead, 3, (some .int), 6, 3, 4, 93, false), (yX6_cup, cX6_cup, 4, (some .long), 6, 4, 5, 118, false), (yX6_bracket, cX6_bracket, 6, (some .int), 6, 2, 5, 118, false), (yX6_league, cX6_league, 3, (some .long), 6, 3, 5, 116, false), (yX6_ranks, cX6_ranks, 2, (some .int), 6, 1, 5, 116, false), (yX6_hold, cX6_hold, 7, (some .int), 6, 3, 4, 97, false), (yX6_legs, cX6_legs, 7, (some .int), 6, 5, 2, 51, false), (yX6_bet, cX6_bet, 1, (some .int), 6, 1, 5, 110, false), (yX6_bets, cX6_bets, 3, (some .long), 6, 2, 5, 110, false), (yX6_habit, cX6_habit, 3, (some .int), 6, 3, 3, 63, false), (yX6_forget, cX6_forget, 1, (some .int), 6, 1, 2, 41, false), (yX6_tried, cX6_tried, 4, (some .int), 6, 3, 5, 116, false), (yX6_had, cX6_had, 8, (some .int), 6, 5, 5, 116, false), (yX6_time, cX6_time, 2, (some .int), 6, 2, 2, 41, false), (yX6_past, cX6_past, 6, (some .int), 6, 3, 3, 70, false), (yX6_wipe, cX6_wipe, 1, (some .int), 6, 1, 1, 21, false), (yX6_image, cX6_image, 1, (some .int), 6, 1, 3, 64, false), (yX6_restore, cX6_restore, 1, (some .int), 6, 1, 3, 64, false), (yX6_count, cX6_count, 2, (some .int), 6, 2, 1, 23, false), (yX6_refuse, cX6_refuse, 3, (some .int), 6, 2, 0, 0, false), (yX6_refuseHigh, cX6_refuseHigh, 2, (some .int), 6, 2, 1, 22, false), (yX6_refuseLong, cX6_refuseLong, 2, (some .long), 6, 2, 1, 22, false), (yX6_noPart, cX6_noPart, 1, (some .boolean), 6, 1, 0, 0, true), (yX6_notTwo, cX6_notTwo, 3, (some .boolean), 6, 3, 1, 21, false), (yX6_fraction, cX6_fraction, 10, (some .long), 6, 3, 0, 0, true), (yX6_leastOf, cX6_leastOf, 1, (some .int), 6, 1, 0, 0, true), (yX6_mostOf, cX6_mostOf, 1, (some .int), 6, 1, 0, 0, true)]
def am_mds_3 : List (am_MD) := [(yX6_alone, cX6_alone, 3, (some .int), 6, 3, 2, 46, false), (yX6_sixteenths, cX6_sixteenths, 4, (some .int), 6, 3, 3, 70, false), (yX6_evenest, cX6_evenest, 8, (some .int), 6, 3, 4, 91, false), (yX6_putStarts, cX6_putStarts, 6, none, 6, 3, 2, 44, false), (yX6_winsIn, cX6_winsIn, 5, (some .int), 6, 3, 4, 92, false), (yX6_winsAs, cX6_winsAs, 4, (some .int), 6, 4, 5, 116, false), (yX6_gaps, cX6_gaps, 5, (some .int), 6, 3, 4, 92, false), (yX6_gained, cX6_gained, 3, (some .int), 6, 3, 2, 49, false), (yX6_apart, cX6_apart, 5, (some .int), 6, 2, 1, 27, false), (yX6_firstNotSo, cX6_firstNotSo, 2, (some .int), 6, 1, 4, 92, false), (yX6_carrying, cX6_carrying, 8, (some .int), 6, 4, 3, 70, false), (yX6_cupWays, cX6_cupWays, 6, (some .int), 6, 3, 4, 93, false), (yX6_leagueWays, cX6_leagueWays, 4, (some .int), 6, 2, 4, 93, false), (yX6_holdWorth, cX6_holdWorth, 8, (some .int), 6, 4, 3, 70, false), (yX6_relay, cX6_relay, 5, (some .int), 6, 4, 1, 27, false), (yX6_betsTold, cX6_betsTold, 2, (some .boolean), 6, 1, 1, 21, false), (yX6_bestBet, cX6_bestBet, 3, (some .int), 6, 1, 4, 88, false), (yX6_betWays, cX6_betWays, 2, (some .int), 6, 2, 3, 67, false), (yX6_tookThese, cX6_tookThese, 3, (some .boolean), 6, 2, 2, 48, false), (yX7_no, cX7_no, 2, (some .int), 7, 2, 0, 0, false), (yX7_lower, cX7_lower, 2, (some .int), 7, 2, 0, 0, false), (yX7_lowest, cX7_lowest, 2, (some .long), 7, 2, 0, 0, false), (yX7_isIn, cX7_isIn, 3, (some .boolean), 7, 3, 0, 0, true), (yX7_bound, cX7_bound, 3, (some .int), 7, 3, 0, 0, true), (yX7_atLeastOne, cX7_atLeastOne, 1, (some .int), 7, 1, 0, 0, true), (yX7_isRunner, cX7_isRunner, 2, (some .boolean), 7, 2, 0, 0, false), (yX7_areTwo, cX7_areTwo, 3, (some .boolean), 7, 3, 1, 21, false), (yX7_feed, cX7_feed, 3, (some .int), 7, 2, 1, 22, false), (yX7_next, cX7_next, 1, (some .int), 7, 1, 0, 0, false), (yX7_readsNumber, cX7_readsNumber, 6, (some .boolean), 7, 4, 1, 22, false), (yX7_readsRunner, cX7_readsRunner, 2, (some .boolean), 7, 2, 2, 47, false), (yX7_readsAll, cX7_readsAll, 3, (some .boolean), 7, 3, 3, 68, false), (yX7_statement, cX7_statement, 2, (some .boolean), 7, 1, 4, 90, false), (yX7_comesRunner, cX7_comesRunner, 2, (some .boolean), 7, 2, 1, 22, false), (yX7_comes, cX7_comes, 3, (some .boolean), 7, 2, 6, 131, false), (yX7_lane, cX7_lane, 3, (some .int), 7, 1, 7, 153, false), (yX7_passes, cX7_passes, 3, none, 7, 2, 0, 0, false), (yX7_passOne, cX7_passOne, 3, (some .int), 7, 2, 0, 0, false), (yX7_passesAll, cX7_passesAll, 3, none, 7, 3, 1, 22, false), (yX7_image, cX7_image, 1, (some .int), 7, 1, 2, 44, false)]
def am_mds_4 : List (am_MD) := [(yX7_restore, cX7_restore, 1, (some .int), 7, 1, 2, 44, false), (yX7_timeOver, cX7_timeOver, 8, (some .int), 7, 4, 1, 20, false), (yX7_timeBy, cX7_timeBy, 3, (some .int), 7, 3, 2, 47, false), (yX7_timeOf, cX7_timeOf, 2, (some .int), 7, 2, 3, 69, false), (yX7_sorts, cX7_sorts, 3, none, 7, 1, 0, 0, false), (yX7_takesTimes, cX7_takesTimes, 2, none, 7, 1, 4, 90, false), (yX7_partTime, cX7_partTime, 3, (some .int), 7, 3, 4, 90, false), (yX7_takesParts, cX7_takesParts, 3, none, 7, 2, 5, 112, false), (yX7_races, cX7_races, 1, (some .int), 7, 1, 0, 0, false), (yX7_held, cX7_held, 1, (some .int), 7, 1, 0, 0, true), (yX7_mends, cX7_mends, 4, none, 7, 1, 1, 20, false), (yX7_runs, cX7_runs, 1, (some .int), 7, 1, 5, 111, false), (yX7_runner, cX7_runner, 3, (some .int), 7, 3, 4, 90, false), (yX7_start, cX7_start, 5, (some .int), 7, 3, 1, 22, false), (yX7_kind, cX7_kind, 6, (some .int), 7, 4, 1, 22, false), (yX7_set, cX7_set, 5, (some .int), 7, 3, 1, 22, false), (yX7_run, cX7_run, 2, (some .int), 7, 1, 6, 131, false), (yX7_digits, cX7_digits, 3, (some .int), 7, 1, 0, 0, false), (yX7_keepsRun, cX7_keepsRun, 3, none, 7, 1, 0, 0, false), (yX7_back, cX7_back, 3, (some .int), 7, 1, 1, 21, false), (yX7_order, cX7_order, 1, (some .int), 7, 1, 5, 111, false), (yX7_findFirsts, cX7_findFirsts, 2, none, 7, 1, 6, 134, false), (yX7_uneven, cX7_uneven, 4, (some .int), 7, 1, 7, 155, false), (yX7_divisor, cX7_divisor, 10, (some .long), 7, 2, 0, 0, true), (yX7_partOf, cX7_partOf, 5, (some .long), 7, 3, 1, 29, true), (yX7_likely, cX7_likely, 3, (some .long), 7, 3, 7, 155, false), (yX7_isOrder, cX7_isOrder, 6, (some .boolean), 7, 2, 1, 21, false), (yX7_ordered, cX7_ordered, 5, (some .long), 7, 3, 6, 134, false), (yX7_gap, cX7_gap, 1, (some .int), 7, 1, 0, 0, false), (yX7_close, cX7_close, 7, (some .long), 7, 3, 8, 178, false), (yX7_sure, cX7_sure, 4, (some .int), 7, 2, 7, 155, false), (yX7_partBy, cX7_partBy, 3, (some .int), 7, 3, 1, 20, true), (yX7_aheadBy, cX7_aheadBy, 9, (some .int), 7, 5, 2, 42, false), (yX7_aheadOf, cX7_aheadOf, 3, (some .int), 7, 3, 4, 90, false), (yX7_even, cX7_even, 8, (some .int), 7, 3, 5, 112, false), (yX7_findStarts, cX7_findStarts, 7, none, 7, 2, 8, 178, false), (yX7_starts, cX7_starts, 7, (some .int), 7, 3, 9, 204, false), (yX7_load, cX7_load, 6, (some .int), 7, 2, 8, 178, false), (yX7_goesOn, cX7_goesOn, 4, none, 7, 3, 6, 131, false), (yX7_on, cX7_on, 5, (some .int), 7, 4, 7, 154, false)]
def am_mds_5 : List (am_MD) := [(yX7_startsNumber, cX7_startsNumber, 3, (some .int), 7, 1, 0, 0, false), (yX7_settles, cX7_settles, 4, (some .int), 7, 1, 6, 131, false), (yX7_gapsBy, cX7_gapsBy, 5, (some .int), 7, 3, 5, 111, false), (yX7_best, cX7_best, 5, (some .int), 7, 2, 6, 135, false), (yX7_pays, cX7_pays, 6, (some .int), 7, 3, 7, 154, false), (yX7_worthOf, cX7_worthOf, 3, (some .int), 7, 3, 3, 69, false), (yX7_worth, cX7_worth, 4, (some .int), 7, 3, 4, 91, false), (yX7_same, cX7_same, 6, (some .int), 7, 4, 4, 91, false), (yX7_apartBy, cX7_apartBy, 4, (some .int), 7, 2, 2, 47, false), (yX7_teams, cX7_teams, 5, (some .int), 7, 2, 3, 70, false), (yX7_longer, cX7_longer, 4, (some .int), 7, 2, 7, 155, false), (yX7_let, cX7_let, 5, (some .int), 7, 1, 5, 111, false), (yX7_bag, cX7_bag, 3, (some .int), 7, 2, 1, 22, false), (yX7_empty, cX7_empty, 2, (some .int), 7, 1, 0, 0, false), (yX7_bagsFar, cX7_bagsFar, 7, (some .int), 7, 4, 4, 90, false), (yX7_bags, cX7_bags, 7, (some .int), 7, 4, 5, 116, false), (yX7_ahead, cX7_ahead, 3, (some .int), 7, 3, 5, 112, false), (yX7_partner, cX7_partner, 2, (some .int), 7, 2, 0, 0, true), (yX7_cupParts, cX7_cupParts, 7, (some .long), 7, 3, 5, 112, false), (yX7_cup, cX7_cup, 5, (some .long), 7, 4, 6, 138, false), (yX7_bracket, cX7_bracket, 5, (some .int), 7, 2, 6, 138, false), (yX7_leaguePoints, cX7_leaguePoints, 4, (some .int), 7, 2, 5, 112, false), (yX7_league, cX7_league, 4, (some .long), 7, 3, 6, 135, false), (yX7_ranks, cX7_ranks, 2, (some .int), 7, 1, 6, 135, false), (yX7_worthOfPair, cX7_worthOfPair, 12, (some .int), 7, 4, 5, 112, false), (yX7_hold, cX7_hold, 6, (some .int), 7, 3, 6, 143, false), (yX7_legsBy, cX7_legsBy, 4, (some .int), 7, 4, 2, 47, false), (yX7_legs, cX7_legs, 8, (some .int), 7, 5, 3, 70, false), (yX7_areBets, cX7_areBets, 2, (some .boolean), 7, 1, 1, 22, false), (yX7_bestBet, cX7_bestBet, 3, (some .int), 7, 1, 7, 155, false), (yX7_bet, cX7_bet, 1, (some .int), 7, 1, 8, 177, false), (yX7_bets, cX7_bets, 4, (some .long), 7, 2, 8, 177, false), (yX7_habit, cX7_habit, 4, (some .int), 7, 3, 1, 22, false), (yX7_forget, cX7_forget, 2, (some .int), 7, 1, 0, 0, false), (yX7_isWhom, cX7_isWhom, 5, (some .boolean), 7, 3, 0, 0, false), (yX7_mendsByHabit, cX7_mendsByHabit, 3, none, 7, 1, 1, 24, false), (yX7_gapsByHabit, cX7_gapsByHabit, 4, (some .int), 7, 2, 5, 111, false), (yX7_tried, cX7_tried, 5, (some .int), 7, 3, 6, 135, false), (yX7_had, cX7_had, 10, (some .int), 7, 5, 7, 154, false), (yX7_time, cX7_time, 3, (some .int), 7, 2, 1, 22, false)]
def am_mds_6 : List (am_MD) := [(yX7_wipe, cX7_wipe, 2, (some .int), 7, 1, 0, 0, false), (yX7_hasTimes, cX7_hasTimes, 5, (some .boolean), 7, 2, 4, 90, false), (yX7_past, cX7_past, 9, (some .int), 7, 3, 5, 114, false), (yX7_row, cX7_row, 3, (some .int), 7, 2, 1, 22, false), (yX7_wrongAt, cX7_wrongAt, 3, (some .int), 7, 1, 6, 131, false), (yX7_fits, cX7_fits, 7, (some .int), 7, 3, 7, 153, false), (yX7_judge, cX7_judge, 2, (some .int), 7, 1, 7, 153, false), (yX7_clear, cX7_clear, 2, (some .int), 7, 1, 0, 0, false), (yX7_seeds, cX7_seeds, 11, (some .int), 7, 5, 5, 112, false), (yX7_count, cX7_count, 4, (some .int), 7, 2, 1, 22, false)]
def am_mds : List (am_MD) := am_mds_0 ++ am_mds_1 ++ am_mds_2 ++ am_mds_3 ++ am_mds_4 ++ am_mds_5 ++ am_mds_6
def am_ny : Nat := 251
def am_mdl : am_MD := (yL_law, cL_law, 4, (some .boolean), 8, 1, 12, 460, true)
def am_md : Nat → am_MD := fun y => match y with
  | 0 => am_mdl
  | k + 1 => am_mds.getD k am_mdl
theorem am_ny_len : am_mds.length + 1 = am_ny := by decide +kernel
theorem am_md_in {y : Nat} (h0 : 0 < y) (hy : y < am_ny) : am_md y ∈ am_mds := by
  obtain ⟨k, rfl⟩ : ∃ k, y = k + 1 := ⟨y - 1, by omega⟩
  have hk : k < am_mds.length := by have := am_ny_len; omega
  show am_mds.getD k am_mdl ∈ am_mds
  rw [List.getD_eq_getElem?_getD, List.getElem?_eq_getElem hk]
  exact List.getElem_mem hk
def am_fl_0 : List (Nat × Nat × Nat × Nat) := [(6, 10, 6, 0), (6, 16, 6, 1), (6, 19, 6, 2), (6, 22, 6, 3), (6, 28, 6, 4), (6, 35, 6, 5), (6, 44, 6, 6), (6, 48, 6, 7), (6, 51, 6, 8), (6, 54, 6, 9), (6, 60, 6, 10), (6, 64, 6, 11), (6, 70, 6, 12), (6, 74, 6, 13), (6, 80, 6, 14), (6, 83, 6, 15), (0, 9, 0, 0), (0, 15, 0, 1), (0, 18, 0, 2), (0, 21, 0, 3), (0, 24, 0, 4), (0, 27, 0, 5), (0, 31, 0, 6), (0, 34, 0, 7), (0, 37, 0, 8), (0, 40, 0, 9), (0, 43, 0, 10), (2, 9, 2, 0), (2, 15, 2, 1), (2, 19, 2, 2), (2, 22, 2, 3), (2, 25, 2, 4), (2, 28, 2, 5), (5, 14, 5, 0), (5, 23, 5, 1), (3, 7, 3, 1), (3, 19, 3, 0), (1, 12, 1, 0), (1, 18, 1, 1), (4, 13, 4, 0)]
def am_fl_1 : List (Nat × Nat × Nat × Nat) := [(4, 16, 4, 1), (4, 19, 4, 2), (4, 23, 4, 3), (7, 7, 7, 0), (7, 13, 7, 1), (7, 16, 7, 2), (7, 19, 7, 3), (7, 22, 7, 4), (7, 25, 7, 5), (7, 28, 7, 6), (7, 31, 7, 7), (7, 34, 7, 8), (7, 37, 7, 9), (7, 40, 7, 10), (7, 44, 7, 13), (7, 47, 7, 17), (7, 50, 7, 18), (7, 53, 7, 19), (7, 56, 7, 20), (7, 59, 7, 24), (7, 62, 7, 28), (7, 65, 7, 29), (7, 68, 7, 30), (7, 71, 7, 31), (7, 74, 7, 32), (7, 77, 7, 34), (7, 80, 7, 39), (7, 83, 7, 41), (6, 91, 5, 0), (7, 100, 7, 21), (5, 31, 3, 1), (5, 64, 0, 4), (5, 67, 0, 1), (5, 74, 0, 0), (5, 80, 0, 5), (5, 84, 0, 6), (5, 87, 0, 7), (5, 90, 0, 8), (5, 93, 0, 9), (5, 96, 0, 10)]
def am_fl_2 : List (Nat × Nat × Nat × Nat) := [(5, 99, 0, 2), (5, 102, 0, 3), (2, 98, 0, 10), (2, 31, 0, 4), (2, 111, 0, 1), (7, 107, 7, 22), (7, 124, 7, 23), (7, 154, 7, 33), (7, 161, 7, 27), (7, 157, 7, 26), (7, 168, 7, 15), (7, 174, 7, 16), (7, 137, 7, 11), (7, 134, 7, 12), (7, 89, 7, 14), (6, 119, 0, 5), (6, 122, 0, 6), (6, 125, 0, 7), (6, 128, 0, 8), (6, 131, 0, 9), (6, 137, 0, 10), (6, 153, 0, 4), (6, 157, 0, 1), (4, 30, 0, 9), (4, 35, 0, 10), (4, 37, 0, 1), (2, 37, 0, 8), (6, 289, 2, 0), (7, 258, 7, 35), (7, 261, 7, 36), (7, 270, 7, 38), (7, 267, 7, 37), (6, 227, 0, 2), (1, 33, 3, 1), (1, 37, 0, 4), (6, 247, 0, 0), (6, 270, 3, 1), (7, 315, 7, 42), (6, 266, 4, 3), (6, 287, 2, 4)]
def am_fl_3 : List (Nat × Nat × Nat × Nat) := [(6, 311, 1, 0), (7, 333, 7, 40), (7, 177, 7, 25), (6, 326, 0, 3)]
def am_fl : List (Nat × Nat × Nat × Nat) := am_fl_0 ++ am_fl_1 ++ am_fl_2 ++ am_fl_3
def am_ca_0 : List (Nat × Nat × Nat) := [(8, 13, 61), (6, 87, 113), (6, 94, 41), (6, 98, 42), (3, 23, 41), (8, 17, 148), (7, 96, 144), (7, 103, 140), (8, 18, 62), (6, 101, 2), (0, 46, 4), (0, 50, 5), (6, 105, 50), (5, 27, 51), (5, 39, 52), (5, 43, 43), (5, 46, 53), (5, 49, 54), (5, 35, 56), (5, 52, 57), (5, 55, 58), (5, 77, 55), (5, 58, 59), (5, 61, 60), (5, 105, 1), (5, 70, 34), (2, 88, 33), (2, 34, 8), (0, 54, 10), (2, 66, 36), (2, 91, 37), (2, 94, 1), (2, 101, 35), (2, 104, 38), (2, 107, 12), (0, 58, 11), (6, 109, 44), (6, 113, 49), (8, 22, 156), (7, 143, 153)]
def am_ca_1 : List (Nat × Nat × Nat) := [(7, 110, 149), (7, 127, 152), (7, 118, 150), (7, 114, 143), (7, 121, 151), (7, 147, 159), (7, 164, 157), (7, 171, 158), (7, 151, 155), (7, 131, 154), (7, 92, 146), (7, 140, 172), (7, 202, 166), (7, 190, 164), (7, 186, 163), (7, 183, 162), (7, 180, 145), (7, 193, 165), (7, 205, 171), (7, 199, 170), (8, 23, 63), (6, 115, 1), (6, 134, 8), (8, 27, 173), (8, 28, 64), (8, 31, 174), (8, 32, 65), (8, 36, 175), (8, 37, 66), (6, 140, 119), (6, 143, 120), (6, 146, 6), (6, 149, 7), (8, 40, 176), (8, 41, 67), (6, 160, 46), (4, 27, 47), (6, 163, 34), (8, 44, 177), (7, 208, 179)]
def am_ca_2 : List (Nat × Nat × Nat) := [(8, 45, 68), (6, 166, 33), (6, 169, 40), (8, 48, 181), (7, 211, 178), (8, 49, 69), (6, 172, 115), (6, 176, 116), (6, 179, 21), (2, 40, 22), (6, 182, 24), (2, 50, 25), (2, 53, 26), (6, 185, 23), (6, 188, 118), (8, 53, 186), (7, 228, 142), (7, 221, 182), (7, 214, 169), (7, 217, 168), (7, 196, 167), (7, 232, 185), (7, 224, 184), (8, 54, 70), (6, 192, 15), (6, 195, 30), (2, 69, 28), (2, 72, 29), (2, 75, 40), (8, 57, 188), (7, 236, 187), (8, 58, 71), (6, 198, 31), (2, 78, 39), (6, 201, 27), (2, 56, 23), (2, 60, 24), (8, 61, 190), (7, 239, 183), (7, 242, 189)]
def am_ca_3 : List (Nat × Nat × Nat) := [(8, 62, 72), (8, 65, 191), (8, 66, 73), (6, 204, 117), (6, 208, 121), (6, 341, 3), (8, 69, 195), (7, 252, 147), (7, 255, 194), (7, 248, 193), (7, 245, 192), (8, 70, 74), (6, 217, 123), (6, 345, 9), (6, 348, 124), (6, 351, 22), (8, 73, 197), (7, 264, 196), (8, 74, 75), (8, 77, 198), (8, 78, 76), (6, 220, 125), (8, 81, 200), (7, 273, 199), (8, 82, 77), (6, 223, 13), (8, 85, 202), (7, 277, 201), (8, 86, 78), (6, 230, 127), (6, 260, 39), (6, 354, 19), (1, 40, 43), (1, 43, 37), (1, 48, 38), (1, 51, 20), (1, 55, 11), (8, 89, 204), (7, 280, 203), (8, 90, 79)]
def am_ca_4 : List (Nat × Nat × Nat) := [(6, 234, 114), (6, 237, 126), (8, 93, 205), (7, 283, 141), (8, 94, 80), (6, 241, 128), (8, 97, 207), (7, 286, 206), (8, 98, 81), (8, 101, 208), (8, 102, 82), (6, 244, 129), (6, 358, 10), (8, 105, 210), (7, 289, 209), (8, 106, 83), (8, 109, 211), (8, 110, 84), (6, 250, 130), (6, 361, 43), (8, 113, 246), (7, 339, 245), (8, 114, 85), (6, 253, 37), (8, 117, 212), (8, 118, 86), (8, 121, 244), (8, 122, 87), (8, 125, 247), (8, 126, 88), (8, 129, 248), (8, 130, 89), (6, 256, 32), (2, 81, 21), (6, 263, 35), (8, 134, 249), (8, 135, 90), (6, 267, 48), (8, 138, 180), (8, 139, 91)]
def am_ca_5 : List (Nat × Nat × Nat) := [(8, 142, 213), (8, 143, 92), (8, 146, 214), (8, 147, 93), (6, 271, 131), (8, 150, 216), (7, 292, 215), (8, 151, 94), (6, 274, 122), (8, 154, 217), (8, 155, 95), (6, 277, 132), (8, 159, 220), (7, 298, 219), (7, 295, 218), (8, 160, 96), (8, 163, 221), (8, 164, 97), (6, 282, 133), (8, 167, 223), (7, 304, 222), (8, 168, 98), (6, 290, 36), (8, 171, 224), (8, 172, 99), (6, 293, 134), (8, 175, 226), (7, 309, 225), (8, 176, 100), (6, 296, 135), (8, 179, 228), (7, 312, 227), (8, 180, 101), (6, 302, 136), (6, 305, 137), (6, 308, 138), (8, 183, 231), (7, 318, 229), (7, 321, 230), (8, 184, 102)]
def am_ca_6 : List (Nat × Nat × Nat) := [(8, 188, 232), (8, 189, 103), (6, 314, 16), (1, 21, 42), (8, 192, 233), (8, 193, 104), (6, 316, 17), (1, 25, 44), (8, 196, 234), (8, 197, 105), (8, 200, 238), (7, 330, 237), (7, 327, 236), (7, 324, 235), (8, 201, 106), (8, 204, 239), (8, 205, 107), (8, 208, 240), (8, 209, 108), (6, 317, 139), (8, 212, 243), (7, 336, 242), (8, 213, 109), (8, 216, 241), (8, 217, 110), (6, 320, 45), (3, 30, 43), (6, 323, 18), (1, 29, 45), (8, 220, 160), (8, 221, 111), (8, 224, 161), (8, 225, 112), (6, 329, 14), (8, 228, 250)]
def am_ca : List (Nat × Nat × Nat) := am_ca_0 ++ am_ca_1 ++ am_ca_2 ++ am_ca_3 ++ am_ca_4 ++ am_ca_5 ++ am_ca_6
def am_ma : List (Nat × Nat × Nat) := [(3, 13, 0), (2, 44, 0), (2, 63, 1), (6, 212, 2), (6, 299, 1), (6, 338, 0), (3, 27, 1)]
def am_co : List (Nat × Nat × Int) := [(6, 333, 1000000000), (7, 86, 1000000000), (2, 85, 1103515245), (2, 86, 2147483647), (2, 87, 65536), (7, 342, 1103515245), (7, 343, 2147483647), (7, 344, 65536)]
def am_cl : List (Nat × Nat × Int) := [(6, 334, 4000000000000000000), (6, 336, 2), (7, 87, 4000000000000000000), (6, 280, 4096), (7, 302, 4096), (6, 285, 16), (7, 307, 16)]
def am_chunks : List (List Cond) := [tables_1_1, tables_1_2, tables_1_3, tables_1_4, tables_1_5, tables_1_6, k2_sels lw_privs_1, k2_sels lw_privs_2, k2_sels lw_privs_3, k2_sels lw_privs_4, k2_sels lw_privs_5]
def am_all : List Cond := am_chunks.flatten
def am_big : List Cond := am_all.filter goodWord
def am_flw (f : Nat × Nat × Nat × Nat) : Cond := .fieldLink (am_cn f.1) f.2.1 (am_cT f.2.2.1 f.2.2.2).1 (am_cT f.2.2.1 f.2.2.2).2.1 (am_cT f.2.2.1 f.2.2.2).2.2.1
def am_caw (f : Nat × Nat × Nat) : Cond := .methodLink (am_cn f.1) f.2.1 (am_md f.2.2).1
def am_man (k : Nat) : MethodName := match k with
  | 0 => Lib.Math.max.name
  | 1 => Lib.Math.min.name
  | _ => Lib.Math.abs.name
def am_maw (f : Nat × Nat × Nat) : Cond := .methodLink (am_cn f.1) f.2.1 (am_man f.2.2)
def am_cow (f : Nat × Nat × Int) : Cond := .constant (am_cn f.1) f.2.1 (Int32.ofInt f.2.2)
def am_clw (f : Nat × Nat × Int) : Cond := .constantLong (am_cn f.1) f.2.1 (Int64.ofInt f.2.2)
def am_cdw (q : am_MD) : Cond := .code q.1 q.2.1 q.2.2.1 q.2.2.2.1
def am_inw (q : am_MD) : Cond := if q.2.2.2.2.2.2.2.2 = true then .static q.1 else .instanceMethod q.1
def am_sew (q : am_MD) : Cond := .selects q.1.cls q.1 q.1
theorem am_big_of {ws : List Cond} {ps : List (Nat × Nat)} (h : ws = ps.filterMap (fun p => (am_chunks[p.1]?).bind (fun c => c[p.2]?))) (hg : ws.all goodWord = true) : ∀ w ∈ ws, w ∈ am_big := by
  intro w hw
  refine List.mem_filter.mpr ⟨?_, List.all_eq_true.mp hg w hw⟩
  rw [h] at hw
  obtain ⟨p, -, hp⟩ := List.mem_filterMap.mp hw
  obtain ⟨c, hc, hcw⟩ := Option.bind_eq_some_iff.mp hp
  exact List.mem_flatten.mpr ⟨c, List.mem_of_getElem? hc, List.mem_of_getElem? hcw⟩
set_option maxRecDepth 20000 in
theorem am_fl_in_0 : ∀ w ∈ am_fl_0.map am_flw, w ∈ am_big := am_big_of (ps := [(0, 192), (0, 193), (0, 194), (0, 195), (0, 196), (0, 197), (0, 198), (0, 199), (0, 200), (0, 201), (0, 202), (0, 203), (0, 204), (0, 205), (0, 206), (0, 207), (0, 24), (0, 27), (0, 32), (0, 35), (0, 38), (0, 43), (0, 46), (0, 49), (0, 52), (0, 56), (0, 60), (0, 95), (0, 97), (0, 98), (0, 99), (0, 100), (0, 102), (0, 143), (0, 145), (0, 132), (0, 131), (0, 161), (0, 163), (0, 177)]) rfl rfl
set_option maxRecDepth 20000 in
theorem am_fl_in_1 : ∀ w ∈ am_fl_1.map am_flw, w ∈ am_big := am_big_of (ps := [(0, 178), (0, 179), (0, 180), (3, 120), (3, 121), (3, 122), (3, 123), (3, 124), (3, 125), (3, 126), (3, 127), (3, 128), (3, 129), (3, 130), (3, 133), (3, 137), (3, 138), (3, 139), (3, 140), (3, 144), (3, 148), (3, 149), (3, 150), (3, 151), (3, 152), (3, 154), (3, 159), (3, 161), (0, 144), (3, 141), (0, 133), (0, 42), (0, 30), (0, 25), (0, 45), (0, 48), (0, 51), (0, 55), (0, 59), (0, 63)]) rfl rfl
set_option maxRecDepth 20000 in
theorem am_fl_in_2 : ∀ w ∈ am_fl_2.map am_flw, w ∈ am_big := am_big_of (ps := [(0, 33), (0, 36), (0, 64), (0, 39), (0, 31), (3, 142), (3, 143), (3, 153), (3, 147), (3, 146), (3, 135), (3, 136), (3, 131), (3, 132), (3, 134), (0, 44), (0, 47), (0, 50), (0, 54), (0, 58), (0, 62), (0, 41), (0, 29), (0, 57), (0, 61), (0, 28), (0, 53), (0, 96), (3, 155), (3, 156), (3, 158), (3, 157), (0, 34), (0, 134), (0, 40), (0, 26), (0, 135), (3, 162), (0, 181), (0, 101)]) rfl rfl
set_option maxRecDepth 20000 in
theorem am_fl_in_3 : ∀ w ∈ am_fl_3.map am_flw, w ∈ am_big := am_big_of (ps := [(0, 162), (3, 160), (3, 145), (0, 37)]) rfl rfl
theorem am_fl_in : ∀ f ∈ am_fl, am_flw f ∈ am_big := by
  intro f hf
  simp only [am_fl, List.mem_append] at hf
  rcases hf with (((hf | hf) | hf) | hf)
  · exact am_fl_in_0 _ (List.mem_map.mpr ⟨f, hf, rfl⟩)
  · exact am_fl_in_1 _ (List.mem_map.mpr ⟨f, hf, rfl⟩)
  · exact am_fl_in_2 _ (List.mem_map.mpr ⟨f, hf, rfl⟩)
  · exact am_fl_in_3 _ (List.mem_map.mpr ⟨f, hf, rfl⟩)
set_option maxRecDepth 20000 in
theorem am_ca_in_0 : ∀ w ∈ am_ca_0.map am_caw, w ∈ am_big := am_big_of (ps := [(1, 1), (1, 5), (1, 9), (1, 13), (1, 17), (4, 10), (4, 14), (4, 17), (1, 18), (1, 22), (1, 26), (1, 30), (1, 34), (1, 38), (1, 42), (1, 46), (1, 50), (1, 53), (1, 57), (1, 61), (1, 65), (1, 69), (1, 73), (1, 77), (1, 81), (1, 85), (1, 89), (1, 93), (1, 97), (1, 101), (1, 105), (1, 109), (1, 110), (1, 114), (1, 118), (1, 122), (1, 126), (1, 130), (4, 21), (4, 25)]) rfl rfl
set_option maxRecDepth 20000 in
theorem am_ca_in_1 : ∀ w ∈ am_ca_1.map am_caw, w ∈ am_big := am_big_of (ps := [(4, 29), (4, 33), (4, 37), (4, 41), (4, 44), (4, 48), (4, 52), (4, 56), (4, 60), (4, 64), (4, 68), (4, 72), (4, 76), (4, 80), (4, 84), (4, 88), (4, 92), (4, 95), (4, 99), (4, 103), (1, 134), (1, 138), (1, 139), (4, 114), (1, 140), (4, 118), (1, 144), (4, 122), (1, 148), (1, 152), (1, 155), (1, 158), (1, 162), (4, 126), (1, 166), (1, 170), (1, 174), (1, 178), (4, 130), (4, 134)]) rfl rfl
set_option maxRecDepth 20000 in
theorem am_ca_in_2 : ∀ w ∈ am_ca_2.map am_caw, w ∈ am_big := am_big_of (ps := [(1, 179), (1, 183), (1, 184), (4, 142), (4, 146), (1, 188), (1, 192), (1, 197), (1, 200), (1, 204), (1, 209), (1, 213), (1, 217), (1, 221), (1, 225), (4, 150), (4, 154), (4, 159), (4, 163), (4, 167), (4, 171), (4, 175), (4, 178), (1, 229), (1, 233), (1, 237), (2, 1), (2, 5), (2, 9), (4, 181), (4, 185), (2, 10), (2, 14), (2, 18), (2, 22), (2, 26), (2, 27), (4, 189), (4, 193), (4, 197)]) rfl rfl
set_option maxRecDepth 20000 in
theorem am_ca_in_3 : ∀ w ∈ am_ca_3.map am_caw, w ∈ am_big := am_big_of (ps := [(2, 31), (4, 201), (2, 35), (2, 39), (2, 43), (2, 49), (4, 205), (4, 209), (4, 213), (4, 217), (4, 221), (2, 56), (2, 60), (2, 64), (2, 68), (2, 72), (4, 224), (4, 228), (2, 73), (4, 232), (2, 77), (2, 81), (4, 236), (5, 0), (2, 85), (2, 89), (5, 4), (5, 8), (2, 93), (2, 97), (2, 101), (2, 102), (2, 106), (2, 107), (2, 108), (2, 109), (2, 112), (5, 12), (5, 16), (2, 113)]) rfl rfl
set_option maxRecDepth 20000 in
theorem am_ca_in_4 : ∀ w ∈ am_ca_4.map am_caw, w ∈ am_big := am_big_of (ps := [(2, 117), (2, 122), (5, 20), (5, 24), (2, 126), (2, 130), (5, 29), (5, 33), (2, 134), (5, 37), (2, 138), (2, 142), (2, 146), (5, 41), (5, 45), (2, 147), (5, 49), (2, 151), (2, 155), (2, 159), (5, 186), (5, 190), (2, 160), (2, 164), (5, 53), (2, 165), (5, 182), (2, 169), (5, 194), (2, 173), (5, 198), (2, 177), (2, 181), (2, 185), (2, 189), (5, 202), (2, 190), (2, 194), (4, 138), (2, 198)]) rfl rfl
set_option maxRecDepth 20000 in
theorem am_ca_in_5 : ∀ w ∈ am_ca_5.map am_caw, w ∈ am_big := am_big_of (ps := [(5, 57), (2, 202), (5, 61), (2, 206), (2, 210), (5, 65), (5, 69), (2, 214), (2, 218), (5, 73), (2, 222), (2, 226), (5, 77), (5, 81), (5, 85), (2, 231), (5, 89), (2, 235), (2, 239), (5, 93), (5, 97), (3, 4), (3, 8), (5, 102), (3, 9), (3, 13), (5, 106), (5, 110), (3, 17), (3, 21), (5, 114), (5, 118), (3, 25), (3, 29), (3, 33), (3, 37), (5, 122), (5, 126), (5, 130), (3, 41)]) rfl rfl
set_option maxRecDepth 20000 in
theorem am_ca_in_6 : ∀ w ∈ am_ca_6.map am_caw, w ∈ am_big := am_big_of (ps := [(5, 134), (3, 45), (3, 49), (3, 53), (5, 138), (3, 54), (3, 58), (3, 62), (5, 142), (3, 63), (5, 146), (5, 150), (5, 154), (5, 158), (3, 67), (5, 162), (3, 71), (5, 166), (3, 75), (3, 79), (5, 174), (5, 178), (3, 83), (5, 170), (3, 87), (3, 91), (3, 96), (3, 97), (3, 101), (4, 106), (3, 102), (4, 110), (3, 106), (3, 110), (5, 209)]) rfl rfl
theorem am_ca_in : ∀ f ∈ am_ca, am_caw f ∈ am_big := by
  intro f hf
  simp only [am_ca, List.mem_append] at hf
  rcases hf with ((((((hf | hf) | hf) | hf) | hf) | hf) | hf)
  · exact am_ca_in_0 _ (List.mem_map.mpr ⟨f, hf, rfl⟩)
  · exact am_ca_in_1 _ (List.mem_map.mpr ⟨f, hf, rfl⟩)
  · exact am_ca_in_2 _ (List.mem_map.mpr ⟨f, hf, rfl⟩)
  · exact am_ca_in_3 _ (List.mem_map.mpr ⟨f, hf, rfl⟩)
  · exact am_ca_in_4 _ (List.mem_map.mpr ⟨f, hf, rfl⟩)
  · exact am_ca_in_5 _ (List.mem_map.mpr ⟨f, hf, rfl⟩)
  · exact am_ca_in_6 _ (List.mem_map.mpr ⟨f, hf, rfl⟩)
set_option maxRecDepth 20000 in
theorem am_ma_in_0 : ∀ w ∈ am_ma.map am_maw, w ∈ am_big := am_big_of (ps := [(0, 128), (1, 208), (2, 28), (2, 53), (2, 47), (2, 48), (3, 95)]) rfl rfl
theorem am_ma_in : ∀ f ∈ am_ma, am_maw f ∈ am_big := fun f hf => am_ma_in_0 _ (List.mem_map.mpr ⟨f, hf, rfl⟩)
set_option maxRecDepth 20000 in
theorem am_co_in_0 : ∀ w ∈ am_co.map am_cow, w ∈ am_big := am_big_of (ps := [(2, 121), (5, 28), (2, 186), (2, 187), (2, 188), (5, 206), (5, 207), (5, 208)]) rfl rfl
theorem am_co_in : ∀ f ∈ am_co, am_cow f ∈ am_big := fun f hf => am_co_in_0 _ (List.mem_map.mpr ⟨f, hf, rfl⟩)
set_option maxRecDepth 20000 in
theorem am_cl_in_0 : ∀ w ∈ am_cl.map am_clw, w ∈ am_big := am_big_of (ps := [(1, 196), (1, 228), (4, 158), (2, 230), (5, 88), (3, 3), (5, 101)]) rfl rfl
theorem am_cl_in : ∀ f ∈ am_cl, am_clw f ∈ am_big := fun f hf => am_cl_in_0 _ (List.mem_map.mpr ⟨f, hf, rfl⟩)
def am_virt (q : am_MD) : Bool := !q.2.2.2.2.2.2.2.2
set_option maxRecDepth 20000 in
theorem am_cd_in_0 : ∀ w ∈ am_mds_0.map am_cdw, w ∈ am_big := am_big_of (ps := [(1, 84), (1, 25), (2, 52), (1, 29), (1, 33), (1, 161), (1, 165), (1, 96), (2, 67), (1, 100), (1, 125), (1, 121), (2, 92), (3, 113), (1, 236), (3, 52), (3, 61), (3, 100), (2, 105), (2, 111), (1, 203), (1, 207), (1, 224), (1, 212), (1, 216), (1, 220), (2, 25), (2, 4), (2, 8), (2, 0), (2, 17), (2, 184), (1, 92), (1, 88), (1, 113), (1, 104), (1, 108), (1, 117), (2, 21), (1, 187)]) rfl rfl
set_option maxRecDepth 20000 in
theorem am_cd_in_1 : ∀ w ∈ am_mds_1.map am_cdw, w ∈ am_big := am_big_of (ps := [(1, 12), (1, 16), (1, 49), (1, 129), (3, 94), (1, 173), (1, 177), (2, 197), (1, 133), (1, 37), (1, 41), (1, 45), (1, 52), (1, 56), (1, 72), (1, 60), (1, 64), (1, 68), (1, 76), (1, 80), (1, 4), (1, 21), (1, 137), (1, 143), (1, 147), (1, 151), (1, 169), (1, 182), (1, 191), (1, 232), (2, 13), (2, 34), (2, 38), (2, 59), (2, 76), (2, 80), (2, 88), (2, 96), (2, 116), (2, 129)]) rfl rfl
set_option maxRecDepth 20000 in
theorem am_cd_in_2 : ∀ w ∈ am_mds_2.map am_cdw, w ∈ am_big := am_big_of (ps := [(2, 137), (2, 141), (2, 150), (2, 154), (2, 163), (2, 168), (2, 172), (2, 176), (2, 180), (2, 193), (2, 201), (2, 205), (2, 209), (2, 217), (2, 225), (2, 234), (2, 238), (3, 7), (3, 12), (3, 20), (3, 28), (3, 44), (3, 48), (3, 57), (3, 66), (3, 70), (3, 74), (3, 78), (3, 86), (3, 90), (3, 105), (3, 109), (1, 8), (2, 120), (1, 195), (1, 199), (2, 42), (1, 227), (1, 154), (1, 157)]) rfl rfl
set_option maxRecDepth 20000 in
theorem am_cd_in_3 : ∀ w ∈ am_mds_3.map am_cdw, w ∈ am_big := am_big_of (ps := [(2, 46), (2, 221), (2, 63), (2, 71), (2, 84), (2, 125), (2, 100), (2, 133), (2, 145), (2, 158), (2, 213), (2, 229), (3, 2), (3, 16), (3, 24), (3, 32), (3, 36), (3, 40), (3, 82), (4, 20), (5, 27), (4, 157), (4, 43), (4, 16), (4, 94), (4, 71), (4, 212), (4, 13), (4, 32), (4, 40), (4, 47), (4, 36), (4, 28), (4, 67), (4, 63), (4, 24), (4, 55), (4, 59), (4, 51), (4, 109)]) rfl rfl
set_option maxRecDepth 20000 in
theorem am_cd_in_4 : ∀ w ∈ am_mds_4.map am_cdw, w ∈ am_big := am_big_of (ps := [(4, 113), (4, 91), (4, 87), (4, 83), (4, 98), (4, 79), (4, 174), (4, 170), (4, 166), (4, 105), (4, 102), (4, 75), (4, 117), (4, 121), (4, 125), (4, 129), (4, 133), (4, 149), (4, 137), (4, 141), (4, 145), (4, 162), (4, 196), (4, 180), (4, 177), (4, 153), (4, 188), (4, 184), (4, 200), (4, 192), (4, 204), (4, 223), (4, 220), (4, 216), (4, 208), (4, 231), (4, 227), (4, 235), (5, 3), (4, 239)]) rfl rfl
set_option maxRecDepth 20000 in
theorem am_cd_in_5 : ∀ w ∈ am_mds_5.map am_cdw, w ∈ am_big := am_big_of (ps := [(5, 11), (5, 7), (5, 19), (5, 15), (5, 23), (5, 36), (5, 32), (5, 40), (5, 48), (5, 44), (5, 52), (5, 56), (5, 60), (5, 64), (5, 72), (5, 68), (5, 76), (5, 87), (5, 84), (5, 80), (5, 92), (5, 100), (5, 96), (5, 105), (5, 113), (5, 109), (5, 121), (5, 117), (5, 129), (5, 133), (5, 125), (5, 137), (5, 141), (5, 145), (5, 161), (5, 157), (5, 153), (5, 149), (5, 165), (5, 169)]) rfl rfl
set_option maxRecDepth 20000 in
theorem am_cd_in_6 : ∀ w ∈ am_mds_6.map am_cdw, w ∈ am_big := am_big_of (ps := [(5, 173), (5, 181), (5, 177), (5, 185), (5, 193), (5, 189), (5, 197), (5, 201), (5, 205), (5, 212)]) rfl rfl
theorem am_cd_in : ∀ f ∈ am_mds, am_cdw f ∈ am_big := by
  intro f hf
  simp only [am_mds, List.mem_append] at hf
  rcases hf with ((((((hf | hf) | hf) | hf) | hf) | hf) | hf)
  · exact am_cd_in_0 _ (List.mem_map.mpr ⟨f, hf, rfl⟩)
  · exact am_cd_in_1 _ (List.mem_map.mpr ⟨f, hf, rfl⟩)
  · exact am_cd_in_2 _ (List.mem_map.mpr ⟨f, hf, rfl⟩)
  · exact am_cd_in_3 _ (List.mem_map.mpr ⟨f, hf, rfl⟩)
  · exact am_cd_in_4 _ (List.mem_map.mpr ⟨f, hf, rfl⟩)
  · exact am_cd_in_5 _ (List.mem_map.mpr ⟨f, hf, rfl⟩)
  · exact am_cd_in_6 _ (List.mem_map.mpr ⟨f, hf, rfl⟩)
set_option maxRecDepth 20000 in
theorem am_inm_in_0 : ∀ w ∈ am_mds_0.map am_inw, w ∈ am_big := am_big_of (ps := [(1, 82), (1, 23), (2, 50), (1, 27), (1, 31), (1, 159), (1, 163), (1, 94), (2, 65), (1, 98), (1, 123), (1, 119), (2, 90), (3, 111), (1, 234), (3, 50), (3, 59), (3, 98), (2, 103), (2, 110), (1, 201), (1, 205), (1, 222), (1, 210), (1, 214), (1, 218), (2, 23), (2, 2), (2, 6), (1, 238), (2, 15), (2, 182), (1, 90), (1, 86), (1, 111), (1, 102), (1, 106), (1, 115), (2, 19), (1, 185)]) rfl rfl
set_option maxRecDepth 20000 in
theorem am_inm_in_1 : ∀ w ∈ am_mds_1.map am_inw, w ∈ am_big := am_big_of (ps := [(1, 10), (1, 14), (1, 47), (1, 127), (3, 92), (1, 171), (1, 175), (2, 195), (1, 131), (1, 35), (1, 39), (1, 43), (1, 51), (1, 54), (1, 70), (1, 58), (1, 62), (1, 66), (1, 74), (1, 78), (1, 2), (1, 19), (1, 135), (1, 141), (1, 145), (1, 149), (1, 167), (1, 180), (1, 189), (1, 230), (2, 11), (2, 32), (2, 36), (2, 57), (2, 74), (2, 78), (2, 86), (2, 94), (2, 114), (2, 127)]) rfl rfl
set_option maxRecDepth 20000 in
theorem am_inm_in_2 : ∀ w ∈ am_mds_2.map am_inw, w ∈ am_big := am_big_of (ps := [(2, 135), (2, 139), (2, 148), (2, 152), (2, 161), (2, 166), (2, 170), (2, 174), (2, 178), (2, 191), (2, 199), (2, 203), (2, 207), (2, 215), (2, 223), (2, 232), (2, 236), (3, 5), (3, 10), (3, 18), (3, 26), (3, 42), (3, 46), (3, 55), (3, 64), (3, 68), (3, 72), (3, 76), (3, 84), (3, 88), (3, 103), (3, 107), (1, 7), (2, 119), (1, 194), (1, 198), (2, 41), (1, 226), (1, 153), (1, 156)]) rfl rfl
set_option maxRecDepth 20000 in
theorem am_inm_in_3 : ∀ w ∈ am_mds_3.map am_inw, w ∈ am_big := am_big_of (ps := [(2, 45), (2, 220), (2, 62), (2, 70), (2, 83), (2, 124), (2, 99), (2, 132), (2, 144), (2, 157), (2, 212), (2, 228), (3, 1), (3, 15), (3, 23), (3, 31), (3, 35), (3, 39), (3, 81), (4, 19), (5, 26), (4, 156), (4, 42), (4, 15), (4, 93), (4, 70), (4, 211), (4, 11), (4, 31), (4, 39), (4, 46), (4, 35), (4, 27), (4, 66), (4, 62), (4, 22), (4, 54), (4, 58), (4, 50), (4, 107)]) rfl rfl
set_option maxRecDepth 20000 in
theorem am_inm_in_4 : ∀ w ∈ am_mds_4.map am_inw, w ∈ am_big := am_big_of (ps := [(4, 111), (4, 90), (4, 86), (4, 82), (4, 97), (4, 78), (4, 173), (4, 169), (4, 165), (4, 104), (4, 101), (4, 74), (4, 115), (4, 119), (4, 123), (4, 127), (4, 131), (4, 148), (4, 136), (4, 139), (4, 143), (4, 161), (4, 195), (4, 179), (4, 176), (4, 151), (4, 187), (4, 182), (4, 199), (4, 190), (4, 202), (4, 222), (4, 219), (4, 215), (4, 206), (4, 230), (4, 225), (4, 233), (5, 2), (4, 237)]) rfl rfl
set_option maxRecDepth 20000 in
theorem am_inm_in_5 : ∀ w ∈ am_mds_5.map am_inw, w ∈ am_big := am_big_of (ps := [(5, 10), (5, 5), (5, 18), (5, 13), (5, 21), (5, 35), (5, 30), (5, 38), (5, 47), (5, 42), (5, 50), (5, 54), (5, 58), (5, 62), (5, 71), (5, 66), (5, 74), (5, 86), (5, 83), (5, 78), (5, 90), (5, 99), (5, 94), (5, 103), (5, 112), (5, 107), (5, 120), (5, 115), (5, 128), (5, 132), (5, 123), (5, 135), (5, 139), (5, 143), (5, 160), (5, 156), (5, 152), (5, 147), (5, 163), (5, 167)]) rfl rfl
set_option maxRecDepth 20000 in
theorem am_inm_in_6 : ∀ w ∈ am_mds_6.map am_inw, w ∈ am_big := am_big_of (ps := [(5, 171), (5, 180), (5, 175), (5, 183), (5, 192), (5, 187), (5, 195), (5, 199), (5, 203), (5, 210)]) rfl rfl
theorem am_inm_in : ∀ f ∈ am_mds, am_inw f ∈ am_big := by
  intro f hf
  simp only [am_mds, List.mem_append] at hf
  rcases hf with ((((((hf | hf) | hf) | hf) | hf) | hf) | hf)
  · exact am_inm_in_0 _ (List.mem_map.mpr ⟨f, hf, rfl⟩)
  · exact am_inm_in_1 _ (List.mem_map.mpr ⟨f, hf, rfl⟩)
  · exact am_inm_in_2 _ (List.mem_map.mpr ⟨f, hf, rfl⟩)
  · exact am_inm_in_3 _ (List.mem_map.mpr ⟨f, hf, rfl⟩)
  · exact am_inm_in_4 _ (List.mem_map.mpr ⟨f, hf, rfl⟩)
  · exact am_inm_in_5 _ (List.mem_map.mpr ⟨f, hf, rfl⟩)
  · exact am_inm_in_6 _ (List.mem_map.mpr ⟨f, hf, rfl⟩)
set_option maxRecDepth 20000 in
theorem am_se_in_0 : ∀ w ∈ (am_mds_0.filter am_virt).map am_sew, w ∈ am_big := am_big_of (ps := [(1, 83), (1, 24), (2, 51), (1, 28), (1, 32), (1, 160), (1, 164), (1, 95), (2, 66), (1, 99), (1, 124), (1, 120), (2, 91), (3, 112), (1, 235), (3, 51), (3, 60), (3, 99), (2, 104), (1, 202), (1, 206), (1, 223), (1, 211), (1, 215), (1, 219), (2, 24), (2, 3), (2, 7), (1, 239), (2, 16), (2, 183), (1, 91), (1, 87), (1, 112), (1, 103), (1, 107), (1, 116), (2, 20), (1, 186)]) rfl rfl
set_option maxRecDepth 20000 in
theorem am_se_in_1 : ∀ w ∈ (am_mds_1.filter am_virt).map am_sew, w ∈ am_big := am_big_of (ps := [(1, 11), (1, 15), (1, 48), (1, 128), (3, 93), (1, 172), (1, 176), (2, 196), (1, 132), (1, 36), (1, 40), (1, 44), (1, 55), (1, 71), (1, 59), (1, 63), (1, 67), (1, 75), (1, 79), (1, 3), (1, 20), (1, 136), (1, 142), (1, 146), (1, 150), (1, 168), (1, 181), (1, 190), (1, 231), (2, 12), (2, 33), (2, 37), (2, 58), (2, 75), (2, 79), (2, 87), (2, 95), (2, 115), (2, 128)]) rfl rfl
set_option maxRecDepth 20000 in
theorem am_se_in_2 : ∀ w ∈ (am_mds_2.filter am_virt).map am_sew, w ∈ am_big := am_big_of (ps := [(2, 136), (2, 140), (2, 149), (2, 153), (2, 162), (2, 167), (2, 171), (2, 175), (2, 179), (2, 192), (2, 200), (2, 204), (2, 208), (2, 216), (2, 224), (2, 233), (2, 237), (3, 6), (3, 11), (3, 19), (3, 27), (3, 43), (3, 47), (3, 56), (3, 65), (3, 69), (3, 73), (3, 77), (3, 85), (3, 89), (3, 104), (3, 108), (6, 0), (6, 8), (6, 1), (6, 2)]) rfl rfl
set_option maxRecDepth 20000 in
theorem am_se_in_3 : ∀ w ∈ (am_mds_3.filter am_virt).map am_sew, w ∈ am_big := am_big_of (ps := [(6, 3), (6, 14), (6, 4), (6, 5), (6, 6), (6, 9), (6, 7), (6, 10), (6, 11), (6, 12), (6, 13), (6, 15), (7, 0), (7, 1), (7, 2), (7, 3), (7, 4), (7, 5), (7, 6), (7, 7), (9, 11), (8, 12), (8, 2), (9, 4), (4, 12), (7, 9), (7, 11), (7, 12), (7, 10), (7, 8), (8, 1), (8, 0), (4, 23), (7, 14), (7, 15), (7, 13), (4, 108)]) rfl rfl
set_option maxRecDepth 20000 in
theorem am_se_in_4 : ∀ w ∈ (am_mds_4.filter am_virt).map am_sew, w ∈ am_big := am_big_of (ps := [(4, 112), (8, 7), (8, 6), (8, 5), (8, 8), (8, 4), (9, 0), (8, 15), (8, 14), (8, 9), (8, 3), (4, 116), (4, 120), (4, 124), (4, 128), (4, 132), (8, 11), (8, 10), (4, 140), (4, 144), (8, 13), (9, 2), (4, 152), (9, 1), (4, 183), (9, 3), (4, 191), (4, 203), (9, 6), (9, 5), (4, 207), (9, 7), (4, 226), (4, 234), (9, 8), (4, 238)]) rfl rfl
set_option maxRecDepth 20000 in
theorem am_se_in_5 : ∀ w ∈ (am_mds_5.filter am_virt).map am_sew, w ∈ am_big := am_big_of (ps := [(9, 9), (5, 6), (9, 10), (5, 14), (5, 22), (9, 12), (5, 31), (5, 39), (9, 13), (5, 43), (5, 51), (5, 55), (5, 59), (5, 63), (9, 14), (5, 67), (5, 75), (9, 15), (5, 79), (5, 91), (10, 0), (5, 95), (5, 104), (10, 1), (5, 108), (10, 2), (5, 116), (10, 3), (10, 4), (5, 124), (5, 136), (5, 140), (5, 144), (10, 7), (10, 6), (10, 5), (5, 148), (5, 164), (5, 168)]) rfl rfl
set_option maxRecDepth 20000 in
theorem am_se_in_6 : ∀ w ∈ (am_mds_6.filter am_virt).map am_sew, w ∈ am_big := am_big_of (ps := [(5, 172), (10, 8), (5, 176), (5, 184), (10, 9), (5, 188), (5, 196), (5, 200), (5, 204), (5, 211)]) rfl rfl
theorem am_se_in : ∀ f ∈ am_mds, am_virt f = true → am_sew f ∈ am_big := by
  intro f hf hv
  simp only [am_mds, List.mem_append] at hf
  rcases hf with ((((((hf | hf) | hf) | hf) | hf) | hf) | hf)
  · exact am_se_in_0 _ (List.mem_map.mpr ⟨f, List.mem_filter.mpr ⟨hf, hv⟩, rfl⟩)
  · exact am_se_in_1 _ (List.mem_map.mpr ⟨f, List.mem_filter.mpr ⟨hf, hv⟩, rfl⟩)
  · exact am_se_in_2 _ (List.mem_map.mpr ⟨f, List.mem_filter.mpr ⟨hf, hv⟩, rfl⟩)
  · exact am_se_in_3 _ (List.mem_map.mpr ⟨f, List.mem_filter.mpr ⟨hf, hv⟩, rfl⟩)
  · exact am_se_in_4 _ (List.mem_map.mpr ⟨f, List.mem_filter.mpr ⟨hf, hv⟩, rfl⟩)
  · exact am_se_in_5 _ (List.mem_map.mpr ⟨f, List.mem_filter.mpr ⟨hf, hv⟩, rfl⟩)
  · exact am_se_in_6 _ (List.mem_map.mpr ⟨f, List.mem_filter.mpr ⟨hf, hv⟩, rfl⟩)
set_option maxRecDepth 20000 in
theorem am_ini_in_0 : ∀ w ∈ (List.range 8).map (fun k => Cond.initialized (am_cn k)), w ∈ am_big := am_big_of (ps := [(0, 2), (0, 7), (0, 3), (0, 5), (0, 8), (0, 4), (0, 1), (0, 9)]) rfl rfl
theorem am_ini_in {k : Nat} (h : k < 8) : Cond.initialized (am_cn k) ∈ am_big := am_ini_in_0 _ (List.mem_map.mpr ⟨k, List.mem_range.mpr h, rfl⟩)
set_option maxRecDepth 20000 in
theorem am_mw_in : ∀ w ∈ [Cond.static Lib.Math.max.name, Cond.code Lib.Math.max.name Lib.Math.max.code 2 (some .int), Cond.static Lib.Math.min.name, Cond.code Lib.Math.min.name Lib.Math.min.code 2 (some .int), Cond.static Lib.Math.abs.name, Cond.code Lib.Math.abs.name Lib.Math.abs.code 1 (some .int), Cond.initialized "java/lang/Math"], w ∈ am_big := am_big_of (ps := [(0, 129), (0, 130), (2, 29), (2, 30), (2, 54), (2, 55), (0, 6)]) rfl rfl
set_option maxRecDepth 20000 in
theorem am_lay_in_0 : ∀ w ∈ wsX00, w ∈ am_big := am_big_of (ps := [(0, 65), (0, 67), (0, 69), (0, 71), (0, 73), (0, 75), (0, 77), (0, 79), (0, 81), (0, 83), (0, 85)]) rfl rfl
set_option maxRecDepth 20000 in
theorem am_lay_in_1 : ∀ w ∈ wsX10, w ∈ am_big := am_big_of (ps := [(0, 164), (0, 166)]) rfl rfl
set_option maxRecDepth 20000 in
theorem am_lay_in_2 : ∀ w ∈ wsX20, w ∈ am_big := am_big_of (ps := [(0, 103), (0, 105), (0, 107), (0, 109), (0, 111), (0, 113)]) rfl rfl
set_option maxRecDepth 20000 in
theorem am_lay_in_3 : ∀ w ∈ wsX30, w ∈ am_big := am_big_of (ps := [(0, 136), (0, 138)]) rfl rfl
set_option maxRecDepth 20000 in
theorem am_lay_in_4 : ∀ w ∈ wsX40, w ∈ am_big := am_big_of (ps := [(0, 182), (0, 184), (0, 186), (0, 188)]) rfl rfl
set_option maxRecDepth 20000 in
theorem am_lay_in_5 : ∀ w ∈ wsX50, w ∈ am_big := am_big_of (ps := [(0, 146), (0, 148)]) rfl rfl
set_option maxRecDepth 20000 in
theorem am_lay_in_6 : ∀ w ∈ wsX60, w ∈ am_big := am_big_of (ps := [(0, 208), (0, 210), (0, 212), (0, 214), (0, 216), (0, 218), (0, 220), (0, 222), (0, 224), (0, 226), (0, 228), (0, 230), (0, 232), (0, 234), (0, 236), (0, 238)]) rfl rfl
set_option maxRecDepth 20000 in
theorem am_lay_in_7 : ∀ w ∈ wsX70, w ∈ am_big := am_big_of (ps := [(3, 163), (3, 165), (3, 167), (3, 169), (3, 171), (3, 173), (3, 175), (3, 177), (3, 179), (3, 181), (3, 183), (3, 185), (3, 187), (3, 189), (3, 191), (3, 193), (3, 195), (3, 197), (3, 199), (3, 201), (3, 203), (3, 205), (3, 207), (3, 209), (3, 211), (3, 213), (3, 215), (3, 217), (3, 219), (3, 221), (3, 223), (3, 225), (3, 227), (3, 229), (3, 231), (3, 233), (3, 235), (3, 237), (3, 239), (4, 1), (4, 3), (4, 5), (4, 7)]) rfl rfl
theorem am_big_good : am_big.all goodWord = true := List.all_eq_true.mpr (fun _ h => (List.mem_filter.mp h).2)
theorem am_big_law : ∀ w ∈ am_big, w ∈ lw_tbl := by
  intro w hw
  have hw := (List.mem_filter.mp hw).1
  simp only [am_all, am_chunks, List.flatten_cons, List.flatten_nil, List.append_nil, List.mem_append] at hw
  simp only [lw_tbl, tables_1, k2_sels, lw_privs, List.map_append, List.mem_append]
  simp only [k2_sels] at hw
  rcases hw with hw | hw | hw | hw | hw | hw | hw | hw | hw | hw | hw
  all_goals simp only [hw, true_or, or_true]
def am_okm (q : am_MD) : Bool := decide (q.1.cls = am_cn q.2.2.2.2.1) && decide (q.1.cls ≠ "java/lang/invoke/MethodHandle") && decide (q.1.cls ≠ "java/lang/invoke/VarHandle") && plainName q.1.cls && decide (q.2.2.2.2.1 < 8) && ((parseMethodDescriptor q.1.desc).map (fun d => d.parameters.length) == some (if q.2.2.2.2.2.2.2.2 = true then q.2.2.2.2.2.1 else q.2.2.2.2.2.1 - 1)) && (q.2.2.2.2.2.2.2.2 || decide (0 < q.2.2.2.2.2.1))
set_option maxRecDepth 20000 in
theorem am_okm_all : am_mds.all am_okm = true := by decide +kernel
/-- the world behind the constructors: an object of kind c (tag c + 2; a field: 0 a number, k + 1 the cell k), a row of numbers (tag 0, its length), a row of cells (tag 1) -/
def am_sh : List (Nat × List Nat) := [(8, [2, 9, 16, 23, 30, 36, 45, 47, 49, 51, 53, 58, 63, 79, 80, 0]), (2, [0, 0, 0, 0, 0, 3, 4, 5, 6, 7, 8]), (0, [4]), (0, [4]), (0, [4]), (0, [4]), (0, [4]), (0, [4]), (2, [0, 0, 0, 0, 0, 10, 11, 12, 13, 14, 15]), (0, [4]), (0, [4]), (0, [4]), (0, [4]), (0, [4]), (0, [4]), (2, [0, 0, 0, 0, 0, 17, 18, 19, 20, 21, 22]), (0, [4]), (0, [4]), (0, [4]), (0, [4]), (0, [4]), (0, [4]), (2, [0, 0, 0, 0, 0, 24, 25, 26, 27, 28, 29]), (0, [4]), (0, [4]), (0, [4]), (0, [4]), (0, [4]), (0, [4]), (4, [0, 31, 32, 33, 34, 35]), (0, [4]), (0, [4]), (0, [4]), (0, [4]), (0, [4]), (7, [37, 39]), (5, [38, 0]), (0, [96]), (4, [0, 40, 41, 42, 43, 44]), (0, [4]), (0, [4]), (0, [4]), (0, [4]), (0, [4]), (5, [46, 0]), (0, [12]), (5, [48, 0]), (0, [6]), (5, [50, 0]), (0, [6]), (5, [52, 0]), (0, [6]), (3, [54, 56]), (5, [55, 0]), (0, [4]), (5, [57, 0]), (0, [4]), (3, [59, 61]), (5, [60, 0]), (0, [4]), (5, [62, 0]), (0, [4]), (6, [64, 71, 78, 0]), (1, [64, 65, 66, 67, 68, 69]), (0, [4]), (0, [4]), (0, [4]), (0, [4]), (0, [4]), (0, [4]), (1, [71, 72, 73, 74, 75, 76]), (0, [4]), (0, [4]), (0, [4]), (0, [4]), (0, [4]), (0, [4]), (0, [6]), (0, [7]), (1, [80, 81, 82]), (0, [20]), (0, [20]), (0, [20]), (9, [85, 86, 87, 88, 89, 90, 91, 92, 93, 94, 0, 0, 0, 0, 0, 0, 0, 95, 96, 97, 98, 0, 0, 0, 99, 0, 0, 0, 100, 101, 102, 103, 104, 0, 105, 0, 0, 0, 0, 106, 0, 107, 0]), (0, [7]), (0, [4]), (0, [4]), (0, [4]), (0, [4]), (0, [4]), (0, [4]), (0, [6]), (0, [4]), (0, [4]), (0, [96]), (0, [48]), (0, [48]), (0, [240]), (0, [120]), (0, [4]), (0, [4]), (0, [24]), (0, [24]), (0, [6]), (0, [4]), (0, [6]), (0, [12])]
end
section
/-! the abstract machine: numbers are Ints (held modulo 2^32, 2^64), references are places of am_sh; one step of it as a condition -/
abbrev am_N : Type := Nat → Nat → Int
abbrev am_V : Type := Int ⊕ (Int ⊕ Nat)
abbrev am_I : Type := Nat × Nat × Nat × Nat × Nat × Int × List (Int × Nat)
def am_c (z : Int) : Int := (z + 2147483648) % 4294967296 - 2147483648
def am_d (z : Int) : Int := (z + 9223372036854775808) % 18446744073709551616 - 9223372036854775808
def am_up (μ : am_N) (k j : Nat) (v : Int) : am_N := fun a b => if a = k ∧ b = j then v else μ a b
def am_and (x y : Int) : Int := (Int32.ofInt x &&& Int32.ofInt y).toInt
def am_or (x y : Int) : Int := (Int32.ofInt x ||| Int32.ofInt y).toInt
def am_xor (x y : Int) : Int := (Int32.ofInt x ^^^ Int32.ofInt y).toInt
def am_shl (x y : Int) : Int := (Int32.ofInt x <<< (Int32.ofInt y &&& 31)).toInt
def am_shr (x y : Int) : Int := (Int32.ofInt x >>> (Int32.ofInt y &&& 31)).toInt
def am_rv (ad : Nat → Nat) : am_V → Value := fun v => match v with
  | .inl z => .int (Int32.ofInt z)
  | .inr (.inl z) => .long (Int64.ofInt z)
  | .inr (.inr k) => .ref (ad k)
def am_cat : am_V → Nat := fun v => match v with
  | .inr (.inl _) => 2
  | _ => 1
def am_fv (ad : Nat → Nat) (f : Nat → Int) (j : Nat) (c : Nat) : Value := match c with
  | 0 => .int (Int32.ofInt (f j))
  | r + 1 => .ref (ad r)
def am_ce (ad : Nat → Nat) (ca : Nat → ClassId) (k : Nat) (q : Nat × List Nat) (f : Nat → Int) : va_E := match q.1 with
  | 0 => .inl (ca k, q.2.headD 0, .inl (fun j => Int32.ofInt (f j)))
  | 1 => .inl (ca k, q.2.length, .inr (.inr (.inr (.inr (fun i => (q.2[i]?).map ad)))))
  | c + 2 => .inr (c, q.2.mapIdx (am_fv ad f))
def am_ws (ad : Nat → Nat) (ca : Nat → ClassId) (μ : am_N) : va_W := am_sh.mapIdx (fun k q => (ad k, am_ce ad ca k q (μ k)))
def am_TY (ca : Nat → ClassId) (tys : List (ClassId × FieldType)) : Prop := ∀ (k : Nat) (q : Nat × List Nat), am_sh[k]? = some q → (q.1 = 0 → ∃ t0 : Nat, tys[t0]? = some (ca k, .int)) ∧ (q.1 = 1 → ∃ t0 : Nat, tys[t0]? = some (ca k, .array .int))
def am_A (B0 : Nat) : Nat → Prop := fun q => B0 ≤ q
def am_Q (Q : Option am_V → am_N → Prop) (D : va_G) (ad : Nat → Nat) (ca : Nat → ClassId) (B0 : Nat) : Array Value → State → Outcome → State → Prop := fun _ st o t =>
  (∃ (r : Option am_V) (μ' : am_N), o = .returned (r.map (am_rv ad)) ∧ Q r μ' ∧ va_P D vwCl (am_ws ad ca μ') t.heap ∧ va_D (am_A B0) (am_ws ad ca μ')) ∧ va_F (am_A B0) st t
def am_bt (y : Nat) : ByteArray := (am_md y).2.1
def am_ml (y : Nat) : Nat := (am_md y).2.2.1
def am_re (y : Nat) : Option FieldType := (am_md y).2.2.2.1
def am_ow (y : Nat) : Nat := (am_md y).2.2.2.2.1
def am_na (y : Nat) : Nat := (am_md y).2.2.2.2.2.1
def am_fr (y : Nat) : Nat := (am_md y).2.2.2.2.2.2.1
def am_lo (y : Nat) : Nat := (am_md y).2.2.2.2.2.2.2.1
def am_st (y : Nat) : Bool := (am_md y).2.2.2.2.2.2.2.2
def am_w (y : Nat) : List Cond := Cond.code (am_md y).1 (am_bt y) (am_ml y) (am_re y) :: am_big
def am_rm (y : Nat) : Room := { frames := am_fr y, cells := 0, slots := 0, locals := am_lo y }
def am_Pc (D : va_G) (ad : Nat → Nat) (ca : Nat → ClassId) (tys : List (ClassId × FieldType)) (B0 : Nat) (args : List am_V) (μ : am_N) : Array Value → State → Prop :=
  va_Pc (args.map (am_rv ad)) (fun U => B0 ≤ U.heap.size ∧ va_P D vwCl (am_ws ad ca μ) U.heap ∧ va_K D vwCl tys U ∧ va_D (am_A B0) (am_ws ad ca μ))
/-- what a call does: from the numbers μ, with these arguments, method y returns, and Q holds of its answer and of the numbers then -/
def am_Does (l : Launch) (y : Nat) (args : List am_V) (μ : am_N) (Q : Option am_V → am_N → Prop) : Prop :=
  ∀ (D : va_G) (ad : Nat → Nat) (ca : Nat → ClassId) (tys : List (ClassId × FieldType)) (B0 : Nat), am_TY ca tys → Met l (am_md y).1 (am_w y) (am_rm y) (am_Pc D ad ca tys B0 args μ) (am_Q Q D ad ca B0) 0 0 (am_A B0)
def am_L (ls : Array Slot) (nL : Nat) (ad : Nat → Nat) (lv : List (Option am_V)) : Prop := ls.size = nL ∧ lv_wf ls ∧ (∀ (i : Nat) (v : am_V), lv[i]? = some (some v) → ls[i]? = some (.val (am_rv ad v))) ∧ lv.length = nL
def am_Env (y L : Nat) (xs : Nat → Int) (p : Program) (R : Room) (s : State) (m : MethodId) (args : Array Value) (c : Code) (D : va_G) (ad : Nat → Nat) (ca : Nat → ClassId) (tys : List (ClassId × FieldType)) (B0 cells slots : Nat) : Prop :=
  p.tables.exec = Jvm.exec ∧ c.code = am_bt y ∧ c.maxLocals = am_ml y ∧ s.vm.findClass (am_cn (am_ow y)) = some m.cls ∧ (∀ w ∈ am_big, w.before args s = true) ∧ va_K D vwCl tys s ∧ am_TY ca tys ∧ B0 ≤ s.heap.size ∧ am_fr y ≤ R.frames ∧ am_lo y ≤ R.locals ∧ cells ≤ R.cells ∧ slots ≤ R.slots ∧
  (y = 0 → va_X (ad 999) L (fun j => Int32.ofInt (xs j)) s s.heap ∧ ad 999 < s.heap.size ∧ ad 999 < B0)
/-- which instruction ends with the answer r -/
def am_rt (y pc : Nat) (r : Option am_V) : Prop := match r with
  | none => decode (am_bt y) pc = .ok (.return_, 1) ∧ am_re y = none
  | some (.inl z) => decode (am_bt y) pc = .ok (.ireturn, 1) ∧ (am_re y = some .int ∨ (am_re y = some .boolean ∧ (z = 0 ∨ z = 1)))
  | some (.inr (.inl _)) => decode (am_bt y) pc = .ok (.lreturn, 1) ∧ am_re y = some .long
  | some (.inr (.inr _)) => False
/-- from here method y comes to its end, with Q -/
def am_AW (l : Launch) (L : Nat) (xs : Nat → Int) (y : Nat) (Q : Option am_V → am_N → Prop) (pc : Nat) (lv : List (Option am_V)) (st : List am_V) (μ : am_N) : Prop :=
  ∀ (p : Program) (e : Env) (R : Room) (s : State) (m : MethodId) (args : Array Value) (below : List Frame) (meth : Method) (c : Code) (D : va_G) (ad : Nat → Nat) (ca : Nat → ClassId) (tys : List (ClassId × FieldType)) (B0 cells slots : Nat) (Qf : State → Prop),
    am_Env y L xs p R s m args c D ad ca tys B0 cells slots →
    (∀ (r : Option am_V) (μ' : am_N) (H : Heap) (locs : List Loc) (pc' : Nat) (ls : Array Slot), Q r μ' → va_P D vwCl (am_ws ad ca μ') H → va_D (am_A B0) (am_ws ad ca μ') → va_S (am_A B0) s.heap H locs → am_rt y pc' r →
      W p l e R s m args below meth c H locs cells slots Qf (F0 m pc' ls (r.map (am_rv ad)).toList)) →
    ∀ (H : Heap) (locs : List Loc) (ls : Array Slot), am_L ls (am_ml y) ad lv → va_P D vwCl (am_ws ad ca μ) H → va_D (am_A B0) (am_ws ad ca μ) → va_S (am_A B0) s.heap H locs →
      W p l e R s m args below meth c H locs cells slots Qf (F0 m pc ls (st.map (am_rv ad)))
/-- a switch -/
def am_sw (ts : List (Int × Nat)) (v : Int) (d : Nat) (K : Nat → Prop) : Prop := match ts with
  | [] => K d
  | (k, t) :: r => (v = k → K t) ∧ (v ≠ k → am_sw r v d K)
def am_co2 (cond : Nat) (x y : Int) : Prop := match cond with
  | 0 => x = y
  | 1 => ¬ x = y
  | 2 => x < y
  | 3 => y ≤ x
  | 4 => y < x
  | _ => x ≤ y
def am_br2 (cond : Nat) (x y : Int) (A B : Prop) : Prop := match cond with
  | 0 => (x = y → A) ∧ (¬ x = y → B)
  | 1 => (¬ x = y → A) ∧ (x = y → B)
  | 2 => (x < y → A) ∧ (¬ x < y → B)
  | 3 => (y ≤ x → A) ∧ (¬ y ≤ x → B)
  | 4 => (y < x → A) ∧ (¬ y < x → B)
  | _ => (x ≤ y → A) ∧ (¬ x ≤ y → B)
/-- a condition that a program decides -/
def am_if (b : Bool) (P : Prop) : Prop := match b with
  | true => P
  | false => False
def am_rs (r : Option am_V) : List am_V := r.toList
/-- at i no long begins just ahead -/
def am_nl (lv : List (Option am_V)) (i : Nat) : Bool := match i with
  | 0 => true
  | j + 1 => match lv[j]? with
    | some (some (.inr (.inl _))) => false
    | _ => true
def am_tag (k : Nat) : Nat := ((am_sh[k]?).map Prod.fst).getD 0
def am_stp (l : Launch) (L : Nat) (xs : Nat → Int) (y : Nat) (Q : Option am_V → am_N → Prop) (K : Nat → List (Option am_V) → List am_V → am_N → Prop) (x : am_I) (lv : List (Option am_V)) (st : List am_V) (μ : am_N) : Prop :=
  match x with
  | (nx, op, a, b, c, z, ts) => match op with
    | 0 => K nx lv (.inl z :: st) μ
    | 1 => K nx lv (.inr (.inl z) :: st) μ
    | 2 => match lv[a]? with
      | some (some (.inl v)) => K nx lv (.inl v :: st) μ
      | _ => False
    | 3 => match st with
      | .inl v :: r => am_if (Nat.blt a lv.length && am_nl lv a) (K nx (lv.set a (some (.inl v))) r μ)
      | _ => False
    | 4 => match lv[a]? with
      | some (some (.inr (.inl v))) => K nx lv (.inr (.inl v) :: st) μ
      | _ => False
    | 5 => match st with
      | .inr (.inl v) :: r => am_if (Nat.blt (a + 1) lv.length && am_nl lv a) (K nx ((lv.set a (some (.inr (.inl v)))).set (a + 1) none) r μ)
      | _ => False
    | 6 => match lv[a]? with
      | some (some (.inr (.inr v))) => K nx lv (.inr (.inr v) :: st) μ
      | _ => False
    | 7 => match st with
      | .inr (.inr k) :: r => match am_sh[k]? with
        | some (t, fs) => am_if (Nat.beq t (a + 2)) (match fs[b]? with
          | some 0 => K nx lv (.inl (μ k b) :: r) μ
          | some (j + 1) => K nx lv (.inr (.inr j) :: r) μ
          | none => False)
        | none => False
      | _ => False
    | 8 => match st with
      | .inl v :: .inr (.inr k) :: r => match am_sh[k]? with
        | some (t, fs) => am_if (Nat.beq t (a + 2)) (match fs[b]? with
          | some 0 => (match c with
            | 0 => K nx lv r (am_up μ k b v)
            | _ => (v = 0 ∨ v = 1) ∧ K nx lv r (am_up μ k b v))
          | _ => False)
        | none => False
      | _ => False
    | 9 => match st with
      | .inl i :: .inr (.inr k) :: r => match am_sh[k]? with
        | some (0, n :: _) => (0 ≤ am_c i ∧ am_c i < n) ∧ K nx lv (.inl (μ k (am_c i).toNat) :: r) μ
        | some _ => False
        | none => (y = 0 ∧ k = 999) ∧ (0 ≤ am_c i ∧ am_c i < L) ∧ K nx lv (.inl (xs (am_c i).toNat) :: r) μ
      | _ => False
    | 10 => match st with
      | .inl v :: .inl i :: .inr (.inr k) :: r => match am_sh[k]? with
        | some (0, n :: _) => (0 ≤ am_c i ∧ am_c i < n) ∧ K nx lv r (am_up μ k (am_c i).toNat v)
        | _ => False
      | _ => False
    | 11 => match st with
      | .inl i :: .inr (.inr k) :: r => match am_sh[k]? with
        | some (1, fs) => (0 ≤ am_c i ∧ am_c i < (fs.length : Int)) ∧ ∀ j : Nat, fs[(am_c i).toNat]? = some j → K nx lv (.inr (.inr j) :: r) μ
        | _ => False
      | _ => False
    | 12 => match st with
      | .inr (.inr k) :: r => match am_sh[k]? with
        | some (0, n :: _) => K nx lv (.inl (n : Int) :: r) μ
        | some (1, fs) => K nx lv (.inl (fs.length : Int) :: r) μ
        | some _ => False
        | none => (y = 0 ∧ k = 999) ∧ K nx lv (.inl (L : Int) :: r) μ
      | _ => False
    | 13 => match st with
      | .inl v :: .inl u :: r => K nx lv (.inl (u + v) :: r) μ
      | _ => False
    | 14 => match st with
      | .inl v :: .inl u :: r => K nx lv (.inl (u - v) :: r) μ
      | _ => False
    | 15 => match st with
      | .inl v :: .inl u :: r => K nx lv (.inl (u * v) :: r) μ
      | _ => False
    | 16 => match st with
      | .inl v :: .inl u :: r => am_c v ≠ 0 ∧ K nx lv (.inl ((am_c u).tdiv (am_c v)) :: r) μ
      | _ => False
    | 17 => match st with
      | .inl v :: .inl u :: r => am_c v ≠ 0 ∧ K nx lv (.inl ((am_c u).tmod (am_c v)) :: r) μ
      | _ => False
    | 18 => match st with
      | .inl v :: .inl u :: r => K nx lv (.inl (am_and u v) :: r) μ
      | _ => False
    | 19 => match st with
      | .inl v :: .inl u :: r => K nx lv (.inl (am_or u v) :: r) μ
      | _ => False
    | 20 => match st with
      | .inl v :: .inl u :: r => K nx lv (.inl (am_xor u v) :: r) μ
      | _ => False
    | 21 => match st with
      | .inl v :: .inl u :: r => K nx lv (.inl (am_shl u v) :: r) μ
      | _ => False
    | 22 => match st with
      | .inl v :: .inl u :: r => K nx lv (.inl (am_shr u v) :: r) μ
      | _ => False
    | 23 => match st with
      | .inl v :: r => K nx lv (.inl (-v) :: r) μ
      | _ => False
    | 24 => match lv[a]? with
      | some (some (.inl v)) => am_if (am_nl lv a) (K nx (lv.set a (some (.inl (v + z)))) st μ)
      | _ => False
    | 25 => K a lv st μ
    | 26 => match st with
      | .inl v :: r => am_br2 b (am_c v) 0 (K a lv r μ) (K nx lv r μ)
      | _ => False
    | 27 => match st with
      | .inl v :: .inl u :: r => am_br2 b (am_c u) (am_c v) (K a lv r μ) (K nx lv r μ)
      | _ => False
    | 28 => match st with
      | .inl _ :: r => K nx lv r μ
      | _ => False
    | 29 => match st with
      | .inr (.inl _) :: r => K nx lv r μ
      | _ => False
    | 30 => match st with
      | .inl v :: r => K nx lv (.inl v :: .inl v :: r) μ
      | .inr (.inr v) :: r => K nx lv (.inr (.inr v) :: .inr (.inr v) :: r) μ
      | _ => False
    | 31 => match st with
      | .inl v :: .inr (.inr u) :: r => K nx lv (.inl v :: .inr (.inr u) :: .inl v :: .inr (.inr u) :: r) μ
      | _ => False
    | 32 => match st with
      | .inl v :: .inr (.inr u) :: r => K nx lv (.inl v :: .inr (.inr u) :: .inl v :: r) μ
      | _ => False
    | 33 => match st with
      | .inl v :: r => K nx lv (.inr (.inl (am_c v)) :: r) μ
      | _ => False
    | 34 => match st with
      | .inr (.inl v) :: .inr (.inl u) :: r => K nx lv (.inl (if am_d v < am_d u then 1 else if am_d u = am_d v then 0 else -1) :: r) μ
      | _ => False
    | 35 => match st with
      | .inr (.inl v) :: .inr (.inl u) :: r => K nx lv (.inr (.inl (u + v)) :: r) μ
      | _ => False
    | 36 => match st with
      | .inr (.inl v) :: .inr (.inl u) :: r => K nx lv (.inr (.inl (u - v)) :: r) μ
      | _ => False
    | 37 => match st with
      | .inr (.inl v) :: .inr (.inl u) :: r => K nx lv (.inr (.inl (u * v)) :: r) μ
      | _ => False
    | 38 => match st with
      | .inr (.inl v) :: .inr (.inl u) :: r => am_d v ≠ 0 ∧ K nx lv (.inr (.inl ((am_d u).tdiv (am_d v))) :: r) μ
      | _ => False
    | 39 => match st with
      | .inr (.inl v) :: .inr (.inl u) :: r => am_d v ≠ 0 ∧ K nx lv (.inr (.inl ((am_d u).tmod (am_d v))) :: r) μ
      | _ => False
    | 40 => match (st.take b).reverse with
      | .inr (.inr k) :: as => am_if (Nat.beq (am_tag k) c && (Nat.ble b st.length && Nat.ble ((st.drop b).map am_cat).sum 8)) (True ∧ am_Does l a (.inr (.inr k) :: as) μ (fun r μ' => K nx lv (am_rs r ++ st.drop b) μ'))
      | _ => False
    | 41 => am_if (Nat.ble b st.length && Nat.ble ((st.drop b).map am_cat).sum 8) (True ∧ am_Does l a (st.take b).reverse μ (fun r μ' => K nx lv (am_rs r ++ st.drop b) μ'))
    | 42 => match st with
      | [] => True ∧ Q none μ
      | _ => False
    | 43 => match st with
      | [.inl v] => match c with
        | 0 => True ∧ Q (some (.inl v)) μ
        | _ => (v = 0 ∨ v = 1) ∧ Q (some (.inl v)) μ
      | _ => False
    | 44 => match st with
      | [.inr (.inl v)] => True ∧ Q (some (.inr (.inl v))) μ
      | _ => False
    | 45 => match st with
      | .inl v :: r => am_sw ts (am_c v) a (fun t => K t lv r μ)
      | _ => False
    | 46 => match st with
      | .inl v :: .inl u :: r => am_if (Nat.ble (r.map am_cat).sum 8) (K nx lv (.inl (if am_c u < am_c v then v else u) :: r) μ)
      | _ => False
    | 47 => match st with
      | .inl v :: .inl u :: r => am_if (Nat.ble (r.map am_cat).sum 8) (K nx lv (.inl (if am_c v < am_c u then v else u) :: r) μ)
      | _ => False
    | 48 => match st with
      | .inl u :: r => am_if (Nat.ble (r.map am_cat).sum 8) (K nx lv (.inl (if 0 ≤ am_c u then u else 0 - u) :: r) μ)
      | _ => False
    | _ => False
/-- the length that the machine's rows ask of an instruction (0: any) -/
def am_ln (i : Instr) : Nat := match i with
  | .bipush _ | .iload _ | .istore _ | .lload _ | .lstore _ | .aload _ | .ldc _ => 2
  | .sipush _ | .ldc_w _ | .ldc2_w _ | .getfield _ | .putfield _ | .iinc _ _ | .goto _ | .ifCond _ _ | .if_icmp _ _ | .invokevirtual _ | .invokestatic _ => 3
  | .tableswitch _ _ _ _ | .lookupswitch _ _ => 0
  | _ => 1
def am_bad : am_I := (0, 99, 0, 0, 0, 0, [])
def am_cc (c : ClassFile.Cond) : Nat := match c with
  | .eq => 0
  | .ne => 1
  | .lt => 2
  | .ge => 3
  | .gt => 4
  | .le => 5
def am_tb (pc : Nat) (lo : Int) : List Int → List (Int × Nat)
  | [] => []
  | o :: r => (lo, ((pc : Int) + o).toNat) :: am_tb pc (lo + 1) r
def am_br (pc : Nat) (off : Int) (x : am_I) : am_I := if 0 ≤ (pc : Int) + off then x else am_bad
def am_okc (y y' : Nat) : Bool := decide (0 < y') && decide (y' < am_ny) && decide (am_fr y' + 1 ≤ am_fr y) && decide (19 + am_ml y' + am_lo y' ≤ am_lo y)
def am_nrm (y pc : Nat) (i : Instr) : am_I := match i with
  | .iconst n => (pc + 1, 0, 0, 0, 0, n, [])
  | .bipush n => (pc + 2, 0, 0, 0, 0, (Int8.ofInt n).toInt32.toInt, [])
  | .sipush n => (pc + 3, 0, 0, 0, 0, (Int16.ofInt n).toInt32.toInt, [])
  | .ldc k => match am_co.find? (fun f => Nat.beq f.1 (am_ow y) && Nat.beq f.2.1 k) with
    | some f => (pc + 2, 0, 0, 0, 0, f.2.2, [])
    | none => am_bad
  | .ldc_w k => match am_co.find? (fun f => Nat.beq f.1 (am_ow y) && Nat.beq f.2.1 k) with
    | some f => (pc + 3, 0, 0, 0, 0, f.2.2, [])
    | none => am_bad
  | .ldc2_w k => match am_cl.find? (fun f => Nat.beq f.1 (am_ow y) && Nat.beq f.2.1 k) with
    | some f => (pc + 3, 1, 0, 0, 0, f.2.2, [])
    | none => am_bad
  | .lconst n => (pc + 1, 1, 0, 0, 0, ((n : Nat) : Int), [])
  | .iload k => (pc + 2, 2, k, 0, 0, 0, [])
  | .iload_n k => (pc + 1, 2, (k : Nat), 0, 0, 0, [])
  | .istore k => (pc + 2, 3, k, 0, 0, 0, [])
  | .istore_n k => (pc + 1, 3, (k : Nat), 0, 0, 0, [])
  | .lload k => (pc + 2, 4, k, 0, 0, 0, [])
  | .lload_n k => (pc + 1, 4, (k : Nat), 0, 0, 0, [])
  | .lstore k => (pc + 2, 5, k, 0, 0, 0, [])
  | .lstore_n k => (pc + 1, 5, (k : Nat), 0, 0, 0, [])
  | .aload k => (pc + 2, 6, k, 0, 0, 0, [])
  | .aload_n k => (pc + 1, 6, (k : Nat), 0, 0, 0, [])
  | .getfield k => match am_fl.find? (fun f => Nat.beq f.1 (am_ow y) && Nat.beq f.2.1 k) with
    | some f => (pc + 3, 7, f.2.2.1, f.2.2.2, 0, 0, [])
    | none => am_bad
  | .putfield k => match am_fl.find? (fun f => Nat.beq f.1 (am_ow y) && Nat.beq f.2.1 k) with
    | some f => if (am_cT f.2.2.1 f.2.2.2).2.2.2 = false then (match am_ty f.2.2.1 f.2.2.2 with
        | .int => (pc + 3, 8, f.2.2.1, f.2.2.2, 0, 0, [])
        | .boolean => (pc + 3, 8, f.2.2.1, f.2.2.2, 1, 0, [])
        | _ => am_bad) else am_bad
    | none => am_bad
  | .iaload => (pc + 1, 9, 0, 0, 0, 0, [])
  | .iastore => (pc + 1, 10, 0, 0, 0, 0, [])
  | .aaload => (pc + 1, 11, 0, 0, 0, 0, [])
  | .arraylength => (pc + 1, 12, 0, 0, 0, 0, [])
  | .iadd => (pc + 1, 13, 0, 0, 0, 0, [])
  | .isub => (pc + 1, 14, 0, 0, 0, 0, [])
  | .imul => (pc + 1, 15, 0, 0, 0, 0, [])
  | .idiv => (pc + 1, 16, 0, 0, 0, 0, [])
  | .irem => (pc + 1, 17, 0, 0, 0, 0, [])
  | .iand => (pc + 1, 18, 0, 0, 0, 0, [])
  | .ior => (pc + 1, 19, 0, 0, 0, 0, [])
  | .ixor => (pc + 1, 20, 0, 0, 0, 0, [])
  | .ishl => (pc + 1, 21, 0, 0, 0, 0, [])
  | .ishr => (pc + 1, 22, 0, 0, 0, 0, [])
  | .ineg => (pc + 1, 23, 0, 0, 0, 0, [])
  | .iinc k n => (pc + 3, 24, k, 0, 0, n, [])
  | .goto o => am_br pc o (0, 25, ((pc : Int) + o).toNat, 0, 0, 0, [])
  | .ifCond cd o => am_br pc o (pc + 3, 26, ((pc : Int) + o).toNat, am_cc cd, 0, 0, [])
  | .if_icmp cd o => am_br pc o (pc + 3, 27, ((pc : Int) + o).toNat, am_cc cd, 0, 0, [])
  | .pop => (pc + 1, 28, 0, 0, 0, 0, [])
  | .pop2 => (pc + 1, 29, 0, 0, 0, 0, [])
  | .dup => (pc + 1, 30, 0, 0, 0, 0, [])
  | .dup2 => (pc + 1, 31, 0, 0, 0, 0, [])
  | .dup_x1 => (pc + 1, 32, 0, 0, 0, 0, [])
  | .i2l => (pc + 1, 33, 0, 0, 0, 0, [])
  | .lcmp => (pc + 1, 34, 0, 0, 0, 0, [])
  | .ladd => (pc + 1, 35, 0, 0, 0, 0, [])
  | .lsub => (pc + 1, 36, 0, 0, 0, 0, [])
  | .lmul => (pc + 1, 37, 0, 0, 0, 0, [])
  | .ldiv => (pc + 1, 38, 0, 0, 0, 0, [])
  | .lrem => (pc + 1, 39, 0, 0, 0, 0, [])
  | .invokevirtual k => match am_ca.find? (fun f => Nat.beq f.1 (am_ow y) && Nat.beq f.2.1 k) with
    | some f => if am_okc y f.2.2 && !am_st f.2.2 then (pc + 3, 40, f.2.2, am_na f.2.2, am_ow f.2.2 + 2, 0, []) else am_bad
    | none => am_bad
  | .invokestatic k => match am_ca.find? (fun f => Nat.beq f.1 (am_ow y) && Nat.beq f.2.1 k) with
    | some f => if am_okc y f.2.2 && am_st f.2.2 && Nat.beq (am_ow f.2.2) (am_ow y) then (pc + 3, 41, f.2.2, am_na f.2.2, 0, 0, []) else am_bad
    | none => match am_ma.find? (fun f => Nat.beq f.1 (am_ow y) && Nat.beq f.2.1 k) with
      | some f => if decide (1 ≤ am_fr y) && decide (21 ≤ am_lo y) && decide (f.2.2 < 3) then (pc + 3, 46 + f.2.2, 0, 0, 0, 0, []) else am_bad
      | none => am_bad
  | .return_ => match am_re y with
    | none => (0, 42, 0, 0, 0, 0, [])
    | some _ => am_bad
  | .ireturn => match am_re y with
    | some .int => (0, 43, 0, 0, 0, 0, [])
    | some .boolean => (0, 43, 0, 0, 1, 0, [])
    | _ => am_bad
  | .lreturn => match am_re y with
    | some .long => (0, 44, 0, 0, 0, 0, [])
    | _ => am_bad
  | .tableswitch d lo hi offs => if decide (0 ≤ (pc : Int) + d) && offs.toList.all (fun o => decide (0 ≤ (pc : Int) + o)) && decide ((offs.toList.length : Int) = hi - lo + 1) then (0, 45, ((pc : Int) + d).toNat, 0, 0, 0, am_tb pc lo offs.toList) else am_bad
  | .lookupswitch d ps => if decide (0 ≤ (pc : Int) + d) && ps.toList.all (fun o => decide (0 ≤ (pc : Int) + o.2)) && (ps.toList.zip (ps.toList.drop 1)).all (fun (a, next) => a.1 < next.1) then (0, 45, ((pc : Int) + d).toNat, 0, 0, 0, ps.toList.map (fun o => (o.1, ((pc : Int) + o.2).toNat))) else am_bad
  | _ => am_bad
def am_ie (x w : am_I) : Bool := match x, w with
  | (n1, o1, a1, b1, c1, z1, t1), (n2, o2, a2, b2, c2, z2, t2) => Nat.beq n1 n2 && (Nat.beq o1 o2 && (Nat.beq a1 a2 && (Nat.beq b1 b2 && (Nat.beq c1 c2 && (decide (z1 = z2) && decide (t1 = t2))))))
theorem am_ie_eq {x w : am_I} (h : am_ie x w = true) : x = w := by
  obtain ⟨n1, o1, a1, b1, c1, z1, t1⟩ := x
  obtain ⟨n2, o2, a2, b2, c2, z2, t2⟩ := w
  simp only [am_ie, Bool.and_eq_true, Nat.beq_eq, decide_eq_true_eq] at h
  obtain ⟨rfl, rfl, rfl, rfl, rfl, rfl, rfl⟩ := h
  rfl
def am_chk (y pc : Nat) (x : am_I) : Bool := match decode (am_bt y) pc with
  | .ok (i, len) => (am_ln i == 0 || len == am_ln i) && am_ie (am_nrm y pc i) x
  | _ => false
end
section
/-! the abstract machine's step is borne out by the machine -/
theorem am_toInt (z : Int) : (Int32.ofInt z).toInt = am_c z := by
  rw [Int32.toInt_ofInt]
  unfold am_c Int.bmod
  simp only [show ((Int32.size : Nat) : Int) = 4294967296 from rfl, show Int32.size = 4294967296 from rfl]
  split <;> omega
theorem am_toInt64 (z : Int) : (Int64.ofInt z).toInt = am_d z := by
  rw [Int64.toInt_ofInt]
  unfold am_d Int.bmod
  simp only [show ((Int64.size : Nat) : Int) = 18446744073709551616 from rfl, show Int64.size = 18446744073709551616 from rfl]
  split <;> omega
theorem am_inj {z : Int} {x : Int32} (h : am_c z = x.toInt) : Int32.ofInt z = x := Int32.toInt_inj.mp ((am_toInt z).trans h)
theorem am_inj64 {z : Int} {x : Int64} (h : am_d z = x.toInt) : Int64.ofInt z = x := Int64.toInt_inj.mp ((am_toInt64 z).trans h)
theorem am_back (x : Int32) : Int32.ofInt x.toInt = x := Int32.ofInt_toInt x
theorem am_can (z : Int) : Int32.ofInt (am_c z) = Int32.ofInt z := by rw [← am_toInt]; exact am_back _
theorem am_can64 (z : Int) : Int64.ofInt (am_d z) = Int64.ofInt z := by rw [← am_toInt64]; exact Int64.ofInt_toInt _
theorem am_lt (a b : Int) : Int32.ofInt a < Int32.ofInt b ↔ am_c a < am_c b := by rw [Int32.lt_iff_toInt_lt, am_toInt, am_toInt]
theorem am_le (a b : Int) : Int32.ofInt a ≤ Int32.ofInt b ↔ am_c a ≤ am_c b := by rw [Int32.le_iff_toInt_le, am_toInt, am_toInt]
theorem am_eq (a b : Int) : Int32.ofInt a = Int32.ofInt b ↔ am_c a = am_c b := by rw [← Int32.toInt_inj, am_toInt, am_toInt]
theorem am_0 : Int32.ofInt 0 = 0 := by decide +kernel
theorem am_c0 : am_c 0 = 0 := by decide +kernel
theorem am_in {i : Int} {n : Nat} (h : 0 ≤ am_c i ∧ am_c i < n) : vp_in (Int32.ofInt i) n := vp_in_iff.mpr (by rw [am_toInt]; exact h)
theorem am_cl_nat (i : Int) : (Int32.ofInt i).toNatClampNeg = (am_c i).toNat := by
  show (Int32.ofInt i).toInt.toNat = _
  rw [am_toInt]
theorem am_div32 (a b : Int) : Int32.ofInt a / Int32.ofInt b = Int32.ofInt ((am_c a).tdiv (am_c b)) := by
  apply Int32.toInt_inj.mp
  rw [Int32.toInt_div, am_toInt, am_toInt, Int32.toInt_ofInt]
theorem am_div64 (a b : Int) : Int64.ofInt a / Int64.ofInt b = Int64.ofInt ((am_d a).tdiv (am_d b)) := by
  apply Int64.toInt_inj.mp
  rw [Int64.toInt_div, am_toInt64, am_toInt64, Int64.toInt_ofInt]
theorem am_rem32 (a b : Int) : Int32.ofInt a - Int32.ofInt a / Int32.ofInt b * Int32.ofInt b = Int32.ofInt ((am_c a).tmod (am_c b)) := by
  rw [am_div32, ← am_can a, ← am_can b]
  simp only [am_can, am_toInt]
  rw [Int.tmod_def, Int32.ofInt_sub, Int32.ofInt_mul, am_can, am_can, Int32.mul_comm]
theorem am_rem64 (a b : Int) : Int64.ofInt a - Int64.ofInt a / Int64.ofInt b * Int64.ofInt b = Int64.ofInt ((am_d a).tmod (am_d b)) := by
  rw [am_div64, Int.tmod_def, Int64.ofInt_sub, Int64.ofInt_mul, am_can64, am_can64, Int64.mul_comm]
theorem am_i2l (z : Int) : (Int32.ofInt z).toInt64 = Int64.ofInt (am_c z) := by
  rw [← am_toInt]; exact (Int64.ofInt_int32ToInt _).symm
theorem am_lcmp (u v : Int) : lg_cmp (Int64.ofInt u) (Int64.ofInt v) = Int32.ofInt (if am_d v < am_d u then 1 else if am_d u = am_d v then 0 else -1) := by
  unfold lg_cmp
  simp only [gt_iff_lt, Int64.lt_iff_toInt_lt, ← Int64.toInt_inj, am_toInt64]
  split
  · rfl
  · split <;> rfl
theorem am_ofNat (n : Nat) : Int32.ofNat n = Int32.ofInt (n : Int) := Int32.ofInt_eq_ofNat.symm
theorem am_ws_at {ad : Nat → Nat} {ca : Nat → ClassId} {μ : am_N} {k : Nat} {q : Nat × List Nat} (h : am_sh[k]? = some q) : (am_ws ad ca μ)[k]? = some (ad k, am_ce ad ca k q (μ k)) := by
  unfold am_ws
  rw [List.getElem?_mapIdx, h]; rfl
theorem am_ws_set {ad : Nat → Nat} {ca : Nat → ClassId} {μ : am_N} {k j : Nat} {v : Int} {q : Nat × List Nat} {e : va_E} (h : am_sh[k]? = some q) (he : e = am_ce ad ca k q (am_up μ k j v k)) : (am_ws ad ca μ).set k (ad k, e) = am_ws ad ca (am_up μ k j v) := by
  have hk : k < am_sh.length := (List.getElem?_eq_some_iff.mp h).1
  apply List.ext_getElem?
  intro i
  by_cases hi : k = i
  · subst hi
    rw [List.getElem?_set_self (by unfold am_ws; rw [List.length_mapIdx]; exact hk), am_ws_at h, he]
  · rw [List.getElem?_set_ne hi]
    unfold am_ws
    rw [List.getElem?_mapIdx, List.getElem?_mapIdx]
    cases hq : am_sh[i]? with
    | none => rfl
    | some w =>
      have e1 : am_up μ k j v i = μ i := by
        funext b
        unfold am_up
        rw [if_neg (fun z => hi z.1.symm)]
      simp only [Option.map_some, e1]
theorem am_cat_rv (ad : Nat → Nat) (v : am_V) : (am_rv ad v).category = am_cat v := by
  rcases v with z | z | k <;> rfl
theorem am_cats (ad : Nat → Nat) (st : List am_V) : ((st.map (am_rv ad)).map fun v => v.category).sum = (st.map am_cat).sum := by
  induction st with
  | nil => rfl
  | cons v r ih => simp only [List.map_cons, List.sum_cons, am_cat_rv, ih]
/-- locals: the list that the kit's rows speak of -/
def am_prs (ad : Nat → Nat) (lv : List (Option am_V)) : List (Nat × Value) := (List.range lv.length).filterMap (fun i => (lv[i]?).join.map (fun v => (i, am_rv ad v)))
theorem am_prs_in {ad : Nat → Nat} {lv : List (Option am_V)} {q : Nat × Value} : q ∈ am_prs ad lv ↔ ∃ v, lv[q.1]? = some (some v) ∧ q.2 = am_rv ad v := by
  unfold am_prs
  rw [List.mem_filterMap]
  constructor
  · rintro ⟨i, hi, h⟩
    cases hl : lv[i]? with
    | none => rw [hl] at h; simp at h
    | some o =>
      cases o with
      | none => rw [hl] at h; simp at h
      | some v =>
        rw [hl] at h
        simp only [Option.join_some, Option.map_some, Option.some.injEq] at h
        subst h
        exact ⟨v, hl, rfl⟩
  · rintro ⟨v, h1, h2⟩
    refine ⟨q.1, List.mem_range.mpr (List.getElem?_eq_some_iff.mp h1).1, ?_⟩
    rw [h1]
    simp only [Option.join_some, Option.map_some, ← h2]
theorem am_L.has {ls : Array Slot} {nL : Nat} {ad : Nat → Nat} {lv : List (Option am_V)} (h : am_L ls nL ad lv) : lv_has ls nL (am_prs ad lv) :=
  ⟨h.1, h.2.1, fun q hq => by obtain ⟨v, h1, h2⟩ := am_prs_in.mp hq; rw [h2]; exact h.2.2.1 _ _ h1⟩
theorem am_L.of {ls : Array Slot} {nL : Nat} {ad : Nat → Nat} {lv : List (Option am_V)} {l : List (Nat × Value)} (h : lv_has ls nL l) (hn : lv.length = nL) (hl : ∀ (i : Nat) (v : am_V), lv[i]? = some (some v) → (i, am_rv ad v) ∈ l) : am_L ls nL ad lv :=
  ⟨h.1, h.2.1, fun i v hv => h.2.2 _ (hl i v hv), hn⟩
theorem am_nl_ok {lv : List (Option am_V)} {i j : Nat} {v : am_V} (h : am_nl lv i = true) (hv : lv[j]? = some (some v)) (hj : j + 1 = i) (ad : Nat → Nat) : ¬ (am_rv ad v).category = 2 := by
  subst hj
  rw [am_cat_rv]
  unfold am_nl at h
  simp only [hv] at h
  rcases v with z | z | k
  · simp [am_cat]
  · simp at h
  · simp [am_cat]
theorem am_L1 {nL i : Nat} {ad : Nat → Nat} {lv : List (Option am_V)} {v : am_V} {ls' : Array Slot} (hlen : lv.length = nL) (hn : am_nl lv i = true) (h : lv_has ls' nL ((i, am_rv ad v) :: (am_prs ad lv).filter (fun q => !(q.1 == i) && !(q.1 + 1 == i && q.2.category == 2)))) : am_L ls' nL ad (lv.set i (some v)) := by
  refine am_L.of h (by simp only [List.length_set]; exact hlen) fun j w hw => ?_
  by_cases hj : i = j
  · subst hj
    rw [List.getElem?_set] at hw
    simp only [if_true] at hw
    split at hw
    · have e : v = w := by simpa using hw
      subst e
      exact List.mem_cons_self
    · cases hw
  · rw [List.getElem?_set_ne hj] at hw
    refine List.mem_cons_of_mem _ (List.mem_filter.mpr ⟨am_prs_in.mpr ⟨w, hw, rfl⟩, ?_⟩)
    have h2 : ¬ (j + 1 = i ∧ (am_rv ad w).category = 2) := fun z => am_nl_ok hn hw z.1 ad z.2
    have h1 : ¬ j = i := fun z => hj z.symm
    simp only [Bool.and_eq_true, Bool.not_eq_true', beq_eq_false_iff_ne, ne_eq, Bool.and_eq_false_iff]
    refine ⟨h1, ?_⟩
    by_cases hx : j + 1 = i
    · exact Or.inr (fun z => h2 ⟨hx, z⟩)
    · exact Or.inl hx
theorem am_L2 {nL i : Nat} {ad : Nat → Nat} {lv : List (Option am_V)} {v : am_V} {ls' : Array Slot} (hlen : lv.length = nL) (hn : am_nl lv i = true) (h : lv_has ls' nL ((i, am_rv ad v) :: (am_prs ad lv).filter (fun q => !(q.1 == i) && (!(q.1 == i + 1) && !(q.1 + 1 == i && q.2.category == 2))))) : am_L ls' nL ad ((lv.set i (some v)).set (i + 1) none) := by
  refine am_L.of h (by simp only [List.length_set]; exact hlen) fun j w hw => ?_
  by_cases hj1 : i + 1 = j
  · subst hj1
    rw [List.getElem?_set] at hw
    simp only [if_true] at hw
    split at hw <;> simp at hw
  · rw [List.getElem?_set_ne hj1] at hw
    by_cases hj : i = j
    · subst hj
      rw [List.getElem?_set] at hw
      simp only [if_true] at hw
      split at hw
      · have e : v = w := by simpa using hw
        subst e
        exact List.mem_cons_self
      · cases hw
    · rw [List.getElem?_set_ne hj] at hw
      refine List.mem_cons_of_mem _ (List.mem_filter.mpr ⟨am_prs_in.mpr ⟨w, hw, rfl⟩, ?_⟩)
      have h2 : ¬ (j + 1 = i ∧ (am_rv ad w).category = 2) := fun z => am_nl_ok hn hw z.1 ad z.2
      have h1 : ¬ j = i := fun z => hj z.symm
      have h3 : ¬ j = i + 1 := fun z => hj1 z.symm
      simp only [Bool.and_eq_true, Bool.not_eq_true', beq_eq_false_iff_ne, ne_eq, Bool.and_eq_false_iff]
      refine ⟨h1, h3, ?_⟩
      by_cases hx : j + 1 = i
      · exact Or.inr (fun z => h2 ⟨hx, z⟩)
      · exact Or.inl hx
/-- fields of an object of the world -/
theorem am_ob {ad : Nat → Nat} {ca : Nat → ClassId} {μ : am_N} {k t c : Nat} {fs : List Nat} (h : am_sh[k]? = some (t, fs)) (ht : t = c + 2) : (am_ws ad ca μ)[k]? = some (ad k, .inr (c, fs.mapIdx (am_fv ad (μ k)))) := by
  rw [am_ws_at h]; subst ht; rfl
theorem am_ob_at {ad : Nat → Nat} {f : Nat → Int} {fs : List Nat} {b x : Nat} (h : fs[b]? = some x) : (fs.mapIdx (am_fv ad f))[b]? = some (am_fv ad f b x) := by
  rw [List.getElem?_mapIdx, h]; rfl
theorem am_ob_set {ad : Nat → Nat} {ca : Nat → ClassId} {μ : am_N} {k t c b : Nat} {fs : List Nat} {v : Int} (h : am_sh[k]? = some (t, fs)) (ht : t = c + 2) (hb : fs[b]? = some 0) :
    (am_ws ad ca μ).set k (ad k, .inr (c, (fs.mapIdx (am_fv ad (μ k))).set b (.int (Int32.ofInt v)))) = am_ws ad ca (am_up μ k b v) := by
  refine am_ws_set h ?_
  subst ht
  show _ = (Sum.inr (c, fs.mapIdx (am_fv ad (am_up μ k b v k))) : va_E)
  congr 2
  apply List.ext_getElem?
  intro i
  by_cases hi : b = i
  · subst hi
    rw [List.getElem?_set_self (by rw [List.length_mapIdx]; exact (List.getElem?_eq_some_iff.mp hb).1), am_ob_at hb]
    simp [am_fv, am_up]
  · rw [List.getElem?_set_ne hi, List.getElem?_mapIdx, List.getElem?_mapIdx]
    cases hq : fs[i]? with
    | none => rfl
    | some w =>
      cases w with
      | zero => simp [am_fv, am_up, if_neg (fun z : i = b => hi z.symm)]
      | succ w => rfl
theorem am_ar {ad : Nat → Nat} {ca : Nat → ClassId} {μ : am_N} {k n : Nat} {r : List Nat} (h : am_sh[k]? = some (0, n :: r)) : (am_ws ad ca μ)[k]? = some (ad k, .inl (ca k, n, .inl (fun j => Int32.ofInt (μ k j)))) := by
  rw [am_ws_at h]; rfl
theorem am_ar_set {ad : Nat → Nat} {ca : Nat → ClassId} {μ : am_N} {k n i : Nat} {r : List Nat} {v : Int} (h : am_sh[k]? = some (0, n :: r)) :
    (am_ws ad ca μ).set k (ad k, .inl (ca k, n, .inl (upd (fun j => Int32.ofInt (μ k j)) i (Int32.ofInt v)))) = am_ws ad ca (am_up μ k i v) := by
  refine am_ws_set h ?_
  show _ = (Sum.inl (ca k, n, Sum.inl (fun j => Int32.ofInt (am_up μ k i v k j))) : va_E)
  congr 4
  funext j
  by_cases hj : j = i <;> simp [upd, am_up, hj]
theorem am_arq {ad : Nat → Nat} {ca : Nat → ClassId} {μ : am_N} {k : Nat} {fs : List Nat} (h : am_sh[k]? = some (1, fs)) : (am_ws ad ca μ)[k]? = some (ad k, .inl (ca k, fs.length, .inr (.inr (.inr (.inr (fun i => (fs[i]?).map ad)))))) := by
  rw [am_ws_at h]; rfl
theorem am_tag_ok {k c : Nat} (h : am_tag k = c + 2) : ∃ fs, am_sh[k]? = some (c + 2, fs) := by
  unfold am_tag at h
  cases hq : am_sh[k]? with
  | none => rw [hq] at h; simp at h
  | some q => rw [hq] at h; exact ⟨q.2, by rw [← h]; rfl⟩
end
section
/-! rows of the abstract machine, one a kind of instruction -/

theorem am_ifb {b : Bool} {P : Prop} (h : am_if b P) : b = true ∧ P := by
  cases b with
  | true => exact ⟨rfl, h⟩
  | false => exact h.elim
theorem am_bb {a b : Bool} (h : (a && b) = true) : a = true ∧ b = true := Bool.and_eq_true_iff.mp h
theorem am_br2_iff {b : Nat} {x y : Int} {A B : Prop} : am_br2 b x y A B ↔ (am_co2 b x y → A) ∧ (¬ am_co2 b x y → B) := by
  unfold am_br2 am_co2
  split <;> simp only [Classical.not_not]
theorem am_ne0 {v : Int} (h : am_c v ≠ 0) : ¬ Int32.ofInt v = 0 := fun q => h (by rw [← am_0] at q; rw [(am_eq _ _).mp q, am_c0])
theorem am_ne064 {v : Int} (h : am_d v ≠ 0) : ¬ Int64.ofInt v = 0 := fun q => h (by rw [← am_toInt64, q]; rfl)
theorem am_nz {v : Int} (h : v = 0 ∨ v = 1) : narrow .boolean (.int (Int32.ofInt v)) = .int (Int32.ofInt v) := by
  rcases h with rfl | rfl <;> decide +kernel
theorem am_fz {v : Int} (h : v = 0 ∨ v = 1) : fits .boolean (.int (Int32.ofInt v)) = true := by
  rcases h with rfl | rfl <;> decide +kernel
theorem am_c_eq {x : Int} : (Int32.ofInt x = 0) ↔ am_co2 0 (am_c x) 0 := by
  rw [← am_0]; simp only [am_eq, am_lt, am_le, am_c0, am_co2]
theorem am_n_eq {x : Int} : (¬ Int32.ofInt x = 0) ↔ ¬ am_co2 0 (am_c x) 0 := by
  rw [← am_0]; simp only [am_eq, am_lt, am_le, am_c0, am_co2, Classical.not_not]
theorem am_c2_eq {x y : Int} : (Int32.ofInt x = Int32.ofInt y) ↔ am_co2 0 (am_c x) (am_c y) := by
  simp only [am_eq, am_lt, am_le, am_co2]
theorem am_n2_eq {x y : Int} : (¬ Int32.ofInt x = Int32.ofInt y) ↔ ¬ am_co2 0 (am_c x) (am_c y) := by
  simp only [am_eq, am_lt, am_le, am_co2, Classical.not_not]
theorem am_c_ne {x : Int} : (¬ Int32.ofInt x = 0) ↔ am_co2 1 (am_c x) 0 := by
  rw [← am_0]; simp only [am_eq, am_lt, am_le, am_c0, am_co2]
theorem am_n_ne {x : Int} : (Int32.ofInt x = 0) ↔ ¬ am_co2 1 (am_c x) 0 := by
  rw [← am_0]; simp only [am_eq, am_lt, am_le, am_c0, am_co2, Classical.not_not]
theorem am_c2_ne {x y : Int} : (¬ Int32.ofInt x = Int32.ofInt y) ↔ am_co2 1 (am_c x) (am_c y) := by
  simp only [am_eq, am_lt, am_le, am_co2]
theorem am_n2_ne {x y : Int} : (Int32.ofInt x = Int32.ofInt y) ↔ ¬ am_co2 1 (am_c x) (am_c y) := by
  simp only [am_eq, am_lt, am_le, am_co2, Classical.not_not]
theorem am_c_lt {x : Int} : (Int32.ofInt x < 0) ↔ am_co2 2 (am_c x) 0 := by
  rw [← am_0]; simp only [am_eq, am_lt, am_le, am_c0, am_co2]
theorem am_n_lt {x : Int} : (¬ Int32.ofInt x < 0) ↔ ¬ am_co2 2 (am_c x) 0 := by
  rw [← am_0]; simp only [am_eq, am_lt, am_le, am_c0, am_co2, Classical.not_not]
theorem am_c2_lt {x y : Int} : (Int32.ofInt x < Int32.ofInt y) ↔ am_co2 2 (am_c x) (am_c y) := by
  simp only [am_eq, am_lt, am_le, am_co2]
theorem am_n2_lt {x y : Int} : (¬ Int32.ofInt x < Int32.ofInt y) ↔ ¬ am_co2 2 (am_c x) (am_c y) := by
  simp only [am_eq, am_lt, am_le, am_co2, Classical.not_not]
theorem am_c_ge {x : Int} : (0 ≤ Int32.ofInt x) ↔ am_co2 3 (am_c x) 0 := by
  rw [← am_0]; simp only [am_eq, am_lt, am_le, am_c0, am_co2]
theorem am_n_ge {x : Int} : (¬ 0 ≤ Int32.ofInt x) ↔ ¬ am_co2 3 (am_c x) 0 := by
  rw [← am_0]; simp only [am_eq, am_lt, am_le, am_c0, am_co2, Classical.not_not]
theorem am_c2_ge {x y : Int} : (Int32.ofInt y ≤ Int32.ofInt x) ↔ am_co2 3 (am_c x) (am_c y) := by
  simp only [am_eq, am_lt, am_le, am_co2]
theorem am_n2_ge {x y : Int} : (¬ Int32.ofInt y ≤ Int32.ofInt x) ↔ ¬ am_co2 3 (am_c x) (am_c y) := by
  simp only [am_eq, am_lt, am_le, am_co2, Classical.not_not]
theorem am_c_gt {x : Int} : (0 < Int32.ofInt x) ↔ am_co2 4 (am_c x) 0 := by
  rw [← am_0]; simp only [am_eq, am_lt, am_le, am_c0, am_co2]
theorem am_n_gt {x : Int} : (¬ 0 < Int32.ofInt x) ↔ ¬ am_co2 4 (am_c x) 0 := by
  rw [← am_0]; simp only [am_eq, am_lt, am_le, am_c0, am_co2, Classical.not_not]
theorem am_c2_gt {x y : Int} : (Int32.ofInt y < Int32.ofInt x) ↔ am_co2 4 (am_c x) (am_c y) := by
  simp only [am_eq, am_lt, am_le, am_co2]
theorem am_n2_gt {x y : Int} : (¬ Int32.ofInt y < Int32.ofInt x) ↔ ¬ am_co2 4 (am_c x) (am_c y) := by
  simp only [am_eq, am_lt, am_le, am_co2, Classical.not_not]
theorem am_c_le {x : Int} : (Int32.ofInt x ≤ 0) ↔ am_co2 5 (am_c x) 0 := by
  rw [← am_0]; simp only [am_eq, am_lt, am_le, am_c0, am_co2]
theorem am_n_le {x : Int} : (¬ Int32.ofInt x ≤ 0) ↔ ¬ am_co2 5 (am_c x) 0 := by
  rw [← am_0]; simp only [am_eq, am_lt, am_le, am_c0, am_co2, Classical.not_not]
theorem am_c2_le {x y : Int} : (Int32.ofInt x ≤ Int32.ofInt y) ↔ am_co2 5 (am_c x) (am_c y) := by
  simp only [am_eq, am_lt, am_le, am_co2]
theorem am_n2_le {x y : Int} : (¬ Int32.ofInt x ≤ Int32.ofInt y) ↔ ¬ am_co2 5 (am_c x) (am_c y) := by
  simp only [am_eq, am_lt, am_le, am_co2, Classical.not_not]

theorem am_sw_tb {K : Nat → Prop} {pc d : Nat} {v : Int} : ∀ {lo : Int} {os : List Int}, am_sw (am_tb pc lo os) v d K → (∃ o, (¬ v < lo ∧ os[(v - lo).toNat]? = some o) ∧ K ((pc : Int) + o).toNat) ∨ ((v < lo ∨ lo + (os.length : Int) ≤ v) ∧ K d)
  | lo, [], h => Or.inr ⟨by simp only [List.length_nil]; omega, h⟩
  | lo, o :: r, h => by
    obtain ⟨h1, h2⟩ := h
    by_cases e : v = lo
    · exact Or.inl ⟨o, ⟨by omega, by rw [e]; simp⟩, h1 e⟩
    · rcases am_sw_tb (h2 e) with ⟨o', ⟨q1, q2⟩, q3⟩ | ⟨q1, q2⟩
      · refine Or.inl ⟨o', ⟨by omega, ?_⟩, q3⟩
        have e2 : (v - lo).toNat = (v - (lo + 1)).toNat + 1 := by omega
        rw [e2, List.getElem?_cons_succ]
        exact q2
      · refine Or.inr ⟨?_, q2⟩
        simp only [List.length_cons]
        omega
theorem am_sw_lk {K : Nat → Prop} {pc : Nat} {d v : Int} (h0 : 0 ≤ (pc : Int) + d) : ∀ {ps : List (Int × Int)}, (∀ o ∈ ps, 0 ≤ (pc : Int) + o.2) → am_sw (ps.map (fun o => (o.1, ((pc : Int) + o.2).toNat))) v ((pc : Int) + d).toNat K → K ((pc : Int) + Op.lookupswitch.offset ps d v).toNat ∧ 0 ≤ (pc : Int) + Op.lookupswitch.offset ps d v
  | [], _, h => ⟨h, h0⟩
  | (a, o) :: r, h1, h => by
    obtain ⟨q1, q2⟩ := h
    rw [Op.lookupswitch.offset_cons]
    by_cases e : a = v
    · rw [if_pos e]
      exact ⟨q1 e.symm, h1 (a, o) List.mem_cons_self⟩
    · rw [if_neg e]
      exact am_sw_lk h0 (fun o' ho' => h1 o' (List.mem_cons_of_mem _ ho')) (q2 (fun z => e z.symm))
theorem am_fl_all : am_fl.all (fun f => decide (f.2.2.1 < 8) && decide (f.2.2.2 < am_nf f.2.2.1)) = true := by decide +kernel
theorem am_lay_in : ∀ c, c < 8 → ∀ w ∈ u_ws (am_cn c) (am_cT c) (am_nf c), w ∈ am_big := by
  intro c hc
  match c, hc with
  | 0, _ => exact am_lay_in_0
  | 1, _ => exact am_lay_in_1
  | 2, _ => exact am_lay_in_2
  | 3, _ => exact am_lay_in_3
  | 4, _ => exact am_lay_in_4
  | 5, _ => exact am_lay_in_5
  | 6, _ => exact am_lay_in_6
  | 7, _ => exact am_lay_in_7
theorem am_vw : ∀ c, c < 8 → vwCl[c]? = some (am_cn c, am_cT c, am_nf c) := by
  intro c hc
  match c, hc with
  | 0, _ => rfl
  | 1, _ => rfl
  | 2, _ => rfl
  | 3, _ => rfl
  | 4, _ => rfl
  | 5, _ => rfl
  | 6, _ => rfl
  | 7, _ => rfl
theorem am_fl_ok {o k ci b : Nat} (h : (o, k, ci, b) ∈ am_fl) : vwCl[ci]? = some (am_cn ci, am_cT ci, am_nf ci) ∧ b < am_nf ci ∧ ∀ w ∈ u_ws (am_cn ci) (am_cT ci) (am_nf ci), w ∈ am_big := by
  have q := List.all_eq_true.mp am_fl_all _ h
  simp only [Bool.and_eq_true, decide_eq_true_eq] at q
  exact ⟨am_vw ci q.1, q.2, am_lay_in ci q.1⟩
theorem am_ty_ok {o k ci b : Nat} (h : (o, k, ci, b) ∈ am_fl) : (∀ j, j < am_nf ci → parseFieldDescriptor (am_cT ci j).2.2.1 = some (am_ty ci j)) ∧ ∀ a, a < am_nf ci → ∀ b, b < am_nf ci → a ≠ b → (am_cT ci a).2.1 ≠ (am_cT ci b).2.1 := by
  have q := List.all_eq_true.mp am_fl_all _ h
  simp only [Bool.and_eq_true, decide_eq_true_eq] at q
  match ci, q.1 with
  | 0, _ => exact ⟨tyX0_ok, nmX0⟩
  | 1, _ => exact ⟨tyX1_ok, nmX1⟩
  | 2, _ => exact ⟨tyX2_ok, nmX2⟩
  | 3, _ => exact ⟨tyX3_ok, nmX3⟩
  | 4, _ => exact ⟨tyX4_ok, nmX4⟩
  | 5, _ => exact ⟨tyX5_ok, nmX5⟩
  | 6, _ => exact ⟨tyX6_ok, nmX6⟩
  | 7, _ => exact ⟨tyX7_ok, nmX7⟩
theorem am_md_ok {z : Nat} (h0 : 0 < z) (h1 : z < am_ny) : (am_md z).1.cls = am_cn (am_ow z) ∧ ((am_md z).1.cls ≠ "java/lang/invoke/MethodHandle" ∧ (am_md z).1.cls ≠ "java/lang/invoke/VarHandle") ∧ (parseMethodDescriptor (am_md z).1.desc).map (fun d => d.parameters.length) = some (if am_st z = true then am_na z else am_na z - 1) ∧
    ((am_st z = false → Cond.instanceMethod (am_md z).1 ∈ am_big) ∧ (am_st z = false → Cond.selects (am_md z).1.cls (am_md z).1 (am_md z).1 ∈ am_big)) ∧ Cond.initialized (am_md z).1.cls ∈ am_big ∧ am_ow z < 8 := by
  have hin := am_md_in h0 h1
  have q := List.all_eq_true.mp am_okm_all _ hin
  unfold am_okm at q
  simp only [Bool.and_eq_true, decide_eq_true_eq, beq_iff_eq] at q
  obtain ⟨⟨⟨⟨⟨⟨q1, q2⟩, q3⟩, q4⟩, q5⟩, q6⟩, q7⟩ := q
  refine ⟨q1, ⟨q2, q3⟩, q6, ⟨fun h => ?_, fun h => ?_⟩, ?_, q5⟩
  · have w := am_inm_in _ hin
    unfold am_inw at w
    rwa [if_neg (by show ¬ am_st z = true; rw [h]; decide)] at w
  · exact am_se_in _ hin (by show (!am_st z) = true; rw [h]; rfl)
  · rw [q1]; exact am_ini_in q5
theorem am_md_st {z : Nat} (h0 : 0 < z) (h1 : z < am_ny) (h : am_st z = true) : Cond.static (am_md z).1 ∈ am_big := by
  have w := am_inm_in _ (am_md_in h0 h1)
  unfold am_inw at w
  rwa [if_pos (by show am_st z = true; exact h)] at w
theorem am_md_cd {z : Nat} (h0 : 0 < z) (h1 : z < am_ny) : Cond.code (am_md z).1 (am_bt z) (am_ml z) (am_re z) ∈ am_big := am_cd_in _ (am_md_in h0 h1)
theorem am_md_pl {z : Nat} (h0 : 0 < z) (h1 : z < am_ny) : plainName (am_md z).1.cls = true := by
  have q := List.all_eq_true.mp am_okm_all _ (am_md_in h0 h1)
  unfold am_okm at q
  simp only [Bool.and_eq_true, decide_eq_true_eq, beq_iff_eq] at q
  exact q.1.1.1.2
theorem am_goodw {z : Nat} (h0 : 0 < z) (h1 : z < am_ny) : GoodIn am_big (am_w z) := by
  intro w hw
  have hm : w ∈ am_big := by
    rcases List.mem_cons.mp hw with rfl | hw
    · exact am_md_cd h0 h1
    · exact hw
  exact ⟨hm, good_of_word (List.all_eq_true.mp am_big_good _ hm)⟩
theorem am_blind {D : va_G} {ad : Nat → Nat} {ca : Nat → ClassId} {tys : List (ClassId × FieldType)} {B0 : Nat} {args : List am_V} {μ : am_N} : FrameBlind (am_Pc D ad ca tys B0 args μ) := by
  intro a U g mk q
  obtain ⟨q0, q1, qP, qK, qD⟩ := q
  exact ⟨q0, q1, qP, va_K.moved (u := U) (U := U.calling g mk a) (Vm.Alike.refl U.vm) qK, qD⟩
theorem am_recv {s : State} {H : Heap} {D : va_G} {ad : Nat → Nat} {ca : Nat → ClassId} {μ : am_N} {k c : Nat} {fs : List Nat} {tys : List (ClassId × FieldType)} (hc : c < 8) (hK : va_K D vwCl tys s) (hP : va_P D vwCl (am_ws ad ca μ) H) (h : am_sh[k]? = some (c + 2, fs)) : ∃ cell : Cell, H[ad k]? = some cell ∧ cell.vm.isStatics = false ∧ s.vm.findClass (am_cn c) = some cell.cls :=
  va_recv hK hP (am_vw c hc) (am_ob h rfl)
theorem am_callW {p : Program} {l : Launch} {e : Env} {R : Room} {s : State} {m : MethodId} {args : Array Value} {below : List Frame} {meth : Method} {c : Code} {H : Heap} {locs : List Loc} {cells slots : Nat} {Qf : State → Prop} {pc : Nat} {ls : Array Slot} {rest st0 : List Value} {a : Array Value} {B0 : Nat} {Q : Option am_V → am_N → Prop} {D : va_G} {ad : Nat → Nat} {ca : Nat → ClassId}
    (hr : va_Run p l e R s m args below meth c H locs cells slots 0 0 (F0 m pc ls st0) rest (am_Q Q D ad ca B0 a) (am_A B0)) (hS : va_S (am_A B0) s.heap H locs)
    (kk : ∀ (r : Option am_V) (μ' : am_N) (H1 : Heap) (locs1 : List Loc), Q r μ' → va_P D vwCl (am_ws ad ca μ') H1 → va_D (am_A B0) (am_ws ad ca μ') → va_S (am_A B0) s.heap H1 locs1 → W p l e R s m args below meth c H1 locs1 cells slots Qf (F0 m (pc + 3) ls ((r.map (am_rv ad)).toList ++ rest))) : W p l e R s m args below meth c H locs cells slots Qf (F0 m pc ls st0) := by
  intro T hT X
  obtain ⟨v, st₀, t, T', L, h0, X', hL, e1, e2, ⟨⟨r, μ', hv, hq, hP', hD'⟩, hz, hk⟩, st⟩ := hr T hT X
  have hv := Outcome.returned.inj hv
  subst hv
  rw [h0] at hz hk
  obtain ⟨t2, a1, b1⟩ := kk r μ' T'.heap (locs ++ L) hq (by rw [e1]; exact hP') hD'
    ⟨Nat.le_trans hS.1 (by rw [e1]; exact hz), fun q h1 h2 => by rw [e1, hk q (Nat.lt_of_lt_of_le h1 hS.1) h2]; exact hS.2.1 q h1 h2, fun q hq => by
      rcases List.mem_append.mp hq with h | h
      · exact hS.2.2 q h
      · exact hL q h⟩ T' rfl X'
  exact ⟨t2, st t2 a1, b1⟩
theorem am_s_iconst {l : Launch} {L : Nat} {xs : Nat → Int} {y : Nat} {Q : Option am_V → am_N → Prop} {K : Nat → List (Option am_V) → List am_V → am_N → Prop} {pc : Nat} {lv : List (Option am_V)} {st : List am_V} {μ : am_N} {n : Int} (hk : ∀ pc lv st μ, K pc lv st μ → am_AW l L xs y Q pc lv st μ) (hd : decode (am_bt y) pc = .ok (.iconst n, 1)) (h : K (pc + 1) lv (.inl n :: st) μ) : am_AW l L xs y Q pc lv st μ := by
  intro p e R s m args below meth c D ad ca tys B0 cells slots Qf E hret H locs ls hL hP hD hS
  exact lv_iconst E.1 E.2.1 hd rfl (hk _ _ _ _ h p e R s m args below meth c D ad ca tys B0 cells slots Qf E hret H locs ls hL hP hD hS)
theorem am_s_bipush {l : Launch} {L : Nat} {xs : Nat → Int} {y : Nat} {Q : Option am_V → am_N → Prop} {K : Nat → List (Option am_V) → List am_V → am_N → Prop} {pc : Nat} {lv : List (Option am_V)} {st : List am_V} {μ : am_N} {n : Int} (hk : ∀ pc lv st μ, K pc lv st μ → am_AW l L xs y Q pc lv st μ) (hd : decode (am_bt y) pc = .ok (.bipush n, 2)) (h : K (pc + 2) lv (.inl (Int8.ofInt n).toInt32.toInt :: st) μ) : am_AW l L xs y Q pc lv st μ := by
  intro p e R s m args below meth c D ad ca tys B0 cells slots Qf E hret H locs ls hL hP hD hS
  exact lv_bipush E.1 E.2.1 hd (am_back _).symm (hk _ _ _ _ h p e R s m args below meth c D ad ca tys B0 cells slots Qf E hret H locs ls hL hP hD hS)
theorem am_s_sipush {l : Launch} {L : Nat} {xs : Nat → Int} {y : Nat} {Q : Option am_V → am_N → Prop} {K : Nat → List (Option am_V) → List am_V → am_N → Prop} {pc : Nat} {lv : List (Option am_V)} {st : List am_V} {μ : am_N} {n : Int} (hk : ∀ pc lv st μ, K pc lv st μ → am_AW l L xs y Q pc lv st μ) (hd : decode (am_bt y) pc = .ok (.sipush n, 3)) (h : K (pc + 3) lv (.inl (Int16.ofInt n).toInt32.toInt :: st) μ) : am_AW l L xs y Q pc lv st μ := by
  intro p e R s m args below meth c D ad ca tys B0 cells slots Qf E hret H locs ls hL hP hD hS
  exact lv_sipush E.1 E.2.1 hd (am_back _).symm (hk _ _ _ _ h p e R s m args below meth c D ad ca tys B0 cells slots Qf E hret H locs ls hL hP hD hS)
theorem am_s_lconst {l : Launch} {L : Nat} {xs : Nat → Int} {y : Nat} {Q : Option am_V → am_N → Prop} {K : Nat → List (Option am_V) → List am_V → am_N → Prop} {pc : Nat} {lv : List (Option am_V)} {st : List am_V} {μ : am_N} {n : Fin 2} (hk : ∀ pc lv st μ, K pc lv st μ → am_AW l L xs y Q pc lv st μ) (hd : decode (am_bt y) pc = .ok (.lconst n, 1)) (h : K (pc + 1) lv (.inr (.inl ((n : Nat) : Int)) :: st) μ) : am_AW l L xs y Q pc lv st μ := by
  intro p e R s m args below meth c D ad ca tys B0 cells slots Qf E hret H locs ls hL hP hD hS
  exact lv_lconst E.1 E.2.1 hd Int64.ofInt_eq_ofNat.symm (hk _ _ _ _ h p e R s m args below meth c D ad ca tys B0 cells slots Qf E hret H locs ls hL hP hD hS)
theorem am_s_ldc {l : Launch} {L : Nat} {xs : Nat → Int} {y : Nat} {Q : Option am_V → am_N → Prop} {K : Nat → List (Option am_V) → List am_V → am_N → Prop} {pc : Nat} {lv : List (Option am_V)} {st : List am_V} {μ : am_N} {k : Nat} {v : Int} (hk : ∀ pc lv st μ, K pc lv st μ → am_AW l L xs y Q pc lv st μ) (hd : decode (am_bt y) pc = .ok (.ldc k, 2)) (hf : (am_ow y, k, v) ∈ am_co) (h : K (pc + 2) lv (.inl v :: st) μ) : am_AW l L xs y Q pc lv st μ := by
  intro p e R s m args below meth c D ad ca tys B0 cells slots Qf E hret H locs ls hL hP hD hS
  exact lv_ldc E.1 E.2.1 E.2.2.2.1 (E.2.2.2.2.1 _ (am_co_in _ hf)) hd (hk _ _ _ _ h p e R s m args below meth c D ad ca tys B0 cells slots Qf E hret H locs ls hL hP hD hS)
theorem am_s_ldc_w {l : Launch} {L : Nat} {xs : Nat → Int} {y : Nat} {Q : Option am_V → am_N → Prop} {K : Nat → List (Option am_V) → List am_V → am_N → Prop} {pc : Nat} {lv : List (Option am_V)} {st : List am_V} {μ : am_N} {k : Nat} {v : Int} (hk : ∀ pc lv st μ, K pc lv st μ → am_AW l L xs y Q pc lv st μ) (hd : decode (am_bt y) pc = .ok (.ldc_w k, 3)) (hf : (am_ow y, k, v) ∈ am_co) (h : K (pc + 3) lv (.inl v :: st) μ) : am_AW l L xs y Q pc lv st μ := by
  intro p e R s m args below meth c D ad ca tys B0 cells slots Qf E hret H locs ls hL hP hD hS
  exact lv_ldcw E.1 E.2.1 E.2.2.2.1 (E.2.2.2.2.1 _ (am_co_in _ hf)) hd (hk _ _ _ _ h p e R s m args below meth c D ad ca tys B0 cells slots Qf E hret H locs ls hL hP hD hS)
theorem am_s_ldc2 {l : Launch} {L : Nat} {xs : Nat → Int} {y : Nat} {Q : Option am_V → am_N → Prop} {K : Nat → List (Option am_V) → List am_V → am_N → Prop} {pc : Nat} {lv : List (Option am_V)} {st : List am_V} {μ : am_N} {k : Nat} {v : Int} (hk : ∀ pc lv st μ, K pc lv st μ → am_AW l L xs y Q pc lv st μ) (hd : decode (am_bt y) pc = .ok (.ldc2_w k, 3)) (hf : (am_ow y, k, v) ∈ am_cl) (h : K (pc + 3) lv (.inr (.inl v) :: st) μ) : am_AW l L xs y Q pc lv st μ := by
  intro p e R s m args below meth c D ad ca tys B0 cells slots Qf E hret H locs ls hL hP hD hS
  exact lv_ldc2 E.1 E.2.1 E.2.2.2.1 (E.2.2.2.2.1 _ (am_cl_in _ hf)) hd (hk _ _ _ _ h p e R s m args below meth c D ad ca tys B0 cells slots Qf E hret H locs ls hL hP hD hS)
theorem am_s_iload {l : Launch} {L : Nat} {xs : Nat → Int} {y : Nat} {Q : Option am_V → am_N → Prop} {K : Nat → List (Option am_V) → List am_V → am_N → Prop} {pc : Nat} {lv : List (Option am_V)} {st : List am_V} {μ : am_N} {k : Nat} (hk : ∀ pc lv st μ, K pc lv st μ → am_AW l L xs y Q pc lv st μ) (hd : decode (am_bt y) pc = .ok (.iload k, 2)) (h : am_stp l L xs y Q K (pc + 2, 2, k, 0, 0, 0, []) lv st μ) : am_AW l L xs y Q pc lv st μ := by
  simp only [am_stp] at h
  split at h
  · rename_i v hv
    intro p e R s m args below meth c D ad ca tys B0 cells slots Qf E hret H locs ls hL hP hD hS
    exact lv_iload E.1 E.2.1 hd (hL.2.2.1 _ _ hv) (hk _ _ _ _ h p e R s m args below meth c D ad ca tys B0 cells slots Qf E hret H locs ls hL hP hD hS)
  · exact h.elim
theorem am_s_iload_n {l : Launch} {L : Nat} {xs : Nat → Int} {y : Nat} {Q : Option am_V → am_N → Prop} {K : Nat → List (Option am_V) → List am_V → am_N → Prop} {pc : Nat} {lv : List (Option am_V)} {st : List am_V} {μ : am_N} {k : Fin 4} (hk : ∀ pc lv st μ, K pc lv st μ → am_AW l L xs y Q pc lv st μ) (hd : decode (am_bt y) pc = .ok (.iload_n k, 1)) (h : am_stp l L xs y Q K (pc + 1, 2, (k : Nat), 0, 0, 0, []) lv st μ) : am_AW l L xs y Q pc lv st μ := by
  simp only [am_stp] at h
  split at h
  · rename_i v hv
    intro p e R s m args below meth c D ad ca tys B0 cells slots Qf E hret H locs ls hL hP hD hS
    exact lv_iload_n E.1 E.2.1 hd rfl (hL.2.2.1 _ _ hv) (hk _ _ _ _ h p e R s m args below meth c D ad ca tys B0 cells slots Qf E hret H locs ls hL hP hD hS)
  · exact h.elim
theorem am_s_lload {l : Launch} {L : Nat} {xs : Nat → Int} {y : Nat} {Q : Option am_V → am_N → Prop} {K : Nat → List (Option am_V) → List am_V → am_N → Prop} {pc : Nat} {lv : List (Option am_V)} {st : List am_V} {μ : am_N} {k : Nat} (hk : ∀ pc lv st μ, K pc lv st μ → am_AW l L xs y Q pc lv st μ) (hd : decode (am_bt y) pc = .ok (.lload k, 2)) (h : am_stp l L xs y Q K (pc + 2, 4, k, 0, 0, 0, []) lv st μ) : am_AW l L xs y Q pc lv st μ := by
  simp only [am_stp] at h
  split at h
  · rename_i v hv
    intro p e R s m args below meth c D ad ca tys B0 cells slots Qf E hret H locs ls hL hP hD hS
    exact lv_lload E.1 E.2.1 hd (hL.2.2.1 _ _ hv) (hk _ _ _ _ h p e R s m args below meth c D ad ca tys B0 cells slots Qf E hret H locs ls hL hP hD hS)
  · exact h.elim
theorem am_s_lload_n {l : Launch} {L : Nat} {xs : Nat → Int} {y : Nat} {Q : Option am_V → am_N → Prop} {K : Nat → List (Option am_V) → List am_V → am_N → Prop} {pc : Nat} {lv : List (Option am_V)} {st : List am_V} {μ : am_N} {k : Fin 4} (hk : ∀ pc lv st μ, K pc lv st μ → am_AW l L xs y Q pc lv st μ) (hd : decode (am_bt y) pc = .ok (.lload_n k, 1)) (h : am_stp l L xs y Q K (pc + 1, 4, (k : Nat), 0, 0, 0, []) lv st μ) : am_AW l L xs y Q pc lv st μ := by
  simp only [am_stp] at h
  split at h
  · rename_i v hv
    intro p e R s m args below meth c D ad ca tys B0 cells slots Qf E hret H locs ls hL hP hD hS
    exact lv_lload_n E.1 E.2.1 hd rfl (hL.2.2.1 _ _ hv) (hk _ _ _ _ h p e R s m args below meth c D ad ca tys B0 cells slots Qf E hret H locs ls hL hP hD hS)
  · exact h.elim
theorem am_s_aload {l : Launch} {L : Nat} {xs : Nat → Int} {y : Nat} {Q : Option am_V → am_N → Prop} {K : Nat → List (Option am_V) → List am_V → am_N → Prop} {pc : Nat} {lv : List (Option am_V)} {st : List am_V} {μ : am_N} {k : Nat} (hk : ∀ pc lv st μ, K pc lv st μ → am_AW l L xs y Q pc lv st μ) (hd : decode (am_bt y) pc = .ok (.aload k, 2)) (h : am_stp l L xs y Q K (pc + 2, 6, k, 0, 0, 0, []) lv st μ) : am_AW l L xs y Q pc lv st μ := by
  simp only [am_stp] at h
  split at h
  · rename_i v hv
    intro p e R s m args below meth c D ad ca tys B0 cells slots Qf E hret H locs ls hL hP hD hS
    exact lv_aload E.1 E.2.1 hd (hL.2.2.1 _ _ hv) (hk _ _ _ _ h p e R s m args below meth c D ad ca tys B0 cells slots Qf E hret H locs ls hL hP hD hS)
  · exact h.elim
theorem am_s_aload_n {l : Launch} {L : Nat} {xs : Nat → Int} {y : Nat} {Q : Option am_V → am_N → Prop} {K : Nat → List (Option am_V) → List am_V → am_N → Prop} {pc : Nat} {lv : List (Option am_V)} {st : List am_V} {μ : am_N} {k : Fin 4} (hk : ∀ pc lv st μ, K pc lv st μ → am_AW l L xs y Q pc lv st μ) (hd : decode (am_bt y) pc = .ok (.aload_n k, 1)) (h : am_stp l L xs y Q K (pc + 1, 6, (k : Nat), 0, 0, 0, []) lv st μ) : am_AW l L xs y Q pc lv st μ := by
  simp only [am_stp] at h
  split at h
  · rename_i v hv
    intro p e R s m args below meth c D ad ca tys B0 cells slots Qf E hret H locs ls hL hP hD hS
    exact lv_aload_n E.1 E.2.1 hd rfl (hL.2.2.1 _ _ hv) (hk _ _ _ _ h p e R s m args below meth c D ad ca tys B0 cells slots Qf E hret H locs ls hL hP hD hS)
  · exact h.elim
theorem am_s_istore {l : Launch} {L : Nat} {xs : Nat → Int} {y : Nat} {Q : Option am_V → am_N → Prop} {K : Nat → List (Option am_V) → List am_V → am_N → Prop} {pc : Nat} {lv : List (Option am_V)} {st : List am_V} {μ : am_N} {k : Nat} (hk : ∀ pc lv st μ, K pc lv st μ → am_AW l L xs y Q pc lv st μ) (hd : decode (am_bt y) pc = .ok (.istore k, 2)) (h : am_stp l L xs y Q K (pc + 2, 3, k, 0, 0, 0, []) lv st μ) : am_AW l L xs y Q pc lv st μ := by
  simp only [am_stp] at h
  split at h
  · rename_i v r
    obtain ⟨h0, h⟩ := am_ifb h
    obtain ⟨h1, h2⟩ := am_bb h0
    have h1 := Nat.le_of_ble_eq_true h1
    intro p e R s m args below meth c D ad ca tys B0 cells slots Qf E hret H locs ls hL hP hD hS
    exact lv_istore E.1 E.2.1 hd hL.has (by rw [← hL.2.2.2]; exact h1) rfl (fun ls' hl' => hk _ _ _ _ h p e R s m args below meth c D ad ca tys B0 cells slots Qf E hret H locs ls' (am_L1 (v := Sum.inl v) hL.2.2.2 h2 hl') hP hD hS)
  · exact h.elim
theorem am_s_istore_n {l : Launch} {L : Nat} {xs : Nat → Int} {y : Nat} {Q : Option am_V → am_N → Prop} {K : Nat → List (Option am_V) → List am_V → am_N → Prop} {pc : Nat} {lv : List (Option am_V)} {st : List am_V} {μ : am_N} {k : Fin 4} (hk : ∀ pc lv st μ, K pc lv st μ → am_AW l L xs y Q pc lv st μ) (hd : decode (am_bt y) pc = .ok (.istore_n k, 1)) (h : am_stp l L xs y Q K (pc + 1, 3, (k : Nat), 0, 0, 0, []) lv st μ) : am_AW l L xs y Q pc lv st μ := by
  simp only [am_stp] at h
  split at h
  · rename_i v r
    obtain ⟨h0, h⟩ := am_ifb h
    obtain ⟨h1, h2⟩ := am_bb h0
    have h1 := Nat.le_of_ble_eq_true h1
    intro p e R s m args below meth c D ad ca tys B0 cells slots Qf E hret H locs ls hL hP hD hS
    exact lv_istore_n E.1 E.2.1 hd rfl hL.has (by rw [← hL.2.2.2]; exact h1) rfl (fun ls' hl' => hk _ _ _ _ h p e R s m args below meth c D ad ca tys B0 cells slots Qf E hret H locs ls' (am_L1 (v := Sum.inl v) hL.2.2.2 h2 hl') hP hD hS)
  · exact h.elim
theorem am_s_lstore {l : Launch} {L : Nat} {xs : Nat → Int} {y : Nat} {Q : Option am_V → am_N → Prop} {K : Nat → List (Option am_V) → List am_V → am_N → Prop} {pc : Nat} {lv : List (Option am_V)} {st : List am_V} {μ : am_N} {k : Nat} (hk : ∀ pc lv st μ, K pc lv st μ → am_AW l L xs y Q pc lv st μ) (hd : decode (am_bt y) pc = .ok (.lstore k, 2)) (h : am_stp l L xs y Q K (pc + 2, 5, k, 0, 0, 0, []) lv st μ) : am_AW l L xs y Q pc lv st μ := by
  simp only [am_stp] at h
  split at h
  · rename_i v r
    obtain ⟨h0, h⟩ := am_ifb h
    obtain ⟨h1, h2⟩ := am_bb h0
    have h1 := Nat.le_of_ble_eq_true h1
    intro p e R s m args below meth c D ad ca tys B0 cells slots Qf E hret H locs ls hL hP hD hS
    exact lv_lstore E.1 E.2.1 hd hL.has (by rw [← hL.2.2.2]; exact h1) rfl (fun ls' hl' => hk _ _ _ _ h p e R s m args below meth c D ad ca tys B0 cells slots Qf E hret H locs ls' (am_L2 (v := Sum.inr (Sum.inl v)) hL.2.2.2 h2 hl') hP hD hS)
  · exact h.elim
theorem am_s_lstore_n {l : Launch} {L : Nat} {xs : Nat → Int} {y : Nat} {Q : Option am_V → am_N → Prop} {K : Nat → List (Option am_V) → List am_V → am_N → Prop} {pc : Nat} {lv : List (Option am_V)} {st : List am_V} {μ : am_N} {k : Fin 4} (hk : ∀ pc lv st μ, K pc lv st μ → am_AW l L xs y Q pc lv st μ) (hd : decode (am_bt y) pc = .ok (.lstore_n k, 1)) (h : am_stp l L xs y Q K (pc + 1, 5, (k : Nat), 0, 0, 0, []) lv st μ) : am_AW l L xs y Q pc lv st μ := by
  simp only [am_stp] at h
  split at h
  · rename_i v r
    obtain ⟨h0, h⟩ := am_ifb h
    obtain ⟨h1, h2⟩ := am_bb h0
    have h1 := Nat.le_of_ble_eq_true h1
    intro p e R s m args below meth c D ad ca tys B0 cells slots Qf E hret H locs ls hL hP hD hS
    exact lv_lstore_n E.1 E.2.1 hd rfl hL.has (by rw [← hL.2.2.2]; exact h1) rfl (fun ls' hl' => hk _ _ _ _ h p e R s m args below meth c D ad ca tys B0 cells slots Qf E hret H locs ls' (am_L2 (v := Sum.inr (Sum.inl v)) hL.2.2.2 h2 hl') hP hD hS)
  · exact h.elim
theorem am_s_iinc {l : Launch} {L : Nat} {xs : Nat → Int} {y : Nat} {Q : Option am_V → am_N → Prop} {K : Nat → List (Option am_V) → List am_V → am_N → Prop} {pc : Nat} {lv : List (Option am_V)} {st : List am_V} {μ : am_N} {k : Nat} {n : Int} (hk : ∀ pc lv st μ, K pc lv st μ → am_AW l L xs y Q pc lv st μ) (hd : decode (am_bt y) pc = .ok (.iinc k n, 3)) (h : am_stp l L xs y Q K (pc + 3, 24, k, 0, 0, n, []) lv st μ) : am_AW l L xs y Q pc lv st μ := by
  simp only [am_stp] at h
  split at h
  · rename_i v hv
    obtain ⟨h2, h⟩ := am_ifb h
    intro p e R s m args below meth c D ad ca tys B0 cells slots Qf E hret H locs ls hL hP hD hS
    obtain ⟨j, hj⟩ := List.getElem?_of_mem (am_prs_in (ad := ad) (q := (k, .int (Int32.ofInt v))) |>.mpr ⟨.inl v, hv, rfl⟩)
    exact lv_iinc (v := Int32.ofInt (v + n)) E.1 E.2.1 hd hL.has hj (by rw [Int32.ofInt_add]) (by rw [← hL.2.2.2]; exact (List.getElem?_eq_some_iff.mp hv).1) rfl (fun ls' hl' => hk _ _ _ _ h p e R s m args below meth c D ad ca tys B0 cells slots Qf E hret H locs ls' (am_L1 (v := Sum.inl (v + n)) hL.2.2.2 h2 hl') hP hD hS)
  · exact h.elim
theorem am_s_getfield {l : Launch} {L : Nat} {xs : Nat → Int} {y : Nat} {Q : Option am_V → am_N → Prop} {K : Nat → List (Option am_V) → List am_V → am_N → Prop} {pc : Nat} {lv : List (Option am_V)} {st : List am_V} {μ : am_N} {k ci b : Nat} (hk : ∀ pc lv st μ, K pc lv st μ → am_AW l L xs y Q pc lv st μ) (hd : decode (am_bt y) pc = .ok (.getfield k, 3)) (hf : (am_ow y, k, ci, b) ∈ am_fl) (h : am_stp l L xs y Q K (pc + 3, 7, ci, b, 0, 0, []) lv st μ) : am_AW l L xs y Q pc lv st μ := by
  simp only [am_stp] at h
  split at h
  · rename_i a r
    split at h
    · rename_i t fs hsh
      obtain ⟨ht, h⟩ := am_ifb h
      have ht := Nat.eq_of_beq_eq_true ht
      split at h
      · rename_i hb
        intro p e R s m args below meth c D ad ca tys B0 cells slots Qf E hret H locs ls hL hP hD hS
        obtain ⟨hc, hk1, hk2⟩ := am_fl_ok hf
        exact va_get (D := D) (v := .int (Int32.ofInt (μ a b))) E.1 E.2.1 E.2.2.2.2.1 hk2 E.2.2.2.1 E.2.2.2.2.2.1 hP a (am_ob hsh ht) hc b hk1 (E.2.2.2.2.1 _ (am_fl_in _ hf)) (fun _ h9 => h9) (am_ob_at hb) hd (hk _ _ _ _ h p e R s m args below meth c D ad ca tys B0 cells slots Qf E hret H locs ls hL hP hD hS)
      · rename_i j hb
        intro p e R s m args below meth c D ad ca tys B0 cells slots Qf E hret H locs ls hL hP hD hS
        obtain ⟨hc, hk1, hk2⟩ := am_fl_ok hf
        exact va_get (D := D) (v := .ref (ad j)) E.1 E.2.1 E.2.2.2.2.1 hk2 E.2.2.2.1 E.2.2.2.2.2.1 hP a (am_ob hsh ht) hc b hk1 (E.2.2.2.2.1 _ (am_fl_in _ hf)) (fun _ h9 => h9) (am_ob_at hb) hd (hk _ _ _ _ h p e R s m args below meth c D ad ca tys B0 cells slots Qf E hret H locs ls hL hP hD hS)
      · exact h.elim
    · exact h.elim
  · exact h.elim
theorem am_s_putfield {l : Launch} {L : Nat} {xs : Nat → Int} {y : Nat} {Q : Option am_V → am_N → Prop} {K : Nat → List (Option am_V) → List am_V → am_N → Prop} {pc : Nat} {lv : List (Option am_V)} {st : List am_V} {μ : am_N} {k ci b : Nat} (hk : ∀ pc lv st μ, K pc lv st μ → am_AW l L xs y Q pc lv st μ) (hd : decode (am_bt y) pc = .ok (.putfield k, 3)) (hf : (am_ow y, k, ci, b) ∈ am_fl) (hfin : (am_cT ci b).2.2.2 = false) (hty : am_ty ci b = .int) (h : am_stp l L xs y Q K (pc + 3, 8, ci, b, 0, 0, []) lv st μ) : am_AW l L xs y Q pc lv st μ := by
  simp only [am_stp] at h
  split at h
  · rename_i v a r
    split at h
    · rename_i t fs hsh
      obtain ⟨ht, h⟩ := am_ifb h
      have ht := Nat.eq_of_beq_eq_true ht
      split at h
      · rename_i hb
        intro p e R s m args below meth c D ad ca tys B0 cells slots Qf E hret H locs ls hL hP hD hS
        obtain ⟨hc, hk1, hk2⟩ := am_fl_ok hf
        obtain ⟨q1, q2⟩ := am_ty_ok hf
        refine va_put (D := D) (ty := .int) (v := .int (Int32.ofInt v)) E.1 E.2.1 E.2.2.2.2.1 hk2 (am_ty ci) q1 q2 E.2.2.2.1 E.2.2.2.2.2.1 hP hD hS a (am_ob hsh ht) hc b hk1 (E.2.2.2.2.1 _ (am_fl_in _ hf)) (fun _ h9 => h9) hfin (by rw [q1 b hk1, hty]) rfl rfl (by rw [List.length_mapIdx]; exact (List.getElem?_eq_some_iff.mp hb).1) hd (fun H1 locs1 hP hD hS => ?_)
        rw [am_ob_set hsh ht hb] at hP hD
        exact hk _ _ _ _ h p e R s m args below meth c D ad ca tys B0 cells slots Qf E hret H1 locs1 ls hL hP hD hS
      · exact h.elim
    · exact h.elim
  · exact h.elim
theorem am_s_putfieldz {l : Launch} {L : Nat} {xs : Nat → Int} {y : Nat} {Q : Option am_V → am_N → Prop} {K : Nat → List (Option am_V) → List am_V → am_N → Prop} {pc : Nat} {lv : List (Option am_V)} {st : List am_V} {μ : am_N} {k ci b : Nat} (hk : ∀ pc lv st μ, K pc lv st μ → am_AW l L xs y Q pc lv st μ) (hd : decode (am_bt y) pc = .ok (.putfield k, 3)) (hf : (am_ow y, k, ci, b) ∈ am_fl) (hfin : (am_cT ci b).2.2.2 = false) (hty : am_ty ci b = .boolean) (h : am_stp l L xs y Q K (pc + 3, 8, ci, b, 1, 0, []) lv st μ) : am_AW l L xs y Q pc lv st μ := by
  simp only [am_stp] at h
  split at h
  · rename_i v a r
    split at h
    · rename_i t fs hsh
      obtain ⟨ht, h⟩ := am_ifb h
      have ht := Nat.eq_of_beq_eq_true ht
      split at h
      · rename_i hb
        obtain ⟨h3, h⟩ := h
        intro p e R s m args below meth c D ad ca tys B0 cells slots Qf E hret H locs ls hL hP hD hS
        obtain ⟨hc, hk1, hk2⟩ := am_fl_ok hf
        obtain ⟨q1, q2⟩ := am_ty_ok hf
        refine va_put (D := D) (ty := .boolean) (v := .int (Int32.ofInt v)) E.1 E.2.1 E.2.2.2.2.1 hk2 (am_ty ci) q1 q2 E.2.2.2.1 E.2.2.2.2.2.1 hP hD hS a (am_ob hsh ht) hc b hk1 (E.2.2.2.2.1 _ (am_fl_in _ hf)) (fun _ h9 => h9) hfin (by rw [q1 b hk1, hty]) (am_nz h3) (am_fz h3) (by rw [List.length_mapIdx]; exact (List.getElem?_eq_some_iff.mp hb).1) hd (fun H1 locs1 hP hD hS => ?_)
        rw [am_ob_set hsh ht hb] at hP hD
        exact hk _ _ _ _ h p e R s m args below meth c D ad ca tys B0 cells slots Qf E hret H1 locs1 ls hL hP hD hS
      · exact h.elim
    · exact h.elim
  · exact h.elim
theorem am_s_iaload {l : Launch} {L : Nat} {xs : Nat → Int} {y : Nat} {Q : Option am_V → am_N → Prop} {K : Nat → List (Option am_V) → List am_V → am_N → Prop} {pc : Nat} {lv : List (Option am_V)} {st : List am_V} {μ : am_N}  (hk : ∀ pc lv st μ, K pc lv st μ → am_AW l L xs y Q pc lv st μ) (hd : decode (am_bt y) pc = .ok (.iaload, 1)) (h : am_stp l L xs y Q K (pc + 1, 9, 0, 0, 0, 0, []) lv st μ) : am_AW l L xs y Q pc lv st μ := by
  simp only [am_stp] at h
  split at h
  · rename_i i k r
    split at h
    · rename_i n w hsh
      obtain ⟨h1, h⟩ := h
      intro p e R s m args below meth c D ad ca tys B0 cells slots Qf E hret H locs ls hL hP hD hS
      obtain ⟨t0, ht0⟩ := (E.2.2.2.2.2.2.1 k _ hsh).1 rfl
      have kk := hk _ _ _ _ h p e R s m args below meth c D ad ca tys B0 cells slots Qf E hret H locs ls hL hP hD hS
      refine va_iald E.1 E.2.1 E.2.2.2.2.2.1 hP k t0 (am_ar hsh) ht0 (am_in h1) hd ?_
      rw [am_cl_nat]
      exact kk
    · exact h.elim
    · rename_i hsh
      obtain ⟨⟨h0, rfl⟩, h1, h⟩ := h
      intro p e R s m args below meth c D ad ca tys B0 cells slots Qf E hret H locs ls hL hP hD hS
      obtain ⟨s1, s2, s3⟩ := E.2.2.2.2.2.2.2.2.2.2.2.2 h0
      have kk := hk _ _ _ _ h p e R s m args below meth c D ad ca tys B0 cells slots Qf E hret H locs ls hL hP hD hS
      refine va_sld E.1 E.2.1 s1 s2 (Nat.not_le.mpr s3) hS (am_in h1) hd ?_
      rw [am_cl_nat]
      exact kk
  · exact h.elim
theorem am_s_iastore {l : Launch} {L : Nat} {xs : Nat → Int} {y : Nat} {Q : Option am_V → am_N → Prop} {K : Nat → List (Option am_V) → List am_V → am_N → Prop} {pc : Nat} {lv : List (Option am_V)} {st : List am_V} {μ : am_N}  (hk : ∀ pc lv st μ, K pc lv st μ → am_AW l L xs y Q pc lv st μ) (hd : decode (am_bt y) pc = .ok (.iastore, 1)) (h : am_stp l L xs y Q K (pc + 1, 10, 0, 0, 0, 0, []) lv st μ) : am_AW l L xs y Q pc lv st μ := by
  simp only [am_stp] at h
  split at h
  · rename_i v i k r
    split at h
    · rename_i n w hsh
      obtain ⟨h1, h⟩ := h
      intro p e R s m args below meth c D ad ca tys B0 cells slots Qf E hret H locs ls hL hP hD hS
      obtain ⟨t0, ht0⟩ := (E.2.2.2.2.2.2.1 k _ hsh).1 rfl
      refine va_iast E.1 E.2.1 E.2.2.2.2.2.1 hP hD hS k t0 (am_ar hsh) ht0 (am_in h1) hd (fun H1 locs1 hP hD hS => ?_)
      rw [am_ar_set hsh, am_cl_nat] at hP hD
      exact hk _ _ _ _ h p e R s m args below meth c D ad ca tys B0 cells slots Qf E hret H1 locs1 ls hL hP hD hS
    · exact h.elim
  · exact h.elim
theorem am_s_aaload {l : Launch} {L : Nat} {xs : Nat → Int} {y : Nat} {Q : Option am_V → am_N → Prop} {K : Nat → List (Option am_V) → List am_V → am_N → Prop} {pc : Nat} {lv : List (Option am_V)} {st : List am_V} {μ : am_N}  (hk : ∀ pc lv st μ, K pc lv st μ → am_AW l L xs y Q pc lv st μ) (hd : decode (am_bt y) pc = .ok (.aaload, 1)) (h : am_stp l L xs y Q K (pc + 1, 11, 0, 0, 0, 0, []) lv st μ) : am_AW l L xs y Q pc lv st μ := by
  simp only [am_stp] at h
  split at h
  · rename_i i k r
    split at h
    · rename_i fs hsh
      obtain ⟨h1, h⟩ := h
      intro p e R s m args below meth c D ad ca tys B0 cells slots Qf E hret H locs ls hL hP hD hS
      obtain ⟨t0, ht0⟩ := (E.2.2.2.2.2.2.1 k _ hsh).2 rfl
      have hin := am_in (i := i) (n := fs.length) h1
      have hlt : (Int32.ofInt i).toNatClampNeg < fs.length := Nat.not_le.mp fun q => hin (Or.inr q)
      have hlt2 : (am_c i).toNat < fs.length := by rw [← am_cl_nat]; exact hlt
      have hj := List.getElem?_eq_getElem hlt2
      have kk := hk _ _ _ _ (h _ hj) p e R s m args below meth c D ad ca tys B0 cells slots Qf E hret H locs ls hL hP hD hS
      refine W.aald (v := va_rf ((fs[(Int32.ofInt i).toNatClampNeg]?).map ad)) (ty := .array .int) E.1 E.2.1 (hP k _ (am_arq hsh)) ((E.2.2.2.2.2.1.2 t0 _ ht0).1 fs.length (fun j => va_rf ((fs[j]?).map ad))) rfl (fun q => by cases q) (by show ¬ (_ < 0 ∨ (arrV _ _ _).slots.size ≤ _); rw [arrV_size]; exact hin) (by show (arrV _ _ _).slots[_]? = _; rw [arrV_read _ _ hlt]) rfl rfl hd ?_
      rw [am_cl_nat, hj]
      exact kk
    · exact h.elim
  · exact h.elim
theorem am_s_alen {l : Launch} {L : Nat} {xs : Nat → Int} {y : Nat} {Q : Option am_V → am_N → Prop} {K : Nat → List (Option am_V) → List am_V → am_N → Prop} {pc : Nat} {lv : List (Option am_V)} {st : List am_V} {μ : am_N}  (hk : ∀ pc lv st μ, K pc lv st μ → am_AW l L xs y Q pc lv st μ) (hd : decode (am_bt y) pc = .ok (.arraylength, 1)) (h : am_stp l L xs y Q K (pc + 1, 12, 0, 0, 0, 0, []) lv st μ) : am_AW l L xs y Q pc lv st μ := by
  simp only [am_stp] at h
  split at h
  · rename_i k r
    split at h
    · rename_i n w hsh
      intro p e R s m args below meth c D ad ca tys B0 cells slots Qf E hret H locs ls hL hP hD hS
      obtain ⟨t0, ht0⟩ := (E.2.2.2.2.2.2.1 k _ hsh).1 rfl
      exact va_alen (v := Int32.ofInt (n : Int)) E.1 E.2.1 E.2.2.2.2.2.1 hP k t0 (am_ar hsh) ht0 (am_ofNat n) hd (hk _ _ _ _ h p e R s m args below meth c D ad ca tys B0 cells slots Qf E hret H locs ls hL hP hD hS)
    · rename_i fs hsh
      intro p e R s m args below meth c D ad ca tys B0 cells slots Qf E hret H locs ls hL hP hD hS
      obtain ⟨t0, ht0⟩ := (E.2.2.2.2.2.2.1 k _ hsh).2 rfl
      exact va_alen (v := Int32.ofInt (fs.length : Int)) E.1 E.2.1 E.2.2.2.2.2.1 hP k t0 (am_arq hsh) ht0 (am_ofNat fs.length) hd (hk _ _ _ _ h p e R s m args below meth c D ad ca tys B0 cells slots Qf E hret H locs ls hL hP hD hS)
    · exact h.elim
    · rename_i hsh
      obtain ⟨⟨h0, rfl⟩, h⟩ := h
      intro p e R s m args below meth c D ad ca tys B0 cells slots Qf E hret H locs ls hL hP hD hS
      obtain ⟨s1, s2, s3⟩ := E.2.2.2.2.2.2.2.2.2.2.2.2 h0
      have kk := hk _ _ _ _ h p e R s m args below meth c D ad ca tys B0 cells slots Qf E hret H locs ls hL hP hD hS
      refine va_slen E.1 E.2.1 s1 s2 (Nat.not_le.mpr s3) hS hd ?_
      rw [am_ofNat L]
      exact kk
  · exact h.elim
theorem am_s_iadd {l : Launch} {L : Nat} {xs : Nat → Int} {y : Nat} {Q : Option am_V → am_N → Prop} {K : Nat → List (Option am_V) → List am_V → am_N → Prop} {pc : Nat} {lv : List (Option am_V)} {st : List am_V} {μ : am_N}  (hk : ∀ pc lv st μ, K pc lv st μ → am_AW l L xs y Q pc lv st μ) (hd : decode (am_bt y) pc = .ok (.iadd, 1)) (h : am_stp l L xs y Q K (pc + 1, 13, 0, 0, 0, 0, []) lv st μ) : am_AW l L xs y Q pc lv st μ := by
  simp only [am_stp] at h
  split at h
  · rename_i v u r
    intro p e R s m args below meth c D ad ca tys B0 cells slots Qf E hret H locs ls hL hP hD hS
    have kk : W p l e R s m args below meth c H locs cells slots Qf (F0 m (pc + 1) ls (.int (Int32.ofInt _) :: r.map (am_rv ad))) := hk _ _ _ _ h p e R s m args below meth c D ad ca tys B0 cells slots Qf E hret H locs ls hL hP hD hS
    rw [Int32.ofInt_add] at kk
    exact lv_iadd E.1 E.2.1 hd kk
  · exact h.elim
theorem am_s_isub {l : Launch} {L : Nat} {xs : Nat → Int} {y : Nat} {Q : Option am_V → am_N → Prop} {K : Nat → List (Option am_V) → List am_V → am_N → Prop} {pc : Nat} {lv : List (Option am_V)} {st : List am_V} {μ : am_N}  (hk : ∀ pc lv st μ, K pc lv st μ → am_AW l L xs y Q pc lv st μ) (hd : decode (am_bt y) pc = .ok (.isub, 1)) (h : am_stp l L xs y Q K (pc + 1, 14, 0, 0, 0, 0, []) lv st μ) : am_AW l L xs y Q pc lv st μ := by
  simp only [am_stp] at h
  split at h
  · rename_i v u r
    intro p e R s m args below meth c D ad ca tys B0 cells slots Qf E hret H locs ls hL hP hD hS
    have kk : W p l e R s m args below meth c H locs cells slots Qf (F0 m (pc + 1) ls (.int (Int32.ofInt _) :: r.map (am_rv ad))) := hk _ _ _ _ h p e R s m args below meth c D ad ca tys B0 cells slots Qf E hret H locs ls hL hP hD hS
    rw [Int32.ofInt_sub] at kk
    exact lv_isub E.1 E.2.1 hd kk
  · exact h.elim
theorem am_s_imul {l : Launch} {L : Nat} {xs : Nat → Int} {y : Nat} {Q : Option am_V → am_N → Prop} {K : Nat → List (Option am_V) → List am_V → am_N → Prop} {pc : Nat} {lv : List (Option am_V)} {st : List am_V} {μ : am_N}  (hk : ∀ pc lv st μ, K pc lv st μ → am_AW l L xs y Q pc lv st μ) (hd : decode (am_bt y) pc = .ok (.imul, 1)) (h : am_stp l L xs y Q K (pc + 1, 15, 0, 0, 0, 0, []) lv st μ) : am_AW l L xs y Q pc lv st μ := by
  simp only [am_stp] at h
  split at h
  · rename_i v u r
    intro p e R s m args below meth c D ad ca tys B0 cells slots Qf E hret H locs ls hL hP hD hS
    have kk : W p l e R s m args below meth c H locs cells slots Qf (F0 m (pc + 1) ls (.int (Int32.ofInt _) :: r.map (am_rv ad))) := hk _ _ _ _ h p e R s m args below meth c D ad ca tys B0 cells slots Qf E hret H locs ls hL hP hD hS
    rw [Int32.ofInt_mul] at kk
    exact lv_imul E.1 E.2.1 hd kk
  · exact h.elim
theorem am_s_idiv {l : Launch} {L : Nat} {xs : Nat → Int} {y : Nat} {Q : Option am_V → am_N → Prop} {K : Nat → List (Option am_V) → List am_V → am_N → Prop} {pc : Nat} {lv : List (Option am_V)} {st : List am_V} {μ : am_N}  (hk : ∀ pc lv st μ, K pc lv st μ → am_AW l L xs y Q pc lv st μ) (hd : decode (am_bt y) pc = .ok (.idiv, 1)) (h : am_stp l L xs y Q K (pc + 1, 16, 0, 0, 0, 0, []) lv st μ) : am_AW l L xs y Q pc lv st μ := by
  simp only [am_stp] at h
  split at h
  · rename_i v u r
    obtain ⟨h1, h⟩ := h
    intro p e R s m args below meth c D ad ca tys B0 cells slots Qf E hret H locs ls hL hP hD hS
    have kk : W p l e R s m args below meth c H locs cells slots Qf (F0 m (pc + 1) ls (.int (Int32.ofInt _) :: r.map (am_rv ad))) := hk _ _ _ _ h p e R s m args below meth c D ad ca tys B0 cells slots Qf E hret H locs ls hL hP hD hS
    rw [← am_div32] at kk
    exact lv_idiv E.1 E.2.1 hd (am_ne0 h1) kk
  · exact h.elim
theorem am_s_irem {l : Launch} {L : Nat} {xs : Nat → Int} {y : Nat} {Q : Option am_V → am_N → Prop} {K : Nat → List (Option am_V) → List am_V → am_N → Prop} {pc : Nat} {lv : List (Option am_V)} {st : List am_V} {μ : am_N}  (hk : ∀ pc lv st μ, K pc lv st μ → am_AW l L xs y Q pc lv st μ) (hd : decode (am_bt y) pc = .ok (.irem, 1)) (h : am_stp l L xs y Q K (pc + 1, 17, 0, 0, 0, 0, []) lv st μ) : am_AW l L xs y Q pc lv st μ := by
  simp only [am_stp] at h
  split at h
  · rename_i v u r
    obtain ⟨h1, h⟩ := h
    intro p e R s m args below meth c D ad ca tys B0 cells slots Qf E hret H locs ls hL hP hD hS
    have kk : W p l e R s m args below meth c H locs cells slots Qf (F0 m (pc + 1) ls (.int (Int32.ofInt _) :: r.map (am_rv ad))) := hk _ _ _ _ h p e R s m args below meth c D ad ca tys B0 cells slots Qf E hret H locs ls hL hP hD hS
    rw [← am_rem32] at kk
    exact lv_irem E.1 E.2.1 hd (am_ne0 h1) kk
  · exact h.elim
theorem am_s_iand {l : Launch} {L : Nat} {xs : Nat → Int} {y : Nat} {Q : Option am_V → am_N → Prop} {K : Nat → List (Option am_V) → List am_V → am_N → Prop} {pc : Nat} {lv : List (Option am_V)} {st : List am_V} {μ : am_N}  (hk : ∀ pc lv st μ, K pc lv st μ → am_AW l L xs y Q pc lv st μ) (hd : decode (am_bt y) pc = .ok (.iand, 1)) (h : am_stp l L xs y Q K (pc + 1, 18, 0, 0, 0, 0, []) lv st μ) : am_AW l L xs y Q pc lv st μ := by
  simp only [am_stp] at h
  split at h
  · rename_i v u r
    intro p e R s m args below meth c D ad ca tys B0 cells slots Qf E hret H locs ls hL hP hD hS
    have kk : W p l e R s m args below meth c H locs cells slots Qf (F0 m (pc + 1) ls (.int (Int32.ofInt _) :: r.map (am_rv ad))) := hk _ _ _ _ h p e R s m args below meth c D ad ca tys B0 cells slots Qf E hret H locs ls hL hP hD hS
    rw [am_and, am_back] at kk
    exact lv_iand E.1 E.2.1 hd kk
  · exact h.elim
theorem am_s_ior {l : Launch} {L : Nat} {xs : Nat → Int} {y : Nat} {Q : Option am_V → am_N → Prop} {K : Nat → List (Option am_V) → List am_V → am_N → Prop} {pc : Nat} {lv : List (Option am_V)} {st : List am_V} {μ : am_N}  (hk : ∀ pc lv st μ, K pc lv st μ → am_AW l L xs y Q pc lv st μ) (hd : decode (am_bt y) pc = .ok (.ior, 1)) (h : am_stp l L xs y Q K (pc + 1, 19, 0, 0, 0, 0, []) lv st μ) : am_AW l L xs y Q pc lv st μ := by
  simp only [am_stp] at h
  split at h
  · rename_i v u r
    intro p e R s m args below meth c D ad ca tys B0 cells slots Qf E hret H locs ls hL hP hD hS
    have kk : W p l e R s m args below meth c H locs cells slots Qf (F0 m (pc + 1) ls (.int (Int32.ofInt _) :: r.map (am_rv ad))) := hk _ _ _ _ h p e R s m args below meth c D ad ca tys B0 cells slots Qf E hret H locs ls hL hP hD hS
    rw [am_or, am_back] at kk
    exact lv_ior E.1 E.2.1 hd kk
  · exact h.elim
theorem am_s_ixor {l : Launch} {L : Nat} {xs : Nat → Int} {y : Nat} {Q : Option am_V → am_N → Prop} {K : Nat → List (Option am_V) → List am_V → am_N → Prop} {pc : Nat} {lv : List (Option am_V)} {st : List am_V} {μ : am_N}  (hk : ∀ pc lv st μ, K pc lv st μ → am_AW l L xs y Q pc lv st μ) (hd : decode (am_bt y) pc = .ok (.ixor, 1)) (h : am_stp l L xs y Q K (pc + 1, 20, 0, 0, 0, 0, []) lv st μ) : am_AW l L xs y Q pc lv st μ := by
  simp only [am_stp] at h
  split at h
  · rename_i v u r
    intro p e R s m args below meth c D ad ca tys B0 cells slots Qf E hret H locs ls hL hP hD hS
    have kk : W p l e R s m args below meth c H locs cells slots Qf (F0 m (pc + 1) ls (.int (Int32.ofInt _) :: r.map (am_rv ad))) := hk _ _ _ _ h p e R s m args below meth c D ad ca tys B0 cells slots Qf E hret H locs ls hL hP hD hS
    rw [am_xor, am_back] at kk
    exact lv_ixor E.1 E.2.1 hd kk
  · exact h.elim
theorem am_s_ishl {l : Launch} {L : Nat} {xs : Nat → Int} {y : Nat} {Q : Option am_V → am_N → Prop} {K : Nat → List (Option am_V) → List am_V → am_N → Prop} {pc : Nat} {lv : List (Option am_V)} {st : List am_V} {μ : am_N}  (hk : ∀ pc lv st μ, K pc lv st μ → am_AW l L xs y Q pc lv st μ) (hd : decode (am_bt y) pc = .ok (.ishl, 1)) (h : am_stp l L xs y Q K (pc + 1, 21, 0, 0, 0, 0, []) lv st μ) : am_AW l L xs y Q pc lv st μ := by
  simp only [am_stp] at h
  split at h
  · rename_i v u r
    intro p e R s m args below meth c D ad ca tys B0 cells slots Qf E hret H locs ls hL hP hD hS
    have kk : W p l e R s m args below meth c H locs cells slots Qf (F0 m (pc + 1) ls (.int (Int32.ofInt _) :: r.map (am_rv ad))) := hk _ _ _ _ h p e R s m args below meth c D ad ca tys B0 cells slots Qf E hret H locs ls hL hP hD hS
    rw [am_shl, am_back] at kk
    exact lv_ishl E.1 E.2.1 hd kk
  · exact h.elim
theorem am_s_ishr {l : Launch} {L : Nat} {xs : Nat → Int} {y : Nat} {Q : Option am_V → am_N → Prop} {K : Nat → List (Option am_V) → List am_V → am_N → Prop} {pc : Nat} {lv : List (Option am_V)} {st : List am_V} {μ : am_N}  (hk : ∀ pc lv st μ, K pc lv st μ → am_AW l L xs y Q pc lv st μ) (hd : decode (am_bt y) pc = .ok (.ishr, 1)) (h : am_stp l L xs y Q K (pc + 1, 22, 0, 0, 0, 0, []) lv st μ) : am_AW l L xs y Q pc lv st μ := by
  simp only [am_stp] at h
  split at h
  · rename_i v u r
    intro p e R s m args below meth c D ad ca tys B0 cells slots Qf E hret H locs ls hL hP hD hS
    have kk : W p l e R s m args below meth c H locs cells slots Qf (F0 m (pc + 1) ls (.int (Int32.ofInt _) :: r.map (am_rv ad))) := hk _ _ _ _ h p e R s m args below meth c D ad ca tys B0 cells slots Qf E hret H locs ls hL hP hD hS
    rw [am_shr, am_back] at kk
    exact lv_ishr E.1 E.2.1 hd kk
  · exact h.elim
theorem am_s_ineg {l : Launch} {L : Nat} {xs : Nat → Int} {y : Nat} {Q : Option am_V → am_N → Prop} {K : Nat → List (Option am_V) → List am_V → am_N → Prop} {pc : Nat} {lv : List (Option am_V)} {st : List am_V} {μ : am_N}  (hk : ∀ pc lv st μ, K pc lv st μ → am_AW l L xs y Q pc lv st μ) (hd : decode (am_bt y) pc = .ok (.ineg, 1)) (h : am_stp l L xs y Q K (pc + 1, 23, 0, 0, 0, 0, []) lv st μ) : am_AW l L xs y Q pc lv st μ := by
  simp only [am_stp] at h
  split at h
  · rename_i v r
    intro p e R s m args below meth c D ad ca tys B0 cells slots Qf E hret H locs ls hL hP hD hS
    have kk : W p l e R s m args below meth c H locs cells slots Qf (F0 m (pc + 1) ls (.int (Int32.ofInt _) :: r.map (am_rv ad))) := hk _ _ _ _ h p e R s m args below meth c D ad ca tys B0 cells slots Qf E hret H locs ls hL hP hD hS
    rw [Int32.ofInt_neg] at kk
    exact lv_ineg E.1 E.2.1 hd kk
  · exact h.elim
theorem am_s_i2l {l : Launch} {L : Nat} {xs : Nat → Int} {y : Nat} {Q : Option am_V → am_N → Prop} {K : Nat → List (Option am_V) → List am_V → am_N → Prop} {pc : Nat} {lv : List (Option am_V)} {st : List am_V} {μ : am_N}  (hk : ∀ pc lv st μ, K pc lv st μ → am_AW l L xs y Q pc lv st μ) (hd : decode (am_bt y) pc = .ok (.i2l, 1)) (h : am_stp l L xs y Q K (pc + 1, 33, 0, 0, 0, 0, []) lv st μ) : am_AW l L xs y Q pc lv st μ := by
  simp only [am_stp] at h
  split at h
  · rename_i v r
    intro p e R s m args below meth c D ad ca tys B0 cells slots Qf E hret H locs ls hL hP hD hS
    have kk : W p l e R s m args below meth c H locs cells slots Qf (F0 m (pc + 1) ls (.long (Int64.ofInt _) :: r.map (am_rv ad))) := hk _ _ _ _ h p e R s m args below meth c D ad ca tys B0 cells slots Qf E hret H locs ls hL hP hD hS
    rw [← am_i2l] at kk
    exact lv_i2l E.1 E.2.1 hd rfl kk
  · exact h.elim
theorem am_s_lcmp {l : Launch} {L : Nat} {xs : Nat → Int} {y : Nat} {Q : Option am_V → am_N → Prop} {K : Nat → List (Option am_V) → List am_V → am_N → Prop} {pc : Nat} {lv : List (Option am_V)} {st : List am_V} {μ : am_N}  (hk : ∀ pc lv st μ, K pc lv st μ → am_AW l L xs y Q pc lv st μ) (hd : decode (am_bt y) pc = .ok (.lcmp, 1)) (h : am_stp l L xs y Q K (pc + 1, 34, 0, 0, 0, 0, []) lv st μ) : am_AW l L xs y Q pc lv st μ := by
  simp only [am_stp] at h
  split at h
  · rename_i v u r
    intro p e R s m args below meth c D ad ca tys B0 cells slots Qf E hret H locs ls hL hP hD hS
    have kk : W p l e R s m args below meth c H locs cells slots Qf (F0 m (pc + 1) ls (.int (Int32.ofInt _) :: r.map (am_rv ad))) := hk _ _ _ _ h p e R s m args below meth c D ad ca tys B0 cells slots Qf E hret H locs ls hL hP hD hS
    rw [← am_lcmp] at kk
    exact W.lcmp E.1 E.2.1 hd kk
  · exact h.elim
theorem am_s_ladd {l : Launch} {L : Nat} {xs : Nat → Int} {y : Nat} {Q : Option am_V → am_N → Prop} {K : Nat → List (Option am_V) → List am_V → am_N → Prop} {pc : Nat} {lv : List (Option am_V)} {st : List am_V} {μ : am_N}  (hk : ∀ pc lv st μ, K pc lv st μ → am_AW l L xs y Q pc lv st μ) (hd : decode (am_bt y) pc = .ok (.ladd, 1)) (h : am_stp l L xs y Q K (pc + 1, 35, 0, 0, 0, 0, []) lv st μ) : am_AW l L xs y Q pc lv st μ := by
  simp only [am_stp] at h
  split at h
  · rename_i v u r
    intro p e R s m args below meth c D ad ca tys B0 cells slots Qf E hret H locs ls hL hP hD hS
    have kk : W p l e R s m args below meth c H locs cells slots Qf (F0 m (pc + 1) ls (.long (Int64.ofInt _) :: r.map (am_rv ad))) := hk _ _ _ _ h p e R s m args below meth c D ad ca tys B0 cells slots Qf E hret H locs ls hL hP hD hS
    rw [Int64.ofInt_add] at kk
    exact lv_ladd E.1 E.2.1 hd kk
  · exact h.elim
theorem am_s_lsub {l : Launch} {L : Nat} {xs : Nat → Int} {y : Nat} {Q : Option am_V → am_N → Prop} {K : Nat → List (Option am_V) → List am_V → am_N → Prop} {pc : Nat} {lv : List (Option am_V)} {st : List am_V} {μ : am_N}  (hk : ∀ pc lv st μ, K pc lv st μ → am_AW l L xs y Q pc lv st μ) (hd : decode (am_bt y) pc = .ok (.lsub, 1)) (h : am_stp l L xs y Q K (pc + 1, 36, 0, 0, 0, 0, []) lv st μ) : am_AW l L xs y Q pc lv st μ := by
  simp only [am_stp] at h
  split at h
  · rename_i v u r
    intro p e R s m args below meth c D ad ca tys B0 cells slots Qf E hret H locs ls hL hP hD hS
    have kk : W p l e R s m args below meth c H locs cells slots Qf (F0 m (pc + 1) ls (.long (Int64.ofInt _) :: r.map (am_rv ad))) := hk _ _ _ _ h p e R s m args below meth c D ad ca tys B0 cells slots Qf E hret H locs ls hL hP hD hS
    rw [Int64.ofInt_sub] at kk
    exact lv_lsub E.1 E.2.1 hd kk
  · exact h.elim
theorem am_s_lmul {l : Launch} {L : Nat} {xs : Nat → Int} {y : Nat} {Q : Option am_V → am_N → Prop} {K : Nat → List (Option am_V) → List am_V → am_N → Prop} {pc : Nat} {lv : List (Option am_V)} {st : List am_V} {μ : am_N}  (hk : ∀ pc lv st μ, K pc lv st μ → am_AW l L xs y Q pc lv st μ) (hd : decode (am_bt y) pc = .ok (.lmul, 1)) (h : am_stp l L xs y Q K (pc + 1, 37, 0, 0, 0, 0, []) lv st μ) : am_AW l L xs y Q pc lv st μ := by
  simp only [am_stp] at h
  split at h
  · rename_i v u r
    intro p e R s m args below meth c D ad ca tys B0 cells slots Qf E hret H locs ls hL hP hD hS
    have kk : W p l e R s m args below meth c H locs cells slots Qf (F0 m (pc + 1) ls (.long (Int64.ofInt _) :: r.map (am_rv ad))) := hk _ _ _ _ h p e R s m args below meth c D ad ca tys B0 cells slots Qf E hret H locs ls hL hP hD hS
    rw [Int64.ofInt_mul] at kk
    exact lv_lmul E.1 E.2.1 hd kk
  · exact h.elim
theorem am_s_ldiv {l : Launch} {L : Nat} {xs : Nat → Int} {y : Nat} {Q : Option am_V → am_N → Prop} {K : Nat → List (Option am_V) → List am_V → am_N → Prop} {pc : Nat} {lv : List (Option am_V)} {st : List am_V} {μ : am_N}  (hk : ∀ pc lv st μ, K pc lv st μ → am_AW l L xs y Q pc lv st μ) (hd : decode (am_bt y) pc = .ok (.ldiv, 1)) (h : am_stp l L xs y Q K (pc + 1, 38, 0, 0, 0, 0, []) lv st μ) : am_AW l L xs y Q pc lv st μ := by
  simp only [am_stp] at h
  split at h
  · rename_i v u r
    obtain ⟨h1, h⟩ := h
    intro p e R s m args below meth c D ad ca tys B0 cells slots Qf E hret H locs ls hL hP hD hS
    have kk : W p l e R s m args below meth c H locs cells slots Qf (F0 m (pc + 1) ls (.long (Int64.ofInt _) :: r.map (am_rv ad))) := hk _ _ _ _ h p e R s m args below meth c D ad ca tys B0 cells slots Qf E hret H locs ls hL hP hD hS
    rw [← am_div64] at kk
    exact lv_ldiv E.1 E.2.1 hd (am_ne064 h1) kk
  · exact h.elim
theorem am_s_lrem {l : Launch} {L : Nat} {xs : Nat → Int} {y : Nat} {Q : Option am_V → am_N → Prop} {K : Nat → List (Option am_V) → List am_V → am_N → Prop} {pc : Nat} {lv : List (Option am_V)} {st : List am_V} {μ : am_N}  (hk : ∀ pc lv st μ, K pc lv st μ → am_AW l L xs y Q pc lv st μ) (hd : decode (am_bt y) pc = .ok (.lrem, 1)) (h : am_stp l L xs y Q K (pc + 1, 39, 0, 0, 0, 0, []) lv st μ) : am_AW l L xs y Q pc lv st μ := by
  simp only [am_stp] at h
  split at h
  · rename_i v u r
    obtain ⟨h1, h⟩ := h
    intro p e R s m args below meth c D ad ca tys B0 cells slots Qf E hret H locs ls hL hP hD hS
    have kk : W p l e R s m args below meth c H locs cells slots Qf (F0 m (pc + 1) ls (.long (Int64.ofInt _) :: r.map (am_rv ad))) := hk _ _ _ _ h p e R s m args below meth c D ad ca tys B0 cells slots Qf E hret H locs ls hL hP hD hS
    rw [← am_rem64] at kk
    exact lv_lrem E.1 E.2.1 hd (am_ne064 h1) kk
  · exact h.elim
theorem am_s_goto {l : Launch} {L : Nat} {xs : Nat → Int} {y : Nat} {Q : Option am_V → am_N → Prop} {K : Nat → List (Option am_V) → List am_V → am_N → Prop} {pc : Nat} {lv : List (Option am_V)} {st : List am_V} {μ : am_N} {off : Int} (hk : ∀ pc lv st μ, K pc lv st μ → am_AW l L xs y Q pc lv st μ) (hd : decode (am_bt y) pc = .ok (.goto off, 3)) (ho : 0 ≤ (pc : Int) + off) (h : K ((pc : Int) + off).toNat lv st μ) : am_AW l L xs y Q pc lv st μ := by
  intro p e R s m args below meth c D ad ca tys B0 cells slots Qf E hret H locs ls hL hP hD hS
  exact lv_goto E.1 E.2.1 hd (by omega) (hk _ _ _ _ h p e R s m args below meth c D ad ca tys B0 cells slots Qf E hret H locs ls hL hP hD hS)
theorem am_s_if_eq {l : Launch} {L : Nat} {xs : Nat → Int} {y : Nat} {Q : Option am_V → am_N → Prop} {K : Nat → List (Option am_V) → List am_V → am_N → Prop} {pc : Nat} {lv : List (Option am_V)} {st : List am_V} {μ : am_N} {off : Int} (hk : ∀ pc lv st μ, K pc lv st μ → am_AW l L xs y Q pc lv st μ) (hd : decode (am_bt y) pc = .ok (.ifCond .eq off, 3)) (ho : 0 ≤ (pc : Int) + off) (h : am_stp l L xs y Q K (pc + 3, 26, ((pc : Int) + off).toNat, 0, 0, 0, []) lv st μ) : am_AW l L xs y Q pc lv st μ := by
  simp only [am_stp] at h
  split at h
  · rename_i v r
    obtain ⟨h1, h2⟩ := am_br2_iff.mp h
    intro p e R s m args below meth c D ad ca tys B0 cells slots Qf E hret H locs ls hL hP hD hS
    refine lv_if_eq (tgt := ((pc : Int) + off).toNat) E.1 E.2.1 hd (by omega) (fun q => ?_) (fun q => ?_)
    · exact hk _ _ _ _ (h1 (am_c_eq.mp q)) p e R s m args below meth c D ad ca tys B0 cells slots Qf E hret H locs ls hL hP hD hS
    · exact hk _ _ _ _ (h2 (am_n_eq.mp q)) p e R s m args below meth c D ad ca tys B0 cells slots Qf E hret H locs ls hL hP hD hS
  · exact h.elim
theorem am_s_icmp_eq {l : Launch} {L : Nat} {xs : Nat → Int} {y : Nat} {Q : Option am_V → am_N → Prop} {K : Nat → List (Option am_V) → List am_V → am_N → Prop} {pc : Nat} {lv : List (Option am_V)} {st : List am_V} {μ : am_N} {off : Int} (hk : ∀ pc lv st μ, K pc lv st μ → am_AW l L xs y Q pc lv st μ) (hd : decode (am_bt y) pc = .ok (.if_icmp .eq off, 3)) (ho : 0 ≤ (pc : Int) + off) (h : am_stp l L xs y Q K (pc + 3, 27, ((pc : Int) + off).toNat, 0, 0, 0, []) lv st μ) : am_AW l L xs y Q pc lv st μ := by
  simp only [am_stp] at h
  split at h
  · rename_i v u r
    obtain ⟨h1, h2⟩ := am_br2_iff.mp h
    intro p e R s m args below meth c D ad ca tys B0 cells slots Qf E hret H locs ls hL hP hD hS
    refine lv_icmp_eq (tgt := ((pc : Int) + off).toNat) E.1 E.2.1 hd (by omega) (fun q => ?_) (fun q => ?_)
    · exact hk _ _ _ _ (h1 (am_c2_eq.mp q)) p e R s m args below meth c D ad ca tys B0 cells slots Qf E hret H locs ls hL hP hD hS
    · exact hk _ _ _ _ (h2 (am_n2_eq.mp q)) p e R s m args below meth c D ad ca tys B0 cells slots Qf E hret H locs ls hL hP hD hS
  · exact h.elim
theorem am_s_if_ne {l : Launch} {L : Nat} {xs : Nat → Int} {y : Nat} {Q : Option am_V → am_N → Prop} {K : Nat → List (Option am_V) → List am_V → am_N → Prop} {pc : Nat} {lv : List (Option am_V)} {st : List am_V} {μ : am_N} {off : Int} (hk : ∀ pc lv st μ, K pc lv st μ → am_AW l L xs y Q pc lv st μ) (hd : decode (am_bt y) pc = .ok (.ifCond .ne off, 3)) (ho : 0 ≤ (pc : Int) + off) (h : am_stp l L xs y Q K (pc + 3, 26, ((pc : Int) + off).toNat, 1, 0, 0, []) lv st μ) : am_AW l L xs y Q pc lv st μ := by
  simp only [am_stp] at h
  split at h
  · rename_i v r
    obtain ⟨h1, h2⟩ := am_br2_iff.mp h
    intro p e R s m args below meth c D ad ca tys B0 cells slots Qf E hret H locs ls hL hP hD hS
    refine lv_if_ne (tgt := ((pc : Int) + off).toNat) E.1 E.2.1 hd (by omega) (fun q => ?_) (fun q => ?_)
    · exact hk _ _ _ _ (h1 (am_c_ne.mp q)) p e R s m args below meth c D ad ca tys B0 cells slots Qf E hret H locs ls hL hP hD hS
    · exact hk _ _ _ _ (h2 (am_n_ne.mp q)) p e R s m args below meth c D ad ca tys B0 cells slots Qf E hret H locs ls hL hP hD hS
  · exact h.elim
theorem am_s_icmp_ne {l : Launch} {L : Nat} {xs : Nat → Int} {y : Nat} {Q : Option am_V → am_N → Prop} {K : Nat → List (Option am_V) → List am_V → am_N → Prop} {pc : Nat} {lv : List (Option am_V)} {st : List am_V} {μ : am_N} {off : Int} (hk : ∀ pc lv st μ, K pc lv st μ → am_AW l L xs y Q pc lv st μ) (hd : decode (am_bt y) pc = .ok (.if_icmp .ne off, 3)) (ho : 0 ≤ (pc : Int) + off) (h : am_stp l L xs y Q K (pc + 3, 27, ((pc : Int) + off).toNat, 1, 0, 0, []) lv st μ) : am_AW l L xs y Q pc lv st μ := by
  simp only [am_stp] at h
  split at h
  · rename_i v u r
    obtain ⟨h1, h2⟩ := am_br2_iff.mp h
    intro p e R s m args below meth c D ad ca tys B0 cells slots Qf E hret H locs ls hL hP hD hS
    refine lv_icmp_ne (tgt := ((pc : Int) + off).toNat) E.1 E.2.1 hd (by omega) (fun q => ?_) (fun q => ?_)
    · exact hk _ _ _ _ (h1 (am_c2_ne.mp q)) p e R s m args below meth c D ad ca tys B0 cells slots Qf E hret H locs ls hL hP hD hS
    · exact hk _ _ _ _ (h2 (am_n2_ne.mp q)) p e R s m args below meth c D ad ca tys B0 cells slots Qf E hret H locs ls hL hP hD hS
  · exact h.elim
theorem am_s_if_lt {l : Launch} {L : Nat} {xs : Nat → Int} {y : Nat} {Q : Option am_V → am_N → Prop} {K : Nat → List (Option am_V) → List am_V → am_N → Prop} {pc : Nat} {lv : List (Option am_V)} {st : List am_V} {μ : am_N} {off : Int} (hk : ∀ pc lv st μ, K pc lv st μ → am_AW l L xs y Q pc lv st μ) (hd : decode (am_bt y) pc = .ok (.ifCond .lt off, 3)) (ho : 0 ≤ (pc : Int) + off) (h : am_stp l L xs y Q K (pc + 3, 26, ((pc : Int) + off).toNat, 2, 0, 0, []) lv st μ) : am_AW l L xs y Q pc lv st μ := by
  simp only [am_stp] at h
  split at h
  · rename_i v r
    obtain ⟨h1, h2⟩ := am_br2_iff.mp h
    intro p e R s m args below meth c D ad ca tys B0 cells slots Qf E hret H locs ls hL hP hD hS
    refine lv_if_lt (tgt := ((pc : Int) + off).toNat) E.1 E.2.1 hd (by omega) (fun q => ?_) (fun q => ?_)
    · exact hk _ _ _ _ (h1 (am_c_lt.mp q)) p e R s m args below meth c D ad ca tys B0 cells slots Qf E hret H locs ls hL hP hD hS
    · exact hk _ _ _ _ (h2 (am_n_lt.mp q)) p e R s m args below meth c D ad ca tys B0 cells slots Qf E hret H locs ls hL hP hD hS
  · exact h.elim
theorem am_s_icmp_lt {l : Launch} {L : Nat} {xs : Nat → Int} {y : Nat} {Q : Option am_V → am_N → Prop} {K : Nat → List (Option am_V) → List am_V → am_N → Prop} {pc : Nat} {lv : List (Option am_V)} {st : List am_V} {μ : am_N} {off : Int} (hk : ∀ pc lv st μ, K pc lv st μ → am_AW l L xs y Q pc lv st μ) (hd : decode (am_bt y) pc = .ok (.if_icmp .lt off, 3)) (ho : 0 ≤ (pc : Int) + off) (h : am_stp l L xs y Q K (pc + 3, 27, ((pc : Int) + off).toNat, 2, 0, 0, []) lv st μ) : am_AW l L xs y Q pc lv st μ := by
  simp only [am_stp] at h
  split at h
  · rename_i v u r
    obtain ⟨h1, h2⟩ := am_br2_iff.mp h
    intro p e R s m args below meth c D ad ca tys B0 cells slots Qf E hret H locs ls hL hP hD hS
    refine lv_icmp_lt (tgt := ((pc : Int) + off).toNat) E.1 E.2.1 hd (by omega) (fun q => ?_) (fun q => ?_)
    · exact hk _ _ _ _ (h1 (am_c2_lt.mp q)) p e R s m args below meth c D ad ca tys B0 cells slots Qf E hret H locs ls hL hP hD hS
    · exact hk _ _ _ _ (h2 (am_n2_lt.mp q)) p e R s m args below meth c D ad ca tys B0 cells slots Qf E hret H locs ls hL hP hD hS
  · exact h.elim
theorem am_s_if_ge {l : Launch} {L : Nat} {xs : Nat → Int} {y : Nat} {Q : Option am_V → am_N → Prop} {K : Nat → List (Option am_V) → List am_V → am_N → Prop} {pc : Nat} {lv : List (Option am_V)} {st : List am_V} {μ : am_N} {off : Int} (hk : ∀ pc lv st μ, K pc lv st μ → am_AW l L xs y Q pc lv st μ) (hd : decode (am_bt y) pc = .ok (.ifCond .ge off, 3)) (ho : 0 ≤ (pc : Int) + off) (h : am_stp l L xs y Q K (pc + 3, 26, ((pc : Int) + off).toNat, 3, 0, 0, []) lv st μ) : am_AW l L xs y Q pc lv st μ := by
  simp only [am_stp] at h
  split at h
  · rename_i v r
    obtain ⟨h1, h2⟩ := am_br2_iff.mp h
    intro p e R s m args below meth c D ad ca tys B0 cells slots Qf E hret H locs ls hL hP hD hS
    refine lv_if_ge (tgt := ((pc : Int) + off).toNat) E.1 E.2.1 hd (by omega) (fun q => ?_) (fun q => ?_)
    · exact hk _ _ _ _ (h1 (am_c_ge.mp q)) p e R s m args below meth c D ad ca tys B0 cells slots Qf E hret H locs ls hL hP hD hS
    · exact hk _ _ _ _ (h2 (am_n_ge.mp q)) p e R s m args below meth c D ad ca tys B0 cells slots Qf E hret H locs ls hL hP hD hS
  · exact h.elim
theorem am_s_icmp_ge {l : Launch} {L : Nat} {xs : Nat → Int} {y : Nat} {Q : Option am_V → am_N → Prop} {K : Nat → List (Option am_V) → List am_V → am_N → Prop} {pc : Nat} {lv : List (Option am_V)} {st : List am_V} {μ : am_N} {off : Int} (hk : ∀ pc lv st μ, K pc lv st μ → am_AW l L xs y Q pc lv st μ) (hd : decode (am_bt y) pc = .ok (.if_icmp .ge off, 3)) (ho : 0 ≤ (pc : Int) + off) (h : am_stp l L xs y Q K (pc + 3, 27, ((pc : Int) + off).toNat, 3, 0, 0, []) lv st μ) : am_AW l L xs y Q pc lv st μ := by
  simp only [am_stp] at h
  split at h
  · rename_i v u r
    obtain ⟨h1, h2⟩ := am_br2_iff.mp h
    intro p e R s m args below meth c D ad ca tys B0 cells slots Qf E hret H locs ls hL hP hD hS
    refine lv_icmp_ge (tgt := ((pc : Int) + off).toNat) E.1 E.2.1 hd (by omega) (fun q => ?_) (fun q => ?_)
    · exact hk _ _ _ _ (h1 (am_c2_ge.mp q)) p e R s m args below meth c D ad ca tys B0 cells slots Qf E hret H locs ls hL hP hD hS
    · exact hk _ _ _ _ (h2 (am_n2_ge.mp q)) p e R s m args below meth c D ad ca tys B0 cells slots Qf E hret H locs ls hL hP hD hS
  · exact h.elim
theorem am_s_if_gt {l : Launch} {L : Nat} {xs : Nat → Int} {y : Nat} {Q : Option am_V → am_N → Prop} {K : Nat → List (Option am_V) → List am_V → am_N → Prop} {pc : Nat} {lv : List (Option am_V)} {st : List am_V} {μ : am_N} {off : Int} (hk : ∀ pc lv st μ, K pc lv st μ → am_AW l L xs y Q pc lv st μ) (hd : decode (am_bt y) pc = .ok (.ifCond .gt off, 3)) (ho : 0 ≤ (pc : Int) + off) (h : am_stp l L xs y Q K (pc + 3, 26, ((pc : Int) + off).toNat, 4, 0, 0, []) lv st μ) : am_AW l L xs y Q pc lv st μ := by
  simp only [am_stp] at h
  split at h
  · rename_i v r
    obtain ⟨h1, h2⟩ := am_br2_iff.mp h
    intro p e R s m args below meth c D ad ca tys B0 cells slots Qf E hret H locs ls hL hP hD hS
    refine lv_if_gt (tgt := ((pc : Int) + off).toNat) E.1 E.2.1 hd (by omega) (fun q => ?_) (fun q => ?_)
    · exact hk _ _ _ _ (h1 (am_c_gt.mp q)) p e R s m args below meth c D ad ca tys B0 cells slots Qf E hret H locs ls hL hP hD hS
    · exact hk _ _ _ _ (h2 (am_n_gt.mp q)) p e R s m args below meth c D ad ca tys B0 cells slots Qf E hret H locs ls hL hP hD hS
  · exact h.elim
theorem am_s_icmp_gt {l : Launch} {L : Nat} {xs : Nat → Int} {y : Nat} {Q : Option am_V → am_N → Prop} {K : Nat → List (Option am_V) → List am_V → am_N → Prop} {pc : Nat} {lv : List (Option am_V)} {st : List am_V} {μ : am_N} {off : Int} (hk : ∀ pc lv st μ, K pc lv st μ → am_AW l L xs y Q pc lv st μ) (hd : decode (am_bt y) pc = .ok (.if_icmp .gt off, 3)) (ho : 0 ≤ (pc : Int) + off) (h : am_stp l L xs y Q K (pc + 3, 27, ((pc : Int) + off).toNat, 4, 0, 0, []) lv st μ) : am_AW l L xs y Q pc lv st μ := by
  simp only [am_stp] at h
  split at h
  · rename_i v u r
    obtain ⟨h1, h2⟩ := am_br2_iff.mp h
    intro p e R s m args below meth c D ad ca tys B0 cells slots Qf E hret H locs ls hL hP hD hS
    refine lv_icmp_gt (tgt := ((pc : Int) + off).toNat) E.1 E.2.1 hd (by omega) (fun q => ?_) (fun q => ?_)
    · exact hk _ _ _ _ (h1 (am_c2_gt.mp q)) p e R s m args below meth c D ad ca tys B0 cells slots Qf E hret H locs ls hL hP hD hS
    · exact hk _ _ _ _ (h2 (am_n2_gt.mp q)) p e R s m args below meth c D ad ca tys B0 cells slots Qf E hret H locs ls hL hP hD hS
  · exact h.elim
theorem am_s_if_le {l : Launch} {L : Nat} {xs : Nat → Int} {y : Nat} {Q : Option am_V → am_N → Prop} {K : Nat → List (Option am_V) → List am_V → am_N → Prop} {pc : Nat} {lv : List (Option am_V)} {st : List am_V} {μ : am_N} {off : Int} (hk : ∀ pc lv st μ, K pc lv st μ → am_AW l L xs y Q pc lv st μ) (hd : decode (am_bt y) pc = .ok (.ifCond .le off, 3)) (ho : 0 ≤ (pc : Int) + off) (h : am_stp l L xs y Q K (pc + 3, 26, ((pc : Int) + off).toNat, 5, 0, 0, []) lv st μ) : am_AW l L xs y Q pc lv st μ := by
  simp only [am_stp] at h
  split at h
  · rename_i v r
    obtain ⟨h1, h2⟩ := am_br2_iff.mp h
    intro p e R s m args below meth c D ad ca tys B0 cells slots Qf E hret H locs ls hL hP hD hS
    refine lv_if_le (tgt := ((pc : Int) + off).toNat) E.1 E.2.1 hd (by omega) (fun q => ?_) (fun q => ?_)
    · exact hk _ _ _ _ (h1 (am_c_le.mp q)) p e R s m args below meth c D ad ca tys B0 cells slots Qf E hret H locs ls hL hP hD hS
    · exact hk _ _ _ _ (h2 (am_n_le.mp q)) p e R s m args below meth c D ad ca tys B0 cells slots Qf E hret H locs ls hL hP hD hS
  · exact h.elim
theorem am_s_icmp_le {l : Launch} {L : Nat} {xs : Nat → Int} {y : Nat} {Q : Option am_V → am_N → Prop} {K : Nat → List (Option am_V) → List am_V → am_N → Prop} {pc : Nat} {lv : List (Option am_V)} {st : List am_V} {μ : am_N} {off : Int} (hk : ∀ pc lv st μ, K pc lv st μ → am_AW l L xs y Q pc lv st μ) (hd : decode (am_bt y) pc = .ok (.if_icmp .le off, 3)) (ho : 0 ≤ (pc : Int) + off) (h : am_stp l L xs y Q K (pc + 3, 27, ((pc : Int) + off).toNat, 5, 0, 0, []) lv st μ) : am_AW l L xs y Q pc lv st μ := by
  simp only [am_stp] at h
  split at h
  · rename_i v u r
    obtain ⟨h1, h2⟩ := am_br2_iff.mp h
    intro p e R s m args below meth c D ad ca tys B0 cells slots Qf E hret H locs ls hL hP hD hS
    refine lv_icmp_le (tgt := ((pc : Int) + off).toNat) E.1 E.2.1 hd (by omega) (fun q => ?_) (fun q => ?_)
    · exact hk _ _ _ _ (h1 (am_c2_le.mp q)) p e R s m args below meth c D ad ca tys B0 cells slots Qf E hret H locs ls hL hP hD hS
    · exact hk _ _ _ _ (h2 (am_n2_le.mp q)) p e R s m args below meth c D ad ca tys B0 cells slots Qf E hret H locs ls hL hP hD hS
  · exact h.elim
theorem am_s_pop {l : Launch} {L : Nat} {xs : Nat → Int} {y : Nat} {Q : Option am_V → am_N → Prop} {K : Nat → List (Option am_V) → List am_V → am_N → Prop} {pc : Nat} {lv : List (Option am_V)} {st : List am_V} {μ : am_N}  (hk : ∀ pc lv st μ, K pc lv st μ → am_AW l L xs y Q pc lv st μ) (hd : decode (am_bt y) pc = .ok (.pop, 1)) (h : am_stp l L xs y Q K (pc + 1, 28, 0, 0, 0, 0, []) lv st μ) : am_AW l L xs y Q pc lv st μ := by
  simp only [am_stp] at h
  split at h
  · intro p e R s m args below meth c D ad ca tys B0 cells slots Qf E hret H locs ls hL hP hD hS
    exact lv_pop E.1 E.2.1 hd rfl (hk _ _ _ _ h p e R s m args below meth c D ad ca tys B0 cells slots Qf E hret H locs ls hL hP hD hS)
  · exact h.elim
theorem am_s_pop2 {l : Launch} {L : Nat} {xs : Nat → Int} {y : Nat} {Q : Option am_V → am_N → Prop} {K : Nat → List (Option am_V) → List am_V → am_N → Prop} {pc : Nat} {lv : List (Option am_V)} {st : List am_V} {μ : am_N}  (hk : ∀ pc lv st μ, K pc lv st μ → am_AW l L xs y Q pc lv st μ) (hd : decode (am_bt y) pc = .ok (.pop2, 1)) (h : am_stp l L xs y Q K (pc + 1, 29, 0, 0, 0, 0, []) lv st μ) : am_AW l L xs y Q pc lv st μ := by
  simp only [am_stp] at h
  split at h
  · intro p e R s m args below meth c D ad ca tys B0 cells slots Qf E hret H locs ls hL hP hD hS
    exact lv_pop2_2 E.1 E.2.1 hd rfl (hk _ _ _ _ h p e R s m args below meth c D ad ca tys B0 cells slots Qf E hret H locs ls hL hP hD hS)
  · exact h.elim
theorem am_s_dup {l : Launch} {L : Nat} {xs : Nat → Int} {y : Nat} {Q : Option am_V → am_N → Prop} {K : Nat → List (Option am_V) → List am_V → am_N → Prop} {pc : Nat} {lv : List (Option am_V)} {st : List am_V} {μ : am_N}  (hk : ∀ pc lv st μ, K pc lv st μ → am_AW l L xs y Q pc lv st μ) (hd : decode (am_bt y) pc = .ok (.dup, 1)) (h : am_stp l L xs y Q K (pc + 1, 30, 0, 0, 0, 0, []) lv st μ) : am_AW l L xs y Q pc lv st μ := by
  simp only [am_stp] at h
  split at h
  · intro p e R s m args below meth c D ad ca tys B0 cells slots Qf E hret H locs ls hL hP hD hS
    exact lv_dup E.1 E.2.1 hd rfl (hk _ _ _ _ h p e R s m args below meth c D ad ca tys B0 cells slots Qf E hret H locs ls hL hP hD hS)
  · intro p e R s m args below meth c D ad ca tys B0 cells slots Qf E hret H locs ls hL hP hD hS
    exact lv_dup E.1 E.2.1 hd rfl (hk _ _ _ _ h p e R s m args below meth c D ad ca tys B0 cells slots Qf E hret H locs ls hL hP hD hS)
  · exact h.elim
theorem am_s_dup2 {l : Launch} {L : Nat} {xs : Nat → Int} {y : Nat} {Q : Option am_V → am_N → Prop} {K : Nat → List (Option am_V) → List am_V → am_N → Prop} {pc : Nat} {lv : List (Option am_V)} {st : List am_V} {μ : am_N}  (hk : ∀ pc lv st μ, K pc lv st μ → am_AW l L xs y Q pc lv st μ) (hd : decode (am_bt y) pc = .ok (.dup2, 1)) (h : am_stp l L xs y Q K (pc + 1, 31, 0, 0, 0, 0, []) lv st μ) : am_AW l L xs y Q pc lv st μ := by
  simp only [am_stp] at h
  split at h
  · intro p e R s m args below meth c D ad ca tys B0 cells slots Qf E hret H locs ls hL hP hD hS
    exact lv_dup2_11 E.1 E.2.1 hd rfl rfl (hk _ _ _ _ h p e R s m args below meth c D ad ca tys B0 cells slots Qf E hret H locs ls hL hP hD hS)
  · exact h.elim
theorem am_s_dup_x1 {l : Launch} {L : Nat} {xs : Nat → Int} {y : Nat} {Q : Option am_V → am_N → Prop} {K : Nat → List (Option am_V) → List am_V → am_N → Prop} {pc : Nat} {lv : List (Option am_V)} {st : List am_V} {μ : am_N}  (hk : ∀ pc lv st μ, K pc lv st μ → am_AW l L xs y Q pc lv st μ) (hd : decode (am_bt y) pc = .ok (.dup_x1, 1)) (h : am_stp l L xs y Q K (pc + 1, 32, 0, 0, 0, 0, []) lv st μ) : am_AW l L xs y Q pc lv st μ := by
  simp only [am_stp] at h
  split at h
  · intro p e R s m args below meth c D ad ca tys B0 cells slots Qf E hret H locs ls hL hP hD hS
    exact lv_dup_x1 E.1 E.2.1 hd rfl rfl (hk _ _ _ _ h p e R s m args below meth c D ad ca tys B0 cells slots Qf E hret H locs ls hL hP hD hS)
  · exact h.elim
theorem am_s_mmax {l : Launch} {L : Nat} {xs : Nat → Int} {y : Nat} {Q : Option am_V → am_N → Prop} {K : Nat → List (Option am_V) → List am_V → am_N → Prop} {pc : Nat} {lv : List (Option am_V)} {st : List am_V} {μ : am_N} {k : Nat} (hl1 : 1 ≤ am_fr y) (hl2 : 21 ≤ am_lo y) (hk : ∀ pc lv st μ, K pc lv st μ → am_AW l L xs y Q pc lv st μ) (hd : decode (am_bt y) pc = .ok (.invokestatic k, 3)) (hf : (am_ow y, k, 0) ∈ am_ma) (h : am_stp l L xs y Q K (pc + 3, 46, 0, 0, 0, 0, []) lv st μ) : am_AW l L xs y Q pc lv st μ := by
  simp only [am_stp] at h
  split at h
  · rename_i v u r
    obtain ⟨h1, h⟩ := am_ifb h
    have h1 := Nat.le_of_ble_eq_true h1
    intro p e R s m args below meth c D ad ca tys B0 cells slots Qf E hret H locs ls hL hP hD hS
    obtain ⟨e1, e2, e3, e4, e5, e6, e7, e8, e9, e10, e11, e12, e13⟩ := id E
    have kk : W p l e R s m args below meth c H locs cells slots Qf (F0 m (pc + 3) ls (.int (Int32.ofInt _) :: r.map (am_rv ad))) := hk _ _ _ _ h p e R s m args below meth c D ad ca tys B0 cells slots Qf E hret H locs ls hL hP hD hS
    refine va_mmax e1 e2 (e3.trans hL.1.symm) e4 (e5 _ (am_ma_in _ hf)) (e5 _ (am_mw_in _ (List.mem_of_getElem? (i := 0) rfl))) (e5 _ (am_mw_in _ (List.mem_of_getElem? (i := 6) rfl))) (e5 _ (am_mw_in _ (List.mem_of_getElem? (i := 1) rfl))) (by omega) (by rw [am_cats]; omega) e11 e12 hd ?_
    simp only [am_lt]
    split at kk
    · rename_i hc
      rw [if_pos hc]; exact kk
    · rename_i hc
      rw [if_neg hc]; exact kk
  · exact h.elim
theorem am_s_mmin {l : Launch} {L : Nat} {xs : Nat → Int} {y : Nat} {Q : Option am_V → am_N → Prop} {K : Nat → List (Option am_V) → List am_V → am_N → Prop} {pc : Nat} {lv : List (Option am_V)} {st : List am_V} {μ : am_N} {k : Nat} (hl1 : 1 ≤ am_fr y) (hl2 : 21 ≤ am_lo y) (hk : ∀ pc lv st μ, K pc lv st μ → am_AW l L xs y Q pc lv st μ) (hd : decode (am_bt y) pc = .ok (.invokestatic k, 3)) (hf : (am_ow y, k, 1) ∈ am_ma) (h : am_stp l L xs y Q K (pc + 3, 47, 0, 0, 0, 0, []) lv st μ) : am_AW l L xs y Q pc lv st μ := by
  simp only [am_stp] at h
  split at h
  · rename_i v u r
    obtain ⟨h1, h⟩ := am_ifb h
    have h1 := Nat.le_of_ble_eq_true h1
    intro p e R s m args below meth c D ad ca tys B0 cells slots Qf E hret H locs ls hL hP hD hS
    obtain ⟨e1, e2, e3, e4, e5, e6, e7, e8, e9, e10, e11, e12, e13⟩ := id E
    have kk : W p l e R s m args below meth c H locs cells slots Qf (F0 m (pc + 3) ls (.int (Int32.ofInt _) :: r.map (am_rv ad))) := hk _ _ _ _ h p e R s m args below meth c D ad ca tys B0 cells slots Qf E hret H locs ls hL hP hD hS
    refine va_mmin e1 e2 (e3.trans hL.1.symm) e4 (e5 _ (am_ma_in _ hf)) (e5 _ (am_mw_in _ (List.mem_of_getElem? (i := 2) rfl))) (e5 _ (am_mw_in _ (List.mem_of_getElem? (i := 6) rfl))) (e5 _ (am_mw_in _ (List.mem_of_getElem? (i := 3) rfl))) (by omega) (by rw [am_cats]; omega) e11 e12 hd ?_
    simp only [am_lt]
    split at kk
    · rename_i hc
      rw [if_pos hc]; exact kk
    · rename_i hc
      rw [if_neg hc]; exact kk
  · exact h.elim
theorem am_s_mabs {l : Launch} {L : Nat} {xs : Nat → Int} {y : Nat} {Q : Option am_V → am_N → Prop} {K : Nat → List (Option am_V) → List am_V → am_N → Prop} {pc : Nat} {lv : List (Option am_V)} {st : List am_V} {μ : am_N} {k : Nat} (hl1 : 1 ≤ am_fr y) (hl2 : 21 ≤ am_lo y) (hk : ∀ pc lv st μ, K pc lv st μ → am_AW l L xs y Q pc lv st μ) (hd : decode (am_bt y) pc = .ok (.invokestatic k, 3)) (hf : (am_ow y, k, 2) ∈ am_ma) (h : am_stp l L xs y Q K (pc + 3, 48, 0, 0, 0, 0, []) lv st μ) : am_AW l L xs y Q pc lv st μ := by
  simp only [am_stp] at h
  split at h
  · rename_i u r
    obtain ⟨h1, h⟩ := am_ifb h
    have h1 := Nat.le_of_ble_eq_true h1
    intro p e R s m args below meth c D ad ca tys B0 cells slots Qf E hret H locs ls hL hP hD hS
    obtain ⟨e1, e2, e3, e4, e5, e6, e7, e8, e9, e10, e11, e12, e13⟩ := id E
    have kk : W p l e R s m args below meth c H locs cells slots Qf (F0 m (pc + 3) ls (.int (Int32.ofInt _) :: r.map (am_rv ad))) := hk _ _ _ _ h p e R s m args below meth c D ad ca tys B0 cells slots Qf E hret H locs ls hL hP hD hS
    refine va_mabs e1 e2 (e3.trans hL.1.symm) e4 (e5 _ (am_ma_in _ hf)) (e5 _ (am_mw_in _ (List.mem_of_getElem? (i := 4) rfl))) (e5 _ (am_mw_in _ (List.mem_of_getElem? (i := 6) rfl))) (e5 _ (am_mw_in _ (List.mem_of_getElem? (i := 5) rfl))) (by omega) (by rw [am_cats]; omega) e11 e12 hd ?_
    rw [← am_0]
    simp only [am_le, am_c0]
    split at kk
    · rename_i hc
      rw [if_pos hc]; exact kk
    · rename_i hc
      rw [if_neg hc, ← Int32.ofInt_sub]; exact kk
  · exact h.elim
theorem am_s_return {l : Launch} {L : Nat} {xs : Nat → Int} {y : Nat} {Q : Option am_V → am_N → Prop} {K : Nat → List (Option am_V) → List am_V → am_N → Prop} {pc : Nat} {lv : List (Option am_V)} {st : List am_V} {μ : am_N}  (hk : ∀ pc lv st μ, K pc lv st μ → am_AW l L xs y Q pc lv st μ) (hd : decode (am_bt y) pc = .ok (.return_, 1)) (hr : am_re y = none) (h : am_stp l L xs y Q K (0, 42, 0, 0, 0, 0, []) lv st μ) : am_AW l L xs y Q pc lv st μ := by
  simp only [am_stp] at h
  split at h
  · intro p e R s m args below meth c D ad ca tys B0 cells slots Qf E hret H locs ls hL hP hD hS
    exact hret none μ H locs pc ls h.2 hP hD hS ⟨hd, hr⟩
  · exact h.elim
theorem am_s_ireturn {l : Launch} {L : Nat} {xs : Nat → Int} {y : Nat} {Q : Option am_V → am_N → Prop} {K : Nat → List (Option am_V) → List am_V → am_N → Prop} {pc : Nat} {lv : List (Option am_V)} {st : List am_V} {μ : am_N}  (hk : ∀ pc lv st μ, K pc lv st μ → am_AW l L xs y Q pc lv st μ) (hd : decode (am_bt y) pc = .ok (.ireturn, 1)) (hr : am_re y = some .int) (h : am_stp l L xs y Q K (0, 43, 0, 0, 0, 0, []) lv st μ) : am_AW l L xs y Q pc lv st μ := by
  simp only [am_stp] at h
  split at h
  · rename_i v
    intro p e R s m args below meth c D ad ca tys B0 cells slots Qf E hret H locs ls hL hP hD hS
    exact hret (some (.inl v)) μ H locs pc ls h.2 hP hD hS ⟨hd, Or.inl hr⟩
  · exact h.elim
theorem am_s_ireturnz {l : Launch} {L : Nat} {xs : Nat → Int} {y : Nat} {Q : Option am_V → am_N → Prop} {K : Nat → List (Option am_V) → List am_V → am_N → Prop} {pc : Nat} {lv : List (Option am_V)} {st : List am_V} {μ : am_N}  (hk : ∀ pc lv st μ, K pc lv st μ → am_AW l L xs y Q pc lv st μ) (hd : decode (am_bt y) pc = .ok (.ireturn, 1)) (hr : am_re y = some .boolean) (h : am_stp l L xs y Q K (0, 43, 0, 0, 1, 0, []) lv st μ) : am_AW l L xs y Q pc lv st μ := by
  simp only [am_stp] at h
  split at h
  · rename_i v
    intro p e R s m args below meth c D ad ca tys B0 cells slots Qf E hret H locs ls hL hP hD hS
    exact hret (some (.inl v)) μ H locs pc ls h.2 hP hD hS ⟨hd, Or.inr ⟨hr, h.1⟩⟩
  · exact h.elim
theorem am_s_lreturn {l : Launch} {L : Nat} {xs : Nat → Int} {y : Nat} {Q : Option am_V → am_N → Prop} {K : Nat → List (Option am_V) → List am_V → am_N → Prop} {pc : Nat} {lv : List (Option am_V)} {st : List am_V} {μ : am_N}  (hk : ∀ pc lv st μ, K pc lv st μ → am_AW l L xs y Q pc lv st μ) (hd : decode (am_bt y) pc = .ok (.lreturn, 1)) (hr : am_re y = some .long) (h : am_stp l L xs y Q K (0, 44, 0, 0, 0, 0, []) lv st μ) : am_AW l L xs y Q pc lv st μ := by
  simp only [am_stp] at h
  split at h
  · rename_i v
    intro p e R s m args below meth c D ad ca tys B0 cells slots Qf E hret H locs ls hL hP hD hS
    exact hret (some (.inr (.inl v))) μ H locs pc ls h.2 hP hD hS ⟨hd, hr⟩
  · exact h.elim
theorem am_s_table {l : Launch} {L : Nat} {xs : Nat → Int} {y : Nat} {Q : Option am_V → am_N → Prop} {K : Nat → List (Option am_V) → List am_V → am_N → Prop} {pc : Nat} {lv : List (Option am_V)} {st : List am_V} {μ : am_N} {d lo hi : Int} {offs : Array Int} {len : Nat} (hk : ∀ pc lv st μ, K pc lv st μ → am_AW l L xs y Q pc lv st μ) (hd : decode (am_bt y) pc = .ok (.tableswitch d lo hi offs, len)) (h0 : 0 ≤ (pc : Int) + d) (h1 : ∀ o ∈ offs.toList, 0 ≤ (pc : Int) + o) (h2 : (offs.toList.length : Int) = hi - lo + 1) (h : am_stp l L xs y Q K (0, 45, ((pc : Int) + d).toNat, 0, 0, 0, am_tb pc lo offs.toList) lv st μ) : am_AW l L xs y Q pc lv st μ := by
  simp only [am_stp] at h
  split at h
  · rename_i v r
    intro p e R s m args below meth c D ad ca tys B0 cells slots Qf E hret H locs ls hL hP hD hS
    rcases am_sw_tb h with ⟨o, ho, hK⟩ | ⟨ho, hK⟩
    · have hlo : ¬ am_c v < lo := ho.1
      have ho2 := ho.2
      have hmem : o ∈ offs.toList := List.mem_of_getElem? ho2
      have hlt : (am_c v - lo).toNat < offs.toList.length := (List.getElem?_eq_some_iff.mp ho2).1
      exact lv_tableIn (tgt := ((pc : Int) + o).toNat) E.1 E.2.1 hd (by rw [am_toInt]; exact hlo) (by rw [am_toInt]; omega) (by rw [am_toInt, ← Array.getElem?_toList]; exact ho2) (by have := h1 o hmem; omega) (hk _ _ _ _ hK p e R s m args below meth c D ad ca tys B0 cells slots Qf E hret H locs ls hL hP hD hS)
    · exact lv_tableOut (tgt := ((pc : Int) + d).toNat) E.1 E.2.1 hd (by rw [am_toInt]; rcases ho with q | q; exact Or.inl q; exact Or.inr (by omega)) (by omega) (hk _ _ _ _ hK p e R s m args below meth c D ad ca tys B0 cells slots Qf E hret H locs ls hL hP hD hS)
  · exact h.elim
theorem am_s_lookup {l : Launch} {L : Nat} {xs : Nat → Int} {y : Nat} {Q : Option am_V → am_N → Prop} {K : Nat → List (Option am_V) → List am_V → am_N → Prop} {pc : Nat} {lv : List (Option am_V)} {st : List am_V} {μ : am_N} {d : Int} {ps : Array (Int × Int)} {len : Nat} (hk : ∀ pc lv st μ, K pc lv st μ → am_AW l L xs y Q pc lv st μ) (hd : decode (am_bt y) pc = .ok (.lookupswitch d ps, len)) (h0 : 0 ≤ (pc : Int) + d) (h1 : ∀ o ∈ ps.toList, 0 ≤ (pc : Int) + o.2) (h2 : (ps.toList.zip (ps.toList.drop 1)).all (fun (a, next) => a.1 < next.1) = true) (h : am_stp l L xs y Q K (0, 45, ((pc : Int) + d).toNat, 0, 0, 0, ps.toList.map (fun o => (o.1, ((pc : Int) + o.2).toNat))) lv st μ) : am_AW l L xs y Q pc lv st μ := by
  simp only [am_stp] at h
  split at h
  · rename_i v r
    intro p e R s m args below meth c D ad ca tys B0 cells slots Qf E hret H locs ls hL hP hD hS
    obtain ⟨hK, hn⟩ := am_sw_lk h0 h1 h
    exact lv_lookup (tgt := ((pc : Int) + Op.lookupswitch.offset ps.toList d (am_c v)).toNat) E.1 E.2.1 hd h2 (by rw [am_toInt]) (by omega) (hk _ _ _ _ hK p e R s m args below meth c D ad ca tys B0 cells slots Qf E hret H locs ls hL hP hD hS)
  · exact h.elim
theorem am_s_invv {l : Launch} {L : Nat} {xs : Nat → Int} {y : Nat} {Q : Option am_V → am_N → Prop} {K : Nat → List (Option am_V) → List am_V → am_N → Prop} {pc : Nat} {lv : List (Option am_V)} {st : List am_V} {μ : am_N} {k z : Nat} (hk : ∀ pc lv st μ, K pc lv st μ → am_AW l L xs y Q pc lv st μ) (hd : decode (am_bt y) pc = .ok (.invokevirtual k, 3)) (hf : (am_ow y, k, z) ∈ am_ca) (h0 : 0 < z) (h1 : z < am_ny) (h2 : am_fr z + 1 ≤ am_fr y) (h3 : 19 + am_ml z + am_lo z ≤ am_lo y) (h4 : am_st z = false) (h : am_stp l L xs y Q K (pc + 3, 40, z, (am_na z), (am_ow z + 2), 0, []) lv st μ) : am_AW l L xs y Q pc lv st μ := by
  simp only [am_stp] at h
  split at h
  · rename_i b as has
    obtain ⟨g0, -, h⟩ := am_ifb h
    obtain ⟨g1, g0⟩ := am_bb g0
    obtain ⟨g2, g3⟩ := am_bb g0
    have g1 := Nat.eq_of_beq_eq_true g1
    have g2 := Nat.le_of_ble_eq_true g2
    have g3 := Nat.le_of_ble_eq_true g3
    intro p e R s m args below meth c D ad ca tys B0 cells slots Qf E hret H locs ls hL hP hD hS
    obtain ⟨e1, e2, e3, e4, e5, e6, e7, e8, e9, e10, e11, e12, e13⟩ := id E
    obtain ⟨fs, hfs⟩ := am_tag_ok g1
    obtain ⟨m1, m2, m3, m4, m5, m6⟩ := am_md_ok h0 h1
    have hlen : as.length + 1 = am_na z := by
      have q := congrArg List.length has
      rw [List.length_reverse, List.length_take] at q
      simp only [List.length_cons] at q
      omega
    have hst : st.map (am_rv ad) = ((as.map (am_rv ad)).reverse ++ .ref (ad b) :: (st.drop (am_na z)).map (am_rv ad)) := by
      have q1 : st.take (am_na z) = as.reverse ++ [.inr (.inr b)] := by rw [← List.reverse_reverse (st.take (am_na z)), has, List.reverse_cons]
      have q2 : st = (as.reverse ++ [.inr (.inr b)]) ++ st.drop (am_na z) := by rw [← q1, List.take_append_drop]
      refine (congrArg (List.map (am_rv ad)) q2).trans ?_
      rw [List.map_append, List.map_append, List.map_reverse, List.append_assoc]
      rfl
    have cw : CallW R s args (am_cn (am_ow y)) (am_cn (am_ow z)) k (am_md z).1 (am_bt z) (am_ml z) (am_re z) (am_w z) (am_rm z) 0 0 as.length :=
      ⟨callB_of (Ts := am_big) as.length e5 (am_goodw h0 h1) rfl rfl rfl (e5 _ m5) (e5 _ (am_ca_in _ hf)) ⟨m2.1, m2.2, by rw [m3, h4]; simp only [Bool.false_eq_true, if_false, Option.some.injEq]; omega⟩ ⟨Nat.le_trans h2 e9, by show 8 + (am_ml z + 11) + am_lo z ≤ R.locals; omega⟩, e5 _ (m4.1 h4), by rw [← m1]; exact e5 _ (m4.2 h4)⟩
    rw [hst]
    refine am_callW (va_runV (As := as.map (am_rv ad)) (rest := (st.drop (am_na z)).map (am_rv ad)) ⟨e1, e2, e3, e4, e5⟩ (h D ad ca tys B0 e7) cw ⟨am_blind, am_recv m6 e6 hP hfs, fun U hU hW => ⟨rfl, by rw [hU]; exact Nat.le_trans e8 hS.1, by rw [hU]; exact hP, va_K.moved hW.alike e6, hD⟩⟩ rfl (by rw [List.length_map]) hL.1 rfl (lv_room (by rw [am_cats]; exact g3)) hd ⟨e11, e12⟩) hS (fun r μ' H1 locs1 hq hP hD hS => ?_)
    have kk := hk _ _ _ _ hq p e R s m args below meth c D ad ca tys B0 cells slots Qf E hret H1 locs1 ls hL hP hD hS
    rw [List.map_append] at kk
    have e : (am_rs r).map (am_rv ad) = (r.map (am_rv ad)).toList := by cases r <;> rfl
    rw [e] at kk
    exact kk
  · exact h.elim
theorem am_s_invs {l : Launch} {L : Nat} {xs : Nat → Int} {y : Nat} {Q : Option am_V → am_N → Prop} {K : Nat → List (Option am_V) → List am_V → am_N → Prop} {pc : Nat} {lv : List (Option am_V)} {st : List am_V} {μ : am_N} {k z : Nat} (hk : ∀ pc lv st μ, K pc lv st μ → am_AW l L xs y Q pc lv st μ) (hd : decode (am_bt y) pc = .ok (.invokestatic k, 3)) (hf : (am_ow y, k, z) ∈ am_ca) (h0 : 0 < z) (h1 : z < am_ny) (h2 : am_fr z + 1 ≤ am_fr y) (h3 : 19 + am_ml z + am_lo z ≤ am_lo y) (h4 : am_st z = true) (h5 : am_ow z = am_ow y) (h : am_stp l L xs y Q K (pc + 3, 41, z, (am_na z), 0, 0, []) lv st μ) : am_AW l L xs y Q pc lv st μ := by
  simp only [am_stp] at h
  obtain ⟨g0, -, h⟩ := am_ifb h
  obtain ⟨g2, g3⟩ := am_bb g0
  have g2 := Nat.le_of_ble_eq_true g2
  have g3 := Nat.le_of_ble_eq_true g3
  intro p e R s m args below meth c D ad ca tys B0 cells slots Qf E hret H locs ls hL hP hD hS
  obtain ⟨e1, e2, e3, e4, e5, e6, e7, e8, e9, e10, e11, e12, e13⟩ := id E
  obtain ⟨m1, m2, m3, m4, m5, m6⟩ := am_md_ok h0 h1
  have hlen : ((st.take (am_na z)).reverse.map (am_rv ad)).length = am_na z := by
    rw [List.length_map, List.length_reverse, List.length_take]; omega
  have hst : st.map (am_rv ad) = (((st.take (am_na z)).reverse.map (am_rv ad)).reverse ++ (st.drop (am_na z)).map (am_rv ad)) := by
    rw [← List.map_reverse, List.reverse_reverse, ← List.map_append, List.take_append_drop]
  have cw : CallB R s args (am_cn (am_ow y)) k (am_md z).1 (am_bt z) (am_ml z) (am_re z) (am_w z) (am_rm z) 0 0 (am_na z) ∧ (Cond.static (am_md z).1).before args s = true :=
    ⟨callB_of (Ts := am_big) (am_na z) e5 (am_goodw h0 h1) rfl rfl rfl (e5 _ m5) (e5 _ (am_ca_in _ hf)) ⟨m2.1, m2.2, by rw [m3, h4]; rfl⟩ ⟨Nat.le_trans h2 e9, by show 8 + (am_ml z + 11) + am_lo z ≤ R.locals; omega⟩, e5 _ (am_md_st h0 h1 h4)⟩
  rw [hst]
  refine am_callW (va_runS (As := (st.take (am_na z)).reverse.map (am_rv ad)) (rest := (st.drop (am_na z)).map (am_rv ad)) ⟨e1, e2, e3, e4, e5⟩ (h D ad ca tys B0 e7) cw ⟨am_blind, fun U hU hW => ⟨rfl, by rw [hU]; exact Nat.le_trans e8 hS.1, by rw [hU]; exact hP, va_K.moved hW.alike e6, hD⟩⟩ rfl hlen hL.1 rfl (lv_room (by rw [am_cats]; exact g3)) hd ⟨e11, e12⟩) hS (fun r μ' H1 locs1 hq hP hD hS => ?_)
  have kk := hk _ _ _ _ hq p e R s m args below meth c D ad ca tys B0 cells slots Qf E hret H1 locs1 ls hL hP hD hS
  rw [List.map_append] at kk
  have e : (am_rs r).map (am_rv ad) = (r.map (am_rv ad)).toList := by cases r <;> rfl
  rw [e] at kk
  exact kk

theorem am_len {i len : Nat} (h : (i == 0 || len == i) = true) (h2 : i ≠ 0) : len = i := by
  rcases Bool.or_eq_true_iff.mp h with q | q
  · exact absurd (beq_iff_eq.mp q) h2
  · exact beq_iff_eq.mp q
theorem am_find {α : Type} {l : List (Nat × Nat × α)} {a b : Nat} {f : Nat × Nat × α} (h : l.find? (fun f => Nat.beq f.1 a && Nat.beq f.2.1 b) = some f) : (a, b, f.2.2) ∈ l := by
  have h1 := List.mem_of_find?_eq_some h
  have h2 := List.find?_some h
  simp only [Bool.and_eq_true, Nat.beq_eq] at h2
  rw [← h2.1, ← h2.2]
  exact h1
theorem am_brok {pc : Nat} {off : Int} {x : am_I} {P : am_I → Prop} (h : P (am_br pc off x)) (hb : ¬ P am_bad) : 0 ≤ (pc : Int) + off ∧ P x := by
  unfold am_br at h
  split at h
  · exact ⟨by assumption, h⟩
  · exact absurd h hb
set_option maxHeartbeats 4000000 in
theorem am_stp_ok {l : Launch} {L : Nat} {xs : Nat → Int} {y : Nat} {Q : Option am_V → am_N → Prop} {K : Nat → List (Option am_V) → List am_V → am_N → Prop} {pc : Nat} {lv : List (Option am_V)} {st : List am_V} {μ : am_N} {x : am_I} (hk : ∀ pc lv st μ, K pc lv st μ → am_AW l L xs y Q pc lv st μ) (hc : am_chk y pc x = true) (h : am_stp l L xs y Q K x lv st μ) : am_AW l L xs y Q pc lv st μ := by
  unfold am_chk at hc
  split at hc
  case h_2 => cases hc
  rename_i i len hd
  obtain ⟨hlen, hx⟩ := am_bb hc
  have hx := am_ie_eq hx
  subst hx
  have bad : ¬ am_stp l L xs y Q K am_bad lv st μ := fun q => q
  cases i
  case iconst n =>
    rw [am_len hlen (by simp [am_ln])] at hd
    exact am_s_iconst hk hd h
  case bipush n =>
    rw [am_len hlen (by simp [am_ln])] at hd
    exact am_s_bipush hk hd h
  case sipush n =>
    rw [am_len hlen (by simp [am_ln])] at hd
    exact am_s_sipush hk hd h
  case lconst n =>
    rw [am_len hlen (by simp [am_ln])] at hd
    exact am_s_lconst hk hd h
  case ldc k =>
    rw [am_len hlen (by simp [am_ln])] at hd
    simp only [am_nrm] at h
    split at h
    · rename_i f hf
      exact am_s_ldc hk hd (am_find hf) h
    · exact (bad h).elim
  case ldc_w k =>
    rw [am_len hlen (by simp [am_ln])] at hd
    simp only [am_nrm] at h
    split at h
    · rename_i f hf
      exact am_s_ldc_w hk hd (am_find hf) h
    · exact (bad h).elim
  case ldc2_w k =>
    rw [am_len hlen (by simp [am_ln])] at hd
    simp only [am_nrm] at h
    split at h
    · rename_i f hf
      exact am_s_ldc2 hk hd (am_find hf) h
    · exact (bad h).elim
  case iload k =>
    rw [am_len hlen (by simp [am_ln])] at hd
    exact am_s_iload hk hd h
  case iload_n k =>
    rw [am_len hlen (by simp [am_ln])] at hd
    exact am_s_iload_n hk hd h
  case lload k =>
    rw [am_len hlen (by simp [am_ln])] at hd
    exact am_s_lload hk hd h
  case lload_n k =>
    rw [am_len hlen (by simp [am_ln])] at hd
    exact am_s_lload_n hk hd h
  case aload k =>
    rw [am_len hlen (by simp [am_ln])] at hd
    exact am_s_aload hk hd h
  case aload_n k =>
    rw [am_len hlen (by simp [am_ln])] at hd
    exact am_s_aload_n hk hd h
  case istore k =>
    rw [am_len hlen (by simp [am_ln])] at hd
    exact am_s_istore hk hd h
  case istore_n k =>
    rw [am_len hlen (by simp [am_ln])] at hd
    exact am_s_istore_n hk hd h
  case lstore k =>
    rw [am_len hlen (by simp [am_ln])] at hd
    exact am_s_lstore hk hd h
  case lstore_n k =>
    rw [am_len hlen (by simp [am_ln])] at hd
    exact am_s_lstore_n hk hd h
  case iinc k n =>
    rw [am_len hlen (by simp [am_ln])] at hd
    exact am_s_iinc hk hd h
  case getfield k =>
    rw [am_len hlen (by simp [am_ln])] at hd
    simp only [am_nrm] at h
    split at h
    · rename_i f hf
      exact am_s_getfield hk hd (am_find hf) h
    · exact (bad h).elim
  case putfield k =>
    rw [am_len hlen (by simp [am_ln])] at hd
    simp only [am_nrm] at h
    split at h
    · rename_i f hf
      split at h
      · rename_i hfin
        split at h
        · rename_i hty
          exact am_s_putfield hk hd (am_find hf) hfin hty h
        · rename_i hty
          exact am_s_putfieldz hk hd (am_find hf) hfin hty h
        · exact (bad h).elim
      · exact (bad h).elim
    · exact (bad h).elim
  case iaload =>
    rw [am_len hlen (by simp [am_ln])] at hd
    exact am_s_iaload hk hd h
  case iastore =>
    rw [am_len hlen (by simp [am_ln])] at hd
    exact am_s_iastore hk hd h
  case aaload =>
    rw [am_len hlen (by simp [am_ln])] at hd
    exact am_s_aaload hk hd h
  case arraylength =>
    rw [am_len hlen (by simp [am_ln])] at hd
    exact am_s_alen hk hd h
  case iadd =>
    rw [am_len hlen (by simp [am_ln])] at hd
    exact am_s_iadd hk hd h
  case isub =>
    rw [am_len hlen (by simp [am_ln])] at hd
    exact am_s_isub hk hd h
  case imul =>
    rw [am_len hlen (by simp [am_ln])] at hd
    exact am_s_imul hk hd h
  case idiv =>
    rw [am_len hlen (by simp [am_ln])] at hd
    exact am_s_idiv hk hd h
  case irem =>
    rw [am_len hlen (by simp [am_ln])] at hd
    exact am_s_irem hk hd h
  case iand =>
    rw [am_len hlen (by simp [am_ln])] at hd
    exact am_s_iand hk hd h
  case ior =>
    rw [am_len hlen (by simp [am_ln])] at hd
    exact am_s_ior hk hd h
  case ixor =>
    rw [am_len hlen (by simp [am_ln])] at hd
    exact am_s_ixor hk hd h
  case ishl =>
    rw [am_len hlen (by simp [am_ln])] at hd
    exact am_s_ishl hk hd h
  case ishr =>
    rw [am_len hlen (by simp [am_ln])] at hd
    exact am_s_ishr hk hd h
  case ineg =>
    rw [am_len hlen (by simp [am_ln])] at hd
    exact am_s_ineg hk hd h
  case i2l =>
    rw [am_len hlen (by simp [am_ln])] at hd
    exact am_s_i2l hk hd h
  case lcmp =>
    rw [am_len hlen (by simp [am_ln])] at hd
    exact am_s_lcmp hk hd h
  case ladd =>
    rw [am_len hlen (by simp [am_ln])] at hd
    exact am_s_ladd hk hd h
  case lsub =>
    rw [am_len hlen (by simp [am_ln])] at hd
    exact am_s_lsub hk hd h
  case lmul =>
    rw [am_len hlen (by simp [am_ln])] at hd
    exact am_s_lmul hk hd h
  case ldiv =>
    rw [am_len hlen (by simp [am_ln])] at hd
    exact am_s_ldiv hk hd h
  case lrem =>
    rw [am_len hlen (by simp [am_ln])] at hd
    exact am_s_lrem hk hd h
  case pop =>
    rw [am_len hlen (by simp [am_ln])] at hd
    exact am_s_pop hk hd h
  case pop2 =>
    rw [am_len hlen (by simp [am_ln])] at hd
    exact am_s_pop2 hk hd h
  case dup =>
    rw [am_len hlen (by simp [am_ln])] at hd
    exact am_s_dup hk hd h
  case dup2 =>
    rw [am_len hlen (by simp [am_ln])] at hd
    exact am_s_dup2 hk hd h
  case dup_x1 =>
    rw [am_len hlen (by simp [am_ln])] at hd
    exact am_s_dup_x1 hk hd h
  case goto o =>
    rw [am_len hlen (by simp [am_ln])] at hd
    obtain ⟨h0, h⟩ := am_brok (P := fun x => am_stp l L xs y Q K x lv st μ) h bad
    exact am_s_goto hk hd h0 h
  case ifCond cd o =>
    rw [am_len hlen (by simp [am_ln])] at hd
    obtain ⟨h0, h⟩ := am_brok (P := fun x => am_stp l L xs y Q K x lv st μ) h bad
    cases cd
    · exact am_s_if_eq hk hd h0 h
    · exact am_s_if_ne hk hd h0 h
    · exact am_s_if_lt hk hd h0 h
    · exact am_s_if_ge hk hd h0 h
    · exact am_s_if_gt hk hd h0 h
    · exact am_s_if_le hk hd h0 h
  case if_icmp cd o =>
    rw [am_len hlen (by simp [am_ln])] at hd
    obtain ⟨h0, h⟩ := am_brok (P := fun x => am_stp l L xs y Q K x lv st μ) h bad
    cases cd
    · exact am_s_icmp_eq hk hd h0 h
    · exact am_s_icmp_ne hk hd h0 h
    · exact am_s_icmp_lt hk hd h0 h
    · exact am_s_icmp_ge hk hd h0 h
    · exact am_s_icmp_gt hk hd h0 h
    · exact am_s_icmp_le hk hd h0 h
  case invokevirtual k =>
    rw [am_len hlen (by simp [am_ln])] at hd
    simp only [am_nrm] at h
    split at h
    · rename_i f hf
      split at h
      · rename_i hok
        simp only [am_okc, Bool.and_eq_true, decide_eq_true_eq, Bool.not_eq_true'] at hok
        exact am_s_invv hk hd (am_find hf) hok.1.1.1.1 hok.1.1.1.2 hok.1.1.2 hok.1.2 hok.2 h
      · exact (bad h).elim
    · exact (bad h).elim
  case invokestatic k =>
    rw [am_len hlen (by simp [am_ln])] at hd
    simp only [am_nrm] at h
    split at h
    · rename_i f hf
      split at h
      · rename_i hok
        simp only [am_okc, Bool.and_eq_true, decide_eq_true_eq, Nat.beq_eq] at hok
        exact am_s_invs hk hd (am_find hf) hok.1.1.1.1.1 hok.1.1.1.1.2 hok.1.1.1.2 hok.1.1.2 hok.1.2 hok.2 h
      · exact (bad h).elim
    · split at h
      · rename_i f hf
        split at h
        · rename_i hok
          simp only [Bool.and_eq_true, decide_eq_true_eq] at hok
          have hm := am_find hf
          match hq : f.2.2, hok.2 with
          | 0, _ =>
            rw [hq] at h hm
            exact am_s_mmax hok.1.1 hok.1.2 hk hd hm h
          | 1, _ =>
            rw [hq] at h hm
            exact am_s_mmin hok.1.1 hok.1.2 hk hd hm h
          | 2, _ =>
            rw [hq] at h hm
            exact am_s_mabs hok.1.1 hok.1.2 hk hd hm h
        · exact (bad h).elim
      · exact (bad h).elim
  case return_ =>
    rw [am_len hlen (by simp [am_ln])] at hd
    simp only [am_nrm] at h
    split at h
    · rename_i hr
      exact am_s_return hk hd hr h
    · exact (bad h).elim
  case ireturn =>
    rw [am_len hlen (by simp [am_ln])] at hd
    simp only [am_nrm] at h
    split at h
    · rename_i hr
      exact am_s_ireturn hk hd hr h
    · rename_i hr
      exact am_s_ireturnz hk hd hr h
    · exact (bad h).elim
  case lreturn =>
    rw [am_len hlen (by simp [am_ln])] at hd
    simp only [am_nrm] at h
    split at h
    · rename_i hr
      exact am_s_lreturn hk hd hr h
    · exact (bad h).elim
  case tableswitch d lo hi offs =>
    simp only [am_nrm] at h
    split at h
    · rename_i hok
      simp only [Bool.and_eq_true, decide_eq_true_eq, List.all_eq_true] at hok
      exact am_s_table hk hd hok.1.1 hok.1.2 hok.2 h
    · exact (bad h).elim
  case lookupswitch d ps =>
    simp only [am_nrm] at h
    split at h
    · rename_i hok
      rw [Bool.and_eq_true, Bool.and_eq_true, decide_eq_true_eq, List.all_eq_true] at hok
      exact am_s_lookup hk hd hok.1.1 (fun o ho => by simpa using hok.1.2 o ho) hok.2 h
    · exact (bad h).elim
  all_goals exact (bad h).elim
end
section
/-! from the machine's entry of a method to the abstract one; many steps in one condition -/
def am_sl (args : List am_V) : List (Option am_V) := args.flatMap (fun v => if am_cat v = 2 then [some v, none] else [some v])
def am_lv (n : Nat) (args : List am_V) : List (Option am_V) := am_sl args ++ List.replicate (n - (am_sl args).length) none
theorem am_sl_len (ad : Nat → Nat) (args : List am_V) : (lg_sl (args.map (am_rv ad))).length = (am_sl args).length := by
  induction args with
  | nil => rfl
  | cons v r ih =>
    unfold lg_sl am_sl at ih ⊢
    simp only [List.map_cons, List.flatMap_cons, List.length_append, ih, am_cat_rv]
    split <;> rfl
theorem am_sl_at (ad : Nat → Nat) : ∀ (args : List am_V) (k i : Nat) (v : am_V), (am_sl args)[i]? = some (some v) → (k + i, am_rv ad v) ∈ lv_args k (args.map (am_rv ad))
  | [], k, i, v, h => by simp [am_sl] at h
  | a :: r, k, i, v, h => by
    unfold am_sl at h
    simp only [List.map_cons, lv_args, am_cat_rv]
    rw [List.flatMap_cons] at h
    by_cases hc : am_cat a = 2
    · simp only [if_pos hc] at h ⊢
      match i, h with
      | 0, h =>
        have e : a = v := by simpa using h
        rw [e]; exact List.mem_cons_self
      | 1, h => simp at h
      | i + 2, h =>
        have q := am_sl_at ad r (k + 2) i v (by simpa [am_sl] using h)
        rw [show k + (i + 2) = k + 2 + i by omega]
        exact List.mem_cons_of_mem _ q
    · simp only [if_neg hc] at h ⊢
      match i, h with
      | 0, h =>
        have e : a = v := by simpa using h
        rw [e]; exact List.mem_cons_self
      | i + 1, h =>
        have q := am_sl_at ad r (k + 1) i v (by simpa [am_sl] using h)
        rw [show k + (i + 1) = k + 1 + i by omega]
        exact List.mem_cons_of_mem _ q
theorem am_ent {ad : Nat → Nat} {args : List am_V} {n : Nat} (hn : (am_sl args).length ≤ n) : am_L ((lg_sl (args.map (am_rv ad)) ++ List.replicate (n - (lg_sl (args.map (am_rv ad))).length) Slot.unset).toArray) n ad (am_lv n args) := by
  refine am_L.of (lv_entry (args.map (am_rv ad)) (n := n) (by rw [am_sl_len]; exact hn)) (by unfold am_lv; rw [List.length_append, List.length_replicate]; omega) fun i v hv => ?_
  unfold am_lv at hv
  by_cases hi : i < (am_sl args).length
  · rw [List.getElem?_append_left hi] at hv
    have q := am_sl_at ad args 0 i v hv
    rwa [Nat.zero_add] at q
  · rw [List.getElem?_append_right (by omega), List.getElem?_replicate] at hv
    split at hv <;> simp at hv
theorem am_Does_of {l : Launch} {y : Nat} {args : List am_V} {μ : am_N} {Q : Option am_V → am_N → Prop} (h0 : 0 < y) (h1 : y < am_ny) (hn : (am_sl args).length ≤ am_ml y) (h : am_AW l 0 (fun _ => 0) y Q 0 (am_lv (am_ml y) args) [] μ) : am_Does l y args μ Q := by
  intro D ad ca tys B0 hTY
  refine Met.ofW (cc := am_bt y) (maxL := am_ml y) (ret := am_re y) (am_md_pl h0 h1) rfl ?_
  intro p e s m aargs below meth c s₁ B hml hv
  obtain ⟨rfl, hB, hP, hK, hD⟩ := hv
  have hlocks := B.notSynchronized
  have hx := B.exec
  have hb := B.bytes
  have hr := B.returns
  have hts := atoms_spec (ws := am_w y) B.pre
  have hown : s.vm.findClass (am_md y).1.cls = some m.cls := findClass_of_methodNamed B.named
  rw [(am_md_ok h0 h1).1] at hown
  rw [lg_entry_eq]
  refine h p e (headSpec (am_w y) (am_rm y)).room s m _ below meth c D ad ca tys B0 0 0 _ ⟨hx, hb, hml, hown, fun w hw => hts w (List.mem_cons_of_mem _ hw), hK, hTY, hB, Nat.le_refl _, Nat.le_refl _, Nat.zero_le _, Nat.zero_le _, fun q => absurd q (by omega)⟩ ?_ s.heap [] _ (am_ent hn) hP hD va_S.rf
  intro r μ' H locs pc' ls hq hP hD hS hrt
  match r, hq, hrt with
  | none, hq, hrt => exact W.vret hx hb (hr.trans hrt.2) (fun t ht hW => ⟨⟨none, μ', rfl, hq, by rw [ht]; exact hP, hD⟩, hS.F ht⟩) hS.2.2 hrt.1 hlocks
  | some (.inl z), hq, hrt =>
    rcases hrt.2 with q | ⟨q, hz⟩
    · exact W.iret (v := Int32.ofInt z) hx hb (hr.trans q) (fun t ht hW => ⟨⟨some (.inl z), μ', rfl, hq, by rw [ht]; exact hP, hD⟩, hS.F ht⟩) hS.2.2 hrt.1 hlocks
    · exact W.zret (v := Int32.ofInt z) hx hb (hr.trans q) (am_nz hz) (fun t ht hW => ⟨⟨some (.inl z), μ', rfl, hq, by rw [ht]; exact hP, hD⟩, hS.F ht⟩) hS.2.2 hrt.1 hlocks
  | some (.inr (.inl z)), hq, hrt => exact W.lret (v := Int64.ofInt z) hx hb (hr.trans hrt.2) (fun t ht hW => ⟨⟨some (.inr (.inl z)), μ', rfl, hq, by rw [ht]; exact hP, hD⟩, hS.F ht⟩) hS.2.2 hrt.1 hlocks
theorem am_Does.mono {l : Launch} {y : Nat} {args : List am_V} {μ : am_N} {Q Q' : Option am_V → am_N → Prop} (h : am_Does l y args μ Q) (hq : ∀ r μ', Q r μ' → Q' r μ') : am_Does l y args μ Q' := by
  intro D ad ca tys B0 hTY p e ha hc hk s m args' below hf hfit hheap happ
  obtain ⟨t, o, h1, h2, h3, h4⟩ := h D ad ca tys B0 hTY p e ha hc hk s m args' below hf hfit hheap happ
  refine ⟨t, o, h1, h2, h3, ?_⟩
  obtain ⟨⟨⟨r, μ', e1, e2, e3⟩, e4⟩, e5⟩ := h4
  exact ⟨⟨⟨r, μ', e1, hq _ _ e2, e3⟩, e4⟩, e5⟩
def am_ok (y : Nat) (cd : Nat → am_I) : Prop := ∀ pc, (cd pc).2.1 = 99 ∨ am_chk y pc (cd pc) = true
theorem am_ok_of {y N : Nat} {cd' : Nat → am_I} (h : (List.range N).all (fun pc => Nat.beq (cd' pc).2.1 99 || am_chk y pc (cd' pc)) = true) : am_ok y (fun pc => bif Nat.blt pc N then cd' pc else am_bad) := by
  intro pc
  cases hb : Nat.blt pc N with
  | false => exact Or.inl rfl
  | true =>
    have hlt : pc < N := Nat.le_of_ble_eq_true hb
    have q := List.all_eq_true.mp h pc (List.mem_range.mpr hlt)
    rcases Bool.or_eq_true_iff.mp q with q | q
    · exact Or.inl (Nat.beq_eq ▸ q)
    · exact Or.inr q
def am_wp (l : Launch) (L : Nat) (xs : Nat → Int) (y : Nat) (Q : Option am_V → am_N → Prop) (cd : Nat → am_I) (ct : Nat → Bool) : Nat → Nat → List (Option am_V) → List am_V → am_N → Prop
  | 0, pc, lv, st, μ => True ∧ am_AW l L xs y Q pc lv st μ
  | n + 1, pc, lv, st, μ => match ct pc with
    | true => True ∧ am_AW l L xs y Q pc lv st μ
    | false => am_stp l L xs y Q (am_wp l L xs y Q cd ct n) (cd pc) lv st μ
theorem am_99 {l : Launch} {L : Nat} {xs : Nat → Int} {y : Nat} {Q : Option am_V → am_N → Prop} {K : Nat → List (Option am_V) → List am_V → am_N → Prop} {lv : List (Option am_V)} {st : List am_V} {μ : am_N} {x : am_I} (hx : x.2.1 = 99) (h : am_stp l L xs y Q K x lv st μ) : False := by
  obtain ⟨nx, op, a, b, c, z, ts⟩ := x
  have e : op = 99 := hx
  subst e
  exact h
theorem am_wp_ok {l : Launch} {L : Nat} {xs : Nat → Int} {y : Nat} {Q : Option am_V → am_N → Prop} {cd : Nat → am_I} {ct : Nat → Bool} (hok : am_ok y cd) : ∀ (n pc : Nat) (lv : List (Option am_V)) (st : List am_V) (μ : am_N), am_wp l L xs y Q cd ct n pc lv st μ → am_AW l L xs y Q pc lv st μ
  | 0, _, _, _, _, h => h.2
  | n + 1, pc, lv, st, μ, h => by
    unfold am_wp at h
    cases hc : ct pc with
    | true => rw [hc] at h; exact h.2
    | false =>
      rw [hc] at h
      rcases hok pc with q | q
      · exact (am_99 q h).elim
      · exact am_stp_ok (fun pc lv st μ hk => am_wp_ok hok n pc lv st μ hk) q h
/-- from here on, by at most n steps, stopping where ct says so (not at the first) -/
theorem am_go {l : Launch} {L : Nat} {xs : Nat → Int} {y : Nat} {Q : Option am_V → am_N → Prop} {cd : Nat → am_I} {ct : Nat → Bool} {pc : Nat} {lv : List (Option am_V)} {st : List am_V} {μ : am_N} (hok : am_ok y cd) (n : Nat) (h : am_stp l L xs y Q (am_wp l L xs y Q cd ct n) (cd pc) lv st μ) : am_AW l L xs y Q pc lv st μ := by
  rcases hok pc with q | q
  · exact (am_99 q h).elim
  · exact am_stp_ok (fun pc lv st μ hk => am_wp_ok hok n pc lv st μ hk) q h
/-- what is known of Q may grow -/
theorem am_AW.mono {l : Launch} {L : Nat} {xs : Nat → Int} {y : Nat} {Q Q' : Option am_V → am_N → Prop} {pc : Nat} {lv : List (Option am_V)} {st : List am_V} {μ : am_N} (h : am_AW l L xs y Q pc lv st μ) (hq : ∀ r μ', Q r μ' → Q' r μ') : am_AW l L xs y Q' pc lv st μ :=
  fun p e R s m args below meth c D ad ca tys B0 cells slots Qf E hret => h p e R s m args below meth c D ad ca tys B0 cells slots Qf E (fun r μ' H locs pc' ls hr => hret r μ' H locs pc' ls (hq _ _ hr))
end
