section
-- ===== PART A: goes FIRST, ahead of the names: the tables' words, and 'selects' of the private methods out of them =====
/-- a private method of a class that the tables say can be made, by its rows of tables_1 -/
def lw_okq (q : MethodName × Nat) : Prop := (q.1.cls ≠ "java/lang/invoke/MethodHandle" ∧ q.1.cls ≠ "java/lang/invoke/VarHandle") ∧ Cond.instantiable q.1.cls q.2 ∈ tables_1 ∧ Cond.privateMethod q.1 ∈ tables_1 ∧ Cond.instanceMethod q.1 ∈ tables_1
theorem lw_p0 : lw_okq (⟨"HallMinutes", "isPlain", "(I)Z"⟩, 8) := ⟨⟨by decide +kernel, by decide +kernel⟩, List.mem_of_getElem? (i := 14) (by decide +kernel), List.mem_of_getElem? (i := 286) (by decide +kernel), List.mem_of_getElem? (i := 287) (by decide +kernel)⟩
theorem lw_p1 : lw_okq (⟨"HallMinutes", "isComer", "(I)Z"⟩, 8) := ⟨⟨by decide +kernel, by decide +kernel⟩, List.mem_of_getElem? (i := 14) (by decide +kernel), List.mem_of_getElem? (i := 309) (by decide +kernel), List.mem_of_getElem? (i := 310) (by decide +kernel)⟩
theorem lw_p2 : lw_okq (⟨"HallMinutes$Rule", "parse", "()V"⟩, 13) := ⟨⟨by decide +kernel, by decide +kernel⟩, List.mem_of_getElem? (i := 53) (by decide +kernel), List.mem_of_getElem? (i := 330) (by decide +kernel), List.mem_of_getElem? (i := 331) (by decide +kernel)⟩
theorem lw_p3 : lw_okq (⟨"HallMinutes$Rule", "opens", "()V"⟩, 13) := ⟨⟨by decide +kernel, by decide +kernel⟩, List.mem_of_getElem? (i := 53) (by decide +kernel), List.mem_of_getElem? (i := 334) (by decide +kernel), List.mem_of_getElem? (i := 335) (by decide +kernel)⟩
theorem lw_p4 : lw_okq (⟨"HallMinutes$Rule", "readsCondition", "()Z"⟩, 13) := ⟨⟨by decide +kernel, by decide +kernel⟩, List.mem_of_getElem? (i := 53) (by decide +kernel), List.mem_of_getElem? (i := 338) (by decide +kernel), List.mem_of_getElem? (i := 339) (by decide +kernel)⟩
theorem lw_p5 : lw_okq (⟨"HallMinutes$Rule", "here", "()I"⟩, 13) := ⟨⟨by decide +kernel, by decide +kernel⟩, List.mem_of_getElem? (i := 53) (by decide +kernel), List.mem_of_getElem? (i := 342) (by decide +kernel), List.mem_of_getElem? (i := 343) (by decide +kernel)⟩
theorem lw_p6 : lw_okq (⟨"HallMinutes$Rule", "number", "(III)I"⟩, 13) := ⟨⟨by decide +kernel, by decide +kernel⟩, List.mem_of_getElem? (i := 53) (by decide +kernel), List.mem_of_getElem? (i := 346) (by decide +kernel), List.mem_of_getElem? (i := 347) (by decide +kernel)⟩
theorem lw_p7 : lw_okq (⟨"HallMinutes$Rule", "readsJoint", "()Z"⟩, 13) := ⟨⟨by decide +kernel, by decide +kernel⟩, List.mem_of_getElem? (i := 53) (by decide +kernel), List.mem_of_getElem? (i := 353) (by decide +kernel), List.mem_of_getElem? (i := 354) (by decide +kernel)⟩
theorem lw_p8 : lw_okq (⟨"HallMinutes$Rule", "closes", "()V"⟩, 13) := ⟨⟨by decide +kernel, by decide +kernel⟩, List.mem_of_getElem? (i := 53) (by decide +kernel), List.mem_of_getElem? (i := 357) (by decide +kernel), List.mem_of_getElem? (i := 358) (by decide +kernel)⟩
theorem lw_p9 : lw_okq (⟨"HallMinutes$Evening", "gather", "(I)V"⟩, 15) := ⟨⟨by decide +kernel, by decide +kernel⟩, List.mem_of_getElem? (i := 102) (by decide +kernel), List.mem_of_getElem? (i := 381) (by decide +kernel), List.mem_of_getElem? (i := 382) (by decide +kernel)⟩
theorem lw_p10 : lw_okq (⟨"HallMinutes$Evening", "firmMinute", "(I)I"⟩, 15) := ⟨⟨by decide +kernel, by decide +kernel⟩, List.mem_of_getElem? (i := 102) (by decide +kernel), List.mem_of_getElem? (i := 385) (by decide +kernel), List.mem_of_getElem? (i := 386) (by decide +kernel)⟩
theorem lw_p11 : lw_okq (⟨"HallMinutes$Evening", "enter", "(I)V"⟩, 15) := ⟨⟨by decide +kernel, by decide +kernel⟩, List.mem_of_getElem? (i := 102) (by decide +kernel), List.mem_of_getElem? (i := 389) (by decide +kernel), List.mem_of_getElem? (i := 390) (by decide +kernel)⟩
theorem lw_p12 : lw_okq (⟨"HallMinutes$Evening", "settle", "(II)I"⟩, 15) := ⟨⟨by decide +kernel, by decide +kernel⟩, List.mem_of_getElem? (i := 102) (by decide +kernel), List.mem_of_getElem? (i := 396) (by decide +kernel), List.mem_of_getElem? (i := 397) (by decide +kernel)⟩
theorem lw_p13 : lw_okq (⟨"HallMinutes$Evening", "callLookers", "()V"⟩, 15) := ⟨⟨by decide +kernel, by decide +kernel⟩, List.mem_of_getElem? (i := 102) (by decide +kernel), List.mem_of_getElem? (i := 400) (by decide +kernel), List.mem_of_getElem? (i := 401) (by decide +kernel)⟩
theorem lw_p14 : lw_okq (⟨"HallMinutes$Evening", "openPrice", "(II)I"⟩, 15) := ⟨⟨by decide +kernel, by decide +kernel⟩, List.mem_of_getElem? (i := 102) (by decide +kernel), List.mem_of_getElem? (i := 444) (by decide +kernel), List.mem_of_getElem? (i := 445) (by decide +kernel)⟩
theorem lw_p15 : lw_okq (⟨"HallMinutes$Grid", "toFirstWay", "()V"⟩, 4) := ⟨⟨by decide +kernel, by decide +kernel⟩, List.mem_of_getElem? (i := 165) (by decide +kernel), List.mem_of_getElem? (i := 485) (by decide +kernel), List.mem_of_getElem? (i := 486) (by decide +kernel)⟩
def lw_privs_1 : List (MethodName × Nat) := [(⟨"HallMinutes", "isPlain", "(I)Z"⟩, 8), (⟨"HallMinutes", "isComer", "(I)Z"⟩, 8), (⟨"HallMinutes$Rule", "parse", "()V"⟩, 13), (⟨"HallMinutes$Rule", "opens", "()V"⟩, 13), (⟨"HallMinutes$Rule", "readsCondition", "()Z"⟩, 13), (⟨"HallMinutes$Rule", "here", "()I"⟩, 13), (⟨"HallMinutes$Rule", "number", "(III)I"⟩, 13), (⟨"HallMinutes$Rule", "readsJoint", "()Z"⟩, 13), (⟨"HallMinutes$Rule", "closes", "()V"⟩, 13), (⟨"HallMinutes$Evening", "gather", "(I)V"⟩, 15), (⟨"HallMinutes$Evening", "firmMinute", "(I)I"⟩, 15), (⟨"HallMinutes$Evening", "enter", "(I)V"⟩, 15), (⟨"HallMinutes$Evening", "settle", "(II)I"⟩, 15), (⟨"HallMinutes$Evening", "callLookers", "()V"⟩, 15), (⟨"HallMinutes$Evening", "openPrice", "(II)I"⟩, 15), (⟨"HallMinutes$Grid", "toFirstWay", "()V"⟩, 4)]
theorem lw_r1 : ∀ q ∈ lw_privs_1, lw_okq q := List.forall_mem_cons.mpr ⟨lw_p0, List.forall_mem_cons.mpr ⟨lw_p1, List.forall_mem_cons.mpr ⟨lw_p2, List.forall_mem_cons.mpr ⟨lw_p3, List.forall_mem_cons.mpr ⟨lw_p4, List.forall_mem_cons.mpr ⟨lw_p5, List.forall_mem_cons.mpr ⟨lw_p6, List.forall_mem_cons.mpr ⟨lw_p7, List.forall_mem_cons.mpr ⟨lw_p8, List.forall_mem_cons.mpr ⟨lw_p9, List.forall_mem_cons.mpr ⟨lw_p10, List.forall_mem_cons.mpr ⟨lw_p11, List.forall_mem_cons.mpr ⟨lw_p12, List.forall_mem_cons.mpr ⟨lw_p13, List.forall_mem_cons.mpr ⟨lw_p14, List.forall_mem_cons.mpr ⟨lw_p15, fun _ h => absurd h List.not_mem_nil⟩⟩⟩⟩⟩⟩⟩⟩⟩⟩⟩⟩⟩⟩⟩⟩
theorem lw_p16 : lw_okq (⟨"HallMinutes$Grid", "toNextWay", "()Z"⟩, 4) := ⟨⟨by decide +kernel, by decide +kernel⟩, List.mem_of_getElem? (i := 165) (by decide +kernel), List.mem_of_getElem? (i := 493) (by decide +kernel), List.mem_of_getElem? (i := 494) (by decide +kernel)⟩
theorem lw_p17 : lw_okq (⟨"HallMinutes$Weeks", "comesTo", "(I)V"⟩, 5) := ⟨⟨by decide +kernel, by decide +kernel⟩, List.mem_of_getElem? (i := 184) (by decide +kernel), List.mem_of_getElem? (i := 518) (by decide +kernel), List.mem_of_getElem? (i := 519) (by decide +kernel)⟩
theorem lw_p18 : lw_okq (⟨"HallMinutes", "trialIsInTime", "()Z"⟩, 8) := ⟨⟨by decide +kernel, by decide +kernel⟩, List.mem_of_getElem? (i := 14) (by decide +kernel), List.mem_of_getElem? (i := 546) (by decide +kernel), List.mem_of_getElem? (i := 547) (by decide +kernel)⟩
theorem lw_p19 : lw_okq (⟨"HallMinutes", "keyBits", "()I"⟩, 8) := ⟨⟨by decide +kernel, by decide +kernel⟩, List.mem_of_getElem? (i := 14) (by decide +kernel), List.mem_of_getElem? (i := 554) (by decide +kernel), List.mem_of_getElem? (i := 555) (by decide +kernel)⟩
theorem lw_p20 : lw_okq (⟨"HallMinutes$Roads", "weight", "(I)J"⟩, 2) := ⟨⟨by decide +kernel, by decide +kernel⟩, List.mem_of_getElem? (i := 210) (by decide +kernel), List.mem_of_getElem? (i := 579) (by decide +kernel), List.mem_of_getElem? (i := 580) (by decide +kernel)⟩
theorem lw_p21 : lw_okq (⟨"HallMinutesModel", "isPlain", "(I)Z"⟩, 50) := ⟨⟨by decide +kernel, by decide +kernel⟩, List.mem_of_getElem? (i := 683) (by decide +kernel), List.mem_of_getElem? (i := 851) (by decide +kernel), List.mem_of_getElem? (i := 852) (by decide +kernel)⟩
theorem lw_p22 : lw_okq (⟨"HallMinutesModel", "isComer", "(I)Z"⟩, 50) := ⟨⟨by decide +kernel, by decide +kernel⟩, List.mem_of_getElem? (i := 683) (by decide +kernel), List.mem_of_getElem? (i := 855) (by decide +kernel), List.mem_of_getElem? (i := 856) (by decide +kernel)⟩
theorem lw_p23 : lw_okq (⟨"HallMinutesModel", "meets", "(I)I"⟩, 50) := ⟨⟨by decide +kernel, by decide +kernel⟩, List.mem_of_getElem? (i := 683) (by decide +kernel), List.mem_of_getElem? (i := 866) (by decide +kernel), List.mem_of_getElem? (i := 867) (by decide +kernel)⟩
theorem lw_p24 : lw_okq (⟨"HallMinutesModel", "faultNow", "()I"⟩, 50) := ⟨⟨by decide +kernel, by decide +kernel⟩, List.mem_of_getElem? (i := 683) (by decide +kernel), List.mem_of_getElem? (i := 890) (by decide +kernel), List.mem_of_getElem? (i := 891) (by decide +kernel)⟩
theorem lw_p25 : lw_okq (⟨"HallMinutesModel", "condition", "(Z)V"⟩, 50) := ⟨⟨by decide +kernel, by decide +kernel⟩, List.mem_of_getElem? (i := 683) (by decide +kernel), List.mem_of_getElem? (i := 894) (by decide +kernel), List.mem_of_getElem? (i := 895) (by decide +kernel)⟩
theorem lw_p26 : lw_okq (⟨"HallMinutesModel", "byteNow", "()I"⟩, 50) := ⟨⟨by decide +kernel, by decide +kernel⟩, List.mem_of_getElem? (i := 683) (by decide +kernel), List.mem_of_getElem? (i := 898) (by decide +kernel), List.mem_of_getElem? (i := 899) (by decide +kernel)⟩
theorem lw_p27 : lw_okq (⟨"HallMinutesModel", "number", "(III)I"⟩, 50) := ⟨⟨by decide +kernel, by decide +kernel⟩, List.mem_of_getElem? (i := 683) (by decide +kernel), List.mem_of_getElem? (i := 902) (by decide +kernel), List.mem_of_getElem? (i := 903) (by decide +kernel)⟩
theorem lw_p28 : lw_okq (⟨"HallMinutesModel", "asTold", "()V"⟩, 50) := ⟨⟨by decide +kernel, by decide +kernel⟩, List.mem_of_getElem? (i := 683) (by decide +kernel), List.mem_of_getElem? (i := 910) (by decide +kernel), List.mem_of_getElem? (i := 911) (by decide +kernel)⟩
theorem lw_p29 : lw_okq (⟨"HallMinutesModel", "goes", "()V"⟩, 50) := ⟨⟨by decide +kernel, by decide +kernel⟩, List.mem_of_getElem? (i := 683) (by decide +kernel), List.mem_of_getElem? (i := 914) (by decide +kernel), List.mem_of_getElem? (i := 915) (by decide +kernel)⟩
theorem lw_p30 : lw_okq (⟨"HallMinutesModel", "comesAll", "()V"⟩, 50) := ⟨⟨by decide +kernel, by decide +kernel⟩, List.mem_of_getElem? (i := 683) (by decide +kernel), List.mem_of_getElem? (i := 918) (by decide +kernel), List.mem_of_getElem? (i := 919) (by decide +kernel)⟩
theorem lw_p31 : lw_okq (⟨"HallMinutesModel", "looks", "(I)Z"⟩, 50) := ⟨⟨by decide +kernel, by decide +kernel⟩, List.mem_of_getElem? (i := 683) (by decide +kernel), List.mem_of_getElem? (i := 922) (by decide +kernel), List.mem_of_getElem? (i := 923) (by decide +kernel)⟩
def lw_privs_2 : List (MethodName × Nat) := [(⟨"HallMinutes$Grid", "toNextWay", "()Z"⟩, 4), (⟨"HallMinutes$Weeks", "comesTo", "(I)V"⟩, 5), (⟨"HallMinutes", "trialIsInTime", "()Z"⟩, 8), (⟨"HallMinutes", "keyBits", "()I"⟩, 8), (⟨"HallMinutes$Roads", "weight", "(I)J"⟩, 2), (⟨"HallMinutesModel", "isPlain", "(I)Z"⟩, 50), (⟨"HallMinutesModel", "isComer", "(I)Z"⟩, 50), (⟨"HallMinutesModel", "meets", "(I)I"⟩, 50), (⟨"HallMinutesModel", "faultNow", "()I"⟩, 50), (⟨"HallMinutesModel", "condition", "(Z)V"⟩, 50), (⟨"HallMinutesModel", "byteNow", "()I"⟩, 50), (⟨"HallMinutesModel", "number", "(III)I"⟩, 50), (⟨"HallMinutesModel", "asTold", "()V"⟩, 50), (⟨"HallMinutesModel", "goes", "()V"⟩, 50), (⟨"HallMinutesModel", "comesAll", "()V"⟩, 50), (⟨"HallMinutesModel", "looks", "(I)Z"⟩, 50)]
theorem lw_r2 : ∀ q ∈ lw_privs_2, lw_okq q := List.forall_mem_cons.mpr ⟨lw_p16, List.forall_mem_cons.mpr ⟨lw_p17, List.forall_mem_cons.mpr ⟨lw_p18, List.forall_mem_cons.mpr ⟨lw_p19, List.forall_mem_cons.mpr ⟨lw_p20, List.forall_mem_cons.mpr ⟨lw_p21, List.forall_mem_cons.mpr ⟨lw_p22, List.forall_mem_cons.mpr ⟨lw_p23, List.forall_mem_cons.mpr ⟨lw_p24, List.forall_mem_cons.mpr ⟨lw_p25, List.forall_mem_cons.mpr ⟨lw_p26, List.forall_mem_cons.mpr ⟨lw_p27, List.forall_mem_cons.mpr ⟨lw_p28, List.forall_mem_cons.mpr ⟨lw_p29, List.forall_mem_cons.mpr ⟨lw_p30, List.forall_mem_cons.mpr ⟨lw_p31, fun _ h => absurd h List.not_mem_nil⟩⟩⟩⟩⟩⟩⟩⟩⟩⟩⟩⟩⟩⟩⟩⟩
theorem lw_p32 : lw_okq (⟨"HallMinutesModel", "beginsNow", "()V"⟩, 50) := ⟨⟨by decide +kernel, by decide +kernel⟩, List.mem_of_getElem? (i := 683) (by decide +kernel), List.mem_of_getElem? (i := 926) (by decide +kernel), List.mem_of_getElem? (i := 927) (by decide +kernel)⟩
theorem lw_p33 : lw_okq (⟨"HallMinutesModel", "paysAll", "()I"⟩, 50) := ⟨⟨by decide +kernel, by decide +kernel⟩, List.mem_of_getElem? (i := 683) (by decide +kernel), List.mem_of_getElem? (i := 938) (by decide +kernel), List.mem_of_getElem? (i := 939) (by decide +kernel)⟩
theorem lw_p34 : lw_okq (⟨"HallMinutesModel", "paysNow", "(I)I"⟩, 50) := ⟨⟨by decide +kernel, by decide +kernel⟩, List.mem_of_getElem? (i := 683) (by decide +kernel), List.mem_of_getElem? (i := 942) (by decide +kernel), List.mem_of_getElem? (i := 943) (by decide +kernel)⟩
theorem lw_p35 : lw_okq (⟨"HallMinutesModel", "bestOf", "(IZ)I"⟩, 50) := ⟨⟨by decide +kernel, by decide +kernel⟩, List.mem_of_getElem? (i := 683) (by decide +kernel), List.mem_of_getElem? (i := 950) (by decide +kernel), List.mem_of_getElem? (i := 951) (by decide +kernel)⟩
theorem lw_p36 : lw_okq (⟨"HallMinutesModel", "restlessNow", "()I"⟩, 50) := ⟨⟨by decide +kernel, by decide +kernel⟩, List.mem_of_getElem? (i := 683) (by decide +kernel), List.mem_of_getElem? (i := 958) (by decide +kernel), List.mem_of_getElem? (i := 959) (by decide +kernel)⟩
theorem lw_p37 : lw_okq (⟨"HallMinutesModel", "climbNow", "(Z)I"⟩, 50) := ⟨⟨by decide +kernel, by decide +kernel⟩, List.mem_of_getElem? (i := 683) (by decide +kernel), List.mem_of_getElem? (i := 966) (by decide +kernel), List.mem_of_getElem? (i := 967) (by decide +kernel)⟩
theorem lw_p38 : lw_okq (⟨"HallMinutesModel", "climbs", "(Z)Z"⟩, 50) := ⟨⟨by decide +kernel, by decide +kernel⟩, List.mem_of_getElem? (i := 683) (by decide +kernel), List.mem_of_getElem? (i := 970) (by decide +kernel), List.mem_of_getElem? (i := 971) (by decide +kernel)⟩
theorem lw_p39 : lw_okq (⟨"HallMinutesModel", "gathers", "()Z"⟩, 50) := ⟨⟨by decide +kernel, by decide +kernel⟩, List.mem_of_getElem? (i := 683) (by decide +kernel), List.mem_of_getElem? (i := 978) (by decide +kernel), List.mem_of_getElem? (i := 979) (by decide +kernel)⟩
theorem lw_p40 : lw_okq (⟨"HallMinutesModel", "grids", "(I)V"⟩, 50) := ⟨⟨by decide +kernel, by decide +kernel⟩, List.mem_of_getElem? (i := 683) (by decide +kernel), List.mem_of_getElem? (i := 982) (by decide +kernel), List.mem_of_getElem? (i := 983) (by decide +kernel)⟩
theorem lw_p41 : lw_okq (⟨"HallMinutesModel", "restAt", "(I)I"⟩, 50) := ⟨⟨by decide +kernel, by decide +kernel⟩, List.mem_of_getElem? (i := 683) (by decide +kernel), List.mem_of_getElem? (i := 989) (by decide +kernel), List.mem_of_getElem? (i := 990) (by decide +kernel)⟩
theorem lw_p42 : lw_okq (⟨"HallMinutesModel", "isRest", "(I)Z"⟩, 50) := ⟨⟨by decide +kernel, by decide +kernel⟩, List.mem_of_getElem? (i := 683) (by decide +kernel), List.mem_of_getElem? (i := 993) (by decide +kernel), List.mem_of_getElem? (i := 994) (by decide +kernel)⟩
theorem lw_p43 : lw_okq (⟨"HallMinutesModel", "weekNow", "(I)I"⟩, 50) := ⟨⟨by decide +kernel, by decide +kernel⟩, List.mem_of_getElem? (i := 683) (by decide +kernel), List.mem_of_getElem? (i := 1005) (by decide +kernel), List.mem_of_getElem? (i := 1006) (by decide +kernel)⟩
theorem lw_p44 : lw_okq (⟨"HallMinutesModel", "weeks", "(I)V"⟩, 50) := ⟨⟨by decide +kernel, by decide +kernel⟩, List.mem_of_getElem? (i := 683) (by decide +kernel), List.mem_of_getElem? (i := 1009) (by decide +kernel), List.mem_of_getElem? (i := 1010) (by decide +kernel)⟩
theorem lw_p45 : lw_okq (⟨"HallMinutesModel", "isSameWeek", "(II)Z"⟩, 50) := ⟨⟨by decide +kernel, by decide +kernel⟩, List.mem_of_getElem? (i := 683) (by decide +kernel), List.mem_of_getElem? (i := 1017) (by decide +kernel), List.mem_of_getElem? (i := 1018) (by decide +kernel)⟩
theorem lw_p46 : lw_okq (⟨"HallMinutesModel", "keysNow", "(I)I"⟩, 50) := ⟨⟨by decide +kernel, by decide +kernel⟩, List.mem_of_getElem? (i := 683) (by decide +kernel), List.mem_of_getElem? (i := 1036) (by decide +kernel), List.mem_of_getElem? (i := 1037) (by decide +kernel)⟩
theorem lw_p47 : lw_okq (⟨"HallMinutesModel", "oddsNow", "(II)J"⟩, 50) := ⟨⟨by decide +kernel, by decide +kernel⟩, List.mem_of_getElem? (i := 683) (by decide +kernel), List.mem_of_getElem? (i := 1051) (by decide +kernel), List.mem_of_getElem? (i := 1052) (by decide +kernel)⟩
def lw_privs_3 : List (MethodName × Nat) := [(⟨"HallMinutesModel", "beginsNow", "()V"⟩, 50), (⟨"HallMinutesModel", "paysAll", "()I"⟩, 50), (⟨"HallMinutesModel", "paysNow", "(I)I"⟩, 50), (⟨"HallMinutesModel", "bestOf", "(IZ)I"⟩, 50), (⟨"HallMinutesModel", "restlessNow", "()I"⟩, 50), (⟨"HallMinutesModel", "climbNow", "(Z)I"⟩, 50), (⟨"HallMinutesModel", "climbs", "(Z)Z"⟩, 50), (⟨"HallMinutesModel", "gathers", "()Z"⟩, 50), (⟨"HallMinutesModel", "grids", "(I)V"⟩, 50), (⟨"HallMinutesModel", "restAt", "(I)I"⟩, 50), (⟨"HallMinutesModel", "isRest", "(I)Z"⟩, 50), (⟨"HallMinutesModel", "weekNow", "(I)I"⟩, 50), (⟨"HallMinutesModel", "weeks", "(I)V"⟩, 50), (⟨"HallMinutesModel", "isSameWeek", "(II)Z"⟩, 50), (⟨"HallMinutesModel", "keysNow", "(I)I"⟩, 50), (⟨"HallMinutesModel", "oddsNow", "(II)J"⟩, 50)]
theorem lw_r3 : ∀ q ∈ lw_privs_3, lw_okq q := List.forall_mem_cons.mpr ⟨lw_p32, List.forall_mem_cons.mpr ⟨lw_p33, List.forall_mem_cons.mpr ⟨lw_p34, List.forall_mem_cons.mpr ⟨lw_p35, List.forall_mem_cons.mpr ⟨lw_p36, List.forall_mem_cons.mpr ⟨lw_p37, List.forall_mem_cons.mpr ⟨lw_p38, List.forall_mem_cons.mpr ⟨lw_p39, List.forall_mem_cons.mpr ⟨lw_p40, List.forall_mem_cons.mpr ⟨lw_p41, List.forall_mem_cons.mpr ⟨lw_p42, List.forall_mem_cons.mpr ⟨lw_p43, List.forall_mem_cons.mpr ⟨lw_p44, List.forall_mem_cons.mpr ⟨lw_p45, List.forall_mem_cons.mpr ⟨lw_p46, List.forall_mem_cons.mpr ⟨lw_p47, fun _ h => absurd h List.not_mem_nil⟩⟩⟩⟩⟩⟩⟩⟩⟩⟩⟩⟩⟩⟩⟩⟩
theorem lw_p48 : lw_okq (⟨"HallMinutesModel", "roads", "()V"⟩, 50) := ⟨⟨by decide +kernel, by decide +kernel⟩, List.mem_of_getElem? (i := 683) (by decide +kernel), List.mem_of_getElem? (i := 1055) (by decide +kernel), List.mem_of_getElem? (i := 1056) (by decide +kernel)⟩
theorem lw_p49 : lw_okq (⟨"HallMinutesModel", "takes", "(I)J"⟩, 50) := ⟨⟨by decide +kernel, by decide +kernel⟩, List.mem_of_getElem? (i := 683) (by decide +kernel), List.mem_of_getElem? (i := 1059) (by decide +kernel), List.mem_of_getElem? (i := 1060) (by decide +kernel)⟩
theorem lw_p50 : lw_okq (⟨"HallMinutesModel", "meanNow", "(I)J"⟩, 50) := ⟨⟨by decide +kernel, by decide +kernel⟩, List.mem_of_getElem? (i := 683) (by decide +kernel), List.mem_of_getElem? (i := 1071) (by decide +kernel), List.mem_of_getElem? (i := 1072) (by decide +kernel)⟩
theorem lw_p51 : lw_okq (⟨"HallMinutesModel", "lacks", "(III)I"⟩, 50) := ⟨⟨by decide +kernel, by decide +kernel⟩, List.mem_of_getElem? (i := 683) (by decide +kernel), List.mem_of_getElem? (i := 1091) (by decide +kernel), List.mem_of_getElem? (i := 1092) (by decide +kernel)⟩
theorem lw_p52 : lw_okq (⟨"HallMinutesModel", "keep", "(III)V"⟩, 50) := ⟨⟨by decide +kernel, by decide +kernel⟩, List.mem_of_getElem? (i := 683) (by decide +kernel), List.mem_of_getElem? (i := 1095) (by decide +kernel), List.mem_of_getElem? (i := 1096) (by decide +kernel)⟩
theorem lw_p53 : lw_okq (⟨"HallMinutesModel", "sumOf", "(I)I"⟩, 50) := ⟨⟨by decide +kernel, by decide +kernel⟩, List.mem_of_getElem? (i := 683) (by decide +kernel), List.mem_of_getElem? (i := 1116) (by decide +kernel), List.mem_of_getElem? (i := 1117) (by decide +kernel)⟩
def lw_privs_4 : List (MethodName × Nat) := [(⟨"HallMinutesModel", "roads", "()V"⟩, 50), (⟨"HallMinutesModel", "takes", "(I)J"⟩, 50), (⟨"HallMinutesModel", "meanNow", "(I)J"⟩, 50), (⟨"HallMinutesModel", "lacks", "(III)I"⟩, 50), (⟨"HallMinutesModel", "keep", "(III)V"⟩, 50), (⟨"HallMinutesModel", "sumOf", "(I)I"⟩, 50)]
theorem lw_r4 : ∀ q ∈ lw_privs_4, lw_okq q := List.forall_mem_cons.mpr ⟨lw_p48, List.forall_mem_cons.mpr ⟨lw_p49, List.forall_mem_cons.mpr ⟨lw_p50, List.forall_mem_cons.mpr ⟨lw_p51, List.forall_mem_cons.mpr ⟨lw_p52, List.forall_mem_cons.mpr ⟨lw_p53, fun _ h => absurd h List.not_mem_nil⟩⟩⟩⟩⟩⟩
def lw_privs : List (MethodName × Nat) := lw_privs_1 ++ (lw_privs_2 ++ (lw_privs_3 ++ (lw_privs_4)))
def lw_tbl : List Cond := k2_sels lw_privs ++ tables_1
theorem lw_privs_ok : ∀ q ∈ lw_privs, lw_okq q := by
  show ∀ q ∈ lw_privs_1 ++ (lw_privs_2 ++ (lw_privs_3 ++ (lw_privs_4))), lw_okq q
  exact List.forall_mem_append.mpr ⟨lw_r1, List.forall_mem_append.mpr ⟨lw_r2, List.forall_mem_append.mpr ⟨lw_r3, lw_r4⟩⟩⟩
end
section
def RX0 : String := "HallMinutes$Company"
def TX0 : u_T := fun k => match k with
  | 0 => ("HallMinutes$Company", "number", "I", false)
  | 1 => ("HallMinutes$Company", "lag", "[I", true)
  | 2 => ("HallMinutes$Company", "seen", "[I", true)
  | _ => ("HallMinutes$Company", "cost", "[[I", true)
def tyX0 : Nat → FieldType := fun k => match k with
  | 0 => .int
  | 1 => .array .int
  | 2 => .array .int
  | _ => .array (.array .int)
abbrev wsX00 : List Cond := u_ws RX0 TX0 4
theorem nmX0 : ∀ a, a < 4 → ∀ b, b < 4 → a ≠ b → (TX0 a).2.1 ≠ (TX0 b).2.1 := by decide +kernel
theorem tyX0_ok : ∀ k, k < 4 → parseFieldDescriptor (TX0 k).2.2.1 = some (tyX0 k) := by decide +kernel
abbrev cX0_init : ByteArray := prog_2_method_1_code
def yX0_init : MethodName := ⟨RX0, "<init>", "()V"⟩
abbrev cX0_lotsTogether : ByteArray := prog_2_method_2_code
def yX0_lotsTogether : MethodName := ⟨RX0, "lotsTogether", "()I"⟩
def RX1 : String := "HallMinutes$Evening"
def TX1 : u_T := fun k => match k with
  | 0 => ("HallMinutes$Evening", "term", "[I", true)
  | 1 => ("HallMinutes$Evening", "kind", "[I", true)
  | 2 => ("HallMinutes$Evening", "aim", "[I", true)
  | 3 => ("HallMinutes$Evening", "when", "[I", true)
  | 4 => ("HallMinutes$Evening", "late", "I", false)
  | 5 => ("HallMinutes$Evening", "away", "I", false)
  | 6 => ("HallMinutes$Evening", "company", "LHallMinutes$Company;", true)
  | 7 => ("HallMinutes$Evening", "rule", "LHallMinutes$Rule;", true)
  | 8 => ("HallMinutes$Evening", "order", "[I", true)
  | 9 => ("HallMinutes$Evening", "there", "I", false)
  | 10 => ("HallMinutes$Evening", "firm", "[I", true)
  | 11 => ("HallMinutes$Evening", "firms", "I", false)
  | 12 => ("HallMinutes$Evening", "looker", "[I", true)
  | 13 => ("HallMinutes$Evening", "lookers", "I", false)
  | _ => ("HallMinutes$Evening", "next", "[I", true)
def tyX1 : Nat → FieldType := fun k => match k with
  | 0 => .array .int
  | 1 => .array .int
  | 2 => .array .int
  | 3 => .array .int
  | 4 => .int
  | 5 => .int
  | 6 => .object "HallMinutes$Company"
  | 7 => .object "HallMinutes$Rule"
  | 8 => .array .int
  | 9 => .int
  | 10 => .array .int
  | 11 => .int
  | 12 => .array .int
  | 13 => .int
  | _ => .array .int
abbrev wsX10 : List Cond := u_ws RX1 TX1 15
theorem nmX1 : ∀ a, a < 15 → ∀ b, b < 15 → a ≠ b → (TX1 a).2.1 ≠ (TX1 b).2.1 := by decide +kernel
theorem tyX1_ok : ∀ k, k < 15 → parseFieldDescriptor (TX1 k).2.2.1 = some (tyX1 k) := by decide +kernel
abbrev cX1_init : ByteArray := prog_3_method_1_code
def yX1_init : MethodName := ⟨RX1, "<init>", "(LHallMinutes$Company;LHallMinutes$Rule;)V"⟩
abbrev cX1_becomes : ByteArray := prog_3_method_2_code
def yX1_becomes : MethodName := ⟨RX1, "becomes", "(LHallMinutes$Evening;)V"⟩
abbrev cX1_makePunctual : ByteArray := prog_3_method_3_code
def yX1_makePunctual : MethodName := ⟨RX1, "makePunctual", "(I)V"⟩
abbrev cX1_plainBits : ByteArray := prog_3_method_4_code
def yX1_plainBits : MethodName := ⟨RX1, "plainBits", "()I"⟩
abbrev cX1_aimsTogether : ByteArray := prog_3_method_5_code
def yX1_aimsTogether : MethodName := ⟨RX1, "aimsTogether", "()I"⟩
abbrev cX1_comingAt : ByteArray := prog_3_method_6_code
def yX1_comingAt : MethodName := ⟨RX1, "comingAt", "(I)I"⟩
abbrev cX1_reckon : ByteArray := prog_3_method_7_code
def yX1_reckon : MethodName := ⟨RX1, "reckon", "()I"⟩
abbrev cX1_together : ByteArray := prog_3_method_8_code
def yX1_together : MethodName := ⟨RX1, "together", "()I"⟩
abbrev cX1_gather : ByteArray := prog_3_method_9_code
def yX1_gather : MethodName := ⟨RX1, "gather", "(I)V"⟩
abbrev cX1_firmMinute : ByteArray := prog_3_method_10_code
def yX1_firmMinute : MethodName := ⟨RX1, "firmMinute", "(I)I"⟩
abbrev cX1_enter : ByteArray := prog_3_method_11_code
def yX1_enter : MethodName := ⟨RX1, "enter", "(I)V"⟩
abbrev cX1_settle : ByteArray := prog_3_method_12_code
def yX1_settle : MethodName := ⟨RX1, "settle", "(II)I"⟩
abbrev cX1_callLookers : ByteArray := prog_3_method_13_code
def yX1_callLookers : MethodName := ⟨RX1, "callLookers", "()V"⟩
abbrev cX1_price : ByteArray := prog_3_method_14_code
def yX1_price : MethodName := ⟨RX1, "price", "(III)I"⟩
abbrev cX1_bestOf : ByteArray := prog_3_method_15_code
def yX1_bestOf : MethodName := ⟨RX1, "bestOf", "(IZ)I"⟩
abbrev cX1_openPrice : ByteArray := prog_3_method_16_code
def yX1_openPrice : MethodName := ⟨RX1, "openPrice", "(II)I"⟩
abbrev cX1_firstRestless : ByteArray := prog_3_method_17_code
def yX1_firstRestless : MethodName := ⟨RX1, "firstRestless", "()I"⟩
abbrev cX1_restsAmong : ByteArray := prog_3_method_18_code
def yX1_restsAmong : MethodName := ⟨RX1, "restsAmong", "([II)Z"⟩
abbrev cX1_climbs : ByteArray := prog_3_method_19_code
def yX1_climbs : MethodName := ⟨RX1, "climbs", "(Z)Z"⟩
abbrev cX1_goesToNextWeek : ByteArray := prog_3_method_20_code
def yX1_goesToNextWeek : MethodName := ⟨RX1, "goesToNextWeek", "()V"⟩
abbrev cX1_aimsAsOne : ByteArray := prog_3_method_21_code
def yX1_aimsAsOne : MethodName := ⟨RX1, "aimsAsOne", "()J"⟩
def RX2 : String := "HallMinutes$Grid"
def TX2 : u_T := fun k => match k with
  | 0 => ("HallMinutes$Grid", "evening", "LHallMinutes$Evening;", true)
  | 1 => ("HallMinutes$Grid", "minutes", "[I", true)
  | 2 => ("HallMinutes$Grid", "many", "I", false)
  | _ => ("HallMinutes$Grid", "place", "[I", true)
def tyX2 : Nat → FieldType := fun k => match k with
  | 0 => .object "HallMinutes$Evening"
  | 1 => .array .int
  | 2 => .int
  | _ => .array .int
abbrev wsX20 : List Cond := u_ws RX2 TX2 4
theorem nmX2 : ∀ a, a < 4 → ∀ b, b < 4 → a ≠ b → (TX2 a).2.1 ≠ (TX2 b).2.1 := by decide +kernel
theorem tyX2_ok : ∀ k, k < 4 → parseFieldDescriptor (TX2 k).2.2.1 = some (tyX2 k) := by decide +kernel
abbrev cX2_init : ByteArray := prog_4_method_1_code
def yX2_init : MethodName := ⟨RX2, "<init>", "(LHallMinutes$Evening;)V"⟩
abbrev cX2_lay : ByteArray := prog_4_method_2_code
def yX2_lay : MethodName := ⟨RX2, "lay", "(I)V"⟩
abbrev cX2_toFirstWay : ByteArray := prog_4_method_3_code
def yX2_toFirstWay : MethodName := ⟨RX2, "toFirstWay", "()V"⟩
abbrev cX2_toNextWay : ByteArray := prog_4_method_4_code
def yX2_toNextWay : MethodName := ⟨RX2, "toNextWay", "()Z"⟩
abbrev cX2_walk : ByteArray := prog_4_method_5_code
def yX2_walk : MethodName := ⟨RX2, "walk", "(I)I"⟩
abbrev cX2_good : ByteArray := prog_4_method_6_code
def yX2_good : MethodName := ⟨RX2, "good", "()I"⟩
def RX3 : String := "HallMinutes$Roads"
def TX3 : u_T := fun k => match k with
  | 0 => ("HallMinutes$Roads", "company", "LHallMinutes$Company;", true)
  | _ => ("HallMinutes$Roads", "evening", "LHallMinutes$Evening;", true)
def tyX3 : Nat → FieldType := fun k => match k with
  | 0 => .object "HallMinutes$Company"
  | _ => .object "HallMinutes$Evening"
abbrev wsX30 : List Cond := u_ws RX3 TX3 2
theorem nmX3 : ∀ a, a < 2 → ∀ b, b < 2 → a ≠ b → (TX3 a).2.1 ≠ (TX3 b).2.1 := by decide +kernel
theorem tyX3_ok : ∀ k, k < 2 → parseFieldDescriptor (TX3 k).2.2.1 = some (tyX3 k) := by decide +kernel
abbrev cX3_init : ByteArray := prog_5_method_1_code
def yX3_init : MethodName := ⟨RX3, "<init>", "(LHallMinutes$Company;LHallMinutes$Evening;)V"⟩
abbrev cX3_weight : ByteArray := prog_5_method_2_code
def yX3_weight : MethodName := ⟨RX3, "weight", "(I)J"⟩
abbrev cX3_begunBy : ByteArray := prog_5_method_3_code
def yX3_begunBy : MethodName := ⟨RX3, "begunBy", "(I)J"⟩
abbrev cX3_priceOf : ByteArray := prog_5_method_4_code
def yX3_priceOf : MethodName := ⟨RX3, "priceOf", "(I)J"⟩
abbrev cX3_lowest : ByteArray := prog_5_method_5_code
def yX3_lowest : MethodName := ⟨RX3, "lowest", "(JI)J"⟩
def RX4 : String := "HallMinutes$Rule"
def TX4 : u_T := fun k => match k with
  | 0 => ("HallMinutes$Rule", "length", "I", false)
  | 1 => ("HallMinutes$Rule", "faultAt", "I", false)
  | 2 => ("HallMinutes$Rule", "text", "[I", true)
  | 3 => ("HallMinutes$Rule", "at", "I", false)
  | 4 => ("HallMinutes$Rule", "alternatives", "I", false)
  | 5 => ("HallMinutes$Rule", "from", "[I", true)
  | 6 => ("HallMinutes$Rule", "tells", "[Z", true)
  | 7 => ("HallMinutes$Rule", "many", "[I", true)
  | 8 => ("HallMinutes$Rule", "who", "[I", true)
  | 9 => ("HallMinutes$Rule", "openFrom", "I", false)
  | 10 => ("HallMinutes$Rule", "openTells", "Z", false)
  | 11 => ("HallMinutes$Rule", "openMany", "I", false)
  | _ => ("HallMinutes$Rule", "openWho", "I", false)
def tyX4 : Nat → FieldType := fun k => match k with
  | 0 => .int
  | 1 => .int
  | 2 => .array .int
  | 3 => .int
  | 4 => .int
  | 5 => .array .int
  | 6 => .array .boolean
  | 7 => .array .int
  | 8 => .array .int
  | 9 => .int
  | 10 => .boolean
  | 11 => .int
  | _ => .int
abbrev wsX40 : List Cond := u_ws RX4 TX4 13
theorem nmX4 : ∀ a, a < 13 → ∀ b, b < 13 → a ≠ b → (TX4 a).2.1 ≠ (TX4 b).2.1 := by decide +kernel
theorem tyX4_ok : ∀ k, k < 13 → parseFieldDescriptor (TX4 k).2.2.1 = some (tyX4 k) := by decide +kernel
abbrev cX4_init : ByteArray := prog_6_method_1_code
def yX4_init : MethodName := ⟨RX4, "<init>", "()V"⟩
abbrev cX4_takes : ByteArray := prog_6_method_2_code
def yX4_takes : MethodName := ⟨RX4, "takes", "(I)Z"⟩
abbrev cX4_empties : ByteArray := prog_6_method_3_code
def yX4_empties : MethodName := ⟨RX4, "empties", "()V"⟩
abbrev cX4_parse : ByteArray := prog_6_method_4_code
def yX4_parse : MethodName := ⟨RX4, "parse", "()V"⟩
abbrev cX4_here : ByteArray := prog_6_method_5_code
def yX4_here : MethodName := ⟨RX4, "here", "()I"⟩
abbrev cX4_readsCondition : ByteArray := prog_6_method_6_code
def yX4_readsCondition : MethodName := ⟨RX4, "readsCondition", "()Z"⟩
abbrev cX4_number : ByteArray := prog_6_method_7_code
def yX4_number : MethodName := ⟨RX4, "number", "(III)I"⟩
abbrev cX4_readsJoint : ByteArray := prog_6_method_8_code
def yX4_readsJoint : MethodName := ⟨RX4, "readsJoint", "()Z"⟩
abbrev cX4_opens : ByteArray := prog_6_method_9_code
def yX4_opens : MethodName := ⟨RX4, "opens", "()V"⟩
abbrev cX4_closes : ByteArray := prog_6_method_10_code
def yX4_closes : MethodName := ⟨RX4, "closes", "()V"⟩
abbrev cX4_beginning : ByteArray := prog_6_method_11_code
def yX4_beginning : MethodName := ⟨RX4, "beginning", "(I[II[I)I"⟩
def RX5 : String := "HallMinutes$Sheets"
def TX5 : u_T := fun k => match k with
  | 0 => ("HallMinutes$Sheets", "item", "[[I", true)
  | 1 => ("HallMinutes$Sheets", "form", "[I", true)
  | 2 => ("HallMinutes$Sheets", "size", "[I", true)
  | _ => ("HallMinutes$Sheets", "latest", "I", false)
def tyX5 : Nat → FieldType := fun k => match k with
  | 0 => .array (.array .int)
  | 1 => .array .int
  | 2 => .array .int
  | _ => .int
abbrev wsX50 : List Cond := u_ws RX5 TX5 4
theorem nmX5 : ∀ a, a < 4 → ∀ b, b < 4 → a ≠ b → (TX5 a).2.1 ≠ (TX5 b).2.1 := by decide +kernel
theorem tyX5_ok : ∀ k, k < 4 → parseFieldDescriptor (TX5 k).2.2.1 = some (tyX5 k) := by decide +kernel
abbrev cX5_init : ByteArray := prog_7_method_1_code
def yX5_init : MethodName := ⟨RX5, "<init>", "()V"⟩
abbrev cX5_finds : ByteArray := prog_7_method_2_code
def yX5_finds : MethodName := ⟨RX5, "finds", "(I)I"⟩
abbrev cX5_isGone : ByteArray := prog_7_method_3_code
def yX5_isGone : MethodName := ⟨RX5, "isGone", "(I)Z"⟩
abbrev cX5_lay : ByteArray := prog_7_method_4_code
def yX5_lay : MethodName := ⟨RX5, "lay", "(III)V"⟩
abbrev cX5_drop : ByteArray := prog_7_method_5_code
def yX5_drop : MethodName := ⟨RX5, "drop", "(I)V"⟩
abbrev cX5_findingAt : ByteArray := prog_7_method_6_code
def yX5_findingAt : MethodName := ⟨RX5, "findingAt", "(III)I"⟩
abbrev cX5_hasItems : ByteArray := prog_7_method_7_code
def yX5_hasItems : MethodName := ⟨RX5, "hasItems", "(III)Z"⟩
abbrev cX5_lowest : ByteArray := prog_7_method_8_code
def yX5_lowest : MethodName := ⟨RX5, "lowest", "(II)I"⟩
def RX6 : String := "HallMinutes$Weeks"
def TX6 : u_T := fun k => match k with
  | 0 => ("HallMinutes$Weeks", "begin", "[I", true)
  | 1 => ("HallMinutes$Weeks", "first", "I", false)
  | 2 => ("HallMinutes$Weeks", "later", "I", false)
  | 3 => ("HallMinutes$Weeks", "evening", "LHallMinutes$Evening;", true)
  | _ => ("HallMinutes$Weeks", "aims", "[J", true)
def tyX6 : Nat → FieldType := fun k => match k with
  | 0 => .array .int
  | 1 => .int
  | 2 => .int
  | 3 => .object "HallMinutes$Evening"
  | _ => .array .long
abbrev wsX60 : List Cond := u_ws RX6 TX6 5
theorem nmX6 : ∀ a, a < 5 → ∀ b, b < 5 → a ≠ b → (TX6 a).2.1 ≠ (TX6 b).2.1 := by decide +kernel
theorem tyX6_ok : ∀ k, k < 5 → parseFieldDescriptor (TX6 k).2.2.1 = some (tyX6 k) := by decide +kernel
abbrev cX6_init : ByteArray := prog_8_method_1_code
def yX6_init : MethodName := ⟨RX6, "<init>", "(LHallMinutes$Evening;)V"⟩
abbrev cX6_run : ByteArray := prog_8_method_2_code
def yX6_run : MethodName := ⟨RX6, "run", "(I)V"⟩
abbrev cX6_comesTo : ByteArray := prog_8_method_3_code
def yX6_comesTo : MethodName := ⟨RX6, "comesTo", "(I)V"⟩
def RX7 : String := "HallMinutes"
def TX7 : u_T := fun k => match k with
  | 0 => ("HallMinutes", "company", "LHallMinutes$Company;", true)
  | 1 => ("HallMinutes", "rule", "LHallMinutes$Rule;", true)
  | 2 => ("HallMinutes", "now", "LHallMinutes$Evening;", true)
  | 3 => ("HallMinutes", "trial", "LHallMinutes$Evening;", true)
  | 4 => ("HallMinutes", "grid", "LHallMinutes$Grid;", true)
  | 5 => ("HallMinutes", "weeks", "LHallMinutes$Weeks;", true)
  | 6 => ("HallMinutes", "roads", "LHallMinutes$Roads;", true)
  | _ => ("HallMinutes", "sheets", "LHallMinutes$Sheets;", true)
def tyX7 : Nat → FieldType := fun k => match k with
  | 0 => .object "HallMinutes$Company"
  | 1 => .object "HallMinutes$Rule"
  | 2 => .object "HallMinutes$Evening"
  | 3 => .object "HallMinutes$Evening"
  | 4 => .object "HallMinutes$Grid"
  | 5 => .object "HallMinutes$Weeks"
  | 6 => .object "HallMinutes$Roads"
  | _ => .object "HallMinutes$Sheets"
abbrev wsX70 : List Cond := u_ws RX7 TX7 8
theorem nmX7 : ∀ a, a < 8 → ∀ b, b < 8 → a ≠ b → (TX7 a).2.1 ≠ (TX7 b).2.1 := by decide +kernel
theorem tyX7_ok : ∀ k, k < 8 → parseFieldDescriptor (TX7 k).2.2.1 = some (tyX7 k) := by decide +kernel
abbrev cX7_init : ByteArray := prog_1_method_1_code
def yX7_init : MethodName := ⟨RX7, "<init>", "()V"⟩
abbrev cX7_comer : ByteArray := prog_1_method_2_code
def yX7_comer : MethodName := ⟨RX7, "comer", "(III)I"⟩
abbrev cX7_aim : ByteArray := prog_1_method_3_code
def yX7_aim : MethodName := ⟨RX7, "aim", "(II)I"⟩
abbrev cX7_read : ByteArray := prog_1_method_4_code
def yX7_read : MethodName := ⟨RX7, "read", "(I)I"⟩
abbrev cX7_cost : ByteArray := prog_1_method_5_code
def yX7_cost : MethodName := ⟨RX7, "cost", "(III)I"⟩
abbrev cX7_set : ByteArray := prog_1_method_6_code
def yX7_set : MethodName := ⟨RX7, "set", "(II)I"⟩
abbrev cX7_type : ByteArray := prog_1_method_7_code
def yX7_type : MethodName := ⟨RX7, "type", "(I)I"⟩
abbrev cX7_wipe : ByteArray := prog_1_method_8_code
def yX7_wipe : MethodName := ⟨RX7, "wipe", "()I"⟩
abbrev cX7_fault : ByteArray := prog_1_method_9_code
def yX7_fault : MethodName := ⟨RX7, "fault", "()I"⟩
abbrev cX7_begins : ByteArray := prog_1_method_10_code
def yX7_begins : MethodName := ⟨RX7, "begins", "()I"⟩
abbrev cX7_comes : ByteArray := prog_1_method_11_code
def yX7_comes : MethodName := ⟨RX7, "comes", "(I)I"⟩
abbrev cX7_pays : ByteArray := prog_1_method_12_code
def yX7_pays : MethodName := ⟨RX7, "pays", "(I)I"⟩
abbrev cX7_best : ByteArray := prog_1_method_13_code
def yX7_best : MethodName := ⟨RX7, "best", "(IZ)I"⟩
abbrev cX7_restless : ByteArray := prog_1_method_14_code
def yX7_restless : MethodName := ⟨RX7, "restless", "()I"⟩
abbrev cX7_climb : ByteArray := prog_1_method_15_code
def yX7_climb : MethodName := ⟨RX7, "climb", "(ZI)I"⟩
abbrev cX7_rests : ByteArray := prog_1_method_16_code
def yX7_rests : MethodName := ⟨RX7, "rests", "(III)I"⟩
abbrev cX7_lost : ByteArray := prog_1_method_17_code
def yX7_lost : MethodName := ⟨RX7, "lost", "(II)I"⟩
abbrev cX7_week : ByteArray := prog_1_method_18_code
def yX7_week : MethodName := ⟨RX7, "week", "(I)I"⟩
abbrev cX7_round : ByteArray := prog_1_method_19_code
def yX7_round : MethodName := ⟨RX7, "round", "(I)I"⟩
abbrev cX7_moved : ByteArray := prog_1_method_20_code
def yX7_moved : MethodName := ⟨RX7, "moved", "(I)I"⟩
abbrev cX7_least : ByteArray := prog_1_method_21_code
def yX7_least : MethodName := ⟨RX7, "least", "(Z)I"⟩
abbrev cX7_keys : ByteArray := prog_1_method_22_code
def yX7_keys : MethodName := ⟨RX7, "keys", "(I)I"⟩
abbrev cX7_guests : ByteArray := prog_1_method_23_code
def yX7_guests : MethodName := ⟨RX7, "guests", "()I"⟩
abbrev cX7_odds : ByteArray := prog_1_method_24_code
def yX7_odds : MethodName := ⟨RX7, "odds", "(II)J"⟩
abbrev cX7_mean : ByteArray := prog_1_method_25_code
def yX7_mean : MethodName := ⟨RX7, "mean", "(II)J"⟩
abbrev cX7_sure : ByteArray := prog_1_method_26_code
def yX7_sure : MethodName := ⟨RX7, "sure", "(I)I"⟩
abbrev cX7_sheet : ByteArray := prog_1_method_27_code
def yX7_sheet : MethodName := ⟨RX7, "sheet", "(III)I"⟩
abbrev cX7_lose : ByteArray := prog_1_method_28_code
def yX7_lose : MethodName := ⟨RX7, "lose", "(I)I"⟩
abbrev cX7_put : ByteArray := prog_1_method_29_code
def yX7_put : MethodName := ⟨RX7, "put", "(IIII)I"⟩
abbrev cX7_get : ByteArray := prog_1_method_30_code
def yX7_get : MethodName := ⟨RX7, "get", "(III)I"⟩
abbrev cX7_copy : ByteArray := prog_1_method_31_code
def yX7_copy : MethodName := ⟨RX7, "copy", "(IIIII)I"⟩
abbrev cX7_write : ByteArray := prog_1_method_32_code
def yX7_write : MethodName := ⟨RX7, "write", "(I)I"⟩
abbrev cX7_count : ByteArray := prog_1_method_33_code
def yX7_count : MethodName := ⟨RX7, "count", "(I)I"⟩
abbrev cX7_digest : ByteArray := prog_1_method_34_code
def yX7_digest : MethodName := ⟨RX7, "digest", "()J"⟩
abbrev cX7_mayCome : ByteArray := prog_1_method_35_code
def yX7_mayCome : MethodName := ⟨RX7, "mayCome", "(III)Z"⟩
abbrev cX7_mayAim : ByteArray := prog_1_method_36_code
def yX7_mayAim : MethodName := ⟨RX7, "mayAim", "(I)Z"⟩
abbrev cX7_isStep : ByteArray := prog_1_method_37_code
def yX7_isStep : MethodName := ⟨RX7, "isStep", "(I)Z"⟩
abbrev cX7_isSheet : ByteArray := prog_1_method_38_code
def yX7_isSheet : MethodName := ⟨RX7, "isSheet", "(I)Z"⟩
abbrev cX7_isForm : ByteArray := prog_1_method_39_code
def yX7_isForm : MethodName := ⟨RX7, "isForm", "(I)Z"⟩
abbrev cX7_isComer : ByteArray := prog_1_method_40_code
def yX7_isComer : MethodName := ⟨RX7, "isComer", "(I)Z"⟩
abbrev cX7_isPlain : ByteArray := prog_1_method_41_code
def yX7_isPlain : MethodName := ⟨RX7, "isPlain", "(I)Z"⟩
abbrev cX7_trialIsInTime : ByteArray := prog_1_method_42_code
def yX7_trialIsInTime : MethodName := ⟨RX7, "trialIsInTime", "()Z"⟩
abbrev cX7_keyBits : ByteArray := prog_1_method_43_code
def yX7_keyBits : MethodName := ⟨RX7, "keyBits", "()I"⟩
def RX8 : String := "HallMinutesModel"
def TX8 : u_T := fun k => match k with
  | 0 => ("HallMinutesModel", "comers", "I", false)
  | 1 => ("HallMinutesModel", "kindOf", "[I", true)
  | 2 => ("HallMinutesModel", "aimOf", "[I", true)
  | 3 => ("HallMinutesModel", "lookOf", "[I", true)
  | 4 => ("HallMinutesModel", "wait", "[I", true)
  | 5 => ("HallMinutesModel", "late", "[I", true)
  | 6 => ("HallMinutesModel", "miss", "[I", true)
  | 7 => ("HallMinutesModel", "road", "[I", true)
  | 8 => ("HallMinutesModel", "roadLong", "[I", true)
  | 9 => ("HallMinutesModel", "toldNow", "I", false)
  | 10 => ("HallMinutesModel", "fine", "I", false)
  | 11 => ("HallMinutesModel", "food", "I", false)
  | 12 => ("HallMinutesModel", "typed", "I", false)
  | 13 => ("HallMinutesModel", "text", "[I", true)
  | 14 => ("HallMinutesModel", "isRead", "Z", false)
  | 15 => ("HallMinutesModel", "at", "I", false)
  | 16 => ("HallMinutesModel", "fault", "I", false)
  | 17 => ("HallMinutesModel", "conditions", "I", false)
  | 18 => ("HallMinutesModel", "letters", "[I", true)
  | 19 => ("HallMinutesModel", "numbers", "[I", true)
  | 20 => ("HallMinutesModel", "begin", "[Z", true)
  | 21 => ("HallMinutesModel", "aims", "[I", true)
  | 22 => ("HallMinutesModel", "told", "I", false)
  | 23 => ("HallMinutesModel", "fineNow", "I", false)
  | 24 => ("HallMinutesModel", "foodNow", "I", false)
  | 25 => ("HallMinutesModel", "guestBits", "I", false)
  | 26 => ("HallMinutesModel", "goneBits", "I", false)
  | 27 => ("HallMinutesModel", "lateBits", "I", false)
  | 28 => ("HallMinutesModel", "come", "[I", true)
  | 29 => ("HallMinutesModel", "sorted", "[I", true)
  | 30 => ("HallMinutesModel", "beginsAt", "I", false)
  | 31 => ("HallMinutesModel", "plains", "I", false)
  | 32 => ("HallMinutesModel", "plainOf", "[I", true)
  | 33 => ("HallMinutesModel", "costs", "[I", true)
  | 34 => ("HallMinutesModel", "costAll", "[I", true)
  | 35 => ("HallMinutesModel", "marks", "I", false)
  | 36 => ("HallMinutesModel", "wayMany", "I", false)
  | 37 => ("HallMinutesModel", "weights", "[I", true)
  | 38 => ("HallMinutesModel", "restMany", "I", false)
  | 39 => ("HallMinutesModel", "weekAims", "[I", true)
  | 40 => ("HallMinutesModel", "weekBegins", "[I", true)
  | 41 => ("HallMinutesModel", "next", "[I", true)
  | 42 => ("HallMinutesModel", "onRoad", "I", false)
  | 43 => ("HallMinutesModel", "roadOf", "[I", true)
  | 44 => ("HallMinutesModel", "isThere", "[Z", true)
  | 45 => ("HallMinutesModel", "forms", "[I", true)
  | 46 => ("HallMinutesModel", "sizes", "[I", true)
  | 47 => ("HallMinutesModel", "items", "[I", true)
  | 48 => ("HallMinutesModel", "moved", "[I", true)
  | _ => ("HallMinutesModel", "finding", "I", false)
def tyX8 : Nat → FieldType := fun k => match k with
  | 0 => .int
  | 1 => .array .int
  | 2 => .array .int
  | 3 => .array .int
  | 4 => .array .int
  | 5 => .array .int
  | 6 => .array .int
  | 7 => .array .int
  | 8 => .array .int
  | 9 => .int
  | 10 => .int
  | 11 => .int
  | 12 => .int
  | 13 => .array .int
  | 14 => .boolean
  | 15 => .int
  | 16 => .int
  | 17 => .int
  | 18 => .array .int
  | 19 => .array .int
  | 20 => .array .boolean
  | 21 => .array .int
  | 22 => .int
  | 23 => .int
  | 24 => .int
  | 25 => .int
  | 26 => .int
  | 27 => .int
  | 28 => .array .int
  | 29 => .array .int
  | 30 => .int
  | 31 => .int
  | 32 => .array .int
  | 33 => .array .int
  | 34 => .array .int
  | 35 => .int
  | 36 => .int
  | 37 => .array .int
  | 38 => .int
  | 39 => .array .int
  | 40 => .array .int
  | 41 => .array .int
  | 42 => .int
  | 43 => .array .int
  | 44 => .array .boolean
  | 45 => .array .int
  | 46 => .array .int
  | 47 => .array .int
  | 48 => .array .int
  | _ => .int
abbrev wsX80 : List Cond := u_ws RX8 TX8 50
theorem nmX8 : ∀ a, a < 50 → ∀ b, b < 50 → a ≠ b → (TX8 a).2.1 ≠ (TX8 b).2.1 := by decide +kernel
theorem tyX8_ok : ∀ k, k < 50 → parseFieldDescriptor (TX8 k).2.2.1 = some (tyX8 k) := by decide +kernel
abbrev cX8_init : ByteArray := prog_10_method_1_code
def yX8_init : MethodName := ⟨RX8, "<init>", "()V"⟩
abbrev cX8_in : ByteArray := prog_10_method_3_code
def yX8_in : MethodName := ⟨RX8, "in", "(III)Z"⟩
abbrev cX8_ones : ByteArray := prog_10_method_4_code
def yX8_ones : MethodName := ⟨RX8, "ones", "(I)I"⟩
abbrev cX8_amount : ByteArray := prog_10_method_5_code
def yX8_amount : MethodName := ⟨RX8, "amount", "(I)I"⟩
abbrev cX8_lowest : ByteArray := prog_10_method_6_code
def yX8_lowest : MethodName := ⟨RX8, "lowest", "(JJI)J"⟩
abbrev cX8_comer : ByteArray := prog_10_method_7_code
def yX8_comer : MethodName := ⟨RX8, "comer", "(III)I"⟩
abbrev cX8_isComer : ByteArray := prog_10_method_8_code
def yX8_isComer : MethodName := ⟨RX8, "isComer", "(I)Z"⟩
abbrev cX8_isPlain : ByteArray := prog_10_method_9_code
def yX8_isPlain : MethodName := ⟨RX8, "isPlain", "(I)Z"⟩
abbrev cX8_aim : ByteArray := prog_10_method_10_code
def yX8_aim : MethodName := ⟨RX8, "aim", "(II)I"⟩
abbrev cX8_read : ByteArray := prog_10_method_11_code
def yX8_read : MethodName := ⟨RX8, "read", "(I)I"⟩
abbrev cX8_cost : ByteArray := prog_10_method_12_code
def yX8_cost : MethodName := ⟨RX8, "cost", "(III)I"⟩
abbrev cX8_set : ByteArray := prog_10_method_13_code
def yX8_set : MethodName := ⟨RX8, "set", "(II)I"⟩
abbrev cX8_type : ByteArray := prog_10_method_14_code
def yX8_type : MethodName := ⟨RX8, "type", "(I)I"⟩
abbrev cX8_wipe : ByteArray := prog_10_method_15_code
def yX8_wipe : MethodName := ⟨RX8, "wipe", "()I"⟩
abbrev cX8_byteNow : ByteArray := prog_10_method_16_code
def yX8_byteNow : MethodName := ⟨RX8, "byteNow", "()I"⟩
abbrev cX8_number : ByteArray := prog_10_method_17_code
def yX8_number : MethodName := ⟨RX8, "number", "(III)I"⟩
abbrev cX8_condition : ByteArray := prog_10_method_18_code
def yX8_condition : MethodName := ⟨RX8, "condition", "(Z)V"⟩
abbrev cX8_faultNow : ByteArray := prog_10_method_19_code
def yX8_faultNow : MethodName := ⟨RX8, "faultNow", "()I"⟩
abbrev cX8_fault : ByteArray := prog_10_method_20_code
def yX8_fault : MethodName := ⟨RX8, "fault", "()I"⟩
abbrev cX8_asTold : ByteArray := prog_10_method_21_code
def yX8_asTold : MethodName := ⟨RX8, "asTold", "()V"⟩
abbrev cX8_looks : ByteArray := prog_10_method_22_code
def yX8_looks : MethodName := ⟨RX8, "looks", "(I)Z"⟩
abbrev cX8_comesAll : ByteArray := prog_10_method_23_code
def yX8_comesAll : MethodName := ⟨RX8, "comesAll", "()V"⟩
abbrev cX8_beginsNow : ByteArray := prog_10_method_24_code
def yX8_beginsNow : MethodName := ⟨RX8, "beginsNow", "()V"⟩
abbrev cX8_goes : ByteArray := prog_10_method_25_code
def yX8_goes : MethodName := ⟨RX8, "goes", "()V"⟩
abbrev cX8_paysNow : ByteArray := prog_10_method_26_code
def yX8_paysNow : MethodName := ⟨RX8, "paysNow", "(I)I"⟩
abbrev cX8_paysAll : ByteArray := prog_10_method_27_code
def yX8_paysAll : MethodName := ⟨RX8, "paysAll", "()I"⟩
abbrev cX8_begins : ByteArray := prog_10_method_28_code
def yX8_begins : MethodName := ⟨RX8, "begins", "()I"⟩
abbrev cX8_comes : ByteArray := prog_10_method_29_code
def yX8_comes : MethodName := ⟨RX8, "comes", "(I)I"⟩
abbrev cX8_pays : ByteArray := prog_10_method_30_code
def yX8_pays : MethodName := ⟨RX8, "pays", "(I)I"⟩
abbrev cX8_bestOf : ByteArray := prog_10_method_31_code
def yX8_bestOf : MethodName := ⟨RX8, "bestOf", "(IZ)I"⟩
abbrev cX8_best : ByteArray := prog_10_method_32_code
def yX8_best : MethodName := ⟨RX8, "best", "(IZ)I"⟩
abbrev cX8_restlessNow : ByteArray := prog_10_method_33_code
def yX8_restlessNow : MethodName := ⟨RX8, "restlessNow", "()I"⟩
abbrev cX8_restless : ByteArray := prog_10_method_34_code
def yX8_restless : MethodName := ⟨RX8, "restless", "()I"⟩
abbrev cX8_climbs : ByteArray := prog_10_method_35_code
def yX8_climbs : MethodName := ⟨RX8, "climbs", "(Z)Z"⟩
abbrev cX8_climbNow : ByteArray := prog_10_method_36_code
def yX8_climbNow : MethodName := ⟨RX8, "climbNow", "(Z)I"⟩
abbrev cX8_climb : ByteArray := prog_10_method_37_code
def yX8_climb : MethodName := ⟨RX8, "climb", "(ZI)I"⟩
abbrev cX8_minuteOf : ByteArray := prog_10_method_38_code
def yX8_minuteOf : MethodName := ⟨RX8, "minuteOf", "(III)I"⟩
abbrev cX8_gathers : ByteArray := prog_10_method_39_code
def yX8_gathers : MethodName := ⟨RX8, "gathers", "()Z"⟩
abbrev cX8_grids : ByteArray := prog_10_method_40_code
def yX8_grids : MethodName := ⟨RX8, "grids", "(I)V"⟩
abbrev cX8_isRest : ByteArray := prog_10_method_41_code
def yX8_isRest : MethodName := ⟨RX8, "isRest", "(I)Z"⟩
abbrev cX8_restAt : ByteArray := prog_10_method_42_code
def yX8_restAt : MethodName := ⟨RX8, "restAt", "(I)I"⟩
abbrev cX8_rests : ByteArray := prog_10_method_43_code
def yX8_rests : MethodName := ⟨RX8, "rests", "(III)I"⟩
abbrev cX8_lost : ByteArray := prog_10_method_44_code
def yX8_lost : MethodName := ⟨RX8, "lost", "(II)I"⟩
abbrev cX8_weeks : ByteArray := prog_10_method_45_code
def yX8_weeks : MethodName := ⟨RX8, "weeks", "(I)V"⟩
abbrev cX8_weekNow : ByteArray := prog_10_method_46_code
def yX8_weekNow : MethodName := ⟨RX8, "weekNow", "(I)I"⟩
abbrev cX8_week : ByteArray := prog_10_method_47_code
def yX8_week : MethodName := ⟨RX8, "week", "(I)I"⟩
abbrev cX8_isSameWeek : ByteArray := prog_10_method_48_code
def yX8_isSameWeek : MethodName := ⟨RX8, "isSameWeek", "(II)Z"⟩
abbrev cX8_round : ByteArray := prog_10_method_49_code
def yX8_round : MethodName := ⟨RX8, "round", "(I)I"⟩
abbrev cX8_moved : ByteArray := prog_10_method_50_code
def yX8_moved : MethodName := ⟨RX8, "moved", "(I)I"⟩
abbrev cX8_least : ByteArray := prog_10_method_51_code
def yX8_least : MethodName := ⟨RX8, "least", "(Z)I"⟩
abbrev cX8_keysNow : ByteArray := prog_10_method_52_code
def yX8_keysNow : MethodName := ⟨RX8, "keysNow", "(I)I"⟩
abbrev cX8_keys : ByteArray := prog_10_method_53_code
def yX8_keys : MethodName := ⟨RX8, "keys", "(I)I"⟩
abbrev cX8_guests : ByteArray := prog_10_method_54_code
def yX8_guests : MethodName := ⟨RX8, "guests", "()I"⟩
abbrev cX8_roads : ByteArray := prog_10_method_55_code
def yX8_roads : MethodName := ⟨RX8, "roads", "()V"⟩
abbrev cX8_takes : ByteArray := prog_10_method_56_code
def yX8_takes : MethodName := ⟨RX8, "takes", "(I)J"⟩
abbrev cX8_oddsNow : ByteArray := prog_10_method_57_code
def yX8_oddsNow : MethodName := ⟨RX8, "oddsNow", "(II)J"⟩
abbrev cX8_odds : ByteArray := prog_10_method_58_code
def yX8_odds : MethodName := ⟨RX8, "odds", "(II)J"⟩
abbrev cX8_meanNow : ByteArray := prog_10_method_59_code
def yX8_meanNow : MethodName := ⟨RX8, "meanNow", "(I)J"⟩
abbrev cX8_mean : ByteArray := prog_10_method_60_code
def yX8_mean : MethodName := ⟨RX8, "mean", "(II)J"⟩
abbrev cX8_sure : ByteArray := prog_10_method_61_code
def yX8_sure : MethodName := ⟨RX8, "sure", "(I)I"⟩
abbrev cX8_meets : ByteArray := prog_10_method_62_code
def yX8_meets : MethodName := ⟨RX8, "meets", "(I)I"⟩
abbrev cX8_isSheet : ByteArray := prog_10_method_63_code
def yX8_isSheet : MethodName := ⟨RX8, "isSheet", "(I)Z"⟩
abbrev cX8_sheet : ByteArray := prog_10_method_64_code
def yX8_sheet : MethodName := ⟨RX8, "sheet", "(III)I"⟩
abbrev cX8_lose : ByteArray := prog_10_method_65_code
def yX8_lose : MethodName := ⟨RX8, "lose", "(I)I"⟩
abbrev cX8_lacks : ByteArray := prog_10_method_66_code
def yX8_lacks : MethodName := ⟨RX8, "lacks", "(III)I"⟩
abbrev cX8_keep : ByteArray := prog_10_method_67_code
def yX8_keep : MethodName := ⟨RX8, "keep", "(III)V"⟩
abbrev cX8_put : ByteArray := prog_10_method_68_code
def yX8_put : MethodName := ⟨RX8, "put", "(IIII)I"⟩
abbrev cX8_get : ByteArray := prog_10_method_69_code
def yX8_get : MethodName := ⟨RX8, "get", "(III)I"⟩
abbrev cX8_copy : ByteArray := prog_10_method_70_code
def yX8_copy : MethodName := ⟨RX8, "copy", "(IIIII)I"⟩
abbrev cX8_write : ByteArray := prog_10_method_71_code
def yX8_write : MethodName := ⟨RX8, "write", "(I)I"⟩
abbrev cX8_sumOf : ByteArray := prog_10_method_72_code
def yX8_sumOf : MethodName := ⟨RX8, "sumOf", "(I)I"⟩
abbrev cX8_count : ByteArray := prog_10_method_73_code
def yX8_count : MethodName := ⟨RX8, "count", "(I)I"⟩
abbrev cX8_digest : ByteArray := prog_10_method_74_code
def yX8_digest : MethodName := ⟨RX8, "digest", "()J"⟩
def RJ6 : String := "java/lang/Integer"
def TJ6 : u_T := fun k => match k with
  | _ => ("", "", "", false)
def tyJ6 : Nat → FieldType := fun k => match k with
  | _ => .int
theorem nmJ6 : ∀ a, a < 0 → ∀ b, b < 0 → a ≠ b → (TJ6 a).2.1 ≠ (TJ6 b).2.1 := by decide +kernel
theorem tyJ6_ok : ∀ k, k < 0 → parseFieldDescriptor (TJ6 k).2.2.1 = some (tyJ6 k) := by decide +kernel
abbrev cJ6_bitCount_0f7a4 : ByteArray := prog_11_method_49_code
def yJ6_bitCount_0f7a4 : MethodName := ⟨RJ6, "bitCount", "(I)I"⟩
def RJ9 : String := "java/lang/Math"
def TJ9 : u_T := fun k => match k with
  | _ => ("", "", "", false)
def tyJ9 : Nat → FieldType := fun k => match k with
  | _ => .int
theorem nmJ9 : ∀ a, a < 0 → ∀ b, b < 0 → a ≠ b → (TJ9 a).2.1 ≠ (TJ9 b).2.1 := by decide +kernel
theorem tyJ9_ok : ∀ k, k < 0 → parseFieldDescriptor (TJ9 k).2.2.1 = some (tyJ9 k) := by decide +kernel
abbrev cJ9_abs_0f7a4 : ByteArray := prog_12_method_59_code
def yJ9_abs_0f7a4 : MethodName := ⟨RJ9, "abs", "(I)I"⟩
abbrev cJ9_max_7cf53 : ByteArray := prog_12_method_65_code
def yJ9_max_7cf53 : MethodName := ⟨RJ9, "max", "(II)I"⟩
abbrev cJ9_min_7cf53 : ByteArray := prog_12_method_69_code
def yJ9_min_7cf53 : MethodName := ⟨RJ9, "min", "(II)I"⟩
def RJ10 : String := "java/lang/System"
def TJ10 : u_T := fun k => match k with
  | _ => ("", "", "", false)
def tyJ10 : Nat → FieldType := fun k => match k with
  | _ => .int
theorem nmJ10 : ∀ a, a < 0 → ∀ b, b < 0 → a ≠ b → (TJ10 a).2.1 ≠ (TJ10 b).2.1 := by decide +kernel
theorem tyJ10_ok : ∀ k, k < 0 → parseFieldDescriptor (TJ10 k).2.2.1 = some (tyJ10 k) := by decide +kernel
def RL : String := "HallMinutesLaw"
abbrev cL_law : ByteArray := code
def yL_law : MethodName := ⟨RL, "law", "([I)Z"⟩
end
section
-- the classes of the world, its cells (objects: class, slots: -1 an int, -2 a boolean, k a reference to cell k; arrays: kind 0 int, 1 boolean, 2 long, 3 rows; length; first row)
def wtb : List Cond := lw_tbl.filter goodWord
theorem wt {w : Cond} (h : w ∈ lw_tbl) (g : goodWord w = true) : w ∈ wtb := List.mem_filter.mpr ⟨h, g⟩
abbrev classes : List vw_C := [(RX0, TX0, 4), (RX1, TX1, 15), (RX2, TX2, 4), (RX3, TX3, 2), (RX4, TX4, 13), (RX5, TX5, 4), (RX6, TX6, 5), (RX7, TX7, 8), (RX8, TX8, 50)]
def NC : Nat := 78
def shl : List ((Nat × List Int) ⊕ (Nat × Nat × Nat)) := [.inl (7, [1, 10, 16, 25, 34, 37, 40, 41]), .inl (0, [-1, 2, 3, 4]), .inr (0, 8, 0), .inr (0, 8, 0), .inr (3, 5, 5), .inr (0, 8, 0), .inr (0, 8, 0), .inr (0, 8, 0), .inr (0, 8, 0), .inr (0, 8, 0), .inl (4, [-1, -1, 11, -1, -1, 12, 13, 14, 15, -1, -2, -1, -1]), .inr (0, 40, 0), .inr (0, 20, 0), .inr (1, 20, 0), .inr (0, 20, 0), .inr (0, 20, 0), .inl (1, [17, 18, 19, 20, -1, -1, 1, 10, 21, -1, 22, -1, 23, -1, 24]), .inr (0, 3, 0), .inr (0, 8, 0), .inr (0, 8, 0), .inr (0, 8, 0), .inr (0, 8, 0), .inr (0, 8, 0), .inr (0, 8, 0), .inr (0, 8, 0), .inl (1, [26, 27, 28, 29, -1, -1, 1, 10, 30, -1, 31, -1, 32, -1, 33]), .inr (0, 3, 0), .inr (0, 8, 0), .inr (0, 8, 0), .inr (0, 8, 0), .inr (0, 8, 0), .inr (0, 8, 0), .inr (0, 8, 0), .inr (0, 8, 0), .inl (2, [25, 35, -1, 36]), .inr (0, 13, 0), .inr (0, 8, 0), .inl (6, [38, -1, -1, 25, 39]), .inr (0, 61, 0), .inr (2, 61, 0), .inl (3, [1, 25]), .inl (5, [42, 47, 48, -1]), .inr (3, 4, 43), .inr (0, 64, 0), .inr (0, 64, 0), .inr (0, 64, 0), .inr (0, 64, 0), .inr (0, 4, 0), .inr (0, 4, 0), .inl (8, [-1, 50, 51, 52, 53, 54, 55, 56, 57, -1, -1, -1, -1, 58, -2, -1, -1, -1, 59, 60, 61, 62, -1, -1, -1, -1, -1, -1, 63, 64, -1, -1, 65, 66, 67, -1, -1, 68, -1, 69, 70, 71, -1, 72, 73, 74, 75, 76, 77, -1]), .inr (0, 8, 0), .inr (0, 8, 0), .inr (0, 8, 0), .inr (0, 8, 0), .inr (0, 8, 0), .inr (0, 8, 0), .inr (0, 8, 0), .inr (0, 8, 0), .inr (0, 40, 0), .inr (0, 40, 0), .inr (0, 40, 0), .inr (1, 40, 0), .inr (0, 8, 0), .inr (0, 8, 0), .inr (0, 8, 0), .inr (0, 8, 0), .inr (0, 6591, 0), .inr (0, 2197, 0), .inr (0, 3, 0), .inr (0, 488, 0), .inr (0, 61, 0), .inr (0, 8, 0), .inr (0, 8, 0), .inr (1, 4, 0), .inr (0, 4, 0), .inr (0, 4, 0), .inr (0, 256, 0), .inr (0, 64, 0)]
def shp (c : Nat) : (Nat × List Int) ⊕ (Nat × Nat × Nat) := shl.getD c (.inr (0, 0, 0))
theorem inTX0 : ∀ w ∈ u_ws RX0 TX0 4, w ∈ lw_tbl ∧ goodWord w = true := by decide +kernel
theorem inTX1 : ∀ w ∈ u_ws RX1 TX1 15, w ∈ lw_tbl ∧ goodWord w = true := by decide +kernel
theorem inTX2 : ∀ w ∈ u_ws RX2 TX2 4, w ∈ lw_tbl ∧ goodWord w = true := by decide +kernel
theorem inTX3 : ∀ w ∈ u_ws RX3 TX3 2, w ∈ lw_tbl ∧ goodWord w = true := by decide +kernel
theorem inTX4 : ∀ w ∈ u_ws RX4 TX4 13, w ∈ lw_tbl ∧ goodWord w = true := by decide +kernel
theorem inTX5 : ∀ w ∈ u_ws RX5 TX5 4, w ∈ lw_tbl ∧ goodWord w = true := by decide +kernel
theorem inTX6 : ∀ w ∈ u_ws RX6 TX6 5, w ∈ lw_tbl ∧ goodWord w = true := by decide +kernel
theorem inTX7 : ∀ w ∈ u_ws RX7 TX7 8, w ∈ lw_tbl ∧ goodWord w = true := by decide +kernel
theorem inTX8 : ∀ w ∈ u_ws RX8 TX8 50, w ∈ lw_tbl ∧ goodWord w = true := by decide +kernel
def tyOf (ci : Nat) : Nat → FieldType := match ci with
  | 0 => tyX0
  | 1 => tyX1
  | 2 => tyX2
  | 3 => tyX3
  | 4 => tyX4
  | 5 => tyX5
  | 6 => tyX6
  | 7 => tyX7
  | _ => tyX8
theorem cls_in (ci : Nat) (q : vw_C) (h : classes[ci]? = some q) : (∀ w ∈ u_ws q.1 q.2.1 q.2.2, w ∈ wtb) ∧ (∀ k, k < q.2.2 → parseFieldDescriptor (q.2.1 k).2.2.1 = some (tyOf ci k)) ∧ (∀ a, a < q.2.2 → ∀ b, b < q.2.2 → a ≠ b → (q.2.1 a).2.1 ≠ (q.2.1 b).2.1) := by
  match ci, h with
  | 0, h => cases h; exact ⟨fun w h => wt (inTX0 w h).1 (inTX0 w h).2, tyX0_ok, nmX0⟩
  | 1, h => cases h; exact ⟨fun w h => wt (inTX1 w h).1 (inTX1 w h).2, tyX1_ok, nmX1⟩
  | 2, h => cases h; exact ⟨fun w h => wt (inTX2 w h).1 (inTX2 w h).2, tyX2_ok, nmX2⟩
  | 3, h => cases h; exact ⟨fun w h => wt (inTX3 w h).1 (inTX3 w h).2, tyX3_ok, nmX3⟩
  | 4, h => cases h; exact ⟨fun w h => wt (inTX4 w h).1 (inTX4 w h).2, tyX4_ok, nmX4⟩
  | 5, h => cases h; exact ⟨fun w h => wt (inTX5 w h).1 (inTX5 w h).2, tyX5_ok, nmX5⟩
  | 6, h => cases h; exact ⟨fun w h => wt (inTX6 w h).1 (inTX6 w h).2, tyX6_ok, nmX6⟩
  | 7, h => cases h; exact ⟨fun w h => wt (inTX7 w h).1 (inTX7 w h).2, tyX7_ok, nmX7⟩
  | 8, h => cases h; exact ⟨fun w h => wt (inTX8 w h).1 (inTX8 w h).2, tyX8_ok, nmX8⟩
  | k + 9, h => simp [classes] at h
end
section
-- THE ABSTRACT MACHINE: values are (tag, integer): 0 int, 1 long, 2 reference to a cell of the world, 3 nothing known; memory: cell, slot -> integer
abbrev AV : Type := Nat × Int
abbrev Mem : Type := Nat → Nat → Int
abbrev okI (z : Int) : Prop := -2147483648 ≤ z ∧ z ≤ 2147483647
abbrev okL (z : Int) : Prop := -9223372036854775808 ≤ z ∧ z ≤ 9223372036854775807
def w32 (z : Int) : Int := (Int32.ofInt z).toInt
def w64 (z : Int) : Int := (Int64.ofInt z).toInt
theorem okI_of (x : Int32) : okI x.toInt := by
  have h1 := Int32.le_toInt x; have h2 := Int32.toInt_lt x
  constructor <;> omega
theorem okL_of (x : Int64) : okL x.toInt := by
  have h1 := Int64.le_toInt x; have h2 := Int64.toInt_lt x
  constructor <;> omega
theorem i32_toInt {z : Int} (h : okI z) : (Int32.ofInt z).toInt = z := Int32.toInt_ofInt_of_le (by omega) (by omega)
theorem i64_toInt {z : Int} (h : okL z) : (Int64.ofInt z).toInt = z := Int64.toInt_ofInt_of_le (by omega) (by omega)
theorem w32_ok (z : Int) : okI (w32 z) := okI_of _
theorem w64_ok (z : Int) : okL (w64 z) := okL_of _
theorem w32_id {z : Int} (h : okI z) : w32 z = z := i32_toInt h
theorem w64_id {z : Int} (h : okL z) : w64 z = z := i64_toInt h
theorem i32_w (z : Int) : Int32.ofInt (w32 z) = Int32.ofInt z := by unfold w32; exact Int32.ofInt_toInt _
theorem i64_w (z : Int) : Int64.ofInt (w64 z) = Int64.ofInt z := by unfold w64; exact Int64.ofInt_toInt _
theorem i32_back (x : Int32) : Int32.ofInt x.toInt = x := Int32.ofInt_toInt _
theorem i64_back (x : Int64) : Int64.ofInt x.toInt = x := Int64.ofInt_toInt _
theorem i32_eq {a b : Int} (ha : okI a) (hb : okI b) : Int32.ofInt a = Int32.ofInt b ↔ a = b := by
  constructor
  · intro h; rw [← i32_toInt ha, ← i32_toInt hb, h]
  · intro h; rw [h]
theorem i32_lt {a b : Int} (ha : okI a) (hb : okI b) : Int32.ofInt a < Int32.ofInt b ↔ a < b := by
  rw [Int32.lt_iff_toInt_lt, i32_toInt ha, i32_toInt hb]
theorem i32_le {a b : Int} (ha : okI a) (hb : okI b) : Int32.ofInt a ≤ Int32.ofInt b ↔ a ≤ b := by
  rw [Int32.le_iff_toInt_le, i32_toInt ha, i32_toInt hb]
theorem i32_clamp {a : Int} (ha : okI a) (h0 : 0 ≤ a) : (Int32.ofInt a).toNatClampNeg = a.toNat := by
  show (Int32.ofInt a).toInt.toNat = a.toNat
  rw [i32_toInt ha]
theorem i32_in {a : Int} {n : Nat} (ha : okI a) (h0 : 0 ≤ a) (hn : a < n) : vp_in (Int32.ofInt a) n := by
  rw [vp_in_iff, i32_toInt ha]; exact ⟨h0, hn⟩
def okv (v : AV) : Prop := (v.1 = 0 → okI v.2) ∧ (v.1 = 1 → okL v.2)
def cv (ad : Nat → Nat) (v : AV) : Value := match v.1 with
  | 0 => .int (Int32.ofInt v.2)
  | 1 => .long (Int64.ofInt v.2)
  | _ => .ref (ad v.2.toNat)
theorem okv0 {z : Int} (h : okI z) : okv (0, z) := ⟨fun _ => h, (fun h => by cases h)⟩
theorem okv1 {z : Int} (h : okL z) : okv (1, z) := ⟨(fun h => by cases h), fun _ => h⟩
theorem okv2 {z : Int} : okv (2, z) := ⟨(fun h => by cases h), (fun h => by cases h)⟩
theorem okv0' {z : Int} (h : okv (0, z)) : okI z := h.1 rfl
theorem okv1' {z : Int} (h : okv (1, z)) : okL z := h.2 rfl
def cv_cat (v : AV) : Nat := match v.1 with
  | 1 => 2
  | _ => 1
theorem cv_category (ad : Nat → Nat) (v : AV) : (cv ad v).category = cv_cat v := by
  unfold cv cv_cat
  obtain ⟨t, z⟩ := v
  match t with
  | 0 => rfl
  | 1 => rfl
  | t + 2 => rfl
-- one row of memory changed; one slot changed
def rset (mem : Mem) (c : Nat) (r : Nat → Int) : Mem := fun c' => if c' = c then r else mem c'
def uset (f : Nat → Int) (j : Nat) (v : Int) : Nat → Int := fun j' => if j' = j then v else f j'
def mset (mem : Mem) (c j : Nat) (v : Int) : Mem := rset mem c (uset (mem c) j v)
theorem rset_eq (mem : Mem) (c : Nat) (r : Nat → Int) : rset mem c r c = r := if_pos rfl
theorem rset_ne (mem : Mem) (c : Nat) (r : Nat → Int) {c' : Nat} (h : c' ≠ c) : rset mem c r c' = mem c' := if_neg h
-- a field's value, a cell's entry
def fv (ad : Nat → Nat) (r : Nat → Int) (j : Nat) (k : Int) : Value := if k < 0 then .int (Int32.ofInt (r j)) else .ref (ad k.toNat)
def arE (ad : Nat → Nat) (t n b : Nat) (r : Nat → Int) : (Nat → Int32) ⊕ (Nat → Int64) ⊕ (Nat → UInt32) ⊕ (Nat → UInt64) ⊕ (Nat → Option Nat) := match t with
  | 2 => .inr (.inl (fun j => Int64.ofInt (r j)))
  | 3 => .inr (.inr (.inr (.inr (fun j => if j < n then some (ad (b + j)) else none))))
  | _ => .inl (fun j => Int32.ofInt (r j))
def ceE (ad : Nat → Nat) (cA : Nat → ClassId) (c : Nat) (r : Nat → Int) : va_E := match shp c with
  | .inl (ci, ks) => .inr (ci, ks.zipIdx.map (fun q => fv ad r q.2 q.1))
  | .inr (t, n, b) => .inl (cA t, n, arE ad t n b r)
def wsOf (ad : Nat → Nat) (cA : Nat → ClassId) (mem : Mem) : va_W := (List.range NC).map (fun c => (ad c, ceE ad cA c (mem c)))
theorem ws_get {ad : Nat → Nat} {cA : Nat → ClassId} {mem : Mem} {c : Nat} (h : c < NC) : (wsOf ad cA mem)[c]? = some (ad c, ceE ad cA c (mem c)) := by
  unfold wsOf
  rw [List.getElem?_map, List.getElem?_range h]; rfl
theorem ws_set {ad : Nat → Nat} {cA : Nat → ClassId} {mem : Mem} {c : Nat} {r : Nat → Int} {E : va_E} (hE : ceE ad cA c r = E) : (wsOf ad cA mem).set c (ad c, E) = wsOf ad cA (rset mem c r) := by
  apply List.ext_getElem?
  intro i
  unfold wsOf
  rw [List.getElem?_set]
  by_cases hi : c = i
  · subst hi
    rw [if_pos rfl, List.length_map, List.length_range]
    by_cases hc : c < NC
    · rw [if_pos hc, List.getElem?_map, List.getElem?_range hc]
      simp [rset_eq, hE]
    · rw [if_neg hc, List.getElem?_map, List.getElem?_eq_none (by simpa using hc)]; rfl
  · rw [if_neg hi, List.getElem?_map, List.getElem?_map]
    by_cases hc : i < NC
    · rw [List.getElem?_range hc]
      simp [rset_ne mem c r (Ne.symm hi)]
    · rw [List.getElem?_eq_none (by simpa using hc)]; rfl
-- the launch, the classes' numbers, the cells' addresses, the array classes
abbrev Gm : Type := Launch × va_G × (Nat → Nat) × (Nat → ClassId)
abbrev Gm.ad (G : Gm) : Nat → Nat := G.2.2.1
abbrev Gm.cA (G : Gm) : Nat → ClassId := G.2.2.2
-- a method: name, code, locals, answer, frames and locals' words below it
abbrev Mt : Type := MethodName × ByteArray × Nat × Option FieldType × Nat × Nat
def wds (M : Mt) : List Cond := Cond.code M.1 M.2.1 M.2.2.1 M.2.2.2.1 :: wtb
def rmM (M : Mt) : Room := { frames := M.2.2.2.2.1, cells := 0, slots := 0, locals := M.2.2.2.2.2 }
def tysG (G : Gm) : List (ClassId × FieldType) := [(G.cA 0, .int), (G.cA 1, .boolean), (G.cA 2, .long), (G.cA 3, .array .int)]
def AA (G : Gm) : Nat → Prop := fun q => ∃ k, k < NC ∧ G.ad k = q
def okr (c : Nat) (r : Nat → Int) : Prop := ∀ j, (shp c).elim (fun _ => okI (r j)) (fun q => if q.1 = 2 then okL (r j) else okI (r j))
def okm (mem : Mem) : Prop := ∀ c, okr c (mem c)
def Wd (G : Gm) (mem : Mem) (U : State) (H : Heap) : Prop := va_P G.2.1 classes (wsOf G.ad G.cA mem) H ∧ va_K G.2.1 classes (tysG G) U ∧ va_D (AA G) (wsOf G.ad G.cA mem) ∧ okm mem
-- the static rows: COST_AT_FIRST, COST_LEAST, COST_MOST, TERM_MOST
def stN (k : Nat) : String := match k with
  | 0 => "COST_AT_FIRST"
  | 1 => "COST_LEAST"
  | 2 => "COST_MOST"
  | _ => "TERM_MOST"
def stV (k : Nat) : List Int := match k with
  | 0 => [1, 1, 100, 0, 5]
  | 1 => [0, 0, 0, 0, 1]
  | 2 => [99, 99, 999, 15, 30]
  | _ => [59, 99, 99]
def Sta (G : Gm) (U : State) (H : Heap) : Prop := ∀ k, k < 4 → va_Z "HallMinutes" (stN k) "[I" (.ref (G.ad (NC + k))) (AA G) U H ∧ va_T .int (G.ad (NC + k)) (stV k).length (fun j => .int (Int32.ofInt ((stV k).getD j 0))) (AA G) U H
def Qc (G : Gm) (Q : Option AV → Mem → Prop) : Array Value → State → Outcome → State → Prop := fun _ st oc t => (∃ (r : Option AV) (mem' : Mem), oc = .returned (r.map (cv G.ad)) ∧ (∀ v, r = some v → okv v) ∧ Q r mem' ∧ Wd G mem' t t.heap) ∧ va_F (AA G) st t
def Con (G : Gm) (M : Mt) (as : List AV) (mem : Mem) (Q : Option AV → Mem → Prop) : Prop :=
  (∀ v ∈ as, okv v) → Met G.1 M.1 (wds M) (rmM M) (va_Pc (as.map (cv G.ad)) (fun U => Wd G mem U U.heap ∧ Sta G U U.heap)) (Qc G Q) 0 0 (AA G)
def Lh (G : Gm) (n : Nat) (lo : List AV) (ls : Array Slot) : Prop := ls.size = n ∧ lv_wf ls ∧ lo.length = n ∧ ∀ (i : Nat) (v : AV), lo[i]? = some v → v.1 ≠ 3 → okv v ∧ ls[i]? = some (.val (cv G.ad v))
def Cx (M : Mt) (p : Program) (s : State) (m : MethodId) (args : Array Value) (meth : Method) (c : Code) : Prop :=
  p.tables.exec = Jvm.exec ∧ c.code = M.2.1 ∧ meth.sig.returnType = M.2.2.2.1 ∧ c.maxLocals = M.2.2.1 ∧ s.vm.findClass M.1.cls = some m.cls ∧ (∀ w ∈ wds M, w.before args s = true) ∧ meth.locks = false
def Ev (G : Gm) (M : Mt) (Q : Option AV → Mem → Prop) (pc : Nat) (lo st : List AV) (mem : Mem) : Prop :=
  ∀ (p : Program) (e : Env) (s : State) (m : MethodId) (args : Array Value) (below : List Frame) (meth : Method) (c : Code) (H : Heap) (locs : List Loc) (ls : Array Slot),
    Cx M p s m args meth c → Wd G mem s H → va_S (AA G) s.heap H locs → Sta G s s.heap → Lh G M.2.2.1 lo ls → (∀ v ∈ st, okv v) →
    W p G.1 e (rmM M) s m args below meth c H locs 0 0 (MQ below (Qc G Q) args s 0 0 (AA G)) (F0 m pc ls (st.map (cv G.ad)))
end
section
section MRows
variable {G : Gm} {M : Mt} {Q : Option AV → Mem → Prop} {pc : Nat} {lo st : List AV} {mem : Mem}
theorem st1 {v : AV} (h : ∀ x ∈ v :: st, okv x) : okv v ∧ ∀ x ∈ st, okv x := List.forall_mem_cons.mp h
theorem st2 {v u : AV} (h : ∀ x ∈ v :: u :: st, okv x) : okv v ∧ okv u ∧ ∀ x ∈ st, okv x := ⟨(List.forall_mem_cons.mp h).1, List.forall_mem_cons.mp (List.forall_mem_cons.mp h).2⟩
theorem st3 {v u t : AV} (h : ∀ x ∈ v :: u :: t :: st, okv x) : okv v ∧ okv u ∧ okv t ∧ ∀ x ∈ st, okv x := ⟨(st2 h).1, (st2 h).2.1, List.forall_mem_cons.mp (st2 h).2.2⟩
theorem stp {v : AV} (h : okv v) (h2 : ∀ x ∈ st, okv x) : ∀ x ∈ v :: st, okv x := List.forall_mem_cons.mpr ⟨h, h2⟩
theorem e_iconst {n : Int} (hd : decode M.2.1 pc = .ok (.iconst n, 1)) (hn : okI n) (k : Ev G M Q (pc + 1) lo ((0, n) :: st) mem) : Ev G M Q pc lo st mem := by
  intro p e s m args below meth c H locs ls C hW hS hT hL hst
  exact lv_iconst C.1 C.2.1 hd rfl (k p e s m args below meth c H locs ls C hW hS hT hL (stp (okv0 hn) hst))
theorem e_bipush {n : Int} (hd : decode M.2.1 pc = .ok (.bipush n, 2)) (hv : (Int8.ofInt n).toInt32 = Int32.ofInt n) (hn : okI n) (k : Ev G M Q (pc + 2) lo ((0, n) :: st) mem) : Ev G M Q pc lo st mem := by
  intro p e s m args below meth c H locs ls C hW hS hT hL hst
  exact lv_bipush C.1 C.2.1 hd hv (k p e s m args below meth c H locs ls C hW hS hT hL (stp (okv0 hn) hst))
theorem e_sipush {n : Int} (hd : decode M.2.1 pc = .ok (.sipush n, 3)) (hv : (Int16.ofInt n).toInt32 = Int32.ofInt n) (hn : okI n) (k : Ev G M Q (pc + 3) lo ((0, n) :: st) mem) : Ev G M Q pc lo st mem := by
  intro p e s m args below meth c H locs ls C hW hS hT hL hst
  exact lv_sipush C.1 C.2.1 hd hv (k p e s m args below meth c H locs ls C hW hS hT hL (stp (okv0 hn) hst))
theorem e_lconst {n : Fin 2} {z : Int} (hd : decode M.2.1 pc = .ok (.lconst n, 1)) (hv : Int64.ofNat (n : Nat) = Int64.ofInt z) (hn : okL z) (k : Ev G M Q (pc + 1) lo ((1, z) :: st) mem) : Ev G M Q pc lo st mem := by
  intro p e s m args below meth c H locs ls C hW hS hT hL hst
  exact lv_lconst C.1 C.2.1 hd hv (k p e s m args below meth c H locs ls C hW hS hT hL (stp (okv1 hn) hst))
theorem e_ldc {ix : Nat} {z : Int} (hd : decode M.2.1 pc = .ok (.ldc ix, 2)) (hc : Cond.constant M.1.cls ix (Int32.ofInt z) ∈ wtb) (hn : okI z) (k : Ev G M Q (pc + 2) lo ((0, z) :: st) mem) : Ev G M Q pc lo st mem := by
  intro p e s m args below meth c H locs ls C hW hS hT hL hst
  exact lv_ldc C.1 C.2.1 C.2.2.2.2.1 (C.2.2.2.2.2.1 _ (List.mem_cons_of_mem _ hc)) hd (k p e s m args below meth c H locs ls C hW hS hT hL (stp (okv0 hn) hst))
theorem e_ldcw {ix : Nat} {z : Int} (hd : decode M.2.1 pc = .ok (.ldc_w ix, 3)) (hc : Cond.constant M.1.cls ix (Int32.ofInt z) ∈ wtb) (hn : okI z) (k : Ev G M Q (pc + 3) lo ((0, z) :: st) mem) : Ev G M Q pc lo st mem := by
  intro p e s m args below meth c H locs ls C hW hS hT hL hst
  exact lv_ldcw C.1 C.2.1 C.2.2.2.2.1 (C.2.2.2.2.2.1 _ (List.mem_cons_of_mem _ hc)) hd (k p e s m args below meth c H locs ls C hW hS hT hL (stp (okv0 hn) hst))
theorem e_ldc2 {ix : Nat} {z : Int} (hd : decode M.2.1 pc = .ok (.ldc2_w ix, 3)) (hc : Cond.constantLong M.1.cls ix (Int64.ofInt z) ∈ wtb) (hn : okL z) (k : Ev G M Q (pc + 3) lo ((1, z) :: st) mem) : Ev G M Q pc lo st mem := by
  intro p e s m args below meth c H locs ls C hW hS hT hL hst
  exact lv_ldc2 C.1 C.2.1 C.2.2.2.2.1 (C.2.2.2.2.2.1 _ (List.mem_cons_of_mem _ hc)) hd (k p e s m args below meth c H locs ls C hW hS hT hL (stp (okv1 hn) hst))
theorem e_iloadn {kf : Fin 4} {i : Nat} {z : Int} (hd : decode M.2.1 pc = .ok (.iload_n kf, 1)) (hi : (kf : Nat) = i) (hl : lo[i]? = some (0, z)) (k : Ev G M Q (pc + 1) lo ((0, z) :: st) mem) : Ev G M Q pc lo st mem := by
  intro p e s m args below meth c H locs ls C hW hS hT hL hst
  have h9 := hL.2.2.2 i _ hl (by simp)
  exact lv_iload_n C.1 C.2.1 hd hi h9.2 (k p e s m args below meth c H locs ls C hW hS hT hL (stp h9.1 hst))
theorem e_iload {i : Nat} {z : Int} (hd : decode M.2.1 pc = .ok (.iload i, 2)) (hl : lo[i]? = some (0, z)) (k : Ev G M Q (pc + 2) lo ((0, z) :: st) mem) : Ev G M Q pc lo st mem := by
  intro p e s m args below meth c H locs ls C hW hS hT hL hst
  have h9 := hL.2.2.2 i _ hl (by simp)
  exact lv_iload C.1 C.2.1 hd h9.2 (k p e s m args below meth c H locs ls C hW hS hT hL (stp h9.1 hst))
theorem e_lloadn {kf : Fin 4} {i : Nat} {z : Int} (hd : decode M.2.1 pc = .ok (.lload_n kf, 1)) (hi : (kf : Nat) = i) (hl : lo[i]? = some (1, z)) (k : Ev G M Q (pc + 1) lo ((1, z) :: st) mem) : Ev G M Q pc lo st mem := by
  intro p e s m args below meth c H locs ls C hW hS hT hL hst
  have h9 := hL.2.2.2 i _ hl (by simp)
  exact lv_lload_n C.1 C.2.1 hd hi h9.2 (k p e s m args below meth c H locs ls C hW hS hT hL (stp h9.1 hst))
theorem e_lload {i : Nat} {z : Int} (hd : decode M.2.1 pc = .ok (.lload i, 2)) (hl : lo[i]? = some (1, z)) (k : Ev G M Q (pc + 2) lo ((1, z) :: st) mem) : Ev G M Q pc lo st mem := by
  intro p e s m args below meth c H locs ls C hW hS hT hL hst
  have h9 := hL.2.2.2 i _ hl (by simp)
  exact lv_lload C.1 C.2.1 hd h9.2 (k p e s m args below meth c H locs ls C hW hS hT hL (stp h9.1 hst))
theorem e_aloadn {kf : Fin 4} {i : Nat} {z : Int} (hd : decode M.2.1 pc = .ok (.aload_n kf, 1)) (hi : (kf : Nat) = i) (hl : lo[i]? = some (2, z)) (k : Ev G M Q (pc + 1) lo ((2, z) :: st) mem) : Ev G M Q pc lo st mem := by
  intro p e s m args below meth c H locs ls C hW hS hT hL hst
  have h9 := hL.2.2.2 i _ hl (by simp)
  exact lv_aload_n C.1 C.2.1 hd hi h9.2 (k p e s m args below meth c H locs ls C hW hS hT hL (stp h9.1 hst))
theorem e_aload {i : Nat} {z : Int} (hd : decode M.2.1 pc = .ok (.aload i, 2)) (hl : lo[i]? = some (2, z)) (k : Ev G M Q (pc + 2) lo ((2, z) :: st) mem) : Ev G M Q pc lo st mem := by
  intro p e s m args below meth c H locs ls C hW hS hT hL hst
  have h9 := hL.2.2.2 i _ hl (by simp)
  exact lv_aload C.1 C.2.1 hd h9.2 (k p e s m args below meth c H locs ls C hW hS hT hL (stp h9.1 hst))
/-- no long lies just below place i -/
def nlb (lo : List AV) (i : Nat) : Bool := i == 0 || (lo.getD (i - 1) (3, 0)).1 != 1
def lvOf (ad : Nat → Nat) (lo : List AV) : List (Nat × Value) := (lo.zipIdx.filter (fun q => q.1.1 != 3)).map (fun q => (q.2, cv ad q.1))
theorem lvOf_mem {ad : Nat → Nat} {i : Nat} {v : AV} (h : lo[i]? = some v) (h3 : v.1 ≠ 3) : (i, cv ad v) ∈ lvOf ad lo := by
  unfold lvOf
  refine List.mem_map.mpr ⟨(v, i), List.mem_filter.mpr ⟨?_, by simpa using h3⟩, rfl⟩
  exact List.mk_mem_zipIdx_iff_getElem?.mpr h
theorem lvOf_has {n : Nat} {ls : Array Slot} (h : Lh G n lo ls) : lv_has ls n (lvOf G.ad lo) := by
  refine ⟨h.1, h.2.1, fun q hq => ?_⟩
  obtain ⟨x, hx, rfl⟩ := List.mem_map.mp hq
  obtain ⟨hx1, hx2⟩ := List.mem_filter.mp hx
  exact (h.2.2.2 x.2 x.1 (List.mk_mem_zipIdx_iff_getElem?.mp hx1) (by simpa using hx2)).2
theorem Lh_set1 {n i : Nat} {ls ls' : Array Slot} {v : AV} (h : Lh G n lo ls) (hv : okv v) (hn : nlb lo i = true)
    (h' : lv_has ls' n ((i, cv G.ad v) :: (lvOf G.ad lo).filter (fun q => !(q.1 == i) && !(q.1 + 1 == i && q.2.category == 2)))) : Lh G n (lo.set i v) ls' := by
  refine ⟨h'.1, h'.2.1, by rw [List.length_set]; exact h.2.2.1, fun j u hj h3 => ?_⟩
  rw [List.getElem?_set] at hj
  by_cases hij : i = j
  · subst hij
    rw [if_pos rfl] at hj
    split at hj
    · cases hj
      exact ⟨hv, h'.2.2 _ List.mem_cons_self⟩
    · cases hj
  · rw [if_neg hij] at hj
    refine ⟨(h.2.2.2 j u hj h3).1, h'.2.2 (j, cv G.ad u) (List.mem_cons_of_mem _ (List.mem_filter.mpr ⟨lvOf_mem hj h3, ?_⟩))⟩
    have e1 : (j == i) = false := by simpa using fun q => hij q.symm
    rw [e1]
    by_cases e2 : j + 1 = i
    · subst e2
      have : u.1 ≠ 1 := by
        simp [nlb, hj] at hn
        exact hn
      have e3 : ((cv G.ad u).category == 2) = false := by
        rw [cv_category]
        obtain ⟨t, z⟩ := u
        match t, this with
        | 0, _ => rfl
        | t + 2, _ => rfl
      simp [e3]
    · have : (j + 1 == i) = false := by simpa using e2
      simp [this]
theorem Lh_set2 {n i : Nat} {ls ls' : Array Slot} {v : AV} (h : Lh G n lo ls) (hv : okv v) (hn : nlb lo i = true)
    (h' : lv_has ls' n ((i, cv G.ad v) :: (lvOf G.ad lo).filter (fun q => !(q.1 == i) && (!(q.1 == i + 1) && !(q.1 + 1 == i && q.2.category == 2))))) : Lh G n ((lo.set i v).set (i + 1) (3, 0)) ls' := by
  refine ⟨h'.1, h'.2.1, by rw [List.length_set, List.length_set]; exact h.2.2.1, fun j u hj h3 => ?_⟩
  rw [List.getElem?_set] at hj
  by_cases hij1 : i + 1 = j
  · rw [if_pos hij1] at hj
    split at hj
    · cases hj
      exact absurd rfl h3
    · cases hj
  rw [if_neg hij1, List.getElem?_set] at hj
  by_cases hij : i = j
  · subst hij
    rw [if_pos rfl] at hj
    split at hj
    · cases hj
      exact ⟨hv, h'.2.2 _ List.mem_cons_self⟩
    · cases hj
  · rw [if_neg hij] at hj
    refine ⟨(h.2.2.2 j u hj h3).1, h'.2.2 (j, cv G.ad u) (List.mem_cons_of_mem _ (List.mem_filter.mpr ⟨lvOf_mem hj h3, ?_⟩))⟩
    have e1 : (j == i) = false := by simpa using fun q => hij q.symm
    have e0 : (j == i + 1) = false := by simpa using fun q => hij1 q.symm
    rw [e1, e0]
    by_cases e2 : j + 1 = i
    · subst e2
      have : u.1 ≠ 1 := by
        simp [nlb, hj] at hn
        exact hn
      have e3 : ((cv G.ad u).category == 2) = false := by
        rw [cv_category]
        obtain ⟨t, z⟩ := u
        match t, this with
        | 0, _ => rfl
        | t + 2, _ => rfl
      simp [e3]
    · have : (j + 1 == i) = false := by simpa using e2
      simp [this]
theorem e_istoren {kf : Fin 4} {i : Nat} {z : Int} {lo' : List AV} (hd : decode M.2.1 pc = .ok (.istore_n kf, 1)) (hi : (kf : Nat) = i) (hs : lo.set i (0, z) = lo') (hm : i < M.2.2.1) (hn : nlb lo i = true) (k : Ev G M Q (pc + 1) lo' st mem) : Ev G M Q pc lo ((0, z) :: st) mem := by
  intro p e s m args below meth c H locs ls C hW hS hT hL hst
  obtain ⟨hv, hst⟩ := st1 hst
  subst hs
  exact lv_istore_n C.1 C.2.1 hd hi (lvOf_has hL) hm rfl (fun ls2 h2 => k p e s m args below meth c H locs ls2 C hW hS hT (Lh_set1 (v := (0, z)) hL hv hn h2) hst)
theorem e_istore {i : Nat} {z : Int} {lo' : List AV} (hd : decode M.2.1 pc = .ok (.istore i, 2)) (hs : lo.set i (0, z) = lo') (hm : i < M.2.2.1) (hn : nlb lo i = true) (k : Ev G M Q (pc + 2) lo' st mem) : Ev G M Q pc lo ((0, z) :: st) mem := by
  intro p e s m args below meth c H locs ls C hW hS hT hL hst
  obtain ⟨hv, hst⟩ := st1 hst
  subst hs
  exact lv_istore C.1 C.2.1 hd (lvOf_has hL) hm rfl (fun ls2 h2 => k p e s m args below meth c H locs ls2 C hW hS hT (Lh_set1 (v := (0, z)) hL hv hn h2) hst)
theorem e_astoren {kf : Fin 4} {i : Nat} {z : Int} {lo' : List AV} (hd : decode M.2.1 pc = .ok (.astore_n kf, 1)) (hi : (kf : Nat) = i) (hs : lo.set i (2, z) = lo') (hm : i < M.2.2.1) (hn : nlb lo i = true) (k : Ev G M Q (pc + 1) lo' st mem) : Ev G M Q pc lo ((2, z) :: st) mem := by
  intro p e s m args below meth c H locs ls C hW hS hT hL hst
  obtain ⟨hv, hst⟩ := st1 hst
  subst hs
  exact lv_astore_n C.1 C.2.1 hd hi (lvOf_has hL) hm rfl (fun ls2 h2 => k p e s m args below meth c H locs ls2 C hW hS hT (Lh_set1 (v := (2, z)) hL hv hn h2) hst)
theorem e_astore {i : Nat} {z : Int} {lo' : List AV} (hd : decode M.2.1 pc = .ok (.astore i, 2)) (hs : lo.set i (2, z) = lo') (hm : i < M.2.2.1) (hn : nlb lo i = true) (k : Ev G M Q (pc + 2) lo' st mem) : Ev G M Q pc lo ((2, z) :: st) mem := by
  intro p e s m args below meth c H locs ls C hW hS hT hL hst
  obtain ⟨hv, hst⟩ := st1 hst
  subst hs
  exact lv_astore C.1 C.2.1 hd (lvOf_has hL) hm rfl (fun ls2 h2 => k p e s m args below meth c H locs ls2 C hW hS hT (Lh_set1 (v := (2, z)) hL hv hn h2) hst)
theorem e_lstoren {kf : Fin 4} {i : Nat} {z : Int} {lo' : List AV} (hd : decode M.2.1 pc = .ok (.lstore_n kf, 1)) (hi : (kf : Nat) = i) (hs : (lo.set i (1, z)).set (i + 1) (3, 0) = lo') (hm : i + 1 < M.2.2.1) (hn : nlb lo i = true) (k : Ev G M Q (pc + 1) lo' st mem) : Ev G M Q pc lo ((1, z) :: st) mem := by
  intro p e s m args below meth c H locs ls C hW hS hT hL hst
  obtain ⟨hv, hst⟩ := st1 hst
  subst hs
  exact lv_lstore_n C.1 C.2.1 hd hi (lvOf_has hL) hm rfl (fun ls2 h2 => k p e s m args below meth c H locs ls2 C hW hS hT (Lh_set2 (v := (1, z)) hL hv hn h2) hst)
theorem e_lstore {i : Nat} {z : Int} {lo' : List AV} (hd : decode M.2.1 pc = .ok (.lstore i, 2)) (hs : (lo.set i (1, z)).set (i + 1) (3, 0) = lo') (hm : i + 1 < M.2.2.1) (hn : nlb lo i = true) (k : Ev G M Q (pc + 2) lo' st mem) : Ev G M Q pc lo ((1, z) :: st) mem := by
  intro p e s m args below meth c H locs ls C hW hS hT hL hst
  obtain ⟨hv, hst⟩ := st1 hst
  subst hs
  exact lv_lstore C.1 C.2.1 hd (lvOf_has hL) hm rfl (fun ls2 h2 => k p e s m args below meth c H locs ls2 C hW hS hT (Lh_set2 (v := (1, z)) hL hv hn h2) hst)
theorem lv_iincA {p : Program} {l : Launch} {e : Env} {R : Room} {s : State} {m : MethodId} {args : Array Value} {below : List Frame} {meth : Method} {c : Code} {H : Heap} {locs : List Loc} {cells slots : Nat} {Q : State → Prop} {cc : ByteArray} {pc : Nat} {ls : Array Slot} {rest : List Value} (hexec : p.tables.exec = Jvm.exec) (hb : c.code = cc) {i nL : Nat} {n : Int} {x v : Int32} {lv : List (Nat × Value)} (hdg : decode cc pc = .ok (.iinc i n, 3)) (h : lv_has ls nL lv) (hk : (i, Value.int x) ∈ lv) (hv : x + Int32.ofInt n = v) (hn : i < nL)
    (kk : ∀ ls' : Array Slot, lv_has ls' nL ((i, Value.int v) :: lv.filter (fun q => !(q.1 == i) && !(q.1 + 1 == i && q.2.category == 2))) → W p l e R s m args below meth c H locs cells slots Q (F0 m (pc + 3) ls' rest)) : W p l e R s m args below meth c H locs cells slots Q (F0 m pc ls rest) := by
  obtain ⟨k, hk⟩ := List.getElem?_of_mem hk
  exact lv_iinc hexec hb hdg h hk hv hn rfl kk
theorem e_iinc {i : Nat} {n z : Int} {lo' : List AV} (hd : decode M.2.1 pc = .ok (.iinc i n, 3)) (hl : lo[i]? = some (0, z)) (ho : okI (z + n)) (hs : lo.set i (0, z + n) = lo') (hm : i < M.2.2.1) (hn : nlb lo i = true) (k : Ev G M Q (pc + 3) lo' st mem) : Ev G M Q pc lo st mem := by
  intro p e s m args below meth c H locs ls C hW hS hT hL hst
  subst hs
  refine lv_iincA C.1 C.2.1 hd (lvOf_has hL) (lvOf_mem hl (by simp)) (v := Int32.ofInt (z + n)) (by rw [Int32.ofInt_add]) hm (fun ls2 h2 => k p e s m args below meth c H locs ls2 C hW hS hT (Lh_set1 (v := (0, z + n)) hL (okv0 ho) hn h2) hst)
theorem e_iadd {a b : Int} (hd : decode M.2.1 pc = .ok (.iadd, 1)) (k : Ev G M Q (pc + 1) lo ((0, w32 (a + b)) :: st) mem) : Ev G M Q pc lo ((0, b) :: (0, a) :: st) mem := by
  intro p e s m args below meth c H locs ls C hW hS hT hL hst
  obtain ⟨hb, ha, hst⟩ := st2 hst
  have hk := k p e s m args below meth c H locs ls C hW hS hT hL (stp (okv0 (w32_ok _)) hst)
  refine lv_iadd C.1 C.2.1 hd ?_
  have e9 : Int32.ofInt (a + b) = Int32.ofInt a + Int32.ofInt b := Int32.ofInt_add a b
  rw [List.map_cons] at hk
  rw [show cv G.ad (0, w32 (a + b)) = .int (Int32.ofInt (a + b)) from by show Value.int _ = _; rw [i32_w]] at hk
  rw [e9] at hk
  exact hk
theorem e_iaddn {a b : Int} (hd : decode M.2.1 pc = .ok (.iadd, 1)) (ho : okI (a + b)) (k : Ev G M Q (pc + 1) lo ((0, a + b) :: st) mem) : Ev G M Q pc lo ((0, b) :: (0, a) :: st) mem := by
  intro p e s m args below meth c H locs ls C hW hS hT hL hst
  have k2 := k
  rw [show a + b = w32 (a + b) from (w32_id ho).symm] at k2
  exact e_iadd hd k2 p e s m args below meth c H locs ls C hW hS hT hL hst
theorem e_isub {a b : Int} (hd : decode M.2.1 pc = .ok (.isub, 1)) (k : Ev G M Q (pc + 1) lo ((0, w32 (a - b)) :: st) mem) : Ev G M Q pc lo ((0, b) :: (0, a) :: st) mem := by
  intro p e s m args below meth c H locs ls C hW hS hT hL hst
  obtain ⟨hb, ha, hst⟩ := st2 hst
  have hk := k p e s m args below meth c H locs ls C hW hS hT hL (stp (okv0 (w32_ok _)) hst)
  refine lv_isub C.1 C.2.1 hd ?_
  have e9 : Int32.ofInt (a - b) = Int32.ofInt a - Int32.ofInt b := Int32.ofInt_sub a b
  rw [List.map_cons] at hk
  rw [show cv G.ad (0, w32 (a - b)) = .int (Int32.ofInt (a - b)) from by show Value.int _ = _; rw [i32_w]] at hk
  rw [e9] at hk
  exact hk
theorem e_isubn {a b : Int} (hd : decode M.2.1 pc = .ok (.isub, 1)) (ho : okI (a - b)) (k : Ev G M Q (pc + 1) lo ((0, a - b) :: st) mem) : Ev G M Q pc lo ((0, b) :: (0, a) :: st) mem := by
  intro p e s m args below meth c H locs ls C hW hS hT hL hst
  have k2 := k
  rw [show a - b = w32 (a - b) from (w32_id ho).symm] at k2
  exact e_isub hd k2 p e s m args below meth c H locs ls C hW hS hT hL hst
theorem e_imul {a b : Int} (hd : decode M.2.1 pc = .ok (.imul, 1)) (k : Ev G M Q (pc + 1) lo ((0, w32 (a * b)) :: st) mem) : Ev G M Q pc lo ((0, b) :: (0, a) :: st) mem := by
  intro p e s m args below meth c H locs ls C hW hS hT hL hst
  obtain ⟨hb, ha, hst⟩ := st2 hst
  have hk := k p e s m args below meth c H locs ls C hW hS hT hL (stp (okv0 (w32_ok _)) hst)
  refine lv_imul C.1 C.2.1 hd ?_
  have e9 : Int32.ofInt (a * b) = Int32.ofInt a * Int32.ofInt b := Int32.ofInt_mul a b
  rw [List.map_cons] at hk
  rw [show cv G.ad (0, w32 (a * b)) = .int (Int32.ofInt (a * b)) from by show Value.int _ = _; rw [i32_w]] at hk
  rw [e9] at hk
  exact hk
theorem e_imuln {a b : Int} (hd : decode M.2.1 pc = .ok (.imul, 1)) (ho : okI (a * b)) (k : Ev G M Q (pc + 1) lo ((0, a * b) :: st) mem) : Ev G M Q pc lo ((0, b) :: (0, a) :: st) mem := by
  intro p e s m args below meth c H locs ls C hW hS hT hL hst
  have k2 := k
  rw [show a * b = w32 (a * b) from (w32_id ho).symm] at k2
  exact e_imul hd k2 p e s m args below meth c H locs ls C hW hS hT hL hst
theorem e_ladd {a b : Int} (hd : decode M.2.1 pc = .ok (.ladd, 1)) (k : Ev G M Q (pc + 1) lo ((1, w64 (a + b)) :: st) mem) : Ev G M Q pc lo ((1, b) :: (1, a) :: st) mem := by
  intro p e s m args below meth c H locs ls C hW hS hT hL hst
  obtain ⟨hb, ha, hst⟩ := st2 hst
  have hk := k p e s m args below meth c H locs ls C hW hS hT hL (stp (okv1 (w64_ok _)) hst)
  refine lv_ladd C.1 C.2.1 hd ?_
  have e9 : Int64.ofInt (a + b) = Int64.ofInt a + Int64.ofInt b := Int64.ofInt_add a b
  rw [List.map_cons] at hk
  rw [show cv G.ad (1, w64 (a + b)) = .long (Int64.ofInt (a + b)) from by show Value.long _ = _; rw [i64_w]] at hk
  rw [e9] at hk
  exact hk
theorem e_laddn {a b : Int} (hd : decode M.2.1 pc = .ok (.ladd, 1)) (ho : okL (a + b)) (k : Ev G M Q (pc + 1) lo ((1, a + b) :: st) mem) : Ev G M Q pc lo ((1, b) :: (1, a) :: st) mem := by
  intro p e s m args below meth c H locs ls C hW hS hT hL hst
  have k2 := k
  rw [show a + b = w64 (a + b) from (w64_id ho).symm] at k2
  exact e_ladd hd k2 p e s m args below meth c H locs ls C hW hS hT hL hst
theorem e_lmul {a b : Int} (hd : decode M.2.1 pc = .ok (.lmul, 1)) (k : Ev G M Q (pc + 1) lo ((1, w64 (a * b)) :: st) mem) : Ev G M Q pc lo ((1, b) :: (1, a) :: st) mem := by
  intro p e s m args below meth c H locs ls C hW hS hT hL hst
  obtain ⟨hb, ha, hst⟩ := st2 hst
  have hk := k p e s m args below meth c H locs ls C hW hS hT hL (stp (okv1 (w64_ok _)) hst)
  refine lv_lmul C.1 C.2.1 hd ?_
  have e9 : Int64.ofInt (a * b) = Int64.ofInt a * Int64.ofInt b := Int64.ofInt_mul a b
  rw [List.map_cons] at hk
  rw [show cv G.ad (1, w64 (a * b)) = .long (Int64.ofInt (a * b)) from by show Value.long _ = _; rw [i64_w]] at hk
  rw [e9] at hk
  exact hk
theorem e_lmuln {a b : Int} (hd : decode M.2.1 pc = .ok (.lmul, 1)) (ho : okL (a * b)) (k : Ev G M Q (pc + 1) lo ((1, a * b) :: st) mem) : Ev G M Q pc lo ((1, b) :: (1, a) :: st) mem := by
  intro p e s m args below meth c H locs ls C hW hS hT hL hst
  have k2 := k
  rw [show a * b = w64 (a * b) from (w64_id ho).symm] at k2
  exact e_lmul hd k2 p e s m args below meth c H locs ls C hW hS hT hL hst
def bAnd (a b : Int) : Int := (Int32.ofInt a &&& Int32.ofInt b).toInt
def bOr (a b : Int) : Int := (Int32.ofInt a ||| Int32.ofInt b).toInt
def bXor (a b : Int) : Int := (Int32.ofInt a ^^^ Int32.ofInt b).toInt
def bShl (a b : Int) : Int := (Int32.ofInt a <<< (Int32.ofInt b &&& 31)).toInt
def bShr (a b : Int) : Int := (Int32.ofInt a >>> (Int32.ofInt b &&& 31)).toInt
def bUshr (a b : Int) : Int := ((Int32.ofInt a).toUInt32 >>> ((Int32.ofInt b).toUInt32 &&& Int32.toUInt32 31)).toInt32.toInt
def bDiv (a b : Int) : Int := (Int32.ofInt a / Int32.ofInt b).toInt
def bRem (a b : Int) : Int := (Int32.ofInt a - Int32.ofInt a / Int32.ofInt b * Int32.ofInt b).toInt
def lDiv (a b : Int) : Int := (Int64.ofInt a / Int64.ofInt b).toInt
def lRem (a b : Int) : Int := (Int64.ofInt a - Int64.ofInt a / Int64.ofInt b * Int64.ofInt b).toInt
def lOr (a b : Int) : Int := (Int64.ofInt a ||| Int64.ofInt b).toInt
def lShl (a b : Int) : Int := (Int64.ofInt a <<< ((Int32.ofInt b).toInt64 &&& 63)).toInt
def i8 (a : Int) : Int := (Int32.ofInt a).toInt8.toInt32.toInt
def i16 (a : Int) : Int := (Int32.ofInt a).toInt16.toInt32.toInt
theorem cvI (ad : Nat → Nat) (x : Int32) : cv ad (0, x.toInt) = .int x := by show Value.int _ = _; rw [i32_back]
theorem cvL (ad : Nat → Nat) (x : Int64) : cv ad (1, x.toInt) = .long x := by show Value.long _ = _; rw [i64_back]
theorem e_iand {a b : Int} (hd : decode M.2.1 pc = .ok (.iand, 1)) (k : Ev G M Q (pc + 1) lo ((0, bAnd a b) :: st) mem) : Ev G M Q pc lo ((0, b) :: (0, a) :: st) mem := by
  intro p e s m args below meth c H locs ls C hW hS hT hL hst
  obtain ⟨hb, ha, hst⟩ := st2 hst
  have hk := k p e s m args below meth c H locs ls C hW hS hT hL (stp (okv0 (okI_of _)) hst)
  rw [List.map_cons] at hk
  unfold bAnd at hk
  rw [cvI] at hk
  exact lv_iand C.1 C.2.1 hd hk
theorem e_ior {a b : Int} (hd : decode M.2.1 pc = .ok (.ior, 1)) (k : Ev G M Q (pc + 1) lo ((0, bOr a b) :: st) mem) : Ev G M Q pc lo ((0, b) :: (0, a) :: st) mem := by
  intro p e s m args below meth c H locs ls C hW hS hT hL hst
  obtain ⟨hb, ha, hst⟩ := st2 hst
  have hk := k p e s m args below meth c H locs ls C hW hS hT hL (stp (okv0 (okI_of _)) hst)
  rw [List.map_cons] at hk
  unfold bOr at hk
  rw [cvI] at hk
  exact lv_ior C.1 C.2.1 hd hk
theorem e_ixor {a b : Int} (hd : decode M.2.1 pc = .ok (.ixor, 1)) (k : Ev G M Q (pc + 1) lo ((0, bXor a b) :: st) mem) : Ev G M Q pc lo ((0, b) :: (0, a) :: st) mem := by
  intro p e s m args below meth c H locs ls C hW hS hT hL hst
  obtain ⟨hb, ha, hst⟩ := st2 hst
  have hk := k p e s m args below meth c H locs ls C hW hS hT hL (stp (okv0 (okI_of _)) hst)
  rw [List.map_cons] at hk
  unfold bXor at hk
  rw [cvI] at hk
  exact lv_ixor C.1 C.2.1 hd hk
theorem e_ishl {a b : Int} (hd : decode M.2.1 pc = .ok (.ishl, 1)) (k : Ev G M Q (pc + 1) lo ((0, bShl a b) :: st) mem) : Ev G M Q pc lo ((0, b) :: (0, a) :: st) mem := by
  intro p e s m args below meth c H locs ls C hW hS hT hL hst
  obtain ⟨hb, ha, hst⟩ := st2 hst
  have hk := k p e s m args below meth c H locs ls C hW hS hT hL (stp (okv0 (okI_of _)) hst)
  rw [List.map_cons] at hk
  unfold bShl at hk
  rw [cvI] at hk
  exact lv_ishl C.1 C.2.1 hd hk
theorem e_ishr {a b : Int} (hd : decode M.2.1 pc = .ok (.ishr, 1)) (k : Ev G M Q (pc + 1) lo ((0, bShr a b) :: st) mem) : Ev G M Q pc lo ((0, b) :: (0, a) :: st) mem := by
  intro p e s m args below meth c H locs ls C hW hS hT hL hst
  obtain ⟨hb, ha, hst⟩ := st2 hst
  have hk := k p e s m args below meth c H locs ls C hW hS hT hL (stp (okv0 (okI_of _)) hst)
  rw [List.map_cons] at hk
  unfold bShr at hk
  rw [cvI] at hk
  exact lv_ishr C.1 C.2.1 hd hk
theorem e_iushr {a b : Int} (hd : decode M.2.1 pc = .ok (.iushr, 1)) (k : Ev G M Q (pc + 1) lo ((0, bUshr a b) :: st) mem) : Ev G M Q pc lo ((0, b) :: (0, a) :: st) mem := by
  intro p e s m args below meth c H locs ls C hW hS hT hL hst
  obtain ⟨hb, ha, hst⟩ := st2 hst
  have hk := k p e s m args below meth c H locs ls C hW hS hT hL (stp (okv0 (okI_of _)) hst)
  rw [List.map_cons] at hk
  unfold bUshr at hk
  rw [cvI] at hk
  exact lv_iushr C.1 C.2.1 hd rfl hk
theorem e_idiv {a b : Int} (hd : decode M.2.1 pc = .ok (.idiv, 1)) (hne : b ≠ 0) (k : Ev G M Q (pc + 1) lo ((0, bDiv a b) :: st) mem) : Ev G M Q pc lo ((0, b) :: (0, a) :: st) mem := by
  intro p e s m args below meth c H locs ls C hW hS hT hL hst
  obtain ⟨hb, ha, hst⟩ := st2 hst
  have hk := k p e s m args below meth c H locs ls C hW hS hT hL (stp (okv0 (okI_of _)) hst)
  rw [List.map_cons] at hk
  unfold bDiv at hk
  rw [cvI] at hk
  exact lv_idiv C.1 C.2.1 hd (fun h => hne ((i32_eq (okv0' hb) (by decide)).mp h)) hk
theorem e_irem {a b : Int} (hd : decode M.2.1 pc = .ok (.irem, 1)) (hne : b ≠ 0) (k : Ev G M Q (pc + 1) lo ((0, bRem a b) :: st) mem) : Ev G M Q pc lo ((0, b) :: (0, a) :: st) mem := by
  intro p e s m args below meth c H locs ls C hW hS hT hL hst
  obtain ⟨hb, ha, hst⟩ := st2 hst
  have hk := k p e s m args below meth c H locs ls C hW hS hT hL (stp (okv0 (okI_of _)) hst)
  rw [List.map_cons] at hk
  unfold bRem at hk
  rw [cvI] at hk
  exact lv_irem C.1 C.2.1 hd (fun h => hne ((i32_eq (okv0' hb) (by decide)).mp h)) hk
theorem i64_eq {a b : Int} (ha : okL a) (hb : okL b) : Int64.ofInt a = Int64.ofInt b ↔ a = b := by
  constructor
  · intro h; rw [← i64_toInt ha, ← i64_toInt hb, h]
  · intro h; rw [h]
theorem e_ldiv {a b : Int} (hd : decode M.2.1 pc = .ok (.ldiv, 1)) (hne : b ≠ 0) (k : Ev G M Q (pc + 1) lo ((1, lDiv a b) :: st) mem) : Ev G M Q pc lo ((1, b) :: (1, a) :: st) mem := by
  intro p e s m args below meth c H locs ls C hW hS hT hL hst
  obtain ⟨hb, ha, hst⟩ := st2 hst
  have hk := k p e s m args below meth c H locs ls C hW hS hT hL (stp (okv1 (okL_of _)) hst)
  rw [List.map_cons] at hk
  unfold lDiv at hk
  rw [cvL] at hk
  exact lv_ldiv C.1 C.2.1 hd (fun h => hne ((i64_eq (okv1' hb) (by decide)).mp h)) hk
theorem e_lrem {a b : Int} (hd : decode M.2.1 pc = .ok (.lrem, 1)) (hne : b ≠ 0) (k : Ev G M Q (pc + 1) lo ((1, lRem a b) :: st) mem) : Ev G M Q pc lo ((1, b) :: (1, a) :: st) mem := by
  intro p e s m args below meth c H locs ls C hW hS hT hL hst
  obtain ⟨hb, ha, hst⟩ := st2 hst
  have hk := k p e s m args below meth c H locs ls C hW hS hT hL (stp (okv1 (okL_of _)) hst)
  rw [List.map_cons] at hk
  unfold lRem at hk
  rw [cvL] at hk
  exact lv_lrem C.1 C.2.1 hd (fun h => hne ((i64_eq (okv1' hb) (by decide)).mp h)) hk
theorem e_lor {a b : Int} (hd : decode M.2.1 pc = .ok (.lor, 1)) (k : Ev G M Q (pc + 1) lo ((1, lOr a b) :: st) mem) : Ev G M Q pc lo ((1, b) :: (1, a) :: st) mem := by
  intro p e s m args below meth c H locs ls C hW hS hT hL hst
  obtain ⟨hb, ha, hst⟩ := st2 hst
  have hk := k p e s m args below meth c H locs ls C hW hS hT hL (stp (okv1 (okL_of _)) hst)
  rw [List.map_cons] at hk
  unfold lOr at hk
  rw [cvL] at hk
  exact lv_lor C.1 C.2.1 hd hk
theorem e_lshl {a b : Int} (hd : decode M.2.1 pc = .ok (.lshl, 1)) (k : Ev G M Q (pc + 1) lo ((1, lShl a b) :: st) mem) : Ev G M Q pc lo ((0, b) :: (1, a) :: st) mem := by
  intro p e s m args below meth c H locs ls C hW hS hT hL hst
  obtain ⟨hb, ha, hst⟩ := st2 hst
  have hk := k p e s m args below meth c H locs ls C hW hS hT hL (stp (okv1 (okL_of _)) hst)
  rw [List.map_cons] at hk
  unfold lShl at hk
  rw [cvL] at hk
  exact lv_lshl C.1 C.2.1 hd rfl hk
theorem e_ineg {a : Int} (hd : decode M.2.1 pc = .ok (.ineg, 1)) (k : Ev G M Q (pc + 1) lo ((0, w32 (-a)) :: st) mem) : Ev G M Q pc lo ((0, a) :: st) mem := by
  intro p e s m args below meth c H locs ls C hW hS hT hL hst
  obtain ⟨ha, hst⟩ := st1 hst
  have hk := k p e s m args below meth c H locs ls C hW hS hT hL (stp (okv0 (w32_ok _)) hst)
  rw [List.map_cons, show cv G.ad (0, w32 (-a)) = .int (-(Int32.ofInt a)) from by show Value.int _ = _; rw [i32_w, Int32.ofInt_neg]] at hk
  exact lv_ineg C.1 C.2.1 hd hk
theorem e_lneg {a : Int} (hd : decode M.2.1 pc = .ok (.lneg, 1)) (k : Ev G M Q (pc + 1) lo ((1, w64 (-a)) :: st) mem) : Ev G M Q pc lo ((1, a) :: st) mem := by
  intro p e s m args below meth c H locs ls C hW hS hT hL hst
  obtain ⟨ha, hst⟩ := st1 hst
  have hk := k p e s m args below meth c H locs ls C hW hS hT hL (stp (okv1 (w64_ok _)) hst)
  rw [List.map_cons, show cv G.ad (1, w64 (-a)) = .long (-(Int64.ofInt a)) from by show Value.long _ = _; rw [i64_w, Int64.ofInt_neg]] at hk
  exact lv_lneg C.1 C.2.1 hd hk
theorem e_i2l {a : Int} (hd : decode M.2.1 pc = .ok (.i2l, 1)) (k : Ev G M Q (pc + 1) lo ((1, a) :: st) mem) : Ev G M Q pc lo ((0, a) :: st) mem := by
  intro p e s m args below meth c H locs ls C hW hS hT hL hst
  obtain ⟨ha, hst⟩ := st1 hst
  have ho := okv0' ha
  refine lv_i2l C.1 C.2.1 hd ?_ (k p e s m args below meth c H locs ls C hW hS hT hL (stp (okv1 (by omega)) hst))
  apply Int64.toInt_inj.mp
  rw [Int32.toInt_toInt64, i32_toInt ho, i64_toInt (by omega)]
theorem e_i2b {a : Int} (hd : decode M.2.1 pc = .ok (.i2b, 1)) (k : Ev G M Q (pc + 1) lo ((0, i8 a) :: st) mem) : Ev G M Q pc lo ((0, a) :: st) mem := by
  intro p e s m args below meth c H locs ls C hW hS hT hL hst
  obtain ⟨ha, hst⟩ := st1 hst
  have hk := k p e s m args below meth c H locs ls C hW hS hT hL (stp (okv0 (okI_of _)) hst)
  rw [List.map_cons] at hk
  unfold i8 at hk
  rw [cvI] at hk
  exact lv_i2b C.1 C.2.1 hd rfl hk
theorem e_i2s {a : Int} (hd : decode M.2.1 pc = .ok (.i2s, 1)) (k : Ev G M Q (pc + 1) lo ((0, i16 a) :: st) mem) : Ev G M Q pc lo ((0, a) :: st) mem := by
  intro p e s m args below meth c H locs ls C hW hS hT hL hst
  obtain ⟨ha, hst⟩ := st1 hst
  have hk := k p e s m args below meth c H locs ls C hW hS hT hL (stp (okv0 (okI_of _)) hst)
  rw [List.map_cons] at hk
  unfold i16 at hk
  rw [cvI] at hk
  exact lv_i2s C.1 C.2.1 hd rfl hk
def lCmp (a b : Int) : Int := if a > b then 1 else if a = b then 0 else -1
theorem lCmp_ok (a b : Int) : okI (lCmp a b) := by
  unfold lCmp
  split
  · decide
  · split <;> decide
theorem e_lcmp {a b : Int} (hd : decode M.2.1 pc = .ok (.lcmp, 1)) (k : Ev G M Q (pc + 1) lo ((0, lCmp a b) :: st) mem) : Ev G M Q pc lo ((1, b) :: (1, a) :: st) mem := by
  intro p e s m args below meth c H locs ls C hW hS hT hL hst
  obtain ⟨hb, ha, hst⟩ := st2 hst
  have ha := okv1' ha
  have hb := okv1' hb
  have hk := k p e s m args below meth c H locs ls C hW hS hT hL (stp (okv0 (lCmp_ok a b)) hst)
  rw [List.map_cons] at hk
  refine W.lcmp C.1 C.2.1 hd ?_
  rw [show Value.int (lg_cmp (Int64.ofInt a) (Int64.ofInt b)) = cv G.ad (0, lCmp a b) from ?_]
  · exact hk
  · show _ = Value.int _
    unfold lg_cmp lCmp
    have e1 : (Int64.ofInt a > Int64.ofInt b) ↔ a > b := by show Int64.ofInt b < Int64.ofInt a ↔ b < a; rw [Int64.lt_iff_toInt_lt, i64_toInt ha, i64_toInt hb]
    have e2 : (Int64.ofInt a = Int64.ofInt b) ↔ a = b := i64_eq ha hb
    by_cases h1 : a > b
    · rw [if_pos (e1.mpr h1), if_pos h1]; rfl
    · rw [if_neg (fun q => h1 (e1.mp q)), if_neg h1]
      by_cases h2 : a = b
      · rw [if_pos (e2.mpr h2), if_pos h2]; rfl
      · rw [if_neg (fun q => h2 (e2.mp q)), if_neg h2]; rfl
theorem e_dup {v : AV} (hd : decode M.2.1 pc = .ok (.dup, 1)) (hc : cv_cat v = 1) (k : Ev G M Q (pc + 1) lo (v :: v :: st) mem) : Ev G M Q pc lo (v :: st) mem := by
  intro p e s m args below meth c H locs ls C hW hS hT hL hst
  exact lv_dup C.1 C.2.1 hd ((cv_category _ _).trans hc) (k p e s m args below meth c H locs ls C hW hS hT hL (stp (st1 hst).1 hst))
theorem e_pop {v : AV} (hd : decode M.2.1 pc = .ok (.pop, 1)) (hc : cv_cat v = 1) (k : Ev G M Q (pc + 1) lo st mem) : Ev G M Q pc lo (v :: st) mem := by
  intro p e s m args below meth c H locs ls C hW hS hT hL hst
  exact lv_pop C.1 C.2.1 hd ((cv_category _ _).trans hc) (k p e s m args below meth c H locs ls C hW hS hT hL (st1 hst).2)
theorem e_goto {off : Int} {tgt : Nat} (hd : decode M.2.1 pc = .ok (.goto off, 3)) (ht : (pc : Int) + off = (tgt : Int)) (k : Ev G M Q tgt lo st mem) : Ev G M Q pc lo st mem := by
  intro p e s m args below meth c H locs ls C hW hS hT hL hst
  exact lv_goto C.1 C.2.1 hd ht (k p e s m args below meth c H locs ls C hW hS hT hL hst)
theorem e_icmp_eq {a b : Int} {off : Int} {tgt : Nat} (hd : decode M.2.1 pc = .ok (.if_icmp .eq off, 3)) (ht : (pc : Int) + off = (tgt : Int)) (kt : a = b → Ev G M Q tgt lo st mem) (kf : ¬ a = b → Ev G M Q (pc + 3) lo st mem) : Ev G M Q pc lo ((0, b) :: (0, a) :: st) mem := by
  intro p e s m args below meth c H locs ls C hW hS hT hL hst
  obtain ⟨hb, ha, hst⟩ := st2 hst
  have hb := okv0' hb
  have ha := okv0' ha
  refine lv_icmp_eq C.1 C.2.1 hd ht (fun q => kt (by simp only [i32_eq ha hb, i32_lt ha hb, i32_le ha hb, i32_lt hb ha, i32_le hb ha, ne_eq, ge_iff_le, gt_iff_lt] at q; omega) p e s m args below meth c H locs ls C hW hS hT hL hst) (fun q => kf (by simp only [i32_eq ha hb, i32_lt ha hb, i32_le ha hb, i32_lt hb ha, i32_le hb ha, ne_eq, ge_iff_le, gt_iff_lt] at q; omega) p e s m args below meth c H locs ls C hW hS hT hL hst)
theorem e_if_eq {a : Int} {off : Int} {tgt : Nat} (hd : decode M.2.1 pc = .ok (.ifCond .eq off, 3)) (ht : (pc : Int) + off = (tgt : Int)) (kt : a = 0 → Ev G M Q tgt lo st mem) (kf : ¬ a = 0 → Ev G M Q (pc + 3) lo st mem) : Ev G M Q pc lo ((0, a) :: st) mem := by
  intro p e s m args below meth c H locs ls C hW hS hT hL hst
  obtain ⟨ha, hst⟩ := st1 hst
  have ha := okv0' ha
  have hb : okI 0 := by decide
  refine lv_if_eq C.1 C.2.1 hd ht (fun q => kt (by rw [show (0 : Int32) = Int32.ofInt 0 from rfl] at q; simp only [i32_eq ha hb, i32_lt ha hb, i32_le ha hb, i32_lt hb ha, i32_le hb ha, ne_eq, ge_iff_le, gt_iff_lt] at q; omega) p e s m args below meth c H locs ls C hW hS hT hL hst) (fun q => kf (by rw [show (0 : Int32) = Int32.ofInt 0 from rfl] at q; simp only [i32_eq ha hb, i32_lt ha hb, i32_le ha hb, i32_lt hb ha, i32_le hb ha, ne_eq, ge_iff_le, gt_iff_lt] at q; omega) p e s m args below meth c H locs ls C hW hS hT hL hst)
theorem e_icmp_ne {a b : Int} {off : Int} {tgt : Nat} (hd : decode M.2.1 pc = .ok (.if_icmp .ne off, 3)) (ht : (pc : Int) + off = (tgt : Int)) (kt : ¬ a = b → Ev G M Q tgt lo st mem) (kf : a = b → Ev G M Q (pc + 3) lo st mem) : Ev G M Q pc lo ((0, b) :: (0, a) :: st) mem := by
  intro p e s m args below meth c H locs ls C hW hS hT hL hst
  obtain ⟨hb, ha, hst⟩ := st2 hst
  have hb := okv0' hb
  have ha := okv0' ha
  refine lv_icmp_ne C.1 C.2.1 hd ht (fun q => kt (by simp only [i32_eq ha hb, i32_lt ha hb, i32_le ha hb, i32_lt hb ha, i32_le hb ha, ne_eq, ge_iff_le, gt_iff_lt] at q; omega) p e s m args below meth c H locs ls C hW hS hT hL hst) (fun q => kf (by simp only [i32_eq ha hb, i32_lt ha hb, i32_le ha hb, i32_lt hb ha, i32_le hb ha, ne_eq, ge_iff_le, gt_iff_lt] at q; omega) p e s m args below meth c H locs ls C hW hS hT hL hst)
theorem e_if_ne {a : Int} {off : Int} {tgt : Nat} (hd : decode M.2.1 pc = .ok (.ifCond .ne off, 3)) (ht : (pc : Int) + off = (tgt : Int)) (kt : ¬ a = 0 → Ev G M Q tgt lo st mem) (kf : a = 0 → Ev G M Q (pc + 3) lo st mem) : Ev G M Q pc lo ((0, a) :: st) mem := by
  intro p e s m args below meth c H locs ls C hW hS hT hL hst
  obtain ⟨ha, hst⟩ := st1 hst
  have ha := okv0' ha
  have hb : okI 0 := by decide
  refine lv_if_ne C.1 C.2.1 hd ht (fun q => kt (by rw [show (0 : Int32) = Int32.ofInt 0 from rfl] at q; simp only [i32_eq ha hb, i32_lt ha hb, i32_le ha hb, i32_lt hb ha, i32_le hb ha, ne_eq, ge_iff_le, gt_iff_lt] at q; omega) p e s m args below meth c H locs ls C hW hS hT hL hst) (fun q => kf (by rw [show (0 : Int32) = Int32.ofInt 0 from rfl] at q; simp only [i32_eq ha hb, i32_lt ha hb, i32_le ha hb, i32_lt hb ha, i32_le hb ha, ne_eq, ge_iff_le, gt_iff_lt] at q; omega) p e s m args below meth c H locs ls C hW hS hT hL hst)
theorem e_icmp_lt {a b : Int} {off : Int} {tgt : Nat} (hd : decode M.2.1 pc = .ok (.if_icmp .lt off, 3)) (ht : (pc : Int) + off = (tgt : Int)) (kt : a < b → Ev G M Q tgt lo st mem) (kf : b ≤ a → Ev G M Q (pc + 3) lo st mem) : Ev G M Q pc lo ((0, b) :: (0, a) :: st) mem := by
  intro p e s m args below meth c H locs ls C hW hS hT hL hst
  obtain ⟨hb, ha, hst⟩ := st2 hst
  have hb := okv0' hb
  have ha := okv0' ha
  refine lv_icmp_lt C.1 C.2.1 hd ht (fun q => kt (by simp only [i32_eq ha hb, i32_lt ha hb, i32_le ha hb, i32_lt hb ha, i32_le hb ha, ne_eq, ge_iff_le, gt_iff_lt] at q; omega) p e s m args below meth c H locs ls C hW hS hT hL hst) (fun q => kf (by simp only [i32_eq ha hb, i32_lt ha hb, i32_le ha hb, i32_lt hb ha, i32_le hb ha, ne_eq, ge_iff_le, gt_iff_lt] at q; omega) p e s m args below meth c H locs ls C hW hS hT hL hst)
theorem e_if_lt {a : Int} {off : Int} {tgt : Nat} (hd : decode M.2.1 pc = .ok (.ifCond .lt off, 3)) (ht : (pc : Int) + off = (tgt : Int)) (kt : a < 0 → Ev G M Q tgt lo st mem) (kf : 0 ≤ a → Ev G M Q (pc + 3) lo st mem) : Ev G M Q pc lo ((0, a) :: st) mem := by
  intro p e s m args below meth c H locs ls C hW hS hT hL hst
  obtain ⟨ha, hst⟩ := st1 hst
  have ha := okv0' ha
  have hb : okI 0 := by decide
  refine lv_if_lt C.1 C.2.1 hd ht (fun q => kt (by rw [show (0 : Int32) = Int32.ofInt 0 from rfl] at q; simp only [i32_eq ha hb, i32_lt ha hb, i32_le ha hb, i32_lt hb ha, i32_le hb ha, ne_eq, ge_iff_le, gt_iff_lt] at q; omega) p e s m args below meth c H locs ls C hW hS hT hL hst) (fun q => kf (by rw [show (0 : Int32) = Int32.ofInt 0 from rfl] at q; simp only [i32_eq ha hb, i32_lt ha hb, i32_le ha hb, i32_lt hb ha, i32_le hb ha, ne_eq, ge_iff_le, gt_iff_lt] at q; omega) p e s m args below meth c H locs ls C hW hS hT hL hst)
theorem e_icmp_ge {a b : Int} {off : Int} {tgt : Nat} (hd : decode M.2.1 pc = .ok (.if_icmp .ge off, 3)) (ht : (pc : Int) + off = (tgt : Int)) (kt : b ≤ a → Ev G M Q tgt lo st mem) (kf : a < b → Ev G M Q (pc + 3) lo st mem) : Ev G M Q pc lo ((0, b) :: (0, a) :: st) mem := by
  intro p e s m args below meth c H locs ls C hW hS hT hL hst
  obtain ⟨hb, ha, hst⟩ := st2 hst
  have hb := okv0' hb
  have ha := okv0' ha
  refine lv_icmp_ge C.1 C.2.1 hd ht (fun q => kt (by simp only [i32_eq ha hb, i32_lt ha hb, i32_le ha hb, i32_lt hb ha, i32_le hb ha, ne_eq, ge_iff_le, gt_iff_lt] at q; omega) p e s m args below meth c H locs ls C hW hS hT hL hst) (fun q => kf (by simp only [i32_eq ha hb, i32_lt ha hb, i32_le ha hb, i32_lt hb ha, i32_le hb ha, ne_eq, ge_iff_le, gt_iff_lt] at q; omega) p e s m args below meth c H locs ls C hW hS hT hL hst)
theorem e_if_ge {a : Int} {off : Int} {tgt : Nat} (hd : decode M.2.1 pc = .ok (.ifCond .ge off, 3)) (ht : (pc : Int) + off = (tgt : Int)) (kt : 0 ≤ a → Ev G M Q tgt lo st mem) (kf : a < 0 → Ev G M Q (pc + 3) lo st mem) : Ev G M Q pc lo ((0, a) :: st) mem := by
  intro p e s m args below meth c H locs ls C hW hS hT hL hst
  obtain ⟨ha, hst⟩ := st1 hst
  have ha := okv0' ha
  have hb : okI 0 := by decide
  refine lv_if_ge C.1 C.2.1 hd ht (fun q => kt (by rw [show (0 : Int32) = Int32.ofInt 0 from rfl] at q; simp only [i32_eq ha hb, i32_lt ha hb, i32_le ha hb, i32_lt hb ha, i32_le hb ha, ne_eq, ge_iff_le, gt_iff_lt] at q; omega) p e s m args below meth c H locs ls C hW hS hT hL hst) (fun q => kf (by rw [show (0 : Int32) = Int32.ofInt 0 from rfl] at q; simp only [i32_eq ha hb, i32_lt ha hb, i32_le ha hb, i32_lt hb ha, i32_le hb ha, ne_eq, ge_iff_le, gt_iff_lt] at q; omega) p e s m args below meth c H locs ls C hW hS hT hL hst)
theorem e_icmp_gt {a b : Int} {off : Int} {tgt : Nat} (hd : decode M.2.1 pc = .ok (.if_icmp .gt off, 3)) (ht : (pc : Int) + off = (tgt : Int)) (kt : b < a → Ev G M Q tgt lo st mem) (kf : a ≤ b → Ev G M Q (pc + 3) lo st mem) : Ev G M Q pc lo ((0, b) :: (0, a) :: st) mem := by
  intro p e s m args below meth c H locs ls C hW hS hT hL hst
  obtain ⟨hb, ha, hst⟩ := st2 hst
  have hb := okv0' hb
  have ha := okv0' ha
  refine lv_icmp_gt C.1 C.2.1 hd ht (fun q => kt (by simp only [i32_eq ha hb, i32_lt ha hb, i32_le ha hb, i32_lt hb ha, i32_le hb ha, ne_eq, ge_iff_le, gt_iff_lt] at q; omega) p e s m args below meth c H locs ls C hW hS hT hL hst) (fun q => kf (by simp only [i32_eq ha hb, i32_lt ha hb, i32_le ha hb, i32_lt hb ha, i32_le hb ha, ne_eq, ge_iff_le, gt_iff_lt] at q; omega) p e s m args below meth c H locs ls C hW hS hT hL hst)
theorem e_if_gt {a : Int} {off : Int} {tgt : Nat} (hd : decode M.2.1 pc = .ok (.ifCond .gt off, 3)) (ht : (pc : Int) + off = (tgt : Int)) (kt : 0 < a → Ev G M Q tgt lo st mem) (kf : a ≤ 0 → Ev G M Q (pc + 3) lo st mem) : Ev G M Q pc lo ((0, a) :: st) mem := by
  intro p e s m args below meth c H locs ls C hW hS hT hL hst
  obtain ⟨ha, hst⟩ := st1 hst
  have ha := okv0' ha
  have hb : okI 0 := by decide
  refine lv_if_gt C.1 C.2.1 hd ht (fun q => kt (by rw [show (0 : Int32) = Int32.ofInt 0 from rfl] at q; simp only [i32_eq ha hb, i32_lt ha hb, i32_le ha hb, i32_lt hb ha, i32_le hb ha, ne_eq, ge_iff_le, gt_iff_lt] at q; omega) p e s m args below meth c H locs ls C hW hS hT hL hst) (fun q => kf (by rw [show (0 : Int32) = Int32.ofInt 0 from rfl] at q; simp only [i32_eq ha hb, i32_lt ha hb, i32_le ha hb, i32_lt hb ha, i32_le hb ha, ne_eq, ge_iff_le, gt_iff_lt] at q; omega) p e s m args below meth c H locs ls C hW hS hT hL hst)
theorem e_icmp_le {a b : Int} {off : Int} {tgt : Nat} (hd : decode M.2.1 pc = .ok (.if_icmp .le off, 3)) (ht : (pc : Int) + off = (tgt : Int)) (kt : a ≤ b → Ev G M Q tgt lo st mem) (kf : b < a → Ev G M Q (pc + 3) lo st mem) : Ev G M Q pc lo ((0, b) :: (0, a) :: st) mem := by
  intro p e s m args below meth c H locs ls C hW hS hT hL hst
  obtain ⟨hb, ha, hst⟩ := st2 hst
  have hb := okv0' hb
  have ha := okv0' ha
  refine lv_icmp_le C.1 C.2.1 hd ht (fun q => kt (by simp only [i32_eq ha hb, i32_lt ha hb, i32_le ha hb, i32_lt hb ha, i32_le hb ha, ne_eq, ge_iff_le, gt_iff_lt] at q; omega) p e s m args below meth c H locs ls C hW hS hT hL hst) (fun q => kf (by simp only [i32_eq ha hb, i32_lt ha hb, i32_le ha hb, i32_lt hb ha, i32_le hb ha, ne_eq, ge_iff_le, gt_iff_lt] at q; omega) p e s m args below meth c H locs ls C hW hS hT hL hst)
theorem e_if_le {a : Int} {off : Int} {tgt : Nat} (hd : decode M.2.1 pc = .ok (.ifCond .le off, 3)) (ht : (pc : Int) + off = (tgt : Int)) (kt : a ≤ 0 → Ev G M Q tgt lo st mem) (kf : 0 < a → Ev G M Q (pc + 3) lo st mem) : Ev G M Q pc lo ((0, a) :: st) mem := by
  intro p e s m args below meth c H locs ls C hW hS hT hL hst
  obtain ⟨ha, hst⟩ := st1 hst
  have ha := okv0' ha
  have hb : okI 0 := by decide
  refine lv_if_le C.1 C.2.1 hd ht (fun q => kt (by rw [show (0 : Int32) = Int32.ofInt 0 from rfl] at q; simp only [i32_eq ha hb, i32_lt ha hb, i32_le ha hb, i32_lt hb ha, i32_le hb ha, ne_eq, ge_iff_le, gt_iff_lt] at q; omega) p e s m args below meth c H locs ls C hW hS hT hL hst) (fun q => kf (by rw [show (0 : Int32) = Int32.ofInt 0 from rfl] at q; simp only [i32_eq ha hb, i32_lt ha hb, i32_le ha hb, i32_lt hb ha, i32_le hb ha, ne_eq, ge_iff_le, gt_iff_lt] at q; omega) p e s m args below meth c H locs ls C hW hS hT hL hst)
theorem e_tableOut {dflt l0 h0 : Int} {offs : Array Int} {len : Nat} {a : Int} {tgt : Nat} (hd : decode M.2.1 pc = .ok (.tableswitch dflt l0 h0 offs, len)) (h : a < l0 ∨ h0 < a) (ht : (pc : Int) + dflt = (tgt : Int)) (k : Ev G M Q tgt lo st mem) : Ev G M Q pc lo ((0, a) :: st) mem := by
  intro p e s m args below meth c H locs ls C hW hS hT hL hst
  obtain ⟨ha, hst⟩ := st1 hst
  exact lv_tableOut C.1 C.2.1 hd (by rw [i32_toInt (okv0' ha)]; exact h) ht (k p e s m args below meth c H locs ls C hW hS hT hL hst)
theorem e_tableIn {dflt l0 h0 : Int} {offs : Array Int} {len : Nat} {a : Int} {off : Int} {tgt : Nat} (hd : decode M.2.1 pc = .ok (.tableswitch dflt l0 h0 offs, len)) (h : l0 ≤ a ∧ a ≤ h0) (ho : offs[(a - l0).toNat]? = some off) (ht : (pc : Int) + off = (tgt : Int)) (k : Ev G M Q tgt lo st mem) : Ev G M Q pc lo ((0, a) :: st) mem := by
  intro p e s m args below meth c H locs ls C hW hS hT hL hst
  obtain ⟨ha, hst⟩ := st1 hst
  have e9 := i32_toInt (okv0' ha)
  exact lv_tableIn C.1 C.2.1 hd (by rw [e9]; omega) (by rw [e9]; omega) (by rw [e9]; exact ho) ht (k p e s m args below meth c H locs ls C hW hS hT hL hst)
end MRows
end
section
section MHeap
variable {G : Gm} {M : Mt} {Q : Option AV → Mem → Prop} {pc : Nat} {lo st : List AV} {mem : Mem}
/-- by the link own/ix the field j of the class number ci is meant -/
def FL (own : String) (ix ci j : Nat) : Prop := ∃ q : vw_C, classes[ci]? = some q ∧ j < q.2.2 ∧ Cond.fieldLink own ix q.1 (q.2.1 j).2.1 (q.2.1 j).2.2.1 ∈ wtb ∧ (q.2.1 j).1 = q.1
theorem ceE_obj {ad : Nat → Nat} {cA : Nat → ClassId} {c ci : Nat} {ks : List Int} {r : Nat → Int} (hs : shp c = .inl (ci, ks)) : ceE ad cA c r = .inr (ci, ks.zipIdx.map (fun q => fv ad r q.2 q.1)) := by
  unfold ceE; rw [hs]
theorem ceE_arr {ad : Nat → Nat} {cA : Nat → ClassId} {c t n b : Nat} {r : Nat → Int} (hs : shp c = .inr (t, n, b)) : ceE ad cA c r = .inl (cA t, n, arE ad t n b r) := by
  unfold ceE; rw [hs]
theorem fv_at {ad : Nat → Nat} {ks : List Int} {r : Nat → Int} {j : Nat} {k : Int} (hk : ks[j]? = some k) : (ks.zipIdx.map (fun q => fv ad r q.2 q.1))[j]? = some (fv ad r j k) := by
  rw [List.getElem?_map, List.getElem?_zipIdx, hk]; simp
theorem fv_set {ad : Nat → Nat} {ks : List Int} {r : Nat → Int} {j : Nat} {k v : Int} (hk : ks[j]? = some k) (hn : k < 0) : (ks.zipIdx.map (fun q => fv ad r q.2 q.1)).set j (.int (Int32.ofInt v)) = ks.zipIdx.map (fun q => fv ad (uset r j v) q.2 q.1) := by
  apply List.ext_getElem?
  intro i
  rw [List.getElem?_set]
  by_cases hi : j = i
  · subst hi
    have hl : j < ks.length := (List.getElem?_eq_some_iff.mp hk).1
    rw [if_pos rfl, fv_at hk]
    simp [hl, fv, hn, uset]
  · rw [if_neg hi, List.getElem?_map, List.getElem?_map, List.getElem?_zipIdx]
    cases h : ks[i]? with
    | none => rfl
    | some x => simp [fv, uset, Ne.symm hi]
theorem shp_lt {c : Nat} {x : Nat × List Int} (h : shp c = .inl x) : c < NC := by
  rcases Nat.lt_or_ge c NC with q | q
  · exact q
  · unfold shp at h
    rw [List.getD_eq_getElem?_getD, List.getElem?_eq_none (show shl.length ≤ c from q)] at h
    cases h
theorem okm_geti {c ci j : Nat} {ks : List Int} (h : okm mem) (hs : shp c = .inl (ci, ks)) : okI (mem c j) := by
  have := h c j
  rw [hs] at this
  exact this
theorem okm_arr {c t n b j : Nat} (h : okm mem) (hs : shp c = .inr (t, n, b)) (ht : t ≠ 2) : okI (mem c j) := by
  have := h c j
  rw [hs] at this
  simpa [ht] using this
theorem okm_arrL {c n b j : Nat} (h : okm mem) (hs : shp c = .inr (2, n, b)) : okL (mem c j) := by
  have := h c j
  rw [hs] at this
  simpa using this
theorem okm_rset {c : Nat} {r : Nat → Int} (h : okm mem) (hr : okr c r) : okm (rset mem c r) := by
  intro c'
  by_cases e : c' = c
  · subst e; rw [rset_eq]; exact hr
  · rw [rset_ne _ _ _ e]; exact h c'
theorem okr_uset {c j : Nat} {r : Nat → Int} {v : Int} (h : okr c r) (hv : (shp c).elim (fun _ => okI v) (fun q => if q.1 = 2 then okL v else okI v)) : okr c (uset r j v) := by
  intro j'
  unfold uset
  by_cases e : j' = j
  · rw [if_pos e]; exact hv
  · rw [if_neg e]; exact h j'
theorem ad_inj (hD : va_D (AA G) (wsOf G.ad G.cA mem)) {a b : Nat} (ha : a < NC) (hb : b < NC) (h : G.ad a = G.ad b) : a = b := hD.1 a b _ _ (ws_get ha) (ws_get hb) h
/-- an int or boolean field is read -/
theorem e_geti {ix c ci j : Nat} {ks : List Int} {k : Int} (hd : decode M.2.1 pc = .ok (.getfield ix, 3)) (hf : FL M.1.cls ix ci j) (hs : shp c = .inl (ci, ks)) (hk : ks[j]? = some k) (hn : k < 0) (kk : Ev G M Q (pc + 3) lo ((0, mem c j) :: st) mem) : Ev G M Q pc lo ((2, (c : Int)) :: st) mem := by
  intro p e s m args below meth c' H locs ls C hW hS hT hL hst
  obtain ⟨q, hq, hj, hl, ho⟩ := hf
  have hc := shp_lt hs
  have hg := ws_get (ad := G.ad) (cA := G.cA) (mem := mem) hc
  rw [ceE_obj hs] at hg
  refine va_get (v := .int (Int32.ofInt (mem c j))) (own := M.1.cls) C.1 C.2.1 (Ts := wds M) C.2.2.2.2.2.1 (fun w h => List.mem_cons_of_mem _ ((cls_in ci q hq).1 w h)) C.2.2.2.2.1 hW.2.1 hW.1 c hg hq j hj (C.2.2.2.2.2.1 _ (List.mem_cons_of_mem _ hl)) (fun x hx => by rw [ho] at hx; exact hx) ?_ hd ?_
  · rw [fv_at hk]; simp [fv, hn]
  · exact kk p e s m args below meth c' H locs ls C hW hS hT hL (stp (okv0 (okm_geti hW.2.2.2 hs)) (st1 hst).2)
/-- a reference is read: the world's own -/
theorem e_getr {ix c ci j : Nat} {ks : List Int} {k : Int} (hd : decode M.2.1 pc = .ok (.getfield ix, 3)) (hf : FL M.1.cls ix ci j) (hs : shp c = .inl (ci, ks)) (hk : ks[j]? = some k) (hn : ¬ k < 0) (kk : Ev G M Q (pc + 3) lo ((2, k) :: st) mem) : Ev G M Q pc lo ((2, (c : Int)) :: st) mem := by
  intro p e s m args below meth c' H locs ls C hW hS hT hL hst
  obtain ⟨q, hq, hj, hl, ho⟩ := hf
  have hc := shp_lt hs
  have hg := ws_get (ad := G.ad) (cA := G.cA) (mem := mem) hc
  rw [ceE_obj hs] at hg
  refine va_get (v := .ref (G.ad k.toNat)) (own := M.1.cls) C.1 C.2.1 (Ts := wds M) C.2.2.2.2.2.1 (fun w h => List.mem_cons_of_mem _ ((cls_in ci q hq).1 w h)) C.2.2.2.2.1 hW.2.1 hW.1 c hg hq j hj (C.2.2.2.2.2.1 _ (List.mem_cons_of_mem _ hl)) (fun x hx => by rw [ho] at hx; exact hx) ?_ hd ?_
  · rw [fv_at hk]; simp [fv, hn]
  · exact kk p e s m args below meth c' H locs ls C hW hS hT hL (stp okv2 (st1 hst).2)
/-- an int field is written (k = -1), or a boolean one (k = -2) -/
theorem e_puti {ix c ci j : Nat} {ks : List Int} {k v : Int} (hd : decode M.2.1 pc = .ok (.putfield ix, 3)) (hf : FL M.1.cls ix ci j) (hs : shp c = .inl (ci, ks)) (hk : ks[j]? = some k) (hn : k < 0)
    (hm : ∀ q : vw_C, classes[ci]? = some q → (q.2.1 j).2.2.2 = false ∧ (tyOf ci j = .int ∨ (tyOf ci j = .boolean ∧ (v = 0 ∨ v = 1)))) (kk : Ev G M Q (pc + 3) lo st (mset mem c j v)) : Ev G M Q pc lo ((0, v) :: (2, (c : Int)) :: st) mem := by
  intro p e s m args below meth c' H locs ls C hW hS hT hL hst
  obtain ⟨q, hq, hj, hl, ho⟩ := hf
  have hc := shp_lt hs
  have hg := ws_get (ad := G.ad) (cA := G.cA) (mem := mem) hc
  rw [ceE_obj hs] at hg
  obtain ⟨hm1, hm2⟩ := hm q hq
  have hfit : narrow (tyOf ci j) (.int (Int32.ofInt v)) = .int (Int32.ofInt v) ∧ fits (tyOf ci j) (.int (Int32.ofInt v)) = true := by
    rcases hm2 with h | ⟨h, rfl | rfl⟩ <;> rw [h]
    · exact ⟨rfl, rfl⟩
    · exact ⟨rfl, rfl⟩
    · exact ⟨rfl, rfl⟩
  refine va_put (v := .int (Int32.ofInt v)) (own := M.1.cls) C.1 C.2.1 (Ts := wds M) C.2.2.2.2.2.1 (fun w h => List.mem_cons_of_mem _ ((cls_in ci q hq).1 w h)) (tyOf ci) (cls_in ci q hq).2.1 (cls_in ci q hq).2.2 C.2.2.2.2.1 hW.2.1 hW.1 hW.2.2.1 hS c hg hq j hj (C.2.2.2.2.2.1 _ (List.mem_cons_of_mem _ hl)) (fun x hx => by rw [ho] at hx; exact hx) hm1 ((cls_in ci q hq).2.1 j hj) hfit.1 hfit.2 ?_ hd (fun H1 locs1 hP1 hD1 hS1 => ?_)
  · rw [List.length_map, List.length_zipIdx]; exact (List.getElem?_eq_some_iff.mp hk).1
  · rw [fv_set hk hn, ws_set (r := uset (mem c) j v) (ceE_obj hs)] at hP1 hD1
    refine kk p e s m args below meth c' H1 locs1 ls C ⟨hP1, hW.2.1, hD1, okm_rset hW.2.2.2 (okr_uset (hW.2.2.2 c) ?_)⟩ hS1 hT hL (st2 hst).2.2
    rw [hs]; exact okv0' (st1 hst).1
theorem tys0 : (tysG G)[0]? = some (G.cA 0, .int) := rfl
theorem tys1 : (tysG G)[1]? = some (G.cA 1, .boolean) := rfl
theorem tys2 : (tysG G)[2]? = some (G.cA 2, .long) := rfl
theorem tys3 : (tysG G)[3]? = some (G.cA 3, .array .int) := rfl
theorem shp_ltA {c t n b : Nat} (h : shp c = .inr (t, n, b)) (hn : 0 < n) : c < NC := by
  rcases Nat.lt_or_ge c NC with q | q
  · exact q
  · unfold shp at h
    rw [List.getD_eq_getElem?_getD, List.getElem?_eq_none (show shl.length ≤ c from q)] at h
    simp at h
    omega
theorem e_iald {c n b : Nat} {i : Int} (hd : decode M.2.1 pc = .ok (.iaload, 1)) (hs : shp c = .inr (0, n, b)) (hi : 0 ≤ i ∧ i < n) (kk : Ev G M Q (pc + 1) lo ((0, mem c i.toNat) :: st) mem) : Ev G M Q pc lo ((0, i) :: (2, (c : Int)) :: st) mem := by
  intro p e s m args below meth c' H locs ls C hW hS hT hL hst
  have hc := shp_ltA hs (by omega)
  have hg := ws_get (ad := G.ad) (cA := G.cA) (mem := mem) hc
  rw [ceE_arr hs] at hg
  have ho := okv0' (st1 hst).1
  refine va_iald C.1 C.2.1 hW.2.1 hW.1 c 0 hg tys0 (i32_in ho hi.1 hi.2) hd ?_
  rw [i32_clamp ho hi.1]
  exact kk p e s m args below meth c' H locs ls C hW hS hT hL (stp (okv0 (okm_arr hW.2.2.2 hs (by decide))) (st2 hst).2.2)
theorem e_zald {c n b : Nat} {i : Int} (hd : decode M.2.1 pc = .ok (.baload, 1)) (hs : shp c = .inr (1, n, b)) (hi : 0 ≤ i ∧ i < n) (kk : Ev G M Q (pc + 1) lo ((0, mem c i.toNat) :: st) mem) : Ev G M Q pc lo ((0, i) :: (2, (c : Int)) :: st) mem := by
  intro p e s m args below meth c' H locs ls C hW hS hT hL hst
  have hc := shp_ltA hs (by omega)
  have hg := ws_get (ad := G.ad) (cA := G.cA) (mem := mem) hc
  rw [ceE_arr hs] at hg
  have ho := okv0' (st1 hst).1
  refine va_zald C.1 C.2.1 hW.2.1 hW.1 c 1 hg tys1 (i32_in ho hi.1 hi.2) hd ?_
  rw [i32_clamp ho hi.1]
  exact kk p e s m args below meth c' H locs ls C hW hS hT hL (stp (okv0 (okm_arr hW.2.2.2 hs (by decide))) (st2 hst).2.2)
theorem e_lald {c n b : Nat} {i : Int} (hd : decode M.2.1 pc = .ok (.laload, 1)) (hs : shp c = .inr (2, n, b)) (hi : 0 ≤ i ∧ i < n) (kk : Ev G M Q (pc + 1) lo ((1, mem c i.toNat) :: st) mem) : Ev G M Q pc lo ((0, i) :: (2, (c : Int)) :: st) mem := by
  intro p e s m args below meth c' H locs ls C hW hS hT hL hst
  have hc := shp_ltA hs (by omega)
  have hg := ws_get (ad := G.ad) (cA := G.cA) (mem := mem) hc
  rw [ceE_arr hs] at hg
  have ho := okv0' (st1 hst).1
  refine va_lald C.1 C.2.1 hW.2.1 hW.1 c 2 hg tys2 (i32_in ho hi.1 hi.2) hd ?_
  rw [i32_clamp ho hi.1]
  exact kk p e s m args below meth c' H locs ls C hW hS hT hL (stp (okv1 (okm_arrL hW.2.2.2 hs)) (st2 hst).2.2)
/-- a row of an array of rows -/
theorem e_aald {c n b : Nat} {i : Int} (hd : decode M.2.1 pc = .ok (.aaload, 1)) (hs : shp c = .inr (3, n, b)) (hi : 0 ≤ i ∧ i < n) (kk : Ev G M Q (pc + 1) lo ((2, (b : Int) + i) :: st) mem) : Ev G M Q pc lo ((0, i) :: (2, (c : Int)) :: st) mem := by
  intro p e s m args below meth c' H locs ls C hW hS hT hL hst
  have hc := shp_ltA hs (by omega)
  have hg := ws_get (ad := G.ad) (cA := G.cA) (mem := mem) hc
  rw [ceE_arr hs] at hg
  have ho := okv0' (st1 hst).1
  have hin := i32_in ho hi.1 hi.2
  have hlt : (Int32.ofInt i).toNatClampNeg < n := Nat.not_le.mp fun q => hin (Or.inr q)
  refine W.aald (v := .ref (G.ad ((b : Int) + i).toNat)) (ty := .array .int) C.1 C.2.1 (hW.1 c _ hg) ((hW.2.1.2 3 _ tys3).1 n (fun j => va_rf (if j < n then some (G.ad (b + j)) else none))) rfl (fun q => by cases q) (by show ¬ (_ ∨ (arrV _ _ _).slots.size ≤ _); rw [arrV_size]; exact hin) ?_ rfl rfl hd (kk p e s m args below meth c' H locs ls C hW hS hT hL (stp okv2 (st2 hst).2.2))
  show (arrV _ _ _).slots[_]? = _
  rw [arrV_read _ _ hlt]
  show some (va_rf (if _ < n then _ else _)) = _
  rw [if_pos hlt, i32_clamp ho hi.1, show ((b : Int) + i).toNat = b + i.toNat by omega]
  rfl
theorem e_iast {c n b : Nat} {i v : Int} (hd : decode M.2.1 pc = .ok (.iastore, 1)) (hs : shp c = .inr (0, n, b)) (hi : 0 ≤ i ∧ i < n) (kk : Ev G M Q (pc + 1) lo st (mset mem c i.toNat v)) : Ev G M Q pc lo ((0, v) :: (0, i) :: (2, (c : Int)) :: st) mem := by
  intro p e s m args below meth c' H locs ls C hW hS hT hL hst
  have hc := shp_ltA hs (by omega)
  have hg := ws_get (ad := G.ad) (cA := G.cA) (mem := mem) hc
  rw [ceE_arr hs] at hg
  have ho := okv0' (st2 hst).2.1
  refine va_iast C.1 C.2.1 hW.2.1 hW.1 hW.2.2.1 hS c 0 hg tys0 (i32_in ho hi.1 hi.2) hd (fun H1 locs1 hP1 hD1 hS1 => ?_)
  rw [i32_clamp ho hi.1, ws_set (r := uset (mem c) i.toNat v) (by
    rw [ceE_arr hs]
    show Sum.inl (_, n, Sum.inl _) = Sum.inl (_, n, Sum.inl _)
    congr 4
    funext j
    unfold uset upd
    split <;> rfl)] at hP1 hD1
  refine kk p e s m args below meth c' H1 locs1 ls C ⟨hP1, hW.2.1, hD1, okm_rset hW.2.2.2 (okr_uset (hW.2.2.2 c) ?_)⟩ hS1 hT hL (st3 hst).2.2.2
  rw [hs]; exact okv0' (st1 hst).1
theorem e_zast {c n b : Nat} {i v : Int} (hd : decode M.2.1 pc = .ok (.bastore, 1)) (hs : shp c = .inr (1, n, b)) (hi : 0 ≤ i ∧ i < n) (hv : v = 0 ∨ v = 1) (kk : Ev G M Q (pc + 1) lo st (mset mem c i.toNat v)) : Ev G M Q pc lo ((0, v) :: (0, i) :: (2, (c : Int)) :: st) mem := by
  intro p e s m args below meth c' H locs ls C hW hS hT hL hst
  have hc := shp_ltA hs (by omega)
  have hg := ws_get (ad := G.ad) (cA := G.cA) (mem := mem) hc
  rw [ceE_arr hs] at hg
  have ho := okv0' (st2 hst).2.1
  refine va_zast C.1 C.2.1 hW.2.1 hW.1 hW.2.2.1 hS c 1 hg tys1 (i32_in ho hi.1 hi.2) hd (fun H1 locs1 hP1 hD1 hS1 => ?_)
  have hnar : vp_nar .boolean (Int32.ofInt v) = Int32.ofInt v := by rcases hv with rfl | rfl <;> rfl
  rw [hnar, i32_clamp ho hi.1, ws_set (r := uset (mem c) i.toNat v) (by
    rw [ceE_arr hs]
    show Sum.inl (_, n, Sum.inl _) = Sum.inl (_, n, Sum.inl _)
    congr 4
    funext j
    unfold uset upd
    split <;> rfl)] at hP1 hD1
  refine kk p e s m args below meth c' H1 locs1 ls C ⟨hP1, hW.2.1, hD1, okm_rset hW.2.2.2 (okr_uset (hW.2.2.2 c) ?_)⟩ hS1 hT hL (st3 hst).2.2.2
  rw [hs]; exact okv0' (st1 hst).1
theorem e_last {c n b : Nat} {i v : Int} (hd : decode M.2.1 pc = .ok (.lastore, 1)) (hs : shp c = .inr (2, n, b)) (hi : 0 ≤ i ∧ i < n) (kk : Ev G M Q (pc + 1) lo st (mset mem c i.toNat v)) : Ev G M Q pc lo ((1, v) :: (0, i) :: (2, (c : Int)) :: st) mem := by
  intro p e s m args below meth c' H locs ls C hW hS hT hL hst
  have hc := shp_ltA hs (by omega)
  have hg := ws_get (ad := G.ad) (cA := G.cA) (mem := mem) hc
  rw [ceE_arr hs] at hg
  have ho := okv0' (st2 hst).2.1
  refine va_last C.1 C.2.1 hW.2.1 hW.1 hW.2.2.1 hS c 2 hg tys2 (i32_in ho hi.1 hi.2) hd (fun H1 locs1 hP1 hD1 hS1 => ?_)
  rw [i32_clamp ho hi.1, ws_set (r := uset (mem c) i.toNat v) (by
    rw [ceE_arr hs]
    show Sum.inl (_, n, Sum.inr (Sum.inl _)) = Sum.inl (_, n, Sum.inr (Sum.inl _))
    congr 5
    funext j
    unfold uset vp_updL
    split <;> rfl)] at hP1 hD1
  refine kk p e s m args below meth c' H1 locs1 ls C ⟨hP1, hW.2.1, hD1, okm_rset hW.2.2.2 (okr_uset (hW.2.2.2 c) ?_)⟩ hS1 hT hL (st3 hst).2.2.2
  rw [hs]; exact okv1' (st1 hst).1
theorem e_alen {c t n b : Nat} (hd : decode M.2.1 pc = .ok (.arraylength, 1)) (hs : shp c = .inr (t, n, b)) (ht : t < 4) (hn : 0 < n ∧ n < 2147483648) (kk : Ev G M Q (pc + 1) lo ((0, (n : Int)) :: st) mem) : Ev G M Q pc lo ((2, (c : Int)) :: st) mem := by
  intro p e s m args below meth c' H locs ls C hW hS hT hL hst
  have hc := shp_ltA hs hn.1
  have hg := ws_get (ad := G.ad) (cA := G.cA) (mem := mem) hc
  rw [ceE_arr hs] at hg
  have hk := kk p e s m args below meth c' H locs ls C hW hS hT hL (stp (okv0 (by omega)) (st1 hst).2)
  have hv : Int32.ofNat n = Int32.ofInt (n : Int) := rfl
  match t, ht with
  | 0, _ => exact va_alen C.1 C.2.1 hW.2.1 hW.1 c 0 hg tys0 hv hd hk
  | 1, _ => exact va_alen C.1 C.2.1 hW.2.1 hW.1 c 1 hg tys1 hv hd hk
  | 2, _ => exact va_alen C.1 C.2.1 hW.2.1 hW.1 c 2 hg tys2 hv hd hk
  | 3, _ => exact va_alen C.1 C.2.1 hW.2.1 hW.1 c 3 hg tys3 hv hd hk
/-- the static rows -/
theorem e_gets {ix k : Nat} (hd : decode M.2.1 pc = .ok (.getstatic ix, 3)) (hk : k < 4) (hl : Cond.fieldLink M.1.cls ix "HallMinutes" (stN k) "[I" ∈ wtb) (kk : Ev G M Q (pc + 3) lo ((2, ((NC + k : Nat) : Int)) :: st) mem) : Ev G M Q pc lo st mem := by
  intro p e s m args below meth c' H locs ls C hW hS hT hL hst
  exact va_gets C.1 C.2.1 (hT k hk).1 hS C.2.2.2.2.1 (C.2.2.2.2.2.1 _ (List.mem_cons_of_mem _ hl)) (fun x h => h) hd (kk p e s m args below meth c' H locs ls C hW hS hT hL (stp okv2 hst))
theorem e_siald {k : Nat} {i : Int} (hd : decode M.2.1 pc = .ok (.iaload, 1)) (hk : k < 4) (hi : 0 ≤ i ∧ i < (stV k).length) (hv : okI ((stV k).getD i.toNat 0)) (kk : Ev G M Q (pc + 1) lo ((0, (stV k).getD i.toNat 0) :: st) mem) : Ev G M Q pc lo ((0, i) :: (2, ((NC + k : Nat) : Int)) :: st) mem := by
  intro p e s m args below meth c' H locs ls C hW hS hT hL hst
  have ho := okv0' (st1 hst).1
  refine va_ti C.1 C.2.1 (hT k hk).2 hS (i32_in ho hi.1 hi.2) (v := .int (Int32.ofInt ((stV k).getD i.toNat 0))) (by rw [i32_clamp ho hi.1]) hd ?_
  exact kk p e s m args below meth c' H locs ls C hW hS hT hL (stp (okv0 hv) (st2 hst).2.2)
theorem e_salen {k : Nat} (hd : decode M.2.1 pc = .ok (.arraylength, 1)) (hk : k < 4) (kk : Ev G M Q (pc + 1) lo ((0, ((stV k).length : Int)) :: st) mem) : Ev G M Q pc lo ((2, ((NC + k : Nat) : Int)) :: st) mem := by
  intro p e s m args below meth c' H locs ls C hW hS hT hL hst
  have h9 : (stV k).length < 6 := by
    match k, hk with
    | 0, _ => decide
    | 1, _ => decide
    | 2, _ => decide
    | 3, _ => decide
  exact va_tlen C.1 C.2.1 (hT k hk).2 hS rfl hd (kk p e s m args below meth c' H locs ls C hW hS hT hL (stp (okv0 (by omega)) (st1 hst).2))
-- System.arraycopy between int rows
def cpy (f g : Nat → Int) (sp dp n : Nat) : Nat → Int := fun j => if dp ≤ j ∧ j < dp + n then f (sp + (j - dp)) else g j
end MHeap
end
section
theorem tbl_good {w : Cond} (h : w ∈ wtb) : goodWord w = true := (List.mem_filter.mp h).2
section MCalls
variable {G : Gm} {M : Mt} {Q : Option AV → Mem → Prop} {pc : Nat} {lo st : List AV} {mem : Mem}
theorem Wd.moved {U V : State} {H : Heap} (h : Wd G mem U H) (hvm : U.vm.Alike V.vm) : Wd G mem V H := ⟨h.1, va_K.moved hvm h.2.1, h.2.2.1, h.2.2.2⟩
theorem Sta.moved {U V : State} {H : Heap} (h : Sta G U H) (hvm : U.vm.Alike V.vm) : Sta G V H := fun k hk => ⟨(h k hk).1.moved hvm, (h k hk).2.moved hvm⟩
theorem Sta.kept {U : State} {H H1 : Heap} (h : Sta G U H) (hq : ∀ a : Nat, a < H.size → ¬ AA G a → H1[a]? = H[a]?) : Sta G U H1 := fun k hk => ⟨(h k hk).1.kept hq, (h k hk).2.kept hq⟩
-- returns
theorem e_iret {z : Int} (hd : decode M.2.1 pc = .ok (.ireturn, 1)) (hr : M.2.2.2.1 = some .int) (hq : Q (some (0, z)) mem) : Ev G M Q pc lo [(0, z)] mem := by
  intro p e s m args below meth c H locs ls C hW hS hT hL hst
  have hlocks := C.2.2.2.2.2.2
  exact W.iret (v := Int32.ofInt z) C.1 C.2.1 (C.2.2.1.trans hr) (fun t ht hWm => ⟨⟨some (0, z), mem, rfl, fun v hv => by cases hv; exact (st1 hst).1, hq, by rw [ht]; exact hW.moved hWm.alike⟩, hS.F ht⟩) hS.2.2 hd
theorem e_zret {z : Int} (hd : decode M.2.1 pc = .ok (.ireturn, 1)) (hr : M.2.2.2.1 = some .boolean) (hz : z = 0 ∨ z = 1) (hq : Q (some (0, z)) mem) : Ev G M Q pc lo [(0, z)] mem := by
  intro p e s m args below meth c H locs ls C hW hS hT hL hst
  have hlocks := C.2.2.2.2.2.2
  exact W.zret (v := Int32.ofInt z) C.1 C.2.1 (C.2.2.1.trans hr) (by rcases hz with rfl | rfl <;> rfl) (fun t ht hWm => ⟨⟨some (0, z), mem, rfl, fun v hv => by cases hv; exact (st1 hst).1, hq, by rw [ht]; exact hW.moved hWm.alike⟩, hS.F ht⟩) hS.2.2 hd
theorem e_lret {z : Int} (hd : decode M.2.1 pc = .ok (.lreturn, 1)) (hr : M.2.2.2.1 = some .long) (hq : Q (some (1, z)) mem) : Ev G M Q pc lo [(1, z)] mem := by
  intro p e s m args below meth c H locs ls C hW hS hT hL hst
  have hlocks := C.2.2.2.2.2.2
  exact W.lret (v := Int64.ofInt z) C.1 C.2.1 (C.2.2.1.trans hr) (fun t ht hWm => ⟨⟨some (1, z), mem, rfl, fun v hv => by cases hv; exact (st1 hst).1, hq, by rw [ht]; exact hW.moved hWm.alike⟩, hS.F ht⟩) hS.2.2 hd
theorem e_vret (hd : decode M.2.1 pc = .ok (.return_, 1)) (hr : M.2.2.2.1 = none) (hq : Q none mem) : Ev G M Q pc lo [] mem := by
  intro p e s m args below meth c H locs ls C hW hS hT hL hst
  have hlocks := C.2.2.2.2.2.2
  exact W.vret C.1 C.2.1 (C.2.2.1.trans hr) (fun t ht hWm => ⟨⟨none, mem, rfl, (fun v hv => by cases hv), hq, by rw [ht]; exact hW.moved hWm.alike⟩, hS.F ht⟩) hS.2.2 hd
-- a method's entry
def exLo (as : List AV) : List AV := as.flatMap (fun v => if v.1 = 1 then [v, (3, 0)] else [v])
def entLo (as : List AV) (n : Nat) : List AV := exLo as ++ List.replicate (n - (exLo as).length) (3, 0)
theorem exLo_len (ad : Nat → Nat) : ∀ as : List AV, (lg_sl (as.map (cv ad))).length = (exLo as).length
  | [] => rfl
  | v :: as => by
    have ih := exLo_len ad as
    unfold lg_sl exLo at *
    rw [List.map_cons, List.flatMap_cons, List.flatMap_cons, List.length_append, List.length_append, ih, cv_category]
    obtain ⟨t, z⟩ := v
    match t with
    | 0 => rfl
    | 1 => rfl
    | t + 2 => rfl
theorem exLo_mem (ad : Nat → Nat) : ∀ (as : List AV) (k i : Nat) (v : AV), (exLo as)[i]? = some v → v.1 ≠ 3 → v ∈ as ∧ (k + i, cv ad v) ∈ lv_args k (as.map (cv ad))
  | [], k, i, v, h, h3 => by simp [exLo] at h
  | u :: as, k, i, v, h, h3 => by
    have he : exLo (u :: as) = (if u.1 = 1 then [u, (3, 0)] else [u]) ++ exLo as := rfl
    rw [he] at h
    rw [List.map_cons]
    unfold lv_args
    rw [cv_category]
    by_cases hu : u.1 = 1
    · rw [if_pos hu] at h
      have hc : cv_cat u = 2 := by obtain ⟨t, z⟩ := u; cases hu; rfl
      rw [hc, if_pos rfl]
      match i, h with
      | 0, h => cases h; exact ⟨List.mem_cons_self, List.mem_cons_self⟩
      | 1, h => cases h; exact absurd rfl h3
      | i + 2, h =>
        have h' : (exLo as)[i]? = some v := h
        obtain ⟨r1, r2⟩ := exLo_mem ad as (k + 2) i v h' h3
        exact ⟨List.mem_cons_of_mem _ r1, List.mem_cons_of_mem _ (by rw [show k + (i + 2) = k + 2 + i by omega]; exact r2)⟩
    · rw [if_neg hu] at h
      have hc : cv_cat u = 1 := by
        unfold cv_cat
        obtain ⟨t, z⟩ := u
        match t, hu with
        | 0, _ => rfl
        | t + 2, _ => rfl
      rw [hc, if_neg (by decide)]
      match i, h with
      | 0, h => cases h; exact ⟨List.mem_cons_self, List.mem_cons_self⟩
      | i + 1, h =>
        have h' : (exLo as)[i]? = some v := h
        obtain ⟨r1, r2⟩ := exLo_mem ad as (k + 1) i v h' h3
        exact ⟨List.mem_cons_of_mem _ r1, List.mem_cons_of_mem _ (by rw [show k + (i + 1) = k + 1 + i by omega]; exact r2)⟩
theorem Con.of {as : List AV} {lo : List AV} (hy : plainName M.1.cls = true) (hn : (exLo as).length ≤ M.2.2.1) (hlo : entLo as M.2.2.1 = lo) (k : Ev G M Q 0 lo [] mem) : Con G M as mem Q := by
  intro hok
  refine Met.ofW (cc := M.2.1) (maxL := M.2.2.1) (ret := M.2.2.2.1) hy rfl ?_
  intro p e s m args below meth c s₁ B hml hv
  obtain ⟨rfl, hW, hT⟩ := hv
  have hlen := exLo_len G.ad as
  have hl := lv_entry (as.map (cv G.ad)) (n := M.2.2.1) (by rw [hlen]; exact hn)
  rw [lg_entry_eq]
  generalize (lg_sl (as.map (cv G.ad)) ++ List.replicate (M.2.2.1 - (lg_sl (as.map (cv G.ad))).length) Slot.unset).toArray = ls at hl ⊢
  refine k p e s m _ below meth c s.heap [] ls ⟨B.exec, B.bytes, B.returns, hml, findClass_of_methodNamed B.named, atoms_spec (ws := wds M) B.pre, B.notSynchronized⟩ hW va_S.rf hT ⟨hl.1, hl.2.1, ?_, ?_⟩ (fun v hv => by cases hv)
  · rw [← hlo]; unfold entLo
    rw [List.length_append, List.length_replicate]; omega
  · intro i v hi h3
    rw [← hlo] at hi
    unfold entLo at hi
    rcases Nat.lt_or_ge i (exLo as).length with q | q
    · rw [List.getElem?_append_left q] at hi
      obtain ⟨r1, r2⟩ := exLo_mem G.ad as 0 i v hi h3
      have := hl.2.2 _ r2
      rw [Nat.zero_add] at this
      exact ⟨hok v r1, this⟩
    · rw [List.getElem?_append_right q] at hi
      have := List.getElem?_replicate (n := M.2.2.1 - (exLo as).length) (a := ((3, 0) : AV)) (i := i - (exLo as).length)
      rw [this] at hi
      split at hi
      · cases hi; exact absurd rfl h3
      · cases hi
-- calls
/-- the words of a call of M2 by the link own/ix -/
def MLb (own : String) (ix : Nat) (M M2 : Mt) : Prop := Cond.methodLink own ix M2.1 ∈ wtb ∧ Cond.initialized M2.1.cls ∈ wtb ∧ Cond.code M2.1 M2.2.1 M2.2.2.1 M2.2.2.2.1 ∈ wtb ∧ (M2.1.cls ≠ "java/lang/invoke/MethodHandle" ∧ M2.1.cls ≠ "java/lang/invoke/VarHandle") ∧ M2.2.2.2.2.1 + 1 ≤ M.2.2.2.2.1 ∧ 8 + (M2.2.2.1 + 11) + M2.2.2.2.2.2 ≤ M.2.2.2.2.2
def MLV (own : String) (ix : Nat) (M M2 : Mt) (n : Nat) : Prop := MLb own ix M M2 ∧ (parseMethodDescriptor M2.1.desc).map (fun d => d.parameters.length) = some n ∧ Cond.instanceMethod M2.1 ∈ wtb ∧ Cond.selects M2.1.cls M2.1 M2.1 ∈ wtb
def MLS (own : String) (ix : Nat) (M M2 : Mt) (n : Nat) : Prop := MLb own ix M M2 ∧ (parseMethodDescriptor M2.1.desc).map (fun d => d.parameters.length) = some n ∧ Cond.static M2.1 ∈ wtb
theorem callB_ml {M2 : Mt} {ix n : Nat} {s : State} {args : Array Value} (ht : ∀ w ∈ wds M, w.before args s = true) (h : MLb M.1.cls ix M M2) (hp : (parseMethodDescriptor M2.1.desc).map (fun d => d.parameters.length) = some n) : CallB (rmM M) s args M.1.cls ix M2.1 M2.2.1 M2.2.2.1 M2.2.2.2.1 (wds M2) (rmM M2) 0 0 n := by
  obtain ⟨h1, h2, h3, h4, h5, h6⟩ := h
  refine callB_of (Ts := wds M) n ht ?_ rfl rfl rfl (ht _ (List.mem_cons_of_mem _ h2)) (ht _ (List.mem_cons_of_mem _ h1)) ⟨h4.1, h4.2, hp⟩ ⟨h5, h6⟩
  intro w hw
  have hw2 : w ∈ wtb := by
    rcases List.mem_cons.mp hw with rfl | q
    · exact h3
    · exact q
  exact ⟨List.mem_cons_of_mem _ hw2, good_of_word (tbl_good hw2)⟩
theorem pc_blind {as : List AV} : FrameBlind (va_Pc (as.map (cv G.ad)) (fun U => Wd G mem U U.heap ∧ Sta G U U.heap)) := by
  intro a U g mk ⟨h1, h2, h3⟩
  exact ⟨h1, h2.moved (V := U.calling g mk a) (Vm.Alike.refl U.vm), h3.moved (V := U.calling g mk a) (Vm.Alike.refl U.vm)⟩
theorem e_after {Q2 : Option AV → Mem → Prop} {st0 : List Value} {p : Program} {e : Env} {s : State} {m : MethodId} {args : Array Value} {below : List Frame} {meth : Method} {c : Code} {H : Heap} {locs : List Loc} {ls : Array Slot} {a : Array Value}
    (C : Cx M p s m args meth c) (hW : Wd G mem s H) (hS : va_S (AA G) s.heap H locs) (hT : Sta G s s.heap) (hL : Lh G M.2.2.1 lo ls) (hst : ∀ v ∈ st, okv v)
    (hr : va_Run p G.1 e (rmM M) s m args below meth c H locs 0 0 0 0 (F0 m pc ls st0) (st.map (cv G.ad)) (Qc G Q2 a) (AA G))
    (kk : ∀ (r : Option AV) (mem' : Mem), Q2 r mem' → Ev G M Q (pc + 3) lo (r.toList ++ st) mem') : W p G.1 e (rmM M) s m args below meth c H locs 0 0 (MQ below (Qc G Q) args s 0 0 (AA G)) (F0 m pc ls st0) := by
  intro T hTT X
  obtain ⟨v, st₀, t, T', L, h0, X', hLo, e1, e2, ⟨⟨r, mem', hv, hok, hq, hWd⟩, hz, hk⟩, go⟩ := hr T hTT X
  cases hv
  rw [h0] at hz hk
  have hk2 := kk r mem' hq p e s m args below meth c T'.heap (locs ++ L) ls C ⟨by rw [e1]; exact hWd.1, hW.2.1, hWd.2.2.1, hWd.2.2.2⟩
    ⟨Nat.le_trans hS.1 (by rw [e1]; exact hz), fun q h1 h2 => by rw [e1, hk q (Nat.lt_of_lt_of_le h1 hS.1) h2]; exact hS.2.1 q h1 h2, fun q hq => by
      rcases List.mem_append.mp hq with h | h
      · exact hS.2.2 q h
      · exact hLo q h⟩ hT hL (fun x hx => by
      rcases List.mem_append.mp hx with h | h
      · exact hok x (by simpa using h)
      · exact hst x h)
  obtain ⟨t2, a1, b1⟩ := hk2 T' rfl X'
  refine ⟨t2, go t2 ?_, b1⟩
  have e9 : (r.toList ++ st).map (cv G.ad) = (r.map (cv G.ad)).toList ++ st.map (cv G.ad) := by cases r <;> rfl
  rw [e9] at a1
  exact a1
theorem cats (ad : Nat → Nat) : ∀ st : List AV, ((st.map (cv ad)).map fun v => v.category).sum = (st.map cv_cat).sum
  | [] => rfl
  | v :: st => by rw [List.map_cons, List.map_cons, List.map_cons, List.sum_cons, List.sum_cons, cats ad st, cv_category]
theorem e_callV {M2 : Mt} {Q2 : Option AV → Mem → Prop} {ix c ci n : Nat} {ks : List Int} {as st0 : List AV} (hC : Con G M2 ((2, (c : Int)) :: as) mem Q2) (hd : decode M.2.1 pc = .ok (.invokevirtual ix, 3)) (hm : MLV M.1.cls ix M M2 n) (hn : as.length = n) (hs : shp c = .inl (ci, ks)) (hq : (classes[ci]?).map (fun q => q.1) = some M2.1.cls) (h0 : as.reverse ++ (2, (c : Int)) :: st = st0) (hc : Nat.ble (st.map cv_cat).sum 8 = true)
    (kk : ∀ (r : Option AV) (mem' : Mem), Q2 r mem' → Ev G M Q (pc + 3) lo (r.toList ++ st) mem') : Ev G M Q pc lo st0 mem := by
  subst h0
  intro p e s m args below meth c' H locs ls C hW hS hT hL hst
  have hst' : ∀ v ∈ st, okv v := fun v hv => hst v (List.mem_append_right _ (List.mem_cons_of_mem _ hv))
  have hokA : ∀ v ∈ (2, (c : Int)) :: as, okv v := fun v hv => by
    rcases List.mem_cons.mp hv with rfl | h
    · exact okv2
    · exact hst v (List.mem_append_left _ (List.mem_reverse.mpr h))
  refine e_after (a := (Value.ref (G.ad c) :: as.map (cv G.ad)).toArray) C hW hS hT hL hst' ?_ kk
  have hcb := shp_lt hs
  have hg := ws_get (ad := G.ad) (cA := G.cA) (mem := mem) hcb
  rw [ceE_obj hs] at hg
  obtain ⟨q, hq1, hq2⟩ : ∃ q, classes[ci]? = some q ∧ q.1 = M2.1.cls := by
    cases h9 : classes[ci]? with
    | none => rw [h9] at hq; cases hq
    | some q => rw [h9] at hq; exact ⟨q, rfl, Option.some.inj hq⟩
  obtain ⟨hm1, hm2, hm3, hm4⟩ := hm
  refine va_runV (C := M2.1.cls) (As := as.map (cv G.ad)) (b := G.ad c) ⟨C.1, C.2.1, C.2.2.2.1, C.2.2.2.2.1, C.2.2.2.2.2.1⟩ (hC hokA) ⟨callB_ml C.2.2.2.2.2.1 hm1 hm2, C.2.2.2.2.2.1 _ (List.mem_cons_of_mem _ hm3), C.2.2.2.2.2.1 _ (List.mem_cons_of_mem _ hm4)⟩ ⟨pc_blind, ?_, ?_⟩ rfl (by rw [List.length_map]; exact hn) hL.1 ?_ (lv_room (by rw [cats]; exact Nat.le_of_ble_eq_true hc)) hd ⟨Nat.le_refl _, Nat.le_refl _⟩
  · rw [← hq2]; exact va_recv hW.2.1 hW.1 hq1 hg
  · intro U hU hWm
    exact ⟨rfl, by rw [hU]; exact hW.moved hWm.alike, by rw [hU]; exact (hT.kept hS.2.1).moved hWm.alike⟩
  · show (List.map (cv G.ad) (as.reverse ++ (2, (c : Int)) :: st)) = _
    rw [List.map_append, List.map_reverse]; rfl
theorem e_callS {M2 : Mt} {Q2 : Option AV → Mem → Prop} {ix n : Nat} {as st0 : List AV} (hC : Con G M2 as mem Q2) (hd : decode M.2.1 pc = .ok (.invokestatic ix, 3)) (hm : MLS M.1.cls ix M M2 n) (hn : as.length = n) (h0 : as.reverse ++ st = st0) (hc : Nat.ble (st.map cv_cat).sum 8 = true)
    (kk : ∀ (r : Option AV) (mem' : Mem), Q2 r mem' → Ev G M Q (pc + 3) lo (r.toList ++ st) mem') : Ev G M Q pc lo st0 mem := by
  subst h0
  intro p e s m args below meth c' H locs ls C hW hS hT hL hst
  have hst' : ∀ v ∈ st, okv v := fun v hv => hst v (List.mem_append_right _ hv)
  have hokA : ∀ v ∈ as, okv v := fun v hv => hst v (List.mem_append_left _ (List.mem_reverse.mpr hv))
  refine e_after (a := (as.map (cv G.ad)).toArray) C hW hS hT hL hst' ?_ kk
  obtain ⟨hm1, hm2, hm3⟩ := hm
  refine va_runS (As := as.map (cv G.ad)) ⟨C.1, C.2.1, C.2.2.2.1, C.2.2.2.2.1, C.2.2.2.2.2.1⟩ (hC hokA) ⟨callB_ml C.2.2.2.2.2.1 hm1 hm2, C.2.2.2.2.2.1 _ (List.mem_cons_of_mem _ hm3)⟩ ⟨pc_blind, ?_⟩ rfl (by rw [List.length_map]; exact hn) hL.1 ?_ (lv_room (by rw [cats]; exact Nat.le_of_ble_eq_true hc)) hd ⟨Nat.le_refl _, Nat.le_refl _⟩
  · intro U hU hWm
    exact ⟨rfl, by rw [hU]; exact hW.moved hWm.alike, by rw [hU]; exact (hT.kept hS.2.1).moved hWm.alike⟩
  · show (List.map (cv G.ad) (as.reverse ++ st)) = _
    rw [List.map_append, List.map_reverse]
-- Math.max, min, abs
def MLm (own : String) (ix : Nat) (y : MethodName) (cc : ByteArray) (n : Nat) : Prop := Cond.methodLink own ix y ∈ wtb ∧ Cond.static y ∈ wtb ∧ Cond.initialized "java/lang/Math" ∈ wtb ∧ Cond.code y cc n (some .int) ∈ wtb
theorem e_max {ix : Nat} {a b : Int} (hd : decode M.2.1 pc = .ok (.invokestatic ix, 3)) (hm : MLm M.1.cls ix Lib.Math.max.name Lib.Math.max.code 2) (h1 : 1 ≤ M.2.2.2.2.1) (h2 : Nat.ble ((st.map cv_cat).sum + 13) M.2.2.2.2.2 = true) (kk : Ev G M Q (pc + 3) lo ((0, if a < b then b else a) :: st) mem) : Ev G M Q pc lo ((0, b) :: (0, a) :: st) mem := by
  intro p e s m args below meth c' H locs ls C hW hS hT hL hst
  obtain ⟨hb, ha, hst⟩ := st2 hst
  have hb' := okv0' hb
  have ha' := okv0' ha
  have hk := kk p e s m args below meth c' H locs ls C hW hS hT hL (stp (by split <;> assumption) hst)
  have hts := C.2.2.2.2.2.1
  refine va_mmax C.1 C.2.1 (C.2.2.2.1.trans hL.1.symm) C.2.2.2.2.1 (hts _ (List.mem_cons_of_mem _ hm.1)) (hts _ (List.mem_cons_of_mem _ hm.2.1)) (hts _ (List.mem_cons_of_mem _ hm.2.2.1)) (hts _ (List.mem_cons_of_mem _ hm.2.2.2)) h1 (by rw [cats]; exact Nat.le_of_ble_eq_true h2) (Nat.le_refl _) (Nat.le_refl _) hd ?_
  have e9 : (if Int32.ofInt a < Int32.ofInt b then Int32.ofInt b else Int32.ofInt a) = Int32.ofInt (if a < b then b else a) := by
    by_cases h : a < b
    · rw [if_pos ((i32_lt ha' hb').mpr h), if_pos h]
    · rw [if_neg (fun q => h ((i32_lt ha' hb').mp q)), if_neg h]
  show W _ _ _ _ _ _ _ _ _ _ _ _ _ _ _ (F0 m (pc + 3) ls (.int (if Int32.ofInt a < Int32.ofInt b then Int32.ofInt b else Int32.ofInt a) :: _))
  rw [e9]; exact hk
end MCalls
end
