section
-- ===== PART A: goes FIRST, ahead of the names: the tables' words, and 'selects' of the private methods out of them =====
/-- a private method of a class that the tables say can be made, by its rows of tables_1 -/
def lw_okq (q : MethodName × Nat) : Prop := (q.1.cls ≠ "java/lang/invoke/MethodHandle" ∧ q.1.cls ≠ "java/lang/invoke/VarHandle") ∧ Cond.instantiable q.1.cls q.2 ∈ tables_1 ∧ Cond.privateMethod q.1 ∈ tables_1 ∧ Cond.instanceMethod q.1 ∈ tables_1
theorem lw_p0 : lw_okq (⟨"HallMinutes", "isPlain", "(I)Z"⟩, 8) := ⟨⟨by decide +kernel, by decide +kernel⟩, List.mem_of_getElem? (i := 14) (by decide +kernel), List.mem_of_getElem? (i := 286) (by decide +kernel), List.mem_of_getElem? (i := 287) (by decide +kernel)⟩
theorem lw_p1 : lw_okq (⟨"HallMinutes", "isComer", "(I)Z"⟩, 8) := ⟨⟨by decide +kernel, by decide +kernel⟩, List.mem_of_getElem? (i := 14) (by decide +kernel), List.mem_of_getElem? (i := 309) (by decide +kernel), List.mem_of_getElem? (i := 310) (by decide +kernel)⟩
theorem lw_p2 : lw_okq (⟨"HallMinutes$Rule", "parse", "()V"⟩, 13) := ⟨⟨by decide +kernel, by decide +kernel⟩, List.mem_of_getElem? (i := 53) (by decide +kernel), List.mem_of_getElem? (i := 330) (by decide +kernel), List.mem_of_getElem? (i := 331) (by decide +kernel)⟩
theorem lw_p3 : lw_okq (⟨"HallMinutes$Rule", "opens", "()V"⟩, 13) := ⟨⟨by decide +kernel, by decide +kernel⟩, List.mem_of_getElem? (i := 53) (by decide +kernel), List.mem_of_getElem? (i := 334) (by decide +kernel), List.mem_of_getElem? (i := 335) (by decide +kernel)⟩
theorem lw_p4 : lw_okq (⟨"HallMinutes$Rule", "readsCondition", "()Z"⟩, 13) := ⟨⟨by decide +kernel, by decide +kernel⟩, List.mem_of_getElem? (i := 53) (by decide +kernel), List.mem_of_getElem? (i := 338) (by decide +kernel), List.mem_of_getElem? (i := 339) (by decide +kernel)⟩
theorem lw_p5 : lw_okq (⟨"HallMinutes$Rule", "here", "()I"⟩, 13) := ⟨⟨by decide +kernel, by decide +kernel⟩, List.mem_of_getElem? (i := 53) (by decide +kernel), List.mem_of_getElem? (i := 342) (by decide +kernel), List.mem_of_getElem? (i := 343) (by decide +kernel)⟩
theorem lw_p6 : lw_okq (⟨"HallMinutes$Rule", "number", "(III)I"⟩, 13) := ⟨⟨by decide +kernel, by decide +kernel⟩, List.mem_of_getElem? (i := 53) (by decide +kernel), List.mem_of_getElem? (i := 346) (by decide +kernel), List.mem_of_getElem? (i := 347) (by decide +kernel)⟩
theorem lw_p7 : lw_okq (⟨"HallMinutes$Rule", "readsJoint", "()Z"⟩, 13) := ⟨⟨by decide +kernel, by decide +kernel⟩, List.mem_of_getElem? (i := 53) (by decide +kernel), List.mem_of_getElem? (i := 353) (by decide +kernel), List.mem_of_getElem? (i := 354) (by decide +kernel)⟩
theorem lw_p8 : lw_okq (⟨"HallMinutes$Rule", "closes", "()V"⟩, 13) := ⟨⟨by decide +kernel, by decide +kernel⟩, List.mem_of_getElem? (i := 53) (by decide +kernel), List.mem_of_getElem? (i := 357) (by decide +kernel), List.mem_of_getElem? (i := 358) (by decide +kernel)⟩
theorem lw_p9 : lw_okq (⟨"HallMinutes$Evening", "gather", "(I)V"⟩, 15) := ⟨⟨by decide +kernel, by decide +kernel⟩, List.mem_of_getElem? (i := 102) (by decide +kernel), List.mem_of_getElem? (i := 381) (by decide +kernel), List.mem_of_getElem? (i := 382) (by decide +kernel)⟩
theorem lw_p10 : lw_okq (⟨"HallMinutes$Evening", "firmMinute", "(I)I"⟩, 15) := ⟨⟨by decide +kernel, by decide +kernel⟩, List.mem_of_getElem? (i := 102) (by decide +kernel), List.mem_of_getElem? (i := 385) (by decide +kernel), List.mem_of_getElem? (i := 386) (by decide +kernel)⟩
theorem lw_p11 : lw_okq (⟨"HallMinutes$Evening", "enter", "(I)V"⟩, 15) := ⟨⟨by decide +kernel, by decide +kernel⟩, List.mem_of_getElem? (i := 102) (by decide +kernel), List.mem_of_getElem? (i := 389) (by decide +kernel), List.mem_of_getElem? (i := 390) (by decide +kernel)⟩
theorem lw_p12 : lw_okq (⟨"HallMinutes$Evening", "settle", "(II)I"⟩, 15) := ⟨⟨by decide +kernel, by decide +kernel⟩, List.mem_of_getElem? (i := 102) (by decide +kernel), List.mem_of_getElem? (i := 396) (by decide +kernel), List.mem_of_getElem? (i := 397) (by decide +kernel)⟩
theorem lw_p13 : lw_okq (⟨"HallMinutes$Evening", "callLookers", "()V"⟩, 15) := ⟨⟨by decide +kernel, by decide +kernel⟩, List.mem_of_getElem? (i := 102) (by decide +kernel), List.mem_of_getElem? (i := 400) (by decide +kernel), List.mem_of_getElem? (i := 401) (by decide +kernel)⟩
theorem lw_p14 : lw_okq (⟨"HallMinutes$Evening", "openPrice", "(II)I"⟩, 15) := ⟨⟨by decide +kernel, by decide +kernel⟩, List.mem_of_getElem? (i := 102) (by decide +kernel), List.mem_of_getElem? (i := 444) (by decide +kernel), List.mem_of_getElem? (i := 445) (by decide +kernel)⟩
theorem lw_p15 : lw_okq (⟨"HallMinutes$Grid", "toFirstWay", "()V"⟩, 4) := ⟨⟨by decide +kernel, by decide +kernel⟩, List.mem_of_getElem? (i := 165) (by decide +kernel), List.mem_of_getElem? (i := 485) (by decide +kernel), List.mem_of_getElem? (i := 486) (by decide +kernel)⟩
def lw_privs_1 : List (MethodName × Nat) := [(⟨"HallMinutes", "isPlain", "(I)Z"⟩, 8), (⟨"HallMinutes", "isComer", "(I)Z"⟩, 8), (⟨"HallMinutes$Rule", "parse", "()V"⟩, 13), (⟨"HallMinutes$Rule", "opens", "()V"⟩, 13), (⟨"HallMinutes$Rule", "readsCondition", "()Z"⟩, 13), (⟨"HallMinutes$Rule", "here", "()I"⟩, 13), (⟨"HallMinutes$Rule", "number", "(III)I"⟩, 13), (⟨"HallMinutes$Rule", "readsJoint", "()Z"⟩, 13), (⟨"HallMinutes$Rule", "closes", "()V"⟩, 13), (⟨"HallMinutes$Evening", "gather", "(I)V"⟩, 15), (⟨"HallMinutes$Evening", "firmMinute", "(I)I"⟩, 15), (⟨"HallMinutes$Evening", "enter", "(I)V"⟩, 15), (⟨"HallMinutes$Evening", "settle", "(II)I"⟩, 15), (⟨"HallMinutes$Evening", "callLookers", "()V"⟩, 15), (⟨"HallMinutes$Evening", "openPrice", "(II)I"⟩, 15), (⟨"HallMinutes$Grid", "toFirstWay", "()V"⟩, 4)]
theorem lw_r1 : ∀ q ∈ lw_privs_1, lw_okq q := List.forall_mem_cons.mpr ⟨lw_p0, List.forall_mem_cons.mpr ⟨lw_p1, List.forall_mem_cons.mpr ⟨lw_p2, List.forall_mem_cons.mpr ⟨lw_p3, List.forall_mem_cons.mpr ⟨lw_p4, List.forall_mem_cons.mpr ⟨lw_p5, List.forall_mem_cons.mpr ⟨lw_p6, List.forall_mem_cons.mpr ⟨lw_p7, List.forall_mem_cons.mpr ⟨lw_p8, List.forall_mem_cons.mpr ⟨lw_p9, List.forall_mem_cons.mpr ⟨lw_p10, List.forall_mem_cons.mpr ⟨lw_p11, List.forall_mem_cons.mpr ⟨lw_p12, List.forall_mem_cons.mpr ⟨lw_p13, List.forall_mem_cons.mpr ⟨lw_p14, List.forall_mem_cons.mpr ⟨lw_p15, fun _ h => absurd h List.not_mem_nil⟩⟩⟩⟩⟩⟩⟩⟩⟩⟩⟩⟩⟩⟩⟩⟩
theorem lw_p16 : lw_okq (⟨"HallMinutes$Grid", "toNextWay", "()Z"⟩, 4) := ⟨⟨by decide +kernel, by decide +kernel⟩, List.mem_of_getElem? (i := 165) (by decide +kernel), List.mem_of_getElem? (i := 493) (by decide +kernel), List.mem_of_getElem? (i := 494) (by decide +kernel)⟩
theorem lw_p17 : lw_okq (⟨"HallMinutes$Weeks", "comesTo", "(I)V"⟩, 5) := ⟨⟨by decide +kernel, by decide +kernel⟩, List.mem_of_getElem? (i := 184) (by decide +kernel), List.mem_of_getElem? (i := 518) (by decide +kernel), List.mem_of_getElem? (i := 519) (by decide +kernel)⟩
theorem lw_p18 : lw_okq (⟨"HallMinutes", "trialIsInTime", "()Z"⟩, 8) := ⟨⟨by decide +kernel, by decide +kernel⟩, List.mem_of_getElem? (i := 14) (by decide +kernel), List.mem_of_getElem? (i := 546) (by decide +kernel), List.mem_of_getElem? (i := 547) (by decide +kernel)⟩
theorem lw_p19 : lw_okq (⟨"HallMinutes", "keyBits", "()I"⟩, 8) := ⟨⟨by decide +kernel, by decide +kernel⟩, List.mem_of_getElem? (i := 14) (by decide +kernel), List.mem_of_getElem? (i := 554) (by decide +kernel), List.mem_of_getElem? (i := 555) (by decide +kernel)⟩
theorem lw_p20 : lw_okq (⟨"HallMinutes$Roads", "weight", "(I)J"⟩, 2) := ⟨⟨by decide +kernel, by decide +kernel⟩, List.mem_of_getElem? (i := 210) (by decide +kernel), List.mem_of_getElem? (i := 579) (by decide +kernel), List.mem_of_getElem? (i := 580) (by decide +kernel)⟩
theorem lw_p21 : lw_okq (⟨"HallMinutesModel", "isPlain", "(I)Z"⟩, 50) := ⟨⟨by decide +kernel, by decide +kernel⟩, List.mem_of_getElem? (i := 683) (by decide +kernel), List.mem_of_getElem? (i := 851) (by decide +kernel), List.mem_of_getElem? (i := 852) (by decide +kernel)⟩
theorem lw_p22 : lw_okq (⟨"HallMinutesModel", "isComer", "(I)Z"⟩, 50) := ⟨⟨by decide +kernel, by decide +kernel⟩, List.mem_of_getElem? (i := 683) (by decide +kernel), List.mem_of_getElem? (i := 855) (by decide +kernel), List.mem_of_getElem? (i := 856) (by decide +kernel)⟩
theorem lw_p23 : lw_okq (⟨"HallMinutesModel", "meets", "(I)I"⟩, 50) := ⟨⟨by decide +kernel, by decide +kernel⟩, List.mem_of_getElem? (i := 683) (by decide +kernel), List.mem_of_getElem? (i := 866) (by decide +kernel), List.mem_of_getElem? (i := 867) (by decide +kernel)⟩
theorem lw_p24 : lw_okq (⟨"HallMinutesModel", "faultNow", "()I"⟩, 50) := ⟨⟨by decide +kernel, by decide +kernel⟩, List.mem_of_getElem? (i := 683) (by decide +kernel), List.mem_of_getElem? (i := 890) (by decide +kernel), List.mem_of_getElem? (i := 891) (by decide +kernel)⟩
theorem lw_p25 : lw_okq (⟨"HallMinutesModel", "condition", "(Z)V"⟩, 50) := ⟨⟨by decide +kernel, by decide +kernel⟩, List.mem_of_getElem? (i := 683) (by decide +kernel), List.mem_of_getElem? (i := 894) (by decide +kernel), List.mem_of_getElem? (i := 895) (by decide +kernel)⟩
theorem lw_p26 : lw_okq (⟨"HallMinutesModel", "byteNow", "()I"⟩, 50) := ⟨⟨by decide +kernel, by decide +kernel⟩, List.mem_of_getElem? (i := 683) (by decide +kernel), List.mem_of_getElem? (i := 898) (by decide +kernel), List.mem_of_getElem? (i := 899) (by decide +kernel)⟩
theorem lw_p27 : lw_okq (⟨"HallMinutesModel", "number", "(III)I"⟩, 50) := ⟨⟨by decide +kernel, by decide +kernel⟩, List.mem_of_getElem? (i := 683) (by decide +kernel), List.mem_of_getElem? (i := 902) (by decide +kernel), List.mem_of_getElem? (i := 903) (by decide +kernel)⟩
theorem lw_p28 : lw_okq (⟨"HallMinutesModel", "asTold", "()V"⟩, 50) := ⟨⟨by decide +kernel, by decide +kernel⟩, List.mem_of_getElem? (i := 683) (by decide +kernel), List.mem_of_getElem? (i := 910) (by decide +kernel), List.mem_of_getElem? (i := 911) (by decide +kernel)⟩
theorem lw_p29 : lw_okq (⟨"HallMinutesModel", "goes", "()V"⟩, 50) := ⟨⟨by decide +kernel, by decide +kernel⟩, List.mem_of_getElem? (i := 683) (by decide +kernel), List.mem_of_getElem? (i := 914) (by decide +kernel), List.mem_of_getElem? (i := 915) (by decide +kernel)⟩
theorem lw_p30 : lw_okq (⟨"HallMinutesModel", "comesAll", "()V"⟩, 50) := ⟨⟨by decide +kernel, by decide +kernel⟩, List.mem_of_getElem? (i := 683) (by decide +kernel), List.mem_of_getElem? (i := 918) (by decide +kernel), List.mem_of_getElem? (i := 919) (by decide +kernel)⟩
theorem lw_p31 : lw_okq (⟨"HallMinutesModel", "looks", "(I)Z"⟩, 50) := ⟨⟨by decide +kernel, by decide +kernel⟩, List.mem_of_getElem? (i := 683) (by decide +kernel), List.mem_of_getElem? (i := 922) (by decide +kernel), List.mem_of_getElem? (i := 923) (by decide +kernel)⟩
def lw_privs_2 : List (MethodName × Nat) := [(⟨"HallMinutes$Grid", "toNextWay", "()Z"⟩, 4), (⟨"HallMinutes$Weeks", "comesTo", "(I)V"⟩, 5), (⟨"HallMinutes", "trialIsInTime", "()Z"⟩, 8), (⟨"HallMinutes", "keyBits", "()I"⟩, 8), (⟨"HallMinutes$Roads", "weight", "(I)J"⟩, 2), (⟨"HallMinutesModel", "isPlain", "(I)Z"⟩, 50), (⟨"HallMinutesModel", "isComer", "(I)Z"⟩, 50), (⟨"HallMinutesModel", "meets", "(I)I"⟩, 50), (⟨"HallMinutesModel", "faultNow", "()I"⟩, 50), (⟨"HallMinutesModel", "condition", "(Z)V"⟩, 50), (⟨"HallMinutesModel", "byteNow", "()I"⟩, 50), (⟨"HallMinutesModel", "number", "(III)I"⟩, 50), (⟨"HallMinutesModel", "asTold", "()V"⟩, 50), (⟨"HallMinutesModel", "goes", "()V"⟩, 50), (⟨"HallMinutesModel", "comesAll", "()V"⟩, 50), (⟨"HallMinutesModel", "looks", "(I)Z"⟩, 50)]
theorem lw_r2 : ∀ q ∈ lw_privs_2, lw_okq q := List.forall_mem_cons.mpr ⟨lw_p16, List.forall_mem_cons.mpr ⟨lw_p17, List.forall_mem_cons.mpr ⟨lw_p18, List.forall_mem_cons.mpr ⟨lw_p19, List.forall_mem_cons.mpr ⟨lw_p20, List.forall_mem_cons.mpr ⟨lw_p21, List.forall_mem_cons.mpr ⟨lw_p22, List.forall_mem_cons.mpr ⟨lw_p23, List.forall_mem_cons.mpr ⟨lw_p24, List.forall_mem_cons.mpr ⟨lw_p25, List.forall_mem_cons.mpr ⟨lw_p26, List.forall_mem_cons.mpr ⟨lw_p27, List.forall_mem_cons.mpr ⟨lw_p28, List.forall_mem_cons.mpr ⟨lw_p29, List.forall_mem_cons.mpr ⟨lw_p30, List.forall_mem_cons.mpr ⟨lw_p31, fun _ h => absurd h List.not_mem_nil⟩⟩⟩⟩⟩⟩⟩⟩⟩⟩⟩⟩⟩⟩⟩⟩
theorem lw_p32 : lw_okq (⟨"HallMinutesModel", "beginsNow", "()V"⟩, 50) := ⟨⟨by decide +kernel, by decide +kernel⟩, List.mem_of_getElem? (i := 683) (by decide +kernel), List.mem_of_getElem? (i := 926) (by decide +kernel), List.mem_of_getElem? (i := 927) (by decide +kernel)⟩
theorem lw_p33 : lw_okq (⟨"HallMinutesModel", "paysAll", "()I"⟩, 50) := ⟨⟨by decide +kernel, by decide +kernel⟩, List.mem_of_getElem? (i := 683) (by decide +kernel), List.mem_of_getElem? (i := 938) (by decide +kernel), List.mem_of_getElem? (i := 939) (by decide +kernel)⟩
theorem lw_p34 : lw_okq (⟨"HallMinutesModel", "paysNow", "(I)I"⟩, 50) := ⟨⟨by decide +kernel, by decide +kernel⟩, List.mem_of_getElem? (i := 683) (by decide +kernel), List.mem_of_getElem? (i := 942) (by decide +kernel), List.mem_of_getElem? (i := 943) (by decide +kernel)⟩
theorem lw_p35 : lw_okq (⟨"HallMinutesModel", "bestOf", "(IZ)I"⟩, 50) := ⟨⟨by decide +kernel, by decide +kernel⟩, List.mem_of_getElem? (i := 683) (by decide +kernel), List.mem_of_getElem? (i := 950) (by decide +kernel), List.mem_of_getElem? (i := 951) (by decide +kernel)⟩
theorem lw_p36 : lw_okq (⟨"HallMinutesModel", "restlessNow", "()I"⟩, 50) := ⟨⟨by decide +kernel, by decide +kernel⟩, List.mem_of_getElem? (i := 683) (by decide +kernel), List.mem_of_getElem? (i := 958) (by decide +kernel), List.mem_of_getElem? (i := 959) (by decide +kernel)⟩
theorem lw_p37 : lw_okq (⟨"HallMinutesModel", "climbNow", "(Z)I"⟩, 50) := ⟨⟨by decide +kernel, by decide +kernel⟩, List.mem_of_getElem? (i := 683) (by decide +kernel), List.mem_of_getElem? (i := 966) (by decide +kernel), List.mem_of_getElem? (i := 967) (by decide +kernel)⟩
theorem lw_p38 : lw_okq (⟨"HallMinutesModel", "climbs", "(Z)Z"⟩, 50) := ⟨⟨by decide +kernel, by decide +kernel⟩, List.mem_of_getElem? (i := 683) (by decide +kernel), List.mem_of_getElem? (i := 970) (by decide +kernel), List.mem_of_getElem? (i := 971) (by decide +kernel)⟩
theorem lw_p39 : lw_okq (⟨"HallMinutesModel", "gathers", "()Z"⟩, 50) := ⟨⟨by decide +kernel, by decide +kernel⟩, List.mem_of_getElem? (i := 683) (by decide +kernel), List.mem_of_getElem? (i := 978) (by decide +kernel), List.mem_of_getElem? (i := 979) (by decide +kernel)⟩
theorem lw_p40 : lw_okq (⟨"HallMinutesModel", "grids", "(I)V"⟩, 50) := ⟨⟨by decide +kernel, by decide +kernel⟩, List.mem_of_getElem? (i := 683) (by decide +kernel), List.mem_of_getElem? (i := 982) (by decide +kernel), List.mem_of_getElem? (i := 983) (by decide +kernel)⟩
theorem lw_p41 : lw_okq (⟨"HallMinutesModel", "restAt", "(I)I"⟩, 50) := ⟨⟨by decide +kernel, by decide +kernel⟩, List.mem_of_getElem? (i := 683) (by decide +kernel), List.mem_of_getElem? (i := 989) (by decide +kernel), List.mem_of_getElem? (i := 990) (by decide +kernel)⟩
theorem lw_p42 : lw_okq (⟨"HallMinutesModel", "isRest", "(I)Z"⟩, 50) := ⟨⟨by decide +kernel, by decide +kernel⟩, List.mem_of_getElem? (i := 683) (by decide +kernel), List.mem_of_getElem? (i := 993) (by decide +kernel), List.mem_of_getElem? (i := 994) (by decide +kernel)⟩
theorem lw_p43 : lw_okq (⟨"HallMinutesModel", "weekNow", "(I)I"⟩, 50) := ⟨⟨by decide +kernel, by decide +kernel⟩, List.mem_of_getElem? (i := 683) (by decide +kernel), List.mem_of_getElem? (i := 1005) (by decide +kernel), List.mem_of_getElem? (i := 1006) (by decide +kernel)⟩
theorem lw_p44 : lw_okq (⟨"HallMinutesModel", "weeks", "(I)V"⟩, 50) := ⟨⟨by decide +kernel, by decide +kernel⟩, List.mem_of_getElem? (i := 683) (by decide +kernel), List.mem_of_getElem? (i := 1009) (by decide +kernel), List.mem_of_getElem? (i := 1010) (by decide +kernel)⟩
theorem lw_p45 : lw_okq (⟨"HallMinutesModel", "isSameWeek", "(II)Z"⟩, 50) := ⟨⟨by decide +kernel, by decide +kernel⟩, List.mem_of_getElem? (i := 683) (by decide +kernel), List.mem_of_getElem? (i := 1017) (by decide +kernel), List.mem_of_getElem? (i := 1018) (by decide +kernel)⟩
theorem lw_p46 : lw_okq (⟨"HallMinutesModel", "keysNow", "(I)I"⟩, 50) := ⟨⟨by decide +kernel, by decide +kernel⟩, List.mem_of_getElem? (i := 683) (by decide +kernel), List.mem_of_getElem? (i := 1036) (by decide +kernel), List.mem_of_getElem? (i := 1037) (by decide +kernel)⟩
theorem lw_p47 : lw_okq (⟨"HallMinutesModel", "oddsNow", "(II)J"⟩, 50) := ⟨⟨by decide +kernel, by decide +kernel⟩, List.mem_of_getElem? (i := 683) (by decide +kernel), List.mem_of_getElem? (i := 1051) (by decide +kernel), List.mem_of_getElem? (i := 1052) (by decide +kernel)⟩
def lw_privs_3 : List (MethodName × Nat) := [(⟨"HallMinutesModel", "beginsNow", "()V"⟩, 50), (⟨"HallMinutesModel", "paysAll", "()I"⟩, 50), (⟨"HallMinutesModel", "paysNow", "(I)I"⟩, 50), (⟨"HallMinutesModel", "bestOf", "(IZ)I"⟩, 50), (⟨"HallMinutesModel", "restlessNow", "()I"⟩, 50), (⟨"HallMinutesModel", "climbNow", "(Z)I"⟩, 50), (⟨"HallMinutesModel", "climbs", "(Z)Z"⟩, 50), (⟨"HallMinutesModel", "gathers", "()Z"⟩, 50), (⟨"HallMinutesModel", "grids", "(I)V"⟩, 50), (⟨"HallMinutesModel", "restAt", "(I)I"⟩, 50), (⟨"HallMinutesModel", "isRest", "(I)Z"⟩, 50), (⟨"HallMinutesModel", "weekNow", "(I)I"⟩, 50), (⟨"HallMinutesModel", "weeks", "(I)V"⟩, 50), (⟨"HallMinutesModel", "isSameWeek", "(II)Z"⟩, 50), (⟨"HallMinutesModel", "keysNow", "(I)I"⟩, 50), (⟨"HallMinutesModel", "oddsNow", "(II)J"⟩, 50)]
theorem lw_r3 : ∀ q ∈ lw_privs_3, lw_okq q := List.forall_mem_cons.mpr ⟨lw_p32, List.forall_mem_cons.mpr ⟨lw_p33, List.forall_mem_cons.mpr ⟨lw_p34, List.forall_mem_cons.mpr ⟨lw_p35, List.forall_mem_cons.mpr ⟨lw_p36, List.forall_mem_cons.mpr ⟨lw_p37, List.forall_mem_cons.mpr ⟨lw_p38, List.forall_mem_cons.mpr ⟨lw_p39, List.forall_mem_cons.mpr ⟨lw_p40, List.forall_mem_cons.mpr ⟨lw_p41, List.forall_mem_cons.mpr ⟨lw_p42, List.forall_mem_cons.mpr ⟨lw_p43, List.forall_mem_cons.mpr ⟨lw_p44, List.forall_mem_cons.mpr ⟨lw_p45, List.forall_mem_cons.mpr ⟨lw_p46, List.forall_mem_cons.mpr ⟨lw_p47, fun _ h => absurd h List.not_mem_nil⟩⟩⟩⟩⟩⟩⟩⟩⟩⟩⟩⟩⟩⟩⟩⟩
theorem lw_p48 : lw_okq (⟨"HallMinutesModel", "roads", "()V"⟩, 50) := ⟨⟨by decide +kernel, by decide +kernel⟩, List.mem_of_getElem? (i := 683) (by decide +kernel), List.mem_of_getElem? (i := 1055) (by decide +kernel), List.mem_of_getElem? (i := 1056) (by decide +kernel)⟩
theorem lw_p49 : lw_okq (⟨"HallMinutesModel", "takes", "(I)J"⟩, 50) := ⟨⟨by decide +kernel, by decide +kernel⟩, List.mem_of_getElem? (i := 683) (by decide +kernel), List.mem_of_getElem? (i := 1059) (by decide +kernel), List.mem_of_getElem? (i := 1060) (by decide +kernel)⟩
theorem lw_p50 : lw_okq (⟨"HallMinutesModel", "meanNow", "(I)J"⟩, 50) := ⟨⟨by decide +kernel, by decide +kernel⟩, List.mem_of_getElem? (i := 683) (by decide +kernel), List.mem_of_getElem? (i := 1071) (by decide +kernel), List.mem_of_getElem? (i := 1072) (by decide +kernel)⟩
theorem lw_p51 : lw_okq (⟨"HallMinutesModel", "lacks", "(III)I"⟩, 50) := ⟨⟨by decide +kernel, by decide +kernel⟩, List.mem_of_getElem? (i := 683) (by decide +kernel), List.mem_of_getElem? (i := 1091) (by decide +kernel), List.mem_of_getElem? (i := 1092) (by decide +kernel)⟩
theorem lw_p52 : lw_okq (⟨"HallMinutesModel", "keep", "(III)V"⟩, 50) := ⟨⟨by decide +kernel, by decide +kernel⟩, List.mem_of_getElem? (i := 683) (by decide +kernel), List.mem_of_getElem? (i := 1095) (by decide +kernel), List.mem_of_getElem? (i := 1096) (by decide +kernel)⟩
theorem lw_p53 : lw_okq (⟨"HallMinutesModel", "sumOf", "(I)I"⟩, 50) := ⟨⟨by decide +kernel, by decide +kernel⟩, List.mem_of_getElem? (i := 683) (by decide +kernel), List.mem_of_getElem? (i := 1116) (by decide +kernel), List.mem_of_getElem? (i := 1117) (by decide +kernel)⟩
def lw_privs_4 : List (MethodName × Nat) := [(⟨"HallMinutesModel", "roads", "()V"⟩, 50), (⟨"HallMinutesModel", "takes", "(I)J"⟩, 50), (⟨"HallMinutesModel", "meanNow", "(I)J"⟩, 50), (⟨"HallMinutesModel", "lacks", "(III)I"⟩, 50), (⟨"HallMinutesModel", "keep", "(III)V"⟩, 50), (⟨"HallMinutesModel", "sumOf", "(I)I"⟩, 50)]
theorem lw_r4 : ∀ q ∈ lw_privs_4, lw_okq q := List.forall_mem_cons.mpr ⟨lw_p48, List.forall_mem_cons.mpr ⟨lw_p49, List.forall_mem_cons.mpr ⟨lw_p50, List.forall_mem_cons.mpr ⟨lw_p51, List.forall_mem_cons.mpr ⟨lw_p52, List.forall_mem_cons.mpr ⟨lw_p53, fun _ h => absurd h List.not_mem_nil⟩⟩⟩⟩⟩⟩
def lw_privs : List (MethodName × Nat) := lw_privs_1 ++ (lw_privs_2 ++ (lw_privs_3 ++ (lw_privs_4)))
def lw_tbl : List Cond := k2_sels lw_privs ++ tables_1
theorem lw_privs_ok : ∀ q ∈ lw_privs, lw_okq q := by
  show ∀ q ∈ lw_privs_1 ++ (lw_privs_2 ++ (lw_privs_3 ++ (lw_privs_4))), lw_okq q
  exact List.forall_mem_append.mpr ⟨lw_r1, List.forall_mem_append.mpr ⟨lw_r2, List.forall_mem_append.mpr ⟨lw_r3, lw_r4⟩⟩⟩
end
section
def RX0 : String := "HallMinutes$Company"
def TX0 : u_T := fun k => match k with
  | 0 => ("HallMinutes$Company", "number", "I", false)
  | 1 => ("HallMinutes$Company", "lag", "[I", true)
  | 2 => ("HallMinutes$Company", "seen", "[I", true)
  | _ => ("HallMinutes$Company", "cost", "[[I", true)
def tyX0 : Nat → FieldType := fun k => match k with
  | 0 => .int
  | 1 => .array .int
  | 2 => .array .int
  | _ => .array (.array .int)
abbrev wsX00 : List Cond := u_ws RX0 TX0 4
theorem nmX0 : ∀ a, a < 4 → ∀ b, b < 4 → a ≠ b → (TX0 a).2.1 ≠ (TX0 b).2.1 := by decide +kernel
theorem tyX0_ok : ∀ k, k < 4 → parseFieldDescriptor (TX0 k).2.2.1 = some (tyX0 k) := by decide +kernel
abbrev cX0_init : ByteArray := prog_2_method_1_code
def yX0_init : MethodName := ⟨RX0, "<init>", "()V"⟩
abbrev cX0_lotsTogether : ByteArray := prog_2_method_2_code
def yX0_lotsTogether : MethodName := ⟨RX0, "lotsTogether", "()I"⟩
def RX1 : String := "HallMinutes$Evening"
def TX1 : u_T := fun k => match k with
  | 0 => ("HallMinutes$Evening", "term", "[I", true)
  | 1 => ("HallMinutes$Evening", "kind", "[I", true)
  | 2 => ("HallMinutes$Evening", "aim", "[I", true)
  | 3 => ("HallMinutes$Evening", "when", "[I", true)
  | 4 => ("HallMinutes$Evening", "late", "I", false)
  | 5 => ("HallMinutes$Evening", "away", "I", false)
  | 6 => ("HallMinutes$Evening", "company", "LHallMinutes$Company;", true)
  | 7 => ("HallMinutes$Evening", "rule", "LHallMinutes$Rule;", true)
  | 8 => ("HallMinutes$Evening", "order", "[I", true)
  | 9 => ("HallMinutes$Evening", "there", "I", false)
  | 10 => ("HallMinutes$Evening", "firm", "[I", true)
  | 11 => ("HallMinutes$Evening", "firms", "I", false)
  | 12 => ("HallMinutes$Evening", "looker", "[I", true)
  | 13 => ("HallMinutes$Evening", "lookers", "I", false)
  | _ => ("HallMinutes$Evening", "next", "[I", true)
def tyX1 : Nat → FieldType := fun k => match k with
  | 0 => .array .int
  | 1 => .array .int
  | 2 => .array .int
  | 3 => .array .int
  | 4 => .int
  | 5 => .int
  | 6 => .object "HallMinutes$Company"
  | 7 => .object "HallMinutes$Rule"
  | 8 => .array .int
  | 9 => .int
  | 10 => .array .int
  | 11 => .int
  | 12 => .array .int
  | 13 => .int
  | _ => .array .int
abbrev wsX10 : List Cond := u_ws RX1 TX1 15
theorem nmX1 : ∀ a, a < 15 → ∀ b, b < 15 → a ≠ b → (TX1 a).2.1 ≠ (TX1 b).2.1 := by decide +kernel
theorem tyX1_ok : ∀ k, k < 15 → parseFieldDescriptor (TX1 k).2.2.1 = some (tyX1 k) := by decide +kernel
abbrev cX1_init : ByteArray := prog_3_method_1_code
def yX1_init : MethodName := ⟨RX1, "<init>", "(LHallMinutes$Company;LHallMinutes$Rule;)V"⟩
abbrev cX1_becomes : ByteArray := prog_3_method_2_code
def yX1_becomes : MethodName := ⟨RX1, "becomes", "(LHallMinutes$Evening;)V"⟩
abbrev cX1_makePunctual : ByteArray := prog_3_method_3_code
def yX1_makePunctual : MethodName := ⟨RX1, "makePunctual", "(I)V"⟩
abbrev cX1_plainBits : ByteArray := prog_3_method_4_code
def yX1_plainBits : MethodName := ⟨RX1, "plainBits", "()I"⟩
abbrev cX1_aimsTogether : ByteArray := prog_3_method_5_code
def yX1_aimsTogether : MethodName := ⟨RX1, "aimsTogether", "()I"⟩
abbrev cX1_comingAt : ByteArray := prog_3_method_6_code
def yX1_comingAt : MethodName := ⟨RX1, "comingAt", "(I)I"⟩
abbrev cX1_reckon : ByteArray := prog_3_method_7_code
def yX1_reckon : MethodName := ⟨RX1, "reckon", "()I"⟩
abbrev cX1_together : ByteArray := prog_3_method_8_code
def yX1_together : MethodName := ⟨RX1, "together", "()I"⟩
abbrev cX1_gather : ByteArray := prog_3_method_9_code
def yX1_gather : MethodName := ⟨RX1, "gather", "(I)V"⟩
abbrev cX1_firmMinute : ByteArray := prog_3_method_10_code
def yX1_firmMinute : MethodName := ⟨RX1, "firmMinute", "(I)I"⟩
abbrev cX1_enter : ByteArray := prog_3_method_11_code
def yX1_enter : MethodName := ⟨RX1, "enter", "(I)V"⟩
abbrev cX1_settle : ByteArray := prog_3_method_12_code
def yX1_settle : MethodName := ⟨RX1, "settle", "(II)I"⟩
abbrev cX1_callLookers : ByteArray := prog_3_method_13_code
def yX1_callLookers : MethodName := ⟨RX1, "callLookers", "()V"⟩
abbrev cX1_price : ByteArray := prog_3_method_14_code
def yX1_price : MethodName := ⟨RX1, "price", "(III)I"⟩
abbrev cX1_bestOf : ByteArray := prog_3_method_15_code
def yX1_bestOf : MethodName := ⟨RX1, "bestOf", "(IZ)I"⟩
abbrev cX1_openPrice : ByteArray := prog_3_method_16_code
def yX1_openPrice : MethodName := ⟨RX1, "openPrice", "(II)I"⟩
abbrev cX1_firstRestless : ByteArray := prog_3_method_17_code
def yX1_firstRestless : MethodName := ⟨RX1, "firstRestless", "()I"⟩
abbrev cX1_restsAmong : ByteArray := prog_3_method_18_code
def yX1_restsAmong : MethodName := ⟨RX1, "restsAmong", "([II)Z"⟩
abbrev cX1_climbs : ByteArray := prog_3_method_19_code
def yX1_climbs : MethodName := ⟨RX1, "climbs", "(Z)Z"⟩
abbrev cX1_goesToNextWeek : ByteArray := prog_3_method_20_code
def yX1_goesToNextWeek : MethodName := ⟨RX1, "goesToNextWeek", "()V"⟩
abbrev cX1_aimsAsOne : ByteArray := prog_3_method_21_code
def yX1_aimsAsOne : MethodName := ⟨RX1, "aimsAsOne", "()J"⟩
def RX2 : String := "HallMinutes$Grid"
def TX2 : u_T := fun k => match k with
  | 0 => ("HallMinutes$Grid", "evening", "LHallMinutes$Evening;", true)
  | 1 => ("HallMinutes$Grid", "minutes", "[I", true)
  | 2 => ("HallMinutes$Grid", "many", "I", false)
  | _ => ("HallMinutes$Grid", "place", "[I", true)
def tyX2 : Nat → FieldType := fun k => match k with
  | 0 => .object "HallMinutes$Evening"
  | 1 => .array .int
  | 2 => .int
  | _ => .array .int
abbrev wsX20 : List Cond := u_ws RX2 TX2 4
theorem nmX2 : ∀ a, a < 4 → ∀ b, b < 4 → a ≠ b → (TX2 a).2.1 ≠ (TX2 b).2.1 := by decide +kernel
theorem tyX2_ok : ∀ k, k < 4 → parseFieldDescriptor (TX2 k).2.2.1 = some (tyX2 k) := by decide +kernel
abbrev cX2_init : ByteArray := prog_4_method_1_code
def yX2_init : MethodName := ⟨RX2, "<init>", "(LHallMinutes$Evening;)V"⟩
abbrev cX2_lay : ByteArray := prog_4_method_2_code
def yX2_lay : MethodName := ⟨RX2, "lay", "(I)V"⟩
abbrev cX2_toFirstWay : ByteArray := prog_4_method_3_code
def yX2_toFirstWay : MethodName := ⟨RX2, "toFirstWay", "()V"⟩
abbrev cX2_toNextWay : ByteArray := prog_4_method_4_code
def yX2_toNextWay : MethodName := ⟨RX2, "toNextWay", "()Z"⟩
abbrev cX2_walk : ByteArray := prog_4_method_5_code
def yX2_walk : MethodName := ⟨RX2, "walk", "(I)I"⟩
abbrev cX2_good : ByteArray := prog_4_method_6_code
def yX2_good : MethodName := ⟨RX2, "good", "()I"⟩
def RX3 : String := "HallMinutes$Roads"
def TX3 : u_T := fun k => match k with
  | 0 => ("HallMinutes$Roads", "company", "LHallMinutes$Company;", true)
  | _ => ("HallMinutes$Roads", "evening", "LHallMinutes$Evening;", true)
def tyX3 : Nat → FieldType := fun k => match k with
  | 0 => .object "HallMinutes$Company"
  | _ => .object "HallMinutes$Evening"
abbrev wsX30 : List Cond := u_ws RX3 TX3 2
theorem nmX3 : ∀ a, a < 2 → ∀ b, b < 2 → a ≠ b → (TX3 a).2.1 ≠ (TX3 b).2.1 := by decide +kernel
theorem tyX3_ok : ∀ k, k < 2 → parseFieldDescriptor (TX3 k).2.2.1 = some (tyX3 k) := by decide +kernel
abbrev cX3_init : ByteArray := prog_5_method_1_code
def yX3_init : MethodName := ⟨RX3, "<init>", "(LHallMinutes$Company;LHallMinutes$Evening;)V"⟩
abbrev cX3_weight : ByteArray := prog_5_method_2_code
def yX3_weight : MethodName := ⟨RX3, "weight", "(I)J"⟩
abbrev cX3_begunBy : ByteArray := prog_5_method_3_code
def yX3_begunBy : MethodName := ⟨RX3, "begunBy", "(I)J"⟩
abbrev cX3_priceOf : ByteArray := prog_5_method_4_code
def yX3_priceOf : MethodName := ⟨RX3, "priceOf", "(I)J"⟩
abbrev cX3_lowest : ByteArray := prog_5_method_5_code
def yX3_lowest : MethodName := ⟨RX3, "lowest", "(JI)J"⟩
def RX4 : String := "HallMinutes$Rule"
def TX4 : u_T := fun k => match k with
  | 0 => ("HallMinutes$Rule", "length", "I", false)
  | 1 => ("HallMinutes$Rule", "faultAt", "I", false)
  | 2 => ("HallMinutes$Rule", "text", "[I", true)
  | 3 => ("HallMinutes$Rule", "at", "I", false)
  | 4 => ("HallMinutes$Rule", "alternatives", "I", false)
  | 5 => ("HallMinutes$Rule", "from", "[I", true)
  | 6 => ("HallMinutes$Rule", "tells", "[Z", true)
  | 7 => ("HallMinutes$Rule", "many", "[I", true)
  | 8 => ("HallMinutes$Rule", "who", "[I", true)
  | 9 => ("HallMinutes$Rule", "openFrom", "I", false)
  | 10 => ("HallMinutes$Rule", "openTells", "Z", false)
  | 11 => ("HallMinutes$Rule", "openMany", "I", false)
  | _ => ("HallMinutes$Rule", "openWho", "I", false)
def tyX4 : Nat → FieldType := fun k => match k with
  | 0 => .int
  | 1 => .int
  | 2 => .array .int
  | 3 => .int
  | 4 => .int
  | 5 => .array .int
  | 6 => .array .boolean
  | 7 => .array .int
  | 8 => .array .int
  | 9 => .int
  | 10 => .boolean
  | 11 => .int
  | _ => .int
abbrev wsX40 : List Cond := u_ws RX4 TX4 13
theorem nmX4 : ∀ a, a < 13 → ∀ b, b < 13 → a ≠ b → (TX4 a).2.1 ≠ (TX4 b).2.1 := by decide +kernel
theorem tyX4_ok : ∀ k, k < 13 → parseFieldDescriptor (TX4 k).2.2.1 = some (tyX4 k) := by decide +kernel
abbrev cX4_init : ByteArray := prog_6_method_1_code
def yX4_init : MethodName := ⟨RX4, "<init>", "()V"⟩
abbrev cX4_takes : ByteArray := prog_6_method_2_code
def yX4_takes : MethodName := ⟨RX4, "takes", "(I)Z"⟩
abbrev cX4_empties : ByteArray := prog_6_method_3_code
def yX4_empties : MethodName := ⟨RX4, "empties", "()V"⟩
abbrev cX4_parse : ByteArray := prog_6_method_4_code
def yX4_parse : MethodName := ⟨RX4, "parse", "()V"⟩
abbrev cX4_here : ByteArray := prog_6_method_5_code
def yX4_here : MethodName := ⟨RX4, "here", "()I"⟩
abbrev cX4_readsCondition : ByteArray := prog_6_method_6_code
def yX4_readsCondition : MethodName := ⟨RX4, "readsCondition", "()Z"⟩
abbrev cX4_number : ByteArray := prog_6_method_7_code
def yX4_number : MethodName := ⟨RX4, "number", "(III)I"⟩
abbrev cX4_readsJoint : ByteArray := prog_6_method_8_code
def yX4_readsJoint : MethodName := ⟨RX4, "readsJoint", "()Z"⟩
abbrev cX4_opens : ByteArray := prog_6_method_9_code
def yX4_opens : MethodName := ⟨RX4, "opens", "()V"⟩
abbrev cX4_closes : ByteArray := prog_6_method_10_code
def yX4_closes : MethodName := ⟨RX4, "closes", "()V"⟩
abbrev cX4_beginning : ByteArray := prog_6_method_11_code
def yX4_beginning : MethodName := ⟨RX4, "beginning", "(I[II[I)I"⟩
def RX5 : String := "HallMinutes$Sheets"
def TX5 : u_T := fun k => match k with
  | 0 => ("HallMinutes$Sheets", "item", "[[I", true)
  | 1 => ("HallMinutes$Sheets", "form", "[I", true)
  | 2 => ("HallMinutes$Sheets", "size", "[I", true)
  | _ => ("HallMinutes$Sheets", "latest", "I", false)
def tyX5 : Nat → FieldType := fun k => match k with
  | 0 => .array (.array .int)
  | 1 => .array .int
  | 2 => .array .int
  | _ => .int
abbrev wsX50 : List Cond := u_ws RX5 TX5 4
theorem nmX5 : ∀ a, a < 4 → ∀ b, b < 4 → a ≠ b → (TX5 a).2.1 ≠ (TX5 b).2.1 := by decide +kernel
theorem tyX5_ok : ∀ k, k < 4 → parseFieldDescriptor (TX5 k).2.2.1 = some (tyX5 k) := by decide +kernel
abbrev cX5_init : ByteArray := prog_7_method_1_code
def yX5_init : MethodName := ⟨RX5, "<init>", "()V"⟩
abbrev cX5_finds : ByteArray := prog_7_method_2_code
def yX5_finds : MethodName := ⟨RX5, "finds", "(I)I"⟩
abbrev cX5_isGone : ByteArray := prog_7_method_3_code
def yX5_isGone : MethodName := ⟨RX5, "isGone", "(I)Z"⟩
abbrev cX5_lay : ByteArray := prog_7_method_4_code
def yX5_lay : MethodName := ⟨RX5, "lay", "(III)V"⟩
abbrev cX5_drop : ByteArray := prog_7_method_5_code
def yX5_drop : MethodName := ⟨RX5, "drop", "(I)V"⟩
abbrev cX5_findingAt : ByteArray := prog_7_method_6_code
def yX5_findingAt : MethodName := ⟨RX5, "findingAt", "(III)I"⟩
abbrev cX5_hasItems : ByteArray := prog_7_method_7_code
def yX5_hasItems : MethodName := ⟨RX5, "hasItems", "(III)Z"⟩
abbrev cX5_lowest : ByteArray := prog_7_method_8_code
def yX5_lowest : MethodName := ⟨RX5, "lowest", "(II)I"⟩
def RX6 : String := "HallMinutes$Weeks"
def TX6 : u_T := fun k => match k with
  | 0 => ("HallMinutes$Weeks", "begin", "[I", true)
  | 1 => ("HallMinutes$Weeks", "first", "I", false)
  | 2 => ("HallMinutes$Weeks", "later", "I", false)
  | 3 => ("HallMinutes$Weeks", "evening", "LHallMinutes$Evening;", true)
  | _ => ("HallMinutes$Weeks", "aims", "[J", true)
def tyX6 : Nat → FieldType := fun k => match k with
  | 0 => .array .int
  | 1 => .int
  | 2 => .int
  | 3 => .object "HallMinutes$Evening"
  | _ => .array .long
abbrev wsX60 : List Cond := u_ws RX6 TX6 5
theorem nmX6 : ∀ a, a < 5 → ∀ b, b < 5 → a ≠ b → (TX6 a).2.1 ≠ (TX6 b).2.1 := by decide +kernel
theorem tyX6_ok : ∀ k, k < 5 → parseFieldDescriptor (TX6 k).2.2.1 = some (tyX6 k) := by decide +kernel
abbrev cX6_init : ByteArray := prog_8_method_1_code
def yX6_init : MethodName := ⟨RX6, "<init>", "(LHallMinutes$Evening;)V"⟩
abbrev cX6_run : ByteArray := prog_8_method_2_code
def yX6_run : MethodName := ⟨RX6, "run", "(I)V"⟩
abbrev cX6_comesTo : ByteArray := prog_8_method_3_code
def yX6_comesTo : MethodName := ⟨RX6, "comesTo", "(I)V"⟩
def RX7 : String := "HallMinutes"
def TX7 : u_T := fun k => match k with
  | 0 => ("HallMinutes", "company", "LHallMinutes$Company;", true)
  | 1 => ("HallMinutes", "rule", "LHallMinutes$Rule;", true)
  | 2 => ("HallMinutes", "now", "LHallMinutes$Evening;", true)
  | 3 => ("HallMinutes", "trial", "LHallMinutes$Evening;", true)
  | 4 => ("HallMinutes", "grid", "LHallMinutes$Grid;", true)
  | 5 => ("HallMinutes", "weeks", "LHallMinutes$Weeks;", true)
  | 6 => ("HallMinutes", "roads", "LHallMinutes$Roads;", true)
  | _ => ("HallMinutes", "sheets", "LHallMinutes$Sheets;", true)
def tyX7 : Nat → FieldType := fun k => match k with
  | 0 => .object "HallMinutes$Company"
  | 1 => .object "HallMinutes$Rule"
  | 2 => .object "HallMinutes$Evening"
  | 3 => .object "HallMinutes$Evening"
  | 4 => .object "HallMinutes$Grid"
  | 5 => .object "HallMinutes$Weeks"
  | 6 => .object "HallMinutes$Roads"
  | _ => .object "HallMinutes$Sheets"
abbrev wsX70 : List Cond := u_ws RX7 TX7 8
theorem nmX7 : ∀ a, a < 8 → ∀ b, b < 8 → a ≠ b → (TX7 a).2.1 ≠ (TX7 b).2.1 := by decide +kernel
theorem tyX7_ok : ∀ k, k < 8 → parseFieldDescriptor (TX7 k).2.2.1 = some (tyX7 k) := by decide +kernel
abbrev cX7_init : ByteArray := prog_1_method_1_code
def yX7_init : MethodName := ⟨RX7, "<init>", "()V"⟩
abbrev cX7_comer : ByteArray := prog_1_method_2_code
def yX7_comer : MethodName := ⟨RX7, "comer", "(III)I"⟩
abbrev cX7_aim : ByteArray := prog_1_method_3_code
def yX7_aim : MethodName := ⟨RX7, "aim", "(II)I"⟩
abbrev cX7_read : ByteArray := prog_1_method_4_code
def yX7_read : MethodName := ⟨RX7, "read", "(I)I"⟩
abbrev cX7_cost : ByteArray := prog_1_method_5_code
def yX7_cost : MethodName := ⟨RX7, "cost", "(III)I"⟩
abbrev cX7_set : ByteArray := prog_1_method_6_code
def yX7_set : MethodName := ⟨RX7, "set", "(II)I"⟩
abbrev cX7_type : ByteArray := prog_1_method_7_code
def yX7_type : MethodName := ⟨RX7, "type", "(I)I"⟩
abbrev cX7_wipe : ByteArray := prog_1_method_8_code
def yX7_wipe : MethodName := ⟨RX7, "wipe", "()I"⟩
abbrev cX7_fault : ByteArray := prog_1_method_9_code
def yX7_fault : MethodName := ⟨RX7, "fault", "()I"⟩
abbrev cX7_begins : ByteArray := prog_1_method_10_code
def yX7_begins : MethodName := ⟨RX7, "begins", "()I"⟩
abbrev cX7_comes : ByteArray := prog_1_method_11_code
def yX7_comes : MethodName := ⟨RX7, "comes", "(I)I"⟩
abbrev cX7_pays : ByteArray := prog_1_method_12_code
def yX7_pays : MethodName := ⟨RX7, "pays", "(I)I"⟩
abbrev cX7_best : ByteArray := prog_1_method_13_code
def yX7_best : MethodName := ⟨RX7, "best", "(IZ)I"⟩
abbrev cX7_restless : ByteArray := prog_1_method_14_code
def yX7_restless : MethodName := ⟨RX7, "restless", "()I"⟩
abbrev cX7_climb : ByteArray := prog_1_method_15_code
def yX7_climb : MethodName := ⟨RX7, "climb", "(ZI)I"⟩
abbrev cX7_rests : ByteArray := prog_1_method_16_code
def yX7_rests : MethodName := ⟨RX7, "rests", "(III)I"⟩
abbrev cX7_lost : ByteArray := prog_1_method_17_code
def yX7_lost : MethodName := ⟨RX7, "lost", "(II)I"⟩
abbrev cX7_week : ByteArray := prog_1_method_18_code
def yX7_week : MethodName := ⟨RX7, "week", "(I)I"⟩
abbrev cX7_round : ByteArray := prog_1_method_19_code
def yX7_round : MethodName := ⟨RX7, "round", "(I)I"⟩
abbrev cX7_moved : ByteArray := prog_1_method_20_code
def yX7_moved : MethodName := ⟨RX7, "moved", "(I)I"⟩
abbrev cX7_least : ByteArray := prog_1_method_21_code
def yX7_least : MethodName := ⟨RX7, "least", "(Z)I"⟩
abbrev cX7_keys : ByteArray := prog_1_method_22_code
def yX7_keys : MethodName := ⟨RX7, "keys", "(I)I"⟩
abbrev cX7_guests : ByteArray := prog_1_method_23_code
def yX7_guests : MethodName := ⟨RX7, "guests", "()I"⟩
abbrev cX7_odds : ByteArray := prog_1_method_24_code
def yX7_odds : MethodName := ⟨RX7, "odds", "(II)J"⟩
abbrev cX7_mean : ByteArray := prog_1_method_25_code
def yX7_mean : MethodName := ⟨RX7, "mean", "(II)J"⟩
abbrev cX7_sure : ByteArray := prog_1_method_26_code
def yX7_sure : MethodName := ⟨RX7, "sure", "(I)I"⟩
abbrev cX7_sheet : ByteArray := prog_1_method_27_code
def yX7_sheet : MethodName := ⟨RX7, "sheet", "(III)I"⟩
abbrev cX7_lose : ByteArray := prog_1_method_28_code
def yX7_lose : MethodName := ⟨RX7, "lose", "(I)I"⟩
abbrev cX7_put : ByteArray := prog_1_method_29_code
def yX7_put : MethodName := ⟨RX7, "put", "(IIII)I"⟩
abbrev cX7_get : ByteArray := prog_1_method_30_code
def yX7_get : MethodName := ⟨RX7, "get", "(III)I"⟩
abbrev cX7_copy : ByteArray := prog_1_method_31_code
def yX7_copy : MethodName := ⟨RX7, "copy", "(IIIII)I"⟩
abbrev cX7_write : ByteArray := prog_1_method_32_code
def yX7_write : MethodName := ⟨RX7, "write", "(I)I"⟩
abbrev cX7_count : ByteArray := prog_1_method_33_code
def yX7_count : MethodName := ⟨RX7, "count", "(I)I"⟩
abbrev cX7_digest : ByteArray := prog_1_method_34_code
def yX7_digest : MethodName := ⟨RX7, "digest", "()J"⟩
abbrev cX7_mayCome : ByteArray := prog_1_method_35_code
def yX7_mayCome : MethodName := ⟨RX7, "mayCome", "(III)Z"⟩
abbrev cX7_mayAim : ByteArray := prog_1_method_36_code
def yX7_mayAim : MethodName := ⟨RX7, "mayAim", "(I)Z"⟩
abbrev cX7_isStep : ByteArray := prog_1_method_37_code
def yX7_isStep : MethodName := ⟨RX7, "isStep", "(I)Z"⟩
abbrev cX7_isSheet : ByteArray := prog_1_method_38_code
def yX7_isSheet : MethodName := ⟨RX7, "isSheet", "(I)Z"⟩
abbrev cX7_isForm : ByteArray := prog_1_method_39_code
def yX7_isForm : MethodName := ⟨RX7, "isForm", "(I)Z"⟩
abbrev cX7_isComer : ByteArray := prog_1_method_40_code
def yX7_isComer : MethodName := ⟨RX7, "isComer", "(I)Z"⟩
abbrev cX7_isPlain : ByteArray := prog_1_method_41_code
def yX7_isPlain : MethodName := ⟨RX7, "isPlain", "(I)Z"⟩
abbrev cX7_trialIsInTime : ByteArray := prog_1_method_42_code
def yX7_trialIsInTime : MethodName := ⟨RX7, "trialIsInTime", "()Z"⟩
abbrev cX7_keyBits : ByteArray := prog_1_method_43_code
def yX7_keyBits : MethodName := ⟨RX7, "keyBits", "()I"⟩
def RX8 : String := "HallMinutesModel"
def TX8 : u_T := fun k => match k with
  | 0 => ("HallMinutesModel", "comers", "I", false)
  | 1 => ("HallMinutesModel", "kindOf", "[I", true)
  | 2 => ("HallMinutesModel", "aimOf", "[I", true)
  | 3 => ("HallMinutesModel", "lookOf", "[I", true)
  | 4 => ("HallMinutesModel", "wait", "[I", true)
  | 5 => ("HallMinutesModel", "late", "[I", true)
  | 6 => ("HallMinutesModel", "miss", "[I", true)
  | 7 => ("HallMinutesModel", "road", "[I", true)
  | 8 => ("HallMinutesModel", "roadLong", "[I", true)
  | 9 => ("HallMinutesModel", "toldNow", "I", false)
  | 10 => ("HallMinutesModel", "fine", "I", false)
  | 11 => ("HallMinutesModel", "food", "I", false)
  | 12 => ("HallMinutesModel", "typed", "I", false)
  | 13 => ("HallMinutesModel", "text", "[I", true)
  | 14 => ("HallMinutesModel", "isRead", "Z", false)
  | 15 => ("HallMinutesModel", "at", "I", false)
  | 16 => ("HallMinutesModel", "fault", "I", false)
  | 17 => ("HallMinutesModel", "conditions", "I", false)
  | 18 => ("HallMinutesModel", "letters", "[I", true)
  | 19 => ("HallMinutesModel", "numbers", "[I", true)
  | 20 => ("HallMinutesModel", "begin", "[Z", true)
  | 21 => ("HallMinutesModel", "aims", "[I", true)
  | 22 => ("HallMinutesModel", "told", "I", false)
  | 23 => ("HallMinutesModel", "fineNow", "I", false)
  | 24 => ("HallMinutesModel", "foodNow", "I", false)
  | 25 => ("HallMinutesModel", "guestBits", "I", false)
  | 26 => ("HallMinutesModel", "goneBits", "I", false)
  | 27 => ("HallMinutesModel", "lateBits", "I", false)
  | 28 => ("HallMinutesModel", "come", "[I", true)
  | 29 => ("HallMinutesModel", "sorted", "[I", true)
  | 30 => ("HallMinutesModel", "beginsAt", "I", false)
  | 31 => ("HallMinutesModel", "plains", "I", false)
  | 32 => ("HallMinutesModel", "plainOf", "[I", true)
  | 33 => ("HallMinutesModel", "costs", "[I", true)
  | 34 => ("HallMinutesModel", "costAll", "[I", true)
  | 35 => ("HallMinutesModel", "marks", "I", false)
  | 36 => ("HallMinutesModel", "wayMany", "I", false)
  | 37 => ("HallMinutesModel", "weights", "[I", true)
  | 38 => ("HallMinutesModel", "restMany", "I", false)
  | 39 => ("HallMinutesModel", "weekAims", "[I", true)
  | 40 => ("HallMinutesModel", "weekBegins", "[I", true)
  | 41 => ("HallMinutesModel", "next", "[I", true)
  | 42 => ("HallMinutesModel", "onRoad", "I", false)
  | 43 => ("HallMinutesModel", "roadOf", "[I", true)
  | 44 => ("HallMinutesModel", "isThere", "[Z", true)
  | 45 => ("HallMinutesModel", "forms", "[I", true)
  | 46 => ("HallMinutesModel", "sizes", "[I", true)
  | 47 => ("HallMinutesModel", "items", "[I", true)
  | 48 => ("HallMinutesModel", "moved", "[I", true)
  | _ => ("HallMinutesModel", "finding", "I", false)
def tyX8 : Nat → FieldType := fun k => match k with
  | 0 => .int
  | 1 => .array .int
  | 2 => .array .int
  | 3 => .array .int
  | 4 => .array .int
  | 5 => .array .int
  | 6 => .array .int
  | 7 => .array .int
  | 8 => .array .int
  | 9 => .int
  | 10 => .int
  | 11 => .int
  | 12 => .int
  | 13 => .array .int
  | 14 => .boolean
  | 15 => .int
  | 16 => .int
  | 17 => .int
  | 18 => .array .int
  | 19 => .array .int
  | 20 => .array .boolean
  | 21 => .array .int
  | 22 => .int
  | 23 => .int
  | 24 => .int
  | 25 => .int
  | 26 => .int
  | 27 => .int
  | 28 => .array .int
  | 29 => .array .int
  | 30 => .int
  | 31 => .int
  | 32 => .array .int
  | 33 => .array .int
  | 34 => .array .int
  | 35 => .int
  | 36 => .int
  | 37 => .array .int
  | 38 => .int
  | 39 => .array .int
  | 40 => .array .int
  | 41 => .array .int
  | 42 => .int
  | 43 => .array .int
  | 44 => .array .boolean
  | 45 => .array .int
  | 46 => .array .int
  | 47 => .array .int
  | 48 => .array .int
  | _ => .int
abbrev wsX80 : List Cond := u_ws RX8 TX8 50
theorem nmX8 : ∀ a, a < 50 → ∀ b, b < 50 → a ≠ b → (TX8 a).2.1 ≠ (TX8 b).2.1 := by decide +kernel
theorem tyX8_ok : ∀ k, k < 50 → parseFieldDescriptor (TX8 k).2.2.1 = some (tyX8 k) := by decide +kernel
abbrev cX8_init : ByteArray := prog_10_method_1_code
def yX8_init : MethodName := ⟨RX8, "<init>", "()V"⟩
abbrev cX8_in : ByteArray := prog_10_method_3_code
def yX8_in : MethodName := ⟨RX8, "in", "(III)Z"⟩
abbrev cX8_ones : ByteArray := prog_10_method_4_code
def yX8_ones : MethodName := ⟨RX8, "ones", "(I)I"⟩
abbrev cX8_amount : ByteArray := prog_10_method_5_code
def yX8_amount : MethodName := ⟨RX8, "amount", "(I)I"⟩
abbrev cX8_lowest : ByteArray := prog_10_method_6_code
def yX8_lowest : MethodName := ⟨RX8, "lowest", "(JJI)J"⟩
abbrev cX8_comer : ByteArray := prog_10_method_7_code
def yX8_comer : MethodName := ⟨RX8, "comer", "(III)I"⟩
abbrev cX8_isComer : ByteArray := prog_10_method_8_code
def yX8_isComer : MethodName := ⟨RX8, "isComer", "(I)Z"⟩
abbrev cX8_isPlain : ByteArray := prog_10_method_9_code
def yX8_isPlain : MethodName := ⟨RX8, "isPlain", "(I)Z"⟩
abbrev cX8_aim : ByteArray := prog_10_method_10_code
def yX8_aim : MethodName := ⟨RX8, "aim", "(II)I"⟩
abbrev cX8_read : ByteArray := prog_10_method_11_code
def yX8_read : MethodName := ⟨RX8, "read", "(I)I"⟩
abbrev cX8_cost : ByteArray := prog_10_method_12_code
def yX8_cost : MethodName := ⟨RX8, "cost", "(III)I"⟩
abbrev cX8_set : ByteArray := prog_10_method_13_code
def yX8_set : MethodName := ⟨RX8, "set", "(II)I"⟩
abbrev cX8_type : ByteArray := prog_10_method_14_code
def yX8_type : MethodName := ⟨RX8, "type", "(I)I"⟩
abbrev cX8_wipe : ByteArray := prog_10_method_15_code
def yX8_wipe : MethodName := ⟨RX8, "wipe", "()I"⟩
abbrev cX8_byteNow : ByteArray := prog_10_method_16_code
def yX8_byteNow : MethodName := ⟨RX8, "byteNow", "()I"⟩
abbrev cX8_number : ByteArray := prog_10_method_17_code
def yX8_number : MethodName := ⟨RX8, "number", "(III)I"⟩
abbrev cX8_condition : ByteArray := prog_10_method_18_code
def yX8_condition : MethodName := ⟨RX8, "condition", "(Z)V"⟩
abbrev cX8_faultNow : ByteArray := prog_10_method_19_code
def yX8_faultNow : MethodName := ⟨RX8, "faultNow", "()I"⟩
abbrev cX8_fault : ByteArray := prog_10_method_20_code
def yX8_fault : MethodName := ⟨RX8, "fault", "()I"⟩
abbrev cX8_asTold : ByteArray := prog_10_method_21_code
def yX8_asTold : MethodName := ⟨RX8, "asTold", "()V"⟩
abbrev cX8_looks : ByteArray := prog_10_method_22_code
def yX8_looks : MethodName := ⟨RX8, "looks", "(I)Z"⟩
abbrev cX8_comesAll : ByteArray := prog_10_method_23_code
def yX8_comesAll : MethodName := ⟨RX8, "comesAll", "()V"⟩
abbrev cX8_beginsNow : ByteArray := prog_10_method_24_code
def yX8_beginsNow : MethodName := ⟨RX8, "beginsNow", "()V"⟩
abbrev cX8_goes : ByteArray := prog_10_method_25_code
def yX8_goes : MethodName := ⟨RX8, "goes", "()V"⟩
abbrev cX8_paysNow : ByteArray := prog_10_method_26_code
def yX8_paysNow : MethodName := ⟨RX8, "paysNow", "(I)I"⟩
abbrev cX8_paysAll : ByteArray := prog_10_method_27_code
def yX8_paysAll : MethodName := ⟨RX8, "paysAll", "()I"⟩
abbrev cX8_begins : ByteArray := prog_10_method_28_code
def yX8_begins : MethodName := ⟨RX8, "begins", "()I"⟩
abbrev cX8_comes : ByteArray := prog_10_method_29_code
def yX8_comes : MethodName := ⟨RX8, "comes", "(I)I"⟩
abbrev cX8_pays : ByteArray := prog_10_method_30_code
def yX8_pays : MethodName := ⟨RX8, "pays", "(I)I"⟩
abbrev cX8_bestOf : ByteArray := prog_10_method_31_code
def yX8_bestOf : MethodName := ⟨RX8, "bestOf", "(IZ)I"⟩
abbrev cX8_best : ByteArray := prog_10_method_32_code
def yX8_best : MethodName := ⟨RX8, "best", "(IZ)I"⟩
abbrev cX8_restlessNow : ByteArray := prog_10_method_33_code
def yX8_restlessNow : MethodName := ⟨RX8, "restlessNow", "()I"⟩
abbrev cX8_restless : ByteArray := prog_10_method_34_code
def yX8_restless : MethodName := ⟨RX8, "restless", "()I"⟩
abbrev cX8_climbs : ByteArray := prog_10_method_35_code
def yX8_climbs : MethodName := ⟨RX8, "climbs", "(Z)Z"⟩
abbrev cX8_climbNow : ByteArray := prog_10_method_36_code
def yX8_climbNow : MethodName := ⟨RX8, "climbNow", "(Z)I"⟩
abbrev cX8_climb : ByteArray := prog_10_method_37_code
def yX8_climb : MethodName := ⟨RX8, "climb", "(ZI)I"⟩
abbrev cX8_minuteOf : ByteArray := prog_10_method_38_code
def yX8_minuteOf : MethodName := ⟨RX8, "minuteOf", "(III)I"⟩
abbrev cX8_gathers : ByteArray := prog_10_method_39_code
def yX8_gathers : MethodName := ⟨RX8, "gathers", "()Z"⟩
abbrev cX8_grids : ByteArray := prog_10_method_40_code
def yX8_grids : MethodName := ⟨RX8, "grids", "(I)V"⟩
abbrev cX8_isRest : ByteArray := prog_10_method_41_code
def yX8_isRest : MethodName := ⟨RX8, "isRest", "(I)Z"⟩
abbrev cX8_restAt : ByteArray := prog_10_method_42_code
def yX8_restAt : MethodName := ⟨RX8, "restAt", "(I)I"⟩
abbrev cX8_rests : ByteArray := prog_10_method_43_code
def yX8_rests : MethodName := ⟨RX8, "rests", "(III)I"⟩
abbrev cX8_lost : ByteArray := prog_10_method_44_code
def yX8_lost : MethodName := ⟨RX8, "lost", "(II)I"⟩
abbrev cX8_weeks : ByteArray := prog_10_method_45_code
def yX8_weeks : MethodName := ⟨RX8, "weeks", "(I)V"⟩
abbrev cX8_weekNow : ByteArray := prog_10_method_46_code
def yX8_weekNow : MethodName := ⟨RX8, "weekNow", "(I)I"⟩
abbrev cX8_week : ByteArray := prog_10_method_47_code
def yX8_week : MethodName := ⟨RX8, "week", "(I)I"⟩
abbrev cX8_isSameWeek : ByteArray := prog_10_method_48_code
def yX8_isSameWeek : MethodName := ⟨RX8, "isSameWeek", "(II)Z"⟩
abbrev cX8_round : ByteArray := prog_10_method_49_code
def yX8_round : MethodName := ⟨RX8, "round", "(I)I"⟩
abbrev cX8_moved : ByteArray := prog_10_method_50_code
def yX8_moved : MethodName := ⟨RX8, "moved", "(I)I"⟩
abbrev cX8_least : ByteArray := prog_10_method_51_code
def yX8_least : MethodName := ⟨RX8, "least", "(Z)I"⟩
abbrev cX8_keysNow : ByteArray := prog_10_method_52_code
def yX8_keysNow : MethodName := ⟨RX8, "keysNow", "(I)I"⟩
abbrev cX8_keys : ByteArray := prog_10_method_53_code
def yX8_keys : MethodName := ⟨RX8, "keys", "(I)I"⟩
abbrev cX8_guests : ByteArray := prog_10_method_54_code
def yX8_guests : MethodName := ⟨RX8, "guests", "()I"⟩
abbrev cX8_roads : ByteArray := prog_10_method_55_code
def yX8_roads : MethodName := ⟨RX8, "roads", "()V"⟩
abbrev cX8_takes : ByteArray := prog_10_method_56_code
def yX8_takes : MethodName := ⟨RX8, "takes", "(I)J"⟩
abbrev cX8_oddsNow : ByteArray := prog_10_method_57_code
def yX8_oddsNow : MethodName := ⟨RX8, "oddsNow", "(II)J"⟩
abbrev cX8_odds : ByteArray := prog_10_method_58_code
def yX8_odds : MethodName := ⟨RX8, "odds", "(II)J"⟩
abbrev cX8_meanNow : ByteArray := prog_10_method_59_code
def yX8_meanNow : MethodName := ⟨RX8, "meanNow", "(I)J"⟩
abbrev cX8_mean : ByteArray := prog_10_method_60_code
def yX8_mean : MethodName := ⟨RX8, "mean", "(II)J"⟩
abbrev cX8_sure : ByteArray := prog_10_method_61_code
def yX8_sure : MethodName := ⟨RX8, "sure", "(I)I"⟩
abbrev cX8_meets : ByteArray := prog_10_method_62_code
def yX8_meets : MethodName := ⟨RX8, "meets", "(I)I"⟩
abbrev cX8_isSheet : ByteArray := prog_10_method_63_code
def yX8_isSheet : MethodName := ⟨RX8, "isSheet", "(I)Z"⟩
abbrev cX8_sheet : ByteArray := prog_10_method_64_code
def yX8_sheet : MethodName := ⟨RX8, "sheet", "(III)I"⟩
abbrev cX8_lose : ByteArray := prog_10_method_65_code
def yX8_lose : MethodName := ⟨RX8, "lose", "(I)I"⟩
abbrev cX8_lacks : ByteArray := prog_10_method_66_code
def yX8_lacks : MethodName := ⟨RX8, "lacks", "(III)I"⟩
abbrev cX8_keep : ByteArray := prog_10_method_67_code
def yX8_keep : MethodName := ⟨RX8, "keep", "(III)V"⟩
abbrev cX8_put : ByteArray := prog_10_method_68_code
def yX8_put : MethodName := ⟨RX8, "put", "(IIII)I"⟩
abbrev cX8_get : ByteArray := prog_10_method_69_code
def yX8_get : MethodName := ⟨RX8, "get", "(III)I"⟩
abbrev cX8_copy : ByteArray := prog_10_method_70_code
def yX8_copy : MethodName := ⟨RX8, "copy", "(IIIII)I"⟩
abbrev cX8_write : ByteArray := prog_10_method_71_code
def yX8_write : MethodName := ⟨RX8, "write", "(I)I"⟩
abbrev cX8_sumOf : ByteArray := prog_10_method_72_code
def yX8_sumOf : MethodName := ⟨RX8, "sumOf", "(I)I"⟩
abbrev cX8_count : ByteArray := prog_10_method_73_code
def yX8_count : MethodName := ⟨RX8, "count", "(I)I"⟩
abbrev cX8_digest : ByteArray := prog_10_method_74_code
def yX8_digest : MethodName := ⟨RX8, "digest", "()J"⟩
def RJ6 : String := "java/lang/Integer"
def TJ6 : u_T := fun k => match k with
  | _ => ("", "", "", false)
def tyJ6 : Nat → FieldType := fun k => match k with
  | _ => .int
theorem nmJ6 : ∀ a, a < 0 → ∀ b, b < 0 → a ≠ b → (TJ6 a).2.1 ≠ (TJ6 b).2.1 := by decide +kernel
theorem tyJ6_ok : ∀ k, k < 0 → parseFieldDescriptor (TJ6 k).2.2.1 = some (tyJ6 k) := by decide +kernel
abbrev cJ6_bitCount_0f7a4 : ByteArray := prog_11_method_49_code
def yJ6_bitCount_0f7a4 : MethodName := ⟨RJ6, "bitCount", "(I)I"⟩
def RJ9 : String := "java/lang/Math"
def TJ9 : u_T := fun k => match k with
  | _ => ("", "", "", false)
def tyJ9 : Nat → FieldType := fun k => match k with
  | _ => .int
theorem nmJ9 : ∀ a, a < 0 → ∀ b, b < 0 → a ≠ b → (TJ9 a).2.1 ≠ (TJ9 b).2.1 := by decide +kernel
theorem tyJ9_ok : ∀ k, k < 0 → parseFieldDescriptor (TJ9 k).2.2.1 = some (tyJ9 k) := by decide +kernel
abbrev cJ9_abs_0f7a4 : ByteArray := prog_12_method_59_code
def yJ9_abs_0f7a4 : MethodName := ⟨RJ9, "abs", "(I)I"⟩
abbrev cJ9_max_7cf53 : ByteArray := prog_12_method_65_code
def yJ9_max_7cf53 : MethodName := ⟨RJ9, "max", "(II)I"⟩
abbrev cJ9_min_7cf53 : ByteArray := prog_12_method_69_code
def yJ9_min_7cf53 : MethodName := ⟨RJ9, "min", "(II)I"⟩
def RJ10 : String := "java/lang/System"
def TJ10 : u_T := fun k => match k with
  | _ => ("", "", "", false)
def tyJ10 : Nat → FieldType := fun k => match k with
  | _ => .int
theorem nmJ10 : ∀ a, a < 0 → ∀ b, b < 0 → a ≠ b → (TJ10 a).2.1 ≠ (TJ10 b).2.1 := by decide +kernel
theorem tyJ10_ok : ∀ k, k < 0 → parseFieldDescriptor (TJ10 k).2.2.1 = some (tyJ10 k) := by decide +kernel
def RL : String := "HallMinutesLaw"
abbrev cL_law : ByteArray := code
def yL_law : MethodName := ⟨RL, "law", "([I)Z"⟩
end
section
-- the classes of the world, its cells (objects: class, slots: -1 an int, -2 a boolean, k a reference to cell k; arrays: kind 0 int, 1 boolean, 2 long, 3 rows; length; first row)
def wtb : List Cond := lw_tbl.filter goodWord
theorem wt {w : Cond} (h : w ∈ lw_tbl) (g : goodWord w = true) : w ∈ wtb := List.mem_filter.mpr ⟨h, g⟩
abbrev classes : List vw_C := [(RX0, TX0, 4), (RX1, TX1, 15), (RX2, TX2, 4), (RX3, TX3, 2), (RX4, TX4, 13), (RX5, TX5, 4), (RX6, TX6, 5), (RX7, TX7, 8), (RX8, TX8, 50)]
def NC : Nat := 78
def shl : List ((Nat × List Int) ⊕ (Nat × Nat × Nat)) := [.inl (7, [1, 10, 16, 25, 34, 37, 40, 41]), .inl (0, [-1, 2, 3, 4]), .inr (0, 8, 0), .inr (0, 8, 0), .inr (3, 5, 5), .inr (0, 8, 0), .inr (0, 8, 0), .inr (0, 8, 0), .inr (0, 8, 0), .inr (0, 8, 0), .inl (4, [-1, -1, 11, -1, -1, 12, 13, 14, 15, -1, -2, -1, -1]), .inr (0, 40, 0), .inr (0, 20, 0), .inr (1, 20, 0), .inr (0, 20, 0), .inr (0, 20, 0), .inl (1, [17, 18, 19, 20, -1, -1, 1, 10, 21, -1, 22, -1, 23, -1, 24]), .inr (0, 3, 0), .inr (0, 8, 0), .inr (0, 8, 0), .inr (0, 8, 0), .inr (0, 8, 0), .inr (0, 8, 0), .inr (0, 8, 0), .inr (0, 8, 0), .inl (1, [26, 27, 28, 29, -1, -1, 1, 10, 30, -1, 31, -1, 32, -1, 33]), .inr (0, 3, 0), .inr (0, 8, 0), .inr (0, 8, 0), .inr (0, 8, 0), .inr (0, 8, 0), .inr (0, 8, 0), .inr (0, 8, 0), .inr (0, 8, 0), .inl (2, [25, 35, -1, 36]), .inr (0, 13, 0), .inr (0, 8, 0), .inl (6, [38, -1, -1, 25, 39]), .inr (0, 61, 0), .inr (2, 61, 0), .inl (3, [1, 25]), .inl (5, [42, 47, 48, -1]), .inr (3, 4, 43), .inr (0, 64, 0), .inr (0, 64, 0), .inr (0, 64, 0), .inr (0, 64, 0), .inr (0, 4, 0), .inr (0, 4, 0), .inl (8, [-1, 50, 51, 52, 53, 54, 55, 56, 57, -1, -1, -1, -1, 58, -2, -1, -1, -1, 59, 60, 61, 62, -1, -1, -1, -1, -1, -1, 63, 64, -1, -1, 65, 66, 67, -1, -1, 68, -1, 69, 70, 71, -1, 72, 73, 74, 75, 76, 77, -1]), .inr (0, 8, 0), .inr (0, 8, 0), .inr (0, 8, 0), .inr (0, 8, 0), .inr (0, 8, 0), .inr (0, 8, 0), .inr (0, 8, 0), .inr (0, 8, 0), .inr (0, 40, 0), .inr (0, 40, 0), .inr (0, 40, 0), .inr (1, 40, 0), .inr (0, 8, 0), .inr (0, 8, 0), .inr (0, 8, 0), .inr (0, 8, 0), .inr (0, 6591, 0), .inr (0, 2197, 0), .inr (0, 3, 0), .inr (0, 488, 0), .inr (0, 61, 0), .inr (0, 8, 0), .inr (0, 8, 0), .inr (1, 4, 0), .inr (0, 4, 0), .inr (0, 4, 0), .inr (0, 256, 0), .inr (0, 64, 0)]
def shp (c : Nat) : (Nat × List Int) ⊕ (Nat × Nat × Nat) := shl.getD c (.inr (0, 0, 0))
theorem inTX0 : ∀ w ∈ u_ws RX0 TX0 4, w ∈ lw_tbl ∧ goodWord w = true := by decide +kernel
theorem inTX1 : ∀ w ∈ u_ws RX1 TX1 15, w ∈ lw_tbl ∧ goodWord w = true := by decide +kernel
theorem inTX2 : ∀ w ∈ u_ws RX2 TX2 4, w ∈ lw_tbl ∧ goodWord w = true := by decide +kernel
theorem inTX3 : ∀ w ∈ u_ws RX3 TX3 2, w ∈ lw_tbl ∧ goodWord w = true := by decide +kernel
theorem inTX4 : ∀ w ∈ u_ws RX4 TX4 13, w ∈ lw_tbl ∧ goodWord w = true := by decide +kernel
theorem inTX5 : ∀ w ∈ u_ws RX5 TX5 4, w ∈ lw_tbl ∧ goodWord w = true := by decide +kernel
theorem inTX6 : ∀ w ∈ u_ws RX6 TX6 5, w ∈ lw_tbl ∧ goodWord w = true := by decide +kernel
theorem inTX7 : ∀ w ∈ u_ws RX7 TX7 8, w ∈ lw_tbl ∧ goodWord w = true := by decide +kernel
theorem inTX8 : ∀ w ∈ u_ws RX8 TX8 50, w ∈ lw_tbl ∧ goodWord w = true := by decide +kernel
def tyOf (ci : Nat) : Nat → FieldType := match ci with
  | 0 => tyX0
  | 1 => tyX1
  | 2 => tyX2
  | 3 => tyX3
  | 4 => tyX4
  | 5 => tyX5
  | 6 => tyX6
  | 7 => tyX7
  | _ => tyX8
theorem cls_in (ci : Nat) (q : vw_C) (h : classes[ci]? = some q) : (∀ w ∈ u_ws q.1 q.2.1 q.2.2, w ∈ wtb) ∧ (∀ k, k < q.2.2 → parseFieldDescriptor (q.2.1 k).2.2.1 = some (tyOf ci k)) ∧ (∀ a, a < q.2.2 → ∀ b, b < q.2.2 → a ≠ b → (q.2.1 a).2.1 ≠ (q.2.1 b).2.1) := by
  match ci, h with
  | 0, h => cases h; exact ⟨fun w h => wt (inTX0 w h).1 (inTX0 w h).2, tyX0_ok, nmX0⟩
  | 1, h => cases h; exact ⟨fun w h => wt (inTX1 w h).1 (inTX1 w h).2, tyX1_ok, nmX1⟩
  | 2, h => cases h; exact ⟨fun w h => wt (inTX2 w h).1 (inTX2 w h).2, tyX2_ok, nmX2⟩
  | 3, h => cases h; exact ⟨fun w h => wt (inTX3 w h).1 (inTX3 w h).2, tyX3_ok, nmX3⟩
  | 4, h => cases h; exact ⟨fun w h => wt (inTX4 w h).1 (inTX4 w h).2, tyX4_ok, nmX4⟩
  | 5, h => cases h; exact ⟨fun w h => wt (inTX5 w h).1 (inTX5 w h).2, tyX5_ok, nmX5⟩
  | 6, h => cases h; exact ⟨fun w h => wt (inTX6 w h).1 (inTX6 w h).2, tyX6_ok, nmX6⟩
  | 7, h => cases h; exact ⟨fun w h => wt (inTX7 w h).1 (inTX7 w h).2, tyX7_ok, nmX7⟩
  | 8, h => cases h; exact ⟨fun w h => wt (inTX8 w h).1 (inTX8 w h).2, tyX8_ok, nmX8⟩
  | k + 9, h => simp [classes] at h
end
section
-- THE ABSTRACT MACHINE: values are (tag, integer): 0 int, 1 long, 2 reference to a cell of the world, 3 nothing known; memory: cell, slot -> integer
abbrev AV : Type := Nat × Int
abbrev Mem : Type := Nat → Nat → Int
abbrev okI (z : Int) : Prop := -2147483648 ≤ z ∧ z ≤ 2147483647
abbrev okL (z : Int) : Prop := -9223372036854775808 ≤ z ∧ z ≤ 9223372036854775807
def w32 (z : Int) : Int := (Int32.ofInt z).toInt
def w64 (z : Int) : Int := (Int64.ofInt z).toInt
theorem okI_of (x : Int32) : okI x.toInt := by
  have h1 := Int32.le_toInt x; have h2 := Int32.toInt_lt x
  constructor <;> omega
theorem okL_of (x : Int64) : okL x.toInt := by
  have h1 := Int64.le_toInt x; have h2 := Int64.toInt_lt x
  constructor <;> omega
theorem i32_toInt {z : Int} (h : okI z) : (Int32.ofInt z).toInt = z := Int32.toInt_ofInt_of_le (by omega) (by omega)
theorem i64_toInt {z : Int} (h : okL z) : (Int64.ofInt z).toInt = z := Int64.toInt_ofInt_of_le (by omega) (by omega)
theorem w32_ok (z : Int) : okI (w32 z) := okI_of _
theorem w64_ok (z : Int) : okL (w64 z) := okL_of _
theorem w32_id {z : Int} (h : okI z) : w32 z = z := i32_toInt h
theorem w64_id {z : Int} (h : okL z) : w64 z = z := i64_toInt h
theorem i32_w (z : Int) : Int32.ofInt (w32 z) = Int32.ofInt z := by unfold w32; exact Int32.ofInt_toInt _
theorem i64_w (z : Int) : Int64.ofInt (w64 z) = Int64.ofInt z := by unfold w64; exact Int64.ofInt_toInt _
theorem i32_back (x : Int32) : Int32.ofInt x.toInt = x := Int32.ofInt_toInt _
theorem i64_back (x : Int64) : Int64.ofInt x.toInt = x := Int64.ofInt_toInt _
theorem i32_eq {a b : Int} (ha : okI a) (hb : okI b) : Int32.ofInt a = Int32.ofInt b ↔ a = b := by
  constructor
  · intro h; rw [← i32_toInt ha, ← i32_toInt hb, h]
  · intro h; rw [h]
theorem i32_lt {a b : Int} (ha : okI a) (hb : okI b) : Int32.ofInt a < Int32.ofInt b ↔ a < b := by
  rw [Int32.lt_iff_toInt_lt, i32_toInt ha, i32_toInt hb]
theorem i32_le {a b : Int} (ha : okI a) (hb : okI b) : Int32.ofInt a ≤ Int32.ofInt b ↔ a ≤ b := by
  rw [Int32.le_iff_toInt_le, i32_toInt ha, i32_toInt hb]
theorem i32_clamp {a : Int} (ha : okI a) (h0 : 0 ≤ a) : (Int32.ofInt a).toNatClampNeg = a.toNat := by
  show (Int32.ofInt a).toInt.toNat = a.toNat
  rw [i32_toInt ha]
theorem i32_in {a : Int} {n : Nat} (ha : okI a) (h0 : 0 ≤ a) (hn : a < n) : vp_in (Int32.ofInt a) n := by
  rw [vp_in_iff, i32_toInt ha]; exact ⟨h0, hn⟩
def okv (v : AV) : Prop := (v.1 = 0 → okI v.2) ∧ (v.1 = 1 → okL v.2)
def cv (ad : Nat → Nat) (v : AV) : Value := match v.1 with
  | 0 => .int (Int32.ofInt v.2)
  | 1 => .long (Int64.ofInt v.2)
  | _ => .ref (ad v.2.toNat)
theorem okv0 {z : Int} (h : okI z) : okv (0, z) := ⟨fun _ => h, (fun h => by cases h)⟩
theorem okv1 {z : Int} (h : okL z) : okv (1, z) := ⟨(fun h => by cases h), fun _ => h⟩
theorem okv2 {z : Int} : okv (2, z) := ⟨(fun h => by cases h), (fun h => by cases h)⟩
theorem okv0' {z : Int} (h : okv (0, z)) : okI z := h.1 rfl
theorem okv1' {z : Int} (h : okv (1, z)) : okL z := h.2 rfl
def cv_cat (v : AV) : Nat := match v.1 with
  | 1 => 2
  | _ => 1
theorem cv_category (ad : Nat → Nat) (v : AV) : (cv ad v).category = cv_cat v := by
  unfold cv cv_cat
  obtain ⟨t, z⟩ := v
  match t with
  | 0 => rfl
  | 1 => rfl
  | t + 2 => rfl
-- one row of memory changed; one slot changed
def rset (mem : Mem) (c : Nat) (r : Nat → Int) : Mem := fun c' => if c' = c then r else mem c'
def uset (f : Nat → Int) (j : Nat) (v : Int) : Nat → Int := fun j' => if j' = j then v else f j'
def mset (mem : Mem) (c j : Nat) (v : Int) : Mem := rset mem c (uset (mem c) j v)
theorem rset_eq (mem : Mem) (c : Nat) (r : Nat → Int) : rset mem c r c = r := if_pos rfl
theorem rset_ne (mem : Mem) (c : Nat) (r : Nat → Int) {c' : Nat} (h : c' ≠ c) : rset mem c r c' = mem c' := if_neg h
-- a field's value, a cell's entry
def fv (ad : Nat → Nat) (r : Nat → Int) (j : Nat) (k : Int) : Value := if k < 0 then .int (Int32.ofInt (r j)) else .ref (ad k.toNat)
def arE (ad : Nat → Nat) (t n b : Nat) (r : Nat → Int) : (Nat → Int32) ⊕ (Nat → Int64) ⊕ (Nat → UInt32) ⊕ (Nat → UInt64) ⊕ (Nat → Option Nat) := match t with
  | 2 => .inr (.inl (fun j => Int64.ofInt (r j)))
  | 3 => .inr (.inr (.inr (.inr (fun j => if j < n then some (ad (b + j)) else none))))
  | _ => .inl (fun j => Int32.ofInt (r j))
def ceE (ad : Nat → Nat) (cA : Nat → ClassId) (c : Nat) (r : Nat → Int) : va_E := match shp c with
  | .inl (ci, ks) => .inr (ci, ks.zipIdx.map (fun q => fv ad r q.2 q.1))
  | .inr (t, n, b) => .inl (cA t, n, arE ad t n b r)
def wsOf (ad : Nat → Nat) (cA : Nat → ClassId) (mem : Mem) : va_W := (List.range NC).map (fun c => (ad c, ceE ad cA c (mem c)))
theorem ws_get {ad : Nat → Nat} {cA : Nat → ClassId} {mem : Mem} {c : Nat} (h : c < NC) : (wsOf ad cA mem)[c]? = some (ad c, ceE ad cA c (mem c)) := by
  unfold wsOf
  rw [List.getElem?_map, List.getElem?_range h]; rfl
theorem ws_set {ad : Nat → Nat} {cA : Nat → ClassId} {mem : Mem} {c : Nat} {r : Nat → Int} {E : va_E} (hE : ceE ad cA c r = E) : (wsOf ad cA mem).set c (ad c, E) = wsOf ad cA (rset mem c r) := by
  apply List.ext_getElem?
  intro i
  unfold wsOf
  rw [List.getElem?_set]
  by_cases hi : c = i
  · subst hi
    rw [if_pos rfl, List.length_map, List.length_range]
    by_cases hc : c < NC
    · rw [if_pos hc, List.getElem?_map, List.getElem?_range hc]
      simp [rset_eq, hE]
    · rw [if_neg hc, List.getElem?_map, List.getElem?_eq_none (by simpa using hc)]; rfl
  · rw [if_neg hi, List.getElem?_map, List.getElem?_map]
    by_cases hc : i < NC
    · rw [List.getElem?_range hc]
      simp [rset_ne mem c r (Ne.symm hi)]
    · rw [List.getElem?_eq_none (by simpa using hc)]; rfl
-- the launch, the classes' numbers, the cells' addresses, the array classes
abbrev Gm : Type := Launch × va_G × (Nat → Nat) × (Nat → ClassId)
abbrev Gm.ad (G : Gm) : Nat → Nat := G.2.2.1
abbrev Gm.cA (G : Gm) : Nat → ClassId := G.2.2.2
-- a method: name, code, locals, answer, frames and locals' words below it
abbrev Mt : Type := MethodName × ByteArray × Nat × Option FieldType × Nat × Nat
def wds (M : Mt) : List Cond := Cond.code M.1 M.2.1 M.2.2.1 M.2.2.2.1 :: wtb
def rmM (M : Mt) : Room := { frames := M.2.2.2.2.1, cells := 0, slots := 0, locals := M.2.2.2.2.2 }
def tysG (G : Gm) : List (ClassId × FieldType) := [(G.cA 0, .int), (G.cA 1, .boolean), (G.cA 2, .long), (G.cA 3, .array .int)]
def AA (G : Gm) : Nat → Prop := fun q => ∃ k, k < NC ∧ G.ad k = q
def okr (c : Nat) (r : Nat → Int) : Prop := ∀ j, (shp c).elim (fun _ => okI (r j)) (fun q => if q.1 = 2 then okL (r j) else okI (r j))
def okm (mem : Mem) : Prop := ∀ c, okr c (mem c)
def Wd (G : Gm) (mem : Mem) (U : State) (H : Heap) : Prop := va_P G.2.1 classes (wsOf G.ad G.cA mem) H ∧ va_K G.2.1 classes (tysG G) U ∧ va_D (AA G) (wsOf G.ad G.cA mem) ∧ okm mem
-- the static rows: COST_AT_FIRST, COST_LEAST, COST_MOST, TERM_MOST
def stN (k : Nat) : String := match k with
  | 0 => "COST_AT_FIRST"
  | 1 => "COST_LEAST"
  | 2 => "COST_MOST"
  | _ => "TERM_MOST"
def stV (k : Nat) : List Int := match k with
  | 0 => [1, 1, 100, 0, 5]
  | 1 => [0, 0, 0, 0, 1]
  | 2 => [99, 99, 999, 15, 30]
  | _ => [59, 99, 99]
/-- a nested class's link to the outer class's static row -/
abbrev nw1 : Cond := .fieldLinkNest "HallMinutes$Evening" 9 "HallMinutes" "TERM_MOST" "[I" "HallMinutes"
def Sta (G : Gm) (U : State) (H : Heap) : Prop := va_Nw nw1 U ∧ ∀ k, k < 4 → va_Z "HallMinutes" (stN k) "[I" (.ref (G.ad (NC + k))) (AA G) U H ∧ va_T .int (G.ad (NC + k)) (stV k).length (fun j => .int (Int32.ofInt ((stV k).getD j 0))) (AA G) U H
def Qc (G : Gm) (Q : Option AV → Mem → Prop) : Array Value → State → Outcome → State → Prop := fun _ st oc t => (∃ (r : Option AV) (mem' : Mem), oc = .returned (r.map (cv G.ad)) ∧ (∀ v, r = some v → okv v) ∧ Q r mem' ∧ Wd G mem' t t.heap) ∧ va_F (AA G) st t
def Con (G : Gm) (M : Mt) (as : List AV) (mem : Mem) (Q : Option AV → Mem → Prop) : Prop :=
  (∀ v ∈ as, okv v) → Met G.1 M.1 (wds M) (rmM M) (va_Pc (as.map (cv G.ad)) (fun U => Wd G mem U U.heap ∧ Sta G U U.heap)) (Qc G Q) 0 0 (AA G)
def Lh (G : Gm) (n : Nat) (lo : List AV) (ls : Array Slot) : Prop := ls.size = n ∧ lv_wf ls ∧ lo.length = n ∧ ∀ (i : Nat) (v : AV), lo[i]? = some v → v.1 ≠ 3 → okv v ∧ ls[i]? = some (.val (cv G.ad v))
def Cx (M : Mt) (p : Program) (s : State) (m : MethodId) (args : Array Value) (meth : Method) (c : Code) : Prop :=
  p.tables.exec = Jvm.exec ∧ c.code = M.2.1 ∧ meth.sig.returnType = M.2.2.2.1 ∧ c.maxLocals = M.2.2.1 ∧ s.vm.findClass M.1.cls = some m.cls ∧ (∀ w ∈ wds M, w.before args s = true) ∧ meth.locks = false
def Ev (G : Gm) (M : Mt) (Q : Option AV → Mem → Prop) (pc : Nat) (lo st : List AV) (mem : Mem) : Prop :=
  ∀ (p : Program) (e : Env) (s : State) (m : MethodId) (args : Array Value) (below : List Frame) (meth : Method) (c : Code) (H : Heap) (locs : List Loc) (ls : Array Slot),
    Cx M p s m args meth c → Wd G mem s H → va_S (AA G) s.heap H locs → Sta G s s.heap → Lh G M.2.2.1 lo ls → (∀ v ∈ st, okv v) →
    W p G.1 e (rmM M) s m args below meth c H locs 0 0 (MQ below (Qc G Q) args s 0 0 (AA G)) (F0 m pc ls (st.map (cv G.ad)))
end
section
section MRows
variable {G : Gm} {M : Mt} {Q : Option AV → Mem → Prop} {pc : Nat} {lo st : List AV} {mem : Mem}
theorem st1 {v : AV} (h : ∀ x ∈ v :: st, okv x) : okv v ∧ ∀ x ∈ st, okv x := List.forall_mem_cons.mp h
theorem st2 {v u : AV} (h : ∀ x ∈ v :: u :: st, okv x) : okv v ∧ okv u ∧ ∀ x ∈ st, okv x := ⟨(List.forall_mem_cons.mp h).1, List.forall_mem_cons.mp (List.forall_mem_cons.mp h).2⟩
theorem st3 {v u t : AV} (h : ∀ x ∈ v :: u :: t :: st, okv x) : okv v ∧ okv u ∧ okv t ∧ ∀ x ∈ st, okv x := ⟨(st2 h).1, (st2 h).2.1, List.forall_mem_cons.mp (st2 h).2.2⟩
theorem stp {v : AV} (h : okv v) (h2 : ∀ x ∈ st, okv x) : ∀ x ∈ v :: st, okv x := List.forall_mem_cons.mpr ⟨h, h2⟩
theorem e_iconst {n : Int} (hd : decode M.2.1 pc = .ok (.iconst n, 1)) (hn : okI n) (k : Ev G M Q (pc + 1) lo ((0, n) :: st) mem) : Ev G M Q pc lo st mem := by
  intro p e s m args below meth c H locs ls C hW hS hT hL hst
  exact lv_iconst C.1 C.2.1 hd rfl (k p e s m args below meth c H locs ls C hW hS hT hL (stp (okv0 hn) hst))
theorem e_bipush {n : Int} (hd : decode M.2.1 pc = .ok (.bipush n, 2)) (hv : (Int8.ofInt n).toInt32 = Int32.ofInt n) (hn : okI n) (k : Ev G M Q (pc + 2) lo ((0, n) :: st) mem) : Ev G M Q pc lo st mem := by
  intro p e s m args below meth c H locs ls C hW hS hT hL hst
  exact lv_bipush C.1 C.2.1 hd hv (k p e s m args below meth c H locs ls C hW hS hT hL (stp (okv0 hn) hst))
theorem e_sipush {n : Int} (hd : decode M.2.1 pc = .ok (.sipush n, 3)) (hv : (Int16.ofInt n).toInt32 = Int32.ofInt n) (hn : okI n) (k : Ev G M Q (pc + 3) lo ((0, n) :: st) mem) : Ev G M Q pc lo st mem := by
  intro p e s m args below meth c H locs ls C hW hS hT hL hst
  exact lv_sipush C.1 C.2.1 hd hv (k p e s m args below meth c H locs ls C hW hS hT hL (stp (okv0 hn) hst))
theorem e_lconst {n : Fin 2} {z : Int} (hd : decode M.2.1 pc = .ok (.lconst n, 1)) (hv : Int64.ofNat (n : Nat) = Int64.ofInt z) (hn : okL z) (k : Ev G M Q (pc + 1) lo ((1, z) :: st) mem) : Ev G M Q pc lo st mem := by
  intro p e s m args below meth c H locs ls C hW hS hT hL hst
  exact lv_lconst C.1 C.2.1 hd hv (k p e s m args below meth c H locs ls C hW hS hT hL (stp (okv1 hn) hst))
theorem e_ldc {ix : Nat} {z : Int} (hd : decode M.2.1 pc = .ok (.ldc ix, 2)) (hc : Cond.constant M.1.cls ix (Int32.ofInt z) ∈ wtb) (hn : okI z) (k : Ev G M Q (pc + 2) lo ((0, z) :: st) mem) : Ev G M Q pc lo st mem := by
  intro p e s m args below meth c H locs ls C hW hS hT hL hst
  exact lv_ldc C.1 C.2.1 C.2.2.2.2.1 (C.2.2.2.2.2.1 _ (List.mem_cons_of_mem _ hc)) hd (k p e s m args below meth c H locs ls C hW hS hT hL (stp (okv0 hn) hst))
theorem e_ldcw {ix : Nat} {z : Int} (hd : decode M.2.1 pc = .ok (.ldc_w ix, 3)) (hc : Cond.constant M.1.cls ix (Int32.ofInt z) ∈ wtb) (hn : okI z) (k : Ev G M Q (pc + 3) lo ((0, z) :: st) mem) : Ev G M Q pc lo st mem := by
  intro p e s m args below meth c H locs ls C hW hS hT hL hst
  exact lv_ldcw C.1 C.2.1 C.2.2.2.2.1 (C.2.2.2.2.2.1 _ (List.mem_cons_of_mem _ hc)) hd (k p e s m args below meth c H locs ls C hW hS hT hL (stp (okv0 hn) hst))
theorem e_ldc2 {ix : Nat} {z : Int} (hd : decode M.2.1 pc = .ok (.ldc2_w ix, 3)) (hc : Cond.constantLong M.1.cls ix (Int64.ofInt z) ∈ wtb) (hn : okL z) (k : Ev G M Q (pc + 3) lo ((1, z) :: st) mem) : Ev G M Q pc lo st mem := by
  intro p e s m args below meth c H locs ls C hW hS hT hL hst
  exact lv_ldc2 C.1 C.2.1 C.2.2.2.2.1 (C.2.2.2.2.2.1 _ (List.mem_cons_of_mem _ hc)) hd (k p e s m args below meth c H locs ls C hW hS hT hL (stp (okv1 hn) hst))
theorem e_iloadn {kf : Fin 4} {i : Nat} {z : Int} (hd : decode M.2.1 pc = .ok (.iload_n kf, 1)) (hi : (kf : Nat) = i) (hl : lo[i]? = some (0, z)) (k : Ev G M Q (pc + 1) lo ((0, z) :: st) mem) : Ev G M Q pc lo st mem := by
  intro p e s m args below meth c H locs ls C hW hS hT hL hst
  have h9 := hL.2.2.2 i _ hl (by simp)
  exact lv_iload_n C.1 C.2.1 hd hi h9.2 (k p e s m args below meth c H locs ls C hW hS hT hL (stp h9.1 hst))
theorem e_iload {i : Nat} {z : Int} (hd : decode M.2.1 pc = .ok (.iload i, 2)) (hl : lo[i]? = some (0, z)) (k : Ev G M Q (pc + 2) lo ((0, z) :: st) mem) : Ev G M Q pc lo st mem := by
  intro p e s m args below meth c H locs ls C hW hS hT hL hst
  have h9 := hL.2.2.2 i _ hl (by simp)
  exact lv_iload C.1 C.2.1 hd h9.2 (k p e s m args below meth c H locs ls C hW hS hT hL (stp h9.1 hst))
theorem e_lloadn {kf : Fin 4} {i : Nat} {z : Int} (hd : decode M.2.1 pc = .ok (.lload_n kf, 1)) (hi : (kf : Nat) = i) (hl : lo[i]? = some (1, z)) (k : Ev G M Q (pc + 1) lo ((1, z) :: st) mem) : Ev G M Q pc lo st mem := by
  intro p e s m args below meth c H locs ls C hW hS hT hL hst
  have h9 := hL.2.2.2 i _ hl (by simp)
  exact lv_lload_n C.1 C.2.1 hd hi h9.2 (k p e s m args below meth c H locs ls C hW hS hT hL (stp h9.1 hst))
theorem e_lload {i : Nat} {z : Int} (hd : decode M.2.1 pc = .ok (.lload i, 2)) (hl : lo[i]? = some (1, z)) (k : Ev G M Q (pc + 2) lo ((1, z) :: st) mem) : Ev G M Q pc lo st mem := by
  intro p e s m args below meth c H locs ls C hW hS hT hL hst
  have h9 := hL.2.2.2 i _ hl (by simp)
  exact lv_lload C.1 C.2.1 hd h9.2 (k p e s m args below meth c H locs ls C hW hS hT hL (stp h9.1 hst))
theorem e_aloadn {kf : Fin 4} {i : Nat} {z : Int} (hd : decode M.2.1 pc = .ok (.aload_n kf, 1)) (hi : (kf : Nat) = i) (hl : lo[i]? = some (2, z)) (k : Ev G M Q (pc + 1) lo ((2, z) :: st) mem) : Ev G M Q pc lo st mem := by
  intro p e s m args below meth c H locs ls C hW hS hT hL hst
  have h9 := hL.2.2.2 i _ hl (by simp)
  exact lv_aload_n C.1 C.2.1 hd hi h9.2 (k p e s m args below meth c H locs ls C hW hS hT hL (stp h9.1 hst))
theorem e_aload {i : Nat} {z : Int} (hd : decode M.2.1 pc = .ok (.aload i, 2)) (hl : lo[i]? = some (2, z)) (k : Ev G M Q (pc + 2) lo ((2, z) :: st) mem) : Ev G M Q pc lo st mem := by
  intro p e s m args below meth c H locs ls C hW hS hT hL hst
  have h9 := hL.2.2.2 i _ hl (by simp)
  exact lv_aload C.1 C.2.1 hd h9.2 (k p e s m args below meth c H locs ls C hW hS hT hL (stp h9.1 hst))
/-- no long lies just below place i -/
def nlb (lo : List AV) (i : Nat) : Bool := i == 0 || (lo.getD (i - 1) (3, 0)).1 != 1
def lvOf (ad : Nat → Nat) (lo : List AV) : List (Nat × Value) := (lo.zipIdx.filter (fun q => q.1.1 != 3)).map (fun q => (q.2, cv ad q.1))
theorem lvOf_mem {ad : Nat → Nat} {i : Nat} {v : AV} (h : lo[i]? = some v) (h3 : v.1 ≠ 3) : (i, cv ad v) ∈ lvOf ad lo := by
  unfold lvOf
  refine List.mem_map.mpr ⟨(v, i), List.mem_filter.mpr ⟨?_, by simpa using h3⟩, rfl⟩
  exact List.mk_mem_zipIdx_iff_getElem?.mpr h
theorem lvOf_has {n : Nat} {ls : Array Slot} (h : Lh G n lo ls) : lv_has ls n (lvOf G.ad lo) := by
  refine ⟨h.1, h.2.1, fun q hq => ?_⟩
  obtain ⟨x, hx, rfl⟩ := List.mem_map.mp hq
  obtain ⟨hx1, hx2⟩ := List.mem_filter.mp hx
  exact (h.2.2.2 x.2 x.1 (List.mk_mem_zipIdx_iff_getElem?.mp hx1) (by simpa using hx2)).2
theorem Lh_set1 {n i : Nat} {ls ls' : Array Slot} {v : AV} (h : Lh G n lo ls) (hv : okv v) (hn : nlb lo i = true)
    (h' : lv_has ls' n ((i, cv G.ad v) :: (lvOf G.ad lo).filter (fun q => !(q.1 == i) && !(q.1 + 1 == i && q.2.category == 2)))) : Lh G n (lo.set i v) ls' := by
  refine ⟨h'.1, h'.2.1, by rw [List.length_set]; exact h.2.2.1, fun j u hj h3 => ?_⟩
  rw [List.getElem?_set] at hj
  by_cases hij : i = j
  · subst hij
    rw [if_pos rfl] at hj
    split at hj
    · cases hj
      exact ⟨hv, h'.2.2 _ List.mem_cons_self⟩
    · cases hj
  · rw [if_neg hij] at hj
    refine ⟨(h.2.2.2 j u hj h3).1, h'.2.2 (j, cv G.ad u) (List.mem_cons_of_mem _ (List.mem_filter.mpr ⟨lvOf_mem hj h3, ?_⟩))⟩
    have e1 : (j == i) = false := by simpa using fun q => hij q.symm
    rw [e1]
    by_cases e2 : j + 1 = i
    · subst e2
      have : u.1 ≠ 1 := by
        simp [nlb, hj] at hn
        exact hn
      have e3 : ((cv G.ad u).category == 2) = false := by
        rw [cv_category]
        obtain ⟨t, z⟩ := u
        match t, this with
        | 0, _ => rfl
        | t + 2, _ => rfl
      simp [e3]
    · have : (j + 1 == i) = false := by simpa using e2
      simp [this]
theorem Lh_set2 {n i : Nat} {ls ls' : Array Slot} {v : AV} (h : Lh G n lo ls) (hv : okv v) (hn : nlb lo i = true)
    (h' : lv_has ls' n ((i, cv G.ad v) :: (lvOf G.ad lo).filter (fun q => !(q.1 == i) && (!(q.1 == i + 1) && !(q.1 + 1 == i && q.2.category == 2))))) : Lh G n ((lo.set i v).set (i + 1) (3, 0)) ls' := by
  refine ⟨h'.1, h'.2.1, by rw [List.length_set, List.length_set]; exact h.2.2.1, fun j u hj h3 => ?_⟩
  rw [List.getElem?_set] at hj
  by_cases hij1 : i + 1 = j
  · rw [if_pos hij1] at hj
    split at hj
    · cases hj
      exact absurd rfl h3
    · cases hj
  rw [if_neg hij1, List.getElem?_set] at hj
  by_cases hij : i = j
  · subst hij
    rw [if_pos rfl] at hj
    split at hj
    · cases hj
      exact ⟨hv, h'.2.2 _ List.mem_cons_self⟩
    · cases hj
  · rw [if_neg hij] at hj
    refine ⟨(h.2.2.2 j u hj h3).1, h'.2.2 (j, cv G.ad u) (List.mem_cons_of_mem _ (List.mem_filter.mpr ⟨lvOf_mem hj h3, ?_⟩))⟩
    have e1 : (j == i) = false := by simpa using fun q => hij q.symm
    have e0 : (j == i + 1) = false := by simpa using fun q => hij1 q.symm
    rw [e1, e0]
    by_cases e2 : j + 1 = i
    · subst e2
      have : u.1 ≠ 1 := by
        simp [nlb, hj] at hn
        exact hn
      have e3 : ((cv G.ad u).category == 2) = false := by
        rw [cv_category]
        obtain ⟨t, z⟩ := u
        match t, this with
        | 0, _ => rfl
        | t + 2, _ => rfl
      simp [e3]
    · have : (j + 1 == i) = false := by simpa using e2
      simp [this]
theorem e_istoren {kf : Fin 4} {i : Nat} {z : Int} {lo' : List AV} (hd : decode M.2.1 pc = .ok (.istore_n kf, 1)) (hi : (kf : Nat) = i) (hs : lo.set i (0, z) = lo') (hm : i < M.2.2.1) (hn : nlb lo i = true) (k : Ev G M Q (pc + 1) lo' st mem) : Ev G M Q pc lo ((0, z) :: st) mem := by
  intro p e s m args below meth c H locs ls C hW hS hT hL hst
  obtain ⟨hv, hst⟩ := st1 hst
  subst hs
  exact lv_istore_n C.1 C.2.1 hd hi (lvOf_has hL) hm rfl (fun ls2 h2 => k p e s m args below meth c H locs ls2 C hW hS hT (Lh_set1 (v := (0, z)) hL hv hn h2) hst)
theorem e_istore {i : Nat} {z : Int} {lo' : List AV} (hd : decode M.2.1 pc = .ok (.istore i, 2)) (hs : lo.set i (0, z) = lo') (hm : i < M.2.2.1) (hn : nlb lo i = true) (k : Ev G M Q (pc + 2) lo' st mem) : Ev G M Q pc lo ((0, z) :: st) mem := by
  intro p e s m args below meth c H locs ls C hW hS hT hL hst
  obtain ⟨hv, hst⟩ := st1 hst
  subst hs
  exact lv_istore C.1 C.2.1 hd (lvOf_has hL) hm rfl (fun ls2 h2 => k p e s m args below meth c H locs ls2 C hW hS hT (Lh_set1 (v := (0, z)) hL hv hn h2) hst)
theorem e_astoren {kf : Fin 4} {i : Nat} {z : Int} {lo' : List AV} (hd : decode M.2.1 pc = .ok (.astore_n kf, 1)) (hi : (kf : Nat) = i) (hs : lo.set i (2, z) = lo') (hm : i < M.2.2.1) (hn : nlb lo i = true) (k : Ev G M Q (pc + 1) lo' st mem) : Ev G M Q pc lo ((2, z) :: st) mem := by
  intro p e s m args below meth c H locs ls C hW hS hT hL hst
  obtain ⟨hv, hst⟩ := st1 hst
  subst hs
  exact lv_astore_n C.1 C.2.1 hd hi (lvOf_has hL) hm rfl (fun ls2 h2 => k p e s m args below meth c H locs ls2 C hW hS hT (Lh_set1 (v := (2, z)) hL hv hn h2) hst)
theorem e_astore {i : Nat} {z : Int} {lo' : List AV} (hd : decode M.2.1 pc = .ok (.astore i, 2)) (hs : lo.set i (2, z) = lo') (hm : i < M.2.2.1) (hn : nlb lo i = true) (k : Ev G M Q (pc + 2) lo' st mem) : Ev G M Q pc lo ((2, z) :: st) mem := by
  intro p e s m args below meth c H locs ls C hW hS hT hL hst
  obtain ⟨hv, hst⟩ := st1 hst
  subst hs
  exact lv_astore C.1 C.2.1 hd (lvOf_has hL) hm rfl (fun ls2 h2 => k p e s m args below meth c H locs ls2 C hW hS hT (Lh_set1 (v := (2, z)) hL hv hn h2) hst)
theorem e_lstoren {kf : Fin 4} {i : Nat} {z : Int} {lo' : List AV} (hd : decode M.2.1 pc = .ok (.lstore_n kf, 1)) (hi : (kf : Nat) = i) (hs : (lo.set i (1, z)).set (i + 1) (3, 0) = lo') (hm : i + 1 < M.2.2.1) (hn : nlb lo i = true) (k : Ev G M Q (pc + 1) lo' st mem) : Ev G M Q pc lo ((1, z) :: st) mem := by
  intro p e s m args below meth c H locs ls C hW hS hT hL hst
  obtain ⟨hv, hst⟩ := st1 hst
  subst hs
  exact lv_lstore_n C.1 C.2.1 hd hi (lvOf_has hL) hm rfl (fun ls2 h2 => k p e s m args below meth c H locs ls2 C hW hS hT (Lh_set2 (v := (1, z)) hL hv hn h2) hst)
theorem e_lstore {i : Nat} {z : Int} {lo' : List AV} (hd : decode M.2.1 pc = .ok (.lstore i, 2)) (hs : (lo.set i (1, z)).set (i + 1) (3, 0) = lo') (hm : i + 1 < M.2.2.1) (hn : nlb lo i = true) (k : Ev G M Q (pc + 2) lo' st mem) : Ev G M Q pc lo ((1, z) :: st) mem := by
  intro p e s m args below meth c H locs ls C hW hS hT hL hst
  obtain ⟨hv, hst⟩ := st1 hst
  subst hs
  exact lv_lstore C.1 C.2.1 hd (lvOf_has hL) hm rfl (fun ls2 h2 => k p e s m args below meth c H locs ls2 C hW hS hT (Lh_set2 (v := (1, z)) hL hv hn h2) hst)
theorem lv_iincA {p : Program} {l : Launch} {e : Env} {R : Room} {s : State} {m : MethodId} {args : Array Value} {below : List Frame} {meth : Method} {c : Code} {H : Heap} {locs : List Loc} {cells slots : Nat} {Q : State → Prop} {cc : ByteArray} {pc : Nat} {ls : Array Slot} {rest : List Value} (hexec : p.tables.exec = Jvm.exec) (hb : c.code = cc) {i nL : Nat} {n : Int} {x v : Int32} {lv : List (Nat × Value)} (hdg : decode cc pc = .ok (.iinc i n, 3)) (h : lv_has ls nL lv) (hk : (i, Value.int x) ∈ lv) (hv : x + Int32.ofInt n = v) (hn : i < nL)
    (kk : ∀ ls' : Array Slot, lv_has ls' nL ((i, Value.int v) :: lv.filter (fun q => !(q.1 == i) && !(q.1 + 1 == i && q.2.category == 2))) → W p l e R s m args below meth c H locs cells slots Q (F0 m (pc + 3) ls' rest)) : W p l e R s m args below meth c H locs cells slots Q (F0 m pc ls rest) := by
  obtain ⟨k, hk⟩ := List.getElem?_of_mem hk
  exact lv_iinc hexec hb hdg h hk hv hn rfl kk
theorem e_iinc {i : Nat} {n z : Int} {lo' : List AV} (hd : decode M.2.1 pc = .ok (.iinc i n, 3)) (hl : lo[i]? = some (0, z)) (ho : okI (z + n)) (hs : lo.set i (0, z + n) = lo') (hm : i < M.2.2.1) (hn : nlb lo i = true) (k : Ev G M Q (pc + 3) lo' st mem) : Ev G M Q pc lo st mem := by
  intro p e s m args below meth c H locs ls C hW hS hT hL hst
  subst hs
  refine lv_iincA C.1 C.2.1 hd (lvOf_has hL) (lvOf_mem hl (by simp)) (v := Int32.ofInt (z + n)) (by rw [Int32.ofInt_add]) hm (fun ls2 h2 => k p e s m args below meth c H locs ls2 C hW hS hT (Lh_set1 (v := (0, z + n)) hL (okv0 ho) hn h2) hst)
theorem e_iadd {a b : Int} (hd : decode M.2.1 pc = .ok (.iadd, 1)) (k : Ev G M Q (pc + 1) lo ((0, w32 (a + b)) :: st) mem) : Ev G M Q pc lo ((0, b) :: (0, a) :: st) mem := by
  intro p e s m args below meth c H locs ls C hW hS hT hL hst
  obtain ⟨hb, ha, hst⟩ := st2 hst
  have hk := k p e s m args below meth c H locs ls C hW hS hT hL (stp (okv0 (w32_ok _)) hst)
  refine lv_iadd C.1 C.2.1 hd ?_
  have e9 : Int32.ofInt (a + b) = Int32.ofInt a + Int32.ofInt b := Int32.ofInt_add a b
  rw [List.map_cons] at hk
  rw [show cv G.ad (0, w32 (a + b)) = .int (Int32.ofInt (a + b)) from by show Value.int _ = _; rw [i32_w]] at hk
  rw [e9] at hk
  exact hk
theorem e_iaddn {a b : Int} (hd : decode M.2.1 pc = .ok (.iadd, 1)) (ho : okI (a + b)) (k : Ev G M Q (pc + 1) lo ((0, a + b) :: st) mem) : Ev G M Q pc lo ((0, b) :: (0, a) :: st) mem := by
  intro p e s m args below meth c H locs ls C hW hS hT hL hst
  have k2 := k
  rw [show a + b = w32 (a + b) from (w32_id ho).symm] at k2
  exact e_iadd hd k2 p e s m args below meth c H locs ls C hW hS hT hL hst
theorem e_isub {a b : Int} (hd : decode M.2.1 pc = .ok (.isub, 1)) (k : Ev G M Q (pc + 1) lo ((0, w32 (a - b)) :: st) mem) : Ev G M Q pc lo ((0, b) :: (0, a) :: st) mem := by
  intro p e s m args below meth c H locs ls C hW hS hT hL hst
  obtain ⟨hb, ha, hst⟩ := st2 hst
  have hk := k p e s m args below meth c H locs ls C hW hS hT hL (stp (okv0 (w32_ok _)) hst)
  refine lv_isub C.1 C.2.1 hd ?_
  have e9 : Int32.ofInt (a - b) = Int32.ofInt a - Int32.ofInt b := Int32.ofInt_sub a b
  rw [List.map_cons] at hk
  rw [show cv G.ad (0, w32 (a - b)) = .int (Int32.ofInt (a - b)) from by show Value.int _ = _; rw [i32_w]] at hk
  rw [e9] at hk
  exact hk
theorem e_isubn {a b : Int} (hd : decode M.2.1 pc = .ok (.isub, 1)) (ho : okI (a - b)) (k : Ev G M Q (pc + 1) lo ((0, a - b) :: st) mem) : Ev G M Q pc lo ((0, b) :: (0, a) :: st) mem := by
  intro p e s m args below meth c H locs ls C hW hS hT hL hst
  have k2 := k
  rw [show a - b = w32 (a - b) from (w32_id ho).symm] at k2
  exact e_isub hd k2 p e s m args below meth c H locs ls C hW hS hT hL hst
theorem e_imul {a b : Int} (hd : decode M.2.1 pc = .ok (.imul, 1)) (k : Ev G M Q (pc + 1) lo ((0, w32 (a * b)) :: st) mem) : Ev G M Q pc lo ((0, b) :: (0, a) :: st) mem := by
  intro p e s m args below meth c H locs ls C hW hS hT hL hst
  obtain ⟨hb, ha, hst⟩ := st2 hst
  have hk := k p e s m args below meth c H locs ls C hW hS hT hL (stp (okv0 (w32_ok _)) hst)
  refine lv_imul C.1 C.2.1 hd ?_
  have e9 : Int32.ofInt (a * b) = Int32.ofInt a * Int32.ofInt b := Int32.ofInt_mul a b
  rw [List.map_cons] at hk
  rw [show cv G.ad (0, w32 (a * b)) = .int (Int32.ofInt (a * b)) from by show Value.int _ = _; rw [i32_w]] at hk
  rw [e9] at hk
  exact hk
theorem e_imuln {a b : Int} (hd : decode M.2.1 pc = .ok (.imul, 1)) (ho : okI (a * b)) (k : Ev G M Q (pc + 1) lo ((0, a * b) :: st) mem) : Ev G M Q pc lo ((0, b) :: (0, a) :: st) mem := by
  intro p e s m args below meth c H locs ls C hW hS hT hL hst
  have k2 := k
  rw [show a * b = w32 (a * b) from (w32_id ho).symm] at k2
  exact e_imul hd k2 p e s m args below meth c H locs ls C hW hS hT hL hst
theorem e_ladd {a b : Int} (hd : decode M.2.1 pc = .ok (.ladd, 1)) (k : Ev G M Q (pc + 1) lo ((1, w64 (a + b)) :: st) mem) : Ev G M Q pc lo ((1, b) :: (1, a) :: st) mem := by
  intro p e s m args below meth c H locs ls C hW hS hT hL hst
  obtain ⟨hb, ha, hst⟩ := st2 hst
  have hk := k p e s m args below meth c H locs ls C hW hS hT hL (stp (okv1 (w64_ok _)) hst)
  refine lv_ladd C.1 C.2.1 hd ?_
  have e9 : Int64.ofInt (a + b) = Int64.ofInt a + Int64.ofInt b := Int64.ofInt_add a b
  rw [List.map_cons] at hk
  rw [show cv G.ad (1, w64 (a + b)) = .long (Int64.ofInt (a + b)) from by show Value.long _ = _; rw [i64_w]] at hk
  rw [e9] at hk
  exact hk
theorem e_laddn {a b : Int} (hd : decode M.2.1 pc = .ok (.ladd, 1)) (ho : okL (a + b)) (k : Ev G M Q (pc + 1) lo ((1, a + b) :: st) mem) : Ev G M Q pc lo ((1, b) :: (1, a) :: st) mem := by
  intro p e s m args below meth c H locs ls C hW hS hT hL hst
  have k2 := k
  rw [show a + b = w64 (a + b) from (w64_id ho).symm] at k2
  exact e_ladd hd k2 p e s m args below meth c H locs ls C hW hS hT hL hst
theorem e_lmul {a b : Int} (hd : decode M.2.1 pc = .ok (.lmul, 1)) (k : Ev G M Q (pc + 1) lo ((1, w64 (a * b)) :: st) mem) : Ev G M Q pc lo ((1, b) :: (1, a) :: st) mem := by
  intro p e s m args below meth c H locs ls C hW hS hT hL hst
  obtain ⟨hb, ha, hst⟩ := st2 hst
  have hk := k p e s m args below meth c H locs ls C hW hS hT hL (stp (okv1 (w64_ok _)) hst)
  refine lv_lmul C.1 C.2.1 hd ?_
  have e9 : Int64.ofInt (a * b) = Int64.ofInt a * Int64.ofInt b := Int64.ofInt_mul a b
  rw [List.map_cons] at hk
  rw [show cv G.ad (1, w64 (a * b)) = .long (Int64.ofInt (a * b)) from by show Value.long _ = _; rw [i64_w]] at hk
  rw [e9] at hk
  exact hk
theorem e_lmuln {a b : Int} (hd : decode M.2.1 pc = .ok (.lmul, 1)) (ho : okL (a * b)) (k : Ev G M Q (pc + 1) lo ((1, a * b) :: st) mem) : Ev G M Q pc lo ((1, b) :: (1, a) :: st) mem := by
  intro p e s m args below meth c H locs ls C hW hS hT hL hst
  have k2 := k
  rw [show a * b = w64 (a * b) from (w64_id ho).symm] at k2
  exact e_lmul hd k2 p e s m args below meth c H locs ls C hW hS hT hL hst
def bAnd (a b : Int) : Int := (Int32.ofInt a &&& Int32.ofInt b).toInt
def bOr (a b : Int) : Int := (Int32.ofInt a ||| Int32.ofInt b).toInt
def bXor (a b : Int) : Int := (Int32.ofInt a ^^^ Int32.ofInt b).toInt
def bShl (a b : Int) : Int := (Int32.ofInt a <<< (Int32.ofInt b &&& 31)).toInt
def bShr (a b : Int) : Int := (Int32.ofInt a >>> (Int32.ofInt b &&& 31)).toInt
def bUshr (a b : Int) : Int := ((Int32.ofInt a).toUInt32 >>> ((Int32.ofInt b).toUInt32 &&& Int32.toUInt32 31)).toInt32.toInt
def bDiv (a b : Int) : Int := (Int32.ofInt a / Int32.ofInt b).toInt
def bRem (a b : Int) : Int := (Int32.ofInt a - Int32.ofInt a / Int32.ofInt b * Int32.ofInt b).toInt
def lDiv (a b : Int) : Int := (Int64.ofInt a / Int64.ofInt b).toInt
def lRem (a b : Int) : Int := (Int64.ofInt a - Int64.ofInt a / Int64.ofInt b * Int64.ofInt b).toInt
def lOr (a b : Int) : Int := (Int64.ofInt a ||| Int64.ofInt b).toInt
def lShl (a b : Int) : Int := (Int64.ofInt a <<< ((Int32.ofInt b).toInt64 &&& 63)).toInt
def i8 (a : Int) : Int := (Int32.ofInt a).toInt8.toInt32.toInt
def i16 (a : Int) : Int := (Int32.ofInt a).toInt16.toInt32.toInt
theorem cvI (ad : Nat → Nat) (x : Int32) : cv ad (0, x.toInt) = .int x := by show Value.int _ = _; rw [i32_back]
theorem cvL (ad : Nat → Nat) (x : Int64) : cv ad (1, x.toInt) = .long x := by show Value.long _ = _; rw [i64_back]
theorem e_iand {a b : Int} (hd : decode M.2.1 pc = .ok (.iand, 1)) (k : Ev G M Q (pc + 1) lo ((0, bAnd a b) :: st) mem) : Ev G M Q pc lo ((0, b) :: (0, a) :: st) mem := by
  intro p e s m args below meth c H locs ls C hW hS hT hL hst
  obtain ⟨hb, ha, hst⟩ := st2 hst
  have hk := k p e s m args below meth c H locs ls C hW hS hT hL (stp (okv0 (okI_of _)) hst)
  rw [List.map_cons] at hk
  unfold bAnd at hk
  rw [cvI] at hk
  exact lv_iand C.1 C.2.1 hd hk
theorem e_ior {a b : Int} (hd : decode M.2.1 pc = .ok (.ior, 1)) (k : Ev G M Q (pc + 1) lo ((0, bOr a b) :: st) mem) : Ev G M Q pc lo ((0, b) :: (0, a) :: st) mem := by
  intro p e s m args below meth c H locs ls C hW hS hT hL hst
  obtain ⟨hb, ha, hst⟩ := st2 hst
  have hk := k p e s m args below meth c H locs ls C hW hS hT hL (stp (okv0 (okI_of _)) hst)
  rw [List.map_cons] at hk
  unfold bOr at hk
  rw [cvI] at hk
  exact lv_ior C.1 C.2.1 hd hk
theorem e_ixor {a b : Int} (hd : decode M.2.1 pc = .ok (.ixor, 1)) (k : Ev G M Q (pc + 1) lo ((0, bXor a b) :: st) mem) : Ev G M Q pc lo ((0, b) :: (0, a) :: st) mem := by
  intro p e s m args below meth c H locs ls C hW hS hT hL hst
  obtain ⟨hb, ha, hst⟩ := st2 hst
  have hk := k p e s m args below meth c H locs ls C hW hS hT hL (stp (okv0 (okI_of _)) hst)
  rw [List.map_cons] at hk
  unfold bXor at hk
  rw [cvI] at hk
  exact lv_ixor C.1 C.2.1 hd hk
theorem e_ishl {a b : Int} (hd : decode M.2.1 pc = .ok (.ishl, 1)) (k : Ev G M Q (pc + 1) lo ((0, bShl a b) :: st) mem) : Ev G M Q pc lo ((0, b) :: (0, a) :: st) mem := by
  intro p e s m args below meth c H locs ls C hW hS hT hL hst
  obtain ⟨hb, ha, hst⟩ := st2 hst
  have hk := k p e s m args below meth c H locs ls C hW hS hT hL (stp (okv0 (okI_of _)) hst)
  rw [List.map_cons] at hk
  unfold bShl at hk
  rw [cvI] at hk
  exact lv_ishl C.1 C.2.1 hd hk
theorem e_ishr {a b : Int} (hd : decode M.2.1 pc = .ok (.ishr, 1)) (k : Ev G M Q (pc + 1) lo ((0, bShr a b) :: st) mem) : Ev G M Q pc lo ((0, b) :: (0, a) :: st) mem := by
  intro p e s m args below meth c H locs ls C hW hS hT hL hst
  obtain ⟨hb, ha, hst⟩ := st2 hst
  have hk := k p e s m args below meth c H locs ls C hW hS hT hL (stp (okv0 (okI_of _)) hst)
  rw [List.map_cons] at hk
  unfold bShr at hk
  rw [cvI] at hk
  exact lv_ishr C.1 C.2.1 hd hk
theorem e_iushr {a b : Int} (hd : decode M.2.1 pc = .ok (.iushr, 1)) (k : Ev G M Q (pc + 1) lo ((0, bUshr a b) :: st) mem) : Ev G M Q pc lo ((0, b) :: (0, a) :: st) mem := by
  intro p e s m args below meth c H locs ls C hW hS hT hL hst
  obtain ⟨hb, ha, hst⟩ := st2 hst
  have hk := k p e s m args below meth c H locs ls C hW hS hT hL (stp (okv0 (okI_of _)) hst)
  rw [List.map_cons] at hk
  unfold bUshr at hk
  rw [cvI] at hk
  exact lv_iushr C.1 C.2.1 hd rfl hk
theorem e_idiv {a b : Int} (hd : decode M.2.1 pc = .ok (.idiv, 1)) (hne : b ≠ 0) (k : Ev G M Q (pc + 1) lo ((0, bDiv a b) :: st) mem) : Ev G M Q pc lo ((0, b) :: (0, a) :: st) mem := by
  intro p e s m args below meth c H locs ls C hW hS hT hL hst
  obtain ⟨hb, ha, hst⟩ := st2 hst
  have hk := k p e s m args below meth c H locs ls C hW hS hT hL (stp (okv0 (okI_of _)) hst)
  rw [List.map_cons] at hk
  unfold bDiv at hk
  rw [cvI] at hk
  exact lv_idiv C.1 C.2.1 hd (fun h => hne ((i32_eq (okv0' hb) (by decide)).mp h)) hk
theorem e_irem {a b : Int} (hd : decode M.2.1 pc = .ok (.irem, 1)) (hne : b ≠ 0) (k : Ev G M Q (pc + 1) lo ((0, bRem a b) :: st) mem) : Ev G M Q pc lo ((0, b) :: (0, a) :: st) mem := by
  intro p e s m args below meth c H locs ls C hW hS hT hL hst
  obtain ⟨hb, ha, hst⟩ := st2 hst
  have hk := k p e s m args below meth c H locs ls C hW hS hT hL (stp (okv0 (okI_of _)) hst)
  rw [List.map_cons] at hk
  unfold bRem at hk
  rw [cvI] at hk
  exact lv_irem C.1 C.2.1 hd (fun h => hne ((i32_eq (okv0' hb) (by decide)).mp h)) hk
theorem i64_eq {a b : Int} (ha : okL a) (hb : okL b) : Int64.ofInt a = Int64.ofInt b ↔ a = b := by
  constructor
  · intro h; rw [← i64_toInt ha, ← i64_toInt hb, h]
  · intro h; rw [h]
theorem e_ldiv {a b : Int} (hd : decode M.2.1 pc = .ok (.ldiv, 1)) (hne : b ≠ 0) (k : Ev G M Q (pc + 1) lo ((1, lDiv a b) :: st) mem) : Ev G M Q pc lo ((1, b) :: (1, a) :: st) mem := by
  intro p e s m args below meth c H locs ls C hW hS hT hL hst
  obtain ⟨hb, ha, hst⟩ := st2 hst
  have hk := k p e s m args below meth c H locs ls C hW hS hT hL (stp (okv1 (okL_of _)) hst)
  rw [List.map_cons] at hk
  unfold lDiv at hk
  rw [cvL] at hk
  exact lv_ldiv C.1 C.2.1 hd (fun h => hne ((i64_eq (okv1' hb) (by decide)).mp h)) hk
theorem e_lrem {a b : Int} (hd : decode M.2.1 pc = .ok (.lrem, 1)) (hne : b ≠ 0) (k : Ev G M Q (pc + 1) lo ((1, lRem a b) :: st) mem) : Ev G M Q pc lo ((1, b) :: (1, a) :: st) mem := by
  intro p e s m args below meth c H locs ls C hW hS hT hL hst
  obtain ⟨hb, ha, hst⟩ := st2 hst
  have hk := k p e s m args below meth c H locs ls C hW hS hT hL (stp (okv1 (okL_of _)) hst)
  rw [List.map_cons] at hk
  unfold lRem at hk
  rw [cvL] at hk
  exact lv_lrem C.1 C.2.1 hd (fun h => hne ((i64_eq (okv1' hb) (by decide)).mp h)) hk
theorem e_lor {a b : Int} (hd : decode M.2.1 pc = .ok (.lor, 1)) (k : Ev G M Q (pc + 1) lo ((1, lOr a b) :: st) mem) : Ev G M Q pc lo ((1, b) :: (1, a) :: st) mem := by
  intro p e s m args below meth c H locs ls C hW hS hT hL hst
  obtain ⟨hb, ha, hst⟩ := st2 hst
  have hk := k p e s m args below meth c H locs ls C hW hS hT hL (stp (okv1 (okL_of _)) hst)
  rw [List.map_cons] at hk
  unfold lOr at hk
  rw [cvL] at hk
  exact lv_lor C.1 C.2.1 hd hk
theorem e_lshl {a b : Int} (hd : decode M.2.1 pc = .ok (.lshl, 1)) (k : Ev G M Q (pc + 1) lo ((1, lShl a b) :: st) mem) : Ev G M Q pc lo ((0, b) :: (1, a) :: st) mem := by
  intro p e s m args below meth c H locs ls C hW hS hT hL hst
  obtain ⟨hb, ha, hst⟩ := st2 hst
  have hk := k p e s m args below meth c H locs ls C hW hS hT hL (stp (okv1 (okL_of _)) hst)
  rw [List.map_cons] at hk
  unfold lShl at hk
  rw [cvL] at hk
  exact lv_lshl C.1 C.2.1 hd rfl hk
theorem e_ineg {a : Int} (hd : decode M.2.1 pc = .ok (.ineg, 1)) (k : Ev G M Q (pc + 1) lo ((0, w32 (-a)) :: st) mem) : Ev G M Q pc lo ((0, a) :: st) mem := by
  intro p e s m args below meth c H locs ls C hW hS hT hL hst
  obtain ⟨ha, hst⟩ := st1 hst
  have hk := k p e s m args below meth c H locs ls C hW hS hT hL (stp (okv0 (w32_ok _)) hst)
  rw [List.map_cons, show cv G.ad (0, w32 (-a)) = .int (-(Int32.ofInt a)) from by show Value.int _ = _; rw [i32_w, Int32.ofInt_neg]] at hk
  exact lv_ineg C.1 C.2.1 hd hk
theorem e_lneg {a : Int} (hd : decode M.2.1 pc = .ok (.lneg, 1)) (k : Ev G M Q (pc + 1) lo ((1, w64 (-a)) :: st) mem) : Ev G M Q pc lo ((1, a) :: st) mem := by
  intro p e s m args below meth c H locs ls C hW hS hT hL hst
  obtain ⟨ha, hst⟩ := st1 hst
  have hk := k p e s m args below meth c H locs ls C hW hS hT hL (stp (okv1 (w64_ok _)) hst)
  rw [List.map_cons, show cv G.ad (1, w64 (-a)) = .long (-(Int64.ofInt a)) from by show Value.long _ = _; rw [i64_w, Int64.ofInt_neg]] at hk
  exact lv_lneg C.1 C.2.1 hd hk
theorem e_i2l {a : Int} (hd : decode M.2.1 pc = .ok (.i2l, 1)) (k : Ev G M Q (pc + 1) lo ((1, a) :: st) mem) : Ev G M Q pc lo ((0, a) :: st) mem := by
  intro p e s m args below meth c H locs ls C hW hS hT hL hst
  obtain ⟨ha, hst⟩ := st1 hst
  have ho := okv0' ha
  refine lv_i2l C.1 C.2.1 hd ?_ (k p e s m args below meth c H locs ls C hW hS hT hL (stp (okv1 (by omega)) hst))
  apply Int64.toInt_inj.mp
  rw [Int32.toInt_toInt64, i32_toInt ho, i64_toInt (by omega)]
theorem e_i2b {a : Int} (hd : decode M.2.1 pc = .ok (.i2b, 1)) (k : Ev G M Q (pc + 1) lo ((0, i8 a) :: st) mem) : Ev G M Q pc lo ((0, a) :: st) mem := by
  intro p e s m args below meth c H locs ls C hW hS hT hL hst
  obtain ⟨ha, hst⟩ := st1 hst
  have hk := k p e s m args below meth c H locs ls C hW hS hT hL (stp (okv0 (okI_of _)) hst)
  rw [List.map_cons] at hk
  unfold i8 at hk
  rw [cvI] at hk
  exact lv_i2b C.1 C.2.1 hd rfl hk
theorem e_i2s {a : Int} (hd : decode M.2.1 pc = .ok (.i2s, 1)) (k : Ev G M Q (pc + 1) lo ((0, i16 a) :: st) mem) : Ev G M Q pc lo ((0, a) :: st) mem := by
  intro p e s m args below meth c H locs ls C hW hS hT hL hst
  obtain ⟨ha, hst⟩ := st1 hst
  have hk := k p e s m args below meth c H locs ls C hW hS hT hL (stp (okv0 (okI_of _)) hst)
  rw [List.map_cons] at hk
  unfold i16 at hk
  rw [cvI] at hk
  exact lv_i2s C.1 C.2.1 hd rfl hk
def lCmp (a b : Int) : Int := if a > b then 1 else if a = b then 0 else -1
theorem lCmp_ok (a b : Int) : okI (lCmp a b) := by
  unfold lCmp
  split
  · decide
  · split <;> decide
theorem e_lcmp {a b : Int} (hd : decode M.2.1 pc = .ok (.lcmp, 1)) (k : Ev G M Q (pc + 1) lo ((0, lCmp a b) :: st) mem) : Ev G M Q pc lo ((1, b) :: (1, a) :: st) mem := by
  intro p e s m args below meth c H locs ls C hW hS hT hL hst
  obtain ⟨hb, ha, hst⟩ := st2 hst
  have ha := okv1' ha
  have hb := okv1' hb
  have hk := k p e s m args below meth c H locs ls C hW hS hT hL (stp (okv0 (lCmp_ok a b)) hst)
  rw [List.map_cons] at hk
  refine W.lcmp C.1 C.2.1 hd ?_
  rw [show Value.int (lg_cmp (Int64.ofInt a) (Int64.ofInt b)) = cv G.ad (0, lCmp a b) from ?_]
  · exact hk
  · show _ = Value.int _
    unfold lg_cmp lCmp
    have e1 : (Int64.ofInt a > Int64.ofInt b) ↔ a > b := by show Int64.ofInt b < Int64.ofInt a ↔ b < a; rw [Int64.lt_iff_toInt_lt, i64_toInt ha, i64_toInt hb]
    have e2 : (Int64.ofInt a = Int64.ofInt b) ↔ a = b := i64_eq ha hb
    by_cases h1 : a > b
    · rw [if_pos (e1.mpr h1), if_pos h1]; rfl
    · rw [if_neg (fun q => h1 (e1.mp q)), if_neg h1]
      by_cases h2 : a = b
      · rw [if_pos (e2.mpr h2), if_pos h2]; rfl
      · rw [if_neg (fun q => h2 (e2.mp q)), if_neg h2]; rfl
theorem e_dup {v : AV} (hd : decode M.2.1 pc = .ok (.dup, 1)) (hc : cv_cat v = 1) (k : Ev G M Q (pc + 1) lo (v :: v :: st) mem) : Ev G M Q pc lo (v :: st) mem := by
  intro p e s m args below meth c H locs ls C hW hS hT hL hst
  exact lv_dup C.1 C.2.1 hd ((cv_category _ _).trans hc) (k p e s m args below meth c H locs ls C hW hS hT hL (stp (st1 hst).1 hst))
theorem e_pop {v : AV} (hd : decode M.2.1 pc = .ok (.pop, 1)) (hc : cv_cat v = 1) (k : Ev G M Q (pc + 1) lo st mem) : Ev G M Q pc lo (v :: st) mem := by
  intro p e s m args below meth c H locs ls C hW hS hT hL hst
  exact lv_pop C.1 C.2.1 hd ((cv_category _ _).trans hc) (k p e s m args below meth c H locs ls C hW hS hT hL (st1 hst).2)
theorem e_goto {off : Int} {tgt : Nat} (hd : decode M.2.1 pc = .ok (.goto off, 3)) (ht : (pc : Int) + off = (tgt : Int)) (k : Ev G M Q tgt lo st mem) : Ev G M Q pc lo st mem := by
  intro p e s m args below meth c H locs ls C hW hS hT hL hst
  exact lv_goto C.1 C.2.1 hd ht (k p e s m args below meth c H locs ls C hW hS hT hL hst)
theorem e_icmp_eq {a b : Int} {off : Int} {tgt : Nat} (hd : decode M.2.1 pc = .ok (.if_icmp .eq off, 3)) (ht : (pc : Int) + off = (tgt : Int)) (kt : a = b → Ev G M Q tgt lo st mem) (kf : ¬ a = b → Ev G M Q (pc + 3) lo st mem) : Ev G M Q pc lo ((0, b) :: (0, a) :: st) mem := by
  intro p e s m args below meth c H locs ls C hW hS hT hL hst
  obtain ⟨hb, ha, hst⟩ := st2 hst
  have hb := okv0' hb
  have ha := okv0' ha
  refine lv_icmp_eq C.1 C.2.1 hd ht (fun q => kt (by simp only [i32_eq ha hb, i32_lt ha hb, i32_le ha hb, i32_lt hb ha, i32_le hb ha, ne_eq, ge_iff_le, gt_iff_lt] at q; omega) p e s m args below meth c H locs ls C hW hS hT hL hst) (fun q => kf (by simp only [i32_eq ha hb, i32_lt ha hb, i32_le ha hb, i32_lt hb ha, i32_le hb ha, ne_eq, ge_iff_le, gt_iff_lt] at q; omega) p e s m args below meth c H locs ls C hW hS hT hL hst)
theorem e_if_eq {a : Int} {off : Int} {tgt : Nat} (hd : decode M.2.1 pc = .ok (.ifCond .eq off, 3)) (ht : (pc : Int) + off = (tgt : Int)) (kt : a = 0 → Ev G M Q tgt lo st mem) (kf : ¬ a = 0 → Ev G M Q (pc + 3) lo st mem) : Ev G M Q pc lo ((0, a) :: st) mem := by
  intro p e s m args below meth c H locs ls C hW hS hT hL hst
  obtain ⟨ha, hst⟩ := st1 hst
  have ha := okv0' ha
  have hb : okI 0 := by decide
  refine lv_if_eq C.1 C.2.1 hd ht (fun q => kt (by rw [show (0 : Int32) = Int32.ofInt 0 from rfl] at q; simp only [i32_eq ha hb, i32_lt ha hb, i32_le ha hb, i32_lt hb ha, i32_le hb ha, ne_eq, ge_iff_le, gt_iff_lt] at q; omega) p e s m args below meth c H locs ls C hW hS hT hL hst) (fun q => kf (by rw [show (0 : Int32) = Int32.ofInt 0 from rfl] at q; simp only [i32_eq ha hb, i32_lt ha hb, i32_le ha hb, i32_lt hb ha, i32_le hb ha, ne_eq, ge_iff_le, gt_iff_lt] at q; omega) p e s m args below meth c H locs ls C hW hS hT hL hst)
theorem e_icmp_ne {a b : Int} {off : Int} {tgt : Nat} (hd : decode M.2.1 pc = .ok (.if_icmp .ne off, 3)) (ht : (pc : Int) + off = (tgt : Int)) (kt : ¬ a = b → Ev G M Q tgt lo st mem) (kf : a = b → Ev G M Q (pc + 3) lo st mem) : Ev G M Q pc lo ((0, b) :: (0, a) :: st) mem := by
  intro p e s m args below meth c H locs ls C hW hS hT hL hst
  obtain ⟨hb, ha, hst⟩ := st2 hst
  have hb := okv0' hb
  have ha := okv0' ha
  refine lv_icmp_ne C.1 C.2.1 hd ht (fun q => kt (by simp only [i32_eq ha hb, i32_lt ha hb, i32_le ha hb, i32_lt hb ha, i32_le hb ha, ne_eq, ge_iff_le, gt_iff_lt] at q; omega) p e s m args below meth c H locs ls C hW hS hT hL hst) (fun q => kf (by simp only [i32_eq ha hb, i32_lt ha hb, i32_le ha hb, i32_lt hb ha, i32_le hb ha, ne_eq, ge_iff_le, gt_iff_lt] at q; omega) p e s m args below meth c H locs ls C hW hS hT hL hst)
theorem e_if_ne {a : Int} {off : Int} {tgt : Nat} (hd : decode M.2.1 pc = .ok (.ifCond .ne off, 3)) (ht : (pc : Int) + off = (tgt : Int)) (kt : ¬ a = 0 → Ev G M Q tgt lo st mem) (kf : a = 0 → Ev G M Q (pc + 3) lo st mem) : Ev G M Q pc lo ((0, a) :: st) mem := by
  intro p e s m args below meth c H locs ls C hW hS hT hL hst
  obtain ⟨ha, hst⟩ := st1 hst
  have ha := okv0' ha
  have hb : okI 0 := by decide
  refine lv_if_ne C.1 C.2.1 hd ht (fun q => kt (by rw [show (0 : Int32) = Int32.ofInt 0 from rfl] at q; simp only [i32_eq ha hb, i32_lt ha hb, i32_le ha hb, i32_lt hb ha, i32_le hb ha, ne_eq, ge_iff_le, gt_iff_lt] at q; omega) p e s m args below meth c H locs ls C hW hS hT hL hst) (fun q => kf (by rw [show (0 : Int32) = Int32.ofInt 0 from rfl] at q; simp only [i32_eq ha hb, i32_lt ha hb, i32_le ha hb, i32_lt hb ha, i32_le hb ha, ne_eq, ge_iff_le, gt_iff_lt] at q; omega) p e s m args below meth c H locs ls C hW hS hT hL hst)
theorem e_icmp_lt {a b : Int} {off : Int} {tgt : Nat} (hd : decode M.2.1 pc = .ok (.if_icmp .lt off, 3)) (ht : (pc : Int) + off = (tgt : Int)) (kt : a < b → Ev G M Q tgt lo st mem) (kf : b ≤ a → Ev G M Q (pc + 3) lo st mem) : Ev G M Q pc lo ((0, b) :: (0, a) :: st) mem := by
  intro p e s m args below meth c H locs ls C hW hS hT hL hst
  obtain ⟨hb, ha, hst⟩ := st2 hst
  have hb := okv0' hb
  have ha := okv0' ha
  refine lv_icmp_lt C.1 C.2.1 hd ht (fun q => kt (by simp only [i32_eq ha hb, i32_lt ha hb, i32_le ha hb, i32_lt hb ha, i32_le hb ha, ne_eq, ge_iff_le, gt_iff_lt] at q; omega) p e s m args below meth c H locs ls C hW hS hT hL hst) (fun q => kf (by simp only [i32_eq ha hb, i32_lt ha hb, i32_le ha hb, i32_lt hb ha, i32_le hb ha, ne_eq, ge_iff_le, gt_iff_lt] at q; omega) p e s m args below meth c H locs ls C hW hS hT hL hst)
theorem e_if_lt {a : Int} {off : Int} {tgt : Nat} (hd : decode M.2.1 pc = .ok (.ifCond .lt off, 3)) (ht : (pc : Int) + off = (tgt : Int)) (kt : a < 0 → Ev G M Q tgt lo st mem) (kf : 0 ≤ a → Ev G M Q (pc + 3) lo st mem) : Ev G M Q pc lo ((0, a) :: st) mem := by
  intro p e s m args below meth c H locs ls C hW hS hT hL hst
  obtain ⟨ha, hst⟩ := st1 hst
  have ha := okv0' ha
  have hb : okI 0 := by decide
  refine lv_if_lt C.1 C.2.1 hd ht (fun q => kt (by rw [show (0 : Int32) = Int32.ofInt 0 from rfl] at q; simp only [i32_eq ha hb, i32_lt ha hb, i32_le ha hb, i32_lt hb ha, i32_le hb ha, ne_eq, ge_iff_le, gt_iff_lt] at q; omega) p e s m args below meth c H locs ls C hW hS hT hL hst) (fun q => kf (by rw [show (0 : Int32) = Int32.ofInt 0 from rfl] at q; simp only [i32_eq ha hb, i32_lt ha hb, i32_le ha hb, i32_lt hb ha, i32_le hb ha, ne_eq, ge_iff_le, gt_iff_lt] at q; omega) p e s m args below meth c H locs ls C hW hS hT hL hst)
theorem e_icmp_ge {a b : Int} {off : Int} {tgt : Nat} (hd : decode M.2.1 pc = .ok (.if_icmp .ge off, 3)) (ht : (pc : Int) + off = (tgt : Int)) (kt : b ≤ a → Ev G M Q tgt lo st mem) (kf : a < b → Ev G M Q (pc + 3) lo st mem) : Ev G M Q pc lo ((0, b) :: (0, a) :: st) mem := by
  intro p e s m args below meth c H locs ls C hW hS hT hL hst
  obtain ⟨hb, ha, hst⟩ := st2 hst
  have hb := okv0' hb
  have ha := okv0' ha
  refine lv_icmp_ge C.1 C.2.1 hd ht (fun q => kt (by simp only [i32_eq ha hb, i32_lt ha hb, i32_le ha hb, i32_lt hb ha, i32_le hb ha, ne_eq, ge_iff_le, gt_iff_lt] at q; omega) p e s m args below meth c H locs ls C hW hS hT hL hst) (fun q => kf (by simp only [i32_eq ha hb, i32_lt ha hb, i32_le ha hb, i32_lt hb ha, i32_le hb ha, ne_eq, ge_iff_le, gt_iff_lt] at q; omega) p e s m args below meth c H locs ls C hW hS hT hL hst)
theorem e_if_ge {a : Int} {off : Int} {tgt : Nat} (hd : decode M.2.1 pc = .ok (.ifCond .ge off, 3)) (ht : (pc : Int) + off = (tgt : Int)) (kt : 0 ≤ a → Ev G M Q tgt lo st mem) (kf : a < 0 → Ev G M Q (pc + 3) lo st mem) : Ev G M Q pc lo ((0, a) :: st) mem := by
  intro p e s m args below meth c H locs ls C hW hS hT hL hst
  obtain ⟨ha, hst⟩ := st1 hst
  have ha := okv0' ha
  have hb : okI 0 := by decide
  refine lv_if_ge C.1 C.2.1 hd ht (fun q => kt (by rw [show (0 : Int32) = Int32.ofInt 0 from rfl] at q; simp only [i32_eq ha hb, i32_lt ha hb, i32_le ha hb, i32_lt hb ha, i32_le hb ha, ne_eq, ge_iff_le, gt_iff_lt] at q; omega) p e s m args below meth c H locs ls C hW hS hT hL hst) (fun q => kf (by rw [show (0 : Int32) = Int32.ofInt 0 from rfl] at q; simp only [i32_eq ha hb, i32_lt ha hb, i32_le ha hb, i32_lt hb ha, i32_le hb ha, ne_eq, ge_iff_le, gt_iff_lt] at q; omega) p e s m args below meth c H locs ls C hW hS hT hL hst)
theorem e_icmp_gt {a b : Int} {off : Int} {tgt : Nat} (hd : decode M.2.1 pc = .ok (.if_icmp .gt off, 3)) (ht : (pc : Int) + off = (tgt : Int)) (kt : b < a → Ev G M Q tgt lo st mem) (kf : a ≤ b → Ev G M Q (pc + 3) lo st mem) : Ev G M Q pc lo ((0, b) :: (0, a) :: st) mem := by
  intro p e s m args below meth c H locs ls C hW hS hT hL hst
  obtain ⟨hb, ha, hst⟩ := st2 hst
  have hb := okv0' hb
  have ha := okv0' ha
  refine lv_icmp_gt C.1 C.2.1 hd ht (fun q => kt (by simp only [i32_eq ha hb, i32_lt ha hb, i32_le ha hb, i32_lt hb ha, i32_le hb ha, ne_eq, ge_iff_le, gt_iff_lt] at q; omega) p e s m args below meth c H locs ls C hW hS hT hL hst) (fun q => kf (by simp only [i32_eq ha hb, i32_lt ha hb, i32_le ha hb, i32_lt hb ha, i32_le hb ha, ne_eq, ge_iff_le, gt_iff_lt] at q; omega) p e s m args below meth c H locs ls C hW hS hT hL hst)
theorem e_if_gt {a : Int} {off : Int} {tgt : Nat} (hd : decode M.2.1 pc = .ok (.ifCond .gt off, 3)) (ht : (pc : Int) + off = (tgt : Int)) (kt : 0 < a → Ev G M Q tgt lo st mem) (kf : a ≤ 0 → Ev G M Q (pc + 3) lo st mem) : Ev G M Q pc lo ((0, a) :: st) mem := by
  intro p e s m args below meth c H locs ls C hW hS hT hL hst
  obtain ⟨ha, hst⟩ := st1 hst
  have ha := okv0' ha
  have hb : okI 0 := by decide
  refine lv_if_gt C.1 C.2.1 hd ht (fun q => kt (by rw [show (0 : Int32) = Int32.ofInt 0 from rfl] at q; simp only [i32_eq ha hb, i32_lt ha hb, i32_le ha hb, i32_lt hb ha, i32_le hb ha, ne_eq, ge_iff_le, gt_iff_lt] at q; omega) p e s m args below meth c H locs ls C hW hS hT hL hst) (fun q => kf (by rw [show (0 : Int32) = Int32.ofInt 0 from rfl] at q; simp only [i32_eq ha hb, i32_lt ha hb, i32_le ha hb, i32_lt hb ha, i32_le hb ha, ne_eq, ge_iff_le, gt_iff_lt] at q; omega) p e s m args below meth c H locs ls C hW hS hT hL hst)
theorem e_icmp_le {a b : Int} {off : Int} {tgt : Nat} (hd : decode M.2.1 pc = .ok (.if_icmp .le off, 3)) (ht : (pc : Int) + off = (tgt : Int)) (kt : a ≤ b → Ev G M Q tgt lo st mem) (kf : b < a → Ev G M Q (pc + 3) lo st mem) : Ev G M Q pc lo ((0, b) :: (0, a) :: st) mem := by
  intro p e s m args below meth c H locs ls C hW hS hT hL hst
  obtain ⟨hb, ha, hst⟩ := st2 hst
  have hb := okv0' hb
  have ha := okv0' ha
  refine lv_icmp_le C.1 C.2.1 hd ht (fun q => kt (by simp only [i32_eq ha hb, i32_lt ha hb, i32_le ha hb, i32_lt hb ha, i32_le hb ha, ne_eq, ge_iff_le, gt_iff_lt] at q; omega) p e s m args below meth c H locs ls C hW hS hT hL hst) (fun q => kf (by simp only [i32_eq ha hb, i32_lt ha hb, i32_le ha hb, i32_lt hb ha, i32_le hb ha, ne_eq, ge_iff_le, gt_iff_lt] at q; omega) p e s m args below meth c H locs ls C hW hS hT hL hst)
theorem e_if_le {a : Int} {off : Int} {tgt : Nat} (hd : decode M.2.1 pc = .ok (.ifCond .le off, 3)) (ht : (pc : Int) + off = (tgt : Int)) (kt : a ≤ 0 → Ev G M Q tgt lo st mem) (kf : 0 < a → Ev G M Q (pc + 3) lo st mem) : Ev G M Q pc lo ((0, a) :: st) mem := by
  intro p e s m args below meth c H locs ls C hW hS hT hL hst
  obtain ⟨ha, hst⟩ := st1 hst
  have ha := okv0' ha
  have hb : okI 0 := by decide
  refine lv_if_le C.1 C.2.1 hd ht (fun q => kt (by rw [show (0 : Int32) = Int32.ofInt 0 from rfl] at q; simp only [i32_eq ha hb, i32_lt ha hb, i32_le ha hb, i32_lt hb ha, i32_le hb ha, ne_eq, ge_iff_le, gt_iff_lt] at q; omega) p e s m args below meth c H locs ls C hW hS hT hL hst) (fun q => kf (by rw [show (0 : Int32) = Int32.ofInt 0 from rfl] at q; simp only [i32_eq ha hb, i32_lt ha hb, i32_le ha hb, i32_lt hb ha, i32_le hb ha, ne_eq, ge_iff_le, gt_iff_lt] at q; omega) p e s m args below meth c H locs ls C hW hS hT hL hst)
theorem e_tableOut {dflt l0 h0 : Int} {offs : Array Int} {len : Nat} {a : Int} {tgt : Nat} (hd : decode M.2.1 pc = .ok (.tableswitch dflt l0 h0 offs, len)) (h : a < l0 ∨ h0 < a) (ht : (pc : Int) + dflt = (tgt : Int)) (k : Ev G M Q tgt lo st mem) : Ev G M Q pc lo ((0, a) :: st) mem := by
  intro p e s m args below meth c H locs ls C hW hS hT hL hst
  obtain ⟨ha, hst⟩ := st1 hst
  exact lv_tableOut C.1 C.2.1 hd (by rw [i32_toInt (okv0' ha)]; exact h) ht (k p e s m args below meth c H locs ls C hW hS hT hL hst)
theorem e_tableIn {dflt l0 h0 : Int} {offs : Array Int} {len : Nat} {a : Int} {off : Int} {tgt : Nat} (hd : decode M.2.1 pc = .ok (.tableswitch dflt l0 h0 offs, len)) (h : l0 ≤ a ∧ a ≤ h0) (ho : offs[(a - l0).toNat]? = some off) (ht : (pc : Int) + off = (tgt : Int)) (k : Ev G M Q tgt lo st mem) : Ev G M Q pc lo ((0, a) :: st) mem := by
  intro p e s m args below meth c H locs ls C hW hS hT hL hst
  obtain ⟨ha, hst⟩ := st1 hst
  have e9 := i32_toInt (okv0' ha)
  exact lv_tableIn C.1 C.2.1 hd (by rw [e9]; omega) (by rw [e9]; omega) (by rw [e9]; exact ho) ht (k p e s m args below meth c H locs ls C hW hS hT hL hst)
end MRows
end
section
section MHeap
variable {G : Gm} {M : Mt} {Q : Option AV → Mem → Prop} {pc : Nat} {lo st : List AV} {mem : Mem}
/-- by the link own/ix the field j of the class number ci is meant -/
def FL (own : String) (ix ci j : Nat) : Prop := ∃ q : vw_C, classes[ci]? = some q ∧ j < q.2.2 ∧ Cond.fieldLink own ix q.1 (q.2.1 j).2.1 (q.2.1 j).2.2.1 ∈ wtb ∧ (q.2.1 j).1 = q.1
theorem ceE_obj {ad : Nat → Nat} {cA : Nat → ClassId} {c ci : Nat} {ks : List Int} {r : Nat → Int} (hs : shp c = .inl (ci, ks)) : ceE ad cA c r = .inr (ci, ks.zipIdx.map (fun q => fv ad r q.2 q.1)) := by
  unfold ceE; rw [hs]
theorem ceE_arr {ad : Nat → Nat} {cA : Nat → ClassId} {c t n b : Nat} {r : Nat → Int} (hs : shp c = .inr (t, n, b)) : ceE ad cA c r = .inl (cA t, n, arE ad t n b r) := by
  unfold ceE; rw [hs]
theorem fv_at {ad : Nat → Nat} {ks : List Int} {r : Nat → Int} {j : Nat} {k : Int} (hk : ks[j]? = some k) : (ks.zipIdx.map (fun q => fv ad r q.2 q.1))[j]? = some (fv ad r j k) := by
  rw [List.getElem?_map, List.getElem?_zipIdx, hk]; simp
theorem fv_set {ad : Nat → Nat} {ks : List Int} {r : Nat → Int} {j : Nat} {k v : Int} (hk : ks[j]? = some k) (hn : k < 0) : (ks.zipIdx.map (fun q => fv ad r q.2 q.1)).set j (.int (Int32.ofInt v)) = ks.zipIdx.map (fun q => fv ad (uset r j v) q.2 q.1) := by
  apply List.ext_getElem?
  intro i
  rw [List.getElem?_set]
  by_cases hi : j = i
  · subst hi
    have hl : j < ks.length := (List.getElem?_eq_some_iff.mp hk).1
    rw [if_pos rfl, fv_at hk]
    simp [hl, fv, hn, uset]
  · rw [if_neg hi, List.getElem?_map, List.getElem?_map, List.getElem?_zipIdx]
    cases h : ks[i]? with
    | none => rfl
    | some x => simp [fv, uset, Ne.symm hi]
theorem shp_lt {c : Nat} {x : Nat × List Int} (h : shp c = .inl x) : c < NC := by
  rcases Nat.lt_or_ge c NC with q | q
  · exact q
  · unfold shp at h
    rw [List.getD_eq_getElem?_getD, List.getElem?_eq_none (show shl.length ≤ c from q)] at h
    cases h
theorem okm_geti {c ci j : Nat} {ks : List Int} (h : okm mem) (hs : shp c = .inl (ci, ks)) : okI (mem c j) := by
  have := h c j
  rw [hs] at this
  exact this
theorem okm_arr {c t n b j : Nat} (h : okm mem) (hs : shp c = .inr (t, n, b)) (ht : t ≠ 2) : okI (mem c j) := by
  have := h c j
  rw [hs] at this
  simpa [ht] using this
theorem okm_arrL {c n b j : Nat} (h : okm mem) (hs : shp c = .inr (2, n, b)) : okL (mem c j) := by
  have := h c j
  rw [hs] at this
  simpa using this
theorem okm_rset {c : Nat} {r : Nat → Int} (h : okm mem) (hr : okr c r) : okm (rset mem c r) := by
  intro c'
  by_cases e : c' = c
  · subst e; rw [rset_eq]; exact hr
  · rw [rset_ne _ _ _ e]; exact h c'
theorem okr_uset {c j : Nat} {r : Nat → Int} {v : Int} (h : okr c r) (hv : (shp c).elim (fun _ => okI v) (fun q => if q.1 = 2 then okL v else okI v)) : okr c (uset r j v) := by
  intro j'
  unfold uset
  by_cases e : j' = j
  · rw [if_pos e]; exact hv
  · rw [if_neg e]; exact h j'
theorem ad_inj (hD : va_D (AA G) (wsOf G.ad G.cA mem)) {a b : Nat} (ha : a < NC) (hb : b < NC) (h : G.ad a = G.ad b) : a = b := hD.1 a b _ _ (ws_get ha) (ws_get hb) h
/-- an int or boolean field is read -/
theorem e_geti {ix c ci j : Nat} {ks : List Int} {k : Int} (hd : decode M.2.1 pc = .ok (.getfield ix, 3)) (hf : FL M.1.cls ix ci j) (hs : shp c = .inl (ci, ks)) (hk : ks[j]? = some k) (hn : k < 0) (kk : Ev G M Q (pc + 3) lo ((0, mem c j) :: st) mem) : Ev G M Q pc lo ((2, (c : Int)) :: st) mem := by
  intro p e s m args below meth c' H locs ls C hW hS hT hL hst
  obtain ⟨q, hq, hj, hl, ho⟩ := hf
  have hc := shp_lt hs
  have hg := ws_get (ad := G.ad) (cA := G.cA) (mem := mem) hc
  rw [ceE_obj hs] at hg
  refine va_get (v := .int (Int32.ofInt (mem c j))) (own := M.1.cls) C.1 C.2.1 (Ts := wds M) C.2.2.2.2.2.1 (fun w h => List.mem_cons_of_mem _ ((cls_in ci q hq).1 w h)) C.2.2.2.2.1 hW.2.1 hW.1 c hg hq j hj (C.2.2.2.2.2.1 _ (List.mem_cons_of_mem _ hl)) (fun x hx => by rw [ho] at hx; exact hx) ?_ hd ?_
  · rw [fv_at hk]; simp [fv, hn]
  · exact kk p e s m args below meth c' H locs ls C hW hS hT hL (stp (okv0 (okm_geti hW.2.2.2 hs)) (st1 hst).2)
/-- a reference is read: the world's own -/
theorem e_getr {ix c ci j : Nat} {ks : List Int} {k : Int} (hd : decode M.2.1 pc = .ok (.getfield ix, 3)) (hf : FL M.1.cls ix ci j) (hs : shp c = .inl (ci, ks)) (hk : ks[j]? = some k) (hn : ¬ k < 0) (kk : Ev G M Q (pc + 3) lo ((2, k) :: st) mem) : Ev G M Q pc lo ((2, (c : Int)) :: st) mem := by
  intro p e s m args below meth c' H locs ls C hW hS hT hL hst
  obtain ⟨q, hq, hj, hl, ho⟩ := hf
  have hc := shp_lt hs
  have hg := ws_get (ad := G.ad) (cA := G.cA) (mem := mem) hc
  rw [ceE_obj hs] at hg
  refine va_get (v := .ref (G.ad k.toNat)) (own := M.1.cls) C.1 C.2.1 (Ts := wds M) C.2.2.2.2.2.1 (fun w h => List.mem_cons_of_mem _ ((cls_in ci q hq).1 w h)) C.2.2.2.2.1 hW.2.1 hW.1 c hg hq j hj (C.2.2.2.2.2.1 _ (List.mem_cons_of_mem _ hl)) (fun x hx => by rw [ho] at hx; exact hx) ?_ hd ?_
  · rw [fv_at hk]; simp [fv, hn]
  · exact kk p e s m args below meth c' H locs ls C hW hS hT hL (stp okv2 (st1 hst).2)
/-- an int field is written (k = -1), or a boolean one (k = -2) -/
theorem e_puti {ix c ci j : Nat} {ks : List Int} {k v : Int} (hd : decode M.2.1 pc = .ok (.putfield ix, 3)) (hf : FL M.1.cls ix ci j) (hs : shp c = .inl (ci, ks)) (hk : ks[j]? = some k) (hn : k < 0)
    (hm : ∀ q : vw_C, classes[ci]? = some q → (q.2.1 j).2.2.2 = false ∧ (tyOf ci j = .int ∨ (tyOf ci j = .boolean ∧ (v = 0 ∨ v = 1)))) (kk : Ev G M Q (pc + 3) lo st (mset mem c j v)) : Ev G M Q pc lo ((0, v) :: (2, (c : Int)) :: st) mem := by
  intro p e s m args below meth c' H locs ls C hW hS hT hL hst
  obtain ⟨q, hq, hj, hl, ho⟩ := hf
  have hc := shp_lt hs
  have hg := ws_get (ad := G.ad) (cA := G.cA) (mem := mem) hc
  rw [ceE_obj hs] at hg
  obtain ⟨hm1, hm2⟩ := hm q hq
  have hfit : narrow (tyOf ci j) (.int (Int32.ofInt v)) = .int (Int32.ofInt v) ∧ fits (tyOf ci j) (.int (Int32.ofInt v)) = true := by
    rcases hm2 with h | ⟨h, rfl | rfl⟩ <;> rw [h]
    · exact ⟨rfl, rfl⟩
    · exact ⟨rfl, rfl⟩
    · exact ⟨rfl, rfl⟩
  refine va_put (v := .int (Int32.ofInt v)) (own := M.1.cls) C.1 C.2.1 (Ts := wds M) C.2.2.2.2.2.1 (fun w h => List.mem_cons_of_mem _ ((cls_in ci q hq).1 w h)) (tyOf ci) (cls_in ci q hq).2.1 (cls_in ci q hq).2.2 C.2.2.2.2.1 hW.2.1 hW.1 hW.2.2.1 hS c hg hq j hj (C.2.2.2.2.2.1 _ (List.mem_cons_of_mem _ hl)) (fun x hx => by rw [ho] at hx; exact hx) hm1 ((cls_in ci q hq).2.1 j hj) hfit.1 hfit.2 ?_ hd (fun H1 locs1 hP1 hD1 hS1 => ?_)
  · rw [List.length_map, List.length_zipIdx]; exact (List.getElem?_eq_some_iff.mp hk).1
  · rw [fv_set hk hn, ws_set (r := uset (mem c) j v) (ceE_obj hs)] at hP1 hD1
    refine kk p e s m args below meth c' H1 locs1 ls C ⟨hP1, hW.2.1, hD1, okm_rset hW.2.2.2 (okr_uset (hW.2.2.2 c) ?_)⟩ hS1 hT hL (st2 hst).2.2
    rw [hs]; exact okv0' (st1 hst).1
theorem tys0 : (tysG G)[0]? = some (G.cA 0, .int) := rfl
theorem tys1 : (tysG G)[1]? = some (G.cA 1, .boolean) := rfl
theorem tys2 : (tysG G)[2]? = some (G.cA 2, .long) := rfl
theorem tys3 : (tysG G)[3]? = some (G.cA 3, .array .int) := rfl
theorem shp_ltA {c t n b : Nat} (h : shp c = .inr (t, n, b)) (hn : 0 < n) : c < NC := by
  rcases Nat.lt_or_ge c NC with q | q
  · exact q
  · unfold shp at h
    rw [List.getD_eq_getElem?_getD, List.getElem?_eq_none (show shl.length ≤ c from q)] at h
    simp at h
    omega
theorem e_iald {c n b : Nat} {i : Int} (hd : decode M.2.1 pc = .ok (.iaload, 1)) (hs : shp c = .inr (0, n, b)) (hi : 0 ≤ i ∧ i < n) (kk : Ev G M Q (pc + 1) lo ((0, mem c i.toNat) :: st) mem) : Ev G M Q pc lo ((0, i) :: (2, (c : Int)) :: st) mem := by
  intro p e s m args below meth c' H locs ls C hW hS hT hL hst
  have hc := shp_ltA hs (by omega)
  have hg := ws_get (ad := G.ad) (cA := G.cA) (mem := mem) hc
  rw [ceE_arr hs] at hg
  have ho := okv0' (st1 hst).1
  refine va_iald C.1 C.2.1 hW.2.1 hW.1 c 0 hg tys0 (i32_in ho hi.1 hi.2) hd ?_
  rw [i32_clamp ho hi.1]
  exact kk p e s m args below meth c' H locs ls C hW hS hT hL (stp (okv0 (okm_arr hW.2.2.2 hs (by decide))) (st2 hst).2.2)
theorem e_zald {c n b : Nat} {i : Int} (hd : decode M.2.1 pc = .ok (.baload, 1)) (hs : shp c = .inr (1, n, b)) (hi : 0 ≤ i ∧ i < n) (kk : Ev G M Q (pc + 1) lo ((0, mem c i.toNat) :: st) mem) : Ev G M Q pc lo ((0, i) :: (2, (c : Int)) :: st) mem := by
  intro p e s m args below meth c' H locs ls C hW hS hT hL hst
  have hc := shp_ltA hs (by omega)
  have hg := ws_get (ad := G.ad) (cA := G.cA) (mem := mem) hc
  rw [ceE_arr hs] at hg
  have ho := okv0' (st1 hst).1
  refine va_zald C.1 C.2.1 hW.2.1 hW.1 c 1 hg tys1 (i32_in ho hi.1 hi.2) hd ?_
  rw [i32_clamp ho hi.1]
  exact kk p e s m args below meth c' H locs ls C hW hS hT hL (stp (okv0 (okm_arr hW.2.2.2 hs (by decide))) (st2 hst).2.2)
theorem e_lald {c n b : Nat} {i : Int} (hd : decode M.2.1 pc = .ok (.laload, 1)) (hs : shp c = .inr (2, n, b)) (hi : 0 ≤ i ∧ i < n) (kk : Ev G M Q (pc + 1) lo ((1, mem c i.toNat) :: st) mem) : Ev G M Q pc lo ((0, i) :: (2, (c : Int)) :: st) mem := by
  intro p e s m args below meth c' H locs ls C hW hS hT hL hst
  have hc := shp_ltA hs (by omega)
  have hg := ws_get (ad := G.ad) (cA := G.cA) (mem := mem) hc
  rw [ceE_arr hs] at hg
  have ho := okv0' (st1 hst).1
  refine va_lald C.1 C.2.1 hW.2.1 hW.1 c 2 hg tys2 (i32_in ho hi.1 hi.2) hd ?_
  rw [i32_clamp ho hi.1]
  exact kk p e s m args below meth c' H locs ls C hW hS hT hL (stp (okv1 (okm_arrL hW.2.2.2 hs)) (st2 hst).2.2)
/-- a row of an array of rows -/
theorem e_aald {c n b : Nat} {i : Int} (hd : decode M.2.1 pc = .ok (.aaload, 1)) (hs : shp c = .inr (3, n, b)) (hi : 0 ≤ i ∧ i < n) (kk : Ev G M Q (pc + 1) lo ((2, (b : Int) + i) :: st) mem) : Ev G M Q pc lo ((0, i) :: (2, (c : Int)) :: st) mem := by
  intro p e s m args below meth c' H locs ls C hW hS hT hL hst
  have hc := shp_ltA hs (by omega)
  have hg := ws_get (ad := G.ad) (cA := G.cA) (mem := mem) hc
  rw [ceE_arr hs] at hg
  have ho := okv0' (st1 hst).1
  have hin := i32_in ho hi.1 hi.2
  have hlt : (Int32.ofInt i).toNatClampNeg < n := Nat.not_le.mp fun q => hin (Or.inr q)
  refine W.aald (v := .ref (G.ad ((b : Int) + i).toNat)) (ty := .array .int) C.1 C.2.1 (hW.1 c _ hg) ((hW.2.1.2 3 _ tys3).1 n (fun j => va_rf (if j < n then some (G.ad (b + j)) else none))) rfl (fun q => by cases q) (by show ¬ (_ ∨ (arrV _ _ _).slots.size ≤ _); rw [arrV_size]; exact hin) ?_ rfl rfl hd (kk p e s m args below meth c' H locs ls C hW hS hT hL (stp okv2 (st2 hst).2.2))
  show (arrV _ _ _).slots[_]? = _
  rw [arrV_read _ _ hlt]
  show some (va_rf (if _ < n then _ else _)) = _
  rw [if_pos hlt, i32_clamp ho hi.1, show ((b : Int) + i).toNat = b + i.toNat by omega]
  rfl
theorem e_iast {c n b : Nat} {i v : Int} (hd : decode M.2.1 pc = .ok (.iastore, 1)) (hs : shp c = .inr (0, n, b)) (hi : 0 ≤ i ∧ i < n) (kk : Ev G M Q (pc + 1) lo st (mset mem c i.toNat v)) : Ev G M Q pc lo ((0, v) :: (0, i) :: (2, (c : Int)) :: st) mem := by
  intro p e s m args below meth c' H locs ls C hW hS hT hL hst
  have hc := shp_ltA hs (by omega)
  have hg := ws_get (ad := G.ad) (cA := G.cA) (mem := mem) hc
  rw [ceE_arr hs] at hg
  have ho := okv0' (st2 hst).2.1
  refine va_iast C.1 C.2.1 hW.2.1 hW.1 hW.2.2.1 hS c 0 hg tys0 (i32_in ho hi.1 hi.2) hd (fun H1 locs1 hP1 hD1 hS1 => ?_)
  rw [i32_clamp ho hi.1, ws_set (r := uset (mem c) i.toNat v) (by
    rw [ceE_arr hs]
    show Sum.inl (_, n, Sum.inl _) = Sum.inl (_, n, Sum.inl _)
    congr 4
    funext j
    unfold uset upd
    split <;> rfl)] at hP1 hD1
  refine kk p e s m args below meth c' H1 locs1 ls C ⟨hP1, hW.2.1, hD1, okm_rset hW.2.2.2 (okr_uset (hW.2.2.2 c) ?_)⟩ hS1 hT hL (st3 hst).2.2.2
  rw [hs]; exact okv0' (st1 hst).1
theorem e_zast {c n b : Nat} {i v : Int} (hd : decode M.2.1 pc = .ok (.bastore, 1)) (hs : shp c = .inr (1, n, b)) (hi : 0 ≤ i ∧ i < n) (hv : v = 0 ∨ v = 1) (kk : Ev G M Q (pc + 1) lo st (mset mem c i.toNat v)) : Ev G M Q pc lo ((0, v) :: (0, i) :: (2, (c : Int)) :: st) mem := by
  intro p e s m args below meth c' H locs ls C hW hS hT hL hst
  have hc := shp_ltA hs (by omega)
  have hg := ws_get (ad := G.ad) (cA := G.cA) (mem := mem) hc
  rw [ceE_arr hs] at hg
  have ho := okv0' (st2 hst).2.1
  refine va_zast C.1 C.2.1 hW.2.1 hW.1 hW.2.2.1 hS c 1 hg tys1 (i32_in ho hi.1 hi.2) hd (fun H1 locs1 hP1 hD1 hS1 => ?_)
  have hnar : vp_nar .boolean (Int32.ofInt v) = Int32.ofInt v := by rcases hv with rfl | rfl <;> rfl
  rw [hnar, i32_clamp ho hi.1, ws_set (r := uset (mem c) i.toNat v) (by
    rw [ceE_arr hs]
    show Sum.inl (_, n, Sum.inl _) = Sum.inl (_, n, Sum.inl _)
    congr 4
    funext j
    unfold uset upd
    split <;> rfl)] at hP1 hD1
  refine kk p e s m args below meth c' H1 locs1 ls C ⟨hP1, hW.2.1, hD1, okm_rset hW.2.2.2 (okr_uset (hW.2.2.2 c) ?_)⟩ hS1 hT hL (st3 hst).2.2.2
  rw [hs]; exact okv0' (st1 hst).1
theorem e_last {c n b : Nat} {i v : Int} (hd : decode M.2.1 pc = .ok (.lastore, 1)) (hs : shp c = .inr (2, n, b)) (hi : 0 ≤ i ∧ i < n) (kk : Ev G M Q (pc + 1) lo st (mset mem c i.toNat v)) : Ev G M Q pc lo ((1, v) :: (0, i) :: (2, (c : Int)) :: st) mem := by
  intro p e s m args below meth c' H locs ls C hW hS hT hL hst
  have hc := shp_ltA hs (by omega)
  have hg := ws_get (ad := G.ad) (cA := G.cA) (mem := mem) hc
  rw [ceE_arr hs] at hg
  have ho := okv0' (st2 hst).2.1
  refine va_last C.1 C.2.1 hW.2.1 hW.1 hW.2.2.1 hS c 2 hg tys2 (i32_in ho hi.1 hi.2) hd (fun H1 locs1 hP1 hD1 hS1 => ?_)
  rw [i32_clamp ho hi.1, ws_set (r := uset (mem c) i.toNat v) (by
    rw [ceE_arr hs]
    show Sum.inl (_, n, Sum.inr (Sum.inl _)) = Sum.inl (_, n, Sum.inr (Sum.inl _))
    congr 5
    funext j
    unfold uset vp_updL
    split <;> rfl)] at hP1 hD1
  refine kk p e s m args below meth c' H1 locs1 ls C ⟨hP1, hW.2.1, hD1, okm_rset hW.2.2.2 (okr_uset (hW.2.2.2 c) ?_)⟩ hS1 hT hL (st3 hst).2.2.2
  rw [hs]; exact okv1' (st1 hst).1
theorem e_alen {c t n b : Nat} (hd : decode M.2.1 pc = .ok (.arraylength, 1)) (hs : shp c = .inr (t, n, b)) (ht : t < 4) (hn : 0 < n ∧ n < 2147483648) (kk : Ev G M Q (pc + 1) lo ((0, (n : Int)) :: st) mem) : Ev G M Q pc lo ((2, (c : Int)) :: st) mem := by
  intro p e s m args below meth c' H locs ls C hW hS hT hL hst
  have hc := shp_ltA hs hn.1
  have hg := ws_get (ad := G.ad) (cA := G.cA) (mem := mem) hc
  rw [ceE_arr hs] at hg
  have hk := kk p e s m args below meth c' H locs ls C hW hS hT hL (stp (okv0 (by omega)) (st1 hst).2)
  have hv : Int32.ofNat n = Int32.ofInt (n : Int) := rfl
  match t, ht with
  | 0, _ => exact va_alen C.1 C.2.1 hW.2.1 hW.1 c 0 hg tys0 hv hd hk
  | 1, _ => exact va_alen C.1 C.2.1 hW.2.1 hW.1 c 1 hg tys1 hv hd hk
  | 2, _ => exact va_alen C.1 C.2.1 hW.2.1 hW.1 c 2 hg tys2 hv hd hk
  | 3, _ => exact va_alen C.1 C.2.1 hW.2.1 hW.1 c 3 hg tys3 hv hd hk
/-- the static rows -/
theorem e_gets {ix k : Nat} (hd : decode M.2.1 pc = .ok (.getstatic ix, 3)) (hk : k < 4) (hl : Cond.fieldLink M.1.cls ix "HallMinutes" (stN k) "[I" ∈ wtb) (kk : Ev G M Q (pc + 3) lo ((2, ((NC + k : Nat) : Int)) :: st) mem) : Ev G M Q pc lo st mem := by
  intro p e s m args below meth c' H locs ls C hW hS hT hL hst
  exact va_gets C.1 C.2.1 (hT.2 k hk).1 hS C.2.2.2.2.1 (C.2.2.2.2.2.1 _ (List.mem_cons_of_mem _ hl)) (fun x h => h) hd (kk p e s m args below meth c' H locs ls C hW hS hT hL (stp okv2 hst))
theorem e_getsN (hc : M.1.cls = "HallMinutes$Evening") (hd : decode M.2.1 pc = .ok (.getstatic 9, 3)) (kk : Ev G M Q (pc + 3) lo ((2, ((NC + 3 : Nat) : Int)) :: st) mem) : Ev G M Q pc lo st mem := by
  intro p e s m args below meth c' H locs ls C hW hS hT hL hst
  exact va_getsN C.1 C.2.1 (hT.2 3 (by decide)).1 hS (by rw [← hc]; exact C.2.2.2.2.1) (va_Nw.use rfl hT.1) (fun x h => h) hd (kk p e s m args below meth c' H locs ls C hW hS hT hL (stp okv2 hst))
theorem e_siald {k : Nat} {i : Int} (hd : decode M.2.1 pc = .ok (.iaload, 1)) (hk : k < 4) (hi : 0 ≤ i ∧ i < (stV k).length) (hv : okI ((stV k).getD i.toNat 0)) (kk : Ev G M Q (pc + 1) lo ((0, (stV k).getD i.toNat 0) :: st) mem) : Ev G M Q pc lo ((0, i) :: (2, ((NC + k : Nat) : Int)) :: st) mem := by
  intro p e s m args below meth c' H locs ls C hW hS hT hL hst
  have ho := okv0' (st1 hst).1
  refine va_ti C.1 C.2.1 (hT.2 k hk).2 hS (i32_in ho hi.1 hi.2) (v := .int (Int32.ofInt ((stV k).getD i.toNat 0))) (by rw [i32_clamp ho hi.1]) hd ?_
  exact kk p e s m args below meth c' H locs ls C hW hS hT hL (stp (okv0 hv) (st2 hst).2.2)
theorem e_salen {k : Nat} (hd : decode M.2.1 pc = .ok (.arraylength, 1)) (hk : k < 4) (kk : Ev G M Q (pc + 1) lo ((0, ((stV k).length : Int)) :: st) mem) : Ev G M Q pc lo ((2, ((NC + k : Nat) : Int)) :: st) mem := by
  intro p e s m args below meth c' H locs ls C hW hS hT hL hst
  have h9 : (stV k).length < 6 := by
    match k, hk with
    | 0, _ => decide
    | 1, _ => decide
    | 2, _ => decide
    | 3, _ => decide
  exact va_tlen C.1 C.2.1 (hT.2 k hk).2 hS rfl hd (kk p e s m args below meth c' H locs ls C hW hS hT hL (stp (okv0 (by omega)) (st1 hst).2))
-- System.arraycopy between int rows
def cpy (f g : Nat → Int) (sp dp n : Nat) : Nat → Int := fun j => if dp ≤ j ∧ j < dp + n then f (sp + (j - dp)) else g j
end MHeap
end
section
theorem tbl_good {w : Cond} (h : w ∈ wtb) : goodWord w = true := (List.mem_filter.mp h).2
section MCalls
variable {G : Gm} {M : Mt} {Q : Option AV → Mem → Prop} {pc : Nat} {lo st : List AV} {mem : Mem}
theorem Wd.moved {U V : State} {H : Heap} (h : Wd G mem U H) (hvm : U.vm.Alike V.vm) : Wd G mem V H := ⟨h.1, va_K.moved hvm h.2.1, h.2.2.1, h.2.2.2⟩
theorem Sta.moved {U V : State} {H : Heap} (h : Sta G U H) (hW : U.WarmedH V.vm) : Sta G V H := ⟨va_Nw.warmF hW h.1, fun k hk => ⟨(h.2 k hk).1.moved hW.alike, (h.2 k hk).2.moved hW.alike⟩⟩
theorem Sta.same {U V : State} {H : Heap} (h : Sta G U H) (hW : U.vm = V.vm) : Sta G V H := ⟨va_tabs rfl hW h.1, fun k hk => ⟨(h.2 k hk).1.moved (by rw [hW]; exact Vm.Alike.refl _), (h.2 k hk).2.moved (by rw [hW]; exact Vm.Alike.refl _)⟩⟩
theorem Sta.kept {U : State} {H H1 : Heap} (h : Sta G U H) (hq : ∀ a : Nat, a < H.size → ¬ AA G a → H1[a]? = H[a]?) : Sta G U H1 := ⟨h.1, fun k hk => ⟨(h.2 k hk).1.kept hq, (h.2 k hk).2.kept hq⟩⟩
-- returns
theorem e_iret {z : Int} (hd : decode M.2.1 pc = .ok (.ireturn, 1)) (hr : M.2.2.2.1 = some .int) (hq : Q (some (0, z)) mem) : Ev G M Q pc lo [(0, z)] mem := by
  intro p e s m args below meth c H locs ls C hW hS hT hL hst
  have hlocks := C.2.2.2.2.2.2
  exact W.iret (v := Int32.ofInt z) C.1 C.2.1 (C.2.2.1.trans hr) (fun t ht hWm => ⟨⟨some (0, z), mem, rfl, fun v hv => by cases hv; exact (st1 hst).1, hq, by rw [ht]; exact hW.moved hWm.alike⟩, hS.F ht⟩) hS.2.2 hd
theorem e_zret {z : Int} (hd : decode M.2.1 pc = .ok (.ireturn, 1)) (hr : M.2.2.2.1 = some .boolean) (hz : z = 0 ∨ z = 1) (hq : Q (some (0, z)) mem) : Ev G M Q pc lo [(0, z)] mem := by
  intro p e s m args below meth c H locs ls C hW hS hT hL hst
  have hlocks := C.2.2.2.2.2.2
  exact W.zret (v := Int32.ofInt z) C.1 C.2.1 (C.2.2.1.trans hr) (by rcases hz with rfl | rfl <;> rfl) (fun t ht hWm => ⟨⟨some (0, z), mem, rfl, fun v hv => by cases hv; exact (st1 hst).1, hq, by rw [ht]; exact hW.moved hWm.alike⟩, hS.F ht⟩) hS.2.2 hd
theorem e_lret {z : Int} (hd : decode M.2.1 pc = .ok (.lreturn, 1)) (hr : M.2.2.2.1 = some .long) (hq : Q (some (1, z)) mem) : Ev G M Q pc lo [(1, z)] mem := by
  intro p e s m args below meth c H locs ls C hW hS hT hL hst
  have hlocks := C.2.2.2.2.2.2
  exact W.lret (v := Int64.ofInt z) C.1 C.2.1 (C.2.2.1.trans hr) (fun t ht hWm => ⟨⟨some (1, z), mem, rfl, fun v hv => by cases hv; exact (st1 hst).1, hq, by rw [ht]; exact hW.moved hWm.alike⟩, hS.F ht⟩) hS.2.2 hd
theorem e_vret (hd : decode M.2.1 pc = .ok (.return_, 1)) (hr : M.2.2.2.1 = none) (hq : Q none mem) : Ev G M Q pc lo [] mem := by
  intro p e s m args below meth c H locs ls C hW hS hT hL hst
  have hlocks := C.2.2.2.2.2.2
  exact W.vret C.1 C.2.1 (C.2.2.1.trans hr) (fun t ht hWm => ⟨⟨none, mem, rfl, (fun v hv => by cases hv), hq, by rw [ht]; exact hW.moved hWm.alike⟩, hS.F ht⟩) hS.2.2 hd
-- a method's entry
def exLo (as : List AV) : List AV := as.flatMap (fun v => if v.1 = 1 then [v, (3, 0)] else [v])
def entLo (as : List AV) (n : Nat) : List AV := exLo as ++ List.replicate (n - (exLo as).length) (3, 0)
theorem exLo_len (ad : Nat → Nat) : ∀ as : List AV, (lg_sl (as.map (cv ad))).length = (exLo as).length
  | [] => rfl
  | v :: as => by
    have ih := exLo_len ad as
    unfold lg_sl exLo at *
    rw [List.map_cons, List.flatMap_cons, List.flatMap_cons, List.length_append, List.length_append, ih, cv_category]
    obtain ⟨t, z⟩ := v
    match t with
    | 0 => rfl
    | 1 => rfl
    | t + 2 => rfl
theorem exLo_mem (ad : Nat → Nat) : ∀ (as : List AV) (k i : Nat) (v : AV), (exLo as)[i]? = some v → v.1 ≠ 3 → v ∈ as ∧ (k + i, cv ad v) ∈ lv_args k (as.map (cv ad))
  | [], k, i, v, h, h3 => by simp [exLo] at h
  | u :: as, k, i, v, h, h3 => by
    have he : exLo (u :: as) = (if u.1 = 1 then [u, (3, 0)] else [u]) ++ exLo as := rfl
    rw [he] at h
    rw [List.map_cons]
    unfold lv_args
    rw [cv_category]
    by_cases hu : u.1 = 1
    · rw [if_pos hu] at h
      have hc : cv_cat u = 2 := by obtain ⟨t, z⟩ := u; cases hu; rfl
      rw [hc, if_pos rfl]
      match i, h with
      | 0, h => cases h; exact ⟨List.mem_cons_self, List.mem_cons_self⟩
      | 1, h => cases h; exact absurd rfl h3
      | i + 2, h =>
        have h' : (exLo as)[i]? = some v := h
        obtain ⟨r1, r2⟩ := exLo_mem ad as (k + 2) i v h' h3
        exact ⟨List.mem_cons_of_mem _ r1, List.mem_cons_of_mem _ (by rw [show k + (i + 2) = k + 2 + i by omega]; exact r2)⟩
    · rw [if_neg hu] at h
      have hc : cv_cat u = 1 := by
        unfold cv_cat
        obtain ⟨t, z⟩ := u
        match t, hu with
        | 0, _ => rfl
        | t + 2, _ => rfl
      rw [hc, if_neg (by decide)]
      match i, h with
      | 0, h => cases h; exact ⟨List.mem_cons_self, List.mem_cons_self⟩
      | i + 1, h =>
        have h' : (exLo as)[i]? = some v := h
        obtain ⟨r1, r2⟩ := exLo_mem ad as (k + 1) i v h' h3
        exact ⟨List.mem_cons_of_mem _ r1, List.mem_cons_of_mem _ (by rw [show k + (i + 1) = k + 1 + i by omega]; exact r2)⟩
theorem Con.of {as : List AV} {lo : List AV} (hy : plainName M.1.cls = true) (hn : (exLo as).length ≤ M.2.2.1) (hlo : entLo as M.2.2.1 = lo) (k : Ev G M Q 0 lo [] mem) : Con G M as mem Q := by
  intro hok
  refine Met.ofW (cc := M.2.1) (maxL := M.2.2.1) (ret := M.2.2.2.1) hy rfl ?_
  intro p e s m args below meth c s₁ B hml hv
  obtain ⟨rfl, hW, hT⟩ := hv
  have hlen := exLo_len G.ad as
  have hl := lv_entry (as.map (cv G.ad)) (n := M.2.2.1) (by rw [hlen]; exact hn)
  rw [lg_entry_eq]
  generalize (lg_sl (as.map (cv G.ad)) ++ List.replicate (M.2.2.1 - (lg_sl (as.map (cv G.ad))).length) Slot.unset).toArray = ls at hl ⊢
  refine k p e s m _ below meth c s.heap [] ls ⟨B.exec, B.bytes, B.returns, hml, findClass_of_methodNamed B.named, atoms_spec (ws := wds M) B.pre, B.notSynchronized⟩ hW va_S.rf hT ⟨hl.1, hl.2.1, ?_, ?_⟩ (fun v hv => by cases hv)
  · rw [← hlo]; unfold entLo
    rw [List.length_append, List.length_replicate]; omega
  · intro i v hi h3
    rw [← hlo] at hi
    unfold entLo at hi
    rcases Nat.lt_or_ge i (exLo as).length with q | q
    · rw [List.getElem?_append_left q] at hi
      obtain ⟨r1, r2⟩ := exLo_mem G.ad as 0 i v hi h3
      have := hl.2.2 _ r2
      rw [Nat.zero_add] at this
      exact ⟨hok v r1, this⟩
    · rw [List.getElem?_append_right q] at hi
      have := List.getElem?_replicate (n := M.2.2.1 - (exLo as).length) (a := ((3, 0) : AV)) (i := i - (exLo as).length)
      rw [this] at hi
      split at hi
      · cases hi; exact absurd rfl h3
      · cases hi
-- calls
/-- the words of a call of M2 by the link own/ix -/
def MLb (own : String) (ix : Nat) (M M2 : Mt) : Prop := Cond.methodLink own ix M2.1 ∈ wtb ∧ Cond.initialized M2.1.cls ∈ wtb ∧ Cond.code M2.1 M2.2.1 M2.2.2.1 M2.2.2.2.1 ∈ wtb ∧ (M2.1.cls ≠ "java/lang/invoke/MethodHandle" ∧ M2.1.cls ≠ "java/lang/invoke/VarHandle") ∧ M2.2.2.2.2.1 + 1 ≤ M.2.2.2.2.1 ∧ 8 + (M2.2.2.1 + 11) + M2.2.2.2.2.2 ≤ M.2.2.2.2.2
def MLV (own : String) (ix : Nat) (M M2 : Mt) (n : Nat) : Prop := MLb own ix M M2 ∧ (parseMethodDescriptor M2.1.desc).map (fun d => d.parameters.length) = some n ∧ Cond.instanceMethod M2.1 ∈ wtb ∧ Cond.selects M2.1.cls M2.1 M2.1 ∈ wtb
def MLS (own : String) (ix : Nat) (M M2 : Mt) (n : Nat) : Prop := MLb own ix M M2 ∧ (parseMethodDescriptor M2.1.desc).map (fun d => d.parameters.length) = some n ∧ Cond.static M2.1 ∈ wtb
theorem callB_ml {M2 : Mt} {ix n : Nat} {s : State} {args : Array Value} (ht : ∀ w ∈ wds M, w.before args s = true) (h : MLb M.1.cls ix M M2) (hp : (parseMethodDescriptor M2.1.desc).map (fun d => d.parameters.length) = some n) : CallB (rmM M) s args M.1.cls ix M2.1 M2.2.1 M2.2.2.1 M2.2.2.2.1 (wds M2) (rmM M2) 0 0 n := by
  obtain ⟨h1, h2, h3, h4, h5, h6⟩ := h
  refine callB_of (Ts := wds M) n ht ?_ rfl rfl rfl (ht _ (List.mem_cons_of_mem _ h2)) (ht _ (List.mem_cons_of_mem _ h1)) ⟨h4.1, h4.2, hp⟩ ⟨h5, h6⟩
  intro w hw
  have hw2 : w ∈ wtb := by
    rcases List.mem_cons.mp hw with rfl | q
    · exact h3
    · exact q
  exact ⟨List.mem_cons_of_mem _ hw2, good_of_word (tbl_good hw2)⟩
theorem pc_blind {as : List AV} : FrameBlind (va_Pc (as.map (cv G.ad)) (fun U => Wd G mem U U.heap ∧ Sta G U U.heap)) := by
  intro a U g mk ⟨h1, h2, h3⟩
  exact ⟨h1, h2.moved (V := U.calling g mk a) (Vm.Alike.refl U.vm), h3.same (V := U.calling g mk a) rfl⟩
theorem e_after {Q2 : Option AV → Mem → Prop} {st0 : List Value} {p : Program} {e : Env} {s : State} {m : MethodId} {args : Array Value} {below : List Frame} {meth : Method} {c : Code} {H : Heap} {locs : List Loc} {ls : Array Slot} {a : Array Value}
    (C : Cx M p s m args meth c) (hW : Wd G mem s H) (hS : va_S (AA G) s.heap H locs) (hT : Sta G s s.heap) (hL : Lh G M.2.2.1 lo ls) (hst : ∀ v ∈ st, okv v)
    (hr : va_Run p G.1 e (rmM M) s m args below meth c H locs 0 0 0 0 (F0 m pc ls st0) (st.map (cv G.ad)) (Qc G Q2 a) (AA G))
    (kk : ∀ (r : Option AV) (mem' : Mem), Q2 r mem' → Ev G M Q (pc + 3) lo (r.toList ++ st) mem') : W p G.1 e (rmM M) s m args below meth c H locs 0 0 (MQ below (Qc G Q) args s 0 0 (AA G)) (F0 m pc ls st0) := by
  intro T hTT X
  obtain ⟨v, st₀, t, T', L, h0, X', hLo, e1, e2, ⟨⟨r, mem', hv, hok, hq, hWd⟩, hz, hk⟩, go⟩ := hr T hTT X
  cases hv
  rw [h0] at hz hk
  have hk2 := kk r mem' hq p e s m args below meth c T'.heap (locs ++ L) ls C ⟨by rw [e1]; exact hWd.1, hW.2.1, hWd.2.2.1, hWd.2.2.2⟩
    ⟨Nat.le_trans hS.1 (by rw [e1]; exact hz), fun q h1 h2 => by rw [e1, hk q (Nat.lt_of_lt_of_le h1 hS.1) h2]; exact hS.2.1 q h1 h2, fun q hq => by
      rcases List.mem_append.mp hq with h | h
      · exact hS.2.2 q h
      · exact hLo q h⟩ hT hL (fun x hx => by
      rcases List.mem_append.mp hx with h | h
      · exact hok x (by simpa using h)
      · exact hst x h)
  obtain ⟨t2, a1, b1⟩ := hk2 T' rfl X'
  refine ⟨t2, go t2 ?_, b1⟩
  have e9 : (r.toList ++ st).map (cv G.ad) = (r.map (cv G.ad)).toList ++ st.map (cv G.ad) := by cases r <;> rfl
  rw [e9] at a1
  exact a1
theorem cats (ad : Nat → Nat) : ∀ st : List AV, ((st.map (cv ad)).map fun v => v.category).sum = (st.map cv_cat).sum
  | [] => rfl
  | v :: st => by rw [List.map_cons, List.map_cons, List.map_cons, List.sum_cons, List.sum_cons, cats ad st, cv_category]
theorem e_callV {M2 : Mt} {Q2 : Option AV → Mem → Prop} {ix c ci n : Nat} {ks : List Int} {as st0 : List AV} (hC : Con G M2 ((2, (c : Int)) :: as) mem Q2) (hd : decode M.2.1 pc = .ok (.invokevirtual ix, 3)) (hm : MLV M.1.cls ix M M2 n) (hn : as.length = n) (hs : shp c = .inl (ci, ks)) (hq : (classes[ci]?).map (fun q => q.1) = some M2.1.cls) (h0 : as.reverse ++ (2, (c : Int)) :: st = st0) (hc : Nat.ble (st.map cv_cat).sum 8 = true)
    (kk : ∀ (r : Option AV) (mem' : Mem), Q2 r mem' → Ev G M Q (pc + 3) lo (r.toList ++ st) mem') : Ev G M Q pc lo st0 mem := by
  subst h0
  intro p e s m args below meth c' H locs ls C hW hS hT hL hst
  have hst' : ∀ v ∈ st, okv v := fun v hv => hst v (List.mem_append_right _ (List.mem_cons_of_mem _ hv))
  have hokA : ∀ v ∈ (2, (c : Int)) :: as, okv v := fun v hv => by
    rcases List.mem_cons.mp hv with rfl | h
    · exact okv2
    · exact hst v (List.mem_append_left _ (List.mem_reverse.mpr h))
  refine e_after (a := (Value.ref (G.ad c) :: as.map (cv G.ad)).toArray) C hW hS hT hL hst' ?_ kk
  have hcb := shp_lt hs
  have hg := ws_get (ad := G.ad) (cA := G.cA) (mem := mem) hcb
  rw [ceE_obj hs] at hg
  obtain ⟨q, hq1, hq2⟩ : ∃ q, classes[ci]? = some q ∧ q.1 = M2.1.cls := by
    cases h9 : classes[ci]? with
    | none => rw [h9] at hq; cases hq
    | some q => rw [h9] at hq; exact ⟨q, rfl, Option.some.inj hq⟩
  obtain ⟨hm1, hm2, hm3, hm4⟩ := hm
  refine va_runV (C := M2.1.cls) (As := as.map (cv G.ad)) (b := G.ad c) ⟨C.1, C.2.1, C.2.2.2.1, C.2.2.2.2.1, C.2.2.2.2.2.1⟩ (hC hokA) ⟨callB_ml C.2.2.2.2.2.1 hm1 hm2, C.2.2.2.2.2.1 _ (List.mem_cons_of_mem _ hm3), C.2.2.2.2.2.1 _ (List.mem_cons_of_mem _ hm4)⟩ ⟨pc_blind, ?_, ?_⟩ rfl (by rw [List.length_map]; exact hn) hL.1 ?_ (lv_room (by rw [cats]; exact Nat.le_of_ble_eq_true hc)) hd ⟨Nat.le_refl _, Nat.le_refl _⟩
  · rw [← hq2]; exact va_recv hW.2.1 hW.1 hq1 hg
  · intro U hU hWm
    exact ⟨rfl, by rw [hU]; exact hW.moved hWm.alike, by rw [hU]; exact (hT.kept hS.2.1).moved hWm⟩
  · show (List.map (cv G.ad) (as.reverse ++ (2, (c : Int)) :: st)) = _
    rw [List.map_append, List.map_reverse]; rfl
theorem e_callS {M2 : Mt} {Q2 : Option AV → Mem → Prop} {ix n : Nat} {as st0 : List AV} (hC : Con G M2 as mem Q2) (hd : decode M.2.1 pc = .ok (.invokestatic ix, 3)) (hm : MLS M.1.cls ix M M2 n) (hn : as.length = n) (h0 : as.reverse ++ st = st0) (hc : Nat.ble (st.map cv_cat).sum 8 = true)
    (kk : ∀ (r : Option AV) (mem' : Mem), Q2 r mem' → Ev G M Q (pc + 3) lo (r.toList ++ st) mem') : Ev G M Q pc lo st0 mem := by
  subst h0
  intro p e s m args below meth c' H locs ls C hW hS hT hL hst
  have hst' : ∀ v ∈ st, okv v := fun v hv => hst v (List.mem_append_right _ hv)
  have hokA : ∀ v ∈ as, okv v := fun v hv => hst v (List.mem_append_left _ (List.mem_reverse.mpr hv))
  refine e_after (a := (as.map (cv G.ad)).toArray) C hW hS hT hL hst' ?_ kk
  obtain ⟨hm1, hm2, hm3⟩ := hm
  refine va_runS (As := as.map (cv G.ad)) ⟨C.1, C.2.1, C.2.2.2.1, C.2.2.2.2.1, C.2.2.2.2.2.1⟩ (hC hokA) ⟨callB_ml C.2.2.2.2.2.1 hm1 hm2, C.2.2.2.2.2.1 _ (List.mem_cons_of_mem _ hm3)⟩ ⟨pc_blind, ?_⟩ rfl (by rw [List.length_map]; exact hn) hL.1 ?_ (lv_room (by rw [cats]; exact Nat.le_of_ble_eq_true hc)) hd ⟨Nat.le_refl _, Nat.le_refl _⟩
  · intro U hU hWm
    exact ⟨rfl, by rw [hU]; exact hW.moved hWm.alike, by rw [hU]; exact (hT.kept hS.2.1).moved hWm⟩
  · show (List.map (cv G.ad) (as.reverse ++ st)) = _
    rw [List.map_append, List.map_reverse]
-- Math.max, min, abs
def MLm (own : String) (ix : Nat) (y : MethodName) (cc : ByteArray) (n : Nat) : Prop := Cond.methodLink own ix y ∈ wtb ∧ Cond.static y ∈ wtb ∧ Cond.initialized "java/lang/Math" ∈ wtb ∧ Cond.code y cc n (some .int) ∈ wtb
theorem e_max {ix : Nat} {a b : Int} (hd : decode M.2.1 pc = .ok (.invokestatic ix, 3)) (hm : MLm M.1.cls ix Lib.Math.max.name Lib.Math.max.code 2) (h1 : 1 ≤ M.2.2.2.2.1) (h2 : Nat.ble ((st.map cv_cat).sum + 13) M.2.2.2.2.2 = true) (kk : Ev G M Q (pc + 3) lo ((0, if a < b then b else a) :: st) mem) : Ev G M Q pc lo ((0, b) :: (0, a) :: st) mem := by
  intro p e s m args below meth c' H locs ls C hW hS hT hL hst
  obtain ⟨hb, ha, hst⟩ := st2 hst
  have hb' := okv0' hb
  have ha' := okv0' ha
  have hk := kk p e s m args below meth c' H locs ls C hW hS hT hL (stp (by split <;> assumption) hst)
  have hts := C.2.2.2.2.2.1
  refine va_mmax C.1 C.2.1 (C.2.2.2.1.trans hL.1.symm) C.2.2.2.2.1 (hts _ (List.mem_cons_of_mem _ hm.1)) (hts _ (List.mem_cons_of_mem _ hm.2.1)) (hts _ (List.mem_cons_of_mem _ hm.2.2.1)) (hts _ (List.mem_cons_of_mem _ hm.2.2.2)) h1 (by rw [cats]; exact Nat.le_of_ble_eq_true h2) (Nat.le_refl _) (Nat.le_refl _) hd ?_
  have e9 : (if Int32.ofInt a < Int32.ofInt b then Int32.ofInt b else Int32.ofInt a) = Int32.ofInt (if a < b then b else a) := by
    by_cases h : a < b
    · rw [if_pos ((i32_lt ha' hb').mpr h), if_pos h]
    · rw [if_neg (fun q => h ((i32_lt ha' hb').mp q)), if_neg h]
  show W _ _ _ _ _ _ _ _ _ _ _ _ _ _ _ (F0 m (pc + 3) ls (.int (if Int32.ofInt a < Int32.ofInt b then Int32.ofInt b else Int32.ofInt a) :: _))
  rw [e9]; exact hk
end MCalls
end
section
section MMore
variable {G : Gm} {M : Mt} {Q : Option AV → Mem → Prop} {pc : Nat} {lo st : List AV} {mem : Mem}
theorem e_min {ix : Nat} {a b : Int} (hd : decode M.2.1 pc = .ok (.invokestatic ix, 3)) (hm : MLm M.1.cls ix Lib.Math.min.name Lib.Math.min.code 2) (h1 : 1 ≤ M.2.2.2.2.1) (h2 : Nat.ble ((st.map cv_cat).sum + 13) M.2.2.2.2.2 = true) (kk : Ev G M Q (pc + 3) lo ((0, if b < a then b else a) :: st) mem) : Ev G M Q pc lo ((0, b) :: (0, a) :: st) mem := by
  intro p e s m args below meth c' H locs ls C hW hS hT hL hst
  obtain ⟨hb, ha, hst⟩ := st2 hst
  have hb' := okv0' hb
  have ha' := okv0' ha
  have hk := kk p e s m args below meth c' H locs ls C hW hS hT hL (stp (by split <;> assumption) hst)
  have hts := C.2.2.2.2.2.1
  refine va_mmin C.1 C.2.1 (C.2.2.2.1.trans hL.1.symm) C.2.2.2.2.1 (hts _ (List.mem_cons_of_mem _ hm.1)) (hts _ (List.mem_cons_of_mem _ hm.2.1)) (hts _ (List.mem_cons_of_mem _ hm.2.2.1)) (hts _ (List.mem_cons_of_mem _ hm.2.2.2)) h1 (by rw [cats]; exact Nat.le_of_ble_eq_true h2) (Nat.le_refl _) (Nat.le_refl _) hd ?_
  have e9 : (if Int32.ofInt b < Int32.ofInt a then Int32.ofInt b else Int32.ofInt a) = Int32.ofInt (if b < a then b else a) := by
    by_cases h : b < a
    · rw [if_pos ((i32_lt hb' ha').mpr h), if_pos h]
    · rw [if_neg (fun q => h ((i32_lt hb' ha').mp q)), if_neg h]
  show W _ _ _ _ _ _ _ _ _ _ _ _ _ _ _ (F0 m (pc + 3) ls (.int (if Int32.ofInt b < Int32.ofInt a then Int32.ofInt b else Int32.ofInt a) :: _))
  rw [e9]; exact hk
theorem e_abs {ix : Nat} {a : Int} (hd : decode M.2.1 pc = .ok (.invokestatic ix, 3)) (hm : MLm M.1.cls ix Lib.Math.abs.name Lib.Math.abs.code 1) (h1 : 1 ≤ M.2.2.2.2.1) (h2 : Nat.ble ((st.map cv_cat).sum + 13) M.2.2.2.2.2 = true) (kk : Ev G M Q (pc + 3) lo ((0, if 0 ≤ a then a else w32 (0 - a)) :: st) mem) : Ev G M Q pc lo ((0, a) :: st) mem := by
  intro p e s m args below meth c' H locs ls C hW hS hT hL hst
  obtain ⟨ha, hst⟩ := st1 hst
  have ha' := okv0' ha
  have hk := kk p e s m args below meth c' H locs ls C hW hS hT hL (stp (by split; · exact ha
                                                                            · exact okv0 (w32_ok _)) hst)
  have hts := C.2.2.2.2.2.1
  refine va_mabs C.1 C.2.1 (C.2.2.2.1.trans hL.1.symm) C.2.2.2.2.1 (hts _ (List.mem_cons_of_mem _ hm.1)) (hts _ (List.mem_cons_of_mem _ hm.2.1)) (hts _ (List.mem_cons_of_mem _ hm.2.2.1)) (hts _ (List.mem_cons_of_mem _ hm.2.2.2)) h1 (by rw [cats]; exact Nat.le_of_ble_eq_true h2) (Nat.le_refl _) (Nat.le_refl _) hd ?_
  have e3 : (0 ≤ Int32.ofInt a) ↔ 0 ≤ a := i32_le (a := 0) (by decide) ha'
  have hk : W p G.1 e (rmM M) s m args below meth c' H locs 0 0 (MQ below (Qc G Q) args s 0 0 (AA G)) (F0 m (pc + 3) ls (.int (Int32.ofInt (if 0 ≤ a then a else w32 (0 - a))) :: st.map (cv G.ad))) := hk
  by_cases h : 0 ≤ a
  · rw [if_pos h] at hk
    rw [if_pos (e3.mpr h)]; exact hk
  · rw [if_neg h, i32_w, Int32.ofInt_sub] at hk
    rw [if_neg (fun q => h (e3.mp q))]; exact hk
/-- System.arraycopy between two int rows -/
theorem e_copy {ix a b n0 n1 b0 b1 : Nat} {sp dp n : Int} (hd : decode M.2.1 pc = .ok (.invokestatic ix, 3)) (hm : Cond.methodLink M.1.cls ix arraycopyName ∈ wtb ∧ Cond.native arraycopyName ∈ wtb ∧ Cond.static arraycopyName ∈ wtb ∧ Cond.initialized "java/lang/System" ∈ wtb) (h1 : 1 ≤ M.2.2.2.2.1) (h2 : Nat.ble ((st.map cv_cat).sum + 18) M.2.2.2.2.2 = true)
    (ha : shp a = .inr (0, n0, b0)) (hb : shp b = .inr (0, n1, b1)) (hp : 0 < n0 ∧ 0 < n1) (hs : 0 ≤ sp ∧ 0 ≤ dp ∧ 0 ≤ n ∧ sp + n ≤ n0 ∧ dp + n ≤ n1) (kk : Ev G M Q (pc + 3) lo st (rset mem b (cpy (mem a) (mem b) sp.toNat dp.toNat n.toNat))) : Ev G M Q pc lo ((0, n) :: (0, dp) :: (2, (b : Int)) :: (0, sp) :: (2, (a : Int)) :: st) mem := by
  intro p e s m args below meth c' H locs ls C hW hS hT hL hst
  have on := okv0' (st1 hst).1
  have od := okv0' (st1 (st1 hst).2).1
  have os := okv0' (st1 (st3 hst).2.2.2).1
  have hst5 := (st2 (st3 hst).2.2.2).2.2
  have hga := ws_get (ad := G.ad) (cA := G.cA) (mem := mem) (shp_ltA ha hp.1)
  have hgb := ws_get (ad := G.ad) (cA := G.cA) (mem := mem) (shp_ltA hb hp.2)
  rw [ceE_arr ha] at hga
  rw [ceE_arr hb] at hgb
  have hts := C.2.2.2.2.2.1
  have z0 : okI 0 := by decide
  refine va_copyi C.1 C.2.1 (C.2.2.2.1.trans hL.1.symm) C.2.2.2.2.1 (hts _ (List.mem_cons_of_mem _ hm.1)) (hts _ (List.mem_cons_of_mem _ hm.2.1)) (hts _ (List.mem_cons_of_mem _ hm.2.2.1)) (hts _ (List.mem_cons_of_mem _ hm.2.2.2)) hW.2.1 hW.1 hW.2.2.1 hS a b 0 0 hga hgb tys0 tys0 rfl (fun q => ?_) (fun q => ?_) (fun q => ?_) ?_ ?_ (fun i hi => rfl) h1 ?_ hd (fun H1 locs1 hP1 hD1 hS1 => ?_)
  · rw [show (0 : Int32) = Int32.ofInt 0 from rfl, i32_lt os z0] at q; omega
  · rw [show (0 : Int32) = Int32.ofInt 0 from rfl, i32_lt od z0] at q; omega
  · rw [show (0 : Int32) = Int32.ofInt 0 from rfl, i32_lt on z0] at q; omega
  · rw [i32_clamp os hs.1, i32_clamp on hs.2.2.1]; omega
  · rw [i32_clamp od hs.2.1, i32_clamp on hs.2.2.1]; omega
  · rw [cats]; exact Nat.le_of_ble_eq_true h2
  · rw [i32_clamp os hs.1, i32_clamp od hs.2.1, i32_clamp on hs.2.2.1, ws_set (r := cpy (mem a) (mem b) sp.toNat dp.toNat n.toNat) (by
      rw [ceE_arr hb]
      show Sum.inl (_, n1, Sum.inl _) = Sum.inl (_, n1, Sum.inl _)
      congr 4
      funext j
      unfold cpy va_cpy
      split <;> rfl)] at hP1 hD1
    refine kk p e s m args below meth c' H1 locs1 ls C ⟨hP1, hW.2.1, hD1, okm_rset hW.2.2.2 ?_⟩ hS1 hT hL hst5
    intro j
    rw [hb]
    show okI _
    unfold cpy
    split
    · exact okm_arr hW.2.2.2 ha (by decide)
    · exact okm_arr hW.2.2.2 hb (by decide)
end MMore
end
section
theorem dX0_init_0 : decode cX0_init 0 = .ok (.aload_n 0, 1) := by decide +kernel
theorem dX0_init_1 : decode cX0_init 1 = .ok (.invokespecial 3, 3) := by decide +kernel
theorem dX0_init_4 : decode cX0_init 4 = .ok (.aload_n 0, 1) := by decide +kernel
theorem dX0_init_5 : decode cX0_init 5 = .ok (.bipush 8, 2) := by decide +kernel
theorem dX0_init_7 : decode cX0_init 7 = .ok (.newarray .int, 2) := by decide +kernel
theorem dX0_init_9 : decode cX0_init 9 = .ok (.putfield 9, 3) := by decide +kernel
theorem dX0_init_12 : decode cX0_init 12 = .ok (.aload_n 0, 1) := by decide +kernel
theorem dX0_init_13 : decode cX0_init 13 = .ok (.bipush 8, 2) := by decide +kernel
theorem dX0_init_15 : decode cX0_init 15 = .ok (.newarray .int, 2) := by decide +kernel
theorem dX0_init_17 : decode cX0_init 17 = .ok (.putfield 15, 3) := by decide +kernel
theorem dX0_init_20 : decode cX0_init 20 = .ok (.aload_n 0, 1) := by decide +kernel
theorem dX0_init_21 : decode cX0_init 21 = .ok (.getstatic 18, 3) := by decide +kernel
theorem dX0_init_24 : decode cX0_init 24 = .ok (.arraylength, 1) := by decide +kernel
theorem dX0_init_25 : decode cX0_init 25 = .ok (.bipush 8, 2) := by decide +kernel
theorem dX0_init_27 : decode cX0_init 27 = .ok (.multianewarray 21 2, 4) := by decide +kernel
theorem dX0_init_31 : decode cX0_init 31 = .ok (.putfield 23, 3) := by decide +kernel
theorem dX0_init_34 : decode cX0_init 34 = .ok (.iconst 0, 1) := by decide +kernel
theorem dX0_init_35 : decode cX0_init 35 = .ok (.istore_n 1, 1) := by decide +kernel
theorem dX0_init_36 : decode cX0_init 36 = .ok (.iload_n 1, 1) := by decide +kernel
theorem dX0_init_37 : decode cX0_init 37 = .ok (.getstatic 18, 3) := by decide +kernel
theorem dX0_init_40 : decode cX0_init 40 = .ok (.arraylength, 1) := by decide +kernel
theorem dX0_init_41 : decode cX0_init 41 = .ok (.if_icmp .ge 36, 3) := by decide +kernel
theorem dX0_init_44 : decode cX0_init 44 = .ok (.iconst 0, 1) := by decide +kernel
theorem dX0_init_45 : decode cX0_init 45 = .ok (.istore_n 2, 1) := by decide +kernel
theorem dX0_init_46 : decode cX0_init 46 = .ok (.iload_n 2, 1) := by decide +kernel
theorem dX0_init_47 : decode cX0_init 47 = .ok (.bipush 8, 2) := by decide +kernel
theorem dX0_init_49 : decode cX0_init 49 = .ok (.if_icmp .ge 22, 3) := by decide +kernel
theorem dX0_init_52 : decode cX0_init 52 = .ok (.aload_n 0, 1) := by decide +kernel
theorem dX0_init_53 : decode cX0_init 53 = .ok (.getfield 23, 3) := by decide +kernel
theorem dX0_init_56 : decode cX0_init 56 = .ok (.iload_n 1, 1) := by decide +kernel
theorem dX0_init_57 : decode cX0_init 57 = .ok (.aaload, 1) := by decide +kernel
theorem dX0_init_58 : decode cX0_init 58 = .ok (.iload_n 2, 1) := by decide +kernel
theorem dX0_init_59 : decode cX0_init 59 = .ok (.getstatic 18, 3) := by decide +kernel
theorem dX0_init_62 : decode cX0_init 62 = .ok (.iload_n 1, 1) := by decide +kernel
theorem dX0_init_63 : decode cX0_init 63 = .ok (.iaload, 1) := by decide +kernel
theorem dX0_init_64 : decode cX0_init 64 = .ok (.iastore, 1) := by decide +kernel
theorem dX0_init_65 : decode cX0_init 65 = .ok (.iinc 2 1, 3) := by decide +kernel
theorem dX0_init_68 : decode cX0_init 68 = .ok (.goto (-22), 3) := by decide +kernel
theorem dX0_init_71 : decode cX0_init 71 = .ok (.iinc 1 1, 3) := by decide +kernel
theorem dX0_init_74 : decode cX0_init 74 = .ok (.goto (-38), 3) := by decide +kernel
theorem dX0_init_77 : decode cX0_init 77 = .ok (.return_, 1) := by decide +kernel
theorem dX0_lotsTogether_0 : decode cX0_lotsTogether 0 = .ok (.iconst 0, 1) := by decide +kernel
theorem dX0_lotsTogether_1 : decode cX0_lotsTogether 1 = .ok (.istore_n 1, 1) := by decide +kernel
theorem dX0_lotsTogether_2 : decode cX0_lotsTogether 2 = .ok (.iconst 0, 1) := by decide +kernel
theorem dX0_lotsTogether_3 : decode cX0_lotsTogether 3 = .ok (.istore_n 2, 1) := by decide +kernel
theorem dX0_lotsTogether_4 : decode cX0_lotsTogether 4 = .ok (.iload_n 2, 1) := by decide +kernel
theorem dX0_lotsTogether_5 : decode cX0_lotsTogether 5 = .ok (.bipush 8, 2) := by decide +kernel
theorem dX0_lotsTogether_7 : decode cX0_lotsTogether 7 = .ok (.if_icmp .ge 20, 3) := by decide +kernel
theorem dX0_lotsTogether_10 : decode cX0_lotsTogether 10 = .ok (.iload_n 1, 1) := by decide +kernel
theorem dX0_lotsTogether_11 : decode cX0_lotsTogether 11 = .ok (.aload_n 0, 1) := by decide +kernel
theorem dX0_lotsTogether_12 : decode cX0_lotsTogether 12 = .ok (.getfield 23, 3) := by decide +kernel
theorem dX0_lotsTogether_15 : decode cX0_lotsTogether 15 = .ok (.iconst 3, 1) := by decide +kernel
theorem dX0_lotsTogether_16 : decode cX0_lotsTogether 16 = .ok (.aaload, 1) := by decide +kernel
theorem dX0_lotsTogether_17 : decode cX0_lotsTogether 17 = .ok (.iload_n 2, 1) := by decide +kernel
theorem dX0_lotsTogether_18 : decode cX0_lotsTogether 18 = .ok (.iaload, 1) := by decide +kernel
theorem dX0_lotsTogether_19 : decode cX0_lotsTogether 19 = .ok (.iadd, 1) := by decide +kernel
theorem dX0_lotsTogether_20 : decode cX0_lotsTogether 20 = .ok (.istore_n 1, 1) := by decide +kernel
theorem dX0_lotsTogether_21 : decode cX0_lotsTogether 21 = .ok (.iinc 2 1, 3) := by decide +kernel
theorem dX0_lotsTogether_24 : decode cX0_lotsTogether 24 = .ok (.goto (-20), 3) := by decide +kernel
theorem dX0_lotsTogether_27 : decode cX0_lotsTogether 27 = .ok (.iload_n 1, 1) := by decide +kernel
theorem dX0_lotsTogether_28 : decode cX0_lotsTogether 28 = .ok (.ireturn, 1) := by decide +kernel
theorem dX1_init_0 : decode cX1_init 0 = .ok (.aload_n 0, 1) := by decide +kernel
theorem dX1_init_1 : decode cX1_init 1 = .ok (.invokespecial 3, 3) := by decide +kernel
theorem dX1_init_4 : decode cX1_init 4 = .ok (.aload_n 0, 1) := by decide +kernel
theorem dX1_init_5 : decode cX1_init 5 = .ok (.getstatic 9, 3) := by decide +kernel
theorem dX1_init_8 : decode cX1_init 8 = .ok (.arraylength, 1) := by decide +kernel
theorem dX1_init_9 : decode cX1_init 9 = .ok (.newarray .int, 2) := by decide +kernel
theorem dX1_init_11 : decode cX1_init 11 = .ok (.putfield 13, 3) := by decide +kernel
theorem dX1_init_14 : decode cX1_init 14 = .ok (.aload_n 0, 1) := by decide +kernel
theorem dX1_init_15 : decode cX1_init 15 = .ok (.bipush 8, 2) := by decide +kernel
theorem dX1_init_17 : decode cX1_init 17 = .ok (.newarray .int, 2) := by decide +kernel
theorem dX1_init_19 : decode cX1_init 19 = .ok (.putfield 18, 3) := by decide +kernel
theorem dX1_init_22 : decode cX1_init 22 = .ok (.aload_n 0, 1) := by decide +kernel
theorem dX1_init_23 : decode cX1_init 23 = .ok (.bipush 8, 2) := by decide +kernel
theorem dX1_init_25 : decode cX1_init 25 = .ok (.newarray .int, 2) := by decide +kernel
theorem dX1_init_27 : decode cX1_init 27 = .ok (.putfield 21, 3) := by decide +kernel
theorem dX1_init_30 : decode cX1_init 30 = .ok (.aload_n 0, 1) := by decide +kernel
theorem dX1_init_31 : decode cX1_init 31 = .ok (.bipush 8, 2) := by decide +kernel
theorem dX1_init_33 : decode cX1_init 33 = .ok (.newarray .int, 2) := by decide +kernel
theorem dX1_init_35 : decode cX1_init 35 = .ok (.putfield 24, 3) := by decide +kernel
theorem dX1_init_38 : decode cX1_init 38 = .ok (.aload_n 0, 1) := by decide +kernel
theorem dX1_init_39 : decode cX1_init 39 = .ok (.bipush 8, 2) := by decide +kernel
theorem dX1_init_41 : decode cX1_init 41 = .ok (.newarray .int, 2) := by decide +kernel
theorem dX1_init_43 : decode cX1_init 43 = .ok (.putfield 27, 3) := by decide +kernel
theorem dX1_init_46 : decode cX1_init 46 = .ok (.aload_n 0, 1) := by decide +kernel
theorem dX1_init_47 : decode cX1_init 47 = .ok (.bipush 8, 2) := by decide +kernel
theorem dX1_init_49 : decode cX1_init 49 = .ok (.newarray .int, 2) := by decide +kernel
theorem dX1_init_51 : decode cX1_init 51 = .ok (.putfield 30, 3) := by decide +kernel
theorem dX1_init_54 : decode cX1_init 54 = .ok (.aload_n 0, 1) := by decide +kernel
theorem dX1_init_55 : decode cX1_init 55 = .ok (.bipush 8, 2) := by decide +kernel
theorem dX1_init_57 : decode cX1_init 57 = .ok (.newarray .int, 2) := by decide +kernel
theorem dX1_init_59 : decode cX1_init 59 = .ok (.putfield 33, 3) := by decide +kernel
theorem dX1_init_62 : decode cX1_init 62 = .ok (.aload_n 0, 1) := by decide +kernel
theorem dX1_init_63 : decode cX1_init 63 = .ok (.bipush 8, 2) := by decide +kernel
theorem dX1_init_65 : decode cX1_init 65 = .ok (.newarray .int, 2) := by decide +kernel
theorem dX1_init_67 : decode cX1_init 67 = .ok (.putfield 36, 3) := by decide +kernel
theorem dX1_init_70 : decode cX1_init 70 = .ok (.aload_n 0, 1) := by decide +kernel
theorem dX1_init_71 : decode cX1_init 71 = .ok (.aload_n 1, 1) := by decide +kernel
theorem dX1_init_72 : decode cX1_init 72 = .ok (.putfield 39, 3) := by decide +kernel
theorem dX1_init_75 : decode cX1_init 75 = .ok (.aload_n 0, 1) := by decide +kernel
theorem dX1_init_76 : decode cX1_init 76 = .ok (.aload_n 2, 1) := by decide +kernel
theorem dX1_init_77 : decode cX1_init 77 = .ok (.putfield 43, 3) := by decide +kernel
theorem dX1_init_80 : decode cX1_init 80 = .ok (.iconst 0, 1) := by decide +kernel
theorem dX1_init_81 : decode cX1_init 81 = .ok (.istore_n 3, 1) := by decide +kernel
theorem dX1_init_82 : decode cX1_init 82 = .ok (.iload_n 3, 1) := by decide +kernel
theorem dX1_init_83 : decode cX1_init 83 = .ok (.bipush 8, 2) := by decide +kernel
theorem dX1_init_85 : decode cX1_init 85 = .ok (.if_icmp .ge 24, 3) := by decide +kernel
theorem dX1_init_88 : decode cX1_init 88 = .ok (.aload_n 0, 1) := by decide +kernel
theorem dX1_init_89 : decode cX1_init 89 = .ok (.getfield 18, 3) := by decide +kernel
theorem dX1_init_92 : decode cX1_init 92 = .ok (.iload_n 3, 1) := by decide +kernel
theorem dX1_init_93 : decode cX1_init 93 = .ok (.iconst (-1), 1) := by decide +kernel
theorem dX1_init_94 : decode cX1_init 94 = .ok (.iastore, 1) := by decide +kernel
theorem dX1_init_95 : decode cX1_init 95 = .ok (.aload_n 0, 1) := by decide +kernel
theorem dX1_init_96 : decode cX1_init 96 = .ok (.getfield 24, 3) := by decide +kernel
theorem dX1_init_99 : decode cX1_init 99 = .ok (.iload_n 3, 1) := by decide +kernel
theorem dX1_init_100 : decode cX1_init 100 = .ok (.bipush 60, 2) := by decide +kernel
theorem dX1_init_102 : decode cX1_init 102 = .ok (.iastore, 1) := by decide +kernel
theorem dX1_init_103 : decode cX1_init 103 = .ok (.iinc 3 1, 3) := by decide +kernel
theorem dX1_init_106 : decode cX1_init 106 = .ok (.goto (-24), 3) := by decide +kernel
theorem dX1_init_109 : decode cX1_init 109 = .ok (.return_, 1) := by decide +kernel
theorem dX1_becomes_0 : decode cX1_becomes 0 = .ok (.aload_n 1, 1) := by decide +kernel
theorem dX1_becomes_1 : decode cX1_becomes 1 = .ok (.getfield 13, 3) := by decide +kernel
theorem dX1_becomes_4 : decode cX1_becomes 4 = .ok (.iconst 0, 1) := by decide +kernel
theorem dX1_becomes_5 : decode cX1_becomes 5 = .ok (.aload_n 0, 1) := by decide +kernel
theorem dX1_becomes_6 : decode cX1_becomes 6 = .ok (.getfield 13, 3) := by decide +kernel
theorem dX1_becomes_9 : decode cX1_becomes 9 = .ok (.iconst 0, 1) := by decide +kernel
theorem dX1_becomes_10 : decode cX1_becomes 10 = .ok (.getstatic 9, 3) := by decide +kernel
theorem dX1_becomes_13 : decode cX1_becomes 13 = .ok (.arraylength, 1) := by decide +kernel
theorem dX1_becomes_14 : decode cX1_becomes 14 = .ok (.invokestatic 47, 3) := by decide +kernel
theorem dX1_becomes_17 : decode cX1_becomes 17 = .ok (.aload_n 1, 1) := by decide +kernel
theorem dX1_becomes_18 : decode cX1_becomes 18 = .ok (.getfield 18, 3) := by decide +kernel
theorem dX1_becomes_21 : decode cX1_becomes 21 = .ok (.iconst 0, 1) := by decide +kernel
theorem dX1_becomes_22 : decode cX1_becomes 22 = .ok (.aload_n 0, 1) := by decide +kernel
theorem dX1_becomes_23 : decode cX1_becomes 23 = .ok (.getfield 18, 3) := by decide +kernel
theorem dX1_becomes_26 : decode cX1_becomes 26 = .ok (.iconst 0, 1) := by decide +kernel
theorem dX1_becomes_27 : decode cX1_becomes 27 = .ok (.bipush 8, 2) := by decide +kernel
theorem dX1_becomes_29 : decode cX1_becomes 29 = .ok (.invokestatic 47, 3) := by decide +kernel
theorem dX1_becomes_32 : decode cX1_becomes 32 = .ok (.aload_n 1, 1) := by decide +kernel
theorem dX1_becomes_33 : decode cX1_becomes 33 = .ok (.getfield 21, 3) := by decide +kernel
theorem dX1_becomes_36 : decode cX1_becomes 36 = .ok (.iconst 0, 1) := by decide +kernel
theorem dX1_becomes_37 : decode cX1_becomes 37 = .ok (.aload_n 0, 1) := by decide +kernel
theorem dX1_becomes_38 : decode cX1_becomes 38 = .ok (.getfield 21, 3) := by decide +kernel
theorem dX1_becomes_41 : decode cX1_becomes 41 = .ok (.iconst 0, 1) := by decide +kernel
theorem dX1_becomes_42 : decode cX1_becomes 42 = .ok (.bipush 8, 2) := by decide +kernel
theorem dX1_becomes_44 : decode cX1_becomes 44 = .ok (.invokestatic 47, 3) := by decide +kernel
theorem dX1_becomes_47 : decode cX1_becomes 47 = .ok (.aload_n 0, 1) := by decide +kernel
theorem dX1_becomes_48 : decode cX1_becomes 48 = .ok (.iconst 0, 1) := by decide +kernel
theorem dX1_becomes_49 : decode cX1_becomes 49 = .ok (.putfield 53, 3) := by decide +kernel
theorem dX1_becomes_52 : decode cX1_becomes 52 = .ok (.aload_n 0, 1) := by decide +kernel
theorem dX1_becomes_53 : decode cX1_becomes 53 = .ok (.iconst 0, 1) := by decide +kernel
theorem dX1_becomes_54 : decode cX1_becomes 54 = .ok (.putfield 57, 3) := by decide +kernel
theorem dX1_becomes_57 : decode cX1_becomes 57 = .ok (.return_, 1) := by decide +kernel
theorem dX1_makePunctual_0 : decode cX1_makePunctual 0 = .ok (.iconst 0, 1) := by decide +kernel
theorem dX1_makePunctual_1 : decode cX1_makePunctual 1 = .ok (.istore_n 2, 1) := by decide +kernel
theorem dX1_makePunctual_2 : decode cX1_makePunctual 2 = .ok (.iload_n 2, 1) := by decide +kernel
theorem dX1_makePunctual_3 : decode cX1_makePunctual 3 = .ok (.bipush 8, 2) := by decide +kernel
theorem dX1_makePunctual_5 : decode cX1_makePunctual 5 = .ok (.if_icmp .ge 24, 3) := by decide +kernel
theorem dX1_makePunctual_8 : decode cX1_makePunctual 8 = .ok (.iload_n 1, 1) := by decide +kernel
theorem dX1_makePunctual_9 : decode cX1_makePunctual 9 = .ok (.iload_n 2, 1) := by decide +kernel
theorem dX1_makePunctual_10 : decode cX1_makePunctual 10 = .ok (.ishr, 1) := by decide +kernel
theorem dX1_makePunctual_11 : decode cX1_makePunctual 11 = .ok (.iconst 1, 1) := by decide +kernel
theorem dX1_makePunctual_12 : decode cX1_makePunctual 12 = .ok (.iand, 1) := by decide +kernel
theorem dX1_makePunctual_13 : decode cX1_makePunctual 13 = .ok (.ifCond .eq 10, 3) := by decide +kernel
theorem dX1_makePunctual_16 : decode cX1_makePunctual 16 = .ok (.aload_n 0, 1) := by decide +kernel
theorem dX1_makePunctual_17 : decode cX1_makePunctual 17 = .ok (.getfield 18, 3) := by decide +kernel
theorem dX1_makePunctual_20 : decode cX1_makePunctual 20 = .ok (.iload_n 2, 1) := by decide +kernel
theorem dX1_makePunctual_21 : decode cX1_makePunctual 21 = .ok (.iconst 1, 1) := by decide +kernel
theorem dX1_makePunctual_22 : decode cX1_makePunctual 22 = .ok (.iastore, 1) := by decide +kernel
theorem dX1_makePunctual_23 : decode cX1_makePunctual 23 = .ok (.iinc 2 1, 3) := by decide +kernel
theorem dX1_makePunctual_26 : decode cX1_makePunctual 26 = .ok (.goto (-24), 3) := by decide +kernel
theorem dX1_makePunctual_29 : decode cX1_makePunctual 29 = .ok (.return_, 1) := by decide +kernel
theorem dX1_plainBits_0 : decode cX1_plainBits 0 = .ok (.iconst 0, 1) := by decide +kernel
theorem dX1_plainBits_1 : decode cX1_plainBits 1 = .ok (.istore_n 1, 1) := by decide +kernel
theorem dX1_plainBits_2 : decode cX1_plainBits 2 = .ok (.iconst 0, 1) := by decide +kernel
theorem dX1_plainBits_3 : decode cX1_plainBits 3 = .ok (.istore_n 2, 1) := by decide +kernel
theorem dX1_plainBits_4 : decode cX1_plainBits 4 = .ok (.iload_n 2, 1) := by decide +kernel
theorem dX1_plainBits_5 : decode cX1_plainBits 5 = .ok (.bipush 8, 2) := by decide +kernel
theorem dX1_plainBits_7 : decode cX1_plainBits 7 = .ok (.if_icmp .ge 24, 3) := by decide +kernel
theorem dX1_plainBits_10 : decode cX1_plainBits 10 = .ok (.aload_n 0, 1) := by decide +kernel
theorem dX1_plainBits_11 : decode cX1_plainBits 11 = .ok (.getfield 18, 3) := by decide +kernel
theorem dX1_plainBits_14 : decode cX1_plainBits 14 = .ok (.iload_n 2, 1) := by decide +kernel
theorem dX1_plainBits_15 : decode cX1_plainBits 15 = .ok (.iaload, 1) := by decide +kernel
theorem dX1_plainBits_16 : decode cX1_plainBits 16 = .ok (.ifCond .ne 9, 3) := by decide +kernel
theorem dX1_plainBits_19 : decode cX1_plainBits 19 = .ok (.iload_n 1, 1) := by decide +kernel
theorem dX1_plainBits_20 : decode cX1_plainBits 20 = .ok (.iconst 1, 1) := by decide +kernel
theorem dX1_plainBits_21 : decode cX1_plainBits 21 = .ok (.iload_n 2, 1) := by decide +kernel
theorem dX1_plainBits_22 : decode cX1_plainBits 22 = .ok (.ishl, 1) := by decide +kernel
theorem dX1_plainBits_23 : decode cX1_plainBits 23 = .ok (.ior, 1) := by decide +kernel
theorem dX1_plainBits_24 : decode cX1_plainBits 24 = .ok (.istore_n 1, 1) := by decide +kernel
theorem dX1_plainBits_25 : decode cX1_plainBits 25 = .ok (.iinc 2 1, 3) := by decide +kernel
theorem dX1_plainBits_28 : decode cX1_plainBits 28 = .ok (.goto (-24), 3) := by decide +kernel
theorem dX1_plainBits_31 : decode cX1_plainBits 31 = .ok (.iload_n 1, 1) := by decide +kernel
theorem dX1_plainBits_32 : decode cX1_plainBits 32 = .ok (.ireturn, 1) := by decide +kernel
theorem dX1_aimsTogether_0 : decode cX1_aimsTogether 0 = .ok (.iconst 0, 1) := by decide +kernel
theorem dX1_aimsTogether_1 : decode cX1_aimsTogether 1 = .ok (.istore_n 1, 1) := by decide +kernel
theorem dX1_aimsTogether_2 : decode cX1_aimsTogether 2 = .ok (.iconst 0, 1) := by decide +kernel
theorem dX1_aimsTogether_3 : decode cX1_aimsTogether 3 = .ok (.istore_n 2, 1) := by decide +kernel
theorem dX1_aimsTogether_4 : decode cX1_aimsTogether 4 = .ok (.iload_n 2, 1) := by decide +kernel
theorem dX1_aimsTogether_5 : decode cX1_aimsTogether 5 = .ok (.bipush 8, 2) := by decide +kernel
theorem dX1_aimsTogether_7 : decode cX1_aimsTogether 7 = .ok (.if_icmp .ge 27, 3) := by decide +kernel
theorem dX1_aimsTogether_10 : decode cX1_aimsTogether 10 = .ok (.aload_n 0, 1) := by decide +kernel
theorem dX1_aimsTogether_11 : decode cX1_aimsTogether 11 = .ok (.getfield 18, 3) := by decide +kernel
theorem dX1_aimsTogether_14 : decode cX1_aimsTogether 14 = .ok (.iload_n 2, 1) := by decide +kernel
theorem dX1_aimsTogether_15 : decode cX1_aimsTogether 15 = .ok (.iaload, 1) := by decide +kernel
theorem dX1_aimsTogether_16 : decode cX1_aimsTogether 16 = .ok (.ifCond .ne 12, 3) := by decide +kernel
theorem dX1_aimsTogether_19 : decode cX1_aimsTogether 19 = .ok (.iload_n 1, 1) := by decide +kernel
theorem dX1_aimsTogether_20 : decode cX1_aimsTogether 20 = .ok (.aload_n 0, 1) := by decide +kernel
theorem dX1_aimsTogether_21 : decode cX1_aimsTogether 21 = .ok (.getfield 21, 3) := by decide +kernel
theorem dX1_aimsTogether_24 : decode cX1_aimsTogether 24 = .ok (.iload_n 2, 1) := by decide +kernel
theorem dX1_aimsTogether_25 : decode cX1_aimsTogether 25 = .ok (.iaload, 1) := by decide +kernel
theorem dX1_aimsTogether_26 : decode cX1_aimsTogether 26 = .ok (.iadd, 1) := by decide +kernel
theorem dX1_aimsTogether_27 : decode cX1_aimsTogether 27 = .ok (.istore_n 1, 1) := by decide +kernel
theorem dX1_aimsTogether_28 : decode cX1_aimsTogether 28 = .ok (.iinc 2 1, 3) := by decide +kernel
theorem dX1_aimsTogether_31 : decode cX1_aimsTogether 31 = .ok (.goto (-27), 3) := by decide +kernel
theorem dX1_aimsTogether_34 : decode cX1_aimsTogether 34 = .ok (.iload_n 1, 1) := by decide +kernel
theorem dX1_aimsTogether_35 : decode cX1_aimsTogether 35 = .ok (.ireturn, 1) := by decide +kernel
theorem dX1_comingAt_0 : decode cX1_comingAt 0 = .ok (.iconst 0, 1) := by decide +kernel
theorem dX1_comingAt_1 : decode cX1_comingAt 1 = .ok (.istore_n 2, 1) := by decide +kernel
theorem dX1_comingAt_2 : decode cX1_comingAt 2 = .ok (.iconst 0, 1) := by decide +kernel
theorem dX1_comingAt_3 : decode cX1_comingAt 3 = .ok (.istore_n 3, 1) := by decide +kernel
theorem dX1_comingAt_4 : decode cX1_comingAt 4 = .ok (.iload_n 3, 1) := by decide +kernel
theorem dX1_comingAt_5 : decode cX1_comingAt 5 = .ok (.bipush 8, 2) := by decide +kernel
theorem dX1_comingAt_7 : decode cX1_comingAt 7 = .ok (.if_icmp .ge 25, 3) := by decide +kernel
theorem dX1_comingAt_10 : decode cX1_comingAt 10 = .ok (.aload_n 0, 1) := by decide +kernel
theorem dX1_comingAt_11 : decode cX1_comingAt 11 = .ok (.getfield 24, 3) := by decide +kernel
theorem dX1_comingAt_14 : decode cX1_comingAt 14 = .ok (.iload_n 3, 1) := by decide +kernel
theorem dX1_comingAt_15 : decode cX1_comingAt 15 = .ok (.iaload, 1) := by decide +kernel
theorem dX1_comingAt_16 : decode cX1_comingAt 16 = .ok (.iload_n 1, 1) := by decide +kernel
theorem dX1_comingAt_17 : decode cX1_comingAt 17 = .ok (.if_icmp .ne 9, 3) := by decide +kernel
theorem dX1_comingAt_20 : decode cX1_comingAt 20 = .ok (.iload_n 2, 1) := by decide +kernel
theorem dX1_comingAt_21 : decode cX1_comingAt 21 = .ok (.iconst 1, 1) := by decide +kernel
theorem dX1_comingAt_22 : decode cX1_comingAt 22 = .ok (.iload_n 3, 1) := by decide +kernel
theorem dX1_comingAt_23 : decode cX1_comingAt 23 = .ok (.ishl, 1) := by decide +kernel
theorem dX1_comingAt_24 : decode cX1_comingAt 24 = .ok (.ior, 1) := by decide +kernel
theorem dX1_comingAt_25 : decode cX1_comingAt 25 = .ok (.istore_n 2, 1) := by decide +kernel
theorem dX1_comingAt_26 : decode cX1_comingAt 26 = .ok (.iinc 3 1, 3) := by decide +kernel
theorem dX1_comingAt_29 : decode cX1_comingAt 29 = .ok (.goto (-25), 3) := by decide +kernel
theorem dX1_comingAt_32 : decode cX1_comingAt 32 = .ok (.iload_n 2, 1) := by decide +kernel
theorem dX1_comingAt_33 : decode cX1_comingAt 33 = .ok (.ireturn, 1) := by decide +kernel
theorem dX1_reckon_0 : decode cX1_reckon 0 = .ok (.aload_n 0, 1) := by decide +kernel
theorem dX1_reckon_1 : decode cX1_reckon 1 = .ok (.iconst (-1), 1) := by decide +kernel
theorem dX1_reckon_2 : decode cX1_reckon 2 = .ok (.invokevirtual 60, 3) := by decide +kernel
theorem dX1_reckon_5 : decode cX1_reckon 5 = .ok (.aload_n 0, 1) := by decide +kernel
theorem dX1_reckon_6 : decode cX1_reckon 6 = .ok (.iconst (-1), 1) := by decide +kernel
theorem dX1_reckon_7 : decode cX1_reckon 7 = .ok (.bipush 60, 2) := by decide +kernel
theorem dX1_reckon_9 : decode cX1_reckon 9 = .ok (.invokevirtual 64, 3) := by decide +kernel
theorem dX1_reckon_12 : decode cX1_reckon 12 = .ok (.ireturn, 1) := by decide +kernel
theorem dX1_together_0 : decode cX1_together 0 = .ok (.aload_n 0, 1) := by decide +kernel
theorem dX1_together_1 : decode cX1_together 1 = .ok (.invokevirtual 68, 3) := by decide +kernel
theorem dX1_together_4 : decode cX1_together 4 = .ok (.istore_n 1, 1) := by decide +kernel
theorem dX1_together_5 : decode cX1_together 5 = .ok (.iconst 0, 1) := by decide +kernel
theorem dX1_together_6 : decode cX1_together 6 = .ok (.istore_n 2, 1) := by decide +kernel
theorem dX1_together_7 : decode cX1_together 7 = .ok (.iconst 0, 1) := by decide +kernel
theorem dX1_together_8 : decode cX1_together 8 = .ok (.istore_n 3, 1) := by decide +kernel
theorem dX1_together_9 : decode cX1_together 9 = .ok (.iload_n 3, 1) := by decide +kernel
theorem dX1_together_10 : decode cX1_together 10 = .ok (.bipush 8, 2) := by decide +kernel
theorem dX1_together_12 : decode cX1_together 12 = .ok (.if_icmp .ge 34, 3) := by decide +kernel
theorem dX1_together_15 : decode cX1_together 15 = .ok (.aload_n 0, 1) := by decide +kernel
theorem dX1_together_16 : decode cX1_together 16 = .ok (.getfield 18, 3) := by decide +kernel
theorem dX1_together_19 : decode cX1_together 19 = .ok (.iload_n 3, 1) := by decide +kernel
theorem dX1_together_20 : decode cX1_together 20 = .ok (.iaload, 1) := by decide +kernel
theorem dX1_together_21 : decode cX1_together 21 = .ok (.iconst (-1), 1) := by decide +kernel
theorem dX1_together_22 : decode cX1_together 22 = .ok (.if_icmp .eq 18, 3) := by decide +kernel
theorem dX1_together_25 : decode cX1_together 25 = .ok (.iload_n 2, 1) := by decide +kernel
theorem dX1_together_26 : decode cX1_together 26 = .ok (.aload_n 0, 1) := by decide +kernel
theorem dX1_together_27 : decode cX1_together 27 = .ok (.iload_n 3, 1) := by decide +kernel
theorem dX1_together_28 : decode cX1_together 28 = .ok (.aload_n 0, 1) := by decide +kernel
theorem dX1_together_29 : decode cX1_together 29 = .ok (.getfield 24, 3) := by decide +kernel
theorem dX1_together_32 : decode cX1_together 32 = .ok (.iload_n 3, 1) := by decide +kernel
theorem dX1_together_33 : decode cX1_together 33 = .ok (.iaload, 1) := by decide +kernel
theorem dX1_together_34 : decode cX1_together 34 = .ok (.iload_n 1, 1) := by decide +kernel
theorem dX1_together_35 : decode cX1_together 35 = .ok (.invokevirtual 72, 3) := by decide +kernel
theorem dX1_together_38 : decode cX1_together 38 = .ok (.iadd, 1) := by decide +kernel
theorem dX1_together_39 : decode cX1_together 39 = .ok (.istore_n 2, 1) := by decide +kernel
theorem dX1_together_40 : decode cX1_together 40 = .ok (.iinc 3 1, 3) := by decide +kernel
theorem dX1_together_43 : decode cX1_together 43 = .ok (.goto (-34), 3) := by decide +kernel
theorem dX1_together_46 : decode cX1_together 46 = .ok (.iload_n 2, 1) := by decide +kernel
theorem dX1_together_47 : decode cX1_together 47 = .ok (.ireturn, 1) := by decide +kernel
theorem dX1_gather_0 : decode cX1_gather 0 = .ok (.aload_n 0, 1) := by decide +kernel
theorem dX1_gather_1 : decode cX1_gather 1 = .ok (.iconst 0, 1) := by decide +kernel
theorem dX1_gather_2 : decode cX1_gather 2 = .ok (.putfield 76, 3) := by decide +kernel
theorem dX1_gather_5 : decode cX1_gather 5 = .ok (.aload_n 0, 1) := by decide +kernel
theorem dX1_gather_6 : decode cX1_gather 6 = .ok (.iconst 0, 1) := by decide +kernel
theorem dX1_gather_7 : decode cX1_gather 7 = .ok (.putfield 79, 3) := by decide +kernel
theorem dX1_gather_10 : decode cX1_gather 10 = .ok (.iconst 0, 1) := by decide +kernel
theorem dX1_gather_11 : decode cX1_gather 11 = .ok (.istore_n 2, 1) := by decide +kernel
theorem dX1_gather_12 : decode cX1_gather 12 = .ok (.iload_n 2, 1) := by decide +kernel
theorem dX1_gather_13 : decode cX1_gather 13 = .ok (.bipush 8, 2) := by decide +kernel
theorem dX1_gather_15 : decode cX1_gather 15 = .ok (.if_icmp .ge 100, 3) := by decide +kernel
theorem dX1_gather_18 : decode cX1_gather 18 = .ok (.aload_n 0, 1) := by decide +kernel
theorem dX1_gather_19 : decode cX1_gather 19 = .ok (.getfield 24, 3) := by decide +kernel
theorem dX1_gather_22 : decode cX1_gather 22 = .ok (.iload_n 2, 1) := by decide +kernel
theorem dX1_gather_23 : decode cX1_gather 23 = .ok (.bipush 60, 2) := by decide +kernel
theorem dX1_gather_25 : decode cX1_gather 25 = .ok (.iastore, 1) := by decide +kernel
theorem dX1_gather_26 : decode cX1_gather 26 = .ok (.iload_n 2, 1) := by decide +kernel
theorem dX1_gather_27 : decode cX1_gather 27 = .ok (.iload_n 1, 1) := by decide +kernel
theorem dX1_gather_28 : decode cX1_gather 28 = .ok (.if_icmp .eq 81, 3) := by decide +kernel
theorem dX1_gather_31 : decode cX1_gather 31 = .ok (.aload_n 0, 1) := by decide +kernel
theorem dX1_gather_32 : decode cX1_gather 32 = .ok (.getfield 18, 3) := by decide +kernel
theorem dX1_gather_35 : decode cX1_gather 35 = .ok (.iload_n 2, 1) := by decide +kernel
theorem dX1_gather_36 : decode cX1_gather 36 = .ok (.iaload, 1) := by decide +kernel
theorem dX1_gather_37 : decode cX1_gather 37 = .ok (.iconst (-1), 1) := by decide +kernel
theorem dX1_gather_38 : decode cX1_gather 38 = .ok (.if_icmp .eq 71, 3) := by decide +kernel
theorem dX1_gather_41 : decode cX1_gather 41 = .ok (.aload_n 0, 1) := by decide +kernel
theorem dX1_gather_42 : decode cX1_gather 42 = .ok (.getfield 57, 3) := by decide +kernel
theorem dX1_gather_45 : decode cX1_gather 45 = .ok (.iload_n 2, 1) := by decide +kernel
theorem dX1_gather_46 : decode cX1_gather 46 = .ok (.ishr, 1) := by decide +kernel
theorem dX1_gather_47 : decode cX1_gather 47 = .ok (.iconst 1, 1) := by decide +kernel
theorem dX1_gather_48 : decode cX1_gather 48 = .ok (.iand, 1) := by decide +kernel
theorem dX1_gather_49 : decode cX1_gather 49 = .ok (.ifCond .eq 6, 3) := by decide +kernel
theorem dX1_gather_52 : decode cX1_gather 52 = .ok (.goto 57, 3) := by decide +kernel
theorem dX1_gather_55 : decode cX1_gather 55 = .ok (.aload_n 0, 1) := by decide +kernel
theorem dX1_gather_56 : decode cX1_gather 56 = .ok (.getfield 18, 3) := by decide +kernel
theorem dX1_gather_59 : decode cX1_gather 59 = .ok (.iload_n 2, 1) := by decide +kernel
theorem dX1_gather_60 : decode cX1_gather 60 = .ok (.iaload, 1) := by decide +kernel
theorem dX1_gather_61 : decode cX1_gather 61 = .ok (.iconst 2, 1) := by decide +kernel
theorem dX1_gather_62 : decode cX1_gather 62 = .ok (.if_icmp .ne 26, 3) := by decide +kernel
theorem dX1_gather_65 : decode cX1_gather 65 = .ok (.aload_n 0, 1) := by decide +kernel
theorem dX1_gather_66 : decode cX1_gather 66 = .ok (.getfield 33, 3) := by decide +kernel
theorem dX1_gather_69 : decode cX1_gather 69 = .ok (.aload_n 0, 1) := by decide +kernel
theorem dX1_gather_70 : decode cX1_gather 70 = .ok (.getfield 79, 3) := by decide +kernel
theorem dX1_gather_73 : decode cX1_gather 73 = .ok (.iload_n 2, 1) := by decide +kernel
theorem dX1_gather_74 : decode cX1_gather 74 = .ok (.iastore, 1) := by decide +kernel
theorem dX1_gather_75 : decode cX1_gather 75 = .ok (.aload_n 0, 1) := by decide +kernel
theorem dX1_gather_76 : decode cX1_gather 76 = .ok (.dup, 1) := by decide +kernel
theorem dX1_gather_77 : decode cX1_gather 77 = .ok (.getfield 79, 3) := by decide +kernel
theorem dX1_gather_80 : decode cX1_gather 80 = .ok (.iconst 1, 1) := by decide +kernel
theorem dX1_gather_81 : decode cX1_gather 81 = .ok (.iadd, 1) := by decide +kernel
theorem dX1_gather_82 : decode cX1_gather 82 = .ok (.putfield 79, 3) := by decide +kernel
theorem dX1_gather_85 : decode cX1_gather 85 = .ok (.goto 24, 3) := by decide +kernel
theorem dX1_gather_88 : decode cX1_gather 88 = .ok (.aload_n 0, 1) := by decide +kernel
theorem dX1_gather_89 : decode cX1_gather 89 = .ok (.getfield 24, 3) := by decide +kernel
theorem dX1_gather_92 : decode cX1_gather 92 = .ok (.iload_n 2, 1) := by decide +kernel
theorem dX1_gather_93 : decode cX1_gather 93 = .ok (.aload_n 0, 1) := by decide +kernel
theorem dX1_gather_94 : decode cX1_gather 94 = .ok (.iload_n 2, 1) := by decide +kernel
theorem dX1_gather_95 : decode cX1_gather 95 = .ok (.invokevirtual 82, 3) := by decide +kernel
theorem dX1_gather_98 : decode cX1_gather 98 = .ok (.iastore, 1) := by decide +kernel
theorem dX1_gather_99 : decode cX1_gather 99 = .ok (.aload_n 0, 1) := by decide +kernel
theorem dX1_gather_100 : decode cX1_gather 100 = .ok (.aload_n 0, 1) := by decide +kernel
theorem dX1_gather_101 : decode cX1_gather 101 = .ok (.getfield 24, 3) := by decide +kernel
theorem dX1_gather_104 : decode cX1_gather 104 = .ok (.iload_n 2, 1) := by decide +kernel
theorem dX1_gather_105 : decode cX1_gather 105 = .ok (.iaload, 1) := by decide +kernel
theorem dX1_gather_106 : decode cX1_gather 106 = .ok (.invokevirtual 86, 3) := by decide +kernel
theorem dX1_gather_109 : decode cX1_gather 109 = .ok (.iinc 2 1, 3) := by decide +kernel
theorem dX1_gather_112 : decode cX1_gather 112 = .ok (.goto (-100), 3) := by decide +kernel
theorem dX1_gather_115 : decode cX1_gather 115 = .ok (.aload_n 0, 1) := by decide +kernel
theorem dX1_gather_116 : decode cX1_gather 116 = .ok (.getfield 27, 3) := by decide +kernel
theorem dX1_gather_119 : decode cX1_gather 119 = .ok (.iconst 0, 1) := by decide +kernel
theorem dX1_gather_120 : decode cX1_gather 120 = .ok (.aload_n 0, 1) := by decide +kernel
theorem dX1_gather_121 : decode cX1_gather 121 = .ok (.getfield 30, 3) := by decide +kernel
theorem dX1_gather_124 : decode cX1_gather 124 = .ok (.iconst 0, 1) := by decide +kernel
theorem dX1_gather_125 : decode cX1_gather 125 = .ok (.bipush 8, 2) := by decide +kernel
theorem dX1_gather_127 : decode cX1_gather 127 = .ok (.invokestatic 47, 3) := by decide +kernel
theorem dX1_gather_130 : decode cX1_gather 130 = .ok (.aload_n 0, 1) := by decide +kernel
theorem dX1_gather_131 : decode cX1_gather 131 = .ok (.aload_n 0, 1) := by decide +kernel
theorem dX1_gather_132 : decode cX1_gather 132 = .ok (.getfield 76, 3) := by decide +kernel
theorem dX1_gather_135 : decode cX1_gather 135 = .ok (.putfield 89, 3) := by decide +kernel
theorem dX1_gather_138 : decode cX1_gather 138 = .ok (.return_, 1) := by decide +kernel
theorem dX1_firmMinute_0 : decode cX1_firmMinute 0 = .ok (.aload_n 0, 1) := by decide +kernel
theorem dX1_firmMinute_1 : decode cX1_firmMinute 1 = .ok (.getfield 18, 3) := by decide +kernel
theorem dX1_firmMinute_4 : decode cX1_firmMinute 4 = .ok (.iload_n 1, 1) := by decide +kernel
theorem dX1_firmMinute_5 : decode cX1_firmMinute 5 = .ok (.iaload, 1) := by decide +kernel
theorem dX1_firmMinute_6 : decode cX1_firmMinute 6 = .ok (.ifCond .ne 12, 3) := by decide +kernel
theorem dX1_firmMinute_9 : decode cX1_firmMinute 9 = .ok (.aload_n 0, 1) := by decide +kernel
theorem dX1_firmMinute_10 : decode cX1_firmMinute 10 = .ok (.getfield 21, 3) := by decide +kernel
theorem dX1_firmMinute_13 : decode cX1_firmMinute 13 = .ok (.iload_n 1, 1) := by decide +kernel
theorem dX1_firmMinute_14 : decode cX1_firmMinute 14 = .ok (.iaload, 1) := by decide +kernel
theorem dX1_firmMinute_15 : decode cX1_firmMinute 15 = .ok (.goto 9, 3) := by decide +kernel
theorem dX1_firmMinute_18 : decode cX1_firmMinute 18 = .ok (.aload_n 0, 1) := by decide +kernel
theorem dX1_firmMinute_19 : decode cX1_firmMinute 19 = .ok (.getfield 13, 3) := by decide +kernel
theorem dX1_firmMinute_22 : decode cX1_firmMinute 22 = .ok (.iconst 0, 1) := by decide +kernel
theorem dX1_firmMinute_23 : decode cX1_firmMinute 23 = .ok (.iaload, 1) := by decide +kernel
theorem dX1_firmMinute_24 : decode cX1_firmMinute 24 = .ok (.istore_n 2, 1) := by decide +kernel
theorem dX1_firmMinute_25 : decode cX1_firmMinute 25 = .ok (.aload_n 0, 1) := by decide +kernel
theorem dX1_firmMinute_26 : decode cX1_firmMinute 26 = .ok (.getfield 53, 3) := by decide +kernel
theorem dX1_firmMinute_29 : decode cX1_firmMinute 29 = .ok (.iload_n 1, 1) := by decide +kernel
theorem dX1_firmMinute_30 : decode cX1_firmMinute 30 = .ok (.ishr, 1) := by decide +kernel
theorem dX1_firmMinute_31 : decode cX1_firmMinute 31 = .ok (.iconst 1, 1) := by decide +kernel
theorem dX1_firmMinute_32 : decode cX1_firmMinute 32 = .ok (.iand, 1) := by decide +kernel
theorem dX1_firmMinute_33 : decode cX1_firmMinute 33 = .ok (.ifCond .eq 17, 3) := by decide +kernel
theorem dX1_firmMinute_36 : decode cX1_firmMinute 36 = .ok (.iload_n 2, 1) := by decide +kernel
theorem dX1_firmMinute_37 : decode cX1_firmMinute 37 = .ok (.aload_n 0, 1) := by decide +kernel
theorem dX1_firmMinute_38 : decode cX1_firmMinute 38 = .ok (.getfield 39, 3) := by decide +kernel
theorem dX1_firmMinute_41 : decode cX1_firmMinute 41 = .ok (.getfield 92, 3) := by decide +kernel
theorem dX1_firmMinute_44 : decode cX1_firmMinute 44 = .ok (.iconst 4, 1) := by decide +kernel
theorem dX1_firmMinute_45 : decode cX1_firmMinute 45 = .ok (.aaload, 1) := by decide +kernel
theorem dX1_firmMinute_46 : decode cX1_firmMinute 46 = .ok (.iload_n 1, 1) := by decide +kernel
theorem dX1_firmMinute_47 : decode cX1_firmMinute 47 = .ok (.iaload, 1) := by decide +kernel
theorem dX1_firmMinute_48 : decode cX1_firmMinute 48 = .ok (.iadd, 1) := by decide +kernel
theorem dX1_firmMinute_49 : decode cX1_firmMinute 49 = .ok (.istore_n 2, 1) := by decide +kernel
theorem dX1_firmMinute_50 : decode cX1_firmMinute 50 = .ok (.iload_n 2, 1) := by decide +kernel
theorem dX1_firmMinute_51 : decode cX1_firmMinute 51 = .ok (.bipush 60, 2) := by decide +kernel
theorem dX1_firmMinute_53 : decode cX1_firmMinute 53 = .ok (.if_icmp .ge 7, 3) := by decide +kernel
theorem dX1_firmMinute_56 : decode cX1_firmMinute 56 = .ok (.iload_n 2, 1) := by decide +kernel
theorem dX1_firmMinute_57 : decode cX1_firmMinute 57 = .ok (.goto 5, 3) := by decide +kernel
theorem dX1_firmMinute_60 : decode cX1_firmMinute 60 = .ok (.bipush 60, 2) := by decide +kernel
theorem dX1_firmMinute_62 : decode cX1_firmMinute 62 = .ok (.ireturn, 1) := by decide +kernel
theorem dX1_enter_0 : decode cX1_enter 0 = .ok (.iload_n 1, 1) := by decide +kernel
theorem dX1_enter_1 : decode cX1_enter 1 = .ok (.bipush 60, 2) := by decide +kernel
theorem dX1_enter_3 : decode cX1_enter 3 = .ok (.if_icmp .ge 19, 3) := by decide +kernel
theorem dX1_enter_6 : decode cX1_enter 6 = .ok (.aload_n 0, 1) := by decide +kernel
theorem dX1_enter_7 : decode cX1_enter 7 = .ok (.getfield 76, 3) := by decide +kernel
theorem dX1_enter_10 : decode cX1_enter 10 = .ok (.ifCond .lt 12, 3) := by decide +kernel
theorem dX1_enter_13 : decode cX1_enter 13 = .ok (.aload_n 0, 1) := by decide +kernel
theorem dX1_enter_14 : decode cX1_enter 14 = .ok (.getfield 76, 3) := by decide +kernel
theorem dX1_enter_17 : decode cX1_enter 17 = .ok (.bipush 8, 2) := by decide +kernel
theorem dX1_enter_19 : decode cX1_enter 19 = .ok (.if_icmp .lt 4, 3) := by decide +kernel
theorem dX1_enter_22 : decode cX1_enter 22 = .ok (.return_, 1) := by decide +kernel
theorem dX1_enter_23 : decode cX1_enter 23 = .ok (.aload_n 0, 1) := by decide +kernel
theorem dX1_enter_24 : decode cX1_enter 24 = .ok (.getfield 76, 3) := by decide +kernel
theorem dX1_enter_27 : decode cX1_enter 27 = .ok (.istore_n 2, 1) := by decide +kernel
theorem dX1_enter_28 : decode cX1_enter 28 = .ok (.iload_n 2, 1) := by decide +kernel
theorem dX1_enter_29 : decode cX1_enter 29 = .ok (.ifCond .le 35, 3) := by decide +kernel
theorem dX1_enter_32 : decode cX1_enter 32 = .ok (.aload_n 0, 1) := by decide +kernel
theorem dX1_enter_33 : decode cX1_enter 33 = .ok (.getfield 27, 3) := by decide +kernel
theorem dX1_enter_36 : decode cX1_enter 36 = .ok (.iload_n 2, 1) := by decide +kernel
theorem dX1_enter_37 : decode cX1_enter 37 = .ok (.iconst 1, 1) := by decide +kernel
theorem dX1_enter_38 : decode cX1_enter 38 = .ok (.isub, 1) := by decide +kernel
theorem dX1_enter_39 : decode cX1_enter 39 = .ok (.iaload, 1) := by decide +kernel
theorem dX1_enter_40 : decode cX1_enter 40 = .ok (.iload_n 1, 1) := by decide +kernel
theorem dX1_enter_41 : decode cX1_enter 41 = .ok (.if_icmp .le 23, 3) := by decide +kernel
theorem dX1_enter_44 : decode cX1_enter 44 = .ok (.aload_n 0, 1) := by decide +kernel
theorem dX1_enter_45 : decode cX1_enter 45 = .ok (.getfield 27, 3) := by decide +kernel
theorem dX1_enter_48 : decode cX1_enter 48 = .ok (.iload_n 2, 1) := by decide +kernel
theorem dX1_enter_49 : decode cX1_enter 49 = .ok (.aload_n 0, 1) := by decide +kernel
theorem dX1_enter_50 : decode cX1_enter 50 = .ok (.getfield 27, 3) := by decide +kernel
theorem dX1_enter_53 : decode cX1_enter 53 = .ok (.iload_n 2, 1) := by decide +kernel
theorem dX1_enter_54 : decode cX1_enter 54 = .ok (.iconst 1, 1) := by decide +kernel
theorem dX1_enter_55 : decode cX1_enter 55 = .ok (.isub, 1) := by decide +kernel
theorem dX1_enter_56 : decode cX1_enter 56 = .ok (.iaload, 1) := by decide +kernel
theorem dX1_enter_57 : decode cX1_enter 57 = .ok (.iastore, 1) := by decide +kernel
theorem dX1_enter_58 : decode cX1_enter 58 = .ok (.iinc 2 (-1), 3) := by decide +kernel
theorem dX1_enter_61 : decode cX1_enter 61 = .ok (.goto (-33), 3) := by decide +kernel
theorem dX1_enter_64 : decode cX1_enter 64 = .ok (.aload_n 0, 1) := by decide +kernel
theorem dX1_enter_65 : decode cX1_enter 65 = .ok (.getfield 27, 3) := by decide +kernel
theorem dX1_enter_68 : decode cX1_enter 68 = .ok (.iload_n 2, 1) := by decide +kernel
theorem dX1_enter_69 : decode cX1_enter 69 = .ok (.iload_n 1, 1) := by decide +kernel
theorem dX1_enter_70 : decode cX1_enter 70 = .ok (.iastore, 1) := by decide +kernel
theorem dX1_enter_71 : decode cX1_enter 71 = .ok (.aload_n 0, 1) := by decide +kernel
theorem dX1_enter_72 : decode cX1_enter 72 = .ok (.dup, 1) := by decide +kernel
theorem dX1_enter_73 : decode cX1_enter 73 = .ok (.getfield 76, 3) := by decide +kernel
theorem dX1_enter_76 : decode cX1_enter 76 = .ok (.iconst 1, 1) := by decide +kernel
theorem dX1_enter_77 : decode cX1_enter 77 = .ok (.iadd, 1) := by decide +kernel
theorem dX1_enter_78 : decode cX1_enter 78 = .ok (.putfield 76, 3) := by decide +kernel
theorem dX1_enter_81 : decode cX1_enter 81 = .ok (.return_, 1) := by decide +kernel
theorem dX1_settle_0 : decode cX1_settle 0 = .ok (.aload_n 0, 1) := by decide +kernel
theorem dX1_settle_1 : decode cX1_settle 1 = .ok (.getfield 30, 3) := by decide +kernel
theorem dX1_settle_4 : decode cX1_settle 4 = .ok (.iconst 0, 1) := by decide +kernel
theorem dX1_settle_5 : decode cX1_settle 5 = .ok (.aload_n 0, 1) := by decide +kernel
theorem dX1_settle_6 : decode cX1_settle 6 = .ok (.getfield 27, 3) := by decide +kernel
theorem dX1_settle_9 : decode cX1_settle 9 = .ok (.iconst 0, 1) := by decide +kernel
theorem dX1_settle_10 : decode cX1_settle 10 = .ok (.bipush 8, 2) := by decide +kernel
theorem dX1_settle_12 : decode cX1_settle 12 = .ok (.invokestatic 47, 3) := by decide +kernel
theorem dX1_settle_15 : decode cX1_settle 15 = .ok (.aload_n 0, 1) := by decide +kernel
theorem dX1_settle_16 : decode cX1_settle 16 = .ok (.aload_n 0, 1) := by decide +kernel
theorem dX1_settle_17 : decode cX1_settle 17 = .ok (.getfield 89, 3) := by decide +kernel
theorem dX1_settle_20 : decode cX1_settle 20 = .ok (.putfield 76, 3) := by decide +kernel
theorem dX1_settle_23 : decode cX1_settle 23 = .ok (.iload_n 1, 1) := by decide +kernel
theorem dX1_settle_24 : decode cX1_settle 24 = .ok (.ifCond .lt 21, 3) := by decide +kernel
theorem dX1_settle_27 : decode cX1_settle 27 = .ok (.iload_n 1, 1) := by decide +kernel
theorem dX1_settle_28 : decode cX1_settle 28 = .ok (.bipush 8, 2) := by decide +kernel
theorem dX1_settle_30 : decode cX1_settle 30 = .ok (.if_icmp .ge 15, 3) := by decide +kernel
theorem dX1_settle_33 : decode cX1_settle 33 = .ok (.aload_n 0, 1) := by decide +kernel
theorem dX1_settle_34 : decode cX1_settle 34 = .ok (.getfield 24, 3) := by decide +kernel
theorem dX1_settle_37 : decode cX1_settle 37 = .ok (.iload_n 1, 1) := by decide +kernel
theorem dX1_settle_38 : decode cX1_settle 38 = .ok (.iload_n 2, 1) := by decide +kernel
theorem dX1_settle_39 : decode cX1_settle 39 = .ok (.iastore, 1) := by decide +kernel
theorem dX1_settle_40 : decode cX1_settle 40 = .ok (.aload_n 0, 1) := by decide +kernel
theorem dX1_settle_41 : decode cX1_settle 41 = .ok (.iload_n 2, 1) := by decide +kernel
theorem dX1_settle_42 : decode cX1_settle 42 = .ok (.invokevirtual 86, 3) := by decide +kernel
theorem dX1_settle_45 : decode cX1_settle 45 = .ok (.aload_n 0, 1) := by decide +kernel
theorem dX1_settle_46 : decode cX1_settle 46 = .ok (.getfield 79, 3) := by decide +kernel
theorem dX1_settle_49 : decode cX1_settle 49 = .ok (.ifCond .le 7, 3) := by decide +kernel
theorem dX1_settle_52 : decode cX1_settle 52 = .ok (.aload_n 0, 1) := by decide +kernel
theorem dX1_settle_53 : decode cX1_settle 53 = .ok (.invokevirtual 98, 3) := by decide +kernel
theorem dX1_settle_56 : decode cX1_settle 56 = .ok (.aload_n 0, 1) := by decide +kernel
theorem dX1_settle_57 : decode cX1_settle 57 = .ok (.getfield 43, 3) := by decide +kernel
theorem dX1_settle_60 : decode cX1_settle 60 = .ok (.aload_n 0, 1) := by decide +kernel
theorem dX1_settle_61 : decode cX1_settle 61 = .ok (.getfield 13, 3) := by decide +kernel
theorem dX1_settle_64 : decode cX1_settle 64 = .ok (.iconst 0, 1) := by decide +kernel
theorem dX1_settle_65 : decode cX1_settle 65 = .ok (.iaload, 1) := by decide +kernel
theorem dX1_settle_66 : decode cX1_settle 66 = .ok (.aload_n 0, 1) := by decide +kernel
theorem dX1_settle_67 : decode cX1_settle 67 = .ok (.getfield 27, 3) := by decide +kernel
theorem dX1_settle_70 : decode cX1_settle 70 = .ok (.aload_n 0, 1) := by decide +kernel
theorem dX1_settle_71 : decode cX1_settle 71 = .ok (.getfield 76, 3) := by decide +kernel
theorem dX1_settle_74 : decode cX1_settle 74 = .ok (.aload_n 0, 1) := by decide +kernel
theorem dX1_settle_75 : decode cX1_settle 75 = .ok (.getfield 24, 3) := by decide +kernel
theorem dX1_settle_78 : decode cX1_settle 78 = .ok (.invokevirtual 101, 3) := by decide +kernel
theorem dX1_settle_81 : decode cX1_settle 81 = .ok (.ireturn, 1) := by decide +kernel
theorem dX1_callLookers_0 : decode cX1_callLookers 0 = .ok (.iconst 0, 1) := by decide +kernel
theorem dX1_callLookers_1 : decode cX1_callLookers 1 = .ok (.istore_n 1, 1) := by decide +kernel
theorem dX1_callLookers_2 : decode cX1_callLookers 2 = .ok (.iload_n 1, 1) := by decide +kernel
theorem dX1_callLookers_3 : decode cX1_callLookers 3 = .ok (.aload_n 0, 1) := by decide +kernel
theorem dX1_callLookers_4 : decode cX1_callLookers 4 = .ok (.getfield 79, 3) := by decide +kernel
theorem dX1_callLookers_7 : decode cX1_callLookers 7 = .ok (.if_icmp .ge 28, 3) := by decide +kernel
theorem dX1_callLookers_10 : decode cX1_callLookers 10 = .ok (.iload_n 1, 1) := by decide +kernel
theorem dX1_callLookers_11 : decode cX1_callLookers 11 = .ok (.bipush 8, 2) := by decide +kernel
theorem dX1_callLookers_13 : decode cX1_callLookers 13 = .ok (.if_icmp .ge 22, 3) := by decide +kernel
theorem dX1_callLookers_16 : decode cX1_callLookers 16 = .ok (.aload_n 0, 1) := by decide +kernel
theorem dX1_callLookers_17 : decode cX1_callLookers 17 = .ok (.getfield 24, 3) := by decide +kernel
theorem dX1_callLookers_20 : decode cX1_callLookers 20 = .ok (.aload_n 0, 1) := by decide +kernel
theorem dX1_callLookers_21 : decode cX1_callLookers 21 = .ok (.getfield 33, 3) := by decide +kernel
theorem dX1_callLookers_24 : decode cX1_callLookers 24 = .ok (.iload_n 1, 1) := by decide +kernel
theorem dX1_callLookers_25 : decode cX1_callLookers 25 = .ok (.iaload, 1) := by decide +kernel
theorem dX1_callLookers_26 : decode cX1_callLookers 26 = .ok (.bipush 60, 2) := by decide +kernel
theorem dX1_callLookers_28 : decode cX1_callLookers 28 = .ok (.iastore, 1) := by decide +kernel
theorem dX1_callLookers_29 : decode cX1_callLookers 29 = .ok (.iinc 1 1, 3) := by decide +kernel
theorem dX1_callLookers_32 : decode cX1_callLookers 32 = .ok (.goto (-30), 3) := by decide +kernel
theorem dX1_callLookers_35 : decode cX1_callLookers 35 = .ok (.iconst 0, 1) := by decide +kernel
theorem dX1_callLookers_36 : decode cX1_callLookers 36 = .ok (.istore_n 1, 1) := by decide +kernel
theorem dX1_callLookers_37 : decode cX1_callLookers 37 = .ok (.iload_n 1, 1) := by decide +kernel
theorem dX1_callLookers_38 : decode cX1_callLookers 38 = .ok (.aload_n 0, 1) := by decide +kernel
theorem dX1_callLookers_39 : decode cX1_callLookers 39 = .ok (.getfield 76, 3) := by decide +kernel
theorem dX1_callLookers_42 : decode cX1_callLookers 42 = .ok (.if_icmp .ge 98, 3) := by decide +kernel
theorem dX1_callLookers_45 : decode cX1_callLookers 45 = .ok (.iload_n 1, 1) := by decide +kernel
theorem dX1_callLookers_46 : decode cX1_callLookers 46 = .ok (.bipush 8, 2) := by decide +kernel
theorem dX1_callLookers_48 : decode cX1_callLookers 48 = .ok (.if_icmp .ge 92, 3) := by decide +kernel
theorem dX1_callLookers_51 : decode cX1_callLookers 51 = .ok (.iconst 0, 1) := by decide +kernel
theorem dX1_callLookers_52 : decode cX1_callLookers 52 = .ok (.istore_n 2, 1) := by decide +kernel
theorem dX1_callLookers_53 : decode cX1_callLookers 53 = .ok (.iload_n 2, 1) := by decide +kernel
theorem dX1_callLookers_54 : decode cX1_callLookers 54 = .ok (.aload_n 0, 1) := by decide +kernel
theorem dX1_callLookers_55 : decode cX1_callLookers 55 = .ok (.getfield 79, 3) := by decide +kernel
theorem dX1_callLookers_58 : decode cX1_callLookers 58 = .ok (.if_icmp .ge 76, 3) := by decide +kernel
theorem dX1_callLookers_61 : decode cX1_callLookers 61 = .ok (.iload_n 2, 1) := by decide +kernel
theorem dX1_callLookers_62 : decode cX1_callLookers 62 = .ok (.bipush 8, 2) := by decide +kernel
theorem dX1_callLookers_64 : decode cX1_callLookers 64 = .ok (.if_icmp .ge 70, 3) := by decide +kernel
theorem dX1_callLookers_67 : decode cX1_callLookers 67 = .ok (.aload_n 0, 1) := by decide +kernel
theorem dX1_callLookers_68 : decode cX1_callLookers 68 = .ok (.getfield 33, 3) := by decide +kernel
theorem dX1_callLookers_71 : decode cX1_callLookers 71 = .ok (.iload_n 2, 1) := by decide +kernel
theorem dX1_callLookers_72 : decode cX1_callLookers 72 = .ok (.iaload, 1) := by decide +kernel
theorem dX1_callLookers_73 : decode cX1_callLookers 73 = .ok (.istore_n 3, 1) := by decide +kernel
theorem dX1_callLookers_74 : decode cX1_callLookers 74 = .ok (.aload_n 0, 1) := by decide +kernel
theorem dX1_callLookers_75 : decode cX1_callLookers 75 = .ok (.getfield 27, 3) := by decide +kernel
theorem dX1_callLookers_78 : decode cX1_callLookers 78 = .ok (.iload_n 1, 1) := by decide +kernel
theorem dX1_callLookers_79 : decode cX1_callLookers 79 = .ok (.iaload, 1) := by decide +kernel
theorem dX1_callLookers_80 : decode cX1_callLookers 80 = .ok (.aload_n 0, 1) := by decide +kernel
theorem dX1_callLookers_81 : decode cX1_callLookers 81 = .ok (.getfield 39, 3) := by decide +kernel
theorem dX1_callLookers_84 : decode cX1_callLookers 84 = .ok (.getfield 107, 3) := by decide +kernel
theorem dX1_callLookers_87 : decode cX1_callLookers 87 = .ok (.iload_n 3, 1) := by decide +kernel
theorem dX1_callLookers_88 : decode cX1_callLookers 88 = .ok (.iaload, 1) := by decide +kernel
theorem dX1_callLookers_89 : decode cX1_callLookers 89 = .ok (.iadd, 1) := by decide +kernel
theorem dX1_callLookers_90 : decode cX1_callLookers 90 = .ok (.istore 4, 2) := by decide +kernel
theorem dX1_callLookers_92 : decode cX1_callLookers 92 = .ok (.aload_n 0, 1) := by decide +kernel
theorem dX1_callLookers_93 : decode cX1_callLookers 93 = .ok (.getfield 39, 3) := by decide +kernel
theorem dX1_callLookers_96 : decode cX1_callLookers 96 = .ok (.getfield 110, 3) := by decide +kernel
theorem dX1_callLookers_99 : decode cX1_callLookers 99 = .ok (.iload_n 3, 1) := by decide +kernel
theorem dX1_callLookers_100 : decode cX1_callLookers 100 = .ok (.iaload, 1) := by decide +kernel
theorem dX1_callLookers_101 : decode cX1_callLookers 101 = .ok (.iload_n 1, 1) := by decide +kernel
theorem dX1_callLookers_102 : decode cX1_callLookers 102 = .ok (.iconst 1, 1) := by decide +kernel
theorem dX1_callLookers_103 : decode cX1_callLookers 103 = .ok (.iadd, 1) := by decide +kernel
theorem dX1_callLookers_104 : decode cX1_callLookers 104 = .ok (.if_icmp .ne 24, 3) := by decide +kernel
theorem dX1_callLookers_107 : decode cX1_callLookers 107 = .ok (.iload 4, 2) := by decide +kernel
theorem dX1_callLookers_109 : decode cX1_callLookers 109 = .ok (.bipush 60, 2) := by decide +kernel
theorem dX1_callLookers_111 : decode cX1_callLookers 111 = .ok (.if_icmp .ge 17, 3) := by decide +kernel
theorem dX1_callLookers_114 : decode cX1_callLookers 114 = .ok (.aload_n 0, 1) := by decide +kernel
theorem dX1_callLookers_115 : decode cX1_callLookers 115 = .ok (.getfield 24, 3) := by decide +kernel
theorem dX1_callLookers_118 : decode cX1_callLookers 118 = .ok (.iload_n 3, 1) := by decide +kernel
theorem dX1_callLookers_119 : decode cX1_callLookers 119 = .ok (.iload 4, 2) := by decide +kernel
theorem dX1_callLookers_121 : decode cX1_callLookers 121 = .ok (.iastore, 1) := by decide +kernel
theorem dX1_callLookers_122 : decode cX1_callLookers 122 = .ok (.aload_n 0, 1) := by decide +kernel
theorem dX1_callLookers_123 : decode cX1_callLookers 123 = .ok (.iload 4, 2) := by decide +kernel
theorem dX1_callLookers_125 : decode cX1_callLookers 125 = .ok (.invokevirtual 86, 3) := by decide +kernel
theorem dX1_callLookers_128 : decode cX1_callLookers 128 = .ok (.iinc 2 1, 3) := by decide +kernel
theorem dX1_callLookers_131 : decode cX1_callLookers 131 = .ok (.goto (-78), 3) := by decide +kernel
theorem dX1_callLookers_134 : decode cX1_callLookers 134 = .ok (.iinc 1 1, 3) := by decide +kernel
theorem dX1_callLookers_137 : decode cX1_callLookers 137 = .ok (.goto (-100), 3) := by decide +kernel
theorem dX1_callLookers_140 : decode cX1_callLookers 140 = .ok (.return_, 1) := by decide +kernel
theorem dX1_price_0 : decode cX1_price 0 = .ok (.iload_n 2, 1) := by decide +kernel
theorem dX1_price_1 : decode cX1_price 1 = .ok (.bipush 60, 2) := by decide +kernel
theorem dX1_price_3 : decode cX1_price 3 = .ok (.if_icmp .lt 15, 3) := by decide +kernel
theorem dX1_price_6 : decode cX1_price 6 = .ok (.aload_n 0, 1) := by decide +kernel
theorem dX1_price_7 : decode cX1_price 7 = .ok (.getfield 39, 3) := by decide +kernel
theorem dX1_price_10 : decode cX1_price 10 = .ok (.getfield 92, 3) := by decide +kernel
theorem dX1_price_13 : decode cX1_price 13 = .ok (.iconst 2, 1) := by decide +kernel
theorem dX1_price_14 : decode cX1_price 14 = .ok (.aaload, 1) := by decide +kernel
theorem dX1_price_15 : decode cX1_price 15 = .ok (.iload_n 1, 1) := by decide +kernel
theorem dX1_price_16 : decode cX1_price 16 = .ok (.iaload, 1) := by decide +kernel
theorem dX1_price_17 : decode cX1_price 17 = .ok (.ireturn, 1) := by decide +kernel
theorem dX1_price_18 : decode cX1_price 18 = .ok (.iload_n 2, 1) := by decide +kernel
theorem dX1_price_19 : decode cX1_price 19 = .ok (.iload_n 3, 1) := by decide +kernel
theorem dX1_price_20 : decode cX1_price 20 = .ok (.if_icmp .le 23, 3) := by decide +kernel
theorem dX1_price_23 : decode cX1_price 23 = .ok (.aload_n 0, 1) := by decide +kernel
theorem dX1_price_24 : decode cX1_price 24 = .ok (.getfield 39, 3) := by decide +kernel
theorem dX1_price_27 : decode cX1_price 27 = .ok (.getfield 92, 3) := by decide +kernel
theorem dX1_price_30 : decode cX1_price 30 = .ok (.iconst 1, 1) := by decide +kernel
theorem dX1_price_31 : decode cX1_price 31 = .ok (.aaload, 1) := by decide +kernel
theorem dX1_price_32 : decode cX1_price 32 = .ok (.iload_n 1, 1) := by decide +kernel
theorem dX1_price_33 : decode cX1_price 33 = .ok (.iaload, 1) := by decide +kernel
theorem dX1_price_34 : decode cX1_price 34 = .ok (.iload_n 2, 1) := by decide +kernel
theorem dX1_price_35 : decode cX1_price 35 = .ok (.iload_n 3, 1) := by decide +kernel
theorem dX1_price_36 : decode cX1_price 36 = .ok (.isub, 1) := by decide +kernel
theorem dX1_price_37 : decode cX1_price 37 = .ok (.imul, 1) := by decide +kernel
theorem dX1_price_38 : decode cX1_price 38 = .ok (.istore 4, 2) := by decide +kernel
theorem dX1_price_40 : decode cX1_price 40 = .ok (.goto 37, 3) := by decide +kernel
theorem dX1_price_43 : decode cX1_price 43 = .ok (.aload_n 0, 1) := by decide +kernel
theorem dX1_price_44 : decode cX1_price 44 = .ok (.getfield 39, 3) := by decide +kernel
theorem dX1_price_47 : decode cX1_price 47 = .ok (.getfield 92, 3) := by decide +kernel
theorem dX1_price_50 : decode cX1_price 50 = .ok (.iconst 0, 1) := by decide +kernel
theorem dX1_price_51 : decode cX1_price 51 = .ok (.aaload, 1) := by decide +kernel
theorem dX1_price_52 : decode cX1_price 52 = .ok (.iload_n 1, 1) := by decide +kernel
theorem dX1_price_53 : decode cX1_price 53 = .ok (.iaload, 1) := by decide +kernel
theorem dX1_price_54 : decode cX1_price 54 = .ok (.iload_n 3, 1) := by decide +kernel
theorem dX1_price_55 : decode cX1_price 55 = .ok (.iload_n 2, 1) := by decide +kernel
theorem dX1_price_56 : decode cX1_price 56 = .ok (.isub, 1) := by decide +kernel
theorem dX1_price_57 : decode cX1_price 57 = .ok (.imul, 1) := by decide +kernel
theorem dX1_price_58 : decode cX1_price 58 = .ok (.iload_n 3, 1) := by decide +kernel
theorem dX1_price_59 : decode cX1_price 59 = .ok (.bipush 60, 2) := by decide +kernel
theorem dX1_price_61 : decode cX1_price 61 = .ok (.if_icmp .ge 12, 3) := by decide +kernel
theorem dX1_price_64 : decode cX1_price 64 = .ok (.aload_n 0, 1) := by decide +kernel
theorem dX1_price_65 : decode cX1_price 65 = .ok (.getfield 13, 3) := by decide +kernel
theorem dX1_price_68 : decode cX1_price 68 = .ok (.iconst 2, 1) := by decide +kernel
theorem dX1_price_69 : decode cX1_price 69 = .ok (.iaload, 1) := by decide +kernel
theorem dX1_price_70 : decode cX1_price 70 = .ok (.goto 4, 3) := by decide +kernel
theorem dX1_price_73 : decode cX1_price 73 = .ok (.iconst 0, 1) := by decide +kernel
theorem dX1_price_74 : decode cX1_price 74 = .ok (.isub, 1) := by decide +kernel
theorem dX1_price_75 : decode cX1_price 75 = .ok (.istore 4, 2) := by decide +kernel
theorem dX1_price_77 : decode cX1_price 77 = .ok (.iload_n 2, 1) := by decide +kernel
theorem dX1_price_78 : decode cX1_price 78 = .ok (.aload_n 0, 1) := by decide +kernel
theorem dX1_price_79 : decode cX1_price 79 = .ok (.getfield 13, 3) := by decide +kernel
theorem dX1_price_82 : decode cX1_price 82 = .ok (.iconst 0, 1) := by decide +kernel
theorem dX1_price_83 : decode cX1_price 83 = .ok (.iaload, 1) := by decide +kernel
theorem dX1_price_84 : decode cX1_price 84 = .ok (.if_icmp .le 15, 3) := by decide +kernel
theorem dX1_price_87 : decode cX1_price 87 = .ok (.iload 4, 2) := by decide +kernel
theorem dX1_price_89 : decode cX1_price 89 = .ok (.aload_n 0, 1) := by decide +kernel
theorem dX1_price_90 : decode cX1_price 90 = .ok (.getfield 13, 3) := by decide +kernel
theorem dX1_price_93 : decode cX1_price 93 = .ok (.iconst 1, 1) := by decide +kernel
theorem dX1_price_94 : decode cX1_price 94 = .ok (.iaload, 1) := by decide +kernel
theorem dX1_price_95 : decode cX1_price 95 = .ok (.iadd, 1) := by decide +kernel
theorem dX1_price_96 : decode cX1_price 96 = .ok (.goto 5, 3) := by decide +kernel
theorem dX1_price_99 : decode cX1_price 99 = .ok (.iload 4, 2) := by decide +kernel
theorem dX1_price_101 : decode cX1_price 101 = .ok (.ireturn, 1) := by decide +kernel
theorem dX1_bestOf_0 : decode cX1_bestOf 0 = .ok (.aload_n 0, 1) := by decide +kernel
theorem dX1_bestOf_1 : decode cX1_bestOf 1 = .ok (.iload_n 1, 1) := by decide +kernel
theorem dX1_bestOf_2 : decode cX1_bestOf 2 = .ok (.invokevirtual 60, 3) := by decide +kernel
theorem dX1_bestOf_5 : decode cX1_bestOf 5 = .ok (.aload_n 0, 1) := by decide +kernel
theorem dX1_bestOf_6 : decode cX1_bestOf 6 = .ok (.iload_n 1, 1) := by decide +kernel
theorem dX1_bestOf_7 : decode cX1_bestOf 7 = .ok (.bipush 60, 2) := by decide +kernel
theorem dX1_bestOf_9 : decode cX1_bestOf 9 = .ok (.invokevirtual 64, 3) := by decide +kernel
theorem dX1_bestOf_12 : decode cX1_bestOf 12 = .ok (.istore_n 3, 1) := by decide +kernel
theorem dX1_bestOf_13 : decode cX1_bestOf 13 = .ok (.iconst 0, 1) := by decide +kernel
theorem dX1_bestOf_14 : decode cX1_bestOf 14 = .ok (.istore 4, 2) := by decide +kernel
theorem dX1_bestOf_16 : decode cX1_bestOf 16 = .ok (.ldc 115, 2) := by decide +kernel
theorem dX1_bestOf_18 : decode cX1_bestOf 18 = .ok (.istore 5, 2) := by decide +kernel
theorem dX1_bestOf_20 : decode cX1_bestOf 20 = .ok (.iconst 0, 1) := by decide +kernel
theorem dX1_bestOf_21 : decode cX1_bestOf 21 = .ok (.istore 6, 2) := by decide +kernel
theorem dX1_bestOf_23 : decode cX1_bestOf 23 = .ok (.iload 6, 2) := by decide +kernel
theorem dX1_bestOf_25 : decode cX1_bestOf 25 = .ok (.bipush 60, 2) := by decide +kernel
theorem dX1_bestOf_27 : decode cX1_bestOf 27 = .ok (.if_icmp .gt 65, 3) := by decide +kernel
theorem dX1_bestOf_30 : decode cX1_bestOf 30 = .ok (.iload 6, 2) := by decide +kernel
theorem dX1_bestOf_32 : decode cX1_bestOf 32 = .ok (.iload_n 3, 1) := by decide +kernel
theorem dX1_bestOf_33 : decode cX1_bestOf 33 = .ok (.if_icmp .le 7, 3) := by decide +kernel
theorem dX1_bestOf_36 : decode cX1_bestOf 36 = .ok (.iload_n 3, 1) := by decide +kernel
theorem dX1_bestOf_37 : decode cX1_bestOf 37 = .ok (.goto 10, 3) := by decide +kernel
theorem dX1_bestOf_40 : decode cX1_bestOf 40 = .ok (.aload_n 0, 1) := by decide +kernel
theorem dX1_bestOf_41 : decode cX1_bestOf 41 = .ok (.iload_n 1, 1) := by decide +kernel
theorem dX1_bestOf_42 : decode cX1_bestOf 42 = .ok (.iload 6, 2) := by decide +kernel
theorem dX1_bestOf_44 : decode cX1_bestOf 44 = .ok (.invokevirtual 64, 3) := by decide +kernel
theorem dX1_bestOf_47 : decode cX1_bestOf 47 = .ok (.istore 7, 2) := by decide +kernel
theorem dX1_bestOf_49 : decode cX1_bestOf 49 = .ok (.aload_n 0, 1) := by decide +kernel
theorem dX1_bestOf_50 : decode cX1_bestOf 50 = .ok (.iload_n 1, 1) := by decide +kernel
theorem dX1_bestOf_51 : decode cX1_bestOf 51 = .ok (.iload 6, 2) := by decide +kernel
theorem dX1_bestOf_53 : decode cX1_bestOf 53 = .ok (.iload 7, 2) := by decide +kernel
theorem dX1_bestOf_55 : decode cX1_bestOf 55 = .ok (.invokevirtual 72, 3) := by decide +kernel
theorem dX1_bestOf_58 : decode cX1_bestOf 58 = .ok (.istore 8, 2) := by decide +kernel
theorem dX1_bestOf_60 : decode cX1_bestOf 60 = .ok (.iload 8, 2) := by decide +kernel
theorem dX1_bestOf_62 : decode cX1_bestOf 62 = .ok (.iload 5, 2) := by decide +kernel
theorem dX1_bestOf_64 : decode cX1_bestOf 64 = .ok (.if_icmp .lt 14, 3) := by decide +kernel
theorem dX1_bestOf_67 : decode cX1_bestOf 67 = .ok (.iload_n 2, 1) := by decide +kernel
theorem dX1_bestOf_68 : decode cX1_bestOf 68 = .ok (.ifCond .eq 18, 3) := by decide +kernel
theorem dX1_bestOf_71 : decode cX1_bestOf 71 = .ok (.iload 8, 2) := by decide +kernel
theorem dX1_bestOf_73 : decode cX1_bestOf 73 = .ok (.iload 5, 2) := by decide +kernel
theorem dX1_bestOf_75 : decode cX1_bestOf 75 = .ok (.if_icmp .ne 11, 3) := by decide +kernel
theorem dX1_bestOf_78 : decode cX1_bestOf 78 = .ok (.iload 8, 2) := by decide +kernel
theorem dX1_bestOf_80 : decode cX1_bestOf 80 = .ok (.istore 5, 2) := by decide +kernel
theorem dX1_bestOf_82 : decode cX1_bestOf 82 = .ok (.iload 6, 2) := by decide +kernel
theorem dX1_bestOf_84 : decode cX1_bestOf 84 = .ok (.istore 4, 2) := by decide +kernel
theorem dX1_bestOf_86 : decode cX1_bestOf 86 = .ok (.iinc 6 1, 3) := by decide +kernel
theorem dX1_bestOf_89 : decode cX1_bestOf 89 = .ok (.goto (-66), 3) := by decide +kernel
theorem dX1_bestOf_92 : decode cX1_bestOf 92 = .ok (.iload 4, 2) := by decide +kernel
theorem dX1_bestOf_94 : decode cX1_bestOf 94 = .ok (.ireturn, 1) := by decide +kernel
theorem dX1_openPrice_0 : decode cX1_openPrice 0 = .ok (.aload_n 0, 1) := by decide +kernel
theorem dX1_openPrice_1 : decode cX1_openPrice 1 = .ok (.iload_n 1, 1) := by decide +kernel
theorem dX1_openPrice_2 : decode cX1_openPrice 2 = .ok (.iload_n 2, 1) := by decide +kernel
theorem dX1_openPrice_3 : decode cX1_openPrice 3 = .ok (.aload_n 0, 1) := by decide +kernel
theorem dX1_openPrice_4 : decode cX1_openPrice 4 = .ok (.iload_n 1, 1) := by decide +kernel
theorem dX1_openPrice_5 : decode cX1_openPrice 5 = .ok (.iload_n 2, 1) := by decide +kernel
theorem dX1_openPrice_6 : decode cX1_openPrice 6 = .ok (.invokevirtual 64, 3) := by decide +kernel
theorem dX1_openPrice_9 : decode cX1_openPrice 9 = .ok (.invokevirtual 72, 3) := by decide +kernel
theorem dX1_openPrice_12 : decode cX1_openPrice 12 = .ok (.ireturn, 1) := by decide +kernel
theorem dX1_firstRestless_0 : decode cX1_firstRestless 0 = .ok (.iconst 0, 1) := by decide +kernel
theorem dX1_firstRestless_1 : decode cX1_firstRestless 1 = .ok (.istore_n 1, 1) := by decide +kernel
theorem dX1_firstRestless_2 : decode cX1_firstRestless 2 = .ok (.iload_n 1, 1) := by decide +kernel
theorem dX1_firstRestless_3 : decode cX1_firstRestless 3 = .ok (.bipush 8, 2) := by decide +kernel
theorem dX1_firstRestless_5 : decode cX1_firstRestless 5 = .ok (.if_icmp .ge 50, 3) := by decide +kernel
theorem dX1_firstRestless_8 : decode cX1_firstRestless 8 = .ok (.aload_n 0, 1) := by decide +kernel
theorem dX1_firstRestless_9 : decode cX1_firstRestless 9 = .ok (.getfield 18, 3) := by decide +kernel
theorem dX1_firstRestless_12 : decode cX1_firstRestless 12 = .ok (.iload_n 1, 1) := by decide +kernel
theorem dX1_firstRestless_13 : decode cX1_firstRestless 13 = .ok (.iaload, 1) := by decide +kernel
theorem dX1_firstRestless_14 : decode cX1_firstRestless 14 = .ok (.ifCond .eq 6, 3) := by decide +kernel
theorem dX1_firstRestless_17 : decode cX1_firstRestless 17 = .ok (.goto 32, 3) := by decide +kernel
theorem dX1_firstRestless_20 : decode cX1_firstRestless 20 = .ok (.aload_n 0, 1) := by decide +kernel
theorem dX1_firstRestless_21 : decode cX1_firstRestless 21 = .ok (.iload_n 1, 1) := by decide +kernel
theorem dX1_firstRestless_22 : decode cX1_firstRestless 22 = .ok (.iconst 0, 1) := by decide +kernel
theorem dX1_firstRestless_23 : decode cX1_firstRestless 23 = .ok (.invokevirtual 116, 3) := by decide +kernel
theorem dX1_firstRestless_26 : decode cX1_firstRestless 26 = .ok (.istore_n 2, 1) := by decide +kernel
theorem dX1_firstRestless_27 : decode cX1_firstRestless 27 = .ok (.aload_n 0, 1) := by decide +kernel
theorem dX1_firstRestless_28 : decode cX1_firstRestless 28 = .ok (.iload_n 1, 1) := by decide +kernel
theorem dX1_firstRestless_29 : decode cX1_firstRestless 29 = .ok (.iload_n 2, 1) := by decide +kernel
theorem dX1_firstRestless_30 : decode cX1_firstRestless 30 = .ok (.invokevirtual 120, 3) := by decide +kernel
theorem dX1_firstRestless_33 : decode cX1_firstRestless 33 = .ok (.aload_n 0, 1) := by decide +kernel
theorem dX1_firstRestless_34 : decode cX1_firstRestless 34 = .ok (.iload_n 1, 1) := by decide +kernel
theorem dX1_firstRestless_35 : decode cX1_firstRestless 35 = .ok (.aload_n 0, 1) := by decide +kernel
theorem dX1_firstRestless_36 : decode cX1_firstRestless 36 = .ok (.getfield 21, 3) := by decide +kernel
theorem dX1_firstRestless_39 : decode cX1_firstRestless 39 = .ok (.iload_n 1, 1) := by decide +kernel
theorem dX1_firstRestless_40 : decode cX1_firstRestless 40 = .ok (.iaload, 1) := by decide +kernel
theorem dX1_firstRestless_41 : decode cX1_firstRestless 41 = .ok (.invokevirtual 120, 3) := by decide +kernel
theorem dX1_firstRestless_44 : decode cX1_firstRestless 44 = .ok (.if_icmp .ge 5, 3) := by decide +kernel
theorem dX1_firstRestless_47 : decode cX1_firstRestless 47 = .ok (.iload_n 1, 1) := by decide +kernel
theorem dX1_firstRestless_48 : decode cX1_firstRestless 48 = .ok (.ireturn, 1) := by decide +kernel
theorem dX1_firstRestless_49 : decode cX1_firstRestless 49 = .ok (.iinc 1 1, 3) := by decide +kernel
theorem dX1_firstRestless_52 : decode cX1_firstRestless 52 = .ok (.goto (-50), 3) := by decide +kernel
theorem dX1_firstRestless_55 : decode cX1_firstRestless 55 = .ok (.iconst (-1), 1) := by decide +kernel
theorem dX1_firstRestless_56 : decode cX1_firstRestless 56 = .ok (.ireturn, 1) := by decide +kernel
theorem dX1_restsAmong_0 : decode cX1_restsAmong 0 = .ok (.iconst 0, 1) := by decide +kernel
theorem dX1_restsAmong_1 : decode cX1_restsAmong 1 = .ok (.istore_n 3, 1) := by decide +kernel
theorem dX1_restsAmong_2 : decode cX1_restsAmong 2 = .ok (.iload_n 3, 1) := by decide +kernel
theorem dX1_restsAmong_3 : decode cX1_restsAmong 3 = .ok (.bipush 8, 2) := by decide +kernel
theorem dX1_restsAmong_5 : decode cX1_restsAmong 5 = .ok (.if_icmp .ge 77, 3) := by decide +kernel
theorem dX1_restsAmong_8 : decode cX1_restsAmong 8 = .ok (.aload_n 0, 1) := by decide +kernel
theorem dX1_restsAmong_9 : decode cX1_restsAmong 9 = .ok (.getfield 18, 3) := by decide +kernel
theorem dX1_restsAmong_12 : decode cX1_restsAmong 12 = .ok (.iload_n 3, 1) := by decide +kernel
theorem dX1_restsAmong_13 : decode cX1_restsAmong 13 = .ok (.iaload, 1) := by decide +kernel
theorem dX1_restsAmong_14 : decode cX1_restsAmong 14 = .ok (.ifCond .eq 6, 3) := by decide +kernel
theorem dX1_restsAmong_17 : decode cX1_restsAmong 17 = .ok (.goto 59, 3) := by decide +kernel
theorem dX1_restsAmong_20 : decode cX1_restsAmong 20 = .ok (.aload_n 0, 1) := by decide +kernel
theorem dX1_restsAmong_21 : decode cX1_restsAmong 21 = .ok (.iload_n 3, 1) := by decide +kernel
theorem dX1_restsAmong_22 : decode cX1_restsAmong 22 = .ok (.invokevirtual 60, 3) := by decide +kernel
theorem dX1_restsAmong_25 : decode cX1_restsAmong 25 = .ok (.aload_n 0, 1) := by decide +kernel
theorem dX1_restsAmong_26 : decode cX1_restsAmong 26 = .ok (.iload_n 3, 1) := by decide +kernel
theorem dX1_restsAmong_27 : decode cX1_restsAmong 27 = .ok (.aload_n 0, 1) := by decide +kernel
theorem dX1_restsAmong_28 : decode cX1_restsAmong 28 = .ok (.getfield 21, 3) := by decide +kernel
theorem dX1_restsAmong_31 : decode cX1_restsAmong 31 = .ok (.iload_n 3, 1) := by decide +kernel
theorem dX1_restsAmong_32 : decode cX1_restsAmong 32 = .ok (.iaload, 1) := by decide +kernel
theorem dX1_restsAmong_33 : decode cX1_restsAmong 33 = .ok (.invokevirtual 120, 3) := by decide +kernel
theorem dX1_restsAmong_36 : decode cX1_restsAmong 36 = .ok (.istore 4, 2) := by decide +kernel
theorem dX1_restsAmong_38 : decode cX1_restsAmong 38 = .ok (.iconst 0, 1) := by decide +kernel
theorem dX1_restsAmong_39 : decode cX1_restsAmong 39 = .ok (.istore 5, 2) := by decide +kernel
theorem dX1_restsAmong_41 : decode cX1_restsAmong 41 = .ok (.iload 5, 2) := by decide +kernel
theorem dX1_restsAmong_43 : decode cX1_restsAmong 43 = .ok (.iload_n 2, 1) := by decide +kernel
theorem dX1_restsAmong_44 : decode cX1_restsAmong 44 = .ok (.if_icmp .ge 32, 3) := by decide +kernel
theorem dX1_restsAmong_47 : decode cX1_restsAmong 47 = .ok (.iload 5, 2) := by decide +kernel
theorem dX1_restsAmong_49 : decode cX1_restsAmong 49 = .ok (.aload_n 1, 1) := by decide +kernel
theorem dX1_restsAmong_50 : decode cX1_restsAmong 50 = .ok (.arraylength, 1) := by decide +kernel
theorem dX1_restsAmong_51 : decode cX1_restsAmong 51 = .ok (.if_icmp .ge 25, 3) := by decide +kernel
theorem dX1_restsAmong_54 : decode cX1_restsAmong 54 = .ok (.aload_n 0, 1) := by decide +kernel
theorem dX1_restsAmong_55 : decode cX1_restsAmong 55 = .ok (.iload_n 3, 1) := by decide +kernel
theorem dX1_restsAmong_56 : decode cX1_restsAmong 56 = .ok (.aload_n 1, 1) := by decide +kernel
theorem dX1_restsAmong_57 : decode cX1_restsAmong 57 = .ok (.iload 5, 2) := by decide +kernel
theorem dX1_restsAmong_59 : decode cX1_restsAmong 59 = .ok (.iaload, 1) := by decide +kernel
theorem dX1_restsAmong_60 : decode cX1_restsAmong 60 = .ok (.invokevirtual 120, 3) := by decide +kernel
theorem dX1_restsAmong_63 : decode cX1_restsAmong 63 = .ok (.iload 4, 2) := by decide +kernel
theorem dX1_restsAmong_65 : decode cX1_restsAmong 65 = .ok (.if_icmp .ge 5, 3) := by decide +kernel
theorem dX1_restsAmong_68 : decode cX1_restsAmong 68 = .ok (.iconst 0, 1) := by decide +kernel
theorem dX1_restsAmong_69 : decode cX1_restsAmong 69 = .ok (.ireturn, 1) := by decide +kernel
theorem dX1_restsAmong_70 : decode cX1_restsAmong 70 = .ok (.iinc 5 1, 3) := by decide +kernel
theorem dX1_restsAmong_73 : decode cX1_restsAmong 73 = .ok (.goto (-32), 3) := by decide +kernel
theorem dX1_restsAmong_76 : decode cX1_restsAmong 76 = .ok (.iinc 3 1, 3) := by decide +kernel
theorem dX1_restsAmong_79 : decode cX1_restsAmong 79 = .ok (.goto (-77), 3) := by decide +kernel
theorem dX1_restsAmong_82 : decode cX1_restsAmong 82 = .ok (.iconst 1, 1) := by decide +kernel
theorem dX1_restsAmong_83 : decode cX1_restsAmong 83 = .ok (.ireturn, 1) := by decide +kernel
theorem dX1_climbs_0 : decode cX1_climbs 0 = .ok (.iconst 0, 1) := by decide +kernel
theorem dX1_climbs_1 : decode cX1_climbs 1 = .ok (.istore_n 2, 1) := by decide +kernel
theorem dX1_climbs_2 : decode cX1_climbs 2 = .ok (.iload_n 2, 1) := by decide +kernel
theorem dX1_climbs_3 : decode cX1_climbs 3 = .ok (.bipush 8, 2) := by decide +kernel
theorem dX1_climbs_5 : decode cX1_climbs 5 = .ok (.if_icmp .ge 34, 3) := by decide +kernel
theorem dX1_climbs_8 : decode cX1_climbs 8 = .ok (.aload_n 0, 1) := by decide +kernel
theorem dX1_climbs_9 : decode cX1_climbs 9 = .ok (.getfield 18, 3) := by decide +kernel
theorem dX1_climbs_12 : decode cX1_climbs 12 = .ok (.iload_n 2, 1) := by decide +kernel
theorem dX1_climbs_13 : decode cX1_climbs 13 = .ok (.iaload, 1) := by decide +kernel
theorem dX1_climbs_14 : decode cX1_climbs 14 = .ok (.ifCond .ne 19, 3) := by decide +kernel
theorem dX1_climbs_17 : decode cX1_climbs 17 = .ok (.aload_n 0, 1) := by decide +kernel
theorem dX1_climbs_18 : decode cX1_climbs 18 = .ok (.getfield 21, 3) := by decide +kernel
theorem dX1_climbs_21 : decode cX1_climbs 21 = .ok (.iload_n 2, 1) := by decide +kernel
theorem dX1_climbs_22 : decode cX1_climbs 22 = .ok (.iload_n 1, 1) := by decide +kernel
theorem dX1_climbs_23 : decode cX1_climbs 23 = .ok (.ifCond .eq 8, 3) := by decide +kernel
theorem dX1_climbs_26 : decode cX1_climbs 26 = .ok (.bipush 60, 2) := by decide +kernel
theorem dX1_climbs_28 : decode cX1_climbs 28 = .ok (.goto 4, 3) := by decide +kernel
theorem dX1_climbs_31 : decode cX1_climbs 31 = .ok (.iconst 0, 1) := by decide +kernel
theorem dX1_climbs_32 : decode cX1_climbs 32 = .ok (.iastore, 1) := by decide +kernel
theorem dX1_climbs_33 : decode cX1_climbs 33 = .ok (.iinc 2 1, 3) := by decide +kernel
theorem dX1_climbs_36 : decode cX1_climbs 36 = .ok (.goto (-34), 3) := by decide +kernel
theorem dX1_climbs_39 : decode cX1_climbs 39 = .ok (.iconst 1, 1) := by decide +kernel
theorem dX1_climbs_40 : decode cX1_climbs 40 = .ok (.istore_n 2, 1) := by decide +kernel
theorem dX1_climbs_41 : decode cX1_climbs 41 = .ok (.iconst 0, 1) := by decide +kernel
theorem dX1_climbs_42 : decode cX1_climbs 42 = .ok (.istore_n 3, 1) := by decide +kernel
theorem dX1_climbs_43 : decode cX1_climbs 43 = .ok (.iload_n 3, 1) := by decide +kernel
theorem dX1_climbs_44 : decode cX1_climbs 44 = .ok (.bipush 20, 2) := by decide +kernel
theorem dX1_climbs_46 : decode cX1_climbs 46 = .ok (.if_icmp .ge 82, 3) := by decide +kernel
theorem dX1_climbs_49 : decode cX1_climbs 49 = .ok (.iload_n 2, 1) := by decide +kernel
theorem dX1_climbs_50 : decode cX1_climbs 50 = .ok (.ifCond .eq 78, 3) := by decide +kernel
theorem dX1_climbs_53 : decode cX1_climbs 53 = .ok (.iconst 0, 1) := by decide +kernel
theorem dX1_climbs_54 : decode cX1_climbs 54 = .ok (.istore_n 2, 1) := by decide +kernel
theorem dX1_climbs_55 : decode cX1_climbs 55 = .ok (.iconst 0, 1) := by decide +kernel
theorem dX1_climbs_56 : decode cX1_climbs 56 = .ok (.istore 4, 2) := by decide +kernel
theorem dX1_climbs_58 : decode cX1_climbs 58 = .ok (.iload 4, 2) := by decide +kernel
theorem dX1_climbs_60 : decode cX1_climbs 60 = .ok (.bipush 8, 2) := by decide +kernel
theorem dX1_climbs_62 : decode cX1_climbs 62 = .ok (.if_icmp .ge 60, 3) := by decide +kernel
theorem dX1_climbs_65 : decode cX1_climbs 65 = .ok (.aload_n 0, 1) := by decide +kernel
theorem dX1_climbs_66 : decode cX1_climbs 66 = .ok (.getfield 18, 3) := by decide +kernel
theorem dX1_climbs_69 : decode cX1_climbs 69 = .ok (.iload 4, 2) := by decide +kernel
theorem dX1_climbs_71 : decode cX1_climbs 71 = .ok (.iaload, 1) := by decide +kernel
theorem dX1_climbs_72 : decode cX1_climbs 72 = .ok (.ifCond .eq 6, 3) := by decide +kernel
theorem dX1_climbs_75 : decode cX1_climbs 75 = .ok (.goto 41, 3) := by decide +kernel
theorem dX1_climbs_78 : decode cX1_climbs 78 = .ok (.aload_n 0, 1) := by decide +kernel
theorem dX1_climbs_79 : decode cX1_climbs 79 = .ok (.iload 4, 2) := by decide +kernel
theorem dX1_climbs_81 : decode cX1_climbs 81 = .ok (.iload_n 1, 1) := by decide +kernel
theorem dX1_climbs_82 : decode cX1_climbs 82 = .ok (.invokevirtual 116, 3) := by decide +kernel
theorem dX1_climbs_85 : decode cX1_climbs 85 = .ok (.istore 5, 2) := by decide +kernel
theorem dX1_climbs_87 : decode cX1_climbs 87 = .ok (.iload_n 2, 1) := by decide +kernel
theorem dX1_climbs_88 : decode cX1_climbs 88 = .ok (.iload 5, 2) := by decide +kernel
theorem dX1_climbs_90 : decode cX1_climbs 90 = .ok (.aload_n 0, 1) := by decide +kernel
theorem dX1_climbs_91 : decode cX1_climbs 91 = .ok (.getfield 21, 3) := by decide +kernel
theorem dX1_climbs_94 : decode cX1_climbs 94 = .ok (.iload 4, 2) := by decide +kernel
theorem dX1_climbs_96 : decode cX1_climbs 96 = .ok (.iaload, 1) := by decide +kernel
theorem dX1_climbs_97 : decode cX1_climbs 97 = .ok (.if_icmp .eq 7, 3) := by decide +kernel
theorem dX1_climbs_100 : decode cX1_climbs 100 = .ok (.iconst 1, 1) := by decide +kernel
theorem dX1_climbs_101 : decode cX1_climbs 101 = .ok (.goto 4, 3) := by decide +kernel
theorem dX1_climbs_104 : decode cX1_climbs 104 = .ok (.iconst 0, 1) := by decide +kernel
theorem dX1_climbs_105 : decode cX1_climbs 105 = .ok (.ior, 1) := by decide +kernel
theorem dX1_climbs_106 : decode cX1_climbs 106 = .ok (.istore_n 2, 1) := by decide +kernel
theorem dX1_climbs_107 : decode cX1_climbs 107 = .ok (.aload_n 0, 1) := by decide +kernel
theorem dX1_climbs_108 : decode cX1_climbs 108 = .ok (.getfield 21, 3) := by decide +kernel
theorem dX1_climbs_111 : decode cX1_climbs 111 = .ok (.iload 4, 2) := by decide +kernel
theorem dX1_climbs_113 : decode cX1_climbs 113 = .ok (.iload 5, 2) := by decide +kernel
theorem dX1_climbs_115 : decode cX1_climbs 115 = .ok (.iastore, 1) := by decide +kernel
theorem dX1_climbs_116 : decode cX1_climbs 116 = .ok (.iinc 4 1, 3) := by decide +kernel
theorem dX1_climbs_119 : decode cX1_climbs 119 = .ok (.goto (-61), 3) := by decide +kernel
theorem dX1_climbs_122 : decode cX1_climbs 122 = .ok (.iinc 3 1, 3) := by decide +kernel
theorem dX1_climbs_125 : decode cX1_climbs 125 = .ok (.goto (-82), 3) := by decide +kernel
theorem dX1_climbs_128 : decode cX1_climbs 128 = .ok (.iload_n 2, 1) := by decide +kernel
theorem dX1_climbs_129 : decode cX1_climbs 129 = .ok (.ifCond .ne 7, 3) := by decide +kernel
theorem dX1_climbs_132 : decode cX1_climbs 132 = .ok (.iconst 1, 1) := by decide +kernel
theorem dX1_climbs_133 : decode cX1_climbs 133 = .ok (.goto 4, 3) := by decide +kernel
theorem dX1_climbs_136 : decode cX1_climbs 136 = .ok (.iconst 0, 1) := by decide +kernel
theorem dX1_climbs_137 : decode cX1_climbs 137 = .ok (.ireturn, 1) := by decide +kernel
theorem dX1_goesToNextWeek_0 : decode cX1_goesToNextWeek 0 = .ok (.iconst 0, 1) := by decide +kernel
theorem dX1_goesToNextWeek_1 : decode cX1_goesToNextWeek 1 = .ok (.istore_n 1, 1) := by decide +kernel
theorem dX1_goesToNextWeek_2 : decode cX1_goesToNextWeek 2 = .ok (.iload_n 1, 1) := by decide +kernel
theorem dX1_goesToNextWeek_3 : decode cX1_goesToNextWeek 3 = .ok (.bipush 8, 2) := by decide +kernel
theorem dX1_goesToNextWeek_5 : decode cX1_goesToNextWeek 5 = .ok (.if_icmp .ge 39, 3) := by decide +kernel
theorem dX1_goesToNextWeek_8 : decode cX1_goesToNextWeek 8 = .ok (.aload_n 0, 1) := by decide +kernel
theorem dX1_goesToNextWeek_9 : decode cX1_goesToNextWeek 9 = .ok (.getfield 36, 3) := by decide +kernel
theorem dX1_goesToNextWeek_12 : decode cX1_goesToNextWeek 12 = .ok (.iload_n 1, 1) := by decide +kernel
theorem dX1_goesToNextWeek_13 : decode cX1_goesToNextWeek 13 = .ok (.aload_n 0, 1) := by decide +kernel
theorem dX1_goesToNextWeek_14 : decode cX1_goesToNextWeek 14 = .ok (.getfield 18, 3) := by decide +kernel
theorem dX1_goesToNextWeek_17 : decode cX1_goesToNextWeek 17 = .ok (.iload_n 1, 1) := by decide +kernel
theorem dX1_goesToNextWeek_18 : decode cX1_goesToNextWeek 18 = .ok (.iaload, 1) := by decide +kernel
theorem dX1_goesToNextWeek_19 : decode cX1_goesToNextWeek 19 = .ok (.ifCond .ne 12, 3) := by decide +kernel
theorem dX1_goesToNextWeek_22 : decode cX1_goesToNextWeek 22 = .ok (.aload_n 0, 1) := by decide +kernel
theorem dX1_goesToNextWeek_23 : decode cX1_goesToNextWeek 23 = .ok (.iload_n 1, 1) := by decide +kernel
theorem dX1_goesToNextWeek_24 : decode cX1_goesToNextWeek 24 = .ok (.iconst 0, 1) := by decide +kernel
theorem dX1_goesToNextWeek_25 : decode cX1_goesToNextWeek 25 = .ok (.invokevirtual 116, 3) := by decide +kernel
theorem dX1_goesToNextWeek_28 : decode cX1_goesToNextWeek 28 = .ok (.goto 9, 3) := by decide +kernel
theorem dX1_goesToNextWeek_31 : decode cX1_goesToNextWeek 31 = .ok (.aload_n 0, 1) := by decide +kernel
theorem dX1_goesToNextWeek_32 : decode cX1_goesToNextWeek 32 = .ok (.getfield 21, 3) := by decide +kernel
theorem dX1_goesToNextWeek_35 : decode cX1_goesToNextWeek 35 = .ok (.iload_n 1, 1) := by decide +kernel
theorem dX1_goesToNextWeek_36 : decode cX1_goesToNextWeek 36 = .ok (.iaload, 1) := by decide +kernel
theorem dX1_goesToNextWeek_37 : decode cX1_goesToNextWeek 37 = .ok (.iastore, 1) := by decide +kernel
theorem dX1_goesToNextWeek_38 : decode cX1_goesToNextWeek 38 = .ok (.iinc 1 1, 3) := by decide +kernel
theorem dX1_goesToNextWeek_41 : decode cX1_goesToNextWeek 41 = .ok (.goto (-39), 3) := by decide +kernel
theorem dX1_goesToNextWeek_44 : decode cX1_goesToNextWeek 44 = .ok (.aload_n 0, 1) := by decide +kernel
theorem dX1_goesToNextWeek_45 : decode cX1_goesToNextWeek 45 = .ok (.getfield 36, 3) := by decide +kernel
theorem dX1_goesToNextWeek_48 : decode cX1_goesToNextWeek 48 = .ok (.iconst 0, 1) := by decide +kernel
theorem dX1_goesToNextWeek_49 : decode cX1_goesToNextWeek 49 = .ok (.aload_n 0, 1) := by decide +kernel
theorem dX1_goesToNextWeek_50 : decode cX1_goesToNextWeek 50 = .ok (.getfield 21, 3) := by decide +kernel
theorem dX1_goesToNextWeek_53 : decode cX1_goesToNextWeek 53 = .ok (.iconst 0, 1) := by decide +kernel
theorem dX1_goesToNextWeek_54 : decode cX1_goesToNextWeek 54 = .ok (.bipush 8, 2) := by decide +kernel
theorem dX1_goesToNextWeek_56 : decode cX1_goesToNextWeek 56 = .ok (.invokestatic 47, 3) := by decide +kernel
theorem dX1_goesToNextWeek_59 : decode cX1_goesToNextWeek 59 = .ok (.return_, 1) := by decide +kernel
theorem dX1_aimsAsOne_0 : decode cX1_aimsAsOne 0 = .ok (.lconst 0, 1) := by decide +kernel
theorem dX1_aimsAsOne_1 : decode cX1_aimsAsOne 1 = .ok (.lstore_n 1, 1) := by decide +kernel
theorem dX1_aimsAsOne_2 : decode cX1_aimsAsOne 2 = .ok (.iconst 0, 1) := by decide +kernel
theorem dX1_aimsAsOne_3 : decode cX1_aimsAsOne 3 = .ok (.istore_n 3, 1) := by decide +kernel
theorem dX1_aimsAsOne_4 : decode cX1_aimsAsOne 4 = .ok (.iload_n 3, 1) := by decide +kernel
theorem dX1_aimsAsOne_5 : decode cX1_aimsAsOne 5 = .ok (.bipush 8, 2) := by decide +kernel
theorem dX1_aimsAsOne_7 : decode cX1_aimsAsOne 7 = .ok (.if_icmp .ge 22, 3) := by decide +kernel
theorem dX1_aimsAsOne_10 : decode cX1_aimsAsOne 10 = .ok (.lload_n 1, 1) := by decide +kernel
theorem dX1_aimsAsOne_11 : decode cX1_aimsAsOne 11 = .ok (.bipush 6, 2) := by decide +kernel
theorem dX1_aimsAsOne_13 : decode cX1_aimsAsOne 13 = .ok (.lshl, 1) := by decide +kernel
theorem dX1_aimsAsOne_14 : decode cX1_aimsAsOne 14 = .ok (.aload_n 0, 1) := by decide +kernel
theorem dX1_aimsAsOne_15 : decode cX1_aimsAsOne 15 = .ok (.getfield 21, 3) := by decide +kernel
theorem dX1_aimsAsOne_18 : decode cX1_aimsAsOne 18 = .ok (.iload_n 3, 1) := by decide +kernel
theorem dX1_aimsAsOne_19 : decode cX1_aimsAsOne 19 = .ok (.iaload, 1) := by decide +kernel
theorem dX1_aimsAsOne_20 : decode cX1_aimsAsOne 20 = .ok (.i2l, 1) := by decide +kernel
theorem dX1_aimsAsOne_21 : decode cX1_aimsAsOne 21 = .ok (.lor, 1) := by decide +kernel
theorem dX1_aimsAsOne_22 : decode cX1_aimsAsOne 22 = .ok (.lstore_n 1, 1) := by decide +kernel
theorem dX1_aimsAsOne_23 : decode cX1_aimsAsOne 23 = .ok (.iinc 3 1, 3) := by decide +kernel
theorem dX1_aimsAsOne_26 : decode cX1_aimsAsOne 26 = .ok (.goto (-22), 3) := by decide +kernel
theorem dX1_aimsAsOne_29 : decode cX1_aimsAsOne 29 = .ok (.lload_n 1, 1) := by decide +kernel
theorem dX1_aimsAsOne_30 : decode cX1_aimsAsOne 30 = .ok (.lreturn, 1) := by decide +kernel
theorem dX2_init_0 : decode cX2_init 0 = .ok (.aload_n 0, 1) := by decide +kernel
theorem dX2_init_1 : decode cX2_init 1 = .ok (.invokespecial 3, 3) := by decide +kernel
theorem dX2_init_4 : decode cX2_init 4 = .ok (.aload_n 0, 1) := by decide +kernel
theorem dX2_init_5 : decode cX2_init 5 = .ok (.bipush 13, 2) := by decide +kernel
theorem dX2_init_7 : decode cX2_init 7 = .ok (.newarray .int, 2) := by decide +kernel
theorem dX2_init_9 : decode cX2_init 9 = .ok (.putfield 9, 3) := by decide +kernel
theorem dX2_init_12 : decode cX2_init 12 = .ok (.aload_n 0, 1) := by decide +kernel
theorem dX2_init_13 : decode cX2_init 13 = .ok (.bipush 8, 2) := by decide +kernel
theorem dX2_init_15 : decode cX2_init 15 = .ok (.newarray .int, 2) := by decide +kernel
theorem dX2_init_17 : decode cX2_init 17 = .ok (.putfield 15, 3) := by decide +kernel
theorem dX2_init_20 : decode cX2_init 20 = .ok (.aload_n 0, 1) := by decide +kernel
theorem dX2_init_21 : decode cX2_init 21 = .ok (.aload_n 1, 1) := by decide +kernel
theorem dX2_init_22 : decode cX2_init 22 = .ok (.putfield 18, 3) := by decide +kernel
theorem dX2_init_25 : decode cX2_init 25 = .ok (.return_, 1) := by decide +kernel
theorem dX2_lay_0 : decode cX2_lay 0 = .ok (.aload_n 0, 1) := by decide +kernel
theorem dX2_lay_1 : decode cX2_lay 1 = .ok (.iconst 0, 1) := by decide +kernel
theorem dX2_lay_2 : decode cX2_lay 2 = .ok (.putfield 22, 3) := by decide +kernel
theorem dX2_lay_5 : decode cX2_lay 5 = .ok (.iconst 0, 1) := by decide +kernel
theorem dX2_lay_6 : decode cX2_lay 6 = .ok (.istore_n 2, 1) := by decide +kernel
theorem dX2_lay_7 : decode cX2_lay 7 = .ok (.iload_n 2, 1) := by decide +kernel
theorem dX2_lay_8 : decode cX2_lay 8 = .ok (.bipush 60, 2) := by decide +kernel
theorem dX2_lay_10 : decode cX2_lay 10 = .ok (.if_icmp .ge 39, 3) := by decide +kernel
theorem dX2_lay_13 : decode cX2_lay 13 = .ok (.aload_n 0, 1) := by decide +kernel
theorem dX2_lay_14 : decode cX2_lay 14 = .ok (.getfield 22, 3) := by decide +kernel
theorem dX2_lay_17 : decode cX2_lay 17 = .ok (.bipush 12, 2) := by decide +kernel
theorem dX2_lay_19 : decode cX2_lay 19 = .ok (.if_icmp .ge 30, 3) := by decide +kernel
theorem dX2_lay_22 : decode cX2_lay 22 = .ok (.aload_n 0, 1) := by decide +kernel
theorem dX2_lay_23 : decode cX2_lay 23 = .ok (.getfield 9, 3) := by decide +kernel
theorem dX2_lay_26 : decode cX2_lay 26 = .ok (.aload_n 0, 1) := by decide +kernel
theorem dX2_lay_27 : decode cX2_lay 27 = .ok (.getfield 22, 3) := by decide +kernel
theorem dX2_lay_30 : decode cX2_lay 30 = .ok (.iload_n 2, 1) := by decide +kernel
theorem dX2_lay_31 : decode cX2_lay 31 = .ok (.iastore, 1) := by decide +kernel
theorem dX2_lay_32 : decode cX2_lay 32 = .ok (.aload_n 0, 1) := by decide +kernel
theorem dX2_lay_33 : decode cX2_lay 33 = .ok (.dup, 1) := by decide +kernel
theorem dX2_lay_34 : decode cX2_lay 34 = .ok (.getfield 22, 3) := by decide +kernel
theorem dX2_lay_37 : decode cX2_lay 37 = .ok (.iconst 1, 1) := by decide +kernel
theorem dX2_lay_38 : decode cX2_lay 38 = .ok (.iadd, 1) := by decide +kernel
theorem dX2_lay_39 : decode cX2_lay 39 = .ok (.putfield 22, 3) := by decide +kernel
theorem dX2_lay_42 : decode cX2_lay 42 = .ok (.iload_n 2, 1) := by decide +kernel
theorem dX2_lay_43 : decode cX2_lay 43 = .ok (.iload_n 1, 1) := by decide +kernel
theorem dX2_lay_44 : decode cX2_lay 44 = .ok (.iadd, 1) := by decide +kernel
theorem dX2_lay_45 : decode cX2_lay 45 = .ok (.istore_n 2, 1) := by decide +kernel
theorem dX2_lay_46 : decode cX2_lay 46 = .ok (.goto (-39), 3) := by decide +kernel
theorem dX2_lay_49 : decode cX2_lay 49 = .ok (.aload_n 0, 1) := by decide +kernel
theorem dX2_lay_50 : decode cX2_lay 50 = .ok (.getfield 9, 3) := by decide +kernel
theorem dX2_lay_53 : decode cX2_lay 53 = .ok (.aload_n 0, 1) := by decide +kernel
theorem dX2_lay_54 : decode cX2_lay 54 = .ok (.getfield 22, 3) := by decide +kernel
theorem dX2_lay_57 : decode cX2_lay 57 = .ok (.bipush 60, 2) := by decide +kernel
theorem dX2_lay_59 : decode cX2_lay 59 = .ok (.iastore, 1) := by decide +kernel
theorem dX2_lay_60 : decode cX2_lay 60 = .ok (.aload_n 0, 1) := by decide +kernel
theorem dX2_lay_61 : decode cX2_lay 61 = .ok (.dup, 1) := by decide +kernel
theorem dX2_lay_62 : decode cX2_lay 62 = .ok (.getfield 22, 3) := by decide +kernel
theorem dX2_lay_65 : decode cX2_lay 65 = .ok (.iconst 1, 1) := by decide +kernel
theorem dX2_lay_66 : decode cX2_lay 66 = .ok (.iadd, 1) := by decide +kernel
theorem dX2_lay_67 : decode cX2_lay 67 = .ok (.putfield 22, 3) := by decide +kernel
theorem dX2_lay_70 : decode cX2_lay 70 = .ok (.return_, 1) := by decide +kernel
theorem dX2_toFirstWay_0 : decode cX2_toFirstWay 0 = .ok (.iconst 0, 1) := by decide +kernel
theorem dX2_toFirstWay_1 : decode cX2_toFirstWay 1 = .ok (.istore_n 1, 1) := by decide +kernel
theorem dX2_toFirstWay_2 : decode cX2_toFirstWay 2 = .ok (.iload_n 1, 1) := by decide +kernel
theorem dX2_toFirstWay_3 : decode cX2_toFirstWay 3 = .ok (.bipush 8, 2) := by decide +kernel
theorem dX2_toFirstWay_5 : decode cX2_toFirstWay 5 = .ok (.if_icmp .ge 43, 3) := by decide +kernel
theorem dX2_toFirstWay_8 : decode cX2_toFirstWay 8 = .ok (.aload_n 0, 1) := by decide +kernel
theorem dX2_toFirstWay_9 : decode cX2_toFirstWay 9 = .ok (.getfield 15, 3) := by decide +kernel
theorem dX2_toFirstWay_12 : decode cX2_toFirstWay 12 = .ok (.iload_n 1, 1) := by decide +kernel
theorem dX2_toFirstWay_13 : decode cX2_toFirstWay 13 = .ok (.iconst 0, 1) := by decide +kernel
theorem dX2_toFirstWay_14 : decode cX2_toFirstWay 14 = .ok (.iastore, 1) := by decide +kernel
theorem dX2_toFirstWay_15 : decode cX2_toFirstWay 15 = .ok (.aload_n 0, 1) := by decide +kernel
theorem dX2_toFirstWay_16 : decode cX2_toFirstWay 16 = .ok (.getfield 18, 3) := by decide +kernel
theorem dX2_toFirstWay_19 : decode cX2_toFirstWay 19 = .ok (.getfield 26, 3) := by decide +kernel
theorem dX2_toFirstWay_22 : decode cX2_toFirstWay 22 = .ok (.iload_n 1, 1) := by decide +kernel
theorem dX2_toFirstWay_23 : decode cX2_toFirstWay 23 = .ok (.iaload, 1) := by decide +kernel
theorem dX2_toFirstWay_24 : decode cX2_toFirstWay 24 = .ok (.ifCond .ne 18, 3) := by decide +kernel
theorem dX2_toFirstWay_27 : decode cX2_toFirstWay 27 = .ok (.aload_n 0, 1) := by decide +kernel
theorem dX2_toFirstWay_28 : decode cX2_toFirstWay 28 = .ok (.getfield 18, 3) := by decide +kernel
theorem dX2_toFirstWay_31 : decode cX2_toFirstWay 31 = .ok (.getfield 31, 3) := by decide +kernel
theorem dX2_toFirstWay_34 : decode cX2_toFirstWay 34 = .ok (.iload_n 1, 1) := by decide +kernel
theorem dX2_toFirstWay_35 : decode cX2_toFirstWay 35 = .ok (.aload_n 0, 1) := by decide +kernel
theorem dX2_toFirstWay_36 : decode cX2_toFirstWay 36 = .ok (.getfield 9, 3) := by decide +kernel
theorem dX2_toFirstWay_39 : decode cX2_toFirstWay 39 = .ok (.iconst 0, 1) := by decide +kernel
theorem dX2_toFirstWay_40 : decode cX2_toFirstWay 40 = .ok (.iaload, 1) := by decide +kernel
theorem dX2_toFirstWay_41 : decode cX2_toFirstWay 41 = .ok (.iastore, 1) := by decide +kernel
theorem dX2_toFirstWay_42 : decode cX2_toFirstWay 42 = .ok (.iinc 1 1, 3) := by decide +kernel
theorem dX2_toFirstWay_45 : decode cX2_toFirstWay 45 = .ok (.goto (-43), 3) := by decide +kernel
theorem dX2_toFirstWay_48 : decode cX2_toFirstWay 48 = .ok (.return_, 1) := by decide +kernel
theorem dX2_toNextWay_0 : decode cX2_toNextWay 0 = .ok (.bipush 7, 2) := by decide +kernel
theorem dX2_toNextWay_2 : decode cX2_toNextWay 2 = .ok (.istore_n 1, 1) := by decide +kernel
theorem dX2_toNextWay_3 : decode cX2_toNextWay 3 = .ok (.iload_n 1, 1) := by decide +kernel
theorem dX2_toNextWay_4 : decode cX2_toNextWay 4 = .ok (.ifCond .lt 98, 3) := by decide +kernel
theorem dX2_toNextWay_7 : decode cX2_toNextWay 7 = .ok (.aload_n 0, 1) := by decide +kernel
theorem dX2_toNextWay_8 : decode cX2_toNextWay 8 = .ok (.getfield 18, 3) := by decide +kernel
theorem dX2_toNextWay_11 : decode cX2_toNextWay 11 = .ok (.getfield 26, 3) := by decide +kernel
theorem dX2_toNextWay_14 : decode cX2_toNextWay 14 = .ok (.iload_n 1, 1) := by decide +kernel
theorem dX2_toNextWay_15 : decode cX2_toNextWay 15 = .ok (.iaload, 1) := by decide +kernel
theorem dX2_toNextWay_16 : decode cX2_toNextWay 16 = .ok (.ifCond .eq 6, 3) := by decide +kernel
theorem dX2_toNextWay_19 : decode cX2_toNextWay 19 = .ok (.goto 77, 3) := by decide +kernel
theorem dX2_toNextWay_22 : decode cX2_toNextWay 22 = .ok (.aload_n 0, 1) := by decide +kernel
theorem dX2_toNextWay_23 : decode cX2_toNextWay 23 = .ok (.getfield 15, 3) := by decide +kernel
theorem dX2_toNextWay_26 : decode cX2_toNextWay 26 = .ok (.iload_n 1, 1) := by decide +kernel
theorem dX2_toNextWay_27 : decode cX2_toNextWay 27 = .ok (.iaload, 1) := by decide +kernel
theorem dX2_toNextWay_28 : decode cX2_toNextWay 28 = .ok (.iconst 1, 1) := by decide +kernel
theorem dX2_toNextWay_29 : decode cX2_toNextWay 29 = .ok (.iadd, 1) := by decide +kernel
theorem dX2_toNextWay_30 : decode cX2_toNextWay 30 = .ok (.istore_n 2, 1) := by decide +kernel
theorem dX2_toNextWay_31 : decode cX2_toNextWay 31 = .ok (.iload_n 2, 1) := by decide +kernel
theorem dX2_toNextWay_32 : decode cX2_toNextWay 32 = .ok (.ifCond .lt 21, 3) := by decide +kernel
theorem dX2_toNextWay_35 : decode cX2_toNextWay 35 = .ok (.iload_n 2, 1) := by decide +kernel
theorem dX2_toNextWay_36 : decode cX2_toNextWay 36 = .ok (.aload_n 0, 1) := by decide +kernel
theorem dX2_toNextWay_37 : decode cX2_toNextWay 37 = .ok (.getfield 22, 3) := by decide +kernel
theorem dX2_toNextWay_40 : decode cX2_toNextWay 40 = .ok (.if_icmp .ge 13, 3) := by decide +kernel
theorem dX2_toNextWay_43 : decode cX2_toNextWay 43 = .ok (.iload_n 2, 1) := by decide +kernel
theorem dX2_toNextWay_44 : decode cX2_toNextWay 44 = .ok (.bipush 13, 2) := by decide +kernel
theorem dX2_toNextWay_46 : decode cX2_toNextWay 46 = .ok (.if_icmp .ge 7, 3) := by decide +kernel
theorem dX2_toNextWay_49 : decode cX2_toNextWay 49 = .ok (.iconst 1, 1) := by decide +kernel
theorem dX2_toNextWay_50 : decode cX2_toNextWay 50 = .ok (.goto 4, 3) := by decide +kernel
theorem dX2_toNextWay_53 : decode cX2_toNextWay 53 = .ok (.iconst 0, 1) := by decide +kernel
theorem dX2_toNextWay_54 : decode cX2_toNextWay 54 = .ok (.istore_n 3, 1) := by decide +kernel
theorem dX2_toNextWay_55 : decode cX2_toNextWay 55 = .ok (.aload_n 0, 1) := by decide +kernel
theorem dX2_toNextWay_56 : decode cX2_toNextWay 56 = .ok (.getfield 15, 3) := by decide +kernel
theorem dX2_toNextWay_59 : decode cX2_toNextWay 59 = .ok (.iload_n 1, 1) := by decide +kernel
theorem dX2_toNextWay_60 : decode cX2_toNextWay 60 = .ok (.iload_n 3, 1) := by decide +kernel
theorem dX2_toNextWay_61 : decode cX2_toNextWay 61 = .ok (.ifCond .eq 7, 3) := by decide +kernel
theorem dX2_toNextWay_64 : decode cX2_toNextWay 64 = .ok (.iload_n 2, 1) := by decide +kernel
theorem dX2_toNextWay_65 : decode cX2_toNextWay 65 = .ok (.goto 4, 3) := by decide +kernel
theorem dX2_toNextWay_68 : decode cX2_toNextWay 68 = .ok (.iconst 0, 1) := by decide +kernel
theorem dX2_toNextWay_69 : decode cX2_toNextWay 69 = .ok (.iastore, 1) := by decide +kernel
theorem dX2_toNextWay_70 : decode cX2_toNextWay 70 = .ok (.aload_n 0, 1) := by decide +kernel
theorem dX2_toNextWay_71 : decode cX2_toNextWay 71 = .ok (.getfield 18, 3) := by decide +kernel
theorem dX2_toNextWay_74 : decode cX2_toNextWay 74 = .ok (.getfield 31, 3) := by decide +kernel
theorem dX2_toNextWay_77 : decode cX2_toNextWay 77 = .ok (.iload_n 1, 1) := by decide +kernel
theorem dX2_toNextWay_78 : decode cX2_toNextWay 78 = .ok (.aload_n 0, 1) := by decide +kernel
theorem dX2_toNextWay_79 : decode cX2_toNextWay 79 = .ok (.getfield 9, 3) := by decide +kernel
theorem dX2_toNextWay_82 : decode cX2_toNextWay 82 = .ok (.aload_n 0, 1) := by decide +kernel
theorem dX2_toNextWay_83 : decode cX2_toNextWay 83 = .ok (.getfield 15, 3) := by decide +kernel
theorem dX2_toNextWay_86 : decode cX2_toNextWay 86 = .ok (.iload_n 1, 1) := by decide +kernel
theorem dX2_toNextWay_87 : decode cX2_toNextWay 87 = .ok (.iaload, 1) := by decide +kernel
theorem dX2_toNextWay_88 : decode cX2_toNextWay 88 = .ok (.iaload, 1) := by decide +kernel
theorem dX2_toNextWay_89 : decode cX2_toNextWay 89 = .ok (.iastore, 1) := by decide +kernel
theorem dX2_toNextWay_90 : decode cX2_toNextWay 90 = .ok (.iload_n 3, 1) := by decide +kernel
theorem dX2_toNextWay_91 : decode cX2_toNextWay 91 = .ok (.ifCond .eq 5, 3) := by decide +kernel
theorem dX2_toNextWay_94 : decode cX2_toNextWay 94 = .ok (.iconst 1, 1) := by decide +kernel
theorem dX2_toNextWay_95 : decode cX2_toNextWay 95 = .ok (.ireturn, 1) := by decide +kernel
theorem dX2_toNextWay_96 : decode cX2_toNextWay 96 = .ok (.iinc 1 (-1), 3) := by decide +kernel
theorem dX2_toNextWay_99 : decode cX2_toNextWay 99 = .ok (.goto (-96), 3) := by decide +kernel
theorem dX2_toNextWay_102 : decode cX2_toNextWay 102 = .ok (.iconst 0, 1) := by decide +kernel
theorem dX2_toNextWay_103 : decode cX2_toNextWay 103 = .ok (.ireturn, 1) := by decide +kernel
theorem dX2_walk_0 : decode cX2_walk 0 = .ok (.aload_n 0, 1) := by decide +kernel
theorem dX2_walk_1 : decode cX2_walk 1 = .ok (.invokevirtual 34, 3) := by decide +kernel
theorem dX2_walk_4 : decode cX2_walk 4 = .ok (.iconst 0, 1) := by decide +kernel
theorem dX2_walk_5 : decode cX2_walk 5 = .ok (.istore_n 2, 1) := by decide +kernel
theorem dX2_walk_6 : decode cX2_walk 6 = .ok (.iconst 1, 1) := by decide +kernel
theorem dX2_walk_7 : decode cX2_walk 7 = .ok (.istore_n 3, 1) := by decide +kernel
theorem dX2_walk_8 : decode cX2_walk 8 = .ok (.iconst 0, 1) := by decide +kernel
theorem dX2_walk_9 : decode cX2_walk 9 = .ok (.istore 4, 2) := by decide +kernel
theorem dX2_walk_11 : decode cX2_walk 11 = .ok (.iload 4, 2) := by decide +kernel
theorem dX2_walk_13 : decode cX2_walk 13 = .ok (.sipush 2197, 3) := by decide +kernel
theorem dX2_walk_16 : decode cX2_walk 16 = .ok (.if_icmp .ge 51, 3) := by decide +kernel
theorem dX2_walk_19 : decode cX2_walk 19 = .ok (.iload_n 3, 1) := by decide +kernel
theorem dX2_walk_20 : decode cX2_walk 20 = .ok (.ifCond .eq 47, 3) := by decide +kernel
theorem dX2_walk_23 : decode cX2_walk 23 = .ok (.aload_n 0, 1) := by decide +kernel
theorem dX2_walk_24 : decode cX2_walk 24 = .ok (.getfield 18, 3) := by decide +kernel
theorem dX2_walk_27 : decode cX2_walk 27 = .ok (.aload_n 0, 1) := by decide +kernel
theorem dX2_walk_28 : decode cX2_walk 28 = .ok (.getfield 9, 3) := by decide +kernel
theorem dX2_walk_31 : decode cX2_walk 31 = .ok (.aload_n 0, 1) := by decide +kernel
theorem dX2_walk_32 : decode cX2_walk 32 = .ok (.getfield 22, 3) := by decide +kernel
theorem dX2_walk_35 : decode cX2_walk 35 = .ok (.invokevirtual 37, 3) := by decide +kernel
theorem dX2_walk_38 : decode cX2_walk 38 = .ok (.ifCond .eq 18, 3) := by decide +kernel
theorem dX2_walk_41 : decode cX2_walk 41 = .ok (.iinc 2 1, 3) := by decide +kernel
theorem dX2_walk_44 : decode cX2_walk 44 = .ok (.iload_n 1, 1) := by decide +kernel
theorem dX2_walk_45 : decode cX2_walk 45 = .ok (.iconst (-1), 1) := by decide +kernel
theorem dX2_walk_46 : decode cX2_walk 46 = .ok (.if_icmp .eq 10, 3) := by decide +kernel
theorem dX2_walk_49 : decode cX2_walk 49 = .ok (.iload_n 2, 1) := by decide +kernel
theorem dX2_walk_50 : decode cX2_walk 50 = .ok (.iload_n 1, 1) := by decide +kernel
theorem dX2_walk_51 : decode cX2_walk 51 = .ok (.if_icmp .le 5, 3) := by decide +kernel
theorem dX2_walk_54 : decode cX2_walk 54 = .ok (.iload_n 2, 1) := by decide +kernel
theorem dX2_walk_55 : decode cX2_walk 55 = .ok (.ireturn, 1) := by decide +kernel
theorem dX2_walk_56 : decode cX2_walk 56 = .ok (.aload_n 0, 1) := by decide +kernel
theorem dX2_walk_57 : decode cX2_walk 57 = .ok (.invokevirtual 41, 3) := by decide +kernel
theorem dX2_walk_60 : decode cX2_walk 60 = .ok (.istore_n 3, 1) := by decide +kernel
theorem dX2_walk_61 : decode cX2_walk 61 = .ok (.iinc 4 1, 3) := by decide +kernel
theorem dX2_walk_64 : decode cX2_walk 64 = .ok (.goto (-53), 3) := by decide +kernel
theorem dX2_walk_67 : decode cX2_walk 67 = .ok (.iload_n 2, 1) := by decide +kernel
theorem dX2_walk_68 : decode cX2_walk 68 = .ok (.ireturn, 1) := by decide +kernel
theorem dX2_good_0 : decode cX2_good 0 = .ok (.aload_n 0, 1) := by decide +kernel
theorem dX2_good_1 : decode cX2_good 1 = .ok (.invokevirtual 34, 3) := by decide +kernel
theorem dX2_good_4 : decode cX2_good 4 = .ok (.ldc 47, 2) := by decide +kernel
theorem dX2_good_6 : decode cX2_good 6 = .ok (.istore_n 1, 1) := by decide +kernel
theorem dX2_good_7 : decode cX2_good 7 = .ok (.iconst 1, 1) := by decide +kernel
theorem dX2_good_8 : decode cX2_good 8 = .ok (.istore_n 2, 1) := by decide +kernel
theorem dX2_good_9 : decode cX2_good 9 = .ok (.iconst 0, 1) := by decide +kernel
theorem dX2_good_10 : decode cX2_good 10 = .ok (.istore_n 3, 1) := by decide +kernel
theorem dX2_good_11 : decode cX2_good 11 = .ok (.iload_n 3, 1) := by decide +kernel
theorem dX2_good_12 : decode cX2_good 12 = .ok (.sipush 2197, 3) := by decide +kernel
theorem dX2_good_15 : decode cX2_good 15 = .ok (.if_icmp .ge 30, 3) := by decide +kernel
theorem dX2_good_18 : decode cX2_good 18 = .ok (.iload_n 2, 1) := by decide +kernel
theorem dX2_good_19 : decode cX2_good 19 = .ok (.ifCond .eq 26, 3) := by decide +kernel
theorem dX2_good_22 : decode cX2_good 22 = .ok (.iload_n 1, 1) := by decide +kernel
theorem dX2_good_23 : decode cX2_good 23 = .ok (.aload_n 0, 1) := by decide +kernel
theorem dX2_good_24 : decode cX2_good 24 = .ok (.getfield 18, 3) := by decide +kernel
theorem dX2_good_27 : decode cX2_good 27 = .ok (.invokevirtual 48, 3) := by decide +kernel
theorem dX2_good_30 : decode cX2_good 30 = .ok (.invokestatic 52, 3) := by decide +kernel
theorem dX2_good_33 : decode cX2_good 33 = .ok (.istore_n 1, 1) := by decide +kernel
theorem dX2_good_34 : decode cX2_good 34 = .ok (.aload_n 0, 1) := by decide +kernel
theorem dX2_good_35 : decode cX2_good 35 = .ok (.invokevirtual 41, 3) := by decide +kernel
theorem dX2_good_38 : decode cX2_good 38 = .ok (.istore_n 2, 1) := by decide +kernel
theorem dX2_good_39 : decode cX2_good 39 = .ok (.iinc 3 1, 3) := by decide +kernel
theorem dX2_good_42 : decode cX2_good 42 = .ok (.goto (-31), 3) := by decide +kernel
theorem dX2_good_45 : decode cX2_good 45 = .ok (.iload_n 1, 1) := by decide +kernel
theorem dX2_good_46 : decode cX2_good 46 = .ok (.ireturn, 1) := by decide +kernel
theorem dX3_init_0 : decode cX3_init 0 = .ok (.aload_n 0, 1) := by decide +kernel
theorem dX3_init_1 : decode cX3_init 1 = .ok (.invokespecial 3, 3) := by decide +kernel
theorem dX3_init_4 : decode cX3_init 4 = .ok (.aload_n 0, 1) := by decide +kernel
theorem dX3_init_5 : decode cX3_init 5 = .ok (.aload_n 1, 1) := by decide +kernel
theorem dX3_init_6 : decode cX3_init 6 = .ok (.putfield 9, 3) := by decide +kernel
theorem dX3_init_9 : decode cX3_init 9 = .ok (.aload_n 0, 1) := by decide +kernel
theorem dX3_init_10 : decode cX3_init 10 = .ok (.aload_n 2, 1) := by decide +kernel
theorem dX3_init_11 : decode cX3_init 11 = .ok (.putfield 15, 3) := by decide +kernel
theorem dX3_init_14 : decode cX3_init 14 = .ok (.return_, 1) := by decide +kernel
theorem dX3_weight_0 : decode cX3_weight 0 = .ok (.lconst 1, 1) := by decide +kernel
theorem dX3_weight_1 : decode cX3_weight 1 = .ok (.lstore_n 2, 1) := by decide +kernel
theorem dX3_weight_2 : decode cX3_weight 2 = .ok (.iconst 0, 1) := by decide +kernel
theorem dX3_weight_3 : decode cX3_weight 3 = .ok (.istore 4, 2) := by decide +kernel
theorem dX3_weight_5 : decode cX3_weight 5 = .ok (.iload 4, 2) := by decide +kernel
theorem dX3_weight_7 : decode cX3_weight 7 = .ok (.bipush 8, 2) := by decide +kernel
theorem dX3_weight_9 : decode cX3_weight 9 = .ok (.if_icmp .ge 53, 3) := by decide +kernel
theorem dX3_weight_12 : decode cX3_weight 12 = .ok (.lload_n 2, 1) := by decide +kernel
theorem dX3_weight_13 : decode cX3_weight 13 = .ok (.lconst 0, 1) := by decide +kernel
theorem dX3_weight_14 : decode cX3_weight 14 = .ok (.lcmp, 1) := by decide +kernel
theorem dX3_weight_15 : decode cX3_weight 15 = .ok (.ifCond .le 47, 3) := by decide +kernel
theorem dX3_weight_18 : decode cX3_weight 18 = .ok (.aload_n 0, 1) := by decide +kernel
theorem dX3_weight_19 : decode cX3_weight 19 = .ok (.getfield 9, 3) := by decide +kernel
theorem dX3_weight_22 : decode cX3_weight 22 = .ok (.getfield 19, 3) := by decide +kernel
theorem dX3_weight_25 : decode cX3_weight 25 = .ok (.iconst 3, 1) := by decide +kernel
theorem dX3_weight_26 : decode cX3_weight 26 = .ok (.aaload, 1) := by decide +kernel
theorem dX3_weight_27 : decode cX3_weight 27 = .ok (.iload 4, 2) := by decide +kernel
theorem dX3_weight_29 : decode cX3_weight 29 = .ok (.iaload, 1) := by decide +kernel
theorem dX3_weight_30 : decode cX3_weight 30 = .ok (.istore 5, 2) := by decide +kernel
theorem dX3_weight_32 : decode cX3_weight 32 = .ok (.lload_n 2, 1) := by decide +kernel
theorem dX3_weight_33 : decode cX3_weight 33 = .ok (.iload_n 1, 1) := by decide +kernel
theorem dX3_weight_34 : decode cX3_weight 34 = .ok (.iload 4, 2) := by decide +kernel
theorem dX3_weight_36 : decode cX3_weight 36 = .ok (.ishr, 1) := by decide +kernel
theorem dX3_weight_37 : decode cX3_weight 37 = .ok (.iconst 1, 1) := by decide +kernel
theorem dX3_weight_38 : decode cX3_weight 38 = .ok (.iand, 1) := by decide +kernel
theorem dX3_weight_39 : decode cX3_weight 39 = .ok (.ifCond .eq 9, 3) := by decide +kernel
theorem dX3_weight_42 : decode cX3_weight 42 = .ok (.iload 5, 2) := by decide +kernel
theorem dX3_weight_44 : decode cX3_weight 44 = .ok (.i2l, 1) := by decide +kernel
theorem dX3_weight_45 : decode cX3_weight 45 = .ok (.goto 9, 3) := by decide +kernel
theorem dX3_weight_48 : decode cX3_weight 48 = .ok (.bipush 16, 2) := by decide +kernel
theorem dX3_weight_50 : decode cX3_weight 50 = .ok (.iload 5, 2) := by decide +kernel
theorem dX3_weight_52 : decode cX3_weight 52 = .ok (.isub, 1) := by decide +kernel
theorem dX3_weight_53 : decode cX3_weight 53 = .ok (.i2l, 1) := by decide +kernel
theorem dX3_weight_54 : decode cX3_weight 54 = .ok (.lmul, 1) := by decide +kernel
theorem dX3_weight_55 : decode cX3_weight 55 = .ok (.lstore_n 2, 1) := by decide +kernel
theorem dX3_weight_56 : decode cX3_weight 56 = .ok (.iinc 4 1, 3) := by decide +kernel
theorem dX3_weight_59 : decode cX3_weight 59 = .ok (.goto (-54), 3) := by decide +kernel
theorem dX3_weight_62 : decode cX3_weight 62 = .ok (.lload_n 2, 1) := by decide +kernel
theorem dX3_weight_63 : decode cX3_weight 63 = .ok (.lreturn, 1) := by decide +kernel
theorem dX3_begunBy_0 : decode cX3_begunBy 0 = .ok (.lconst 0, 1) := by decide +kernel
theorem dX3_begunBy_1 : decode cX3_begunBy 1 = .ok (.lstore_n 2, 1) := by decide +kernel
theorem dX3_begunBy_2 : decode cX3_begunBy 2 = .ok (.iconst 0, 1) := by decide +kernel
theorem dX3_begunBy_3 : decode cX3_begunBy 3 = .ok (.istore 4, 2) := by decide +kernel
theorem dX3_begunBy_5 : decode cX3_begunBy 5 = .ok (.iload 4, 2) := by decide +kernel
theorem dX3_begunBy_7 : decode cX3_begunBy 7 = .ok (.sipush 256, 3) := by decide +kernel
theorem dX3_begunBy_10 : decode cX3_begunBy 10 = .ok (.if_icmp .ge 49, 3) := by decide +kernel
theorem dX3_begunBy_13 : decode cX3_begunBy 13 = .ok (.aload_n 0, 1) := by decide +kernel
theorem dX3_begunBy_14 : decode cX3_begunBy 14 = .ok (.iload 4, 2) := by decide +kernel
theorem dX3_begunBy_16 : decode cX3_begunBy 16 = .ok (.invokevirtual 25, 3) := by decide +kernel
theorem dX3_begunBy_19 : decode cX3_begunBy 19 = .ok (.lstore 5, 2) := by decide +kernel
theorem dX3_begunBy_21 : decode cX3_begunBy 21 = .ok (.aload_n 0, 1) := by decide +kernel
theorem dX3_begunBy_22 : decode cX3_begunBy 22 = .ok (.getfield 15, 3) := by decide +kernel
theorem dX3_begunBy_25 : decode cX3_begunBy 25 = .ok (.iload 4, 2) := by decide +kernel
theorem dX3_begunBy_27 : decode cX3_begunBy 27 = .ok (.putfield 29, 3) := by decide +kernel
theorem dX3_begunBy_30 : decode cX3_begunBy 30 = .ok (.lload 5, 2) := by decide +kernel
theorem dX3_begunBy_32 : decode cX3_begunBy 32 = .ok (.lconst 0, 1) := by decide +kernel
theorem dX3_begunBy_33 : decode cX3_begunBy 33 = .ok (.lcmp, 1) := by decide +kernel
theorem dX3_begunBy_34 : decode cX3_begunBy 34 = .ok (.ifCond .le 19, 3) := by decide +kernel
theorem dX3_begunBy_37 : decode cX3_begunBy 37 = .ok (.aload_n 0, 1) := by decide +kernel
theorem dX3_begunBy_38 : decode cX3_begunBy 38 = .ok (.getfield 15, 3) := by decide +kernel
theorem dX3_begunBy_41 : decode cX3_begunBy 41 = .ok (.invokevirtual 35, 3) := by decide +kernel
theorem dX3_begunBy_44 : decode cX3_begunBy 44 = .ok (.iload_n 1, 1) := by decide +kernel
theorem dX3_begunBy_45 : decode cX3_begunBy 45 = .ok (.if_icmp .gt 8, 3) := by decide +kernel
theorem dX3_begunBy_48 : decode cX3_begunBy 48 = .ok (.lload_n 2, 1) := by decide +kernel
theorem dX3_begunBy_49 : decode cX3_begunBy 49 = .ok (.lload 5, 2) := by decide +kernel
theorem dX3_begunBy_51 : decode cX3_begunBy 51 = .ok (.ladd, 1) := by decide +kernel
theorem dX3_begunBy_52 : decode cX3_begunBy 52 = .ok (.lstore_n 2, 1) := by decide +kernel
theorem dX3_begunBy_53 : decode cX3_begunBy 53 = .ok (.iinc 4 1, 3) := by decide +kernel
theorem dX3_begunBy_56 : decode cX3_begunBy 56 = .ok (.goto (-51), 3) := by decide +kernel
theorem dX3_begunBy_59 : decode cX3_begunBy 59 = .ok (.lload_n 2, 1) := by decide +kernel
theorem dX3_begunBy_60 : decode cX3_begunBy 60 = .ok (.lreturn, 1) := by decide +kernel
theorem dX3_priceOf_0 : decode cX3_priceOf 0 = .ok (.lconst 0, 1) := by decide +kernel
theorem dX3_priceOf_1 : decode cX3_priceOf 1 = .ok (.lstore_n 2, 1) := by decide +kernel
theorem dX3_priceOf_2 : decode cX3_priceOf 2 = .ok (.iconst 0, 1) := by decide +kernel
theorem dX3_priceOf_3 : decode cX3_priceOf 3 = .ok (.istore 4, 2) := by decide +kernel
theorem dX3_priceOf_5 : decode cX3_priceOf 5 = .ok (.iload 4, 2) := by decide +kernel
theorem dX3_priceOf_7 : decode cX3_priceOf 7 = .ok (.sipush 256, 3) := by decide +kernel
theorem dX3_priceOf_10 : decode cX3_priceOf 10 = .ok (.if_icmp .ge 68, 3) := by decide +kernel
theorem dX3_priceOf_13 : decode cX3_priceOf 13 = .ok (.aload_n 0, 1) := by decide +kernel
theorem dX3_priceOf_14 : decode cX3_priceOf 14 = .ok (.iload 4, 2) := by decide +kernel
theorem dX3_priceOf_16 : decode cX3_priceOf 16 = .ok (.invokevirtual 25, 3) := by decide +kernel
theorem dX3_priceOf_19 : decode cX3_priceOf 19 = .ok (.lstore 5, 2) := by decide +kernel
theorem dX3_priceOf_21 : decode cX3_priceOf 21 = .ok (.lload 5, 2) := by decide +kernel
theorem dX3_priceOf_23 : decode cX3_priceOf 23 = .ok (.lconst 0, 1) := by decide +kernel
theorem dX3_priceOf_24 : decode cX3_priceOf 24 = .ok (.lcmp, 1) := by decide +kernel
theorem dX3_priceOf_25 : decode cX3_priceOf 25 = .ok (.ifCond .le 47, 3) := by decide +kernel
theorem dX3_priceOf_28 : decode cX3_priceOf 28 = .ok (.aload_n 0, 1) := by decide +kernel
theorem dX3_priceOf_29 : decode cX3_priceOf 29 = .ok (.getfield 15, 3) := by decide +kernel
theorem dX3_priceOf_32 : decode cX3_priceOf 32 = .ok (.iload 4, 2) := by decide +kernel
theorem dX3_priceOf_34 : decode cX3_priceOf 34 = .ok (.putfield 29, 3) := by decide +kernel
theorem dX3_priceOf_37 : decode cX3_priceOf 37 = .ok (.aload_n 0, 1) := by decide +kernel
theorem dX3_priceOf_38 : decode cX3_priceOf 38 = .ok (.getfield 15, 3) := by decide +kernel
theorem dX3_priceOf_41 : decode cX3_priceOf 41 = .ok (.invokevirtual 35, 3) := by decide +kernel
theorem dX3_priceOf_44 : decode cX3_priceOf 44 = .ok (.istore 7, 2) := by decide +kernel
theorem dX3_priceOf_46 : decode cX3_priceOf 46 = .ok (.lload_n 2, 1) := by decide +kernel
theorem dX3_priceOf_47 : decode cX3_priceOf 47 = .ok (.lload 5, 2) := by decide +kernel
theorem dX3_priceOf_49 : decode cX3_priceOf 49 = .ok (.aload_n 0, 1) := by decide +kernel
theorem dX3_priceOf_50 : decode cX3_priceOf 50 = .ok (.getfield 15, 3) := by decide +kernel
theorem dX3_priceOf_53 : decode cX3_priceOf 53 = .ok (.iload_n 1, 1) := by decide +kernel
theorem dX3_priceOf_54 : decode cX3_priceOf 54 = .ok (.aload_n 0, 1) := by decide +kernel
theorem dX3_priceOf_55 : decode cX3_priceOf 55 = .ok (.getfield 15, 3) := by decide +kernel
theorem dX3_priceOf_58 : decode cX3_priceOf 58 = .ok (.getfield 39, 3) := by decide +kernel
theorem dX3_priceOf_61 : decode cX3_priceOf 61 = .ok (.iload_n 1, 1) := by decide +kernel
theorem dX3_priceOf_62 : decode cX3_priceOf 62 = .ok (.iaload, 1) := by decide +kernel
theorem dX3_priceOf_63 : decode cX3_priceOf 63 = .ok (.iload 7, 2) := by decide +kernel
theorem dX3_priceOf_65 : decode cX3_priceOf 65 = .ok (.invokevirtual 43, 3) := by decide +kernel
theorem dX3_priceOf_68 : decode cX3_priceOf 68 = .ok (.i2l, 1) := by decide +kernel
theorem dX3_priceOf_69 : decode cX3_priceOf 69 = .ok (.lmul, 1) := by decide +kernel
theorem dX3_priceOf_70 : decode cX3_priceOf 70 = .ok (.ladd, 1) := by decide +kernel
theorem dX3_priceOf_71 : decode cX3_priceOf 71 = .ok (.lstore_n 2, 1) := by decide +kernel
theorem dX3_priceOf_72 : decode cX3_priceOf 72 = .ok (.iinc 4 1, 3) := by decide +kernel
theorem dX3_priceOf_75 : decode cX3_priceOf 75 = .ok (.goto (-70), 3) := by decide +kernel
theorem dX3_priceOf_78 : decode cX3_priceOf 78 = .ok (.lload_n 2, 1) := by decide +kernel
theorem dX3_priceOf_79 : decode cX3_priceOf 79 = .ok (.lreturn, 1) := by decide +kernel
theorem dX3_lowest_0 : decode cX3_lowest 0 = .ok (.lload_n 1, 1) := by decide +kernel
theorem dX3_lowest_1 : decode cX3_lowest 1 = .ok (.lstore 4, 2) := by decide +kernel
theorem dX3_lowest_3 : decode cX3_lowest 3 = .ok (.ldc2_w 47, 3) := by decide +kernel
theorem dX3_lowest_6 : decode cX3_lowest 6 = .ok (.lstore 6, 2) := by decide +kernel
theorem dX3_lowest_8 : decode cX3_lowest 8 = .ok (.iconst 0, 1) := by decide +kernel
theorem dX3_lowest_9 : decode cX3_lowest 9 = .ok (.istore 8, 2) := by decide +kernel
theorem dX3_lowest_11 : decode cX3_lowest 11 = .ok (.iload 8, 2) := by decide +kernel
theorem dX3_lowest_13 : decode cX3_lowest 13 = .ok (.bipush 32, 2) := by decide +kernel
theorem dX3_lowest_15 : decode cX3_lowest 15 = .ok (.if_icmp .ge 36, 3) := by decide +kernel
theorem dX3_lowest_18 : decode cX3_lowest 18 = .ok (.lload 4, 2) := by decide +kernel
theorem dX3_lowest_20 : decode cX3_lowest 20 = .ok (.ldc2_w 49, 3) := by decide +kernel
theorem dX3_lowest_23 : decode cX3_lowest 23 = .ok (.lrem, 1) := by decide +kernel
theorem dX3_lowest_24 : decode cX3_lowest 24 = .ok (.lconst 0, 1) := by decide +kernel
theorem dX3_lowest_25 : decode cX3_lowest 25 = .ok (.lcmp, 1) := by decide +kernel
theorem dX3_lowest_26 : decode cX3_lowest 26 = .ok (.ifCond .ne 25, 3) := by decide +kernel
theorem dX3_lowest_29 : decode cX3_lowest 29 = .ok (.lload 4, 2) := by decide +kernel
theorem dX3_lowest_31 : decode cX3_lowest 31 = .ok (.ldc2_w 49, 3) := by decide +kernel
theorem dX3_lowest_34 : decode cX3_lowest 34 = .ok (.ldiv, 1) := by decide +kernel
theorem dX3_lowest_35 : decode cX3_lowest 35 = .ok (.lstore 4, 2) := by decide +kernel
theorem dX3_lowest_37 : decode cX3_lowest 37 = .ok (.lload 6, 2) := by decide +kernel
theorem dX3_lowest_39 : decode cX3_lowest 39 = .ok (.ldc2_w 49, 3) := by decide +kernel
theorem dX3_lowest_42 : decode cX3_lowest 42 = .ok (.ldiv, 1) := by decide +kernel
theorem dX3_lowest_43 : decode cX3_lowest 43 = .ok (.lstore 6, 2) := by decide +kernel
theorem dX3_lowest_45 : decode cX3_lowest 45 = .ok (.iinc 8 1, 3) := by decide +kernel
theorem dX3_lowest_48 : decode cX3_lowest 48 = .ok (.goto (-37), 3) := by decide +kernel
theorem dX3_lowest_51 : decode cX3_lowest 51 = .ok (.iload_n 3, 1) := by decide +kernel
theorem dX3_lowest_52 : decode cX3_lowest 52 = .ok (.ifCond .ne 8, 3) := by decide +kernel
theorem dX3_lowest_55 : decode cX3_lowest 55 = .ok (.lload 4, 2) := by decide +kernel
theorem dX3_lowest_57 : decode cX3_lowest 57 = .ok (.goto 5, 3) := by decide +kernel
theorem dX3_lowest_60 : decode cX3_lowest 60 = .ok (.lload 6, 2) := by decide +kernel
theorem dX3_lowest_62 : decode cX3_lowest 62 = .ok (.lreturn, 1) := by decide +kernel
theorem dX4_init_0 : decode cX4_init 0 = .ok (.aload_n 0, 1) := by decide +kernel
theorem dX4_init_1 : decode cX4_init 1 = .ok (.invokespecial 3, 3) := by decide +kernel
theorem dX4_init_4 : decode cX4_init 4 = .ok (.aload_n 0, 1) := by decide +kernel
theorem dX4_init_5 : decode cX4_init 5 = .ok (.bipush 40, 2) := by decide +kernel
theorem dX4_init_7 : decode cX4_init 7 = .ok (.newarray .int, 2) := by decide +kernel
theorem dX4_init_9 : decode cX4_init 9 = .ok (.putfield 9, 3) := by decide +kernel
theorem dX4_init_12 : decode cX4_init 12 = .ok (.aload_n 0, 1) := by decide +kernel
theorem dX4_init_13 : decode cX4_init 13 = .ok (.bipush 20, 2) := by decide +kernel
theorem dX4_init_15 : decode cX4_init 15 = .ok (.newarray .int, 2) := by decide +kernel
theorem dX4_init_17 : decode cX4_init 17 = .ok (.putfield 15, 3) := by decide +kernel
theorem dX4_init_20 : decode cX4_init 20 = .ok (.aload_n 0, 1) := by decide +kernel
theorem dX4_init_21 : decode cX4_init 21 = .ok (.bipush 20, 2) := by decide +kernel
theorem dX4_init_23 : decode cX4_init 23 = .ok (.newarray .boolean, 2) := by decide +kernel
theorem dX4_init_25 : decode cX4_init 25 = .ok (.putfield 18, 3) := by decide +kernel
theorem dX4_init_28 : decode cX4_init 28 = .ok (.aload_n 0, 1) := by decide +kernel
theorem dX4_init_29 : decode cX4_init 29 = .ok (.bipush 20, 2) := by decide +kernel
theorem dX4_init_31 : decode cX4_init 31 = .ok (.newarray .int, 2) := by decide +kernel
theorem dX4_init_33 : decode cX4_init 33 = .ok (.putfield 22, 3) := by decide +kernel
theorem dX4_init_36 : decode cX4_init 36 = .ok (.aload_n 0, 1) := by decide +kernel
theorem dX4_init_37 : decode cX4_init 37 = .ok (.bipush 20, 2) := by decide +kernel
theorem dX4_init_39 : decode cX4_init 39 = .ok (.newarray .int, 2) := by decide +kernel
theorem dX4_init_41 : decode cX4_init 41 = .ok (.putfield 25, 3) := by decide +kernel
theorem dX4_init_44 : decode cX4_init 44 = .ok (.return_, 1) := by decide +kernel
theorem dX4_takes_0 : decode cX4_takes 0 = .ok (.aload_n 0, 1) := by decide +kernel
theorem dX4_takes_1 : decode cX4_takes 1 = .ok (.getfield 28, 3) := by decide +kernel
theorem dX4_takes_4 : decode cX4_takes 4 = .ok (.ifCond .lt 12, 3) := by decide +kernel
theorem dX4_takes_7 : decode cX4_takes 7 = .ok (.aload_n 0, 1) := by decide +kernel
theorem dX4_takes_8 : decode cX4_takes 8 = .ok (.getfield 28, 3) := by decide +kernel
theorem dX4_takes_11 : decode cX4_takes 11 = .ok (.bipush 40, 2) := by decide +kernel
theorem dX4_takes_13 : decode cX4_takes 13 = .ok (.if_icmp .lt 5, 3) := by decide +kernel
theorem dX4_takes_16 : decode cX4_takes 16 = .ok (.iconst 0, 1) := by decide +kernel
theorem dX4_takes_17 : decode cX4_takes 17 = .ok (.ireturn, 1) := by decide +kernel
theorem dX4_takes_18 : decode cX4_takes 18 = .ok (.aload_n 0, 1) := by decide +kernel
theorem dX4_takes_19 : decode cX4_takes 19 = .ok (.getfield 9, 3) := by decide +kernel
theorem dX4_takes_22 : decode cX4_takes 22 = .ok (.aload_n 0, 1) := by decide +kernel
theorem dX4_takes_23 : decode cX4_takes 23 = .ok (.getfield 28, 3) := by decide +kernel
theorem dX4_takes_26 : decode cX4_takes 26 = .ok (.iload_n 1, 1) := by decide +kernel
theorem dX4_takes_27 : decode cX4_takes 27 = .ok (.iastore, 1) := by decide +kernel
theorem dX4_takes_28 : decode cX4_takes 28 = .ok (.aload_n 0, 1) := by decide +kernel
theorem dX4_takes_29 : decode cX4_takes 29 = .ok (.dup, 1) := by decide +kernel
theorem dX4_takes_30 : decode cX4_takes 30 = .ok (.getfield 28, 3) := by decide +kernel
theorem dX4_takes_33 : decode cX4_takes 33 = .ok (.iconst 1, 1) := by decide +kernel
theorem dX4_takes_34 : decode cX4_takes 34 = .ok (.iadd, 1) := by decide +kernel
theorem dX4_takes_35 : decode cX4_takes 35 = .ok (.putfield 28, 3) := by decide +kernel
theorem dX4_takes_38 : decode cX4_takes 38 = .ok (.aload_n 0, 1) := by decide +kernel
theorem dX4_takes_39 : decode cX4_takes 39 = .ok (.invokevirtual 32, 3) := by decide +kernel
theorem dX4_takes_42 : decode cX4_takes 42 = .ok (.iconst 1, 1) := by decide +kernel
theorem dX4_takes_43 : decode cX4_takes 43 = .ok (.ireturn, 1) := by decide +kernel
theorem dX4_empties_0 : decode cX4_empties 0 = .ok (.aload_n 0, 1) := by decide +kernel
theorem dX4_empties_1 : decode cX4_empties 1 = .ok (.iconst 0, 1) := by decide +kernel
theorem dX4_empties_2 : decode cX4_empties 2 = .ok (.putfield 28, 3) := by decide +kernel
theorem dX4_empties_5 : decode cX4_empties 5 = .ok (.aload_n 0, 1) := by decide +kernel
theorem dX4_empties_6 : decode cX4_empties 6 = .ok (.invokevirtual 32, 3) := by decide +kernel
theorem dX4_empties_9 : decode cX4_empties 9 = .ok (.return_, 1) := by decide +kernel
theorem dX4_parse_0 : decode cX4_parse 0 = .ok (.aload_n 0, 1) := by decide +kernel
theorem dX4_parse_1 : decode cX4_parse 1 = .ok (.iconst 0, 1) := by decide +kernel
theorem dX4_parse_2 : decode cX4_parse 2 = .ok (.putfield 35, 3) := by decide +kernel
theorem dX4_parse_5 : decode cX4_parse 5 = .ok (.aload_n 0, 1) := by decide +kernel
theorem dX4_parse_6 : decode cX4_parse 6 = .ok (.iconst (-1), 1) := by decide +kernel
theorem dX4_parse_7 : decode cX4_parse 7 = .ok (.putfield 38, 3) := by decide +kernel
theorem dX4_parse_10 : decode cX4_parse 10 = .ok (.aload_n 0, 1) := by decide +kernel
theorem dX4_parse_11 : decode cX4_parse 11 = .ok (.iconst 0, 1) := by decide +kernel
theorem dX4_parse_12 : decode cX4_parse 12 = .ok (.putfield 41, 3) := by decide +kernel
theorem dX4_parse_15 : decode cX4_parse 15 = .ok (.aload_n 0, 1) := by decide +kernel
theorem dX4_parse_16 : decode cX4_parse 16 = .ok (.invokevirtual 44, 3) := by decide +kernel
theorem dX4_parse_19 : decode cX4_parse 19 = .ok (.iconst 1, 1) := by decide +kernel
theorem dX4_parse_20 : decode cX4_parse 20 = .ok (.istore_n 1, 1) := by decide +kernel
theorem dX4_parse_21 : decode cX4_parse 21 = .ok (.iconst 0, 1) := by decide +kernel
theorem dX4_parse_22 : decode cX4_parse 22 = .ok (.istore_n 2, 1) := by decide +kernel
theorem dX4_parse_23 : decode cX4_parse 23 = .ok (.iload_n 2, 1) := by decide +kernel
theorem dX4_parse_24 : decode cX4_parse 24 = .ok (.bipush 40, 2) := by decide +kernel
theorem dX4_parse_26 : decode cX4_parse 26 = .ok (.if_icmp .gt 33, 3) := by decide +kernel
theorem dX4_parse_29 : decode cX4_parse 29 = .ok (.iload_n 1, 1) := by decide +kernel
theorem dX4_parse_30 : decode cX4_parse 30 = .ok (.ifCond .eq 29, 3) := by decide +kernel
theorem dX4_parse_33 : decode cX4_parse 33 = .ok (.aload_n 0, 1) := by decide +kernel
theorem dX4_parse_34 : decode cX4_parse 34 = .ok (.invokevirtual 47, 3) := by decide +kernel
theorem dX4_parse_37 : decode cX4_parse 37 = .ok (.ifCond .eq 14, 3) := by decide +kernel
theorem dX4_parse_40 : decode cX4_parse 40 = .ok (.aload_n 0, 1) := by decide +kernel
theorem dX4_parse_41 : decode cX4_parse 41 = .ok (.invokevirtual 51, 3) := by decide +kernel
theorem dX4_parse_44 : decode cX4_parse 44 = .ok (.ifCond .eq 7, 3) := by decide +kernel
theorem dX4_parse_47 : decode cX4_parse 47 = .ok (.iconst 1, 1) := by decide +kernel
theorem dX4_parse_48 : decode cX4_parse 48 = .ok (.goto 4, 3) := by decide +kernel
theorem dX4_parse_51 : decode cX4_parse 51 = .ok (.iconst 0, 1) := by decide +kernel
theorem dX4_parse_52 : decode cX4_parse 52 = .ok (.istore_n 1, 1) := by decide +kernel
theorem dX4_parse_53 : decode cX4_parse 53 = .ok (.iinc 2 1, 3) := by decide +kernel
theorem dX4_parse_56 : decode cX4_parse 56 = .ok (.goto (-33), 3) := by decide +kernel
theorem dX4_parse_59 : decode cX4_parse 59 = .ok (.aload_n 0, 1) := by decide +kernel
theorem dX4_parse_60 : decode cX4_parse 60 = .ok (.getfield 38, 3) := by decide +kernel
theorem dX4_parse_63 : decode cX4_parse 63 = .ok (.iconst (-1), 1) := by decide +kernel
theorem dX4_parse_64 : decode cX4_parse 64 = .ok (.if_icmp .eq 8, 3) := by decide +kernel
theorem dX4_parse_67 : decode cX4_parse 67 = .ok (.aload_n 0, 1) := by decide +kernel
theorem dX4_parse_68 : decode cX4_parse 68 = .ok (.iconst 0, 1) := by decide +kernel
theorem dX4_parse_69 : decode cX4_parse 69 = .ok (.putfield 41, 3) := by decide +kernel
theorem dX4_parse_72 : decode cX4_parse 72 = .ok (.return_, 1) := by decide +kernel
theorem dX4_here_0 : decode cX4_here 0 = .ok (.aload_n 0, 1) := by decide +kernel
theorem dX4_here_1 : decode cX4_here 1 = .ok (.getfield 35, 3) := by decide +kernel
theorem dX4_here_4 : decode cX4_here 4 = .ok (.ifCond .lt 35, 3) := by decide +kernel
theorem dX4_here_7 : decode cX4_here 7 = .ok (.aload_n 0, 1) := by decide +kernel
theorem dX4_here_8 : decode cX4_here 8 = .ok (.getfield 35, 3) := by decide +kernel
theorem dX4_here_11 : decode cX4_here 11 = .ok (.aload_n 0, 1) := by decide +kernel
theorem dX4_here_12 : decode cX4_here 12 = .ok (.getfield 28, 3) := by decide +kernel
theorem dX4_here_15 : decode cX4_here 15 = .ok (.if_icmp .ge 24, 3) := by decide +kernel
theorem dX4_here_18 : decode cX4_here 18 = .ok (.aload_n 0, 1) := by decide +kernel
theorem dX4_here_19 : decode cX4_here 19 = .ok (.getfield 35, 3) := by decide +kernel
theorem dX4_here_22 : decode cX4_here 22 = .ok (.bipush 40, 2) := by decide +kernel
theorem dX4_here_24 : decode cX4_here 24 = .ok (.if_icmp .ge 15, 3) := by decide +kernel
theorem dX4_here_27 : decode cX4_here 27 = .ok (.aload_n 0, 1) := by decide +kernel
theorem dX4_here_28 : decode cX4_here 28 = .ok (.getfield 9, 3) := by decide +kernel
theorem dX4_here_31 : decode cX4_here 31 = .ok (.aload_n 0, 1) := by decide +kernel
theorem dX4_here_32 : decode cX4_here 32 = .ok (.getfield 35, 3) := by decide +kernel
theorem dX4_here_35 : decode cX4_here 35 = .ok (.iaload, 1) := by decide +kernel
theorem dX4_here_36 : decode cX4_here 36 = .ok (.goto 4, 3) := by decide +kernel
theorem dX4_here_39 : decode cX4_here 39 = .ok (.iconst (-1), 1) := by decide +kernel
theorem dX4_here_40 : decode cX4_here 40 = .ok (.ireturn, 1) := by decide +kernel
theorem dX4_readsCondition_0 : decode cX4_readsCondition 0 = .ok (.aload_n 0, 1) := by decide +kernel
theorem dX4_readsCondition_1 : decode cX4_readsCondition 1 = .ok (.invokevirtual 54, 3) := by decide +kernel
theorem dX4_readsCondition_4 : decode cX4_readsCondition 4 = .ok (.istore_n 1, 1) := by decide +kernel
theorem dX4_readsCondition_5 : decode cX4_readsCondition 5 = .ok (.iload_n 1, 1) := by decide +kernel
theorem dX4_readsCondition_6 : decode cX4_readsCondition 6 = .ok (.bipush 109, 2) := by decide +kernel
theorem dX4_readsCondition_8 : decode cX4_readsCondition 8 = .ok (.if_icmp .eq 31, 3) := by decide +kernel
theorem dX4_readsCondition_11 : decode cX4_readsCondition 11 = .ok (.iload_n 1, 1) := by decide +kernel
theorem dX4_readsCondition_12 : decode cX4_readsCondition 12 = .ok (.bipush 110, 2) := by decide +kernel
theorem dX4_readsCondition_14 : decode cX4_readsCondition 14 = .ok (.if_icmp .eq 25, 3) := by decide +kernel
theorem dX4_readsCondition_17 : decode cX4_readsCondition 17 = .ok (.iload_n 1, 1) := by decide +kernel
theorem dX4_readsCondition_18 : decode cX4_readsCondition 18 = .ok (.bipush 107, 2) := by decide +kernel
theorem dX4_readsCondition_20 : decode cX4_readsCondition 20 = .ok (.if_icmp .eq 19, 3) := by decide +kernel
theorem dX4_readsCondition_23 : decode cX4_readsCondition 23 = .ok (.iload_n 1, 1) := by decide +kernel
theorem dX4_readsCondition_24 : decode cX4_readsCondition 24 = .ok (.bipush 116, 2) := by decide +kernel
theorem dX4_readsCondition_26 : decode cX4_readsCondition 26 = .ok (.if_icmp .eq 13, 3) := by decide +kernel
theorem dX4_readsCondition_29 : decode cX4_readsCondition 29 = .ok (.aload_n 0, 1) := by decide +kernel
theorem dX4_readsCondition_30 : decode cX4_readsCondition 30 = .ok (.aload_n 0, 1) := by decide +kernel
theorem dX4_readsCondition_31 : decode cX4_readsCondition 31 = .ok (.getfield 35, 3) := by decide +kernel
theorem dX4_readsCondition_34 : decode cX4_readsCondition 34 = .ok (.putfield 38, 3) := by decide +kernel
theorem dX4_readsCondition_37 : decode cX4_readsCondition 37 = .ok (.iconst 0, 1) := by decide +kernel
theorem dX4_readsCondition_38 : decode cX4_readsCondition 38 = .ok (.ireturn, 1) := by decide +kernel
theorem dX4_readsCondition_39 : decode cX4_readsCondition 39 = .ok (.aload_n 0, 1) := by decide +kernel
theorem dX4_readsCondition_40 : decode cX4_readsCondition 40 = .ok (.dup, 1) := by decide +kernel
theorem dX4_readsCondition_41 : decode cX4_readsCondition 41 = .ok (.getfield 35, 3) := by decide +kernel
theorem dX4_readsCondition_44 : decode cX4_readsCondition 44 = .ok (.iconst 1, 1) := by decide +kernel
theorem dX4_readsCondition_45 : decode cX4_readsCondition 45 = .ok (.iadd, 1) := by decide +kernel
theorem dX4_readsCondition_46 : decode cX4_readsCondition 46 = .ok (.putfield 35, 3) := by decide +kernel
theorem dX4_readsCondition_49 : decode cX4_readsCondition 49 = .ok (.iload_n 1, 1) := by decide +kernel
theorem dX4_readsCondition_50 : decode cX4_readsCondition 50 = .ok (.bipush 116, 2) := by decide +kernel
theorem dX4_readsCondition_52 : decode cX4_readsCondition 52 = .ok (.if_icmp .ne 11, 3) := by decide +kernel
theorem dX4_readsCondition_55 : decode cX4_readsCondition 55 = .ok (.aload_n 0, 1) := by decide +kernel
theorem dX4_readsCondition_56 : decode cX4_readsCondition 56 = .ok (.iconst 1, 1) := by decide +kernel
theorem dX4_readsCondition_57 : decode cX4_readsCondition 57 = .ok (.putfield 58, 3) := by decide +kernel
theorem dX4_readsCondition_60 : decode cX4_readsCondition 60 = .ok (.goto 89, 3) := by decide +kernel
theorem dX4_readsCondition_63 : decode cX4_readsCondition 63 = .ok (.iload_n 1, 1) := by decide +kernel
theorem dX4_readsCondition_64 : decode cX4_readsCondition 64 = .ok (.bipush 109, 2) := by decide +kernel
theorem dX4_readsCondition_66 : decode cX4_readsCondition 66 = .ok (.if_icmp .ne 25, 3) := by decide +kernel
theorem dX4_readsCondition_69 : decode cX4_readsCondition 69 = .ok (.aload_n 0, 1) := by decide +kernel
theorem dX4_readsCondition_70 : decode cX4_readsCondition 70 = .ok (.aload_n 0, 1) := by decide +kernel
theorem dX4_readsCondition_71 : decode cX4_readsCondition 71 = .ok (.getfield 62, 3) := by decide +kernel
theorem dX4_readsCondition_74 : decode cX4_readsCondition 74 = .ok (.aload_n 0, 1) := by decide +kernel
theorem dX4_readsCondition_75 : decode cX4_readsCondition 75 = .ok (.iconst 2, 1) := by decide +kernel
theorem dX4_readsCondition_76 : decode cX4_readsCondition 76 = .ok (.iconst 0, 1) := by decide +kernel
theorem dX4_readsCondition_77 : decode cX4_readsCondition 77 = .ok (.bipush 59, 2) := by decide +kernel
theorem dX4_readsCondition_79 : decode cX4_readsCondition 79 = .ok (.invokevirtual 65, 3) := by decide +kernel
theorem dX4_readsCondition_82 : decode cX4_readsCondition 82 = .ok (.invokestatic 69, 3) := by decide +kernel
theorem dX4_readsCondition_85 : decode cX4_readsCondition 85 = .ok (.putfield 62, 3) := by decide +kernel
theorem dX4_readsCondition_88 : decode cX4_readsCondition 88 = .ok (.goto 61, 3) := by decide +kernel
theorem dX4_readsCondition_91 : decode cX4_readsCondition 91 = .ok (.iload_n 1, 1) := by decide +kernel
theorem dX4_readsCondition_92 : decode cX4_readsCondition 92 = .ok (.bipush 110, 2) := by decide +kernel
theorem dX4_readsCondition_94 : decode cX4_readsCondition 94 = .ok (.if_icmp .ne 25, 3) := by decide +kernel
theorem dX4_readsCondition_97 : decode cX4_readsCondition 97 = .ok (.aload_n 0, 1) := by decide +kernel
theorem dX4_readsCondition_98 : decode cX4_readsCondition 98 = .ok (.aload_n 0, 1) := by decide +kernel
theorem dX4_readsCondition_99 : decode cX4_readsCondition 99 = .ok (.getfield 75, 3) := by decide +kernel
theorem dX4_readsCondition_102 : decode cX4_readsCondition 102 = .ok (.aload_n 0, 1) := by decide +kernel
theorem dX4_readsCondition_103 : decode cX4_readsCondition 103 = .ok (.iconst 1, 1) := by decide +kernel
theorem dX4_readsCondition_104 : decode cX4_readsCondition 104 = .ok (.iconst 1, 1) := by decide +kernel
theorem dX4_readsCondition_105 : decode cX4_readsCondition 105 = .ok (.bipush 8, 2) := by decide +kernel
theorem dX4_readsCondition_107 : decode cX4_readsCondition 107 = .ok (.invokevirtual 65, 3) := by decide +kernel
theorem dX4_readsCondition_110 : decode cX4_readsCondition 110 = .ok (.invokestatic 69, 3) := by decide +kernel
theorem dX4_readsCondition_113 : decode cX4_readsCondition 113 = .ok (.putfield 75, 3) := by decide +kernel
theorem dX4_readsCondition_116 : decode cX4_readsCondition 116 = .ok (.goto 33, 3) := by decide +kernel
theorem dX4_readsCondition_119 : decode cX4_readsCondition 119 = .ok (.aload_n 0, 1) := by decide +kernel
theorem dX4_readsCondition_120 : decode cX4_readsCondition 120 = .ok (.iconst 1, 1) := by decide +kernel
theorem dX4_readsCondition_121 : decode cX4_readsCondition 121 = .ok (.iconst 0, 1) := by decide +kernel
theorem dX4_readsCondition_122 : decode cX4_readsCondition 122 = .ok (.bipush 7, 2) := by decide +kernel
theorem dX4_readsCondition_124 : decode cX4_readsCondition 124 = .ok (.invokevirtual 65, 3) := by decide +kernel
theorem dX4_readsCondition_127 : decode cX4_readsCondition 127 = .ok (.istore_n 2, 1) := by decide +kernel
theorem dX4_readsCondition_128 : decode cX4_readsCondition 128 = .ok (.aload_n 0, 1) := by decide +kernel
theorem dX4_readsCondition_129 : decode cX4_readsCondition 129 = .ok (.dup, 1) := by decide +kernel
theorem dX4_readsCondition_130 : decode cX4_readsCondition 130 = .ok (.getfield 78, 3) := by decide +kernel
theorem dX4_readsCondition_133 : decode cX4_readsCondition 133 = .ok (.iload_n 2, 1) := by decide +kernel
theorem dX4_readsCondition_134 : decode cX4_readsCondition 134 = .ok (.iconst (-1), 1) := by decide +kernel
theorem dX4_readsCondition_135 : decode cX4_readsCondition 135 = .ok (.if_icmp .ne 7, 3) := by decide +kernel
theorem dX4_readsCondition_138 : decode cX4_readsCondition 138 = .ok (.iconst 0, 1) := by decide +kernel
theorem dX4_readsCondition_139 : decode cX4_readsCondition 139 = .ok (.goto 6, 3) := by decide +kernel
theorem dX4_readsCondition_142 : decode cX4_readsCondition 142 = .ok (.iconst 1, 1) := by decide +kernel
theorem dX4_readsCondition_143 : decode cX4_readsCondition 143 = .ok (.iload_n 2, 1) := by decide +kernel
theorem dX4_readsCondition_144 : decode cX4_readsCondition 144 = .ok (.ishl, 1) := by decide +kernel
theorem dX4_readsCondition_145 : decode cX4_readsCondition 145 = .ok (.ior, 1) := by decide +kernel
theorem dX4_readsCondition_146 : decode cX4_readsCondition 146 = .ok (.putfield 78, 3) := by decide +kernel
theorem dX4_readsCondition_149 : decode cX4_readsCondition 149 = .ok (.aload_n 0, 1) := by decide +kernel
theorem dX4_readsCondition_150 : decode cX4_readsCondition 150 = .ok (.getfield 38, 3) := by decide +kernel
theorem dX4_readsCondition_153 : decode cX4_readsCondition 153 = .ok (.iconst (-1), 1) := by decide +kernel
theorem dX4_readsCondition_154 : decode cX4_readsCondition 154 = .ok (.if_icmp .ne 7, 3) := by decide +kernel
theorem dX4_readsCondition_157 : decode cX4_readsCondition 157 = .ok (.iconst 1, 1) := by decide +kernel
theorem dX4_readsCondition_158 : decode cX4_readsCondition 158 = .ok (.goto 4, 3) := by decide +kernel
theorem dX4_readsCondition_161 : decode cX4_readsCondition 161 = .ok (.iconst 0, 1) := by decide +kernel
theorem dX4_readsCondition_162 : decode cX4_readsCondition 162 = .ok (.ireturn, 1) := by decide +kernel
theorem dX4_number_0 : decode cX4_number 0 = .ok (.aload_n 0, 1) := by decide +kernel
theorem dX4_number_1 : decode cX4_number 1 = .ok (.getfield 35, 3) := by decide +kernel
theorem dX4_number_4 : decode cX4_number 4 = .ok (.istore 4, 2) := by decide +kernel
theorem dX4_number_6 : decode cX4_number 6 = .ok (.iconst 0, 1) := by decide +kernel
theorem dX4_number_7 : decode cX4_number 7 = .ok (.istore 5, 2) := by decide +kernel
theorem dX4_number_9 : decode cX4_number 9 = .ok (.iconst 0, 1) := by decide +kernel
theorem dX4_number_10 : decode cX4_number 10 = .ok (.istore 6, 2) := by decide +kernel
theorem dX4_number_12 : decode cX4_number 12 = .ok (.iload 6, 2) := by decide +kernel
theorem dX4_number_14 : decode cX4_number 14 = .ok (.iload_n 1, 1) := by decide +kernel
theorem dX4_number_15 : decode cX4_number 15 = .ok (.if_icmp .ge 52, 3) := by decide +kernel
theorem dX4_number_18 : decode cX4_number 18 = .ok (.aload_n 0, 1) := by decide +kernel
theorem dX4_number_19 : decode cX4_number 19 = .ok (.invokevirtual 54, 3) := by decide +kernel
theorem dX4_number_22 : decode cX4_number 22 = .ok (.bipush 48, 2) := by decide +kernel
theorem dX4_number_24 : decode cX4_number 24 = .ok (.if_icmp .lt 43, 3) := by decide +kernel
theorem dX4_number_27 : decode cX4_number 27 = .ok (.aload_n 0, 1) := by decide +kernel
theorem dX4_number_28 : decode cX4_number 28 = .ok (.invokevirtual 54, 3) := by decide +kernel
theorem dX4_number_31 : decode cX4_number 31 = .ok (.bipush 57, 2) := by decide +kernel
theorem dX4_number_33 : decode cX4_number 33 = .ok (.if_icmp .gt 34, 3) := by decide +kernel
theorem dX4_number_36 : decode cX4_number 36 = .ok (.iload 5, 2) := by decide +kernel
theorem dX4_number_38 : decode cX4_number 38 = .ok (.bipush 10, 2) := by decide +kernel
theorem dX4_number_40 : decode cX4_number 40 = .ok (.imul, 1) := by decide +kernel
theorem dX4_number_41 : decode cX4_number 41 = .ok (.aload_n 0, 1) := by decide +kernel
theorem dX4_number_42 : decode cX4_number 42 = .ok (.invokevirtual 54, 3) := by decide +kernel
theorem dX4_number_45 : decode cX4_number 45 = .ok (.iadd, 1) := by decide +kernel
theorem dX4_number_46 : decode cX4_number 46 = .ok (.bipush 48, 2) := by decide +kernel
theorem dX4_number_48 : decode cX4_number 48 = .ok (.isub, 1) := by decide +kernel
theorem dX4_number_49 : decode cX4_number 49 = .ok (.istore 5, 2) := by decide +kernel
theorem dX4_number_51 : decode cX4_number 51 = .ok (.aload_n 0, 1) := by decide +kernel
theorem dX4_number_52 : decode cX4_number 52 = .ok (.dup, 1) := by decide +kernel
theorem dX4_number_53 : decode cX4_number 53 = .ok (.getfield 35, 3) := by decide +kernel
theorem dX4_number_56 : decode cX4_number 56 = .ok (.iconst 1, 1) := by decide +kernel
theorem dX4_number_57 : decode cX4_number 57 = .ok (.iadd, 1) := by decide +kernel
theorem dX4_number_58 : decode cX4_number 58 = .ok (.putfield 35, 3) := by decide +kernel
theorem dX4_number_61 : decode cX4_number 61 = .ok (.iinc 6 1, 3) := by decide +kernel
theorem dX4_number_64 : decode cX4_number 64 = .ok (.goto (-52), 3) := by decide +kernel
theorem dX4_number_67 : decode cX4_number 67 = .ok (.aload_n 0, 1) := by decide +kernel
theorem dX4_number_68 : decode cX4_number 68 = .ok (.getfield 35, 3) := by decide +kernel
theorem dX4_number_71 : decode cX4_number 71 = .ok (.iload 4, 2) := by decide +kernel
theorem dX4_number_73 : decode cX4_number 73 = .ok (.if_icmp .eq 15, 3) := by decide +kernel
theorem dX4_number_76 : decode cX4_number 76 = .ok (.iload 5, 2) := by decide +kernel
theorem dX4_number_78 : decode cX4_number 78 = .ok (.iload_n 2, 1) := by decide +kernel
theorem dX4_number_79 : decode cX4_number 79 = .ok (.if_icmp .lt 9, 3) := by decide +kernel
theorem dX4_number_82 : decode cX4_number 82 = .ok (.iload 5, 2) := by decide +kernel
theorem dX4_number_84 : decode cX4_number 84 = .ok (.iload_n 3, 1) := by decide +kernel
theorem dX4_number_85 : decode cX4_number 85 = .ok (.if_icmp .le 11, 3) := by decide +kernel
theorem dX4_number_88 : decode cX4_number 88 = .ok (.aload_n 0, 1) := by decide +kernel
theorem dX4_number_89 : decode cX4_number 89 = .ok (.iload 4, 2) := by decide +kernel
theorem dX4_number_91 : decode cX4_number 91 = .ok (.putfield 38, 3) := by decide +kernel
theorem dX4_number_94 : decode cX4_number 94 = .ok (.iconst (-1), 1) := by decide +kernel
theorem dX4_number_95 : decode cX4_number 95 = .ok (.ireturn, 1) := by decide +kernel
theorem dX4_number_96 : decode cX4_number 96 = .ok (.iload 5, 2) := by decide +kernel
theorem dX4_number_98 : decode cX4_number 98 = .ok (.ireturn, 1) := by decide +kernel
theorem dX4_readsJoint_0 : decode cX4_readsJoint 0 = .ok (.aload_n 0, 1) := by decide +kernel
theorem dX4_readsJoint_1 : decode cX4_readsJoint 1 = .ok (.invokevirtual 54, 3) := by decide +kernel
theorem dX4_readsJoint_4 : decode cX4_readsJoint 4 = .ok (.istore_n 1, 1) := by decide +kernel
theorem dX4_readsJoint_5 : decode cX4_readsJoint 5 = .ok (.iload_n 1, 1) := by decide +kernel
theorem dX4_readsJoint_6 : decode cX4_readsJoint 6 = .ok (.bipush 38, 2) := by decide +kernel
theorem dX4_readsJoint_8 : decode cX4_readsJoint 8 = .ok (.if_icmp .ne 15, 3) := by decide +kernel
theorem dX4_readsJoint_11 : decode cX4_readsJoint 11 = .ok (.aload_n 0, 1) := by decide +kernel
theorem dX4_readsJoint_12 : decode cX4_readsJoint 12 = .ok (.dup, 1) := by decide +kernel
theorem dX4_readsJoint_13 : decode cX4_readsJoint 13 = .ok (.getfield 35, 3) := by decide +kernel
theorem dX4_readsJoint_16 : decode cX4_readsJoint 16 = .ok (.iconst 1, 1) := by decide +kernel
theorem dX4_readsJoint_17 : decode cX4_readsJoint 17 = .ok (.iadd, 1) := by decide +kernel
theorem dX4_readsJoint_18 : decode cX4_readsJoint 18 = .ok (.putfield 35, 3) := by decide +kernel
theorem dX4_readsJoint_21 : decode cX4_readsJoint 21 = .ok (.iconst 1, 1) := by decide +kernel
theorem dX4_readsJoint_22 : decode cX4_readsJoint 22 = .ok (.ireturn, 1) := by decide +kernel
theorem dX4_readsJoint_23 : decode cX4_readsJoint 23 = .ok (.iload_n 1, 1) := by decide +kernel
theorem dX4_readsJoint_24 : decode cX4_readsJoint 24 = .ok (.bipush 124, 2) := by decide +kernel
theorem dX4_readsJoint_26 : decode cX4_readsJoint 26 = .ok (.if_icmp .ne 23, 3) := by decide +kernel
theorem dX4_readsJoint_29 : decode cX4_readsJoint 29 = .ok (.aload_n 0, 1) := by decide +kernel
theorem dX4_readsJoint_30 : decode cX4_readsJoint 30 = .ok (.dup, 1) := by decide +kernel
theorem dX4_readsJoint_31 : decode cX4_readsJoint 31 = .ok (.getfield 35, 3) := by decide +kernel
theorem dX4_readsJoint_34 : decode cX4_readsJoint 34 = .ok (.iconst 1, 1) := by decide +kernel
theorem dX4_readsJoint_35 : decode cX4_readsJoint 35 = .ok (.iadd, 1) := by decide +kernel
theorem dX4_readsJoint_36 : decode cX4_readsJoint 36 = .ok (.putfield 35, 3) := by decide +kernel
theorem dX4_readsJoint_39 : decode cX4_readsJoint 39 = .ok (.aload_n 0, 1) := by decide +kernel
theorem dX4_readsJoint_40 : decode cX4_readsJoint 40 = .ok (.invokevirtual 81, 3) := by decide +kernel
theorem dX4_readsJoint_43 : decode cX4_readsJoint 43 = .ok (.aload_n 0, 1) := by decide +kernel
theorem dX4_readsJoint_44 : decode cX4_readsJoint 44 = .ok (.invokevirtual 44, 3) := by decide +kernel
theorem dX4_readsJoint_47 : decode cX4_readsJoint 47 = .ok (.iconst 1, 1) := by decide +kernel
theorem dX4_readsJoint_48 : decode cX4_readsJoint 48 = .ok (.ireturn, 1) := by decide +kernel
theorem dX4_readsJoint_49 : decode cX4_readsJoint 49 = .ok (.aload_n 0, 1) := by decide +kernel
theorem dX4_readsJoint_50 : decode cX4_readsJoint 50 = .ok (.getfield 35, 3) := by decide +kernel
theorem dX4_readsJoint_53 : decode cX4_readsJoint 53 = .ok (.aload_n 0, 1) := by decide +kernel
theorem dX4_readsJoint_54 : decode cX4_readsJoint 54 = .ok (.getfield 28, 3) := by decide +kernel
theorem dX4_readsJoint_57 : decode cX4_readsJoint 57 = .ok (.if_icmp .ge 14, 3) := by decide +kernel
theorem dX4_readsJoint_60 : decode cX4_readsJoint 60 = .ok (.aload_n 0, 1) := by decide +kernel
theorem dX4_readsJoint_61 : decode cX4_readsJoint 61 = .ok (.aload_n 0, 1) := by decide +kernel
theorem dX4_readsJoint_62 : decode cX4_readsJoint 62 = .ok (.getfield 35, 3) := by decide +kernel
theorem dX4_readsJoint_65 : decode cX4_readsJoint 65 = .ok (.putfield 38, 3) := by decide +kernel
theorem dX4_readsJoint_68 : decode cX4_readsJoint 68 = .ok (.goto 7, 3) := by decide +kernel
theorem dX4_readsJoint_71 : decode cX4_readsJoint 71 = .ok (.aload_n 0, 1) := by decide +kernel
theorem dX4_readsJoint_72 : decode cX4_readsJoint 72 = .ok (.invokevirtual 81, 3) := by decide +kernel
theorem dX4_readsJoint_75 : decode cX4_readsJoint 75 = .ok (.iconst 0, 1) := by decide +kernel
theorem dX4_readsJoint_76 : decode cX4_readsJoint 76 = .ok (.ireturn, 1) := by decide +kernel
theorem dX4_opens_0 : decode cX4_opens 0 = .ok (.aload_n 0, 1) := by decide +kernel
theorem dX4_opens_1 : decode cX4_opens 1 = .ok (.iconst 0, 1) := by decide +kernel
theorem dX4_opens_2 : decode cX4_opens 2 = .ok (.putfield 62, 3) := by decide +kernel
theorem dX4_opens_5 : decode cX4_opens 5 = .ok (.aload_n 0, 1) := by decide +kernel
theorem dX4_opens_6 : decode cX4_opens 6 = .ok (.iconst 0, 1) := by decide +kernel
theorem dX4_opens_7 : decode cX4_opens 7 = .ok (.putfield 58, 3) := by decide +kernel
theorem dX4_opens_10 : decode cX4_opens 10 = .ok (.aload_n 0, 1) := by decide +kernel
theorem dX4_opens_11 : decode cX4_opens 11 = .ok (.iconst 0, 1) := by decide +kernel
theorem dX4_opens_12 : decode cX4_opens 12 = .ok (.putfield 75, 3) := by decide +kernel
theorem dX4_opens_15 : decode cX4_opens 15 = .ok (.aload_n 0, 1) := by decide +kernel
theorem dX4_opens_16 : decode cX4_opens 16 = .ok (.iconst 0, 1) := by decide +kernel
theorem dX4_opens_17 : decode cX4_opens 17 = .ok (.putfield 78, 3) := by decide +kernel
theorem dX4_opens_20 : decode cX4_opens 20 = .ok (.return_, 1) := by decide +kernel
theorem dX4_closes_0 : decode cX4_closes 0 = .ok (.aload_n 0, 1) := by decide +kernel
theorem dX4_closes_1 : decode cX4_closes 1 = .ok (.getfield 41, 3) := by decide +kernel
theorem dX4_closes_4 : decode cX4_closes 4 = .ok (.ifCond .lt 12, 3) := by decide +kernel
theorem dX4_closes_7 : decode cX4_closes 7 = .ok (.aload_n 0, 1) := by decide +kernel
theorem dX4_closes_8 : decode cX4_closes 8 = .ok (.getfield 41, 3) := by decide +kernel
theorem dX4_closes_11 : decode cX4_closes 11 = .ok (.bipush 20, 2) := by decide +kernel
theorem dX4_closes_13 : decode cX4_closes 13 = .ok (.if_icmp .lt 4, 3) := by decide +kernel
theorem dX4_closes_16 : decode cX4_closes 16 = .ok (.return_, 1) := by decide +kernel
theorem dX4_closes_17 : decode cX4_closes 17 = .ok (.aload_n 0, 1) := by decide +kernel
theorem dX4_closes_18 : decode cX4_closes 18 = .ok (.getfield 15, 3) := by decide +kernel
theorem dX4_closes_21 : decode cX4_closes 21 = .ok (.aload_n 0, 1) := by decide +kernel
theorem dX4_closes_22 : decode cX4_closes 22 = .ok (.getfield 41, 3) := by decide +kernel
theorem dX4_closes_25 : decode cX4_closes 25 = .ok (.aload_n 0, 1) := by decide +kernel
theorem dX4_closes_26 : decode cX4_closes 26 = .ok (.getfield 62, 3) := by decide +kernel
theorem dX4_closes_29 : decode cX4_closes 29 = .ok (.iastore, 1) := by decide +kernel
theorem dX4_closes_30 : decode cX4_closes 30 = .ok (.aload_n 0, 1) := by decide +kernel
theorem dX4_closes_31 : decode cX4_closes 31 = .ok (.getfield 18, 3) := by decide +kernel
theorem dX4_closes_34 : decode cX4_closes 34 = .ok (.aload_n 0, 1) := by decide +kernel
theorem dX4_closes_35 : decode cX4_closes 35 = .ok (.getfield 41, 3) := by decide +kernel
theorem dX4_closes_38 : decode cX4_closes 38 = .ok (.aload_n 0, 1) := by decide +kernel
theorem dX4_closes_39 : decode cX4_closes 39 = .ok (.getfield 58, 3) := by decide +kernel
theorem dX4_closes_42 : decode cX4_closes 42 = .ok (.bastore, 1) := by decide +kernel
theorem dX4_closes_43 : decode cX4_closes 43 = .ok (.aload_n 0, 1) := by decide +kernel
theorem dX4_closes_44 : decode cX4_closes 44 = .ok (.getfield 22, 3) := by decide +kernel
theorem dX4_closes_47 : decode cX4_closes 47 = .ok (.aload_n 0, 1) := by decide +kernel
theorem dX4_closes_48 : decode cX4_closes 48 = .ok (.getfield 41, 3) := by decide +kernel
theorem dX4_closes_51 : decode cX4_closes 51 = .ok (.aload_n 0, 1) := by decide +kernel
theorem dX4_closes_52 : decode cX4_closes 52 = .ok (.getfield 75, 3) := by decide +kernel
theorem dX4_closes_55 : decode cX4_closes 55 = .ok (.iastore, 1) := by decide +kernel
theorem dX4_closes_56 : decode cX4_closes 56 = .ok (.aload_n 0, 1) := by decide +kernel
theorem dX4_closes_57 : decode cX4_closes 57 = .ok (.getfield 25, 3) := by decide +kernel
theorem dX4_closes_60 : decode cX4_closes 60 = .ok (.aload_n 0, 1) := by decide +kernel
theorem dX4_closes_61 : decode cX4_closes 61 = .ok (.getfield 41, 3) := by decide +kernel
theorem dX4_closes_64 : decode cX4_closes 64 = .ok (.aload_n 0, 1) := by decide +kernel
theorem dX4_closes_65 : decode cX4_closes 65 = .ok (.getfield 78, 3) := by decide +kernel
theorem dX4_closes_68 : decode cX4_closes 68 = .ok (.iastore, 1) := by decide +kernel
theorem dX4_closes_69 : decode cX4_closes 69 = .ok (.aload_n 0, 1) := by decide +kernel
theorem dX4_closes_70 : decode cX4_closes 70 = .ok (.dup, 1) := by decide +kernel
theorem dX4_closes_71 : decode cX4_closes 71 = .ok (.getfield 41, 3) := by decide +kernel
theorem dX4_closes_74 : decode cX4_closes 74 = .ok (.iconst 1, 1) := by decide +kernel
theorem dX4_closes_75 : decode cX4_closes 75 = .ok (.iadd, 1) := by decide +kernel
theorem dX4_closes_76 : decode cX4_closes 76 = .ok (.putfield 41, 3) := by decide +kernel
theorem dX4_closes_79 : decode cX4_closes 79 = .ok (.return_, 1) := by decide +kernel
theorem dX4_beginning_0 : decode cX4_beginning 0 = .ok (.bipush 60, 2) := by decide +kernel
theorem dX4_beginning_2 : decode cX4_beginning 2 = .ok (.istore 5, 2) := by decide +kernel
theorem dX4_beginning_4 : decode cX4_beginning 4 = .ok (.iconst 0, 1) := by decide +kernel
theorem dX4_beginning_5 : decode cX4_beginning 5 = .ok (.istore 6, 2) := by decide +kernel
theorem dX4_beginning_7 : decode cX4_beginning 7 = .ok (.iload 6, 2) := by decide +kernel
theorem dX4_beginning_9 : decode cX4_beginning 9 = .ok (.aload_n 0, 1) := by decide +kernel
theorem dX4_beginning_10 : decode cX4_beginning 10 = .ok (.getfield 41, 3) := by decide +kernel
theorem dX4_beginning_13 : decode cX4_beginning 13 = .ok (.if_icmp .ge 163, 3) := by decide +kernel
theorem dX4_beginning_16 : decode cX4_beginning 16 = .ok (.iload 6, 2) := by decide +kernel
theorem dX4_beginning_18 : decode cX4_beginning 18 = .ok (.bipush 20, 2) := by decide +kernel
theorem dX4_beginning_20 : decode cX4_beginning 20 = .ok (.if_icmp .ge 156, 3) := by decide +kernel
theorem dX4_beginning_23 : decode cX4_beginning 23 = .ok (.aload_n 0, 1) := by decide +kernel
theorem dX4_beginning_24 : decode cX4_beginning 24 = .ok (.getfield 15, 3) := by decide +kernel
theorem dX4_beginning_27 : decode cX4_beginning 27 = .ok (.iload 6, 2) := by decide +kernel
theorem dX4_beginning_29 : decode cX4_beginning 29 = .ok (.iaload, 1) := by decide +kernel
theorem dX4_beginning_30 : decode cX4_beginning 30 = .ok (.istore 7, 2) := by decide +kernel
theorem dX4_beginning_32 : decode cX4_beginning 32 = .ok (.aload_n 0, 1) := by decide +kernel
theorem dX4_beginning_33 : decode cX4_beginning 33 = .ok (.getfield 18, 3) := by decide +kernel
theorem dX4_beginning_36 : decode cX4_beginning 36 = .ok (.iload 6, 2) := by decide +kernel
theorem dX4_beginning_38 : decode cX4_beginning 38 = .ok (.baload, 1) := by decide +kernel
theorem dX4_beginning_39 : decode cX4_beginning 39 = .ok (.ifCond .eq 12, 3) := by decide +kernel
theorem dX4_beginning_42 : decode cX4_beginning 42 = .ok (.iload_n 1, 1) := by decide +kernel
theorem dX4_beginning_43 : decode cX4_beginning 43 = .ok (.iload 7, 2) := by decide +kernel
theorem dX4_beginning_45 : decode cX4_beginning 45 = .ok (.if_icmp .le 6, 3) := by decide +kernel
theorem dX4_beginning_48 : decode cX4_beginning 48 = .ok (.iload_n 1, 1) := by decide +kernel
theorem dX4_beginning_49 : decode cX4_beginning 49 = .ok (.istore 7, 2) := by decide +kernel
theorem dX4_beginning_51 : decode cX4_beginning 51 = .ok (.aload_n 0, 1) := by decide +kernel
theorem dX4_beginning_52 : decode cX4_beginning 52 = .ok (.getfield 22, 3) := by decide +kernel
theorem dX4_beginning_55 : decode cX4_beginning 55 = .ok (.iload 6, 2) := by decide +kernel
theorem dX4_beginning_57 : decode cX4_beginning 57 = .ok (.iaload, 1) := by decide +kernel
theorem dX4_beginning_58 : decode cX4_beginning 58 = .ok (.iconst 1, 1) := by decide +kernel
theorem dX4_beginning_59 : decode cX4_beginning 59 = .ok (.isub, 1) := by decide +kernel
theorem dX4_beginning_60 : decode cX4_beginning 60 = .ok (.istore 8, 2) := by decide +kernel
theorem dX4_beginning_62 : decode cX4_beginning 62 = .ok (.iload 8, 2) := by decide +kernel
theorem dX4_beginning_64 : decode cX4_beginning 64 = .ok (.iload_n 3, 1) := by decide +kernel
theorem dX4_beginning_65 : decode cX4_beginning 65 = .ok (.if_icmp .ge 105, 3) := by decide +kernel
theorem dX4_beginning_68 : decode cX4_beginning 68 = .ok (.iload 8, 2) := by decide +kernel
theorem dX4_beginning_70 : decode cX4_beginning 70 = .ok (.aload_n 2, 1) := by decide +kernel
theorem dX4_beginning_71 : decode cX4_beginning 71 = .ok (.arraylength, 1) := by decide +kernel
theorem dX4_beginning_72 : decode cX4_beginning 72 = .ok (.if_icmp .lt 6, 3) := by decide +kernel
theorem dX4_beginning_75 : decode cX4_beginning 75 = .ok (.goto 95, 3) := by decide +kernel
theorem dX4_beginning_78 : decode cX4_beginning 78 = .ok (.iload 8, 2) := by decide +kernel
theorem dX4_beginning_80 : decode cX4_beginning 80 = .ok (.ifCond .lt 18, 3) := by decide +kernel
theorem dX4_beginning_83 : decode cX4_beginning 83 = .ok (.aload_n 2, 1) := by decide +kernel
theorem dX4_beginning_84 : decode cX4_beginning 84 = .ok (.iload 8, 2) := by decide +kernel
theorem dX4_beginning_86 : decode cX4_beginning 86 = .ok (.iaload, 1) := by decide +kernel
theorem dX4_beginning_87 : decode cX4_beginning 87 = .ok (.iload 7, 2) := by decide +kernel
theorem dX4_beginning_89 : decode cX4_beginning 89 = .ok (.if_icmp .le 9, 3) := by decide +kernel
theorem dX4_beginning_92 : decode cX4_beginning 92 = .ok (.aload_n 2, 1) := by decide +kernel
theorem dX4_beginning_93 : decode cX4_beginning 93 = .ok (.iload 8, 2) := by decide +kernel
theorem dX4_beginning_95 : decode cX4_beginning 95 = .ok (.iaload, 1) := by decide +kernel
theorem dX4_beginning_96 : decode cX4_beginning 96 = .ok (.istore 7, 2) := by decide +kernel
theorem dX4_beginning_98 : decode cX4_beginning 98 = .ok (.aload_n 0, 1) := by decide +kernel
theorem dX4_beginning_99 : decode cX4_beginning 99 = .ok (.getfield 25, 3) := by decide +kernel
theorem dX4_beginning_102 : decode cX4_beginning 102 = .ok (.iload 6, 2) := by decide +kernel
theorem dX4_beginning_104 : decode cX4_beginning 104 = .ok (.iaload, 1) := by decide +kernel
theorem dX4_beginning_105 : decode cX4_beginning 105 = .ok (.istore 9, 2) := by decide +kernel
theorem dX4_beginning_107 : decode cX4_beginning 107 = .ok (.iconst 0, 1) := by decide +kernel
theorem dX4_beginning_108 : decode cX4_beginning 108 = .ok (.istore 10, 2) := by decide +kernel
theorem dX4_beginning_110 : decode cX4_beginning 110 = .ok (.iload 9, 2) := by decide +kernel
theorem dX4_beginning_112 : decode cX4_beginning 112 = .ok (.ifCond .eq 47, 3) := by decide +kernel
theorem dX4_beginning_115 : decode cX4_beginning 115 = .ok (.iload 10, 2) := by decide +kernel
theorem dX4_beginning_117 : decode cX4_beginning 117 = .ok (.aload 4, 2) := by decide +kernel
theorem dX4_beginning_119 : decode cX4_beginning 119 = .ok (.arraylength, 1) := by decide +kernel
theorem dX4_beginning_120 : decode cX4_beginning 120 = .ok (.if_icmp .ge 39, 3) := by decide +kernel
theorem dX4_beginning_123 : decode cX4_beginning 123 = .ok (.iload 9, 2) := by decide +kernel
theorem dX4_beginning_125 : decode cX4_beginning 125 = .ok (.iconst 1, 1) := by decide +kernel
theorem dX4_beginning_126 : decode cX4_beginning 126 = .ok (.iand, 1) := by decide +kernel
theorem dX4_beginning_127 : decode cX4_beginning 127 = .ok (.ifCond .eq 20, 3) := by decide +kernel
theorem dX4_beginning_130 : decode cX4_beginning 130 = .ok (.aload 4, 2) := by decide +kernel
theorem dX4_beginning_132 : decode cX4_beginning 132 = .ok (.iload 10, 2) := by decide +kernel
theorem dX4_beginning_134 : decode cX4_beginning 134 = .ok (.iaload, 1) := by decide +kernel
theorem dX4_beginning_135 : decode cX4_beginning 135 = .ok (.iload 7, 2) := by decide +kernel
theorem dX4_beginning_137 : decode cX4_beginning 137 = .ok (.if_icmp .le 10, 3) := by decide +kernel
theorem dX4_beginning_140 : decode cX4_beginning 140 = .ok (.aload 4, 2) := by decide +kernel
theorem dX4_beginning_142 : decode cX4_beginning 142 = .ok (.iload 10, 2) := by decide +kernel
theorem dX4_beginning_144 : decode cX4_beginning 144 = .ok (.iaload, 1) := by decide +kernel
theorem dX4_beginning_145 : decode cX4_beginning 145 = .ok (.istore 7, 2) := by decide +kernel
theorem dX4_beginning_147 : decode cX4_beginning 147 = .ok (.iload 9, 2) := by decide +kernel
theorem dX4_beginning_149 : decode cX4_beginning 149 = .ok (.iconst 1, 1) := by decide +kernel
theorem dX4_beginning_150 : decode cX4_beginning 150 = .ok (.iushr, 1) := by decide +kernel
theorem dX4_beginning_151 : decode cX4_beginning 151 = .ok (.istore 9, 2) := by decide +kernel
theorem dX4_beginning_153 : decode cX4_beginning 153 = .ok (.iinc 10 1, 3) := by decide +kernel
theorem dX4_beginning_156 : decode cX4_beginning 156 = .ok (.goto (-46), 3) := by decide +kernel
theorem dX4_beginning_159 : decode cX4_beginning 159 = .ok (.iload 7, 2) := by decide +kernel
theorem dX4_beginning_161 : decode cX4_beginning 161 = .ok (.iload 5, 2) := by decide +kernel
theorem dX4_beginning_163 : decode cX4_beginning 163 = .ok (.if_icmp .ge 7, 3) := by decide +kernel
theorem dX4_beginning_166 : decode cX4_beginning 166 = .ok (.iload 7, 2) := by decide +kernel
theorem dX4_beginning_168 : decode cX4_beginning 168 = .ok (.istore 5, 2) := by decide +kernel
theorem dX4_beginning_170 : decode cX4_beginning 170 = .ok (.iinc 6 1, 3) := by decide +kernel
theorem dX4_beginning_173 : decode cX4_beginning 173 = .ok (.goto (-166), 3) := by decide +kernel
theorem dX4_beginning_176 : decode cX4_beginning 176 = .ok (.iload 5, 2) := by decide +kernel
theorem dX4_beginning_178 : decode cX4_beginning 178 = .ok (.ireturn, 1) := by decide +kernel
theorem dX5_init_0 : decode cX5_init 0 = .ok (.aload_n 0, 1) := by decide +kernel
theorem dX5_init_1 : decode cX5_init 1 = .ok (.invokespecial 3, 3) := by decide +kernel
theorem dX5_init_4 : decode cX5_init 4 = .ok (.aload_n 0, 1) := by decide +kernel
theorem dX5_init_5 : decode cX5_init 5 = .ok (.iconst 4, 1) := by decide +kernel
theorem dX5_init_6 : decode cX5_init 6 = .ok (.bipush 64, 2) := by decide +kernel
theorem dX5_init_8 : decode cX5_init 8 = .ok (.multianewarray 9 2, 4) := by decide +kernel
theorem dX5_init_12 : decode cX5_init 12 = .ok (.putfield 11, 3) := by decide +kernel
theorem dX5_init_15 : decode cX5_init 15 = .ok (.aload_n 0, 1) := by decide +kernel
theorem dX5_init_16 : decode cX5_init 16 = .ok (.iconst 4, 1) := by decide +kernel
theorem dX5_init_17 : decode cX5_init 17 = .ok (.newarray .int, 2) := by decide +kernel
theorem dX5_init_19 : decode cX5_init 19 = .ok (.putfield 16, 3) := by decide +kernel
theorem dX5_init_22 : decode cX5_init 22 = .ok (.aload_n 0, 1) := by decide +kernel
theorem dX5_init_23 : decode cX5_init 23 = .ok (.iconst 4, 1) := by decide +kernel
theorem dX5_init_24 : decode cX5_init 24 = .ok (.newarray .int, 2) := by decide +kernel
theorem dX5_init_26 : decode cX5_init 26 = .ok (.putfield 20, 3) := by decide +kernel
theorem dX5_init_29 : decode cX5_init 29 = .ok (.iconst 0, 1) := by decide +kernel
theorem dX5_init_30 : decode cX5_init 30 = .ok (.istore_n 1, 1) := by decide +kernel
theorem dX5_init_31 : decode cX5_init 31 = .ok (.iload_n 1, 1) := by decide +kernel
theorem dX5_init_32 : decode cX5_init 32 = .ok (.iconst 4, 1) := by decide +kernel
theorem dX5_init_33 : decode cX5_init 33 = .ok (.if_icmp .ge 16, 3) := by decide +kernel
theorem dX5_init_36 : decode cX5_init 36 = .ok (.aload_n 0, 1) := by decide +kernel
theorem dX5_init_37 : decode cX5_init 37 = .ok (.getfield 16, 3) := by decide +kernel
theorem dX5_init_40 : decode cX5_init 40 = .ok (.iload_n 1, 1) := by decide +kernel
theorem dX5_init_41 : decode cX5_init 41 = .ok (.iconst (-1), 1) := by decide +kernel
theorem dX5_init_42 : decode cX5_init 42 = .ok (.iastore, 1) := by decide +kernel
theorem dX5_init_43 : decode cX5_init 43 = .ok (.iinc 1 1, 3) := by decide +kernel
theorem dX5_init_46 : decode cX5_init 46 = .ok (.goto (-15), 3) := by decide +kernel
theorem dX5_init_49 : decode cX5_init 49 = .ok (.return_, 1) := by decide +kernel
theorem dX5_finds_0 : decode cX5_finds 0 = .ok (.aload_n 0, 1) := by decide +kernel
theorem dX5_finds_1 : decode cX5_finds 1 = .ok (.iload_n 1, 1) := by decide +kernel
theorem dX5_finds_2 : decode cX5_finds 2 = .ok (.putfield 23, 3) := by decide +kernel
theorem dX5_finds_5 : decode cX5_finds 5 = .ok (.bipush (-10), 2) := by decide +kernel
theorem dX5_finds_7 : decode cX5_finds 7 = .ok (.iload_n 1, 1) := by decide +kernel
theorem dX5_finds_8 : decode cX5_finds 8 = .ok (.isub, 1) := by decide +kernel
theorem dX5_finds_9 : decode cX5_finds 9 = .ok (.ireturn, 1) := by decide +kernel
theorem dX5_isGone_0 : decode cX5_isGone 0 = .ok (.aload_n 0, 1) := by decide +kernel
theorem dX5_isGone_1 : decode cX5_isGone 1 = .ok (.getfield 16, 3) := by decide +kernel
theorem dX5_isGone_4 : decode cX5_isGone 4 = .ok (.iload_n 1, 1) := by decide +kernel
theorem dX5_isGone_5 : decode cX5_isGone 5 = .ok (.iaload, 1) := by decide +kernel
theorem dX5_isGone_6 : decode cX5_isGone 6 = .ok (.iconst (-1), 1) := by decide +kernel
theorem dX5_isGone_7 : decode cX5_isGone 7 = .ok (.if_icmp .ne 7, 3) := by decide +kernel
theorem dX5_isGone_10 : decode cX5_isGone 10 = .ok (.iconst 1, 1) := by decide +kernel
theorem dX5_isGone_11 : decode cX5_isGone 11 = .ok (.goto 4, 3) := by decide +kernel
theorem dX5_isGone_14 : decode cX5_isGone 14 = .ok (.iconst 0, 1) := by decide +kernel
theorem dX5_isGone_15 : decode cX5_isGone 15 = .ok (.ireturn, 1) := by decide +kernel
theorem dX5_lay_0 : decode cX5_lay 0 = .ok (.aload_n 0, 1) := by decide +kernel
theorem dX5_lay_1 : decode cX5_lay 1 = .ok (.getfield 16, 3) := by decide +kernel
theorem dX5_lay_4 : decode cX5_lay 4 = .ok (.iload_n 1, 1) := by decide +kernel
theorem dX5_lay_5 : decode cX5_lay 5 = .ok (.iload_n 2, 1) := by decide +kernel
theorem dX5_lay_6 : decode cX5_lay 6 = .ok (.iastore, 1) := by decide +kernel
theorem dX5_lay_7 : decode cX5_lay 7 = .ok (.aload_n 0, 1) := by decide +kernel
theorem dX5_lay_8 : decode cX5_lay 8 = .ok (.getfield 20, 3) := by decide +kernel
theorem dX5_lay_11 : decode cX5_lay 11 = .ok (.iload_n 1, 1) := by decide +kernel
theorem dX5_lay_12 : decode cX5_lay 12 = .ok (.iload_n 3, 1) := by decide +kernel
theorem dX5_lay_13 : decode cX5_lay 13 = .ok (.iastore, 1) := by decide +kernel
theorem dX5_lay_14 : decode cX5_lay 14 = .ok (.iconst 0, 1) := by decide +kernel
theorem dX5_lay_15 : decode cX5_lay 15 = .ok (.istore 4, 2) := by decide +kernel
theorem dX5_lay_17 : decode cX5_lay 17 = .ok (.iload 4, 2) := by decide +kernel
theorem dX5_lay_19 : decode cX5_lay 19 = .ok (.bipush 64, 2) := by decide +kernel
theorem dX5_lay_21 : decode cX5_lay 21 = .ok (.if_icmp .ge 19, 3) := by decide +kernel
theorem dX5_lay_24 : decode cX5_lay 24 = .ok (.aload_n 0, 1) := by decide +kernel
theorem dX5_lay_25 : decode cX5_lay 25 = .ok (.getfield 11, 3) := by decide +kernel
theorem dX5_lay_28 : decode cX5_lay 28 = .ok (.iload_n 1, 1) := by decide +kernel
theorem dX5_lay_29 : decode cX5_lay 29 = .ok (.aaload, 1) := by decide +kernel
theorem dX5_lay_30 : decode cX5_lay 30 = .ok (.iload 4, 2) := by decide +kernel
theorem dX5_lay_32 : decode cX5_lay 32 = .ok (.iconst 0, 1) := by decide +kernel
theorem dX5_lay_33 : decode cX5_lay 33 = .ok (.iastore, 1) := by decide +kernel
theorem dX5_lay_34 : decode cX5_lay 34 = .ok (.iinc 4 1, 3) := by decide +kernel
theorem dX5_lay_37 : decode cX5_lay 37 = .ok (.goto (-20), 3) := by decide +kernel
theorem dX5_lay_40 : decode cX5_lay 40 = .ok (.return_, 1) := by decide +kernel
theorem dX5_drop_0 : decode cX5_drop 0 = .ok (.aload_n 0, 1) := by decide +kernel
theorem dX5_drop_1 : decode cX5_drop 1 = .ok (.getfield 16, 3) := by decide +kernel
theorem dX5_drop_4 : decode cX5_drop 4 = .ok (.iload_n 1, 1) := by decide +kernel
theorem dX5_drop_5 : decode cX5_drop 5 = .ok (.iconst (-1), 1) := by decide +kernel
theorem dX5_drop_6 : decode cX5_drop 6 = .ok (.iastore, 1) := by decide +kernel
theorem dX5_drop_7 : decode cX5_drop 7 = .ok (.aload_n 0, 1) := by decide +kernel
theorem dX5_drop_8 : decode cX5_drop 8 = .ok (.getfield 20, 3) := by decide +kernel
theorem dX5_drop_11 : decode cX5_drop 11 = .ok (.iload_n 1, 1) := by decide +kernel
theorem dX5_drop_12 : decode cX5_drop 12 = .ok (.iconst 0, 1) := by decide +kernel
theorem dX5_drop_13 : decode cX5_drop 13 = .ok (.iastore, 1) := by decide +kernel
theorem dX5_drop_14 : decode cX5_drop 14 = .ok (.return_, 1) := by decide +kernel
theorem dX5_findingAt_0 : decode cX5_findingAt 0 = .ok (.aload_n 0, 1) := by decide +kernel
theorem dX5_findingAt_1 : decode cX5_findingAt 1 = .ok (.iload_n 1, 1) := by decide +kernel
theorem dX5_findingAt_2 : decode cX5_findingAt 2 = .ok (.invokevirtual 27, 3) := by decide +kernel
theorem dX5_findingAt_5 : decode cX5_findingAt 5 = .ok (.ifCond .eq 5, 3) := by decide +kernel
theorem dX5_findingAt_8 : decode cX5_findingAt 8 = .ok (.iconst 1, 1) := by decide +kernel
theorem dX5_findingAt_9 : decode cX5_findingAt 9 = .ok (.ireturn, 1) := by decide +kernel
theorem dX5_findingAt_10 : decode cX5_findingAt 10 = .ok (.aload_n 0, 1) := by decide +kernel
theorem dX5_findingAt_11 : decode cX5_findingAt 11 = .ok (.getfield 16, 3) := by decide +kernel
theorem dX5_findingAt_14 : decode cX5_findingAt 14 = .ok (.iload_n 1, 1) := by decide +kernel
theorem dX5_findingAt_15 : decode cX5_findingAt 15 = .ok (.iaload, 1) := by decide +kernel
theorem dX5_findingAt_16 : decode cX5_findingAt 16 = .ok (.iload_n 2, 1) := by decide +kernel
theorem dX5_findingAt_17 : decode cX5_findingAt 17 = .ok (.if_icmp .eq 5, 3) := by decide +kernel
theorem dX5_findingAt_20 : decode cX5_findingAt 20 = .ok (.iconst 3, 1) := by decide +kernel
theorem dX5_findingAt_21 : decode cX5_findingAt 21 = .ok (.ireturn, 1) := by decide +kernel
theorem dX5_findingAt_22 : decode cX5_findingAt 22 = .ok (.iload_n 3, 1) := by decide +kernel
theorem dX5_findingAt_23 : decode cX5_findingAt 23 = .ok (.ifCond .lt 19, 3) := by decide +kernel
theorem dX5_findingAt_26 : decode cX5_findingAt 26 = .ok (.iload_n 3, 1) := by decide +kernel
theorem dX5_findingAt_27 : decode cX5_findingAt 27 = .ok (.aload_n 0, 1) := by decide +kernel
theorem dX5_findingAt_28 : decode cX5_findingAt 28 = .ok (.getfield 20, 3) := by decide +kernel
theorem dX5_findingAt_31 : decode cX5_findingAt 31 = .ok (.iload_n 1, 1) := by decide +kernel
theorem dX5_findingAt_32 : decode cX5_findingAt 32 = .ok (.iaload, 1) := by decide +kernel
theorem dX5_findingAt_33 : decode cX5_findingAt 33 = .ok (.if_icmp .ge 9, 3) := by decide +kernel
theorem dX5_findingAt_36 : decode cX5_findingAt 36 = .ok (.iload_n 3, 1) := by decide +kernel
theorem dX5_findingAt_37 : decode cX5_findingAt 37 = .ok (.bipush 64, 2) := by decide +kernel
theorem dX5_findingAt_39 : decode cX5_findingAt 39 = .ok (.if_icmp .lt 7, 3) := by decide +kernel
theorem dX5_findingAt_42 : decode cX5_findingAt 42 = .ok (.iconst 2, 1) := by decide +kernel
theorem dX5_findingAt_43 : decode cX5_findingAt 43 = .ok (.goto 4, 3) := by decide +kernel
theorem dX5_findingAt_46 : decode cX5_findingAt 46 = .ok (.iconst 0, 1) := by decide +kernel
theorem dX5_findingAt_47 : decode cX5_findingAt 47 = .ok (.ireturn, 1) := by decide +kernel
theorem dX5_hasItems_0 : decode cX5_hasItems 0 = .ok (.iload_n 2, 1) := by decide +kernel
theorem dX5_hasItems_1 : decode cX5_hasItems 1 = .ok (.ifCond .lt 29, 3) := by decide +kernel
theorem dX5_hasItems_4 : decode cX5_hasItems 4 = .ok (.iload_n 2, 1) := by decide +kernel
theorem dX5_hasItems_5 : decode cX5_hasItems 5 = .ok (.aload_n 0, 1) := by decide +kernel
theorem dX5_hasItems_6 : decode cX5_hasItems 6 = .ok (.getfield 20, 3) := by decide +kernel
theorem dX5_hasItems_9 : decode cX5_hasItems 9 = .ok (.iload_n 1, 1) := by decide +kernel
theorem dX5_hasItems_10 : decode cX5_hasItems 10 = .ok (.iaload, 1) := by decide +kernel
theorem dX5_hasItems_11 : decode cX5_hasItems 11 = .ok (.if_icmp .gt 19, 3) := by decide +kernel
theorem dX5_hasItems_14 : decode cX5_hasItems 14 = .ok (.iload_n 3, 1) := by decide +kernel
theorem dX5_hasItems_15 : decode cX5_hasItems 15 = .ok (.aload_n 0, 1) := by decide +kernel
theorem dX5_hasItems_16 : decode cX5_hasItems 16 = .ok (.getfield 20, 3) := by decide +kernel
theorem dX5_hasItems_19 : decode cX5_hasItems 19 = .ok (.iload_n 1, 1) := by decide +kernel
theorem dX5_hasItems_20 : decode cX5_hasItems 20 = .ok (.iaload, 1) := by decide +kernel
theorem dX5_hasItems_21 : decode cX5_hasItems 21 = .ok (.iload_n 2, 1) := by decide +kernel
theorem dX5_hasItems_22 : decode cX5_hasItems 22 = .ok (.isub, 1) := by decide +kernel
theorem dX5_hasItems_23 : decode cX5_hasItems 23 = .ok (.if_icmp .gt 7, 3) := by decide +kernel
theorem dX5_hasItems_26 : decode cX5_hasItems 26 = .ok (.iconst 1, 1) := by decide +kernel
theorem dX5_hasItems_27 : decode cX5_hasItems 27 = .ok (.goto 4, 3) := by decide +kernel
theorem dX5_hasItems_30 : decode cX5_hasItems 30 = .ok (.iconst 0, 1) := by decide +kernel
theorem dX5_hasItems_31 : decode cX5_hasItems 31 = .ok (.ireturn, 1) := by decide +kernel
theorem dX5_lowest_0 : decode cX5_lowest 0 = .ok (.iload_n 1, 1) := by decide +kernel
theorem dX5_lowest_1 : decode cX5_lowest 1 = .ok (.ifCond .ne 6, 3) := by decide +kernel
theorem dX5_lowest_4 : decode cX5_lowest 4 = .ok (.iload_n 2, 1) := by decide +kernel
theorem dX5_lowest_5 : decode cX5_lowest 5 = .ok (.i2b, 1) := by decide +kernel
theorem dX5_lowest_6 : decode cX5_lowest 6 = .ok (.ireturn, 1) := by decide +kernel
theorem dX5_lowest_7 : decode cX5_lowest 7 = .ok (.iload_n 1, 1) := by decide +kernel
theorem dX5_lowest_8 : decode cX5_lowest 8 = .ok (.iconst 1, 1) := by decide +kernel
theorem dX5_lowest_9 : decode cX5_lowest 9 = .ok (.if_icmp .ne 8, 3) := by decide +kernel
theorem dX5_lowest_12 : decode cX5_lowest 12 = .ok (.iload_n 2, 1) := by decide +kernel
theorem dX5_lowest_13 : decode cX5_lowest 13 = .ok (.i2s, 1) := by decide +kernel
theorem dX5_lowest_14 : decode cX5_lowest 14 = .ok (.goto 4, 3) := by decide +kernel
theorem dX5_lowest_17 : decode cX5_lowest 17 = .ok (.iload_n 2, 1) := by decide +kernel
theorem dX5_lowest_18 : decode cX5_lowest 18 = .ok (.ireturn, 1) := by decide +kernel
theorem dX6_init_0 : decode cX6_init 0 = .ok (.aload_n 0, 1) := by decide +kernel
theorem dX6_init_1 : decode cX6_init 1 = .ok (.invokespecial 3, 3) := by decide +kernel
theorem dX6_init_4 : decode cX6_init 4 = .ok (.aload_n 0, 1) := by decide +kernel
theorem dX6_init_5 : decode cX6_init 5 = .ok (.bipush 61, 2) := by decide +kernel
theorem dX6_init_7 : decode cX6_init 7 = .ok (.newarray .int, 2) := by decide +kernel
theorem dX6_init_9 : decode cX6_init 9 = .ok (.putfield 9, 3) := by decide +kernel
theorem dX6_init_12 : decode cX6_init 12 = .ok (.aload_n 0, 1) := by decide +kernel
theorem dX6_init_13 : decode cX6_init 13 = .ok (.bipush 61, 2) := by decide +kernel
theorem dX6_init_15 : decode cX6_init 15 = .ok (.newarray .long, 2) := by decide +kernel
theorem dX6_init_17 : decode cX6_init 17 = .ok (.putfield 15, 3) := by decide +kernel
theorem dX6_init_20 : decode cX6_init 20 = .ok (.aload_n 0, 1) := by decide +kernel
theorem dX6_init_21 : decode cX6_init 21 = .ok (.aload_n 1, 1) := by decide +kernel
theorem dX6_init_22 : decode cX6_init 22 = .ok (.putfield 19, 3) := by decide +kernel
theorem dX6_init_25 : decode cX6_init 25 = .ok (.return_, 1) := by decide +kernel
theorem dX6_run_0 : decode cX6_run 0 = .ok (.aload_n 0, 1) := by decide +kernel
theorem dX6_run_1 : decode cX6_run 1 = .ok (.iconst (-1), 1) := by decide +kernel
theorem dX6_run_2 : decode cX6_run 2 = .ok (.putfield 23, 3) := by decide +kernel
theorem dX6_run_5 : decode cX6_run 5 = .ok (.aload_n 0, 1) := by decide +kernel
theorem dX6_run_6 : decode cX6_run 6 = .ok (.iconst (-1), 1) := by decide +kernel
theorem dX6_run_7 : decode cX6_run 7 = .ok (.putfield 27, 3) := by decide +kernel
theorem dX6_run_10 : decode cX6_run 10 = .ok (.iconst 0, 1) := by decide +kernel
theorem dX6_run_11 : decode cX6_run 11 = .ok (.istore_n 2, 1) := by decide +kernel
theorem dX6_run_12 : decode cX6_run 12 = .ok (.iload_n 2, 1) := by decide +kernel
theorem dX6_run_13 : decode cX6_run 13 = .ok (.iload_n 1, 1) := by decide +kernel
theorem dX6_run_14 : decode cX6_run 14 = .ok (.if_icmp .gt 55, 3) := by decide +kernel
theorem dX6_run_17 : decode cX6_run 17 = .ok (.iload_n 2, 1) := by decide +kernel
theorem dX6_run_18 : decode cX6_run 18 = .ok (.bipush 60, 2) := by decide +kernel
theorem dX6_run_20 : decode cX6_run 20 = .ok (.if_icmp .gt 49, 3) := by decide +kernel
theorem dX6_run_23 : decode cX6_run 23 = .ok (.aload_n 0, 1) := by decide +kernel
theorem dX6_run_24 : decode cX6_run 24 = .ok (.getfield 27, 3) := by decide +kernel
theorem dX6_run_27 : decode cX6_run 27 = .ok (.ifCond .le 31, 3) := by decide +kernel
theorem dX6_run_30 : decode cX6_run 30 = .ok (.aload_n 0, 1) := by decide +kernel
theorem dX6_run_31 : decode cX6_run 31 = .ok (.getfield 27, 3) := by decide +kernel
theorem dX6_run_34 : decode cX6_run 34 = .ok (.iload_n 2, 1) := by decide +kernel
theorem dX6_run_35 : decode cX6_run 35 = .ok (.if_icmp .gt 23, 3) := by decide +kernel
theorem dX6_run_38 : decode cX6_run 38 = .ok (.aload_n 0, 1) := by decide +kernel
theorem dX6_run_39 : decode cX6_run 39 = .ok (.getfield 9, 3) := by decide +kernel
theorem dX6_run_42 : decode cX6_run 42 = .ok (.iload_n 2, 1) := by decide +kernel
theorem dX6_run_43 : decode cX6_run 43 = .ok (.aload_n 0, 1) := by decide +kernel
theorem dX6_run_44 : decode cX6_run 44 = .ok (.getfield 9, 3) := by decide +kernel
theorem dX6_run_47 : decode cX6_run 47 = .ok (.iload_n 2, 1) := by decide +kernel
theorem dX6_run_48 : decode cX6_run 48 = .ok (.aload_n 0, 1) := by decide +kernel
theorem dX6_run_49 : decode cX6_run 49 = .ok (.getfield 27, 3) := by decide +kernel
theorem dX6_run_52 : decode cX6_run 52 = .ok (.isub, 1) := by decide +kernel
theorem dX6_run_53 : decode cX6_run 53 = .ok (.iaload, 1) := by decide +kernel
theorem dX6_run_54 : decode cX6_run 54 = .ok (.iastore, 1) := by decide +kernel
theorem dX6_run_55 : decode cX6_run 55 = .ok (.goto 8, 3) := by decide +kernel
theorem dX6_run_58 : decode cX6_run 58 = .ok (.aload_n 0, 1) := by decide +kernel
theorem dX6_run_59 : decode cX6_run 59 = .ok (.iload_n 2, 1) := by decide +kernel
theorem dX6_run_60 : decode cX6_run 60 = .ok (.invokevirtual 30, 3) := by decide +kernel
theorem dX6_run_63 : decode cX6_run 63 = .ok (.iinc 2 1, 3) := by decide +kernel
theorem dX6_run_66 : decode cX6_run 66 = .ok (.goto (-54), 3) := by decide +kernel
theorem dX6_run_69 : decode cX6_run 69 = .ok (.return_, 1) := by decide +kernel
theorem dX6_comesTo_0 : decode cX6_comesTo 0 = .ok (.iload_n 1, 1) := by decide +kernel
theorem dX6_comesTo_1 : decode cX6_comesTo 1 = .ok (.ifCond .le 10, 3) := by decide +kernel
theorem dX6_comesTo_4 : decode cX6_comesTo 4 = .ok (.aload_n 0, 1) := by decide +kernel
theorem dX6_comesTo_5 : decode cX6_comesTo 5 = .ok (.getfield 19, 3) := by decide +kernel
theorem dX6_comesTo_8 : decode cX6_comesTo 8 = .ok (.invokevirtual 34, 3) := by decide +kernel
theorem dX6_comesTo_11 : decode cX6_comesTo 11 = .ok (.aload_n 0, 1) := by decide +kernel
theorem dX6_comesTo_12 : decode cX6_comesTo 12 = .ok (.getfield 15, 3) := by decide +kernel
theorem dX6_comesTo_15 : decode cX6_comesTo 15 = .ok (.iload_n 1, 1) := by decide +kernel
theorem dX6_comesTo_16 : decode cX6_comesTo 16 = .ok (.aload_n 0, 1) := by decide +kernel
theorem dX6_comesTo_17 : decode cX6_comesTo 17 = .ok (.getfield 19, 3) := by decide +kernel
theorem dX6_comesTo_20 : decode cX6_comesTo 20 = .ok (.invokevirtual 39, 3) := by decide +kernel
theorem dX6_comesTo_23 : decode cX6_comesTo 23 = .ok (.lastore, 1) := by decide +kernel
theorem dX6_comesTo_24 : decode cX6_comesTo 24 = .ok (.aload_n 0, 1) := by decide +kernel
theorem dX6_comesTo_25 : decode cX6_comesTo 25 = .ok (.getfield 9, 3) := by decide +kernel
theorem dX6_comesTo_28 : decode cX6_comesTo 28 = .ok (.iload_n 1, 1) := by decide +kernel
theorem dX6_comesTo_29 : decode cX6_comesTo 29 = .ok (.aload_n 0, 1) := by decide +kernel
theorem dX6_comesTo_30 : decode cX6_comesTo 30 = .ok (.getfield 19, 3) := by decide +kernel
theorem dX6_comesTo_33 : decode cX6_comesTo 33 = .ok (.invokevirtual 43, 3) := by decide +kernel
theorem dX6_comesTo_36 : decode cX6_comesTo 36 = .ok (.iastore, 1) := by decide +kernel
theorem dX6_comesTo_37 : decode cX6_comesTo 37 = .ok (.iconst 0, 1) := by decide +kernel
theorem dX6_comesTo_38 : decode cX6_comesTo 38 = .ok (.istore_n 2, 1) := by decide +kernel
theorem dX6_comesTo_39 : decode cX6_comesTo 39 = .ok (.iload_n 2, 1) := by decide +kernel
theorem dX6_comesTo_40 : decode cX6_comesTo 40 = .ok (.iload_n 1, 1) := by decide +kernel
theorem dX6_comesTo_41 : decode cX6_comesTo 41 = .ok (.if_icmp .ge 38, 3) := by decide +kernel
theorem dX6_comesTo_44 : decode cX6_comesTo 44 = .ok (.aload_n 0, 1) := by decide +kernel
theorem dX6_comesTo_45 : decode cX6_comesTo 45 = .ok (.getfield 15, 3) := by decide +kernel
theorem dX6_comesTo_48 : decode cX6_comesTo 48 = .ok (.iload_n 2, 1) := by decide +kernel
theorem dX6_comesTo_49 : decode cX6_comesTo 49 = .ok (.laload, 1) := by decide +kernel
theorem dX6_comesTo_50 : decode cX6_comesTo 50 = .ok (.aload_n 0, 1) := by decide +kernel
theorem dX6_comesTo_51 : decode cX6_comesTo 51 = .ok (.getfield 15, 3) := by decide +kernel
theorem dX6_comesTo_54 : decode cX6_comesTo 54 = .ok (.iload_n 1, 1) := by decide +kernel
theorem dX6_comesTo_55 : decode cX6_comesTo 55 = .ok (.laload, 1) := by decide +kernel
theorem dX6_comesTo_56 : decode cX6_comesTo 56 = .ok (.lcmp, 1) := by decide +kernel
theorem dX6_comesTo_57 : decode cX6_comesTo 57 = .ok (.ifCond .ne 16, 3) := by decide +kernel
theorem dX6_comesTo_60 : decode cX6_comesTo 60 = .ok (.aload_n 0, 1) := by decide +kernel
theorem dX6_comesTo_61 : decode cX6_comesTo 61 = .ok (.iload_n 2, 1) := by decide +kernel
theorem dX6_comesTo_62 : decode cX6_comesTo 62 = .ok (.putfield 23, 3) := by decide +kernel
theorem dX6_comesTo_65 : decode cX6_comesTo 65 = .ok (.aload_n 0, 1) := by decide +kernel
theorem dX6_comesTo_66 : decode cX6_comesTo 66 = .ok (.iload_n 1, 1) := by decide +kernel
theorem dX6_comesTo_67 : decode cX6_comesTo 67 = .ok (.iload_n 2, 1) := by decide +kernel
theorem dX6_comesTo_68 : decode cX6_comesTo 68 = .ok (.isub, 1) := by decide +kernel
theorem dX6_comesTo_69 : decode cX6_comesTo 69 = .ok (.putfield 27, 3) := by decide +kernel
theorem dX6_comesTo_72 : decode cX6_comesTo 72 = .ok (.return_, 1) := by decide +kernel
theorem dX6_comesTo_73 : decode cX6_comesTo 73 = .ok (.iinc 2 1, 3) := by decide +kernel
theorem dX6_comesTo_76 : decode cX6_comesTo 76 = .ok (.goto (-37), 3) := by decide +kernel
theorem dX6_comesTo_79 : decode cX6_comesTo 79 = .ok (.return_, 1) := by decide +kernel
theorem dJ6_bitCount_0f7a4_0 : decode cJ6_bitCount_0f7a4 0 = .ok (.iload_n 0, 1) := by decide +kernel
theorem dJ6_bitCount_0f7a4_1 : decode cJ6_bitCount_0f7a4 1 = .ok (.iload_n 0, 1) := by decide +kernel
theorem dJ6_bitCount_0f7a4_2 : decode cJ6_bitCount_0f7a4 2 = .ok (.iconst 1, 1) := by decide +kernel
theorem dJ6_bitCount_0f7a4_3 : decode cJ6_bitCount_0f7a4 3 = .ok (.iushr, 1) := by decide +kernel
theorem dJ6_bitCount_0f7a4_4 : decode cJ6_bitCount_0f7a4 4 = .ok (.ldc_w 265, 3) := by decide +kernel
theorem dJ6_bitCount_0f7a4_7 : decode cJ6_bitCount_0f7a4 7 = .ok (.iand, 1) := by decide +kernel
theorem dJ6_bitCount_0f7a4_8 : decode cJ6_bitCount_0f7a4 8 = .ok (.isub, 1) := by decide +kernel
theorem dJ6_bitCount_0f7a4_9 : decode cJ6_bitCount_0f7a4 9 = .ok (.istore_n 0, 1) := by decide +kernel
theorem dJ6_bitCount_0f7a4_10 : decode cJ6_bitCount_0f7a4 10 = .ok (.iload_n 0, 1) := by decide +kernel
theorem dJ6_bitCount_0f7a4_11 : decode cJ6_bitCount_0f7a4 11 = .ok (.ldc_w 266, 3) := by decide +kernel
theorem dJ6_bitCount_0f7a4_14 : decode cJ6_bitCount_0f7a4 14 = .ok (.iand, 1) := by decide +kernel
theorem dJ6_bitCount_0f7a4_15 : decode cJ6_bitCount_0f7a4 15 = .ok (.iload_n 0, 1) := by decide +kernel
theorem dJ6_bitCount_0f7a4_16 : decode cJ6_bitCount_0f7a4 16 = .ok (.iconst 2, 1) := by decide +kernel
theorem dJ6_bitCount_0f7a4_17 : decode cJ6_bitCount_0f7a4 17 = .ok (.iushr, 1) := by decide +kernel
theorem dJ6_bitCount_0f7a4_18 : decode cJ6_bitCount_0f7a4 18 = .ok (.ldc_w 266, 3) := by decide +kernel
theorem dJ6_bitCount_0f7a4_21 : decode cJ6_bitCount_0f7a4 21 = .ok (.iand, 1) := by decide +kernel
theorem dJ6_bitCount_0f7a4_22 : decode cJ6_bitCount_0f7a4 22 = .ok (.iadd, 1) := by decide +kernel
theorem dJ6_bitCount_0f7a4_23 : decode cJ6_bitCount_0f7a4 23 = .ok (.istore_n 0, 1) := by decide +kernel
theorem dJ6_bitCount_0f7a4_24 : decode cJ6_bitCount_0f7a4 24 = .ok (.iload_n 0, 1) := by decide +kernel
theorem dJ6_bitCount_0f7a4_25 : decode cJ6_bitCount_0f7a4 25 = .ok (.iload_n 0, 1) := by decide +kernel
theorem dJ6_bitCount_0f7a4_26 : decode cJ6_bitCount_0f7a4 26 = .ok (.iconst 4, 1) := by decide +kernel
theorem dJ6_bitCount_0f7a4_27 : decode cJ6_bitCount_0f7a4 27 = .ok (.iushr, 1) := by decide +kernel
theorem dJ6_bitCount_0f7a4_28 : decode cJ6_bitCount_0f7a4 28 = .ok (.iadd, 1) := by decide +kernel
theorem dJ6_bitCount_0f7a4_29 : decode cJ6_bitCount_0f7a4 29 = .ok (.ldc_w 267, 3) := by decide +kernel
theorem dJ6_bitCount_0f7a4_32 : decode cJ6_bitCount_0f7a4 32 = .ok (.iand, 1) := by decide +kernel
theorem dJ6_bitCount_0f7a4_33 : decode cJ6_bitCount_0f7a4 33 = .ok (.istore_n 0, 1) := by decide +kernel
theorem dJ6_bitCount_0f7a4_34 : decode cJ6_bitCount_0f7a4 34 = .ok (.iload_n 0, 1) := by decide +kernel
theorem dJ6_bitCount_0f7a4_35 : decode cJ6_bitCount_0f7a4 35 = .ok (.iload_n 0, 1) := by decide +kernel
theorem dJ6_bitCount_0f7a4_36 : decode cJ6_bitCount_0f7a4 36 = .ok (.bipush 8, 2) := by decide +kernel
theorem dJ6_bitCount_0f7a4_38 : decode cJ6_bitCount_0f7a4 38 = .ok (.iushr, 1) := by decide +kernel
theorem dJ6_bitCount_0f7a4_39 : decode cJ6_bitCount_0f7a4 39 = .ok (.iadd, 1) := by decide +kernel
theorem dJ6_bitCount_0f7a4_40 : decode cJ6_bitCount_0f7a4 40 = .ok (.istore_n 0, 1) := by decide +kernel
theorem dJ6_bitCount_0f7a4_41 : decode cJ6_bitCount_0f7a4 41 = .ok (.iload_n 0, 1) := by decide +kernel
theorem dJ6_bitCount_0f7a4_42 : decode cJ6_bitCount_0f7a4 42 = .ok (.iload_n 0, 1) := by decide +kernel
theorem dJ6_bitCount_0f7a4_43 : decode cJ6_bitCount_0f7a4 43 = .ok (.bipush 16, 2) := by decide +kernel
theorem dJ6_bitCount_0f7a4_45 : decode cJ6_bitCount_0f7a4 45 = .ok (.iushr, 1) := by decide +kernel
theorem dJ6_bitCount_0f7a4_46 : decode cJ6_bitCount_0f7a4 46 = .ok (.iadd, 1) := by decide +kernel
theorem dJ6_bitCount_0f7a4_47 : decode cJ6_bitCount_0f7a4 47 = .ok (.istore_n 0, 1) := by decide +kernel
theorem dJ6_bitCount_0f7a4_48 : decode cJ6_bitCount_0f7a4 48 = .ok (.iload_n 0, 1) := by decide +kernel
theorem dJ6_bitCount_0f7a4_49 : decode cJ6_bitCount_0f7a4 49 = .ok (.bipush 63, 2) := by decide +kernel
theorem dJ6_bitCount_0f7a4_51 : decode cJ6_bitCount_0f7a4 51 = .ok (.iand, 1) := by decide +kernel
theorem dJ6_bitCount_0f7a4_52 : decode cJ6_bitCount_0f7a4 52 = .ok (.ireturn, 1) := by decide +kernel
theorem dJ9_abs_0f7a4_0 : decode cJ9_abs_0f7a4 0 = .ok (.iload_n 0, 1) := by decide +kernel
theorem dJ9_abs_0f7a4_1 : decode cJ9_abs_0f7a4 1 = .ok (.ifCond .ge 8, 3) := by decide +kernel
theorem dJ9_abs_0f7a4_4 : decode cJ9_abs_0f7a4 4 = .ok (.iload_n 0, 1) := by decide +kernel
theorem dJ9_abs_0f7a4_5 : decode cJ9_abs_0f7a4 5 = .ok (.ineg, 1) := by decide +kernel
theorem dJ9_abs_0f7a4_6 : decode cJ9_abs_0f7a4 6 = .ok (.goto 4, 3) := by decide +kernel
theorem dJ9_abs_0f7a4_9 : decode cJ9_abs_0f7a4 9 = .ok (.iload_n 0, 1) := by decide +kernel
theorem dJ9_abs_0f7a4_10 : decode cJ9_abs_0f7a4 10 = .ok (.ireturn, 1) := by decide +kernel
theorem dJ9_max_7cf53_0 : decode cJ9_max_7cf53 0 = .ok (.iload_n 0, 1) := by decide +kernel
theorem dJ9_max_7cf53_1 : decode cJ9_max_7cf53 1 = .ok (.iload_n 1, 1) := by decide +kernel
theorem dJ9_max_7cf53_2 : decode cJ9_max_7cf53 2 = .ok (.if_icmp .lt 7, 3) := by decide +kernel
theorem dJ9_max_7cf53_5 : decode cJ9_max_7cf53 5 = .ok (.iload_n 0, 1) := by decide +kernel
theorem dJ9_max_7cf53_6 : decode cJ9_max_7cf53 6 = .ok (.goto 4, 3) := by decide +kernel
theorem dJ9_max_7cf53_9 : decode cJ9_max_7cf53 9 = .ok (.iload_n 1, 1) := by decide +kernel
theorem dJ9_max_7cf53_10 : decode cJ9_max_7cf53 10 = .ok (.ireturn, 1) := by decide +kernel
theorem dJ9_min_7cf53_0 : decode cJ9_min_7cf53 0 = .ok (.iload_n 0, 1) := by decide +kernel
theorem dJ9_min_7cf53_1 : decode cJ9_min_7cf53 1 = .ok (.iload_n 1, 1) := by decide +kernel
theorem dJ9_min_7cf53_2 : decode cJ9_min_7cf53 2 = .ok (.if_icmp .gt 7, 3) := by decide +kernel
theorem dJ9_min_7cf53_5 : decode cJ9_min_7cf53 5 = .ok (.iload_n 0, 1) := by decide +kernel
theorem dJ9_min_7cf53_6 : decode cJ9_min_7cf53 6 = .ok (.goto 4, 3) := by decide +kernel
theorem dJ9_min_7cf53_9 : decode cJ9_min_7cf53 9 = .ok (.iload_n 1, 1) := by decide +kernel
theorem dJ9_min_7cf53_10 : decode cJ9_min_7cf53 10 = .ok (.ireturn, 1) := by decide +kernel
end
section
theorem dX7_init_0 : decode cX7_init 0 = .ok (.aload_n 0, 1) := by decide +kernel
theorem dX7_init_1 : decode cX7_init 1 = .ok (.invokespecial 5, 3) := by decide +kernel
theorem dX7_init_4 : decode cX7_init 4 = .ok (.aload_n 0, 1) := by decide +kernel
theorem dX7_init_5 : decode cX7_init 5 = .ok (.new 11, 3) := by decide +kernel
theorem dX7_init_8 : decode cX7_init 8 = .ok (.dup, 1) := by decide +kernel
theorem dX7_init_9 : decode cX7_init 9 = .ok (.invokespecial 13, 3) := by decide +kernel
theorem dX7_init_12 : decode cX7_init 12 = .ok (.putfield 14, 3) := by decide +kernel
theorem dX7_init_15 : decode cX7_init 15 = .ok (.aload_n 0, 1) := by decide +kernel
theorem dX7_init_16 : decode cX7_init 16 = .ok (.new 18, 3) := by decide +kernel
theorem dX7_init_19 : decode cX7_init 19 = .ok (.dup, 1) := by decide +kernel
theorem dX7_init_20 : decode cX7_init 20 = .ok (.invokespecial 20, 3) := by decide +kernel
theorem dX7_init_23 : decode cX7_init 23 = .ok (.putfield 21, 3) := by decide +kernel
theorem dX7_init_26 : decode cX7_init 26 = .ok (.aload_n 0, 1) := by decide +kernel
theorem dX7_init_27 : decode cX7_init 27 = .ok (.new 25, 3) := by decide +kernel
theorem dX7_init_30 : decode cX7_init 30 = .ok (.dup, 1) := by decide +kernel
theorem dX7_init_31 : decode cX7_init 31 = .ok (.aload_n 0, 1) := by decide +kernel
theorem dX7_init_32 : decode cX7_init 32 = .ok (.getfield 14, 3) := by decide +kernel
theorem dX7_init_35 : decode cX7_init 35 = .ok (.aload_n 0, 1) := by decide +kernel
theorem dX7_init_36 : decode cX7_init 36 = .ok (.getfield 21, 3) := by decide +kernel
theorem dX7_init_39 : decode cX7_init 39 = .ok (.invokespecial 27, 3) := by decide +kernel
theorem dX7_init_42 : decode cX7_init 42 = .ok (.putfield 30, 3) := by decide +kernel
theorem dX7_init_45 : decode cX7_init 45 = .ok (.aload_n 0, 1) := by decide +kernel
theorem dX7_init_46 : decode cX7_init 46 = .ok (.new 25, 3) := by decide +kernel
theorem dX7_init_49 : decode cX7_init 49 = .ok (.dup, 1) := by decide +kernel
theorem dX7_init_50 : decode cX7_init 50 = .ok (.aload_n 0, 1) := by decide +kernel
theorem dX7_init_51 : decode cX7_init 51 = .ok (.getfield 14, 3) := by decide +kernel
theorem dX7_init_54 : decode cX7_init 54 = .ok (.aload_n 0, 1) := by decide +kernel
theorem dX7_init_55 : decode cX7_init 55 = .ok (.getfield 21, 3) := by decide +kernel
theorem dX7_init_58 : decode cX7_init 58 = .ok (.invokespecial 27, 3) := by decide +kernel
theorem dX7_init_61 : decode cX7_init 61 = .ok (.putfield 34, 3) := by decide +kernel
theorem dX7_init_64 : decode cX7_init 64 = .ok (.aload_n 0, 1) := by decide +kernel
theorem dX7_init_65 : decode cX7_init 65 = .ok (.new 37, 3) := by decide +kernel
theorem dX7_init_68 : decode cX7_init 68 = .ok (.dup, 1) := by decide +kernel
theorem dX7_init_69 : decode cX7_init 69 = .ok (.aload_n 0, 1) := by decide +kernel
theorem dX7_init_70 : decode cX7_init 70 = .ok (.getfield 34, 3) := by decide +kernel
theorem dX7_init_73 : decode cX7_init 73 = .ok (.invokespecial 39, 3) := by decide +kernel
theorem dX7_init_76 : decode cX7_init 76 = .ok (.putfield 42, 3) := by decide +kernel
theorem dX7_init_79 : decode cX7_init 79 = .ok (.aload_n 0, 1) := by decide +kernel
theorem dX7_init_80 : decode cX7_init 80 = .ok (.new 46, 3) := by decide +kernel
theorem dX7_init_83 : decode cX7_init 83 = .ok (.dup, 1) := by decide +kernel
theorem dX7_init_84 : decode cX7_init 84 = .ok (.aload_n 0, 1) := by decide +kernel
theorem dX7_init_85 : decode cX7_init 85 = .ok (.getfield 34, 3) := by decide +kernel
theorem dX7_init_88 : decode cX7_init 88 = .ok (.invokespecial 48, 3) := by decide +kernel
theorem dX7_init_91 : decode cX7_init 91 = .ok (.putfield 49, 3) := by decide +kernel
theorem dX7_init_94 : decode cX7_init 94 = .ok (.aload_n 0, 1) := by decide +kernel
theorem dX7_init_95 : decode cX7_init 95 = .ok (.new 53, 3) := by decide +kernel
theorem dX7_init_98 : decode cX7_init 98 = .ok (.dup, 1) := by decide +kernel
theorem dX7_init_99 : decode cX7_init 99 = .ok (.aload_n 0, 1) := by decide +kernel
theorem dX7_init_100 : decode cX7_init 100 = .ok (.getfield 14, 3) := by decide +kernel
theorem dX7_init_103 : decode cX7_init 103 = .ok (.aload_n 0, 1) := by decide +kernel
theorem dX7_init_104 : decode cX7_init 104 = .ok (.getfield 34, 3) := by decide +kernel
theorem dX7_init_107 : decode cX7_init 107 = .ok (.invokespecial 55, 3) := by decide +kernel
theorem dX7_init_110 : decode cX7_init 110 = .ok (.putfield 58, 3) := by decide +kernel
theorem dX7_init_113 : decode cX7_init 113 = .ok (.aload_n 0, 1) := by decide +kernel
theorem dX7_init_114 : decode cX7_init 114 = .ok (.new 62, 3) := by decide +kernel
theorem dX7_init_117 : decode cX7_init 117 = .ok (.dup, 1) := by decide +kernel
theorem dX7_init_118 : decode cX7_init 118 = .ok (.invokespecial 64, 3) := by decide +kernel
theorem dX7_init_121 : decode cX7_init 121 = .ok (.putfield 65, 3) := by decide +kernel
theorem dX7_init_124 : decode cX7_init 124 = .ok (.return_, 1) := by decide +kernel
theorem dX7_comer_0 : decode cX7_comer 0 = .ok (.iload_n 1, 1) := by decide +kernel
theorem dX7_comer_1 : decode cX7_comer 1 = .ok (.iload_n 2, 1) := by decide +kernel
theorem dX7_comer_2 : decode cX7_comer 2 = .ok (.iload_n 3, 1) := by decide +kernel
theorem dX7_comer_3 : decode cX7_comer 3 = .ok (.invokestatic 69, 3) := by decide +kernel
theorem dX7_comer_6 : decode cX7_comer 6 = .ok (.ifCond .ne 6, 3) := by decide +kernel
theorem dX7_comer_9 : decode cX7_comer 9 = .ok (.bipush (-2), 2) := by decide +kernel
theorem dX7_comer_11 : decode cX7_comer 11 = .ok (.ireturn, 1) := by decide +kernel
theorem dX7_comer_12 : decode cX7_comer 12 = .ok (.aload_n 0, 1) := by decide +kernel
theorem dX7_comer_13 : decode cX7_comer 13 = .ok (.getfield 14, 3) := by decide +kernel
theorem dX7_comer_16 : decode cX7_comer 16 = .ok (.getfield 73, 3) := by decide +kernel
theorem dX7_comer_19 : decode cX7_comer 19 = .ok (.istore 4, 2) := by decide +kernel
theorem dX7_comer_21 : decode cX7_comer 21 = .ok (.iload 4, 2) := by decide +kernel
theorem dX7_comer_23 : decode cX7_comer 23 = .ok (.ifCond .lt 10, 3) := by decide +kernel
theorem dX7_comer_26 : decode cX7_comer 26 = .ok (.iload 4, 2) := by decide +kernel
theorem dX7_comer_28 : decode cX7_comer 28 = .ok (.bipush 8, 2) := by decide +kernel
theorem dX7_comer_30 : decode cX7_comer 30 = .ok (.if_icmp .lt 6, 3) := by decide +kernel
theorem dX7_comer_33 : decode cX7_comer 33 = .ok (.bipush (-4), 2) := by decide +kernel
theorem dX7_comer_35 : decode cX7_comer 35 = .ok (.ireturn, 1) := by decide +kernel
theorem dX7_comer_36 : decode cX7_comer 36 = .ok (.aload_n 0, 1) := by decide +kernel
theorem dX7_comer_37 : decode cX7_comer 37 = .ok (.getfield 14, 3) := by decide +kernel
theorem dX7_comer_40 : decode cX7_comer 40 = .ok (.iload 4, 2) := by decide +kernel
theorem dX7_comer_42 : decode cX7_comer 42 = .ok (.iconst 1, 1) := by decide +kernel
theorem dX7_comer_43 : decode cX7_comer 43 = .ok (.iadd, 1) := by decide +kernel
theorem dX7_comer_44 : decode cX7_comer 44 = .ok (.putfield 73, 3) := by decide +kernel
theorem dX7_comer_47 : decode cX7_comer 47 = .ok (.aload_n 0, 1) := by decide +kernel
theorem dX7_comer_48 : decode cX7_comer 48 = .ok (.getfield 14, 3) := by decide +kernel
theorem dX7_comer_51 : decode cX7_comer 51 = .ok (.getfield 77, 3) := by decide +kernel
theorem dX7_comer_54 : decode cX7_comer 54 = .ok (.iload 4, 2) := by decide +kernel
theorem dX7_comer_56 : decode cX7_comer 56 = .ok (.iload_n 1, 1) := by decide +kernel
theorem dX7_comer_57 : decode cX7_comer 57 = .ok (.iconst 2, 1) := by decide +kernel
theorem dX7_comer_58 : decode cX7_comer 58 = .ok (.if_icmp .ne 7, 3) := by decide +kernel
theorem dX7_comer_61 : decode cX7_comer 61 = .ok (.iload_n 2, 1) := by decide +kernel
theorem dX7_comer_62 : decode cX7_comer 62 = .ok (.goto 4, 3) := by decide +kernel
theorem dX7_comer_65 : decode cX7_comer 65 = .ok (.iconst 0, 1) := by decide +kernel
theorem dX7_comer_66 : decode cX7_comer 66 = .ok (.iastore, 1) := by decide +kernel
theorem dX7_comer_67 : decode cX7_comer 67 = .ok (.aload_n 0, 1) := by decide +kernel
theorem dX7_comer_68 : decode cX7_comer 68 = .ok (.getfield 14, 3) := by decide +kernel
theorem dX7_comer_71 : decode cX7_comer 71 = .ok (.getfield 81, 3) := by decide +kernel
theorem dX7_comer_74 : decode cX7_comer 74 = .ok (.iload 4, 2) := by decide +kernel
theorem dX7_comer_76 : decode cX7_comer 76 = .ok (.iload_n 1, 1) := by decide +kernel
theorem dX7_comer_77 : decode cX7_comer 77 = .ok (.iconst 2, 1) := by decide +kernel
theorem dX7_comer_78 : decode cX7_comer 78 = .ok (.if_icmp .ne 7, 3) := by decide +kernel
theorem dX7_comer_81 : decode cX7_comer 81 = .ok (.iload_n 3, 1) := by decide +kernel
theorem dX7_comer_82 : decode cX7_comer 82 = .ok (.goto 4, 3) := by decide +kernel
theorem dX7_comer_85 : decode cX7_comer 85 = .ok (.iconst 0, 1) := by decide +kernel
theorem dX7_comer_86 : decode cX7_comer 86 = .ok (.iastore, 1) := by decide +kernel
theorem dX7_comer_87 : decode cX7_comer 87 = .ok (.aload_n 0, 1) := by decide +kernel
theorem dX7_comer_88 : decode cX7_comer 88 = .ok (.getfield 30, 3) := by decide +kernel
theorem dX7_comer_91 : decode cX7_comer 91 = .ok (.getfield 84, 3) := by decide +kernel
theorem dX7_comer_94 : decode cX7_comer 94 = .ok (.iload 4, 2) := by decide +kernel
theorem dX7_comer_96 : decode cX7_comer 96 = .ok (.iload_n 1, 1) := by decide +kernel
theorem dX7_comer_97 : decode cX7_comer 97 = .ok (.iastore, 1) := by decide +kernel
theorem dX7_comer_98 : decode cX7_comer 98 = .ok (.aload_n 0, 1) := by decide +kernel
theorem dX7_comer_99 : decode cX7_comer 99 = .ok (.getfield 30, 3) := by decide +kernel
theorem dX7_comer_102 : decode cX7_comer 102 = .ok (.getfield 87, 3) := by decide +kernel
theorem dX7_comer_105 : decode cX7_comer 105 = .ok (.iload 4, 2) := by decide +kernel
theorem dX7_comer_107 : decode cX7_comer 107 = .ok (.iload_n 1, 1) := by decide +kernel
theorem dX7_comer_108 : decode cX7_comer 108 = .ok (.ifCond .ne 7, 3) := by decide +kernel
theorem dX7_comer_111 : decode cX7_comer 111 = .ok (.iload_n 2, 1) := by decide +kernel
theorem dX7_comer_112 : decode cX7_comer 112 = .ok (.goto 4, 3) := by decide +kernel
theorem dX7_comer_115 : decode cX7_comer 115 = .ok (.iconst 0, 1) := by decide +kernel
theorem dX7_comer_116 : decode cX7_comer 116 = .ok (.iastore, 1) := by decide +kernel
theorem dX7_comer_117 : decode cX7_comer 117 = .ok (.iload 4, 2) := by decide +kernel
theorem dX7_comer_119 : decode cX7_comer 119 = .ok (.ireturn, 1) := by decide +kernel
theorem dX7_aim_0 : decode cX7_aim 0 = .ok (.aload_n 0, 1) := by decide +kernel
theorem dX7_aim_1 : decode cX7_aim 1 = .ok (.iload_n 1, 1) := by decide +kernel
theorem dX7_aim_2 : decode cX7_aim 2 = .ok (.invokevirtual 90, 3) := by decide +kernel
theorem dX7_aim_5 : decode cX7_aim 5 = .ok (.ifCond .eq 10, 3) := by decide +kernel
theorem dX7_aim_8 : decode cX7_aim 8 = .ok (.iload_n 2, 1) := by decide +kernel
theorem dX7_aim_9 : decode cX7_aim 9 = .ok (.invokestatic 94, 3) := by decide +kernel
theorem dX7_aim_12 : decode cX7_aim 12 = .ok (.ifCond .ne 6, 3) := by decide +kernel
theorem dX7_aim_15 : decode cX7_aim 15 = .ok (.bipush (-2), 2) := by decide +kernel
theorem dX7_aim_17 : decode cX7_aim 17 = .ok (.ireturn, 1) := by decide +kernel
theorem dX7_aim_18 : decode cX7_aim 18 = .ok (.aload_n 0, 1) := by decide +kernel
theorem dX7_aim_19 : decode cX7_aim 19 = .ok (.getfield 30, 3) := by decide +kernel
theorem dX7_aim_22 : decode cX7_aim 22 = .ok (.getfield 87, 3) := by decide +kernel
theorem dX7_aim_25 : decode cX7_aim 25 = .ok (.iload_n 1, 1) := by decide +kernel
theorem dX7_aim_26 : decode cX7_aim 26 = .ok (.iaload, 1) := by decide +kernel
theorem dX7_aim_27 : decode cX7_aim 27 = .ok (.istore_n 3, 1) := by decide +kernel
theorem dX7_aim_28 : decode cX7_aim 28 = .ok (.aload_n 0, 1) := by decide +kernel
theorem dX7_aim_29 : decode cX7_aim 29 = .ok (.getfield 30, 3) := by decide +kernel
theorem dX7_aim_32 : decode cX7_aim 32 = .ok (.getfield 87, 3) := by decide +kernel
theorem dX7_aim_35 : decode cX7_aim 35 = .ok (.iload_n 1, 1) := by decide +kernel
theorem dX7_aim_36 : decode cX7_aim 36 = .ok (.iload_n 2, 1) := by decide +kernel
theorem dX7_aim_37 : decode cX7_aim 37 = .ok (.iastore, 1) := by decide +kernel
theorem dX7_aim_38 : decode cX7_aim 38 = .ok (.iload_n 3, 1) := by decide +kernel
theorem dX7_aim_39 : decode cX7_aim 39 = .ok (.ireturn, 1) := by decide +kernel
theorem dX7_read_0 : decode cX7_read 0 = .ok (.iload_n 1, 1) := by decide +kernel
theorem dX7_read_1 : decode cX7_read 1 = .ok (.invokestatic 97, 3) := by decide +kernel
theorem dX7_read_4 : decode cX7_read 4 = .ok (.ifCond .ne 6, 3) := by decide +kernel
theorem dX7_read_7 : decode cX7_read 7 = .ok (.bipush (-2), 2) := by decide +kernel
theorem dX7_read_9 : decode cX7_read 9 = .ok (.ireturn, 1) := by decide +kernel
theorem dX7_read_10 : decode cX7_read 10 = .ok (.aload_n 0, 1) := by decide +kernel
theorem dX7_read_11 : decode cX7_read 11 = .ok (.getfield 65, 3) := by decide +kernel
theorem dX7_read_14 : decode cX7_read 14 = .ok (.iload_n 1, 1) := by decide +kernel
theorem dX7_read_15 : decode cX7_read 15 = .ok (.invokevirtual 100, 3) := by decide +kernel
theorem dX7_read_18 : decode cX7_read 18 = .ok (.ifCond .eq 12, 3) := by decide +kernel
theorem dX7_read_21 : decode cX7_read 21 = .ok (.aload_n 0, 1) := by decide +kernel
theorem dX7_read_22 : decode cX7_read 22 = .ok (.getfield 65, 3) := by decide +kernel
theorem dX7_read_25 : decode cX7_read 25 = .ok (.iconst 1, 1) := by decide +kernel
theorem dX7_read_26 : decode cX7_read 26 = .ok (.invokevirtual 103, 3) := by decide +kernel
theorem dX7_read_29 : decode cX7_read 29 = .ok (.ireturn, 1) := by decide +kernel
theorem dX7_read_30 : decode cX7_read 30 = .ok (.iconst 0, 1) := by decide +kernel
theorem dX7_read_31 : decode cX7_read 31 = .ok (.istore_n 2, 1) := by decide +kernel
theorem dX7_read_32 : decode cX7_read 32 = .ok (.iconst 0, 1) := by decide +kernel
theorem dX7_read_33 : decode cX7_read 33 = .ok (.istore_n 3, 1) := by decide +kernel
theorem dX7_read_34 : decode cX7_read 34 = .ok (.iload_n 3, 1) := by decide +kernel
theorem dX7_read_35 : decode cX7_read 35 = .ok (.bipush 8, 2) := by decide +kernel
theorem dX7_read_37 : decode cX7_read 37 = .ok (.if_icmp .ge 80, 3) := by decide +kernel
theorem dX7_read_40 : decode cX7_read 40 = .ok (.aload_n 0, 1) := by decide +kernel
theorem dX7_read_41 : decode cX7_read 41 = .ok (.getfield 30, 3) := by decide +kernel
theorem dX7_read_44 : decode cX7_read 44 = .ok (.getfield 84, 3) := by decide +kernel
theorem dX7_read_47 : decode cX7_read 47 = .ok (.iload_n 3, 1) := by decide +kernel
theorem dX7_read_48 : decode cX7_read 48 = .ok (.iaload, 1) := by decide +kernel
theorem dX7_read_49 : decode cX7_read 49 = .ok (.ifCond .eq 6, 3) := by decide +kernel
theorem dX7_read_52 : decode cX7_read 52 = .ok (.goto 59, 3) := by decide +kernel
theorem dX7_read_55 : decode cX7_read 55 = .ok (.iload_n 2, 1) := by decide +kernel
theorem dX7_read_56 : decode cX7_read 56 = .ok (.aload_n 0, 1) := by decide +kernel
theorem dX7_read_57 : decode cX7_read 57 = .ok (.getfield 65, 3) := by decide +kernel
theorem dX7_read_60 : decode cX7_read 60 = .ok (.getfield 107, 3) := by decide +kernel
theorem dX7_read_63 : decode cX7_read 63 = .ok (.iload_n 1, 1) := by decide +kernel
theorem dX7_read_64 : decode cX7_read 64 = .ok (.iaload, 1) := by decide +kernel
theorem dX7_read_65 : decode cX7_read 65 = .ok (.if_icmp .ge 52, 3) := by decide +kernel
theorem dX7_read_68 : decode cX7_read 68 = .ok (.aload_n 0, 1) := by decide +kernel
theorem dX7_read_69 : decode cX7_read 69 = .ok (.getfield 65, 3) := by decide +kernel
theorem dX7_read_72 : decode cX7_read 72 = .ok (.getfield 110, 3) := by decide +kernel
theorem dX7_read_75 : decode cX7_read 75 = .ok (.iload_n 1, 1) := by decide +kernel
theorem dX7_read_76 : decode cX7_read 76 = .ok (.aaload, 1) := by decide +kernel
theorem dX7_read_77 : decode cX7_read 77 = .ok (.iload_n 2, 1) := by decide +kernel
theorem dX7_read_78 : decode cX7_read 78 = .ok (.iaload, 1) := by decide +kernel
theorem dX7_read_79 : decode cX7_read 79 = .ok (.invokestatic 94, 3) := by decide +kernel
theorem dX7_read_82 : decode cX7_read 82 = .ok (.ifCond .ne 6, 3) := by decide +kernel
theorem dX7_read_85 : decode cX7_read 85 = .ok (.goto 32, 3) := by decide +kernel
theorem dX7_read_88 : decode cX7_read 88 = .ok (.aload_n 0, 1) := by decide +kernel
theorem dX7_read_89 : decode cX7_read 89 = .ok (.getfield 30, 3) := by decide +kernel
theorem dX7_read_92 : decode cX7_read 92 = .ok (.getfield 87, 3) := by decide +kernel
theorem dX7_read_95 : decode cX7_read 95 = .ok (.iload_n 3, 1) := by decide +kernel
theorem dX7_read_96 : decode cX7_read 96 = .ok (.aload_n 0, 1) := by decide +kernel
theorem dX7_read_97 : decode cX7_read 97 = .ok (.getfield 65, 3) := by decide +kernel
theorem dX7_read_100 : decode cX7_read 100 = .ok (.getfield 110, 3) := by decide +kernel
theorem dX7_read_103 : decode cX7_read 103 = .ok (.iload_n 1, 1) := by decide +kernel
theorem dX7_read_104 : decode cX7_read 104 = .ok (.aaload, 1) := by decide +kernel
theorem dX7_read_105 : decode cX7_read 105 = .ok (.iload_n 2, 1) := by decide +kernel
theorem dX7_read_106 : decode cX7_read 106 = .ok (.iaload, 1) := by decide +kernel
theorem dX7_read_107 : decode cX7_read 107 = .ok (.iastore, 1) := by decide +kernel
theorem dX7_read_108 : decode cX7_read 108 = .ok (.iinc 2 1, 3) := by decide +kernel
theorem dX7_read_111 : decode cX7_read 111 = .ok (.iinc 3 1, 3) := by decide +kernel
theorem dX7_read_114 : decode cX7_read 114 = .ok (.goto (-80), 3) := by decide +kernel
theorem dX7_read_117 : decode cX7_read 117 = .ok (.iload_n 2, 1) := by decide +kernel
theorem dX7_read_118 : decode cX7_read 118 = .ok (.ireturn, 1) := by decide +kernel
theorem dX7_cost_0 : decode cX7_cost 0 = .ok (.aload_n 0, 1) := by decide +kernel
theorem dX7_cost_1 : decode cX7_cost 1 = .ok (.iload_n 1, 1) := by decide +kernel
theorem dX7_cost_2 : decode cX7_cost 2 = .ok (.invokevirtual 114, 3) := by decide +kernel
theorem dX7_cost_5 : decode cX7_cost 5 = .ok (.ifCond .eq 30, 3) := by decide +kernel
theorem dX7_cost_8 : decode cX7_cost 8 = .ok (.iload_n 2, 1) := by decide +kernel
theorem dX7_cost_9 : decode cX7_cost 9 = .ok (.ifCond .lt 26, 3) := by decide +kernel
theorem dX7_cost_12 : decode cX7_cost 12 = .ok (.iload_n 2, 1) := by decide +kernel
theorem dX7_cost_13 : decode cX7_cost 13 = .ok (.iconst 4, 1) := by decide +kernel
theorem dX7_cost_14 : decode cX7_cost 14 = .ok (.if_icmp .gt 21, 3) := by decide +kernel
theorem dX7_cost_17 : decode cX7_cost 17 = .ok (.iload_n 3, 1) := by decide +kernel
theorem dX7_cost_18 : decode cX7_cost 18 = .ok (.getstatic 117, 3) := by decide +kernel
theorem dX7_cost_21 : decode cX7_cost 21 = .ok (.iload_n 2, 1) := by decide +kernel
theorem dX7_cost_22 : decode cX7_cost 22 = .ok (.iaload, 1) := by decide +kernel
theorem dX7_cost_23 : decode cX7_cost 23 = .ok (.if_icmp .lt 12, 3) := by decide +kernel
theorem dX7_cost_26 : decode cX7_cost 26 = .ok (.iload_n 3, 1) := by decide +kernel
theorem dX7_cost_27 : decode cX7_cost 27 = .ok (.getstatic 120, 3) := by decide +kernel
theorem dX7_cost_30 : decode cX7_cost 30 = .ok (.iload_n 2, 1) := by decide +kernel
theorem dX7_cost_31 : decode cX7_cost 31 = .ok (.iaload, 1) := by decide +kernel
theorem dX7_cost_32 : decode cX7_cost 32 = .ok (.if_icmp .le 6, 3) := by decide +kernel
theorem dX7_cost_35 : decode cX7_cost 35 = .ok (.bipush (-2), 2) := by decide +kernel
theorem dX7_cost_37 : decode cX7_cost 37 = .ok (.ireturn, 1) := by decide +kernel
theorem dX7_cost_38 : decode cX7_cost 38 = .ok (.aload_n 0, 1) := by decide +kernel
theorem dX7_cost_39 : decode cX7_cost 39 = .ok (.getfield 30, 3) := by decide +kernel
theorem dX7_cost_42 : decode cX7_cost 42 = .ok (.getfield 84, 3) := by decide +kernel
theorem dX7_cost_45 : decode cX7_cost 45 = .ok (.iload_n 1, 1) := by decide +kernel
theorem dX7_cost_46 : decode cX7_cost 46 = .ok (.iaload, 1) := by decide +kernel
theorem dX7_cost_47 : decode cX7_cost 47 = .ok (.iconst 2, 1) := by decide +kernel
theorem dX7_cost_48 : decode cX7_cost 48 = .ok (.if_icmp .ne 16, 3) := by decide +kernel
theorem dX7_cost_51 : decode cX7_cost 51 = .ok (.iload_n 2, 1) := by decide +kernel
theorem dX7_cost_52 : decode cX7_cost 52 = .ok (.iconst 3, 1) := by decide +kernel
theorem dX7_cost_53 : decode cX7_cost 53 = .ok (.if_icmp .eq 8, 3) := by decide +kernel
theorem dX7_cost_56 : decode cX7_cost 56 = .ok (.iload_n 2, 1) := by decide +kernel
theorem dX7_cost_57 : decode cX7_cost 57 = .ok (.iconst 4, 1) := by decide +kernel
theorem dX7_cost_58 : decode cX7_cost 58 = .ok (.if_icmp .ne 6, 3) := by decide +kernel
theorem dX7_cost_61 : decode cX7_cost 61 = .ok (.bipush (-2), 2) := by decide +kernel
theorem dX7_cost_63 : decode cX7_cost 63 = .ok (.ireturn, 1) := by decide +kernel
theorem dX7_cost_64 : decode cX7_cost 64 = .ok (.aload_n 0, 1) := by decide +kernel
theorem dX7_cost_65 : decode cX7_cost 65 = .ok (.getfield 14, 3) := by decide +kernel
theorem dX7_cost_68 : decode cX7_cost 68 = .ok (.getfield 123, 3) := by decide +kernel
theorem dX7_cost_71 : decode cX7_cost 71 = .ok (.iload_n 2, 1) := by decide +kernel
theorem dX7_cost_72 : decode cX7_cost 72 = .ok (.aaload, 1) := by decide +kernel
theorem dX7_cost_73 : decode cX7_cost 73 = .ok (.iload_n 1, 1) := by decide +kernel
theorem dX7_cost_74 : decode cX7_cost 74 = .ok (.iaload, 1) := by decide +kernel
theorem dX7_cost_75 : decode cX7_cost 75 = .ok (.istore 4, 2) := by decide +kernel
theorem dX7_cost_77 : decode cX7_cost 77 = .ok (.aload_n 0, 1) := by decide +kernel
theorem dX7_cost_78 : decode cX7_cost 78 = .ok (.getfield 14, 3) := by decide +kernel
theorem dX7_cost_81 : decode cX7_cost 81 = .ok (.getfield 123, 3) := by decide +kernel
theorem dX7_cost_84 : decode cX7_cost 84 = .ok (.iload_n 2, 1) := by decide +kernel
theorem dX7_cost_85 : decode cX7_cost 85 = .ok (.aaload, 1) := by decide +kernel
theorem dX7_cost_86 : decode cX7_cost 86 = .ok (.iload_n 1, 1) := by decide +kernel
theorem dX7_cost_87 : decode cX7_cost 87 = .ok (.iload_n 3, 1) := by decide +kernel
theorem dX7_cost_88 : decode cX7_cost 88 = .ok (.iastore, 1) := by decide +kernel
theorem dX7_cost_89 : decode cX7_cost 89 = .ok (.iload 4, 2) := by decide +kernel
theorem dX7_cost_91 : decode cX7_cost 91 = .ok (.ireturn, 1) := by decide +kernel
theorem dX7_set_0 : decode cX7_set 0 = .ok (.iload_n 1, 1) := by decide +kernel
theorem dX7_set_1 : decode cX7_set 1 = .ok (.ifCond .lt 21, 3) := by decide +kernel
theorem dX7_set_4 : decode cX7_set 4 = .ok (.iload_n 1, 1) := by decide +kernel
theorem dX7_set_5 : decode cX7_set 5 = .ok (.iconst 2, 1) := by decide +kernel
theorem dX7_set_6 : decode cX7_set 6 = .ok (.if_icmp .gt 16, 3) := by decide +kernel
theorem dX7_set_9 : decode cX7_set 9 = .ok (.iload_n 2, 1) := by decide +kernel
theorem dX7_set_10 : decode cX7_set 10 = .ok (.ifCond .lt 12, 3) := by decide +kernel
theorem dX7_set_13 : decode cX7_set 13 = .ok (.iload_n 2, 1) := by decide +kernel
theorem dX7_set_14 : decode cX7_set 14 = .ok (.getstatic 126, 3) := by decide +kernel
theorem dX7_set_17 : decode cX7_set 17 = .ok (.iload_n 1, 1) := by decide +kernel
theorem dX7_set_18 : decode cX7_set 18 = .ok (.iaload, 1) := by decide +kernel
theorem dX7_set_19 : decode cX7_set 19 = .ok (.if_icmp .le 6, 3) := by decide +kernel
theorem dX7_set_22 : decode cX7_set 22 = .ok (.bipush (-2), 2) := by decide +kernel
theorem dX7_set_24 : decode cX7_set 24 = .ok (.ireturn, 1) := by decide +kernel
theorem dX7_set_25 : decode cX7_set 25 = .ok (.aload_n 0, 1) := by decide +kernel
theorem dX7_set_26 : decode cX7_set 26 = .ok (.getfield 30, 3) := by decide +kernel
theorem dX7_set_29 : decode cX7_set 29 = .ok (.getfield 129, 3) := by decide +kernel
theorem dX7_set_32 : decode cX7_set 32 = .ok (.iload_n 1, 1) := by decide +kernel
theorem dX7_set_33 : decode cX7_set 33 = .ok (.iaload, 1) := by decide +kernel
theorem dX7_set_34 : decode cX7_set 34 = .ok (.istore_n 3, 1) := by decide +kernel
theorem dX7_set_35 : decode cX7_set 35 = .ok (.aload_n 0, 1) := by decide +kernel
theorem dX7_set_36 : decode cX7_set 36 = .ok (.getfield 30, 3) := by decide +kernel
theorem dX7_set_39 : decode cX7_set 39 = .ok (.getfield 129, 3) := by decide +kernel
theorem dX7_set_42 : decode cX7_set 42 = .ok (.iload_n 1, 1) := by decide +kernel
theorem dX7_set_43 : decode cX7_set 43 = .ok (.iload_n 2, 1) := by decide +kernel
theorem dX7_set_44 : decode cX7_set 44 = .ok (.iastore, 1) := by decide +kernel
theorem dX7_set_45 : decode cX7_set 45 = .ok (.iload_n 3, 1) := by decide +kernel
theorem dX7_set_46 : decode cX7_set 46 = .ok (.ireturn, 1) := by decide +kernel
theorem dX7_type_0 : decode cX7_type 0 = .ok (.iload_n 1, 1) := by decide +kernel
theorem dX7_type_1 : decode cX7_type 1 = .ok (.ifCond .lt 10, 3) := by decide +kernel
theorem dX7_type_4 : decode cX7_type 4 = .ok (.iload_n 1, 1) := by decide +kernel
theorem dX7_type_5 : decode cX7_type 5 = .ok (.sipush 255, 3) := by decide +kernel
theorem dX7_type_8 : decode cX7_type 8 = .ok (.if_icmp .le 6, 3) := by decide +kernel
theorem dX7_type_11 : decode cX7_type 11 = .ok (.bipush (-2), 2) := by decide +kernel
theorem dX7_type_13 : decode cX7_type 13 = .ok (.ireturn, 1) := by decide +kernel
theorem dX7_type_14 : decode cX7_type 14 = .ok (.aload_n 0, 1) := by decide +kernel
theorem dX7_type_15 : decode cX7_type 15 = .ok (.getfield 21, 3) := by decide +kernel
theorem dX7_type_18 : decode cX7_type 18 = .ok (.iload_n 1, 1) := by decide +kernel
theorem dX7_type_19 : decode cX7_type 19 = .ok (.invokevirtual 132, 3) := by decide +kernel
theorem dX7_type_22 : decode cX7_type 22 = .ok (.ifCond .eq 13, 3) := by decide +kernel
theorem dX7_type_25 : decode cX7_type 25 = .ok (.aload_n 0, 1) := by decide +kernel
theorem dX7_type_26 : decode cX7_type 26 = .ok (.getfield 21, 3) := by decide +kernel
theorem dX7_type_29 : decode cX7_type 29 = .ok (.getfield 135, 3) := by decide +kernel
theorem dX7_type_32 : decode cX7_type 32 = .ok (.goto 5, 3) := by decide +kernel
theorem dX7_type_35 : decode cX7_type 35 = .ok (.bipush (-4), 2) := by decide +kernel
theorem dX7_type_37 : decode cX7_type 37 = .ok (.ireturn, 1) := by decide +kernel
theorem dX7_wipe_0 : decode cX7_wipe 0 = .ok (.aload_n 0, 1) := by decide +kernel
theorem dX7_wipe_1 : decode cX7_wipe 1 = .ok (.getfield 21, 3) := by decide +kernel
theorem dX7_wipe_4 : decode cX7_wipe 4 = .ok (.getfield 135, 3) := by decide +kernel
theorem dX7_wipe_7 : decode cX7_wipe 7 = .ok (.istore_n 1, 1) := by decide +kernel
theorem dX7_wipe_8 : decode cX7_wipe 8 = .ok (.aload_n 0, 1) := by decide +kernel
theorem dX7_wipe_9 : decode cX7_wipe 9 = .ok (.getfield 21, 3) := by decide +kernel
theorem dX7_wipe_12 : decode cX7_wipe 12 = .ok (.invokevirtual 138, 3) := by decide +kernel
theorem dX7_wipe_15 : decode cX7_wipe 15 = .ok (.iload_n 1, 1) := by decide +kernel
theorem dX7_wipe_16 : decode cX7_wipe 16 = .ok (.ireturn, 1) := by decide +kernel
theorem dX7_fault_0 : decode cX7_fault 0 = .ok (.aload_n 0, 1) := by decide +kernel
theorem dX7_fault_1 : decode cX7_fault 1 = .ok (.getfield 21, 3) := by decide +kernel
theorem dX7_fault_4 : decode cX7_fault 4 = .ok (.getfield 141, 3) := by decide +kernel
theorem dX7_fault_7 : decode cX7_fault 7 = .ok (.ireturn, 1) := by decide +kernel
theorem dX7_begins_0 : decode cX7_begins 0 = .ok (.aload_n 0, 1) := by decide +kernel
theorem dX7_begins_1 : decode cX7_begins 1 = .ok (.getfield 30, 3) := by decide +kernel
theorem dX7_begins_4 : decode cX7_begins 4 = .ok (.invokevirtual 144, 3) := by decide +kernel
theorem dX7_begins_7 : decode cX7_begins 7 = .ok (.ireturn, 1) := by decide +kernel
theorem dX7_comes_0 : decode cX7_comes 0 = .ok (.aload_n 0, 1) := by decide +kernel
theorem dX7_comes_1 : decode cX7_comes 1 = .ok (.iload_n 1, 1) := by decide +kernel
theorem dX7_comes_2 : decode cX7_comes 2 = .ok (.invokevirtual 114, 3) := by decide +kernel
theorem dX7_comes_5 : decode cX7_comes 5 = .ok (.ifCond .ne 6, 3) := by decide +kernel
theorem dX7_comes_8 : decode cX7_comes 8 = .ok (.bipush (-2), 2) := by decide +kernel
theorem dX7_comes_10 : decode cX7_comes 10 = .ok (.ireturn, 1) := by decide +kernel
theorem dX7_comes_11 : decode cX7_comes 11 = .ok (.aload_n 0, 1) := by decide +kernel
theorem dX7_comes_12 : decode cX7_comes 12 = .ok (.getfield 30, 3) := by decide +kernel
theorem dX7_comes_15 : decode cX7_comes 15 = .ok (.invokevirtual 144, 3) := by decide +kernel
theorem dX7_comes_18 : decode cX7_comes 18 = .ok (.pop, 1) := by decide +kernel
theorem dX7_comes_19 : decode cX7_comes 19 = .ok (.aload_n 0, 1) := by decide +kernel
theorem dX7_comes_20 : decode cX7_comes 20 = .ok (.getfield 30, 3) := by decide +kernel
theorem dX7_comes_23 : decode cX7_comes 23 = .ok (.getfield 148, 3) := by decide +kernel
theorem dX7_comes_26 : decode cX7_comes 26 = .ok (.iload_n 1, 1) := by decide +kernel
theorem dX7_comes_27 : decode cX7_comes 27 = .ok (.iaload, 1) := by decide +kernel
theorem dX7_comes_28 : decode cX7_comes 28 = .ok (.ireturn, 1) := by decide +kernel
theorem dX7_pays_0 : decode cX7_pays 0 = .ok (.iload_n 1, 1) := by decide +kernel
theorem dX7_pays_1 : decode cX7_pays 1 = .ok (.iconst (-1), 1) := by decide +kernel
theorem dX7_pays_2 : decode cX7_pays 2 = .ok (.if_icmp .ne 11, 3) := by decide +kernel
theorem dX7_pays_5 : decode cX7_pays 5 = .ok (.aload_n 0, 1) := by decide +kernel
theorem dX7_pays_6 : decode cX7_pays 6 = .ok (.getfield 30, 3) := by decide +kernel
theorem dX7_pays_9 : decode cX7_pays 9 = .ok (.invokevirtual 151, 3) := by decide +kernel
theorem dX7_pays_12 : decode cX7_pays 12 = .ok (.ireturn, 1) := by decide +kernel
theorem dX7_pays_13 : decode cX7_pays 13 = .ok (.aload_n 0, 1) := by decide +kernel
theorem dX7_pays_14 : decode cX7_pays 14 = .ok (.iload_n 1, 1) := by decide +kernel
theorem dX7_pays_15 : decode cX7_pays 15 = .ok (.invokevirtual 114, 3) := by decide +kernel
theorem dX7_pays_18 : decode cX7_pays 18 = .ok (.ifCond .ne 7, 3) := by decide +kernel
theorem dX7_pays_21 : decode cX7_pays 21 = .ok (.sipush (-10000), 3) := by decide +kernel
theorem dX7_pays_24 : decode cX7_pays 24 = .ok (.ireturn, 1) := by decide +kernel
theorem dX7_pays_25 : decode cX7_pays 25 = .ok (.aload_n 0, 1) := by decide +kernel
theorem dX7_pays_26 : decode cX7_pays 26 = .ok (.getfield 30, 3) := by decide +kernel
theorem dX7_pays_29 : decode cX7_pays 29 = .ok (.invokevirtual 144, 3) := by decide +kernel
theorem dX7_pays_32 : decode cX7_pays 32 = .ok (.istore_n 2, 1) := by decide +kernel
theorem dX7_pays_33 : decode cX7_pays 33 = .ok (.aload_n 0, 1) := by decide +kernel
theorem dX7_pays_34 : decode cX7_pays 34 = .ok (.getfield 30, 3) := by decide +kernel
theorem dX7_pays_37 : decode cX7_pays 37 = .ok (.iload_n 1, 1) := by decide +kernel
theorem dX7_pays_38 : decode cX7_pays 38 = .ok (.aload_n 0, 1) := by decide +kernel
theorem dX7_pays_39 : decode cX7_pays 39 = .ok (.getfield 30, 3) := by decide +kernel
theorem dX7_pays_42 : decode cX7_pays 42 = .ok (.getfield 148, 3) := by decide +kernel
theorem dX7_pays_45 : decode cX7_pays 45 = .ok (.iload_n 1, 1) := by decide +kernel
theorem dX7_pays_46 : decode cX7_pays 46 = .ok (.iaload, 1) := by decide +kernel
theorem dX7_pays_47 : decode cX7_pays 47 = .ok (.iload_n 2, 1) := by decide +kernel
theorem dX7_pays_48 : decode cX7_pays 48 = .ok (.invokevirtual 154, 3) := by decide +kernel
theorem dX7_pays_51 : decode cX7_pays 51 = .ok (.ireturn, 1) := by decide +kernel
theorem dX7_best_0 : decode cX7_best 0 = .ok (.aload_n 0, 1) := by decide +kernel
theorem dX7_best_1 : decode cX7_best 1 = .ok (.iload_n 1, 1) := by decide +kernel
theorem dX7_best_2 : decode cX7_best 2 = .ok (.invokevirtual 90, 3) := by decide +kernel
theorem dX7_best_5 : decode cX7_best 5 = .ok (.ifCond .eq 15, 3) := by decide +kernel
theorem dX7_best_8 : decode cX7_best 8 = .ok (.aload_n 0, 1) := by decide +kernel
theorem dX7_best_9 : decode cX7_best 9 = .ok (.getfield 30, 3) := by decide +kernel
theorem dX7_best_12 : decode cX7_best 12 = .ok (.iload_n 1, 1) := by decide +kernel
theorem dX7_best_13 : decode cX7_best 13 = .ok (.iload_n 2, 1) := by decide +kernel
theorem dX7_best_14 : decode cX7_best 14 = .ok (.invokevirtual 158, 3) := by decide +kernel
theorem dX7_best_17 : decode cX7_best 17 = .ok (.goto 5, 3) := by decide +kernel
theorem dX7_best_20 : decode cX7_best 20 = .ok (.bipush (-2), 2) := by decide +kernel
theorem dX7_best_22 : decode cX7_best 22 = .ok (.ireturn, 1) := by decide +kernel
theorem dX7_restless_0 : decode cX7_restless 0 = .ok (.aload_n 0, 1) := by decide +kernel
theorem dX7_restless_1 : decode cX7_restless 1 = .ok (.getfield 30, 3) := by decide +kernel
theorem dX7_restless_4 : decode cX7_restless 4 = .ok (.invokevirtual 162, 3) := by decide +kernel
theorem dX7_restless_7 : decode cX7_restless 7 = .ok (.ireturn, 1) := by decide +kernel
theorem dX7_climb_0 : decode cX7_climb 0 = .ok (.iload_n 2, 1) := by decide +kernel
theorem dX7_climb_1 : decode cX7_climb 1 = .ok (.iconst (-1), 1) := by decide +kernel
theorem dX7_climb_2 : decode cX7_climb 2 = .ok (.if_icmp .eq 14, 3) := by decide +kernel
theorem dX7_climb_5 : decode cX7_climb 5 = .ok (.aload_n 0, 1) := by decide +kernel
theorem dX7_climb_6 : decode cX7_climb 6 = .ok (.iload_n 2, 1) := by decide +kernel
theorem dX7_climb_7 : decode cX7_climb 7 = .ok (.invokevirtual 90, 3) := by decide +kernel
theorem dX7_climb_10 : decode cX7_climb 10 = .ok (.ifCond .ne 6, 3) := by decide +kernel
theorem dX7_climb_13 : decode cX7_climb 13 = .ok (.bipush (-2), 2) := by decide +kernel
theorem dX7_climb_15 : decode cX7_climb 15 = .ok (.ireturn, 1) := by decide +kernel
theorem dX7_climb_16 : decode cX7_climb 16 = .ok (.aload_n 0, 1) := by decide +kernel
theorem dX7_climb_17 : decode cX7_climb 17 = .ok (.getfield 34, 3) := by decide +kernel
theorem dX7_climb_20 : decode cX7_climb 20 = .ok (.aload_n 0, 1) := by decide +kernel
theorem dX7_climb_21 : decode cX7_climb 21 = .ok (.getfield 30, 3) := by decide +kernel
theorem dX7_climb_24 : decode cX7_climb 24 = .ok (.invokevirtual 165, 3) := by decide +kernel
theorem dX7_climb_27 : decode cX7_climb 27 = .ok (.aload_n 0, 1) := by decide +kernel
theorem dX7_climb_28 : decode cX7_climb 28 = .ok (.getfield 34, 3) := by decide +kernel
theorem dX7_climb_31 : decode cX7_climb 31 = .ok (.iload_n 1, 1) := by decide +kernel
theorem dX7_climb_32 : decode cX7_climb 32 = .ok (.invokevirtual 168, 3) := by decide +kernel
theorem dX7_climb_35 : decode cX7_climb 35 = .ok (.ifCond .ne 5, 3) := by decide +kernel
theorem dX7_climb_38 : decode cX7_climb 38 = .ok (.iconst (-1), 1) := by decide +kernel
theorem dX7_climb_39 : decode cX7_climb 39 = .ok (.ireturn, 1) := by decide +kernel
theorem dX7_climb_40 : decode cX7_climb 40 = .ok (.iload_n 2, 1) := by decide +kernel
theorem dX7_climb_41 : decode cX7_climb 41 = .ok (.iconst (-1), 1) := by decide +kernel
theorem dX7_climb_42 : decode cX7_climb 42 = .ok (.if_icmp .ne 13, 3) := by decide +kernel
theorem dX7_climb_45 : decode cX7_climb 45 = .ok (.aload_n 0, 1) := by decide +kernel
theorem dX7_climb_46 : decode cX7_climb 46 = .ok (.getfield 34, 3) := by decide +kernel
theorem dX7_climb_49 : decode cX7_climb 49 = .ok (.invokevirtual 144, 3) := by decide +kernel
theorem dX7_climb_52 : decode cX7_climb 52 = .ok (.goto 12, 3) := by decide +kernel
theorem dX7_climb_55 : decode cX7_climb 55 = .ok (.aload_n 0, 1) := by decide +kernel
theorem dX7_climb_56 : decode cX7_climb 56 = .ok (.getfield 34, 3) := by decide +kernel
theorem dX7_climb_59 : decode cX7_climb 59 = .ok (.getfield 87, 3) := by decide +kernel
theorem dX7_climb_62 : decode cX7_climb 62 = .ok (.iload_n 2, 1) := by decide +kernel
theorem dX7_climb_63 : decode cX7_climb 63 = .ok (.iaload, 1) := by decide +kernel
theorem dX7_climb_64 : decode cX7_climb 64 = .ok (.ireturn, 1) := by decide +kernel
theorem dX7_rests_0 : decode cX7_rests 0 = .ok (.iload_n 1, 1) := by decide +kernel
theorem dX7_rests_1 : decode cX7_rests 1 = .ok (.invokestatic 172, 3) := by decide +kernel
theorem dX7_rests_4 : decode cX7_rests 4 = .ok (.ifCond .eq 31, 3) := by decide +kernel
theorem dX7_rests_7 : decode cX7_rests 7 = .ok (.iload_n 2, 1) := by decide +kernel
theorem dX7_rests_8 : decode cX7_rests 8 = .ok (.iconst (-1), 1) := by decide +kernel
theorem dX7_rests_9 : decode cX7_rests 9 = .ok (.if_icmp .lt 26, 3) := by decide +kernel
theorem dX7_rests_12 : decode cX7_rests 12 = .ok (.iload_n 2, 1) := by decide +kernel
theorem dX7_rests_13 : decode cX7_rests 13 = .ok (.iconst (-1), 1) := by decide +kernel
theorem dX7_rests_14 : decode cX7_rests 14 = .ok (.if_icmp .ne 7, 3) := by decide +kernel
theorem dX7_rests_17 : decode cX7_rests 17 = .ok (.iconst 1, 1) := by decide +kernel
theorem dX7_rests_18 : decode cX7_rests 18 = .ok (.goto 4, 3) := by decide +kernel
theorem dX7_rests_21 : decode cX7_rests 21 = .ok (.iconst 0, 1) := by decide +kernel
theorem dX7_rests_22 : decode cX7_rests 22 = .ok (.iload_n 3, 1) := by decide +kernel
theorem dX7_rests_23 : decode cX7_rests 23 = .ok (.iconst (-1), 1) := by decide +kernel
theorem dX7_rests_24 : decode cX7_rests 24 = .ok (.if_icmp .ne 7, 3) := by decide +kernel
theorem dX7_rests_27 : decode cX7_rests 27 = .ok (.iconst 1, 1) := by decide +kernel
theorem dX7_rests_28 : decode cX7_rests 28 = .ok (.goto 4, 3) := by decide +kernel
theorem dX7_rests_31 : decode cX7_rests 31 = .ok (.iconst 0, 1) := by decide +kernel
theorem dX7_rests_32 : decode cX7_rests 32 = .ok (.if_icmp .eq 6, 3) := by decide +kernel
theorem dX7_rests_35 : decode cX7_rests 35 = .ok (.bipush (-2), 2) := by decide +kernel
theorem dX7_rests_37 : decode cX7_rests 37 = .ok (.ireturn, 1) := by decide +kernel
theorem dX7_rests_38 : decode cX7_rests 38 = .ok (.iload_n 3, 1) := by decide +kernel
theorem dX7_rests_39 : decode cX7_rests 39 = .ok (.iconst (-1), 1) := by decide +kernel
theorem dX7_rests_40 : decode cX7_rests 40 = .ok (.if_icmp .eq 14, 3) := by decide +kernel
theorem dX7_rests_43 : decode cX7_rests 43 = .ok (.aload_n 0, 1) := by decide +kernel
theorem dX7_rests_44 : decode cX7_rests 44 = .ok (.iload_n 3, 1) := by decide +kernel
theorem dX7_rests_45 : decode cX7_rests 45 = .ok (.invokevirtual 90, 3) := by decide +kernel
theorem dX7_rests_48 : decode cX7_rests 48 = .ok (.ifCond .ne 6, 3) := by decide +kernel
theorem dX7_rests_51 : decode cX7_rests 51 = .ok (.bipush (-2), 2) := by decide +kernel
theorem dX7_rests_53 : decode cX7_rests 53 = .ok (.ireturn, 1) := by decide +kernel
theorem dX7_rests_54 : decode cX7_rests 54 = .ok (.aload_n 0, 1) := by decide +kernel
theorem dX7_rests_55 : decode cX7_rests 55 = .ok (.getfield 30, 3) := by decide +kernel
theorem dX7_rests_58 : decode cX7_rests 58 = .ok (.invokevirtual 175, 3) := by decide +kernel
theorem dX7_rests_61 : decode cX7_rests 61 = .ok (.invokestatic 178, 3) := by decide +kernel
theorem dX7_rests_64 : decode cX7_rests 64 = .ok (.iconst 3, 1) := by decide +kernel
theorem dX7_rests_65 : decode cX7_rests 65 = .ok (.if_icmp .le 6, 3) := by decide +kernel
theorem dX7_rests_68 : decode cX7_rests 68 = .ok (.bipush (-4), 2) := by decide +kernel
theorem dX7_rests_70 : decode cX7_rests 70 = .ok (.ireturn, 1) := by decide +kernel
theorem dX7_rests_71 : decode cX7_rests 71 = .ok (.aload_n 0, 1) := by decide +kernel
theorem dX7_rests_72 : decode cX7_rests 72 = .ok (.getfield 34, 3) := by decide +kernel
theorem dX7_rests_75 : decode cX7_rests 75 = .ok (.aload_n 0, 1) := by decide +kernel
theorem dX7_rests_76 : decode cX7_rests 76 = .ok (.getfield 30, 3) := by decide +kernel
theorem dX7_rests_79 : decode cX7_rests 79 = .ok (.invokevirtual 165, 3) := by decide +kernel
theorem dX7_rests_82 : decode cX7_rests 82 = .ok (.aload_n 0, 1) := by decide +kernel
theorem dX7_rests_83 : decode cX7_rests 83 = .ok (.getfield 42, 3) := by decide +kernel
theorem dX7_rests_86 : decode cX7_rests 86 = .ok (.iload_n 1, 1) := by decide +kernel
theorem dX7_rests_87 : decode cX7_rests 87 = .ok (.invokevirtual 183, 3) := by decide +kernel
theorem dX7_rests_90 : decode cX7_rests 90 = .ok (.aload_n 0, 1) := by decide +kernel
theorem dX7_rests_91 : decode cX7_rests 91 = .ok (.getfield 42, 3) := by decide +kernel
theorem dX7_rests_94 : decode cX7_rests 94 = .ok (.iload_n 2, 1) := by decide +kernel
theorem dX7_rests_95 : decode cX7_rests 95 = .ok (.invokevirtual 187, 3) := by decide +kernel
theorem dX7_rests_98 : decode cX7_rests 98 = .ok (.istore 4, 2) := by decide +kernel
theorem dX7_rests_100 : decode cX7_rests 100 = .ok (.iload_n 3, 1) := by decide +kernel
theorem dX7_rests_101 : decode cX7_rests 101 = .ok (.iconst (-1), 1) := by decide +kernel
theorem dX7_rests_102 : decode cX7_rests 102 = .ok (.if_icmp .ne 6, 3) := by decide +kernel
theorem dX7_rests_105 : decode cX7_rests 105 = .ok (.iload 4, 2) := by decide +kernel
theorem dX7_rests_107 : decode cX7_rests 107 = .ok (.ireturn, 1) := by decide +kernel
theorem dX7_rests_108 : decode cX7_rests 108 = .ok (.iload 4, 2) := by decide +kernel
theorem dX7_rests_110 : decode cX7_rests 110 = .ok (.iload_n 2, 1) := by decide +kernel
theorem dX7_rests_111 : decode cX7_rests 111 = .ok (.if_icmp .le 15, 3) := by decide +kernel
theorem dX7_rests_114 : decode cX7_rests 114 = .ok (.aload_n 0, 1) := by decide +kernel
theorem dX7_rests_115 : decode cX7_rests 115 = .ok (.getfield 34, 3) := by decide +kernel
theorem dX7_rests_118 : decode cX7_rests 118 = .ok (.getfield 87, 3) := by decide +kernel
theorem dX7_rests_121 : decode cX7_rests 121 = .ok (.iload_n 3, 1) := by decide +kernel
theorem dX7_rests_122 : decode cX7_rests 122 = .ok (.iaload, 1) := by decide +kernel
theorem dX7_rests_123 : decode cX7_rests 123 = .ok (.goto 4, 3) := by decide +kernel
theorem dX7_rests_126 : decode cX7_rests 126 = .ok (.iconst (-1), 1) := by decide +kernel
theorem dX7_rests_127 : decode cX7_rests 127 = .ok (.ireturn, 1) := by decide +kernel
theorem dX7_lost_0 : decode cX7_lost 0 = .ok (.iload_n 1, 1) := by decide +kernel
theorem dX7_lost_1 : decode cX7_lost 1 = .ok (.invokestatic 172, 3) := by decide +kernel
theorem dX7_lost_4 : decode cX7_lost 4 = .ok (.ifCond .eq 8, 3) := by decide +kernel
theorem dX7_lost_7 : decode cX7_lost 7 = .ok (.iload_n 2, 1) := by decide +kernel
theorem dX7_lost_8 : decode cX7_lost 8 = .ok (.iconst (-1), 1) := by decide +kernel
theorem dX7_lost_9 : decode cX7_lost 9 = .ok (.if_icmp .ge 7, 3) := by decide +kernel
theorem dX7_lost_12 : decode cX7_lost 12 = .ok (.sipush (-10000), 3) := by decide +kernel
theorem dX7_lost_15 : decode cX7_lost 15 = .ok (.ireturn, 1) := by decide +kernel
theorem dX7_lost_16 : decode cX7_lost 16 = .ok (.aload_n 0, 1) := by decide +kernel
theorem dX7_lost_17 : decode cX7_lost 17 = .ok (.getfield 30, 3) := by decide +kernel
theorem dX7_lost_20 : decode cX7_lost 20 = .ok (.invokevirtual 175, 3) := by decide +kernel
theorem dX7_lost_23 : decode cX7_lost 23 = .ok (.invokestatic 178, 3) := by decide +kernel
theorem dX7_lost_26 : decode cX7_lost 26 = .ok (.iconst 3, 1) := by decide +kernel
theorem dX7_lost_27 : decode cX7_lost 27 = .ok (.if_icmp .le 7, 3) := by decide +kernel
theorem dX7_lost_30 : decode cX7_lost 30 = .ok (.sipush (-10001), 3) := by decide +kernel
theorem dX7_lost_33 : decode cX7_lost 33 = .ok (.ireturn, 1) := by decide +kernel
theorem dX7_lost_34 : decode cX7_lost 34 = .ok (.aload_n 0, 1) := by decide +kernel
theorem dX7_lost_35 : decode cX7_lost 35 = .ok (.getfield 34, 3) := by decide +kernel
theorem dX7_lost_38 : decode cX7_lost 38 = .ok (.aload_n 0, 1) := by decide +kernel
theorem dX7_lost_39 : decode cX7_lost 39 = .ok (.getfield 30, 3) := by decide +kernel
theorem dX7_lost_42 : decode cX7_lost 42 = .ok (.invokevirtual 165, 3) := by decide +kernel
theorem dX7_lost_45 : decode cX7_lost 45 = .ok (.aload_n 0, 1) := by decide +kernel
theorem dX7_lost_46 : decode cX7_lost 46 = .ok (.getfield 42, 3) := by decide +kernel
theorem dX7_lost_49 : decode cX7_lost 49 = .ok (.iload_n 1, 1) := by decide +kernel
theorem dX7_lost_50 : decode cX7_lost 50 = .ok (.invokevirtual 183, 3) := by decide +kernel
theorem dX7_lost_53 : decode cX7_lost 53 = .ok (.iload_n 2, 1) := by decide +kernel
theorem dX7_lost_54 : decode cX7_lost 54 = .ok (.iconst (-1), 1) := by decide +kernel
theorem dX7_lost_55 : decode cX7_lost 55 = .ok (.if_icmp .ne 11, 3) := by decide +kernel
theorem dX7_lost_58 : decode cX7_lost 58 = .ok (.aload_n 0, 1) := by decide +kernel
theorem dX7_lost_59 : decode cX7_lost 59 = .ok (.getfield 42, 3) := by decide +kernel
theorem dX7_lost_62 : decode cX7_lost 62 = .ok (.invokevirtual 190, 3) := by decide +kernel
theorem dX7_lost_65 : decode cX7_lost 65 = .ok (.ireturn, 1) := by decide +kernel
theorem dX7_lost_66 : decode cX7_lost 66 = .ok (.aload_n 0, 1) := by decide +kernel
theorem dX7_lost_67 : decode cX7_lost 67 = .ok (.getfield 42, 3) := by decide +kernel
theorem dX7_lost_70 : decode cX7_lost 70 = .ok (.iload_n 2, 1) := by decide +kernel
theorem dX7_lost_71 : decode cX7_lost 71 = .ok (.invokevirtual 187, 3) := by decide +kernel
theorem dX7_lost_74 : decode cX7_lost 74 = .ok (.iload_n 2, 1) := by decide +kernel
theorem dX7_lost_75 : decode cX7_lost 75 = .ok (.if_icmp .gt 7, 3) := by decide +kernel
theorem dX7_lost_78 : decode cX7_lost 78 = .ok (.sipush (-10002), 3) := by decide +kernel
theorem dX7_lost_81 : decode cX7_lost 81 = .ok (.ireturn, 1) := by decide +kernel
theorem dX7_lost_82 : decode cX7_lost 82 = .ok (.aload_n 0, 1) := by decide +kernel
theorem dX7_lost_83 : decode cX7_lost 83 = .ok (.getfield 34, 3) := by decide +kernel
theorem dX7_lost_86 : decode cX7_lost 86 = .ok (.invokevirtual 151, 3) := by decide +kernel
theorem dX7_lost_89 : decode cX7_lost 89 = .ok (.istore_n 3, 1) := by decide +kernel
theorem dX7_lost_90 : decode cX7_lost 90 = .ok (.iload_n 3, 1) := by decide +kernel
theorem dX7_lost_91 : decode cX7_lost 91 = .ok (.aload_n 0, 1) := by decide +kernel
theorem dX7_lost_92 : decode cX7_lost 92 = .ok (.getfield 42, 3) := by decide +kernel
theorem dX7_lost_95 : decode cX7_lost 95 = .ok (.invokevirtual 190, 3) := by decide +kernel
theorem dX7_lost_98 : decode cX7_lost 98 = .ok (.isub, 1) := by decide +kernel
theorem dX7_lost_99 : decode cX7_lost 99 = .ok (.ireturn, 1) := by decide +kernel
theorem dX7_week_0 : decode cX7_week 0 = .ok (.iload_n 1, 1) := by decide +kernel
theorem dX7_week_1 : decode cX7_week 1 = .ok (.ifCond .lt 9, 3) := by decide +kernel
theorem dX7_week_4 : decode cX7_week 4 = .ok (.iload_n 1, 1) := by decide +kernel
theorem dX7_week_5 : decode cX7_week 5 = .ok (.bipush 60, 2) := by decide +kernel
theorem dX7_week_7 : decode cX7_week 7 = .ok (.if_icmp .le 6, 3) := by decide +kernel
theorem dX7_week_10 : decode cX7_week 10 = .ok (.bipush (-2), 2) := by decide +kernel
theorem dX7_week_12 : decode cX7_week 12 = .ok (.ireturn, 1) := by decide +kernel
theorem dX7_week_13 : decode cX7_week 13 = .ok (.aload_n 0, 1) := by decide +kernel
theorem dX7_week_14 : decode cX7_week 14 = .ok (.getfield 34, 3) := by decide +kernel
theorem dX7_week_17 : decode cX7_week 17 = .ok (.aload_n 0, 1) := by decide +kernel
theorem dX7_week_18 : decode cX7_week 18 = .ok (.getfield 30, 3) := by decide +kernel
theorem dX7_week_21 : decode cX7_week 21 = .ok (.invokevirtual 165, 3) := by decide +kernel
theorem dX7_week_24 : decode cX7_week 24 = .ok (.aload_n 0, 1) := by decide +kernel
theorem dX7_week_25 : decode cX7_week 25 = .ok (.getfield 49, 3) := by decide +kernel
theorem dX7_week_28 : decode cX7_week 28 = .ok (.iload_n 1, 1) := by decide +kernel
theorem dX7_week_29 : decode cX7_week 29 = .ok (.invokevirtual 193, 3) := by decide +kernel
theorem dX7_week_32 : decode cX7_week 32 = .ok (.aload_n 0, 1) := by decide +kernel
theorem dX7_week_33 : decode cX7_week 33 = .ok (.getfield 49, 3) := by decide +kernel
theorem dX7_week_36 : decode cX7_week 36 = .ok (.getfield 196, 3) := by decide +kernel
theorem dX7_week_39 : decode cX7_week 39 = .ok (.iload_n 1, 1) := by decide +kernel
theorem dX7_week_40 : decode cX7_week 40 = .ok (.iaload, 1) := by decide +kernel
theorem dX7_week_41 : decode cX7_week 41 = .ok (.ireturn, 1) := by decide +kernel
theorem dX7_round_0 : decode cX7_round 0 = .ok (.iload_n 1, 1) := by decide +kernel
theorem dX7_round_1 : decode cX7_round 1 = .ok (.ifCond .eq 11, 3) := by decide +kernel
theorem dX7_round_4 : decode cX7_round 4 = .ok (.iload_n 1, 1) := by decide +kernel
theorem dX7_round_5 : decode cX7_round 5 = .ok (.iconst 1, 1) := by decide +kernel
theorem dX7_round_6 : decode cX7_round 6 = .ok (.if_icmp .eq 6, 3) := by decide +kernel
theorem dX7_round_9 : decode cX7_round 9 = .ok (.bipush (-2), 2) := by decide +kernel
theorem dX7_round_11 : decode cX7_round 11 = .ok (.ireturn, 1) := by decide +kernel
theorem dX7_round_12 : decode cX7_round 12 = .ok (.aload_n 0, 1) := by decide +kernel
theorem dX7_round_13 : decode cX7_round 13 = .ok (.getfield 34, 3) := by decide +kernel
theorem dX7_round_16 : decode cX7_round 16 = .ok (.aload_n 0, 1) := by decide +kernel
theorem dX7_round_17 : decode cX7_round 17 = .ok (.getfield 30, 3) := by decide +kernel
theorem dX7_round_20 : decode cX7_round 20 = .ok (.invokevirtual 165, 3) := by decide +kernel
theorem dX7_round_23 : decode cX7_round 23 = .ok (.aload_n 0, 1) := by decide +kernel
theorem dX7_round_24 : decode cX7_round 24 = .ok (.getfield 49, 3) := by decide +kernel
theorem dX7_round_27 : decode cX7_round 27 = .ok (.bipush 60, 2) := by decide +kernel
theorem dX7_round_29 : decode cX7_round 29 = .ok (.invokevirtual 193, 3) := by decide +kernel
theorem dX7_round_32 : decode cX7_round 32 = .ok (.iload_n 1, 1) := by decide +kernel
theorem dX7_round_33 : decode cX7_round 33 = .ok (.ifCond .ne 13, 3) := by decide +kernel
theorem dX7_round_36 : decode cX7_round 36 = .ok (.aload_n 0, 1) := by decide +kernel
theorem dX7_round_37 : decode cX7_round 37 = .ok (.getfield 49, 3) := by decide +kernel
theorem dX7_round_40 : decode cX7_round 40 = .ok (.getfield 199, 3) := by decide +kernel
theorem dX7_round_43 : decode cX7_round 43 = .ok (.goto 10, 3) := by decide +kernel
theorem dX7_round_46 : decode cX7_round 46 = .ok (.aload_n 0, 1) := by decide +kernel
theorem dX7_round_47 : decode cX7_round 47 = .ok (.getfield 49, 3) := by decide +kernel
theorem dX7_round_50 : decode cX7_round 50 = .ok (.getfield 202, 3) := by decide +kernel
theorem dX7_round_53 : decode cX7_round 53 = .ok (.ireturn, 1) := by decide +kernel
theorem dX7_moved_0 : decode cX7_moved 0 = .ok (.iload_n 1, 1) := by decide +kernel
theorem dX7_moved_1 : decode cX7_moved 1 = .ok (.ifCond .lt 9, 3) := by decide +kernel
theorem dX7_moved_4 : decode cX7_moved 4 = .ok (.iload_n 1, 1) := by decide +kernel
theorem dX7_moved_5 : decode cX7_moved 5 = .ok (.bipush 60, 2) := by decide +kernel
theorem dX7_moved_7 : decode cX7_moved 7 = .ok (.if_icmp .lt 6, 3) := by decide +kernel
theorem dX7_moved_10 : decode cX7_moved 10 = .ok (.bipush (-2), 2) := by decide +kernel
theorem dX7_moved_12 : decode cX7_moved 12 = .ok (.ireturn, 1) := by decide +kernel
theorem dX7_moved_13 : decode cX7_moved 13 = .ok (.iconst 0, 1) := by decide +kernel
theorem dX7_moved_14 : decode cX7_moved 14 = .ok (.istore_n 2, 1) := by decide +kernel
theorem dX7_moved_15 : decode cX7_moved 15 = .ok (.bipush 61, 2) := by decide +kernel
theorem dX7_moved_17 : decode cX7_moved 17 = .ok (.istore_n 3, 1) := by decide +kernel
theorem dX7_moved_18 : decode cX7_moved 18 = .ok (.iconst 0, 1) := by decide +kernel
theorem dX7_moved_19 : decode cX7_moved 19 = .ok (.istore 4, 2) := by decide +kernel
theorem dX7_moved_21 : decode cX7_moved 21 = .ok (.iload 4, 2) := by decide +kernel
theorem dX7_moved_23 : decode cX7_moved 23 = .ok (.bipush 60, 2) := by decide +kernel
theorem dX7_moved_25 : decode cX7_moved 25 = .ok (.if_icmp .ge 77, 3) := by decide +kernel
theorem dX7_moved_28 : decode cX7_moved 28 = .ok (.aload_n 0, 1) := by decide +kernel
theorem dX7_moved_29 : decode cX7_moved 29 = .ok (.getfield 34, 3) := by decide +kernel
theorem dX7_moved_32 : decode cX7_moved 32 = .ok (.aload_n 0, 1) := by decide +kernel
theorem dX7_moved_33 : decode cX7_moved 33 = .ok (.getfield 30, 3) := by decide +kernel
theorem dX7_moved_36 : decode cX7_moved 36 = .ok (.invokevirtual 165, 3) := by decide +kernel
theorem dX7_moved_39 : decode cX7_moved 39 = .ok (.aload_n 0, 1) := by decide +kernel
theorem dX7_moved_40 : decode cX7_moved 40 = .ok (.getfield 34, 3) := by decide +kernel
theorem dX7_moved_43 : decode cX7_moved 43 = .ok (.getfield 129, 3) := by decide +kernel
theorem dX7_moved_46 : decode cX7_moved 46 = .ok (.iconst 0, 1) := by decide +kernel
theorem dX7_moved_47 : decode cX7_moved 47 = .ok (.iload 4, 2) := by decide +kernel
theorem dX7_moved_49 : decode cX7_moved 49 = .ok (.iastore, 1) := by decide +kernel
theorem dX7_moved_50 : decode cX7_moved 50 = .ok (.aload_n 0, 1) := by decide +kernel
theorem dX7_moved_51 : decode cX7_moved 51 = .ok (.getfield 34, 3) := by decide +kernel
theorem dX7_moved_54 : decode cX7_moved 54 = .ok (.iconst 0, 1) := by decide +kernel
theorem dX7_moved_55 : decode cX7_moved 55 = .ok (.invokevirtual 168, 3) := by decide +kernel
theorem dX7_moved_58 : decode cX7_moved 58 = .ok (.ifCond .eq 13, 3) := by decide +kernel
theorem dX7_moved_61 : decode cX7_moved 61 = .ok (.aload_n 0, 1) := by decide +kernel
theorem dX7_moved_62 : decode cX7_moved 62 = .ok (.getfield 34, 3) := by decide +kernel
theorem dX7_moved_65 : decode cX7_moved 65 = .ok (.invokevirtual 144, 3) := by decide +kernel
theorem dX7_moved_68 : decode cX7_moved 68 = .ok (.goto 5, 3) := by decide +kernel
theorem dX7_moved_71 : decode cX7_moved 71 = .ok (.bipush 60, 2) := by decide +kernel
theorem dX7_moved_73 : decode cX7_moved 73 = .ok (.istore 5, 2) := by decide +kernel
theorem dX7_moved_75 : decode cX7_moved 75 = .ok (.iload 5, 2) := by decide +kernel
theorem dX7_moved_77 : decode cX7_moved 77 = .ok (.iload_n 1, 1) := by decide +kernel
theorem dX7_moved_78 : decode cX7_moved 78 = .ok (.isub, 1) := by decide +kernel
theorem dX7_moved_79 : decode cX7_moved 79 = .ok (.invokestatic 205, 3) := by decide +kernel
theorem dX7_moved_82 : decode cX7_moved 82 = .ok (.istore 6, 2) := by decide +kernel
theorem dX7_moved_84 : decode cX7_moved 84 = .ok (.iload 6, 2) := by decide +kernel
theorem dX7_moved_86 : decode cX7_moved 86 = .ok (.iload_n 3, 1) := by decide +kernel
theorem dX7_moved_87 : decode cX7_moved 87 = .ok (.if_icmp .ge 9, 3) := by decide +kernel
theorem dX7_moved_90 : decode cX7_moved 90 = .ok (.iload 6, 2) := by decide +kernel
theorem dX7_moved_92 : decode cX7_moved 92 = .ok (.istore_n 3, 1) := by decide +kernel
theorem dX7_moved_93 : decode cX7_moved 93 = .ok (.iload 4, 2) := by decide +kernel
theorem dX7_moved_95 : decode cX7_moved 95 = .ok (.istore_n 2, 1) := by decide +kernel
theorem dX7_moved_96 : decode cX7_moved 96 = .ok (.iinc 4 1, 3) := by decide +kernel
theorem dX7_moved_99 : decode cX7_moved 99 = .ok (.goto (-78), 3) := by decide +kernel
theorem dX7_moved_102 : decode cX7_moved 102 = .ok (.iload_n 2, 1) := by decide +kernel
theorem dX7_moved_103 : decode cX7_moved 103 = .ok (.ireturn, 1) := by decide +kernel
theorem dX7_least_0 : decode cX7_least 0 = .ok (.iconst 0, 1) := by decide +kernel
theorem dX7_least_1 : decode cX7_least 1 = .ok (.istore_n 2, 1) := by decide +kernel
theorem dX7_least_2 : decode cX7_least 2 = .ok (.iload_n 2, 1) := by decide +kernel
theorem dX7_least_3 : decode cX7_least 3 = .ok (.bipush 40, 2) := by decide +kernel
theorem dX7_least_5 : decode cX7_least 5 = .ok (.if_icmp .gt 47, 3) := by decide +kernel
theorem dX7_least_8 : decode cX7_least 8 = .ok (.aload_n 0, 1) := by decide +kernel
theorem dX7_least_9 : decode cX7_least 9 = .ok (.getfield 34, 3) := by decide +kernel
theorem dX7_least_12 : decode cX7_least 12 = .ok (.aload_n 0, 1) := by decide +kernel
theorem dX7_least_13 : decode cX7_least 13 = .ok (.getfield 30, 3) := by decide +kernel
theorem dX7_least_16 : decode cX7_least 16 = .ok (.invokevirtual 165, 3) := by decide +kernel
theorem dX7_least_19 : decode cX7_least 19 = .ok (.aload_n 0, 1) := by decide +kernel
theorem dX7_least_20 : decode cX7_least 20 = .ok (.getfield 34, 3) := by decide +kernel
theorem dX7_least_23 : decode cX7_least 23 = .ok (.getfield 129, 3) := by decide +kernel
theorem dX7_least_26 : decode cX7_least 26 = .ok (.iload_n 1, 1) := by decide +kernel
theorem dX7_least_27 : decode cX7_least 27 = .ok (.ifCond .eq 7, 3) := by decide +kernel
theorem dX7_least_30 : decode cX7_least 30 = .ok (.iconst 2, 1) := by decide +kernel
theorem dX7_least_31 : decode cX7_least 31 = .ok (.goto 4, 3) := by decide +kernel
theorem dX7_least_34 : decode cX7_least 34 = .ok (.iconst 1, 1) := by decide +kernel
theorem dX7_least_35 : decode cX7_least 35 = .ok (.iload_n 2, 1) := by decide +kernel
theorem dX7_least_36 : decode cX7_least 36 = .ok (.iastore, 1) := by decide +kernel
theorem dX7_least_37 : decode cX7_least 37 = .ok (.aload_n 0, 1) := by decide +kernel
theorem dX7_least_38 : decode cX7_least 38 = .ok (.invokevirtual 210, 3) := by decide +kernel
theorem dX7_least_41 : decode cX7_least 41 = .ok (.ifCond .eq 5, 3) := by decide +kernel
theorem dX7_least_44 : decode cX7_least 44 = .ok (.iload_n 2, 1) := by decide +kernel
theorem dX7_least_45 : decode cX7_least 45 = .ok (.ireturn, 1) := by decide +kernel
theorem dX7_least_46 : decode cX7_least 46 = .ok (.iinc 2 1, 3) := by decide +kernel
theorem dX7_least_49 : decode cX7_least 49 = .ok (.goto (-47), 3) := by decide +kernel
theorem dX7_least_52 : decode cX7_least 52 = .ok (.iconst (-1), 1) := by decide +kernel
theorem dX7_least_53 : decode cX7_least 53 = .ok (.ireturn, 1) := by decide +kernel
theorem dX7_keys_0 : decode cX7_keys 0 = .ok (.iload_n 1, 1) := by decide +kernel
theorem dX7_keys_1 : decode cX7_keys 1 = .ok (.ifCond .eq 11, 3) := by decide +kernel
theorem dX7_keys_4 : decode cX7_keys 4 = .ok (.iload_n 1, 1) := by decide +kernel
theorem dX7_keys_5 : decode cX7_keys 5 = .ok (.iconst 1, 1) := by decide +kernel
theorem dX7_keys_6 : decode cX7_keys 6 = .ok (.if_icmp .eq 6, 3) := by decide +kernel
theorem dX7_keys_9 : decode cX7_keys 9 = .ok (.bipush (-2), 2) := by decide +kernel
theorem dX7_keys_11 : decode cX7_keys 11 = .ok (.ireturn, 1) := by decide +kernel
theorem dX7_keys_12 : decode cX7_keys 12 = .ok (.aload_n 0, 1) := by decide +kernel
theorem dX7_keys_13 : decode cX7_keys 13 = .ok (.getfield 30, 3) := by decide +kernel
theorem dX7_keys_16 : decode cX7_keys 16 = .ok (.invokevirtual 144, 3) := by decide +kernel
theorem dX7_keys_19 : decode cX7_keys 19 = .ok (.istore_n 2, 1) := by decide +kernel
theorem dX7_keys_20 : decode cX7_keys 20 = .ok (.iload_n 2, 1) := by decide +kernel
theorem dX7_keys_21 : decode cX7_keys 21 = .ok (.bipush 60, 2) := by decide +kernel
theorem dX7_keys_23 : decode cX7_keys 23 = .ok (.if_icmp .lt 5, 3) := by decide +kernel
theorem dX7_keys_26 : decode cX7_keys 26 = .ok (.iconst 0, 1) := by decide +kernel
theorem dX7_keys_27 : decode cX7_keys 27 = .ok (.ireturn, 1) := by decide +kernel
theorem dX7_keys_28 : decode cX7_keys 28 = .ok (.iload_n 1, 1) := by decide +kernel
theorem dX7_keys_29 : decode cX7_keys 29 = .ok (.ifCond .ne 10, 3) := by decide +kernel
theorem dX7_keys_32 : decode cX7_keys 32 = .ok (.aload_n 0, 1) := by decide +kernel
theorem dX7_keys_33 : decode cX7_keys 33 = .ok (.invokevirtual 214, 3) := by decide +kernel
theorem dX7_keys_36 : decode cX7_keys 36 = .ok (.goto 11, 3) := by decide +kernel
theorem dX7_keys_39 : decode cX7_keys 39 = .ok (.aload_n 0, 1) := by decide +kernel
theorem dX7_keys_40 : decode cX7_keys 40 = .ok (.getfield 30, 3) := by decide +kernel
theorem dX7_keys_43 : decode cX7_keys 43 = .ok (.iload_n 2, 1) := by decide +kernel
theorem dX7_keys_44 : decode cX7_keys 44 = .ok (.invokevirtual 217, 3) := by decide +kernel
theorem dX7_keys_47 : decode cX7_keys 47 = .ok (.ireturn, 1) := by decide +kernel
theorem dX7_guests_0 : decode cX7_guests 0 = .ok (.aload_n 0, 1) := by decide +kernel
theorem dX7_guests_1 : decode cX7_guests 1 = .ok (.getfield 30, 3) := by decide +kernel
theorem dX7_guests_4 : decode cX7_guests 4 = .ok (.invokevirtual 175, 3) := by decide +kernel
theorem dX7_guests_7 : decode cX7_guests 7 = .ok (.istore_n 1, 1) := by decide +kernel
theorem dX7_guests_8 : decode cX7_guests 8 = .ok (.iconst 0, 1) := by decide +kernel
theorem dX7_guests_9 : decode cX7_guests 9 = .ok (.istore_n 2, 1) := by decide +kernel
theorem dX7_guests_10 : decode cX7_guests 10 = .ok (.iload_n 2, 1) := by decide +kernel
theorem dX7_guests_11 : decode cX7_guests 11 = .ok (.iconst 3, 1) := by decide +kernel
theorem dX7_guests_12 : decode cX7_guests 12 = .ok (.if_icmp .gt 71, 3) := by decide +kernel
theorem dX7_guests_15 : decode cX7_guests 15 = .ok (.iconst 0, 1) := by decide +kernel
theorem dX7_guests_16 : decode cX7_guests 16 = .ok (.istore_n 3, 1) := by decide +kernel
theorem dX7_guests_17 : decode cX7_guests 17 = .ok (.iload_n 3, 1) := by decide +kernel
theorem dX7_guests_18 : decode cX7_guests 18 = .ok (.sipush 256, 3) := by decide +kernel
theorem dX7_guests_21 : decode cX7_guests 21 = .ok (.if_icmp .ge 56, 3) := by decide +kernel
theorem dX7_guests_24 : decode cX7_guests 24 = .ok (.iload_n 3, 1) := by decide +kernel
theorem dX7_guests_25 : decode cX7_guests 25 = .ok (.invokestatic 178, 3) := by decide +kernel
theorem dX7_guests_28 : decode cX7_guests 28 = .ok (.iload_n 2, 1) := by decide +kernel
theorem dX7_guests_29 : decode cX7_guests 29 = .ok (.if_icmp .ne 42, 3) := by decide +kernel
theorem dX7_guests_32 : decode cX7_guests 32 = .ok (.iload_n 3, 1) := by decide +kernel
theorem dX7_guests_33 : decode cX7_guests 33 = .ok (.iload_n 1, 1) := by decide +kernel
theorem dX7_guests_34 : decode cX7_guests 34 = .ok (.iconst (-1), 1) := by decide +kernel
theorem dX7_guests_35 : decode cX7_guests 35 = .ok (.ixor, 1) := by decide +kernel
theorem dX7_guests_36 : decode cX7_guests 36 = .ok (.iand, 1) := by decide +kernel
theorem dX7_guests_37 : decode cX7_guests 37 = .ok (.ifCond .eq 6, 3) := by decide +kernel
theorem dX7_guests_40 : decode cX7_guests 40 = .ok (.goto 31, 3) := by decide +kernel
theorem dX7_guests_43 : decode cX7_guests 43 = .ok (.aload_n 0, 1) := by decide +kernel
theorem dX7_guests_44 : decode cX7_guests 44 = .ok (.getfield 34, 3) := by decide +kernel
theorem dX7_guests_47 : decode cX7_guests 47 = .ok (.aload_n 0, 1) := by decide +kernel
theorem dX7_guests_48 : decode cX7_guests 48 = .ok (.getfield 30, 3) := by decide +kernel
theorem dX7_guests_51 : decode cX7_guests 51 = .ok (.invokevirtual 165, 3) := by decide +kernel
theorem dX7_guests_54 : decode cX7_guests 54 = .ok (.aload_n 0, 1) := by decide +kernel
theorem dX7_guests_55 : decode cX7_guests 55 = .ok (.getfield 34, 3) := by decide +kernel
theorem dX7_guests_58 : decode cX7_guests 58 = .ok (.iload_n 3, 1) := by decide +kernel
theorem dX7_guests_59 : decode cX7_guests 59 = .ok (.invokevirtual 220, 3) := by decide +kernel
theorem dX7_guests_62 : decode cX7_guests 62 = .ok (.aload_n 0, 1) := by decide +kernel
theorem dX7_guests_63 : decode cX7_guests 63 = .ok (.invokevirtual 210, 3) := by decide +kernel
theorem dX7_guests_66 : decode cX7_guests 66 = .ok (.ifCond .eq 5, 3) := by decide +kernel
theorem dX7_guests_69 : decode cX7_guests 69 = .ok (.iload_n 3, 1) := by decide +kernel
theorem dX7_guests_70 : decode cX7_guests 70 = .ok (.ireturn, 1) := by decide +kernel
theorem dX7_guests_71 : decode cX7_guests 71 = .ok (.iinc 3 1, 3) := by decide +kernel
theorem dX7_guests_74 : decode cX7_guests 74 = .ok (.goto (-57), 3) := by decide +kernel
theorem dX7_guests_77 : decode cX7_guests 77 = .ok (.iinc 2 1, 3) := by decide +kernel
theorem dX7_guests_80 : decode cX7_guests 80 = .ok (.goto (-70), 3) := by decide +kernel
theorem dX7_guests_83 : decode cX7_guests 83 = .ok (.iconst (-1), 1) := by decide +kernel
theorem dX7_guests_84 : decode cX7_guests 84 = .ok (.ireturn, 1) := by decide +kernel
theorem dX7_odds_0 : decode cX7_odds 0 = .ok (.iload_n 1, 1) := by decide +kernel
theorem dX7_odds_1 : decode cX7_odds 1 = .ok (.ifCond .lt 18, 3) := by decide +kernel
theorem dX7_odds_4 : decode cX7_odds 4 = .ok (.iload_n 1, 1) := by decide +kernel
theorem dX7_odds_5 : decode cX7_odds 5 = .ok (.bipush 60, 2) := by decide +kernel
theorem dX7_odds_7 : decode cX7_odds 7 = .ok (.if_icmp .ge 12, 3) := by decide +kernel
theorem dX7_odds_10 : decode cX7_odds 10 = .ok (.iload_n 2, 1) := by decide +kernel
theorem dX7_odds_11 : decode cX7_odds 11 = .ok (.ifCond .eq 12, 3) := by decide +kernel
theorem dX7_odds_14 : decode cX7_odds 14 = .ok (.iload_n 2, 1) := by decide +kernel
theorem dX7_odds_15 : decode cX7_odds 15 = .ok (.iconst 1, 1) := by decide +kernel
theorem dX7_odds_16 : decode cX7_odds 16 = .ok (.if_icmp .eq 7, 3) := by decide +kernel
theorem dX7_odds_19 : decode cX7_odds 19 = .ok (.ldc2_w 223, 3) := by decide +kernel
theorem dX7_odds_22 : decode cX7_odds 22 = .ok (.lreturn, 1) := by decide +kernel
theorem dX7_odds_23 : decode cX7_odds 23 = .ok (.aload_n 0, 1) := by decide +kernel
theorem dX7_odds_24 : decode cX7_odds 24 = .ok (.getfield 34, 3) := by decide +kernel
theorem dX7_odds_27 : decode cX7_odds 27 = .ok (.aload_n 0, 1) := by decide +kernel
theorem dX7_odds_28 : decode cX7_odds 28 = .ok (.getfield 30, 3) := by decide +kernel
theorem dX7_odds_31 : decode cX7_odds 31 = .ok (.invokevirtual 165, 3) := by decide +kernel
theorem dX7_odds_34 : decode cX7_odds 34 = .ok (.aload_n 0, 1) := by decide +kernel
theorem dX7_odds_35 : decode cX7_odds 35 = .ok (.getfield 58, 3) := by decide +kernel
theorem dX7_odds_38 : decode cX7_odds 38 = .ok (.aload_n 0, 1) := by decide +kernel
theorem dX7_odds_39 : decode cX7_odds 39 = .ok (.getfield 58, 3) := by decide +kernel
theorem dX7_odds_42 : decode cX7_odds 42 = .ok (.iload_n 1, 1) := by decide +kernel
theorem dX7_odds_43 : decode cX7_odds 43 = .ok (.invokevirtual 225, 3) := by decide +kernel
theorem dX7_odds_46 : decode cX7_odds 46 = .ok (.iload_n 2, 1) := by decide +kernel
theorem dX7_odds_47 : decode cX7_odds 47 = .ok (.invokevirtual 229, 3) := by decide +kernel
theorem dX7_odds_50 : decode cX7_odds 50 = .ok (.lreturn, 1) := by decide +kernel
theorem dX7_mean_0 : decode cX7_mean 0 = .ok (.aload_n 0, 1) := by decide +kernel
theorem dX7_mean_1 : decode cX7_mean 1 = .ok (.iload_n 1, 1) := by decide +kernel
theorem dX7_mean_2 : decode cX7_mean 2 = .ok (.invokevirtual 114, 3) := by decide +kernel
theorem dX7_mean_5 : decode cX7_mean 5 = .ok (.ifCond .eq 12, 3) := by decide +kernel
theorem dX7_mean_8 : decode cX7_mean 8 = .ok (.iload_n 2, 1) := by decide +kernel
theorem dX7_mean_9 : decode cX7_mean 9 = .ok (.ifCond .eq 12, 3) := by decide +kernel
theorem dX7_mean_12 : decode cX7_mean 12 = .ok (.iload_n 2, 1) := by decide +kernel
theorem dX7_mean_13 : decode cX7_mean 13 = .ok (.iconst 1, 1) := by decide +kernel
theorem dX7_mean_14 : decode cX7_mean 14 = .ok (.if_icmp .eq 7, 3) := by decide +kernel
theorem dX7_mean_17 : decode cX7_mean 17 = .ok (.ldc2_w 223, 3) := by decide +kernel
theorem dX7_mean_20 : decode cX7_mean 20 = .ok (.lreturn, 1) := by decide +kernel
theorem dX7_mean_21 : decode cX7_mean 21 = .ok (.aload_n 0, 1) := by decide +kernel
theorem dX7_mean_22 : decode cX7_mean 22 = .ok (.getfield 34, 3) := by decide +kernel
theorem dX7_mean_25 : decode cX7_mean 25 = .ok (.aload_n 0, 1) := by decide +kernel
theorem dX7_mean_26 : decode cX7_mean 26 = .ok (.getfield 30, 3) := by decide +kernel
theorem dX7_mean_29 : decode cX7_mean 29 = .ok (.invokevirtual 165, 3) := by decide +kernel
theorem dX7_mean_32 : decode cX7_mean 32 = .ok (.aload_n 0, 1) := by decide +kernel
theorem dX7_mean_33 : decode cX7_mean 33 = .ok (.getfield 58, 3) := by decide +kernel
theorem dX7_mean_36 : decode cX7_mean 36 = .ok (.aload_n 0, 1) := by decide +kernel
theorem dX7_mean_37 : decode cX7_mean 37 = .ok (.getfield 58, 3) := by decide +kernel
theorem dX7_mean_40 : decode cX7_mean 40 = .ok (.iload_n 1, 1) := by decide +kernel
theorem dX7_mean_41 : decode cX7_mean 41 = .ok (.invokevirtual 233, 3) := by decide +kernel
theorem dX7_mean_44 : decode cX7_mean 44 = .ok (.iload_n 2, 1) := by decide +kernel
theorem dX7_mean_45 : decode cX7_mean 45 = .ok (.invokevirtual 229, 3) := by decide +kernel
theorem dX7_mean_48 : decode cX7_mean 48 = .ok (.lreturn, 1) := by decide +kernel
theorem dX7_sure_0 : decode cX7_sure 0 = .ok (.aload_n 0, 1) := by decide +kernel
theorem dX7_sure_1 : decode cX7_sure 1 = .ok (.iload_n 1, 1) := by decide +kernel
theorem dX7_sure_2 : decode cX7_sure 2 = .ok (.invokevirtual 90, 3) := by decide +kernel
theorem dX7_sure_5 : decode cX7_sure 5 = .ok (.ifCond .ne 6, 3) := by decide +kernel
theorem dX7_sure_8 : decode cX7_sure 8 = .ok (.bipush (-2), 2) := by decide +kernel
theorem dX7_sure_10 : decode cX7_sure 10 = .ok (.ireturn, 1) := by decide +kernel
theorem dX7_sure_11 : decode cX7_sure 11 = .ok (.aload_n 0, 1) := by decide +kernel
theorem dX7_sure_12 : decode cX7_sure 12 = .ok (.getfield 34, 3) := by decide +kernel
theorem dX7_sure_15 : decode cX7_sure 15 = .ok (.aload_n 0, 1) := by decide +kernel
theorem dX7_sure_16 : decode cX7_sure 16 = .ok (.getfield 30, 3) := by decide +kernel
theorem dX7_sure_19 : decode cX7_sure 19 = .ok (.invokevirtual 165, 3) := by decide +kernel
theorem dX7_sure_22 : decode cX7_sure 22 = .ok (.iconst 0, 1) := by decide +kernel
theorem dX7_sure_23 : decode cX7_sure 23 = .ok (.istore_n 2, 1) := by decide +kernel
theorem dX7_sure_24 : decode cX7_sure 24 = .ok (.ldc2_w 236, 3) := by decide +kernel
theorem dX7_sure_27 : decode cX7_sure 27 = .ok (.lstore_n 3, 1) := by decide +kernel
theorem dX7_sure_28 : decode cX7_sure 28 = .ok (.iconst 0, 1) := by decide +kernel
theorem dX7_sure_29 : decode cX7_sure 29 = .ok (.istore 5, 2) := by decide +kernel
theorem dX7_sure_31 : decode cX7_sure 31 = .ok (.iload 5, 2) := by decide +kernel
theorem dX7_sure_33 : decode cX7_sure 33 = .ok (.bipush 60, 2) := by decide +kernel
theorem dX7_sure_35 : decode cX7_sure 35 = .ok (.if_icmp .gt 43, 3) := by decide +kernel
theorem dX7_sure_38 : decode cX7_sure 38 = .ok (.aload_n 0, 1) := by decide +kernel
theorem dX7_sure_39 : decode cX7_sure 39 = .ok (.getfield 34, 3) := by decide +kernel
theorem dX7_sure_42 : decode cX7_sure 42 = .ok (.getfield 87, 3) := by decide +kernel
theorem dX7_sure_45 : decode cX7_sure 45 = .ok (.iload_n 1, 1) := by decide +kernel
theorem dX7_sure_46 : decode cX7_sure 46 = .ok (.iload 5, 2) := by decide +kernel
theorem dX7_sure_48 : decode cX7_sure 48 = .ok (.iastore, 1) := by decide +kernel
theorem dX7_sure_49 : decode cX7_sure 49 = .ok (.aload_n 0, 1) := by decide +kernel
theorem dX7_sure_50 : decode cX7_sure 50 = .ok (.getfield 58, 3) := by decide +kernel
theorem dX7_sure_53 : decode cX7_sure 53 = .ok (.iload_n 1, 1) := by decide +kernel
theorem dX7_sure_54 : decode cX7_sure 54 = .ok (.invokevirtual 233, 3) := by decide +kernel
theorem dX7_sure_57 : decode cX7_sure 57 = .ok (.lstore 6, 2) := by decide +kernel
theorem dX7_sure_59 : decode cX7_sure 59 = .ok (.lload 6, 2) := by decide +kernel
theorem dX7_sure_61 : decode cX7_sure 61 = .ok (.lload_n 3, 1) := by decide +kernel
theorem dX7_sure_62 : decode cX7_sure 62 = .ok (.lcmp, 1) := by decide +kernel
theorem dX7_sure_63 : decode cX7_sure 63 = .ok (.ifCond .ge 9, 3) := by decide +kernel
theorem dX7_sure_66 : decode cX7_sure 66 = .ok (.lload 6, 2) := by decide +kernel
theorem dX7_sure_68 : decode cX7_sure 68 = .ok (.lstore_n 3, 1) := by decide +kernel
theorem dX7_sure_69 : decode cX7_sure 69 = .ok (.iload 5, 2) := by decide +kernel
theorem dX7_sure_71 : decode cX7_sure 71 = .ok (.istore_n 2, 1) := by decide +kernel
theorem dX7_sure_72 : decode cX7_sure 72 = .ok (.iinc 5 1, 3) := by decide +kernel
theorem dX7_sure_75 : decode cX7_sure 75 = .ok (.goto (-44), 3) := by decide +kernel
theorem dX7_sure_78 : decode cX7_sure 78 = .ok (.iload_n 2, 1) := by decide +kernel
theorem dX7_sure_79 : decode cX7_sure 79 = .ok (.ireturn, 1) := by decide +kernel
theorem dX7_sheet_0 : decode cX7_sheet 0 = .ok (.iload_n 1, 1) := by decide +kernel
theorem dX7_sheet_1 : decode cX7_sheet 1 = .ok (.invokestatic 97, 3) := by decide +kernel
theorem dX7_sheet_4 : decode cX7_sheet 4 = .ok (.ifCond .eq 16, 3) := by decide +kernel
theorem dX7_sheet_7 : decode cX7_sheet 7 = .ok (.iload_n 2, 1) := by decide +kernel
theorem dX7_sheet_8 : decode cX7_sheet 8 = .ok (.invokestatic 238, 3) := by decide +kernel
theorem dX7_sheet_11 : decode cX7_sheet 11 = .ok (.ifCond .eq 9, 3) := by decide +kernel
theorem dX7_sheet_14 : decode cX7_sheet 14 = .ok (.iload_n 3, 1) := by decide +kernel
theorem dX7_sheet_15 : decode cX7_sheet 15 = .ok (.bipush 64, 2) := by decide +kernel
theorem dX7_sheet_17 : decode cX7_sheet 17 = .ok (.if_icmp .le 6, 3) := by decide +kernel
theorem dX7_sheet_20 : decode cX7_sheet 20 = .ok (.bipush (-2), 2) := by decide +kernel
theorem dX7_sheet_22 : decode cX7_sheet 22 = .ok (.ireturn, 1) := by decide +kernel
theorem dX7_sheet_23 : decode cX7_sheet 23 = .ok (.iload_n 3, 1) := by decide +kernel
theorem dX7_sheet_24 : decode cX7_sheet 24 = .ok (.ifCond .ge 12, 3) := by decide +kernel
theorem dX7_sheet_27 : decode cX7_sheet 27 = .ok (.aload_n 0, 1) := by decide +kernel
theorem dX7_sheet_28 : decode cX7_sheet 28 = .ok (.getfield 65, 3) := by decide +kernel
theorem dX7_sheet_31 : decode cX7_sheet 31 = .ok (.iconst 5, 1) := by decide +kernel
theorem dX7_sheet_32 : decode cX7_sheet 32 = .ok (.invokevirtual 103, 3) := by decide +kernel
theorem dX7_sheet_35 : decode cX7_sheet 35 = .ok (.ireturn, 1) := by decide +kernel
theorem dX7_sheet_36 : decode cX7_sheet 36 = .ok (.aload_n 0, 1) := by decide +kernel
theorem dX7_sheet_37 : decode cX7_sheet 37 = .ok (.getfield 65, 3) := by decide +kernel
theorem dX7_sheet_40 : decode cX7_sheet 40 = .ok (.iload_n 1, 1) := by decide +kernel
theorem dX7_sheet_41 : decode cX7_sheet 41 = .ok (.iload_n 2, 1) := by decide +kernel
theorem dX7_sheet_42 : decode cX7_sheet 42 = .ok (.iload_n 3, 1) := by decide +kernel
theorem dX7_sheet_43 : decode cX7_sheet 43 = .ok (.invokevirtual 241, 3) := by decide +kernel
theorem dX7_sheet_46 : decode cX7_sheet 46 = .ok (.iload_n 3, 1) := by decide +kernel
theorem dX7_sheet_47 : decode cX7_sheet 47 = .ok (.ireturn, 1) := by decide +kernel
theorem dX7_lose_0 : decode cX7_lose 0 = .ok (.iload_n 1, 1) := by decide +kernel
theorem dX7_lose_1 : decode cX7_lose 1 = .ok (.invokestatic 97, 3) := by decide +kernel
theorem dX7_lose_4 : decode cX7_lose 4 = .ok (.ifCond .ne 6, 3) := by decide +kernel
theorem dX7_lose_7 : decode cX7_lose 7 = .ok (.bipush (-2), 2) := by decide +kernel
theorem dX7_lose_9 : decode cX7_lose 9 = .ok (.ireturn, 1) := by decide +kernel
theorem dX7_lose_10 : decode cX7_lose 10 = .ok (.aload_n 0, 1) := by decide +kernel
theorem dX7_lose_11 : decode cX7_lose 11 = .ok (.getfield 65, 3) := by decide +kernel
theorem dX7_lose_14 : decode cX7_lose 14 = .ok (.iload_n 1, 1) := by decide +kernel
theorem dX7_lose_15 : decode cX7_lose 15 = .ok (.invokevirtual 100, 3) := by decide +kernel
theorem dX7_lose_18 : decode cX7_lose 18 = .ok (.ifCond .eq 12, 3) := by decide +kernel
theorem dX7_lose_21 : decode cX7_lose 21 = .ok (.aload_n 0, 1) := by decide +kernel
theorem dX7_lose_22 : decode cX7_lose 22 = .ok (.getfield 65, 3) := by decide +kernel
theorem dX7_lose_25 : decode cX7_lose 25 = .ok (.iconst 1, 1) := by decide +kernel
theorem dX7_lose_26 : decode cX7_lose 26 = .ok (.invokevirtual 103, 3) := by decide +kernel
theorem dX7_lose_29 : decode cX7_lose 29 = .ok (.ireturn, 1) := by decide +kernel
theorem dX7_lose_30 : decode cX7_lose 30 = .ok (.aload_n 0, 1) := by decide +kernel
theorem dX7_lose_31 : decode cX7_lose 31 = .ok (.getfield 65, 3) := by decide +kernel
theorem dX7_lose_34 : decode cX7_lose 34 = .ok (.getfield 107, 3) := by decide +kernel
theorem dX7_lose_37 : decode cX7_lose 37 = .ok (.iload_n 1, 1) := by decide +kernel
theorem dX7_lose_38 : decode cX7_lose 38 = .ok (.iaload, 1) := by decide +kernel
theorem dX7_lose_39 : decode cX7_lose 39 = .ok (.istore_n 2, 1) := by decide +kernel
theorem dX7_lose_40 : decode cX7_lose 40 = .ok (.aload_n 0, 1) := by decide +kernel
theorem dX7_lose_41 : decode cX7_lose 41 = .ok (.getfield 65, 3) := by decide +kernel
theorem dX7_lose_44 : decode cX7_lose 44 = .ok (.iload_n 1, 1) := by decide +kernel
theorem dX7_lose_45 : decode cX7_lose 45 = .ok (.invokevirtual 244, 3) := by decide +kernel
theorem dX7_lose_48 : decode cX7_lose 48 = .ok (.iload_n 2, 1) := by decide +kernel
theorem dX7_lose_49 : decode cX7_lose 49 = .ok (.ireturn, 1) := by decide +kernel
theorem dX7_put_0 : decode cX7_put 0 = .ok (.iload_n 1, 1) := by decide +kernel
theorem dX7_put_1 : decode cX7_put 1 = .ok (.invokestatic 97, 3) := by decide +kernel
theorem dX7_put_4 : decode cX7_put 4 = .ok (.ifCond .eq 10, 3) := by decide +kernel
theorem dX7_put_7 : decode cX7_put 7 = .ok (.iload_n 2, 1) := by decide +kernel
theorem dX7_put_8 : decode cX7_put 8 = .ok (.invokestatic 238, 3) := by decide +kernel
theorem dX7_put_11 : decode cX7_put 11 = .ok (.ifCond .ne 6, 3) := by decide +kernel
theorem dX7_put_14 : decode cX7_put 14 = .ok (.bipush (-2), 2) := by decide +kernel
theorem dX7_put_16 : decode cX7_put 16 = .ok (.ireturn, 1) := by decide +kernel
theorem dX7_put_17 : decode cX7_put 17 = .ok (.aload_n 0, 1) := by decide +kernel
theorem dX7_put_18 : decode cX7_put 18 = .ok (.getfield 65, 3) := by decide +kernel
theorem dX7_put_21 : decode cX7_put 21 = .ok (.iload_n 1, 1) := by decide +kernel
theorem dX7_put_22 : decode cX7_put 22 = .ok (.iload_n 2, 1) := by decide +kernel
theorem dX7_put_23 : decode cX7_put 23 = .ok (.iload_n 3, 1) := by decide +kernel
theorem dX7_put_24 : decode cX7_put 24 = .ok (.invokevirtual 247, 3) := by decide +kernel
theorem dX7_put_27 : decode cX7_put 27 = .ok (.istore 5, 2) := by decide +kernel
theorem dX7_put_29 : decode cX7_put 29 = .ok (.iload 5, 2) := by decide +kernel
theorem dX7_put_31 : decode cX7_put 31 = .ok (.ifCond .eq 13, 3) := by decide +kernel
theorem dX7_put_34 : decode cX7_put 34 = .ok (.aload_n 0, 1) := by decide +kernel
theorem dX7_put_35 : decode cX7_put 35 = .ok (.getfield 65, 3) := by decide +kernel
theorem dX7_put_38 : decode cX7_put 38 = .ok (.iload 5, 2) := by decide +kernel
theorem dX7_put_40 : decode cX7_put 40 = .ok (.invokevirtual 103, 3) := by decide +kernel
theorem dX7_put_43 : decode cX7_put 43 = .ok (.ireturn, 1) := by decide +kernel
theorem dX7_put_44 : decode cX7_put 44 = .ok (.aload_n 0, 1) := by decide +kernel
theorem dX7_put_45 : decode cX7_put 45 = .ok (.getfield 65, 3) := by decide +kernel
theorem dX7_put_48 : decode cX7_put 48 = .ok (.getfield 110, 3) := by decide +kernel
theorem dX7_put_51 : decode cX7_put 51 = .ok (.iload_n 1, 1) := by decide +kernel
theorem dX7_put_52 : decode cX7_put 52 = .ok (.aaload, 1) := by decide +kernel
theorem dX7_put_53 : decode cX7_put 53 = .ok (.iload_n 3, 1) := by decide +kernel
theorem dX7_put_54 : decode cX7_put 54 = .ok (.aload_n 0, 1) := by decide +kernel
theorem dX7_put_55 : decode cX7_put 55 = .ok (.getfield 65, 3) := by decide +kernel
theorem dX7_put_58 : decode cX7_put 58 = .ok (.iload_n 2, 1) := by decide +kernel
theorem dX7_put_59 : decode cX7_put 59 = .ok (.iload 4, 2) := by decide +kernel
theorem dX7_put_61 : decode cX7_put 61 = .ok (.invokevirtual 250, 3) := by decide +kernel
theorem dX7_put_64 : decode cX7_put 64 = .ok (.iastore, 1) := by decide +kernel
theorem dX7_put_65 : decode cX7_put 65 = .ok (.iconst 1, 1) := by decide +kernel
theorem dX7_put_66 : decode cX7_put 66 = .ok (.ireturn, 1) := by decide +kernel
theorem dX7_get_0 : decode cX7_get 0 = .ok (.iload_n 1, 1) := by decide +kernel
theorem dX7_get_1 : decode cX7_get 1 = .ok (.invokestatic 97, 3) := by decide +kernel
theorem dX7_get_4 : decode cX7_get 4 = .ok (.ifCond .eq 10, 3) := by decide +kernel
theorem dX7_get_7 : decode cX7_get 7 = .ok (.iload_n 2, 1) := by decide +kernel
theorem dX7_get_8 : decode cX7_get 8 = .ok (.invokestatic 238, 3) := by decide +kernel
theorem dX7_get_11 : decode cX7_get 11 = .ok (.ifCond .ne 6, 3) := by decide +kernel
theorem dX7_get_14 : decode cX7_get 14 = .ok (.ldc 253, 2) := by decide +kernel
theorem dX7_get_16 : decode cX7_get 16 = .ok (.ireturn, 1) := by decide +kernel
theorem dX7_get_17 : decode cX7_get 17 = .ok (.aload_n 0, 1) := by decide +kernel
theorem dX7_get_18 : decode cX7_get 18 = .ok (.getfield 65, 3) := by decide +kernel
theorem dX7_get_21 : decode cX7_get 21 = .ok (.iload_n 1, 1) := by decide +kernel
theorem dX7_get_22 : decode cX7_get 22 = .ok (.iload_n 2, 1) := by decide +kernel
theorem dX7_get_23 : decode cX7_get 23 = .ok (.iload_n 3, 1) := by decide +kernel
theorem dX7_get_24 : decode cX7_get 24 = .ok (.invokevirtual 247, 3) := by decide +kernel
theorem dX7_get_27 : decode cX7_get 27 = .ok (.istore 4, 2) := by decide +kernel
theorem dX7_get_29 : decode cX7_get 29 = .ok (.iload 4, 2) := by decide +kernel
theorem dX7_get_31 : decode cX7_get 31 = .ok (.ifCond .eq 16, 3) := by decide +kernel
theorem dX7_get_34 : decode cX7_get 34 = .ok (.aload_n 0, 1) := by decide +kernel
theorem dX7_get_35 : decode cX7_get 35 = .ok (.getfield 65, 3) := by decide +kernel
theorem dX7_get_38 : decode cX7_get 38 = .ok (.iload 4, 2) := by decide +kernel
theorem dX7_get_40 : decode cX7_get 40 = .ok (.invokevirtual 103, 3) := by decide +kernel
theorem dX7_get_43 : decode cX7_get 43 = .ok (.pop, 1) := by decide +kernel
theorem dX7_get_44 : decode cX7_get 44 = .ok (.ldc 253, 2) := by decide +kernel
theorem dX7_get_46 : decode cX7_get 46 = .ok (.ireturn, 1) := by decide +kernel
theorem dX7_get_47 : decode cX7_get 47 = .ok (.aload_n 0, 1) := by decide +kernel
theorem dX7_get_48 : decode cX7_get 48 = .ok (.getfield 65, 3) := by decide +kernel
theorem dX7_get_51 : decode cX7_get 51 = .ok (.getfield 110, 3) := by decide +kernel
theorem dX7_get_54 : decode cX7_get 54 = .ok (.iload_n 1, 1) := by decide +kernel
theorem dX7_get_55 : decode cX7_get 55 = .ok (.aaload, 1) := by decide +kernel
theorem dX7_get_56 : decode cX7_get 56 = .ok (.iload_n 3, 1) := by decide +kernel
theorem dX7_get_57 : decode cX7_get 57 = .ok (.iaload, 1) := by decide +kernel
theorem dX7_get_58 : decode cX7_get 58 = .ok (.ireturn, 1) := by decide +kernel
theorem dX7_copy_0 : decode cX7_copy 0 = .ok (.iload_n 1, 1) := by decide +kernel
theorem dX7_copy_1 : decode cX7_copy 1 = .ok (.invokestatic 97, 3) := by decide +kernel
theorem dX7_copy_4 : decode cX7_copy 4 = .ok (.ifCond .eq 10, 3) := by decide +kernel
theorem dX7_copy_7 : decode cX7_copy 7 = .ok (.iload_n 3, 1) := by decide +kernel
theorem dX7_copy_8 : decode cX7_copy 8 = .ok (.invokestatic 97, 3) := by decide +kernel
theorem dX7_copy_11 : decode cX7_copy 11 = .ok (.ifCond .ne 6, 3) := by decide +kernel
theorem dX7_copy_14 : decode cX7_copy 14 = .ok (.bipush (-2), 2) := by decide +kernel
theorem dX7_copy_16 : decode cX7_copy 16 = .ok (.ireturn, 1) := by decide +kernel
theorem dX7_copy_17 : decode cX7_copy 17 = .ok (.aload_n 0, 1) := by decide +kernel
theorem dX7_copy_18 : decode cX7_copy 18 = .ok (.getfield 65, 3) := by decide +kernel
theorem dX7_copy_21 : decode cX7_copy 21 = .ok (.iload_n 1, 1) := by decide +kernel
theorem dX7_copy_22 : decode cX7_copy 22 = .ok (.invokevirtual 100, 3) := by decide +kernel
theorem dX7_copy_25 : decode cX7_copy 25 = .ok (.ifCond .ne 14, 3) := by decide +kernel
theorem dX7_copy_28 : decode cX7_copy 28 = .ok (.aload_n 0, 1) := by decide +kernel
theorem dX7_copy_29 : decode cX7_copy 29 = .ok (.getfield 65, 3) := by decide +kernel
theorem dX7_copy_32 : decode cX7_copy 32 = .ok (.iload_n 3, 1) := by decide +kernel
theorem dX7_copy_33 : decode cX7_copy 33 = .ok (.invokevirtual 100, 3) := by decide +kernel
theorem dX7_copy_36 : decode cX7_copy 36 = .ok (.ifCond .eq 12, 3) := by decide +kernel
theorem dX7_copy_39 : decode cX7_copy 39 = .ok (.aload_n 0, 1) := by decide +kernel
theorem dX7_copy_40 : decode cX7_copy 40 = .ok (.getfield 65, 3) := by decide +kernel
theorem dX7_copy_43 : decode cX7_copy 43 = .ok (.iconst 1, 1) := by decide +kernel
theorem dX7_copy_44 : decode cX7_copy 44 = .ok (.invokevirtual 103, 3) := by decide +kernel
theorem dX7_copy_47 : decode cX7_copy 47 = .ok (.ireturn, 1) := by decide +kernel
theorem dX7_copy_48 : decode cX7_copy 48 = .ok (.aload_n 0, 1) := by decide +kernel
theorem dX7_copy_49 : decode cX7_copy 49 = .ok (.getfield 65, 3) := by decide +kernel
theorem dX7_copy_52 : decode cX7_copy 52 = .ok (.getfield 254, 3) := by decide +kernel
theorem dX7_copy_55 : decode cX7_copy 55 = .ok (.iload_n 1, 1) := by decide +kernel
theorem dX7_copy_56 : decode cX7_copy 56 = .ok (.iaload, 1) := by decide +kernel
theorem dX7_copy_57 : decode cX7_copy 57 = .ok (.aload_n 0, 1) := by decide +kernel
theorem dX7_copy_58 : decode cX7_copy 58 = .ok (.getfield 65, 3) := by decide +kernel
theorem dX7_copy_61 : decode cX7_copy 61 = .ok (.getfield 254, 3) := by decide +kernel
theorem dX7_copy_64 : decode cX7_copy 64 = .ok (.iload_n 3, 1) := by decide +kernel
theorem dX7_copy_65 : decode cX7_copy 65 = .ok (.iaload, 1) := by decide +kernel
theorem dX7_copy_66 : decode cX7_copy 66 = .ok (.if_icmp .eq 12, 3) := by decide +kernel
theorem dX7_copy_69 : decode cX7_copy 69 = .ok (.aload_n 0, 1) := by decide +kernel
theorem dX7_copy_70 : decode cX7_copy 70 = .ok (.getfield 65, 3) := by decide +kernel
theorem dX7_copy_73 : decode cX7_copy 73 = .ok (.iconst 4, 1) := by decide +kernel
theorem dX7_copy_74 : decode cX7_copy 74 = .ok (.invokevirtual 103, 3) := by decide +kernel
theorem dX7_copy_77 : decode cX7_copy 77 = .ok (.ireturn, 1) := by decide +kernel
theorem dX7_copy_78 : decode cX7_copy 78 = .ok (.iload 5, 2) := by decide +kernel
theorem dX7_copy_80 : decode cX7_copy 80 = .ok (.ifCond .lt 32, 3) := by decide +kernel
theorem dX7_copy_83 : decode cX7_copy 83 = .ok (.aload_n 0, 1) := by decide +kernel
theorem dX7_copy_84 : decode cX7_copy 84 = .ok (.getfield 65, 3) := by decide +kernel
theorem dX7_copy_87 : decode cX7_copy 87 = .ok (.iload_n 1, 1) := by decide +kernel
theorem dX7_copy_88 : decode cX7_copy 88 = .ok (.iload_n 2, 1) := by decide +kernel
theorem dX7_copy_89 : decode cX7_copy 89 = .ok (.iload 5, 2) := by decide +kernel
theorem dX7_copy_91 : decode cX7_copy 91 = .ok (.invokevirtual 257, 3) := by decide +kernel
theorem dX7_copy_94 : decode cX7_copy 94 = .ok (.ifCond .eq 18, 3) := by decide +kernel
theorem dX7_copy_97 : decode cX7_copy 97 = .ok (.aload_n 0, 1) := by decide +kernel
theorem dX7_copy_98 : decode cX7_copy 98 = .ok (.getfield 65, 3) := by decide +kernel
theorem dX7_copy_101 : decode cX7_copy 101 = .ok (.iload_n 3, 1) := by decide +kernel
theorem dX7_copy_102 : decode cX7_copy 102 = .ok (.iload 4, 2) := by decide +kernel
theorem dX7_copy_104 : decode cX7_copy 104 = .ok (.iload 5, 2) := by decide +kernel
theorem dX7_copy_106 : decode cX7_copy 106 = .ok (.invokevirtual 257, 3) := by decide +kernel
theorem dX7_copy_109 : decode cX7_copy 109 = .ok (.ifCond .ne 12, 3) := by decide +kernel
theorem dX7_copy_112 : decode cX7_copy 112 = .ok (.aload_n 0, 1) := by decide +kernel
theorem dX7_copy_113 : decode cX7_copy 113 = .ok (.getfield 65, 3) := by decide +kernel
theorem dX7_copy_116 : decode cX7_copy 116 = .ok (.iconst 2, 1) := by decide +kernel
theorem dX7_copy_117 : decode cX7_copy 117 = .ok (.invokevirtual 103, 3) := by decide +kernel
theorem dX7_copy_120 : decode cX7_copy 120 = .ok (.ireturn, 1) := by decide +kernel
theorem dX7_copy_121 : decode cX7_copy 121 = .ok (.aload_n 0, 1) := by decide +kernel
theorem dX7_copy_122 : decode cX7_copy 122 = .ok (.getfield 65, 3) := by decide +kernel
theorem dX7_copy_125 : decode cX7_copy 125 = .ok (.getfield 110, 3) := by decide +kernel
theorem dX7_copy_128 : decode cX7_copy 128 = .ok (.iload_n 1, 1) := by decide +kernel
theorem dX7_copy_129 : decode cX7_copy 129 = .ok (.aaload, 1) := by decide +kernel
theorem dX7_copy_130 : decode cX7_copy 130 = .ok (.iload_n 2, 1) := by decide +kernel
theorem dX7_copy_131 : decode cX7_copy 131 = .ok (.aload_n 0, 1) := by decide +kernel
theorem dX7_copy_132 : decode cX7_copy 132 = .ok (.getfield 65, 3) := by decide +kernel
theorem dX7_copy_135 : decode cX7_copy 135 = .ok (.getfield 110, 3) := by decide +kernel
theorem dX7_copy_138 : decode cX7_copy 138 = .ok (.iload_n 3, 1) := by decide +kernel
theorem dX7_copy_139 : decode cX7_copy 139 = .ok (.aaload, 1) := by decide +kernel
theorem dX7_copy_140 : decode cX7_copy 140 = .ok (.iload 4, 2) := by decide +kernel
theorem dX7_copy_142 : decode cX7_copy 142 = .ok (.iload 5, 2) := by decide +kernel
theorem dX7_copy_144 : decode cX7_copy 144 = .ok (.invokestatic 260, 3) := by decide +kernel
theorem dX7_copy_147 : decode cX7_copy 147 = .ok (.iconst 1, 1) := by decide +kernel
theorem dX7_copy_148 : decode cX7_copy 148 = .ok (.ireturn, 1) := by decide +kernel
theorem dX7_write_0 : decode cX7_write 0 = .ok (.iload_n 1, 1) := by decide +kernel
theorem dX7_write_1 : decode cX7_write 1 = .ok (.invokestatic 97, 3) := by decide +kernel
theorem dX7_write_4 : decode cX7_write 4 = .ok (.ifCond .ne 6, 3) := by decide +kernel
theorem dX7_write_7 : decode cX7_write 7 = .ok (.bipush (-2), 2) := by decide +kernel
theorem dX7_write_9 : decode cX7_write 9 = .ok (.ireturn, 1) := by decide +kernel
theorem dX7_write_10 : decode cX7_write 10 = .ok (.aload_n 0, 1) := by decide +kernel
theorem dX7_write_11 : decode cX7_write 11 = .ok (.getfield 65, 3) := by decide +kernel
theorem dX7_write_14 : decode cX7_write 14 = .ok (.iload_n 1, 1) := by decide +kernel
theorem dX7_write_15 : decode cX7_write 15 = .ok (.invokevirtual 100, 3) := by decide +kernel
theorem dX7_write_18 : decode cX7_write 18 = .ok (.ifCond .eq 12, 3) := by decide +kernel
theorem dX7_write_21 : decode cX7_write 21 = .ok (.aload_n 0, 1) := by decide +kernel
theorem dX7_write_22 : decode cX7_write 22 = .ok (.getfield 65, 3) := by decide +kernel
theorem dX7_write_25 : decode cX7_write 25 = .ok (.iconst 1, 1) := by decide +kernel
theorem dX7_write_26 : decode cX7_write 26 = .ok (.invokevirtual 103, 3) := by decide +kernel
theorem dX7_write_29 : decode cX7_write 29 = .ok (.ireturn, 1) := by decide +kernel
theorem dX7_write_30 : decode cX7_write 30 = .ok (.aload_n 0, 1) := by decide +kernel
theorem dX7_write_31 : decode cX7_write 31 = .ok (.getfield 65, 3) := by decide +kernel
theorem dX7_write_34 : decode cX7_write 34 = .ok (.getfield 107, 3) := by decide +kernel
theorem dX7_write_37 : decode cX7_write 37 = .ok (.iload_n 1, 1) := by decide +kernel
theorem dX7_write_38 : decode cX7_write 38 = .ok (.iaload, 1) := by decide +kernel
theorem dX7_write_39 : decode cX7_write 39 = .ok (.bipush 61, 2) := by decide +kernel
theorem dX7_write_41 : decode cX7_write 41 = .ok (.invokestatic 266, 3) := by decide +kernel
theorem dX7_write_44 : decode cX7_write 44 = .ok (.istore_n 2, 1) := by decide +kernel
theorem dX7_write_45 : decode cX7_write 45 = .ok (.aload_n 0, 1) := by decide +kernel
theorem dX7_write_46 : decode cX7_write 46 = .ok (.getfield 34, 3) := by decide +kernel
theorem dX7_write_49 : decode cX7_write 49 = .ok (.aload_n 0, 1) := by decide +kernel
theorem dX7_write_50 : decode cX7_write 50 = .ok (.getfield 30, 3) := by decide +kernel
theorem dX7_write_53 : decode cX7_write 53 = .ok (.invokevirtual 165, 3) := by decide +kernel
theorem dX7_write_56 : decode cX7_write 56 = .ok (.aload_n 0, 1) := by decide +kernel
theorem dX7_write_57 : decode cX7_write 57 = .ok (.getfield 49, 3) := by decide +kernel
theorem dX7_write_60 : decode cX7_write 60 = .ok (.iload_n 2, 1) := by decide +kernel
theorem dX7_write_61 : decode cX7_write 61 = .ok (.iconst 1, 1) := by decide +kernel
theorem dX7_write_62 : decode cX7_write 62 = .ok (.isub, 1) := by decide +kernel
theorem dX7_write_63 : decode cX7_write 63 = .ok (.invokevirtual 193, 3) := by decide +kernel
theorem dX7_write_66 : decode cX7_write 66 = .ok (.iconst 0, 1) := by decide +kernel
theorem dX7_write_67 : decode cX7_write 67 = .ok (.istore_n 3, 1) := by decide +kernel
theorem dX7_write_68 : decode cX7_write 68 = .ok (.iload_n 3, 1) := by decide +kernel
theorem dX7_write_69 : decode cX7_write 69 = .ok (.iload_n 2, 1) := by decide +kernel
theorem dX7_write_70 : decode cX7_write 70 = .ok (.if_icmp .ge 29, 3) := by decide +kernel
theorem dX7_write_73 : decode cX7_write 73 = .ok (.aload_n 0, 1) := by decide +kernel
theorem dX7_write_74 : decode cX7_write 74 = .ok (.getfield 65, 3) := by decide +kernel
theorem dX7_write_77 : decode cX7_write 77 = .ok (.getfield 110, 3) := by decide +kernel
theorem dX7_write_80 : decode cX7_write 80 = .ok (.iload_n 1, 1) := by decide +kernel
theorem dX7_write_81 : decode cX7_write 81 = .ok (.aaload, 1) := by decide +kernel
theorem dX7_write_82 : decode cX7_write 82 = .ok (.iload_n 3, 1) := by decide +kernel
theorem dX7_write_83 : decode cX7_write 83 = .ok (.aload_n 0, 1) := by decide +kernel
theorem dX7_write_84 : decode cX7_write 84 = .ok (.getfield 49, 3) := by decide +kernel
theorem dX7_write_87 : decode cX7_write 87 = .ok (.getfield 196, 3) := by decide +kernel
theorem dX7_write_90 : decode cX7_write 90 = .ok (.iload_n 3, 1) := by decide +kernel
theorem dX7_write_91 : decode cX7_write 91 = .ok (.iaload, 1) := by decide +kernel
theorem dX7_write_92 : decode cX7_write 92 = .ok (.iastore, 1) := by decide +kernel
theorem dX7_write_93 : decode cX7_write 93 = .ok (.iinc 3 1, 3) := by decide +kernel
theorem dX7_write_96 : decode cX7_write 96 = .ok (.goto (-28), 3) := by decide +kernel
theorem dX7_write_99 : decode cX7_write 99 = .ok (.iload_n 2, 1) := by decide +kernel
theorem dX7_write_100 : decode cX7_write 100 = .ok (.ireturn, 1) := by decide +kernel
theorem dX7_count_0 : decode cX7_count 0 = .ok (.iload_n 1, 1) := by decide +kernel
theorem dX7_count_1 : decode cX7_count 1 = .ok (.tableswitch 129 0 8 #[51, 59, 67, 77, 87, 97, 105, 113, 121], 51) := by decide +kernel
theorem dX7_count_52 : decode cX7_count 52 = .ok (.aload_n 0, 1) := by decide +kernel
theorem dX7_count_53 : decode cX7_count 53 = .ok (.getfield 14, 3) := by decide +kernel
theorem dX7_count_56 : decode cX7_count 56 = .ok (.getfield 73, 3) := by decide +kernel
theorem dX7_count_59 : decode cX7_count 59 = .ok (.ireturn, 1) := by decide +kernel
theorem dX7_count_60 : decode cX7_count 60 = .ok (.aload_n 0, 1) := by decide +kernel
theorem dX7_count_61 : decode cX7_count 61 = .ok (.getfield 30, 3) := by decide +kernel
theorem dX7_count_64 : decode cX7_count 64 = .ok (.invokevirtual 175, 3) := by decide +kernel
theorem dX7_count_67 : decode cX7_count 67 = .ok (.ireturn, 1) := by decide +kernel
theorem dX7_count_68 : decode cX7_count 68 = .ok (.aload_n 0, 1) := by decide +kernel
theorem dX7_count_69 : decode cX7_count 69 = .ok (.getfield 30, 3) := by decide +kernel
theorem dX7_count_72 : decode cX7_count 72 = .ok (.getfield 129, 3) := by decide +kernel
theorem dX7_count_75 : decode cX7_count 75 = .ok (.iconst 0, 1) := by decide +kernel
theorem dX7_count_76 : decode cX7_count 76 = .ok (.iaload, 1) := by decide +kernel
theorem dX7_count_77 : decode cX7_count 77 = .ok (.ireturn, 1) := by decide +kernel
theorem dX7_count_78 : decode cX7_count 78 = .ok (.aload_n 0, 1) := by decide +kernel
theorem dX7_count_79 : decode cX7_count 79 = .ok (.getfield 30, 3) := by decide +kernel
theorem dX7_count_82 : decode cX7_count 82 = .ok (.getfield 129, 3) := by decide +kernel
theorem dX7_count_85 : decode cX7_count 85 = .ok (.iconst 1, 1) := by decide +kernel
theorem dX7_count_86 : decode cX7_count 86 = .ok (.iaload, 1) := by decide +kernel
theorem dX7_count_87 : decode cX7_count 87 = .ok (.ireturn, 1) := by decide +kernel
theorem dX7_count_88 : decode cX7_count 88 = .ok (.aload_n 0, 1) := by decide +kernel
theorem dX7_count_89 : decode cX7_count 89 = .ok (.getfield 30, 3) := by decide +kernel
theorem dX7_count_92 : decode cX7_count 92 = .ok (.getfield 129, 3) := by decide +kernel
theorem dX7_count_95 : decode cX7_count 95 = .ok (.iconst 2, 1) := by decide +kernel
theorem dX7_count_96 : decode cX7_count 96 = .ok (.iaload, 1) := by decide +kernel
theorem dX7_count_97 : decode cX7_count 97 = .ok (.ireturn, 1) := by decide +kernel
theorem dX7_count_98 : decode cX7_count 98 = .ok (.aload_n 0, 1) := by decide +kernel
theorem dX7_count_99 : decode cX7_count 99 = .ok (.getfield 21, 3) := by decide +kernel
theorem dX7_count_102 : decode cX7_count 102 = .ok (.getfield 135, 3) := by decide +kernel
theorem dX7_count_105 : decode cX7_count 105 = .ok (.ireturn, 1) := by decide +kernel
theorem dX7_count_106 : decode cX7_count 106 = .ok (.aload_n 0, 1) := by decide +kernel
theorem dX7_count_107 : decode cX7_count 107 = .ok (.getfield 30, 3) := by decide +kernel
theorem dX7_count_110 : decode cX7_count 110 = .ok (.invokevirtual 269, 3) := by decide +kernel
theorem dX7_count_113 : decode cX7_count 113 = .ok (.ireturn, 1) := by decide +kernel
theorem dX7_count_114 : decode cX7_count 114 = .ok (.aload_n 0, 1) := by decide +kernel
theorem dX7_count_115 : decode cX7_count 115 = .ok (.getfield 14, 3) := by decide +kernel
theorem dX7_count_118 : decode cX7_count 118 = .ok (.invokevirtual 272, 3) := by decide +kernel
theorem dX7_count_121 : decode cX7_count 121 = .ok (.ireturn, 1) := by decide +kernel
theorem dX7_count_122 : decode cX7_count 122 = .ok (.aload_n 0, 1) := by decide +kernel
theorem dX7_count_123 : decode cX7_count 123 = .ok (.getfield 65, 3) := by decide +kernel
theorem dX7_count_126 : decode cX7_count 126 = .ok (.getfield 275, 3) := by decide +kernel
theorem dX7_count_129 : decode cX7_count 129 = .ok (.ireturn, 1) := by decide +kernel
theorem dX7_count_130 : decode cX7_count 130 = .ok (.bipush (-2), 2) := by decide +kernel
theorem dX7_count_132 : decode cX7_count 132 = .ok (.ireturn, 1) := by decide +kernel
theorem dX7_digest_0 : decode cX7_digest 0 = .ok (.ldc2_w 278, 3) := by decide +kernel
theorem dX7_digest_3 : decode cX7_digest 3 = .ok (.lstore_n 1, 1) := by decide +kernel
theorem dX7_digest_4 : decode cX7_digest 4 = .ok (.iconst 0, 1) := by decide +kernel
theorem dX7_digest_5 : decode cX7_digest 5 = .ok (.istore_n 3, 1) := by decide +kernel
theorem dX7_digest_6 : decode cX7_digest 6 = .ok (.iload_n 3, 1) := by decide +kernel
theorem dX7_digest_7 : decode cX7_digest 7 = .ok (.bipush 7, 2) := by decide +kernel
theorem dX7_digest_9 : decode cX7_digest 9 = .ok (.if_icmp .gt 22, 3) := by decide +kernel
theorem dX7_digest_12 : decode cX7_digest 12 = .ok (.ldc2_w 280, 3) := by decide +kernel
theorem dX7_digest_15 : decode cX7_digest 15 = .ok (.lload_n 1, 1) := by decide +kernel
theorem dX7_digest_16 : decode cX7_digest 16 = .ok (.lmul, 1) := by decide +kernel
theorem dX7_digest_17 : decode cX7_digest 17 = .ok (.aload_n 0, 1) := by decide +kernel
theorem dX7_digest_18 : decode cX7_digest 18 = .ok (.iload_n 3, 1) := by decide +kernel
theorem dX7_digest_19 : decode cX7_digest 19 = .ok (.invokevirtual 282, 3) := by decide +kernel
theorem dX7_digest_22 : decode cX7_digest 22 = .ok (.i2l, 1) := by decide +kernel
theorem dX7_digest_23 : decode cX7_digest 23 = .ok (.ladd, 1) := by decide +kernel
theorem dX7_digest_24 : decode cX7_digest 24 = .ok (.lstore_n 1, 1) := by decide +kernel
theorem dX7_digest_25 : decode cX7_digest 25 = .ok (.iinc 3 1, 3) := by decide +kernel
theorem dX7_digest_28 : decode cX7_digest 28 = .ok (.goto (-22), 3) := by decide +kernel
theorem dX7_digest_31 : decode cX7_digest 31 = .ok (.ldc2_w 280, 3) := by decide +kernel
theorem dX7_digest_34 : decode cX7_digest 34 = .ok (.lload_n 1, 1) := by decide +kernel
theorem dX7_digest_35 : decode cX7_digest 35 = .ok (.lmul, 1) := by decide +kernel
theorem dX7_digest_36 : decode cX7_digest 36 = .ok (.aload_n 0, 1) := by decide +kernel
theorem dX7_digest_37 : decode cX7_digest 37 = .ok (.invokevirtual 285, 3) := by decide +kernel
theorem dX7_digest_40 : decode cX7_digest 40 = .ok (.i2l, 1) := by decide +kernel
theorem dX7_digest_41 : decode cX7_digest 41 = .ok (.ladd, 1) := by decide +kernel
theorem dX7_digest_42 : decode cX7_digest 42 = .ok (.lstore_n 1, 1) := by decide +kernel
theorem dX7_digest_43 : decode cX7_digest 43 = .ok (.ldc2_w 280, 3) := by decide +kernel
theorem dX7_digest_46 : decode cX7_digest 46 = .ok (.lload_n 1, 1) := by decide +kernel
theorem dX7_digest_47 : decode cX7_digest 47 = .ok (.lmul, 1) := by decide +kernel
theorem dX7_digest_48 : decode cX7_digest 48 = .ok (.aload_n 0, 1) := by decide +kernel
theorem dX7_digest_49 : decode cX7_digest 49 = .ok (.invokevirtual 288, 3) := by decide +kernel
theorem dX7_digest_52 : decode cX7_digest 52 = .ok (.i2l, 1) := by decide +kernel
theorem dX7_digest_53 : decode cX7_digest 53 = .ok (.ladd, 1) := by decide +kernel
theorem dX7_digest_54 : decode cX7_digest 54 = .ok (.lstore_n 1, 1) := by decide +kernel
theorem dX7_digest_55 : decode cX7_digest 55 = .ok (.iconst 0, 1) := by decide +kernel
theorem dX7_digest_56 : decode cX7_digest 56 = .ok (.istore_n 3, 1) := by decide +kernel
theorem dX7_digest_57 : decode cX7_digest 57 = .ok (.iload_n 3, 1) := by decide +kernel
theorem dX7_digest_58 : decode cX7_digest 58 = .ok (.aload_n 0, 1) := by decide +kernel
theorem dX7_digest_59 : decode cX7_digest 59 = .ok (.getfield 14, 3) := by decide +kernel
theorem dX7_digest_62 : decode cX7_digest 62 = .ok (.getfield 73, 3) := by decide +kernel
theorem dX7_digest_65 : decode cX7_digest 65 = .ok (.if_icmp .ge 35, 3) := by decide +kernel
theorem dX7_digest_68 : decode cX7_digest 68 = .ok (.ldc2_w 280, 3) := by decide +kernel
theorem dX7_digest_71 : decode cX7_digest 71 = .ok (.lload_n 1, 1) := by decide +kernel
theorem dX7_digest_72 : decode cX7_digest 72 = .ok (.lmul, 1) := by decide +kernel
theorem dX7_digest_73 : decode cX7_digest 73 = .ok (.aload_n 0, 1) := by decide +kernel
theorem dX7_digest_74 : decode cX7_digest 74 = .ok (.iload_n 3, 1) := by decide +kernel
theorem dX7_digest_75 : decode cX7_digest 75 = .ok (.invokevirtual 291, 3) := by decide +kernel
theorem dX7_digest_78 : decode cX7_digest 78 = .ok (.i2l, 1) := by decide +kernel
theorem dX7_digest_79 : decode cX7_digest 79 = .ok (.ladd, 1) := by decide +kernel
theorem dX7_digest_80 : decode cX7_digest 80 = .ok (.lstore_n 1, 1) := by decide +kernel
theorem dX7_digest_81 : decode cX7_digest 81 = .ok (.ldc2_w 280, 3) := by decide +kernel
theorem dX7_digest_84 : decode cX7_digest 84 = .ok (.lload_n 1, 1) := by decide +kernel
theorem dX7_digest_85 : decode cX7_digest 85 = .ok (.lmul, 1) := by decide +kernel
theorem dX7_digest_86 : decode cX7_digest 86 = .ok (.aload_n 0, 1) := by decide +kernel
theorem dX7_digest_87 : decode cX7_digest 87 = .ok (.iload_n 3, 1) := by decide +kernel
theorem dX7_digest_88 : decode cX7_digest 88 = .ok (.invokevirtual 294, 3) := by decide +kernel
theorem dX7_digest_91 : decode cX7_digest 91 = .ok (.i2l, 1) := by decide +kernel
theorem dX7_digest_92 : decode cX7_digest 92 = .ok (.ladd, 1) := by decide +kernel
theorem dX7_digest_93 : decode cX7_digest 93 = .ok (.lstore_n 1, 1) := by decide +kernel
theorem dX7_digest_94 : decode cX7_digest 94 = .ok (.iinc 3 1, 3) := by decide +kernel
theorem dX7_digest_97 : decode cX7_digest 97 = .ok (.goto (-40), 3) := by decide +kernel
theorem dX7_digest_100 : decode cX7_digest 100 = .ok (.ldc2_w 280, 3) := by decide +kernel
theorem dX7_digest_103 : decode cX7_digest 103 = .ok (.lload_n 1, 1) := by decide +kernel
theorem dX7_digest_104 : decode cX7_digest 104 = .ok (.lmul, 1) := by decide +kernel
theorem dX7_digest_105 : decode cX7_digest 105 = .ok (.aload_n 0, 1) := by decide +kernel
theorem dX7_digest_106 : decode cX7_digest 106 = .ok (.invokevirtual 297, 3) := by decide +kernel
theorem dX7_digest_109 : decode cX7_digest 109 = .ok (.i2l, 1) := by decide +kernel
theorem dX7_digest_110 : decode cX7_digest 110 = .ok (.ladd, 1) := by decide +kernel
theorem dX7_digest_111 : decode cX7_digest 111 = .ok (.lstore_n 1, 1) := by decide +kernel
theorem dX7_digest_112 : decode cX7_digest 112 = .ok (.ldc2_w 280, 3) := by decide +kernel
theorem dX7_digest_115 : decode cX7_digest 115 = .ok (.lload_n 1, 1) := by decide +kernel
theorem dX7_digest_116 : decode cX7_digest 116 = .ok (.lmul, 1) := by decide +kernel
theorem dX7_digest_117 : decode cX7_digest 117 = .ok (.aload_n 0, 1) := by decide +kernel
theorem dX7_digest_118 : decode cX7_digest 118 = .ok (.iconst 0, 1) := by decide +kernel
theorem dX7_digest_119 : decode cX7_digest 119 = .ok (.iconst (-1), 1) := by decide +kernel
theorem dX7_digest_120 : decode cX7_digest 120 = .ok (.invokevirtual 300, 3) := by decide +kernel
theorem dX7_digest_123 : decode cX7_digest 123 = .ok (.i2l, 1) := by decide +kernel
theorem dX7_digest_124 : decode cX7_digest 124 = .ok (.ladd, 1) := by decide +kernel
theorem dX7_digest_125 : decode cX7_digest 125 = .ok (.lstore_n 1, 1) := by decide +kernel
theorem dX7_digest_126 : decode cX7_digest 126 = .ok (.ldc2_w 280, 3) := by decide +kernel
theorem dX7_digest_129 : decode cX7_digest 129 = .ok (.lload_n 1, 1) := by decide +kernel
theorem dX7_digest_130 : decode cX7_digest 130 = .ok (.lmul, 1) := by decide +kernel
theorem dX7_digest_131 : decode cX7_digest 131 = .ok (.aload_n 0, 1) := by decide +kernel
theorem dX7_digest_132 : decode cX7_digest 132 = .ok (.iconst 1, 1) := by decide +kernel
theorem dX7_digest_133 : decode cX7_digest 133 = .ok (.iconst (-1), 1) := by decide +kernel
theorem dX7_digest_134 : decode cX7_digest 134 = .ok (.invokevirtual 300, 3) := by decide +kernel
theorem dX7_digest_137 : decode cX7_digest 137 = .ok (.i2l, 1) := by decide +kernel
theorem dX7_digest_138 : decode cX7_digest 138 = .ok (.ladd, 1) := by decide +kernel
theorem dX7_digest_139 : decode cX7_digest 139 = .ok (.lstore_n 1, 1) := by decide +kernel
theorem dX7_digest_140 : decode cX7_digest 140 = .ok (.ldc2_w 280, 3) := by decide +kernel
theorem dX7_digest_143 : decode cX7_digest 143 = .ok (.lload_n 1, 1) := by decide +kernel
theorem dX7_digest_144 : decode cX7_digest 144 = .ok (.lmul, 1) := by decide +kernel
theorem dX7_digest_145 : decode cX7_digest 145 = .ok (.aload_n 0, 1) := by decide +kernel
theorem dX7_digest_146 : decode cX7_digest 146 = .ok (.iconst 1, 1) := by decide +kernel
theorem dX7_digest_147 : decode cX7_digest 147 = .ok (.invokevirtual 304, 3) := by decide +kernel
theorem dX7_digest_150 : decode cX7_digest 150 = .ok (.i2l, 1) := by decide +kernel
theorem dX7_digest_151 : decode cX7_digest 151 = .ok (.ladd, 1) := by decide +kernel
theorem dX7_digest_152 : decode cX7_digest 152 = .ok (.lstore_n 1, 1) := by decide +kernel
theorem dX7_digest_153 : decode cX7_digest 153 = .ok (.ldc2_w 280, 3) := by decide +kernel
theorem dX7_digest_156 : decode cX7_digest 156 = .ok (.lload_n 1, 1) := by decide +kernel
theorem dX7_digest_157 : decode cX7_digest 157 = .ok (.lmul, 1) := by decide +kernel
theorem dX7_digest_158 : decode cX7_digest 158 = .ok (.aload_n 0, 1) := by decide +kernel
theorem dX7_digest_159 : decode cX7_digest 159 = .ok (.iconst 2, 1) := by decide +kernel
theorem dX7_digest_160 : decode cX7_digest 160 = .ok (.invokevirtual 304, 3) := by decide +kernel
theorem dX7_digest_163 : decode cX7_digest 163 = .ok (.i2l, 1) := by decide +kernel
theorem dX7_digest_164 : decode cX7_digest 164 = .ok (.ladd, 1) := by decide +kernel
theorem dX7_digest_165 : decode cX7_digest 165 = .ok (.lstore_n 1, 1) := by decide +kernel
theorem dX7_digest_166 : decode cX7_digest 166 = .ok (.ldc2_w 280, 3) := by decide +kernel
theorem dX7_digest_169 : decode cX7_digest 169 = .ok (.lload_n 1, 1) := by decide +kernel
theorem dX7_digest_170 : decode cX7_digest 170 = .ok (.lmul, 1) := by decide +kernel
theorem dX7_digest_171 : decode cX7_digest 171 = .ok (.aload_n 0, 1) := by decide +kernel
theorem dX7_digest_172 : decode cX7_digest 172 = .ok (.iconst 0, 1) := by decide +kernel
theorem dX7_digest_173 : decode cX7_digest 173 = .ok (.invokevirtual 307, 3) := by decide +kernel
theorem dX7_digest_176 : decode cX7_digest 176 = .ok (.i2l, 1) := by decide +kernel
theorem dX7_digest_177 : decode cX7_digest 177 = .ok (.ladd, 1) := by decide +kernel
theorem dX7_digest_178 : decode cX7_digest 178 = .ok (.lstore_n 1, 1) := by decide +kernel
theorem dX7_digest_179 : decode cX7_digest 179 = .ok (.ldc2_w 280, 3) := by decide +kernel
theorem dX7_digest_182 : decode cX7_digest 182 = .ok (.lload_n 1, 1) := by decide +kernel
theorem dX7_digest_183 : decode cX7_digest 183 = .ok (.lmul, 1) := by decide +kernel
theorem dX7_digest_184 : decode cX7_digest 184 = .ok (.aload_n 0, 1) := by decide +kernel
theorem dX7_digest_185 : decode cX7_digest 185 = .ok (.iconst 1, 1) := by decide +kernel
theorem dX7_digest_186 : decode cX7_digest 186 = .ok (.invokevirtual 307, 3) := by decide +kernel
theorem dX7_digest_189 : decode cX7_digest 189 = .ok (.i2l, 1) := by decide +kernel
theorem dX7_digest_190 : decode cX7_digest 190 = .ok (.ladd, 1) := by decide +kernel
theorem dX7_digest_191 : decode cX7_digest 191 = .ok (.lstore_n 1, 1) := by decide +kernel
theorem dX7_digest_192 : decode cX7_digest 192 = .ok (.ldc2_w 280, 3) := by decide +kernel
theorem dX7_digest_195 : decode cX7_digest 195 = .ok (.lload_n 1, 1) := by decide +kernel
theorem dX7_digest_196 : decode cX7_digest 196 = .ok (.lmul, 1) := by decide +kernel
theorem dX7_digest_197 : decode cX7_digest 197 = .ok (.aload_n 0, 1) := by decide +kernel
theorem dX7_digest_198 : decode cX7_digest 198 = .ok (.bipush 30, 2) := by decide +kernel
theorem dX7_digest_200 : decode cX7_digest 200 = .ok (.iconst 0, 1) := by decide +kernel
theorem dX7_digest_201 : decode cX7_digest 201 = .ok (.invokevirtual 310, 3) := by decide +kernel
theorem dX7_digest_204 : decode cX7_digest 204 = .ok (.ladd, 1) := by decide +kernel
theorem dX7_digest_205 : decode cX7_digest 205 = .ok (.lreturn, 1) := by decide +kernel
theorem dX7_mayCome_0 : decode cX7_mayCome 0 = .ok (.iload_n 0, 1) := by decide +kernel
theorem dX7_mayCome_1 : decode cX7_mayCome 1 = .ok (.tableswitch 86 0 2 #[27, 44, 58], 27) := by decide +kernel
theorem dX7_mayCome_28 : decode cX7_mayCome 28 = .ok (.iload_n 1, 1) := by decide +kernel
theorem dX7_mayCome_29 : decode cX7_mayCome 29 = .ok (.invokestatic 94, 3) := by decide +kernel
theorem dX7_mayCome_32 : decode cX7_mayCome 32 = .ok (.ifCond .eq 11, 3) := by decide +kernel
theorem dX7_mayCome_35 : decode cX7_mayCome 35 = .ok (.iload_n 2, 1) := by decide +kernel
theorem dX7_mayCome_36 : decode cX7_mayCome 36 = .ok (.ifCond .ne 7, 3) := by decide +kernel
theorem dX7_mayCome_39 : decode cX7_mayCome 39 = .ok (.iconst 1, 1) := by decide +kernel
theorem dX7_mayCome_40 : decode cX7_mayCome 40 = .ok (.goto 4, 3) := by decide +kernel
theorem dX7_mayCome_43 : decode cX7_mayCome 43 = .ok (.iconst 0, 1) := by decide +kernel
theorem dX7_mayCome_44 : decode cX7_mayCome 44 = .ok (.ireturn, 1) := by decide +kernel
theorem dX7_mayCome_45 : decode cX7_mayCome 45 = .ok (.iload_n 1, 1) := by decide +kernel
theorem dX7_mayCome_46 : decode cX7_mayCome 46 = .ok (.ifCond .ne 11, 3) := by decide +kernel
theorem dX7_mayCome_49 : decode cX7_mayCome 49 = .ok (.iload_n 2, 1) := by decide +kernel
theorem dX7_mayCome_50 : decode cX7_mayCome 50 = .ok (.ifCond .ne 7, 3) := by decide +kernel
theorem dX7_mayCome_53 : decode cX7_mayCome 53 = .ok (.iconst 1, 1) := by decide +kernel
theorem dX7_mayCome_54 : decode cX7_mayCome 54 = .ok (.goto 4, 3) := by decide +kernel
theorem dX7_mayCome_57 : decode cX7_mayCome 57 = .ok (.iconst 0, 1) := by decide +kernel
theorem dX7_mayCome_58 : decode cX7_mayCome 58 = .ok (.ireturn, 1) := by decide +kernel
theorem dX7_mayCome_59 : decode cX7_mayCome 59 = .ok (.iload_n 1, 1) := by decide +kernel
theorem dX7_mayCome_60 : decode cX7_mayCome 60 = .ok (.iconst 1, 1) := by decide +kernel
theorem dX7_mayCome_61 : decode cX7_mayCome 61 = .ok (.if_icmp .lt 24, 3) := by decide +kernel
theorem dX7_mayCome_64 : decode cX7_mayCome 64 = .ok (.iload_n 1, 1) := by decide +kernel
theorem dX7_mayCome_65 : decode cX7_mayCome 65 = .ok (.bipush 30, 2) := by decide +kernel
theorem dX7_mayCome_67 : decode cX7_mayCome 67 = .ok (.if_icmp .gt 18, 3) := by decide +kernel
theorem dX7_mayCome_70 : decode cX7_mayCome 70 = .ok (.iload_n 2, 1) := by decide +kernel
theorem dX7_mayCome_71 : decode cX7_mayCome 71 = .ok (.iconst 1, 1) := by decide +kernel
theorem dX7_mayCome_72 : decode cX7_mayCome 72 = .ok (.if_icmp .lt 13, 3) := by decide +kernel
theorem dX7_mayCome_75 : decode cX7_mayCome 75 = .ok (.iload_n 2, 1) := by decide +kernel
theorem dX7_mayCome_76 : decode cX7_mayCome 76 = .ok (.bipush 7, 2) := by decide +kernel
theorem dX7_mayCome_78 : decode cX7_mayCome 78 = .ok (.if_icmp .gt 7, 3) := by decide +kernel
theorem dX7_mayCome_81 : decode cX7_mayCome 81 = .ok (.iconst 1, 1) := by decide +kernel
theorem dX7_mayCome_82 : decode cX7_mayCome 82 = .ok (.goto 4, 3) := by decide +kernel
theorem dX7_mayCome_85 : decode cX7_mayCome 85 = .ok (.iconst 0, 1) := by decide +kernel
theorem dX7_mayCome_86 : decode cX7_mayCome 86 = .ok (.ireturn, 1) := by decide +kernel
theorem dX7_mayCome_87 : decode cX7_mayCome 87 = .ok (.iconst 0, 1) := by decide +kernel
theorem dX7_mayCome_88 : decode cX7_mayCome 88 = .ok (.ireturn, 1) := by decide +kernel
theorem dX7_mayAim_0 : decode cX7_mayAim 0 = .ok (.iload_n 0, 1) := by decide +kernel
theorem dX7_mayAim_1 : decode cX7_mayAim 1 = .ok (.ifCond .lt 13, 3) := by decide +kernel
theorem dX7_mayAim_4 : decode cX7_mayAim 4 = .ok (.iload_n 0, 1) := by decide +kernel
theorem dX7_mayAim_5 : decode cX7_mayAim 5 = .ok (.bipush 60, 2) := by decide +kernel
theorem dX7_mayAim_7 : decode cX7_mayAim 7 = .ok (.if_icmp .gt 7, 3) := by decide +kernel
theorem dX7_mayAim_10 : decode cX7_mayAim 10 = .ok (.iconst 1, 1) := by decide +kernel
theorem dX7_mayAim_11 : decode cX7_mayAim 11 = .ok (.goto 4, 3) := by decide +kernel
theorem dX7_mayAim_14 : decode cX7_mayAim 14 = .ok (.iconst 0, 1) := by decide +kernel
theorem dX7_mayAim_15 : decode cX7_mayAim 15 = .ok (.ireturn, 1) := by decide +kernel
theorem dX7_isStep_0 : decode cX7_isStep 0 = .ok (.iload_n 0, 1) := by decide +kernel
theorem dX7_isStep_1 : decode cX7_isStep 1 = .ok (.iconst 5, 1) := by decide +kernel
theorem dX7_isStep_2 : decode cX7_isStep 2 = .ok (.if_icmp .lt 13, 3) := by decide +kernel
theorem dX7_isStep_5 : decode cX7_isStep 5 = .ok (.iload_n 0, 1) := by decide +kernel
theorem dX7_isStep_6 : decode cX7_isStep 6 = .ok (.bipush 30, 2) := by decide +kernel
theorem dX7_isStep_8 : decode cX7_isStep 8 = .ok (.if_icmp .gt 7, 3) := by decide +kernel
theorem dX7_isStep_11 : decode cX7_isStep 11 = .ok (.iconst 1, 1) := by decide +kernel
theorem dX7_isStep_12 : decode cX7_isStep 12 = .ok (.goto 4, 3) := by decide +kernel
theorem dX7_isStep_15 : decode cX7_isStep 15 = .ok (.iconst 0, 1) := by decide +kernel
theorem dX7_isStep_16 : decode cX7_isStep 16 = .ok (.ireturn, 1) := by decide +kernel
theorem dX7_isSheet_0 : decode cX7_isSheet 0 = .ok (.iload_n 0, 1) := by decide +kernel
theorem dX7_isSheet_1 : decode cX7_isSheet 1 = .ok (.ifCond .lt 12, 3) := by decide +kernel
theorem dX7_isSheet_4 : decode cX7_isSheet 4 = .ok (.iload_n 0, 1) := by decide +kernel
theorem dX7_isSheet_5 : decode cX7_isSheet 5 = .ok (.iconst 4, 1) := by decide +kernel
theorem dX7_isSheet_6 : decode cX7_isSheet 6 = .ok (.if_icmp .ge 7, 3) := by decide +kernel
theorem dX7_isSheet_9 : decode cX7_isSheet 9 = .ok (.iconst 1, 1) := by decide +kernel
theorem dX7_isSheet_10 : decode cX7_isSheet 10 = .ok (.goto 4, 3) := by decide +kernel
theorem dX7_isSheet_13 : decode cX7_isSheet 13 = .ok (.iconst 0, 1) := by decide +kernel
theorem dX7_isSheet_14 : decode cX7_isSheet 14 = .ok (.ireturn, 1) := by decide +kernel
theorem dX7_isForm_0 : decode cX7_isForm 0 = .ok (.iload_n 0, 1) := by decide +kernel
theorem dX7_isForm_1 : decode cX7_isForm 1 = .ok (.ifCond .lt 12, 3) := by decide +kernel
theorem dX7_isForm_4 : decode cX7_isForm 4 = .ok (.iload_n 0, 1) := by decide +kernel
theorem dX7_isForm_5 : decode cX7_isForm 5 = .ok (.iconst 3, 1) := by decide +kernel
theorem dX7_isForm_6 : decode cX7_isForm 6 = .ok (.if_icmp .ge 7, 3) := by decide +kernel
theorem dX7_isForm_9 : decode cX7_isForm 9 = .ok (.iconst 1, 1) := by decide +kernel
theorem dX7_isForm_10 : decode cX7_isForm 10 = .ok (.goto 4, 3) := by decide +kernel
theorem dX7_isForm_13 : decode cX7_isForm 13 = .ok (.iconst 0, 1) := by decide +kernel
theorem dX7_isForm_14 : decode cX7_isForm 14 = .ok (.ireturn, 1) := by decide +kernel
theorem dX7_isComer_0 : decode cX7_isComer 0 = .ok (.iload_n 1, 1) := by decide +kernel
theorem dX7_isComer_1 : decode cX7_isComer 1 = .ok (.ifCond .lt 26, 3) := by decide +kernel
theorem dX7_isComer_4 : decode cX7_isComer 4 = .ok (.iload_n 1, 1) := by decide +kernel
theorem dX7_isComer_5 : decode cX7_isComer 5 = .ok (.bipush 8, 2) := by decide +kernel
theorem dX7_isComer_7 : decode cX7_isComer 7 = .ok (.if_icmp .ge 20, 3) := by decide +kernel
theorem dX7_isComer_10 : decode cX7_isComer 10 = .ok (.aload_n 0, 1) := by decide +kernel
theorem dX7_isComer_11 : decode cX7_isComer 11 = .ok (.getfield 30, 3) := by decide +kernel
theorem dX7_isComer_14 : decode cX7_isComer 14 = .ok (.getfield 84, 3) := by decide +kernel
theorem dX7_isComer_17 : decode cX7_isComer 17 = .ok (.iload_n 1, 1) := by decide +kernel
theorem dX7_isComer_18 : decode cX7_isComer 18 = .ok (.iaload, 1) := by decide +kernel
theorem dX7_isComer_19 : decode cX7_isComer 19 = .ok (.iconst (-1), 1) := by decide +kernel
theorem dX7_isComer_20 : decode cX7_isComer 20 = .ok (.if_icmp .eq 7, 3) := by decide +kernel
theorem dX7_isComer_23 : decode cX7_isComer 23 = .ok (.iconst 1, 1) := by decide +kernel
theorem dX7_isComer_24 : decode cX7_isComer 24 = .ok (.goto 4, 3) := by decide +kernel
theorem dX7_isComer_27 : decode cX7_isComer 27 = .ok (.iconst 0, 1) := by decide +kernel
theorem dX7_isComer_28 : decode cX7_isComer 28 = .ok (.ireturn, 1) := by decide +kernel
theorem dX7_isPlain_0 : decode cX7_isPlain 0 = .ok (.iload_n 1, 1) := by decide +kernel
theorem dX7_isPlain_1 : decode cX7_isPlain 1 = .ok (.ifCond .lt 25, 3) := by decide +kernel
theorem dX7_isPlain_4 : decode cX7_isPlain 4 = .ok (.iload_n 1, 1) := by decide +kernel
theorem dX7_isPlain_5 : decode cX7_isPlain 5 = .ok (.bipush 8, 2) := by decide +kernel
theorem dX7_isPlain_7 : decode cX7_isPlain 7 = .ok (.if_icmp .ge 19, 3) := by decide +kernel
theorem dX7_isPlain_10 : decode cX7_isPlain 10 = .ok (.aload_n 0, 1) := by decide +kernel
theorem dX7_isPlain_11 : decode cX7_isPlain 11 = .ok (.getfield 30, 3) := by decide +kernel
theorem dX7_isPlain_14 : decode cX7_isPlain 14 = .ok (.getfield 84, 3) := by decide +kernel
theorem dX7_isPlain_17 : decode cX7_isPlain 17 = .ok (.iload_n 1, 1) := by decide +kernel
theorem dX7_isPlain_18 : decode cX7_isPlain 18 = .ok (.iaload, 1) := by decide +kernel
theorem dX7_isPlain_19 : decode cX7_isPlain 19 = .ok (.ifCond .ne 7, 3) := by decide +kernel
theorem dX7_isPlain_22 : decode cX7_isPlain 22 = .ok (.iconst 1, 1) := by decide +kernel
theorem dX7_isPlain_23 : decode cX7_isPlain 23 = .ok (.goto 4, 3) := by decide +kernel
theorem dX7_isPlain_26 : decode cX7_isPlain 26 = .ok (.iconst 0, 1) := by decide +kernel
theorem dX7_isPlain_27 : decode cX7_isPlain 27 = .ok (.ireturn, 1) := by decide +kernel
theorem dX7_trialIsInTime_0 : decode cX7_trialIsInTime 0 = .ok (.aload_n 0, 1) := by decide +kernel
theorem dX7_trialIsInTime_1 : decode cX7_trialIsInTime 1 = .ok (.getfield 34, 3) := by decide +kernel
theorem dX7_trialIsInTime_4 : decode cX7_trialIsInTime 4 = .ok (.iconst 1, 1) := by decide +kernel
theorem dX7_trialIsInTime_5 : decode cX7_trialIsInTime 5 = .ok (.invokevirtual 168, 3) := by decide +kernel
theorem dX7_trialIsInTime_8 : decode cX7_trialIsInTime 8 = .ok (.ifCond .eq 26, 3) := by decide +kernel
theorem dX7_trialIsInTime_11 : decode cX7_trialIsInTime 11 = .ok (.aload_n 0, 1) := by decide +kernel
theorem dX7_trialIsInTime_12 : decode cX7_trialIsInTime 12 = .ok (.getfield 34, 3) := by decide +kernel
theorem dX7_trialIsInTime_15 : decode cX7_trialIsInTime 15 = .ok (.invokevirtual 144, 3) := by decide +kernel
theorem dX7_trialIsInTime_18 : decode cX7_trialIsInTime 18 = .ok (.aload_n 0, 1) := by decide +kernel
theorem dX7_trialIsInTime_19 : decode cX7_trialIsInTime 19 = .ok (.getfield 34, 3) := by decide +kernel
theorem dX7_trialIsInTime_22 : decode cX7_trialIsInTime 22 = .ok (.getfield 129, 3) := by decide +kernel
theorem dX7_trialIsInTime_25 : decode cX7_trialIsInTime 25 = .ok (.iconst 0, 1) := by decide +kernel
theorem dX7_trialIsInTime_26 : decode cX7_trialIsInTime 26 = .ok (.iaload, 1) := by decide +kernel
theorem dX7_trialIsInTime_27 : decode cX7_trialIsInTime 27 = .ok (.if_icmp .gt 7, 3) := by decide +kernel
theorem dX7_trialIsInTime_30 : decode cX7_trialIsInTime 30 = .ok (.iconst 1, 1) := by decide +kernel
theorem dX7_trialIsInTime_31 : decode cX7_trialIsInTime 31 = .ok (.goto 4, 3) := by decide +kernel
theorem dX7_trialIsInTime_34 : decode cX7_trialIsInTime 34 = .ok (.iconst 0, 1) := by decide +kernel
theorem dX7_trialIsInTime_35 : decode cX7_trialIsInTime 35 = .ok (.ireturn, 1) := by decide +kernel
theorem dX7_keyBits_0 : decode cX7_keyBits 0 = .ok (.iconst 0, 1) := by decide +kernel
theorem dX7_keyBits_1 : decode cX7_keyBits 1 = .ok (.istore_n 1, 1) := by decide +kernel
theorem dX7_keyBits_2 : decode cX7_keyBits 2 = .ok (.iconst 0, 1) := by decide +kernel
theorem dX7_keyBits_3 : decode cX7_keyBits 3 = .ok (.istore_n 2, 1) := by decide +kernel
theorem dX7_keyBits_4 : decode cX7_keyBits 4 = .ok (.iload_n 2, 1) := by decide +kernel
theorem dX7_keyBits_5 : decode cX7_keyBits 5 = .ok (.bipush 8, 2) := by decide +kernel
theorem dX7_keyBits_7 : decode cX7_keyBits 7 = .ok (.if_icmp .ge 48, 3) := by decide +kernel
theorem dX7_keyBits_10 : decode cX7_keyBits 10 = .ok (.aload_n 0, 1) := by decide +kernel
theorem dX7_keyBits_11 : decode cX7_keyBits 11 = .ok (.getfield 34, 3) := by decide +kernel
theorem dX7_keyBits_14 : decode cX7_keyBits 14 = .ok (.aload_n 0, 1) := by decide +kernel
theorem dX7_keyBits_15 : decode cX7_keyBits 15 = .ok (.getfield 30, 3) := by decide +kernel
theorem dX7_keyBits_18 : decode cX7_keyBits 18 = .ok (.invokevirtual 165, 3) := by decide +kernel
theorem dX7_keyBits_21 : decode cX7_keyBits 21 = .ok (.aload_n 0, 1) := by decide +kernel
theorem dX7_keyBits_22 : decode cX7_keyBits 22 = .ok (.getfield 34, 3) := by decide +kernel
theorem dX7_keyBits_25 : decode cX7_keyBits 25 = .ok (.iconst 1, 1) := by decide +kernel
theorem dX7_keyBits_26 : decode cX7_keyBits 26 = .ok (.iload_n 2, 1) := by decide +kernel
theorem dX7_keyBits_27 : decode cX7_keyBits 27 = .ok (.ishl, 1) := by decide +kernel
theorem dX7_keyBits_28 : decode cX7_keyBits 28 = .ok (.putfield 314, 3) := by decide +kernel
theorem dX7_keyBits_31 : decode cX7_keyBits 31 = .ok (.aload_n 0, 1) := by decide +kernel
theorem dX7_keyBits_32 : decode cX7_keyBits 32 = .ok (.getfield 34, 3) := by decide +kernel
theorem dX7_keyBits_35 : decode cX7_keyBits 35 = .ok (.invokevirtual 144, 3) := by decide +kernel
theorem dX7_keyBits_38 : decode cX7_keyBits 38 = .ok (.bipush 60, 2) := by decide +kernel
theorem dX7_keyBits_40 : decode cX7_keyBits 40 = .ok (.if_icmp .lt 9, 3) := by decide +kernel
theorem dX7_keyBits_43 : decode cX7_keyBits 43 = .ok (.iload_n 1, 1) := by decide +kernel
theorem dX7_keyBits_44 : decode cX7_keyBits 44 = .ok (.iconst 1, 1) := by decide +kernel
theorem dX7_keyBits_45 : decode cX7_keyBits 45 = .ok (.iload_n 2, 1) := by decide +kernel
theorem dX7_keyBits_46 : decode cX7_keyBits 46 = .ok (.ishl, 1) := by decide +kernel
theorem dX7_keyBits_47 : decode cX7_keyBits 47 = .ok (.ior, 1) := by decide +kernel
theorem dX7_keyBits_48 : decode cX7_keyBits 48 = .ok (.istore_n 1, 1) := by decide +kernel
theorem dX7_keyBits_49 : decode cX7_keyBits 49 = .ok (.iinc 2 1, 3) := by decide +kernel
theorem dX7_keyBits_52 : decode cX7_keyBits 52 = .ok (.goto (-48), 3) := by decide +kernel
theorem dX7_keyBits_55 : decode cX7_keyBits 55 = .ok (.iload_n 1, 1) := by decide +kernel
theorem dX7_keyBits_56 : decode cX7_keyBits 56 = .ok (.ireturn, 1) := by decide +kernel
theorem dL_law_0 : decode cL_law 0 = .ok (.new 7, 3) := by decide +kernel
theorem dL_law_3 : decode cL_law 3 = .ok (.dup, 1) := by decide +kernel
theorem dL_law_4 : decode cL_law 4 = .ok (.invokespecial 9, 3) := by decide +kernel
theorem dL_law_7 : decode cL_law 7 = .ok (.astore_n 1, 1) := by decide +kernel
theorem dL_law_8 : decode cL_law 8 = .ok (.new 10, 3) := by decide +kernel
theorem dL_law_11 : decode cL_law 11 = .ok (.dup, 1) := by decide +kernel
theorem dL_law_12 : decode cL_law 12 = .ok (.invokespecial 12, 3) := by decide +kernel
theorem dL_law_15 : decode cL_law 15 = .ok (.astore_n 2, 1) := by decide +kernel
theorem dL_law_16 : decode cL_law 16 = .ok (.iconst 0, 1) := by decide +kernel
theorem dL_law_17 : decode cL_law 17 = .ok (.istore_n 3, 1) := by decide +kernel
theorem dL_law_18 : decode cL_law 18 = .ok (.iload_n 3, 1) := by decide +kernel
theorem dL_law_19 : decode cL_law 19 = .ok (.aload_n 0, 1) := by decide +kernel
theorem dL_law_20 : decode cL_law 20 = .ok (.arraylength, 1) := by decide +kernel
theorem dL_law_21 : decode cL_law 21 = .ok (.bipush 6, 2) := by decide +kernel
theorem dL_law_23 : decode cL_law 23 = .ok (.isub, 1) := by decide +kernel
theorem dL_law_24 : decode cL_law 24 = .ok (.if_icmp .gt 1152, 3) := by decide +kernel
theorem dL_law_27 : decode cL_law 27 = .ok (.aload_n 0, 1) := by decide +kernel
theorem dL_law_28 : decode cL_law 28 = .ok (.iload_n 3, 1) := by decide +kernel
theorem dL_law_29 : decode cL_law 29 = .ok (.iaload, 1) := by decide +kernel
theorem dL_law_30 : decode cL_law 30 = .ok (.bipush 63, 2) := by decide +kernel
theorem dL_law_32 : decode cL_law 32 = .ok (.iand, 1) := by decide +kernel
theorem dL_law_33 : decode cL_law 33 = .ok (.tableswitch 1137 0 32 #[147, 190, 223, 246, 289, 322, 345, 358, 371, 384, 407, 430, 479, 492, 541, 584, 617, 640, 663, 686, 725, 748, 761, 795, 829, 852, 895, 918, 971, 1014, 1077, 1100, 1123], 147) := by decide +kernel
theorem dL_law_180 : decode cL_law 180 = .ok (.aload_n 1, 1) := by decide +kernel
theorem dL_law_181 : decode cL_law 181 = .ok (.aload_n 0, 1) := by decide +kernel
theorem dL_law_182 : decode cL_law 182 = .ok (.iload_n 3, 1) := by decide +kernel
theorem dL_law_183 : decode cL_law 183 = .ok (.iconst 1, 1) := by decide +kernel
theorem dL_law_184 : decode cL_law 184 = .ok (.iadd, 1) := by decide +kernel
theorem dL_law_185 : decode cL_law 185 = .ok (.iaload, 1) := by decide +kernel
theorem dL_law_186 : decode cL_law 186 = .ok (.aload_n 0, 1) := by decide +kernel
theorem dL_law_187 : decode cL_law 187 = .ok (.iload_n 3, 1) := by decide +kernel
theorem dL_law_188 : decode cL_law 188 = .ok (.iconst 2, 1) := by decide +kernel
theorem dL_law_189 : decode cL_law 189 = .ok (.iadd, 1) := by decide +kernel
theorem dL_law_190 : decode cL_law 190 = .ok (.iaload, 1) := by decide +kernel
theorem dL_law_191 : decode cL_law 191 = .ok (.aload_n 0, 1) := by decide +kernel
theorem dL_law_192 : decode cL_law 192 = .ok (.iload_n 3, 1) := by decide +kernel
theorem dL_law_193 : decode cL_law 193 = .ok (.iconst 3, 1) := by decide +kernel
theorem dL_law_194 : decode cL_law 194 = .ok (.iadd, 1) := by decide +kernel
theorem dL_law_195 : decode cL_law 195 = .ok (.iaload, 1) := by decide +kernel
theorem dL_law_196 : decode cL_law 196 = .ok (.invokevirtual 13, 3) := by decide +kernel
theorem dL_law_199 : decode cL_law 199 = .ok (.aload_n 2, 1) := by decide +kernel
theorem dL_law_200 : decode cL_law 200 = .ok (.aload_n 0, 1) := by decide +kernel
theorem dL_law_201 : decode cL_law 201 = .ok (.iload_n 3, 1) := by decide +kernel
theorem dL_law_202 : decode cL_law 202 = .ok (.iconst 1, 1) := by decide +kernel
theorem dL_law_203 : decode cL_law 203 = .ok (.iadd, 1) := by decide +kernel
theorem dL_law_204 : decode cL_law 204 = .ok (.iaload, 1) := by decide +kernel
theorem dL_law_205 : decode cL_law 205 = .ok (.aload_n 0, 1) := by decide +kernel
theorem dL_law_206 : decode cL_law 206 = .ok (.iload_n 3, 1) := by decide +kernel
theorem dL_law_207 : decode cL_law 207 = .ok (.iconst 2, 1) := by decide +kernel
theorem dL_law_208 : decode cL_law 208 = .ok (.iadd, 1) := by decide +kernel
theorem dL_law_209 : decode cL_law 209 = .ok (.iaload, 1) := by decide +kernel
theorem dL_law_210 : decode cL_law 210 = .ok (.aload_n 0, 1) := by decide +kernel
theorem dL_law_211 : decode cL_law 211 = .ok (.iload_n 3, 1) := by decide +kernel
theorem dL_law_212 : decode cL_law 212 = .ok (.iconst 3, 1) := by decide +kernel
theorem dL_law_213 : decode cL_law 213 = .ok (.iadd, 1) := by decide +kernel
theorem dL_law_214 : decode cL_law 214 = .ok (.iaload, 1) := by decide +kernel
theorem dL_law_215 : decode cL_law 215 = .ok (.invokevirtual 17, 3) := by decide +kernel
theorem dL_law_218 : decode cL_law 218 = .ok (.if_icmp .eq 952, 3) := by decide +kernel
theorem dL_law_221 : decode cL_law 221 = .ok (.iconst 0, 1) := by decide +kernel
theorem dL_law_222 : decode cL_law 222 = .ok (.ireturn, 1) := by decide +kernel
theorem dL_law_223 : decode cL_law 223 = .ok (.aload_n 1, 1) := by decide +kernel
theorem dL_law_224 : decode cL_law 224 = .ok (.aload_n 0, 1) := by decide +kernel
theorem dL_law_225 : decode cL_law 225 = .ok (.iload_n 3, 1) := by decide +kernel
theorem dL_law_226 : decode cL_law 226 = .ok (.iconst 1, 1) := by decide +kernel
theorem dL_law_227 : decode cL_law 227 = .ok (.iadd, 1) := by decide +kernel
theorem dL_law_228 : decode cL_law 228 = .ok (.iaload, 1) := by decide +kernel
theorem dL_law_229 : decode cL_law 229 = .ok (.aload_n 0, 1) := by decide +kernel
theorem dL_law_230 : decode cL_law 230 = .ok (.iload_n 3, 1) := by decide +kernel
theorem dL_law_231 : decode cL_law 231 = .ok (.iconst 2, 1) := by decide +kernel
theorem dL_law_232 : decode cL_law 232 = .ok (.iadd, 1) := by decide +kernel
theorem dL_law_233 : decode cL_law 233 = .ok (.iaload, 1) := by decide +kernel
theorem dL_law_234 : decode cL_law 234 = .ok (.invokevirtual 18, 3) := by decide +kernel
theorem dL_law_237 : decode cL_law 237 = .ok (.aload_n 2, 1) := by decide +kernel
theorem dL_law_238 : decode cL_law 238 = .ok (.aload_n 0, 1) := by decide +kernel
theorem dL_law_239 : decode cL_law 239 = .ok (.iload_n 3, 1) := by decide +kernel
theorem dL_law_240 : decode cL_law 240 = .ok (.iconst 1, 1) := by decide +kernel
theorem dL_law_241 : decode cL_law 241 = .ok (.iadd, 1) := by decide +kernel
theorem dL_law_242 : decode cL_law 242 = .ok (.iaload, 1) := by decide +kernel
theorem dL_law_243 : decode cL_law 243 = .ok (.aload_n 0, 1) := by decide +kernel
theorem dL_law_244 : decode cL_law 244 = .ok (.iload_n 3, 1) := by decide +kernel
theorem dL_law_245 : decode cL_law 245 = .ok (.iconst 2, 1) := by decide +kernel
theorem dL_law_246 : decode cL_law 246 = .ok (.iadd, 1) := by decide +kernel
theorem dL_law_247 : decode cL_law 247 = .ok (.iaload, 1) := by decide +kernel
theorem dL_law_248 : decode cL_law 248 = .ok (.invokevirtual 22, 3) := by decide +kernel
theorem dL_law_251 : decode cL_law 251 = .ok (.if_icmp .eq 919, 3) := by decide +kernel
theorem dL_law_254 : decode cL_law 254 = .ok (.iconst 0, 1) := by decide +kernel
theorem dL_law_255 : decode cL_law 255 = .ok (.ireturn, 1) := by decide +kernel
theorem dL_law_256 : decode cL_law 256 = .ok (.aload_n 1, 1) := by decide +kernel
theorem dL_law_257 : decode cL_law 257 = .ok (.aload_n 0, 1) := by decide +kernel
theorem dL_law_258 : decode cL_law 258 = .ok (.iload_n 3, 1) := by decide +kernel
theorem dL_law_259 : decode cL_law 259 = .ok (.iconst 1, 1) := by decide +kernel
theorem dL_law_260 : decode cL_law 260 = .ok (.iadd, 1) := by decide +kernel
theorem dL_law_261 : decode cL_law 261 = .ok (.iaload, 1) := by decide +kernel
theorem dL_law_262 : decode cL_law 262 = .ok (.invokevirtual 23, 3) := by decide +kernel
theorem dL_law_265 : decode cL_law 265 = .ok (.aload_n 2, 1) := by decide +kernel
theorem dL_law_266 : decode cL_law 266 = .ok (.aload_n 0, 1) := by decide +kernel
theorem dL_law_267 : decode cL_law 267 = .ok (.iload_n 3, 1) := by decide +kernel
theorem dL_law_268 : decode cL_law 268 = .ok (.iconst 1, 1) := by decide +kernel
theorem dL_law_269 : decode cL_law 269 = .ok (.iadd, 1) := by decide +kernel
theorem dL_law_270 : decode cL_law 270 = .ok (.iaload, 1) := by decide +kernel
theorem dL_law_271 : decode cL_law 271 = .ok (.invokevirtual 27, 3) := by decide +kernel
theorem dL_law_274 : decode cL_law 274 = .ok (.if_icmp .eq 896, 3) := by decide +kernel
theorem dL_law_277 : decode cL_law 277 = .ok (.iconst 0, 1) := by decide +kernel
theorem dL_law_278 : decode cL_law 278 = .ok (.ireturn, 1) := by decide +kernel
theorem dL_law_279 : decode cL_law 279 = .ok (.aload_n 1, 1) := by decide +kernel
theorem dL_law_280 : decode cL_law 280 = .ok (.aload_n 0, 1) := by decide +kernel
theorem dL_law_281 : decode cL_law 281 = .ok (.iload_n 3, 1) := by decide +kernel
theorem dL_law_282 : decode cL_law 282 = .ok (.iconst 1, 1) := by decide +kernel
theorem dL_law_283 : decode cL_law 283 = .ok (.iadd, 1) := by decide +kernel
theorem dL_law_284 : decode cL_law 284 = .ok (.iaload, 1) := by decide +kernel
theorem dL_law_285 : decode cL_law 285 = .ok (.aload_n 0, 1) := by decide +kernel
theorem dL_law_286 : decode cL_law 286 = .ok (.iload_n 3, 1) := by decide +kernel
theorem dL_law_287 : decode cL_law 287 = .ok (.iconst 2, 1) := by decide +kernel
theorem dL_law_288 : decode cL_law 288 = .ok (.iadd, 1) := by decide +kernel
theorem dL_law_289 : decode cL_law 289 = .ok (.iaload, 1) := by decide +kernel
theorem dL_law_290 : decode cL_law 290 = .ok (.aload_n 0, 1) := by decide +kernel
theorem dL_law_291 : decode cL_law 291 = .ok (.iload_n 3, 1) := by decide +kernel
theorem dL_law_292 : decode cL_law 292 = .ok (.iconst 3, 1) := by decide +kernel
theorem dL_law_293 : decode cL_law 293 = .ok (.iadd, 1) := by decide +kernel
theorem dL_law_294 : decode cL_law 294 = .ok (.iaload, 1) := by decide +kernel
theorem dL_law_295 : decode cL_law 295 = .ok (.invokevirtual 28, 3) := by decide +kernel
theorem dL_law_298 : decode cL_law 298 = .ok (.aload_n 2, 1) := by decide +kernel
theorem dL_law_299 : decode cL_law 299 = .ok (.aload_n 0, 1) := by decide +kernel
theorem dL_law_300 : decode cL_law 300 = .ok (.iload_n 3, 1) := by decide +kernel
theorem dL_law_301 : decode cL_law 301 = .ok (.iconst 1, 1) := by decide +kernel
theorem dL_law_302 : decode cL_law 302 = .ok (.iadd, 1) := by decide +kernel
theorem dL_law_303 : decode cL_law 303 = .ok (.iaload, 1) := by decide +kernel
theorem dL_law_304 : decode cL_law 304 = .ok (.aload_n 0, 1) := by decide +kernel
theorem dL_law_305 : decode cL_law 305 = .ok (.iload_n 3, 1) := by decide +kernel
theorem dL_law_306 : decode cL_law 306 = .ok (.iconst 2, 1) := by decide +kernel
theorem dL_law_307 : decode cL_law 307 = .ok (.iadd, 1) := by decide +kernel
theorem dL_law_308 : decode cL_law 308 = .ok (.iaload, 1) := by decide +kernel
theorem dL_law_309 : decode cL_law 309 = .ok (.aload_n 0, 1) := by decide +kernel
theorem dL_law_310 : decode cL_law 310 = .ok (.iload_n 3, 1) := by decide +kernel
theorem dL_law_311 : decode cL_law 311 = .ok (.iconst 3, 1) := by decide +kernel
theorem dL_law_312 : decode cL_law 312 = .ok (.iadd, 1) := by decide +kernel
theorem dL_law_313 : decode cL_law 313 = .ok (.iaload, 1) := by decide +kernel
theorem dL_law_314 : decode cL_law 314 = .ok (.invokevirtual 31, 3) := by decide +kernel
theorem dL_law_317 : decode cL_law 317 = .ok (.if_icmp .eq 853, 3) := by decide +kernel
theorem dL_law_320 : decode cL_law 320 = .ok (.iconst 0, 1) := by decide +kernel
theorem dL_law_321 : decode cL_law 321 = .ok (.ireturn, 1) := by decide +kernel
theorem dL_law_322 : decode cL_law 322 = .ok (.aload_n 1, 1) := by decide +kernel
theorem dL_law_323 : decode cL_law 323 = .ok (.aload_n 0, 1) := by decide +kernel
theorem dL_law_324 : decode cL_law 324 = .ok (.iload_n 3, 1) := by decide +kernel
theorem dL_law_325 : decode cL_law 325 = .ok (.iconst 1, 1) := by decide +kernel
theorem dL_law_326 : decode cL_law 326 = .ok (.iadd, 1) := by decide +kernel
theorem dL_law_327 : decode cL_law 327 = .ok (.iaload, 1) := by decide +kernel
theorem dL_law_328 : decode cL_law 328 = .ok (.aload_n 0, 1) := by decide +kernel
theorem dL_law_329 : decode cL_law 329 = .ok (.iload_n 3, 1) := by decide +kernel
theorem dL_law_330 : decode cL_law 330 = .ok (.iconst 2, 1) := by decide +kernel
theorem dL_law_331 : decode cL_law 331 = .ok (.iadd, 1) := by decide +kernel
theorem dL_law_332 : decode cL_law 332 = .ok (.iaload, 1) := by decide +kernel
theorem dL_law_333 : decode cL_law 333 = .ok (.invokevirtual 32, 3) := by decide +kernel
theorem dL_law_336 : decode cL_law 336 = .ok (.aload_n 2, 1) := by decide +kernel
theorem dL_law_337 : decode cL_law 337 = .ok (.aload_n 0, 1) := by decide +kernel
theorem dL_law_338 : decode cL_law 338 = .ok (.iload_n 3, 1) := by decide +kernel
theorem dL_law_339 : decode cL_law 339 = .ok (.iconst 1, 1) := by decide +kernel
theorem dL_law_340 : decode cL_law 340 = .ok (.iadd, 1) := by decide +kernel
theorem dL_law_341 : decode cL_law 341 = .ok (.iaload, 1) := by decide +kernel
theorem dL_law_342 : decode cL_law 342 = .ok (.aload_n 0, 1) := by decide +kernel
theorem dL_law_343 : decode cL_law 343 = .ok (.iload_n 3, 1) := by decide +kernel
theorem dL_law_344 : decode cL_law 344 = .ok (.iconst 2, 1) := by decide +kernel
theorem dL_law_345 : decode cL_law 345 = .ok (.iadd, 1) := by decide +kernel
theorem dL_law_346 : decode cL_law 346 = .ok (.iaload, 1) := by decide +kernel
theorem dL_law_347 : decode cL_law 347 = .ok (.invokevirtual 35, 3) := by decide +kernel
theorem dL_law_350 : decode cL_law 350 = .ok (.if_icmp .eq 820, 3) := by decide +kernel
theorem dL_law_353 : decode cL_law 353 = .ok (.iconst 0, 1) := by decide +kernel
theorem dL_law_354 : decode cL_law 354 = .ok (.ireturn, 1) := by decide +kernel
theorem dL_law_355 : decode cL_law 355 = .ok (.aload_n 1, 1) := by decide +kernel
theorem dL_law_356 : decode cL_law 356 = .ok (.aload_n 0, 1) := by decide +kernel
theorem dL_law_357 : decode cL_law 357 = .ok (.iload_n 3, 1) := by decide +kernel
theorem dL_law_358 : decode cL_law 358 = .ok (.iconst 1, 1) := by decide +kernel
theorem dL_law_359 : decode cL_law 359 = .ok (.iadd, 1) := by decide +kernel
theorem dL_law_360 : decode cL_law 360 = .ok (.iaload, 1) := by decide +kernel
theorem dL_law_361 : decode cL_law 361 = .ok (.invokevirtual 36, 3) := by decide +kernel
theorem dL_law_364 : decode cL_law 364 = .ok (.aload_n 2, 1) := by decide +kernel
theorem dL_law_365 : decode cL_law 365 = .ok (.aload_n 0, 1) := by decide +kernel
theorem dL_law_366 : decode cL_law 366 = .ok (.iload_n 3, 1) := by decide +kernel
theorem dL_law_367 : decode cL_law 367 = .ok (.iconst 1, 1) := by decide +kernel
theorem dL_law_368 : decode cL_law 368 = .ok (.iadd, 1) := by decide +kernel
theorem dL_law_369 : decode cL_law 369 = .ok (.iaload, 1) := by decide +kernel
theorem dL_law_370 : decode cL_law 370 = .ok (.invokevirtual 39, 3) := by decide +kernel
theorem dL_law_373 : decode cL_law 373 = .ok (.if_icmp .eq 797, 3) := by decide +kernel
theorem dL_law_376 : decode cL_law 376 = .ok (.iconst 0, 1) := by decide +kernel
theorem dL_law_377 : decode cL_law 377 = .ok (.ireturn, 1) := by decide +kernel
theorem dL_law_378 : decode cL_law 378 = .ok (.aload_n 1, 1) := by decide +kernel
theorem dL_law_379 : decode cL_law 379 = .ok (.invokevirtual 40, 3) := by decide +kernel
theorem dL_law_382 : decode cL_law 382 = .ok (.aload_n 2, 1) := by decide +kernel
theorem dL_law_383 : decode cL_law 383 = .ok (.invokevirtual 44, 3) := by decide +kernel
theorem dL_law_386 : decode cL_law 386 = .ok (.if_icmp .eq 784, 3) := by decide +kernel
theorem dL_law_389 : decode cL_law 389 = .ok (.iconst 0, 1) := by decide +kernel
theorem dL_law_390 : decode cL_law 390 = .ok (.ireturn, 1) := by decide +kernel
theorem dL_law_391 : decode cL_law 391 = .ok (.aload_n 1, 1) := by decide +kernel
theorem dL_law_392 : decode cL_law 392 = .ok (.invokevirtual 45, 3) := by decide +kernel
theorem dL_law_395 : decode cL_law 395 = .ok (.aload_n 2, 1) := by decide +kernel
theorem dL_law_396 : decode cL_law 396 = .ok (.invokevirtual 48, 3) := by decide +kernel
theorem dL_law_399 : decode cL_law 399 = .ok (.if_icmp .eq 771, 3) := by decide +kernel
theorem dL_law_402 : decode cL_law 402 = .ok (.iconst 0, 1) := by decide +kernel
theorem dL_law_403 : decode cL_law 403 = .ok (.ireturn, 1) := by decide +kernel
theorem dL_law_404 : decode cL_law 404 = .ok (.aload_n 1, 1) := by decide +kernel
theorem dL_law_405 : decode cL_law 405 = .ok (.invokevirtual 49, 3) := by decide +kernel
theorem dL_law_408 : decode cL_law 408 = .ok (.aload_n 2, 1) := by decide +kernel
theorem dL_law_409 : decode cL_law 409 = .ok (.invokevirtual 52, 3) := by decide +kernel
theorem dL_law_412 : decode cL_law 412 = .ok (.if_icmp .eq 758, 3) := by decide +kernel
theorem dL_law_415 : decode cL_law 415 = .ok (.iconst 0, 1) := by decide +kernel
theorem dL_law_416 : decode cL_law 416 = .ok (.ireturn, 1) := by decide +kernel
theorem dL_law_417 : decode cL_law 417 = .ok (.aload_n 1, 1) := by decide +kernel
theorem dL_law_418 : decode cL_law 418 = .ok (.aload_n 0, 1) := by decide +kernel
theorem dL_law_419 : decode cL_law 419 = .ok (.iload_n 3, 1) := by decide +kernel
theorem dL_law_420 : decode cL_law 420 = .ok (.iconst 1, 1) := by decide +kernel
theorem dL_law_421 : decode cL_law 421 = .ok (.iadd, 1) := by decide +kernel
theorem dL_law_422 : decode cL_law 422 = .ok (.iaload, 1) := by decide +kernel
theorem dL_law_423 : decode cL_law 423 = .ok (.invokevirtual 53, 3) := by decide +kernel
theorem dL_law_426 : decode cL_law 426 = .ok (.aload_n 2, 1) := by decide +kernel
theorem dL_law_427 : decode cL_law 427 = .ok (.aload_n 0, 1) := by decide +kernel
theorem dL_law_428 : decode cL_law 428 = .ok (.iload_n 3, 1) := by decide +kernel
theorem dL_law_429 : decode cL_law 429 = .ok (.iconst 1, 1) := by decide +kernel
theorem dL_law_430 : decode cL_law 430 = .ok (.iadd, 1) := by decide +kernel
theorem dL_law_431 : decode cL_law 431 = .ok (.iaload, 1) := by decide +kernel
theorem dL_law_432 : decode cL_law 432 = .ok (.invokevirtual 56, 3) := by decide +kernel
theorem dL_law_435 : decode cL_law 435 = .ok (.if_icmp .eq 735, 3) := by decide +kernel
theorem dL_law_438 : decode cL_law 438 = .ok (.iconst 0, 1) := by decide +kernel
theorem dL_law_439 : decode cL_law 439 = .ok (.ireturn, 1) := by decide +kernel
theorem dL_law_440 : decode cL_law 440 = .ok (.aload_n 1, 1) := by decide +kernel
theorem dL_law_441 : decode cL_law 441 = .ok (.aload_n 0, 1) := by decide +kernel
theorem dL_law_442 : decode cL_law 442 = .ok (.iload_n 3, 1) := by decide +kernel
theorem dL_law_443 : decode cL_law 443 = .ok (.iconst 1, 1) := by decide +kernel
theorem dL_law_444 : decode cL_law 444 = .ok (.iadd, 1) := by decide +kernel
theorem dL_law_445 : decode cL_law 445 = .ok (.iaload, 1) := by decide +kernel
theorem dL_law_446 : decode cL_law 446 = .ok (.invokevirtual 57, 3) := by decide +kernel
theorem dL_law_449 : decode cL_law 449 = .ok (.aload_n 2, 1) := by decide +kernel
theorem dL_law_450 : decode cL_law 450 = .ok (.aload_n 0, 1) := by decide +kernel
theorem dL_law_451 : decode cL_law 451 = .ok (.iload_n 3, 1) := by decide +kernel
theorem dL_law_452 : decode cL_law 452 = .ok (.iconst 1, 1) := by decide +kernel
theorem dL_law_453 : decode cL_law 453 = .ok (.iadd, 1) := by decide +kernel
theorem dL_law_454 : decode cL_law 454 = .ok (.iaload, 1) := by decide +kernel
theorem dL_law_455 : decode cL_law 455 = .ok (.invokevirtual 60, 3) := by decide +kernel
theorem dL_law_458 : decode cL_law 458 = .ok (.if_icmp .eq 712, 3) := by decide +kernel
theorem dL_law_461 : decode cL_law 461 = .ok (.iconst 0, 1) := by decide +kernel
theorem dL_law_462 : decode cL_law 462 = .ok (.ireturn, 1) := by decide +kernel
theorem dL_law_463 : decode cL_law 463 = .ok (.aload_n 1, 1) := by decide +kernel
theorem dL_law_464 : decode cL_law 464 = .ok (.aload_n 0, 1) := by decide +kernel
theorem dL_law_465 : decode cL_law 465 = .ok (.iload_n 3, 1) := by decide +kernel
theorem dL_law_466 : decode cL_law 466 = .ok (.iconst 1, 1) := by decide +kernel
theorem dL_law_467 : decode cL_law 467 = .ok (.iadd, 1) := by decide +kernel
theorem dL_law_468 : decode cL_law 468 = .ok (.iaload, 1) := by decide +kernel
theorem dL_law_469 : decode cL_law 469 = .ok (.aload_n 0, 1) := by decide +kernel
theorem dL_law_470 : decode cL_law 470 = .ok (.iload_n 3, 1) := by decide +kernel
theorem dL_law_471 : decode cL_law 471 = .ok (.iconst 2, 1) := by decide +kernel
theorem dL_law_472 : decode cL_law 472 = .ok (.iadd, 1) := by decide +kernel
theorem dL_law_473 : decode cL_law 473 = .ok (.iaload, 1) := by decide +kernel
theorem dL_law_474 : decode cL_law 474 = .ok (.ifCond .eq 7, 3) := by decide +kernel
theorem dL_law_477 : decode cL_law 477 = .ok (.iconst 1, 1) := by decide +kernel
theorem dL_law_478 : decode cL_law 478 = .ok (.goto 4, 3) := by decide +kernel
theorem dL_law_481 : decode cL_law 481 = .ok (.iconst 0, 1) := by decide +kernel
theorem dL_law_482 : decode cL_law 482 = .ok (.invokevirtual 61, 3) := by decide +kernel
theorem dL_law_485 : decode cL_law 485 = .ok (.aload_n 2, 1) := by decide +kernel
theorem dL_law_486 : decode cL_law 486 = .ok (.aload_n 0, 1) := by decide +kernel
theorem dL_law_487 : decode cL_law 487 = .ok (.iload_n 3, 1) := by decide +kernel
theorem dL_law_488 : decode cL_law 488 = .ok (.iconst 1, 1) := by decide +kernel
theorem dL_law_489 : decode cL_law 489 = .ok (.iadd, 1) := by decide +kernel
theorem dL_law_490 : decode cL_law 490 = .ok (.iaload, 1) := by decide +kernel
theorem dL_law_491 : decode cL_law 491 = .ok (.aload_n 0, 1) := by decide +kernel
theorem dL_law_492 : decode cL_law 492 = .ok (.iload_n 3, 1) := by decide +kernel
theorem dL_law_493 : decode cL_law 493 = .ok (.iconst 2, 1) := by decide +kernel
theorem dL_law_494 : decode cL_law 494 = .ok (.iadd, 1) := by decide +kernel
theorem dL_law_495 : decode cL_law 495 = .ok (.iaload, 1) := by decide +kernel
theorem dL_law_496 : decode cL_law 496 = .ok (.ifCond .eq 7, 3) := by decide +kernel
theorem dL_law_499 : decode cL_law 499 = .ok (.iconst 1, 1) := by decide +kernel
theorem dL_law_500 : decode cL_law 500 = .ok (.goto 4, 3) := by decide +kernel
theorem dL_law_503 : decode cL_law 503 = .ok (.iconst 0, 1) := by decide +kernel
theorem dL_law_504 : decode cL_law 504 = .ok (.invokevirtual 65, 3) := by decide +kernel
theorem dL_law_507 : decode cL_law 507 = .ok (.if_icmp .eq 663, 3) := by decide +kernel
theorem dL_law_510 : decode cL_law 510 = .ok (.iconst 0, 1) := by decide +kernel
theorem dL_law_511 : decode cL_law 511 = .ok (.ireturn, 1) := by decide +kernel
theorem dL_law_512 : decode cL_law 512 = .ok (.aload_n 1, 1) := by decide +kernel
theorem dL_law_513 : decode cL_law 513 = .ok (.invokevirtual 66, 3) := by decide +kernel
theorem dL_law_516 : decode cL_law 516 = .ok (.aload_n 2, 1) := by decide +kernel
theorem dL_law_517 : decode cL_law 517 = .ok (.invokevirtual 69, 3) := by decide +kernel
theorem dL_law_520 : decode cL_law 520 = .ok (.if_icmp .eq 650, 3) := by decide +kernel
theorem dL_law_523 : decode cL_law 523 = .ok (.iconst 0, 1) := by decide +kernel
theorem dL_law_524 : decode cL_law 524 = .ok (.ireturn, 1) := by decide +kernel
theorem dL_law_525 : decode cL_law 525 = .ok (.aload_n 1, 1) := by decide +kernel
theorem dL_law_526 : decode cL_law 526 = .ok (.aload_n 0, 1) := by decide +kernel
theorem dL_law_527 : decode cL_law 527 = .ok (.iload_n 3, 1) := by decide +kernel
theorem dL_law_528 : decode cL_law 528 = .ok (.iconst 1, 1) := by decide +kernel
theorem dL_law_529 : decode cL_law 529 = .ok (.iadd, 1) := by decide +kernel
theorem dL_law_530 : decode cL_law 530 = .ok (.iaload, 1) := by decide +kernel
theorem dL_law_531 : decode cL_law 531 = .ok (.ifCond .eq 7, 3) := by decide +kernel
theorem dL_law_534 : decode cL_law 534 = .ok (.iconst 1, 1) := by decide +kernel
theorem dL_law_535 : decode cL_law 535 = .ok (.goto 4, 3) := by decide +kernel
theorem dL_law_538 : decode cL_law 538 = .ok (.iconst 0, 1) := by decide +kernel
theorem dL_law_539 : decode cL_law 539 = .ok (.aload_n 0, 1) := by decide +kernel
theorem dL_law_540 : decode cL_law 540 = .ok (.iload_n 3, 1) := by decide +kernel
theorem dL_law_541 : decode cL_law 541 = .ok (.iconst 2, 1) := by decide +kernel
theorem dL_law_542 : decode cL_law 542 = .ok (.iadd, 1) := by decide +kernel
theorem dL_law_543 : decode cL_law 543 = .ok (.iaload, 1) := by decide +kernel
theorem dL_law_544 : decode cL_law 544 = .ok (.invokevirtual 70, 3) := by decide +kernel
theorem dL_law_547 : decode cL_law 547 = .ok (.aload_n 2, 1) := by decide +kernel
theorem dL_law_548 : decode cL_law 548 = .ok (.aload_n 0, 1) := by decide +kernel
theorem dL_law_549 : decode cL_law 549 = .ok (.iload_n 3, 1) := by decide +kernel
theorem dL_law_550 : decode cL_law 550 = .ok (.iconst 1, 1) := by decide +kernel
theorem dL_law_551 : decode cL_law 551 = .ok (.iadd, 1) := by decide +kernel
theorem dL_law_552 : decode cL_law 552 = .ok (.iaload, 1) := by decide +kernel
theorem dL_law_553 : decode cL_law 553 = .ok (.ifCond .eq 7, 3) := by decide +kernel
theorem dL_law_556 : decode cL_law 556 = .ok (.iconst 1, 1) := by decide +kernel
theorem dL_law_557 : decode cL_law 557 = .ok (.goto 4, 3) := by decide +kernel
theorem dL_law_560 : decode cL_law 560 = .ok (.iconst 0, 1) := by decide +kernel
theorem dL_law_561 : decode cL_law 561 = .ok (.aload_n 0, 1) := by decide +kernel
theorem dL_law_562 : decode cL_law 562 = .ok (.iload_n 3, 1) := by decide +kernel
theorem dL_law_563 : decode cL_law 563 = .ok (.iconst 2, 1) := by decide +kernel
theorem dL_law_564 : decode cL_law 564 = .ok (.iadd, 1) := by decide +kernel
theorem dL_law_565 : decode cL_law 565 = .ok (.iaload, 1) := by decide +kernel
theorem dL_law_566 : decode cL_law 566 = .ok (.invokevirtual 74, 3) := by decide +kernel
theorem dL_law_569 : decode cL_law 569 = .ok (.if_icmp .eq 601, 3) := by decide +kernel
theorem dL_law_572 : decode cL_law 572 = .ok (.iconst 0, 1) := by decide +kernel
theorem dL_law_573 : decode cL_law 573 = .ok (.ireturn, 1) := by decide +kernel
theorem dL_law_574 : decode cL_law 574 = .ok (.aload_n 1, 1) := by decide +kernel
theorem dL_law_575 : decode cL_law 575 = .ok (.aload_n 0, 1) := by decide +kernel
theorem dL_law_576 : decode cL_law 576 = .ok (.iload_n 3, 1) := by decide +kernel
theorem dL_law_577 : decode cL_law 577 = .ok (.iconst 1, 1) := by decide +kernel
theorem dL_law_578 : decode cL_law 578 = .ok (.iadd, 1) := by decide +kernel
theorem dL_law_579 : decode cL_law 579 = .ok (.iaload, 1) := by decide +kernel
theorem dL_law_580 : decode cL_law 580 = .ok (.aload_n 0, 1) := by decide +kernel
theorem dL_law_581 : decode cL_law 581 = .ok (.iload_n 3, 1) := by decide +kernel
theorem dL_law_582 : decode cL_law 582 = .ok (.iconst 2, 1) := by decide +kernel
theorem dL_law_583 : decode cL_law 583 = .ok (.iadd, 1) := by decide +kernel
theorem dL_law_584 : decode cL_law 584 = .ok (.iaload, 1) := by decide +kernel
theorem dL_law_585 : decode cL_law 585 = .ok (.aload_n 0, 1) := by decide +kernel
theorem dL_law_586 : decode cL_law 586 = .ok (.iload_n 3, 1) := by decide +kernel
theorem dL_law_587 : decode cL_law 587 = .ok (.iconst 3, 1) := by decide +kernel
theorem dL_law_588 : decode cL_law 588 = .ok (.iadd, 1) := by decide +kernel
theorem dL_law_589 : decode cL_law 589 = .ok (.iaload, 1) := by decide +kernel
theorem dL_law_590 : decode cL_law 590 = .ok (.invokevirtual 75, 3) := by decide +kernel
theorem dL_law_593 : decode cL_law 593 = .ok (.aload_n 2, 1) := by decide +kernel
theorem dL_law_594 : decode cL_law 594 = .ok (.aload_n 0, 1) := by decide +kernel
theorem dL_law_595 : decode cL_law 595 = .ok (.iload_n 3, 1) := by decide +kernel
theorem dL_law_596 : decode cL_law 596 = .ok (.iconst 1, 1) := by decide +kernel
theorem dL_law_597 : decode cL_law 597 = .ok (.iadd, 1) := by decide +kernel
theorem dL_law_598 : decode cL_law 598 = .ok (.iaload, 1) := by decide +kernel
theorem dL_law_599 : decode cL_law 599 = .ok (.aload_n 0, 1) := by decide +kernel
theorem dL_law_600 : decode cL_law 600 = .ok (.iload_n 3, 1) := by decide +kernel
theorem dL_law_601 : decode cL_law 601 = .ok (.iconst 2, 1) := by decide +kernel
theorem dL_law_602 : decode cL_law 602 = .ok (.iadd, 1) := by decide +kernel
theorem dL_law_603 : decode cL_law 603 = .ok (.iaload, 1) := by decide +kernel
theorem dL_law_604 : decode cL_law 604 = .ok (.aload_n 0, 1) := by decide +kernel
theorem dL_law_605 : decode cL_law 605 = .ok (.iload_n 3, 1) := by decide +kernel
theorem dL_law_606 : decode cL_law 606 = .ok (.iconst 3, 1) := by decide +kernel
theorem dL_law_607 : decode cL_law 607 = .ok (.iadd, 1) := by decide +kernel
theorem dL_law_608 : decode cL_law 608 = .ok (.iaload, 1) := by decide +kernel
theorem dL_law_609 : decode cL_law 609 = .ok (.invokevirtual 78, 3) := by decide +kernel
theorem dL_law_612 : decode cL_law 612 = .ok (.if_icmp .eq 558, 3) := by decide +kernel
theorem dL_law_615 : decode cL_law 615 = .ok (.iconst 0, 1) := by decide +kernel
theorem dL_law_616 : decode cL_law 616 = .ok (.ireturn, 1) := by decide +kernel
theorem dL_law_617 : decode cL_law 617 = .ok (.aload_n 1, 1) := by decide +kernel
theorem dL_law_618 : decode cL_law 618 = .ok (.aload_n 0, 1) := by decide +kernel
theorem dL_law_619 : decode cL_law 619 = .ok (.iload_n 3, 1) := by decide +kernel
theorem dL_law_620 : decode cL_law 620 = .ok (.iconst 1, 1) := by decide +kernel
theorem dL_law_621 : decode cL_law 621 = .ok (.iadd, 1) := by decide +kernel
theorem dL_law_622 : decode cL_law 622 = .ok (.iaload, 1) := by decide +kernel
theorem dL_law_623 : decode cL_law 623 = .ok (.aload_n 0, 1) := by decide +kernel
theorem dL_law_624 : decode cL_law 624 = .ok (.iload_n 3, 1) := by decide +kernel
theorem dL_law_625 : decode cL_law 625 = .ok (.iconst 2, 1) := by decide +kernel
theorem dL_law_626 : decode cL_law 626 = .ok (.iadd, 1) := by decide +kernel
theorem dL_law_627 : decode cL_law 627 = .ok (.iaload, 1) := by decide +kernel
theorem dL_law_628 : decode cL_law 628 = .ok (.invokevirtual 79, 3) := by decide +kernel
theorem dL_law_631 : decode cL_law 631 = .ok (.aload_n 2, 1) := by decide +kernel
theorem dL_law_632 : decode cL_law 632 = .ok (.aload_n 0, 1) := by decide +kernel
theorem dL_law_633 : decode cL_law 633 = .ok (.iload_n 3, 1) := by decide +kernel
theorem dL_law_634 : decode cL_law 634 = .ok (.iconst 1, 1) := by decide +kernel
theorem dL_law_635 : decode cL_law 635 = .ok (.iadd, 1) := by decide +kernel
theorem dL_law_636 : decode cL_law 636 = .ok (.iaload, 1) := by decide +kernel
theorem dL_law_637 : decode cL_law 637 = .ok (.aload_n 0, 1) := by decide +kernel
theorem dL_law_638 : decode cL_law 638 = .ok (.iload_n 3, 1) := by decide +kernel
theorem dL_law_639 : decode cL_law 639 = .ok (.iconst 2, 1) := by decide +kernel
theorem dL_law_640 : decode cL_law 640 = .ok (.iadd, 1) := by decide +kernel
theorem dL_law_641 : decode cL_law 641 = .ok (.iaload, 1) := by decide +kernel
theorem dL_law_642 : decode cL_law 642 = .ok (.invokevirtual 82, 3) := by decide +kernel
theorem dL_law_645 : decode cL_law 645 = .ok (.if_icmp .eq 525, 3) := by decide +kernel
theorem dL_law_648 : decode cL_law 648 = .ok (.iconst 0, 1) := by decide +kernel
theorem dL_law_649 : decode cL_law 649 = .ok (.ireturn, 1) := by decide +kernel
theorem dL_law_650 : decode cL_law 650 = .ok (.aload_n 1, 1) := by decide +kernel
theorem dL_law_651 : decode cL_law 651 = .ok (.aload_n 0, 1) := by decide +kernel
theorem dL_law_652 : decode cL_law 652 = .ok (.iload_n 3, 1) := by decide +kernel
theorem dL_law_653 : decode cL_law 653 = .ok (.iconst 1, 1) := by decide +kernel
theorem dL_law_654 : decode cL_law 654 = .ok (.iadd, 1) := by decide +kernel
theorem dL_law_655 : decode cL_law 655 = .ok (.iaload, 1) := by decide +kernel
theorem dL_law_656 : decode cL_law 656 = .ok (.invokevirtual 83, 3) := by decide +kernel
theorem dL_law_659 : decode cL_law 659 = .ok (.aload_n 2, 1) := by decide +kernel
theorem dL_law_660 : decode cL_law 660 = .ok (.aload_n 0, 1) := by decide +kernel
theorem dL_law_661 : decode cL_law 661 = .ok (.iload_n 3, 1) := by decide +kernel
theorem dL_law_662 : decode cL_law 662 = .ok (.iconst 1, 1) := by decide +kernel
theorem dL_law_663 : decode cL_law 663 = .ok (.iadd, 1) := by decide +kernel
theorem dL_law_664 : decode cL_law 664 = .ok (.iaload, 1) := by decide +kernel
theorem dL_law_665 : decode cL_law 665 = .ok (.invokevirtual 86, 3) := by decide +kernel
theorem dL_law_668 : decode cL_law 668 = .ok (.if_icmp .eq 502, 3) := by decide +kernel
theorem dL_law_671 : decode cL_law 671 = .ok (.iconst 0, 1) := by decide +kernel
theorem dL_law_672 : decode cL_law 672 = .ok (.ireturn, 1) := by decide +kernel
theorem dL_law_673 : decode cL_law 673 = .ok (.aload_n 1, 1) := by decide +kernel
theorem dL_law_674 : decode cL_law 674 = .ok (.aload_n 0, 1) := by decide +kernel
theorem dL_law_675 : decode cL_law 675 = .ok (.iload_n 3, 1) := by decide +kernel
theorem dL_law_676 : decode cL_law 676 = .ok (.iconst 1, 1) := by decide +kernel
theorem dL_law_677 : decode cL_law 677 = .ok (.iadd, 1) := by decide +kernel
theorem dL_law_678 : decode cL_law 678 = .ok (.iaload, 1) := by decide +kernel
theorem dL_law_679 : decode cL_law 679 = .ok (.invokevirtual 87, 3) := by decide +kernel
theorem dL_law_682 : decode cL_law 682 = .ok (.aload_n 2, 1) := by decide +kernel
theorem dL_law_683 : decode cL_law 683 = .ok (.aload_n 0, 1) := by decide +kernel
theorem dL_law_684 : decode cL_law 684 = .ok (.iload_n 3, 1) := by decide +kernel
theorem dL_law_685 : decode cL_law 685 = .ok (.iconst 1, 1) := by decide +kernel
theorem dL_law_686 : decode cL_law 686 = .ok (.iadd, 1) := by decide +kernel
theorem dL_law_687 : decode cL_law 687 = .ok (.iaload, 1) := by decide +kernel
theorem dL_law_688 : decode cL_law 688 = .ok (.invokevirtual 90, 3) := by decide +kernel
theorem dL_law_691 : decode cL_law 691 = .ok (.if_icmp .eq 479, 3) := by decide +kernel
theorem dL_law_694 : decode cL_law 694 = .ok (.iconst 0, 1) := by decide +kernel
theorem dL_law_695 : decode cL_law 695 = .ok (.ireturn, 1) := by decide +kernel
theorem dL_law_696 : decode cL_law 696 = .ok (.aload_n 1, 1) := by decide +kernel
theorem dL_law_697 : decode cL_law 697 = .ok (.aload_n 0, 1) := by decide +kernel
theorem dL_law_698 : decode cL_law 698 = .ok (.iload_n 3, 1) := by decide +kernel
theorem dL_law_699 : decode cL_law 699 = .ok (.iconst 1, 1) := by decide +kernel
theorem dL_law_700 : decode cL_law 700 = .ok (.iadd, 1) := by decide +kernel
theorem dL_law_701 : decode cL_law 701 = .ok (.iaload, 1) := by decide +kernel
theorem dL_law_702 : decode cL_law 702 = .ok (.invokevirtual 91, 3) := by decide +kernel
theorem dL_law_705 : decode cL_law 705 = .ok (.aload_n 2, 1) := by decide +kernel
theorem dL_law_706 : decode cL_law 706 = .ok (.aload_n 0, 1) := by decide +kernel
theorem dL_law_707 : decode cL_law 707 = .ok (.iload_n 3, 1) := by decide +kernel
theorem dL_law_708 : decode cL_law 708 = .ok (.iconst 1, 1) := by decide +kernel
theorem dL_law_709 : decode cL_law 709 = .ok (.iadd, 1) := by decide +kernel
theorem dL_law_710 : decode cL_law 710 = .ok (.iaload, 1) := by decide +kernel
theorem dL_law_711 : decode cL_law 711 = .ok (.invokevirtual 94, 3) := by decide +kernel
theorem dL_law_714 : decode cL_law 714 = .ok (.if_icmp .eq 456, 3) := by decide +kernel
theorem dL_law_717 : decode cL_law 717 = .ok (.iconst 0, 1) := by decide +kernel
theorem dL_law_718 : decode cL_law 718 = .ok (.ireturn, 1) := by decide +kernel
theorem dL_law_719 : decode cL_law 719 = .ok (.aload_n 1, 1) := by decide +kernel
theorem dL_law_720 : decode cL_law 720 = .ok (.aload_n 0, 1) := by decide +kernel
theorem dL_law_721 : decode cL_law 721 = .ok (.iload_n 3, 1) := by decide +kernel
theorem dL_law_722 : decode cL_law 722 = .ok (.iconst 1, 1) := by decide +kernel
theorem dL_law_723 : decode cL_law 723 = .ok (.iadd, 1) := by decide +kernel
theorem dL_law_724 : decode cL_law 724 = .ok (.iaload, 1) := by decide +kernel
theorem dL_law_725 : decode cL_law 725 = .ok (.ifCond .eq 7, 3) := by decide +kernel
theorem dL_law_728 : decode cL_law 728 = .ok (.iconst 1, 1) := by decide +kernel
theorem dL_law_729 : decode cL_law 729 = .ok (.goto 4, 3) := by decide +kernel
theorem dL_law_732 : decode cL_law 732 = .ok (.iconst 0, 1) := by decide +kernel
theorem dL_law_733 : decode cL_law 733 = .ok (.invokevirtual 95, 3) := by decide +kernel
theorem dL_law_736 : decode cL_law 736 = .ok (.aload_n 2, 1) := by decide +kernel
theorem dL_law_737 : decode cL_law 737 = .ok (.aload_n 0, 1) := by decide +kernel
theorem dL_law_738 : decode cL_law 738 = .ok (.iload_n 3, 1) := by decide +kernel
theorem dL_law_739 : decode cL_law 739 = .ok (.iconst 1, 1) := by decide +kernel
theorem dL_law_740 : decode cL_law 740 = .ok (.iadd, 1) := by decide +kernel
theorem dL_law_741 : decode cL_law 741 = .ok (.iaload, 1) := by decide +kernel
theorem dL_law_742 : decode cL_law 742 = .ok (.ifCond .eq 7, 3) := by decide +kernel
theorem dL_law_745 : decode cL_law 745 = .ok (.iconst 1, 1) := by decide +kernel
theorem dL_law_746 : decode cL_law 746 = .ok (.goto 4, 3) := by decide +kernel
theorem dL_law_749 : decode cL_law 749 = .ok (.iconst 0, 1) := by decide +kernel
theorem dL_law_750 : decode cL_law 750 = .ok (.invokevirtual 99, 3) := by decide +kernel
theorem dL_law_753 : decode cL_law 753 = .ok (.if_icmp .eq 417, 3) := by decide +kernel
theorem dL_law_756 : decode cL_law 756 = .ok (.iconst 0, 1) := by decide +kernel
theorem dL_law_757 : decode cL_law 757 = .ok (.ireturn, 1) := by decide +kernel
theorem dL_law_758 : decode cL_law 758 = .ok (.aload_n 1, 1) := by decide +kernel
theorem dL_law_759 : decode cL_law 759 = .ok (.aload_n 0, 1) := by decide +kernel
theorem dL_law_760 : decode cL_law 760 = .ok (.iload_n 3, 1) := by decide +kernel
theorem dL_law_761 : decode cL_law 761 = .ok (.iconst 1, 1) := by decide +kernel
theorem dL_law_762 : decode cL_law 762 = .ok (.iadd, 1) := by decide +kernel
theorem dL_law_763 : decode cL_law 763 = .ok (.iaload, 1) := by decide +kernel
theorem dL_law_764 : decode cL_law 764 = .ok (.invokevirtual 100, 3) := by decide +kernel
theorem dL_law_767 : decode cL_law 767 = .ok (.aload_n 2, 1) := by decide +kernel
theorem dL_law_768 : decode cL_law 768 = .ok (.aload_n 0, 1) := by decide +kernel
theorem dL_law_769 : decode cL_law 769 = .ok (.iload_n 3, 1) := by decide +kernel
theorem dL_law_770 : decode cL_law 770 = .ok (.iconst 1, 1) := by decide +kernel
theorem dL_law_771 : decode cL_law 771 = .ok (.iadd, 1) := by decide +kernel
theorem dL_law_772 : decode cL_law 772 = .ok (.iaload, 1) := by decide +kernel
theorem dL_law_773 : decode cL_law 773 = .ok (.invokevirtual 103, 3) := by decide +kernel
theorem dL_law_776 : decode cL_law 776 = .ok (.if_icmp .eq 394, 3) := by decide +kernel
theorem dL_law_779 : decode cL_law 779 = .ok (.iconst 0, 1) := by decide +kernel
theorem dL_law_780 : decode cL_law 780 = .ok (.ireturn, 1) := by decide +kernel
theorem dL_law_781 : decode cL_law 781 = .ok (.aload_n 1, 1) := by decide +kernel
theorem dL_law_782 : decode cL_law 782 = .ok (.invokevirtual 104, 3) := by decide +kernel
theorem dL_law_785 : decode cL_law 785 = .ok (.aload_n 2, 1) := by decide +kernel
theorem dL_law_786 : decode cL_law 786 = .ok (.invokevirtual 107, 3) := by decide +kernel
theorem dL_law_789 : decode cL_law 789 = .ok (.if_icmp .eq 381, 3) := by decide +kernel
theorem dL_law_792 : decode cL_law 792 = .ok (.iconst 0, 1) := by decide +kernel
theorem dL_law_793 : decode cL_law 793 = .ok (.ireturn, 1) := by decide +kernel
theorem dL_law_794 : decode cL_law 794 = .ok (.aload_n 1, 1) := by decide +kernel
theorem dL_law_795 : decode cL_law 795 = .ok (.aload_n 0, 1) := by decide +kernel
theorem dL_law_796 : decode cL_law 796 = .ok (.iload_n 3, 1) := by decide +kernel
theorem dL_law_797 : decode cL_law 797 = .ok (.iconst 1, 1) := by decide +kernel
theorem dL_law_798 : decode cL_law 798 = .ok (.iadd, 1) := by decide +kernel
theorem dL_law_799 : decode cL_law 799 = .ok (.iaload, 1) := by decide +kernel
theorem dL_law_800 : decode cL_law 800 = .ok (.aload_n 0, 1) := by decide +kernel
theorem dL_law_801 : decode cL_law 801 = .ok (.iload_n 3, 1) := by decide +kernel
theorem dL_law_802 : decode cL_law 802 = .ok (.iconst 2, 1) := by decide +kernel
theorem dL_law_803 : decode cL_law 803 = .ok (.iadd, 1) := by decide +kernel
theorem dL_law_804 : decode cL_law 804 = .ok (.iaload, 1) := by decide +kernel
theorem dL_law_805 : decode cL_law 805 = .ok (.invokevirtual 108, 3) := by decide +kernel
theorem dL_law_808 : decode cL_law 808 = .ok (.aload_n 2, 1) := by decide +kernel
theorem dL_law_809 : decode cL_law 809 = .ok (.aload_n 0, 1) := by decide +kernel
theorem dL_law_810 : decode cL_law 810 = .ok (.iload_n 3, 1) := by decide +kernel
theorem dL_law_811 : decode cL_law 811 = .ok (.iconst 1, 1) := by decide +kernel
theorem dL_law_812 : decode cL_law 812 = .ok (.iadd, 1) := by decide +kernel
theorem dL_law_813 : decode cL_law 813 = .ok (.iaload, 1) := by decide +kernel
theorem dL_law_814 : decode cL_law 814 = .ok (.aload_n 0, 1) := by decide +kernel
theorem dL_law_815 : decode cL_law 815 = .ok (.iload_n 3, 1) := by decide +kernel
theorem dL_law_816 : decode cL_law 816 = .ok (.iconst 2, 1) := by decide +kernel
theorem dL_law_817 : decode cL_law 817 = .ok (.iadd, 1) := by decide +kernel
theorem dL_law_818 : decode cL_law 818 = .ok (.iaload, 1) := by decide +kernel
theorem dL_law_819 : decode cL_law 819 = .ok (.invokevirtual 112, 3) := by decide +kernel
theorem dL_law_822 : decode cL_law 822 = .ok (.lcmp, 1) := by decide +kernel
theorem dL_law_823 : decode cL_law 823 = .ok (.ifCond .eq 347, 3) := by decide +kernel
theorem dL_law_826 : decode cL_law 826 = .ok (.iconst 0, 1) := by decide +kernel
theorem dL_law_827 : decode cL_law 827 = .ok (.ireturn, 1) := by decide +kernel
theorem dL_law_828 : decode cL_law 828 = .ok (.aload_n 1, 1) := by decide +kernel
theorem dL_law_829 : decode cL_law 829 = .ok (.aload_n 0, 1) := by decide +kernel
theorem dL_law_830 : decode cL_law 830 = .ok (.iload_n 3, 1) := by decide +kernel
theorem dL_law_831 : decode cL_law 831 = .ok (.iconst 1, 1) := by decide +kernel
theorem dL_law_832 : decode cL_law 832 = .ok (.iadd, 1) := by decide +kernel
theorem dL_law_833 : decode cL_law 833 = .ok (.iaload, 1) := by decide +kernel
theorem dL_law_834 : decode cL_law 834 = .ok (.aload_n 0, 1) := by decide +kernel
theorem dL_law_835 : decode cL_law 835 = .ok (.iload_n 3, 1) := by decide +kernel
theorem dL_law_836 : decode cL_law 836 = .ok (.iconst 2, 1) := by decide +kernel
theorem dL_law_837 : decode cL_law 837 = .ok (.iadd, 1) := by decide +kernel
theorem dL_law_838 : decode cL_law 838 = .ok (.iaload, 1) := by decide +kernel
theorem dL_law_839 : decode cL_law 839 = .ok (.invokevirtual 113, 3) := by decide +kernel
theorem dL_law_842 : decode cL_law 842 = .ok (.aload_n 2, 1) := by decide +kernel
theorem dL_law_843 : decode cL_law 843 = .ok (.aload_n 0, 1) := by decide +kernel
theorem dL_law_844 : decode cL_law 844 = .ok (.iload_n 3, 1) := by decide +kernel
theorem dL_law_845 : decode cL_law 845 = .ok (.iconst 1, 1) := by decide +kernel
theorem dL_law_846 : decode cL_law 846 = .ok (.iadd, 1) := by decide +kernel
theorem dL_law_847 : decode cL_law 847 = .ok (.iaload, 1) := by decide +kernel
theorem dL_law_848 : decode cL_law 848 = .ok (.aload_n 0, 1) := by decide +kernel
theorem dL_law_849 : decode cL_law 849 = .ok (.iload_n 3, 1) := by decide +kernel
theorem dL_law_850 : decode cL_law 850 = .ok (.iconst 2, 1) := by decide +kernel
theorem dL_law_851 : decode cL_law 851 = .ok (.iadd, 1) := by decide +kernel
theorem dL_law_852 : decode cL_law 852 = .ok (.iaload, 1) := by decide +kernel
theorem dL_law_853 : decode cL_law 853 = .ok (.invokevirtual 116, 3) := by decide +kernel
theorem dL_law_856 : decode cL_law 856 = .ok (.lcmp, 1) := by decide +kernel
theorem dL_law_857 : decode cL_law 857 = .ok (.ifCond .eq 313, 3) := by decide +kernel
theorem dL_law_860 : decode cL_law 860 = .ok (.iconst 0, 1) := by decide +kernel
theorem dL_law_861 : decode cL_law 861 = .ok (.ireturn, 1) := by decide +kernel
theorem dL_law_862 : decode cL_law 862 = .ok (.aload_n 1, 1) := by decide +kernel
theorem dL_law_863 : decode cL_law 863 = .ok (.aload_n 0, 1) := by decide +kernel
theorem dL_law_864 : decode cL_law 864 = .ok (.iload_n 3, 1) := by decide +kernel
theorem dL_law_865 : decode cL_law 865 = .ok (.iconst 1, 1) := by decide +kernel
theorem dL_law_866 : decode cL_law 866 = .ok (.iadd, 1) := by decide +kernel
theorem dL_law_867 : decode cL_law 867 = .ok (.iaload, 1) := by decide +kernel
theorem dL_law_868 : decode cL_law 868 = .ok (.invokevirtual 117, 3) := by decide +kernel
theorem dL_law_871 : decode cL_law 871 = .ok (.aload_n 2, 1) := by decide +kernel
theorem dL_law_872 : decode cL_law 872 = .ok (.aload_n 0, 1) := by decide +kernel
theorem dL_law_873 : decode cL_law 873 = .ok (.iload_n 3, 1) := by decide +kernel
theorem dL_law_874 : decode cL_law 874 = .ok (.iconst 1, 1) := by decide +kernel
theorem dL_law_875 : decode cL_law 875 = .ok (.iadd, 1) := by decide +kernel
theorem dL_law_876 : decode cL_law 876 = .ok (.iaload, 1) := by decide +kernel
theorem dL_law_877 : decode cL_law 877 = .ok (.invokevirtual 120, 3) := by decide +kernel
theorem dL_law_880 : decode cL_law 880 = .ok (.if_icmp .eq 290, 3) := by decide +kernel
theorem dL_law_883 : decode cL_law 883 = .ok (.iconst 0, 1) := by decide +kernel
theorem dL_law_884 : decode cL_law 884 = .ok (.ireturn, 1) := by decide +kernel
theorem dL_law_885 : decode cL_law 885 = .ok (.aload_n 1, 1) := by decide +kernel
theorem dL_law_886 : decode cL_law 886 = .ok (.aload_n 0, 1) := by decide +kernel
theorem dL_law_887 : decode cL_law 887 = .ok (.iload_n 3, 1) := by decide +kernel
theorem dL_law_888 : decode cL_law 888 = .ok (.iconst 1, 1) := by decide +kernel
theorem dL_law_889 : decode cL_law 889 = .ok (.iadd, 1) := by decide +kernel
theorem dL_law_890 : decode cL_law 890 = .ok (.iaload, 1) := by decide +kernel
theorem dL_law_891 : decode cL_law 891 = .ok (.aload_n 0, 1) := by decide +kernel
theorem dL_law_892 : decode cL_law 892 = .ok (.iload_n 3, 1) := by decide +kernel
theorem dL_law_893 : decode cL_law 893 = .ok (.iconst 2, 1) := by decide +kernel
theorem dL_law_894 : decode cL_law 894 = .ok (.iadd, 1) := by decide +kernel
theorem dL_law_895 : decode cL_law 895 = .ok (.iaload, 1) := by decide +kernel
theorem dL_law_896 : decode cL_law 896 = .ok (.aload_n 0, 1) := by decide +kernel
theorem dL_law_897 : decode cL_law 897 = .ok (.iload_n 3, 1) := by decide +kernel
theorem dL_law_898 : decode cL_law 898 = .ok (.iconst 3, 1) := by decide +kernel
theorem dL_law_899 : decode cL_law 899 = .ok (.iadd, 1) := by decide +kernel
theorem dL_law_900 : decode cL_law 900 = .ok (.iaload, 1) := by decide +kernel
theorem dL_law_901 : decode cL_law 901 = .ok (.invokevirtual 121, 3) := by decide +kernel
theorem dL_law_904 : decode cL_law 904 = .ok (.aload_n 2, 1) := by decide +kernel
theorem dL_law_905 : decode cL_law 905 = .ok (.aload_n 0, 1) := by decide +kernel
theorem dL_law_906 : decode cL_law 906 = .ok (.iload_n 3, 1) := by decide +kernel
theorem dL_law_907 : decode cL_law 907 = .ok (.iconst 1, 1) := by decide +kernel
theorem dL_law_908 : decode cL_law 908 = .ok (.iadd, 1) := by decide +kernel
theorem dL_law_909 : decode cL_law 909 = .ok (.iaload, 1) := by decide +kernel
theorem dL_law_910 : decode cL_law 910 = .ok (.aload_n 0, 1) := by decide +kernel
theorem dL_law_911 : decode cL_law 911 = .ok (.iload_n 3, 1) := by decide +kernel
theorem dL_law_912 : decode cL_law 912 = .ok (.iconst 2, 1) := by decide +kernel
theorem dL_law_913 : decode cL_law 913 = .ok (.iadd, 1) := by decide +kernel
theorem dL_law_914 : decode cL_law 914 = .ok (.iaload, 1) := by decide +kernel
theorem dL_law_915 : decode cL_law 915 = .ok (.aload_n 0, 1) := by decide +kernel
theorem dL_law_916 : decode cL_law 916 = .ok (.iload_n 3, 1) := by decide +kernel
theorem dL_law_917 : decode cL_law 917 = .ok (.iconst 3, 1) := by decide +kernel
theorem dL_law_918 : decode cL_law 918 = .ok (.iadd, 1) := by decide +kernel
theorem dL_law_919 : decode cL_law 919 = .ok (.iaload, 1) := by decide +kernel
theorem dL_law_920 : decode cL_law 920 = .ok (.invokevirtual 124, 3) := by decide +kernel
theorem dL_law_923 : decode cL_law 923 = .ok (.if_icmp .eq 247, 3) := by decide +kernel
theorem dL_law_926 : decode cL_law 926 = .ok (.iconst 0, 1) := by decide +kernel
theorem dL_law_927 : decode cL_law 927 = .ok (.ireturn, 1) := by decide +kernel
theorem dL_law_928 : decode cL_law 928 = .ok (.aload_n 1, 1) := by decide +kernel
theorem dL_law_929 : decode cL_law 929 = .ok (.aload_n 0, 1) := by decide +kernel
theorem dL_law_930 : decode cL_law 930 = .ok (.iload_n 3, 1) := by decide +kernel
theorem dL_law_931 : decode cL_law 931 = .ok (.iconst 1, 1) := by decide +kernel
theorem dL_law_932 : decode cL_law 932 = .ok (.iadd, 1) := by decide +kernel
theorem dL_law_933 : decode cL_law 933 = .ok (.iaload, 1) := by decide +kernel
theorem dL_law_934 : decode cL_law 934 = .ok (.invokevirtual 125, 3) := by decide +kernel
theorem dL_law_937 : decode cL_law 937 = .ok (.aload_n 2, 1) := by decide +kernel
theorem dL_law_938 : decode cL_law 938 = .ok (.aload_n 0, 1) := by decide +kernel
theorem dL_law_939 : decode cL_law 939 = .ok (.iload_n 3, 1) := by decide +kernel
theorem dL_law_940 : decode cL_law 940 = .ok (.iconst 1, 1) := by decide +kernel
theorem dL_law_941 : decode cL_law 941 = .ok (.iadd, 1) := by decide +kernel
theorem dL_law_942 : decode cL_law 942 = .ok (.iaload, 1) := by decide +kernel
theorem dL_law_943 : decode cL_law 943 = .ok (.invokevirtual 128, 3) := by decide +kernel
theorem dL_law_946 : decode cL_law 946 = .ok (.if_icmp .eq 224, 3) := by decide +kernel
theorem dL_law_949 : decode cL_law 949 = .ok (.iconst 0, 1) := by decide +kernel
theorem dL_law_950 : decode cL_law 950 = .ok (.ireturn, 1) := by decide +kernel
theorem dL_law_951 : decode cL_law 951 = .ok (.aload_n 1, 1) := by decide +kernel
theorem dL_law_952 : decode cL_law 952 = .ok (.aload_n 0, 1) := by decide +kernel
theorem dL_law_953 : decode cL_law 953 = .ok (.iload_n 3, 1) := by decide +kernel
theorem dL_law_954 : decode cL_law 954 = .ok (.iconst 1, 1) := by decide +kernel
theorem dL_law_955 : decode cL_law 955 = .ok (.iadd, 1) := by decide +kernel
theorem dL_law_956 : decode cL_law 956 = .ok (.iaload, 1) := by decide +kernel
theorem dL_law_957 : decode cL_law 957 = .ok (.aload_n 0, 1) := by decide +kernel
theorem dL_law_958 : decode cL_law 958 = .ok (.iload_n 3, 1) := by decide +kernel
theorem dL_law_959 : decode cL_law 959 = .ok (.iconst 2, 1) := by decide +kernel
theorem dL_law_960 : decode cL_law 960 = .ok (.iadd, 1) := by decide +kernel
theorem dL_law_961 : decode cL_law 961 = .ok (.iaload, 1) := by decide +kernel
theorem dL_law_962 : decode cL_law 962 = .ok (.aload_n 0, 1) := by decide +kernel
theorem dL_law_963 : decode cL_law 963 = .ok (.iload_n 3, 1) := by decide +kernel
theorem dL_law_964 : decode cL_law 964 = .ok (.iconst 3, 1) := by decide +kernel
theorem dL_law_965 : decode cL_law 965 = .ok (.iadd, 1) := by decide +kernel
theorem dL_law_966 : decode cL_law 966 = .ok (.iaload, 1) := by decide +kernel
theorem dL_law_967 : decode cL_law 967 = .ok (.aload_n 0, 1) := by decide +kernel
theorem dL_law_968 : decode cL_law 968 = .ok (.iload_n 3, 1) := by decide +kernel
theorem dL_law_969 : decode cL_law 969 = .ok (.iconst 4, 1) := by decide +kernel
theorem dL_law_970 : decode cL_law 970 = .ok (.iadd, 1) := by decide +kernel
theorem dL_law_971 : decode cL_law 971 = .ok (.iaload, 1) := by decide +kernel
theorem dL_law_972 : decode cL_law 972 = .ok (.invokevirtual 129, 3) := by decide +kernel
theorem dL_law_975 : decode cL_law 975 = .ok (.aload_n 2, 1) := by decide +kernel
theorem dL_law_976 : decode cL_law 976 = .ok (.aload_n 0, 1) := by decide +kernel
theorem dL_law_977 : decode cL_law 977 = .ok (.iload_n 3, 1) := by decide +kernel
theorem dL_law_978 : decode cL_law 978 = .ok (.iconst 1, 1) := by decide +kernel
theorem dL_law_979 : decode cL_law 979 = .ok (.iadd, 1) := by decide +kernel
theorem dL_law_980 : decode cL_law 980 = .ok (.iaload, 1) := by decide +kernel
theorem dL_law_981 : decode cL_law 981 = .ok (.aload_n 0, 1) := by decide +kernel
theorem dL_law_982 : decode cL_law 982 = .ok (.iload_n 3, 1) := by decide +kernel
theorem dL_law_983 : decode cL_law 983 = .ok (.iconst 2, 1) := by decide +kernel
theorem dL_law_984 : decode cL_law 984 = .ok (.iadd, 1) := by decide +kernel
theorem dL_law_985 : decode cL_law 985 = .ok (.iaload, 1) := by decide +kernel
theorem dL_law_986 : decode cL_law 986 = .ok (.aload_n 0, 1) := by decide +kernel
theorem dL_law_987 : decode cL_law 987 = .ok (.iload_n 3, 1) := by decide +kernel
theorem dL_law_988 : decode cL_law 988 = .ok (.iconst 3, 1) := by decide +kernel
theorem dL_law_989 : decode cL_law 989 = .ok (.iadd, 1) := by decide +kernel
theorem dL_law_990 : decode cL_law 990 = .ok (.iaload, 1) := by decide +kernel
theorem dL_law_991 : decode cL_law 991 = .ok (.aload_n 0, 1) := by decide +kernel
theorem dL_law_992 : decode cL_law 992 = .ok (.iload_n 3, 1) := by decide +kernel
theorem dL_law_993 : decode cL_law 993 = .ok (.iconst 4, 1) := by decide +kernel
theorem dL_law_994 : decode cL_law 994 = .ok (.iadd, 1) := by decide +kernel
theorem dL_law_995 : decode cL_law 995 = .ok (.iaload, 1) := by decide +kernel
theorem dL_law_996 : decode cL_law 996 = .ok (.invokevirtual 133, 3) := by decide +kernel
theorem dL_law_999 : decode cL_law 999 = .ok (.if_icmp .eq 171, 3) := by decide +kernel
theorem dL_law_1002 : decode cL_law 1002 = .ok (.iconst 0, 1) := by decide +kernel
theorem dL_law_1003 : decode cL_law 1003 = .ok (.ireturn, 1) := by decide +kernel
theorem dL_law_1004 : decode cL_law 1004 = .ok (.aload_n 1, 1) := by decide +kernel
theorem dL_law_1005 : decode cL_law 1005 = .ok (.aload_n 0, 1) := by decide +kernel
theorem dL_law_1006 : decode cL_law 1006 = .ok (.iload_n 3, 1) := by decide +kernel
theorem dL_law_1007 : decode cL_law 1007 = .ok (.iconst 1, 1) := by decide +kernel
theorem dL_law_1008 : decode cL_law 1008 = .ok (.iadd, 1) := by decide +kernel
theorem dL_law_1009 : decode cL_law 1009 = .ok (.iaload, 1) := by decide +kernel
theorem dL_law_1010 : decode cL_law 1010 = .ok (.aload_n 0, 1) := by decide +kernel
theorem dL_law_1011 : decode cL_law 1011 = .ok (.iload_n 3, 1) := by decide +kernel
theorem dL_law_1012 : decode cL_law 1012 = .ok (.iconst 2, 1) := by decide +kernel
theorem dL_law_1013 : decode cL_law 1013 = .ok (.iadd, 1) := by decide +kernel
theorem dL_law_1014 : decode cL_law 1014 = .ok (.iaload, 1) := by decide +kernel
theorem dL_law_1015 : decode cL_law 1015 = .ok (.aload_n 0, 1) := by decide +kernel
theorem dL_law_1016 : decode cL_law 1016 = .ok (.iload_n 3, 1) := by decide +kernel
theorem dL_law_1017 : decode cL_law 1017 = .ok (.iconst 3, 1) := by decide +kernel
theorem dL_law_1018 : decode cL_law 1018 = .ok (.iadd, 1) := by decide +kernel
theorem dL_law_1019 : decode cL_law 1019 = .ok (.iaload, 1) := by decide +kernel
theorem dL_law_1020 : decode cL_law 1020 = .ok (.invokevirtual 134, 3) := by decide +kernel
theorem dL_law_1023 : decode cL_law 1023 = .ok (.aload_n 2, 1) := by decide +kernel
theorem dL_law_1024 : decode cL_law 1024 = .ok (.aload_n 0, 1) := by decide +kernel
theorem dL_law_1025 : decode cL_law 1025 = .ok (.iload_n 3, 1) := by decide +kernel
theorem dL_law_1026 : decode cL_law 1026 = .ok (.iconst 1, 1) := by decide +kernel
theorem dL_law_1027 : decode cL_law 1027 = .ok (.iadd, 1) := by decide +kernel
theorem dL_law_1028 : decode cL_law 1028 = .ok (.iaload, 1) := by decide +kernel
theorem dL_law_1029 : decode cL_law 1029 = .ok (.aload_n 0, 1) := by decide +kernel
theorem dL_law_1030 : decode cL_law 1030 = .ok (.iload_n 3, 1) := by decide +kernel
theorem dL_law_1031 : decode cL_law 1031 = .ok (.iconst 2, 1) := by decide +kernel
theorem dL_law_1032 : decode cL_law 1032 = .ok (.iadd, 1) := by decide +kernel
theorem dL_law_1033 : decode cL_law 1033 = .ok (.iaload, 1) := by decide +kernel
theorem dL_law_1034 : decode cL_law 1034 = .ok (.aload_n 0, 1) := by decide +kernel
theorem dL_law_1035 : decode cL_law 1035 = .ok (.iload_n 3, 1) := by decide +kernel
theorem dL_law_1036 : decode cL_law 1036 = .ok (.iconst 3, 1) := by decide +kernel
theorem dL_law_1037 : decode cL_law 1037 = .ok (.iadd, 1) := by decide +kernel
theorem dL_law_1038 : decode cL_law 1038 = .ok (.iaload, 1) := by decide +kernel
theorem dL_law_1039 : decode cL_law 1039 = .ok (.invokevirtual 137, 3) := by decide +kernel
theorem dL_law_1042 : decode cL_law 1042 = .ok (.if_icmp .eq 128, 3) := by decide +kernel
theorem dL_law_1045 : decode cL_law 1045 = .ok (.iconst 0, 1) := by decide +kernel
theorem dL_law_1046 : decode cL_law 1046 = .ok (.ireturn, 1) := by decide +kernel
theorem dL_law_1047 : decode cL_law 1047 = .ok (.aload_n 1, 1) := by decide +kernel
theorem dL_law_1048 : decode cL_law 1048 = .ok (.aload_n 0, 1) := by decide +kernel
theorem dL_law_1049 : decode cL_law 1049 = .ok (.iload_n 3, 1) := by decide +kernel
theorem dL_law_1050 : decode cL_law 1050 = .ok (.iconst 1, 1) := by decide +kernel
theorem dL_law_1051 : decode cL_law 1051 = .ok (.iadd, 1) := by decide +kernel
theorem dL_law_1052 : decode cL_law 1052 = .ok (.iaload, 1) := by decide +kernel
theorem dL_law_1053 : decode cL_law 1053 = .ok (.aload_n 0, 1) := by decide +kernel
theorem dL_law_1054 : decode cL_law 1054 = .ok (.iload_n 3, 1) := by decide +kernel
theorem dL_law_1055 : decode cL_law 1055 = .ok (.iconst 2, 1) := by decide +kernel
theorem dL_law_1056 : decode cL_law 1056 = .ok (.iadd, 1) := by decide +kernel
theorem dL_law_1057 : decode cL_law 1057 = .ok (.iaload, 1) := by decide +kernel
theorem dL_law_1058 : decode cL_law 1058 = .ok (.aload_n 0, 1) := by decide +kernel
theorem dL_law_1059 : decode cL_law 1059 = .ok (.iload_n 3, 1) := by decide +kernel
theorem dL_law_1060 : decode cL_law 1060 = .ok (.iconst 3, 1) := by decide +kernel
theorem dL_law_1061 : decode cL_law 1061 = .ok (.iadd, 1) := by decide +kernel
theorem dL_law_1062 : decode cL_law 1062 = .ok (.iaload, 1) := by decide +kernel
theorem dL_law_1063 : decode cL_law 1063 = .ok (.aload_n 0, 1) := by decide +kernel
theorem dL_law_1064 : decode cL_law 1064 = .ok (.iload_n 3, 1) := by decide +kernel
theorem dL_law_1065 : decode cL_law 1065 = .ok (.iconst 4, 1) := by decide +kernel
theorem dL_law_1066 : decode cL_law 1066 = .ok (.iadd, 1) := by decide +kernel
theorem dL_law_1067 : decode cL_law 1067 = .ok (.iaload, 1) := by decide +kernel
theorem dL_law_1068 : decode cL_law 1068 = .ok (.aload_n 0, 1) := by decide +kernel
theorem dL_law_1069 : decode cL_law 1069 = .ok (.iload_n 3, 1) := by decide +kernel
theorem dL_law_1070 : decode cL_law 1070 = .ok (.iconst 5, 1) := by decide +kernel
theorem dL_law_1071 : decode cL_law 1071 = .ok (.iadd, 1) := by decide +kernel
theorem dL_law_1072 : decode cL_law 1072 = .ok (.iaload, 1) := by decide +kernel
theorem dL_law_1073 : decode cL_law 1073 = .ok (.invokevirtual 138, 3) := by decide +kernel
theorem dL_law_1076 : decode cL_law 1076 = .ok (.aload_n 2, 1) := by decide +kernel
theorem dL_law_1077 : decode cL_law 1077 = .ok (.aload_n 0, 1) := by decide +kernel
theorem dL_law_1078 : decode cL_law 1078 = .ok (.iload_n 3, 1) := by decide +kernel
theorem dL_law_1079 : decode cL_law 1079 = .ok (.iconst 1, 1) := by decide +kernel
theorem dL_law_1080 : decode cL_law 1080 = .ok (.iadd, 1) := by decide +kernel
theorem dL_law_1081 : decode cL_law 1081 = .ok (.iaload, 1) := by decide +kernel
theorem dL_law_1082 : decode cL_law 1082 = .ok (.aload_n 0, 1) := by decide +kernel
theorem dL_law_1083 : decode cL_law 1083 = .ok (.iload_n 3, 1) := by decide +kernel
theorem dL_law_1084 : decode cL_law 1084 = .ok (.iconst 2, 1) := by decide +kernel
theorem dL_law_1085 : decode cL_law 1085 = .ok (.iadd, 1) := by decide +kernel
theorem dL_law_1086 : decode cL_law 1086 = .ok (.iaload, 1) := by decide +kernel
theorem dL_law_1087 : decode cL_law 1087 = .ok (.aload_n 0, 1) := by decide +kernel
theorem dL_law_1088 : decode cL_law 1088 = .ok (.iload_n 3, 1) := by decide +kernel
theorem dL_law_1089 : decode cL_law 1089 = .ok (.iconst 3, 1) := by decide +kernel
theorem dL_law_1090 : decode cL_law 1090 = .ok (.iadd, 1) := by decide +kernel
theorem dL_law_1091 : decode cL_law 1091 = .ok (.iaload, 1) := by decide +kernel
theorem dL_law_1092 : decode cL_law 1092 = .ok (.aload_n 0, 1) := by decide +kernel
theorem dL_law_1093 : decode cL_law 1093 = .ok (.iload_n 3, 1) := by decide +kernel
theorem dL_law_1094 : decode cL_law 1094 = .ok (.iconst 4, 1) := by decide +kernel
theorem dL_law_1095 : decode cL_law 1095 = .ok (.iadd, 1) := by decide +kernel
theorem dL_law_1096 : decode cL_law 1096 = .ok (.iaload, 1) := by decide +kernel
theorem dL_law_1097 : decode cL_law 1097 = .ok (.aload_n 0, 1) := by decide +kernel
theorem dL_law_1098 : decode cL_law 1098 = .ok (.iload_n 3, 1) := by decide +kernel
theorem dL_law_1099 : decode cL_law 1099 = .ok (.iconst 5, 1) := by decide +kernel
theorem dL_law_1100 : decode cL_law 1100 = .ok (.iadd, 1) := by decide +kernel
theorem dL_law_1101 : decode cL_law 1101 = .ok (.iaload, 1) := by decide +kernel
theorem dL_law_1102 : decode cL_law 1102 = .ok (.invokevirtual 142, 3) := by decide +kernel
theorem dL_law_1105 : decode cL_law 1105 = .ok (.if_icmp .eq 65, 3) := by decide +kernel
theorem dL_law_1108 : decode cL_law 1108 = .ok (.iconst 0, 1) := by decide +kernel
theorem dL_law_1109 : decode cL_law 1109 = .ok (.ireturn, 1) := by decide +kernel
theorem dL_law_1110 : decode cL_law 1110 = .ok (.aload_n 1, 1) := by decide +kernel
theorem dL_law_1111 : decode cL_law 1111 = .ok (.aload_n 0, 1) := by decide +kernel
theorem dL_law_1112 : decode cL_law 1112 = .ok (.iload_n 3, 1) := by decide +kernel
theorem dL_law_1113 : decode cL_law 1113 = .ok (.iconst 1, 1) := by decide +kernel
theorem dL_law_1114 : decode cL_law 1114 = .ok (.iadd, 1) := by decide +kernel
theorem dL_law_1115 : decode cL_law 1115 = .ok (.iaload, 1) := by decide +kernel
theorem dL_law_1116 : decode cL_law 1116 = .ok (.invokevirtual 143, 3) := by decide +kernel
theorem dL_law_1119 : decode cL_law 1119 = .ok (.aload_n 2, 1) := by decide +kernel
theorem dL_law_1120 : decode cL_law 1120 = .ok (.aload_n 0, 1) := by decide +kernel
theorem dL_law_1121 : decode cL_law 1121 = .ok (.iload_n 3, 1) := by decide +kernel
theorem dL_law_1122 : decode cL_law 1122 = .ok (.iconst 1, 1) := by decide +kernel
theorem dL_law_1123 : decode cL_law 1123 = .ok (.iadd, 1) := by decide +kernel
theorem dL_law_1124 : decode cL_law 1124 = .ok (.iaload, 1) := by decide +kernel
theorem dL_law_1125 : decode cL_law 1125 = .ok (.invokevirtual 146, 3) := by decide +kernel
theorem dL_law_1128 : decode cL_law 1128 = .ok (.if_icmp .eq 42, 3) := by decide +kernel
theorem dL_law_1131 : decode cL_law 1131 = .ok (.iconst 0, 1) := by decide +kernel
theorem dL_law_1132 : decode cL_law 1132 = .ok (.ireturn, 1) := by decide +kernel
theorem dL_law_1133 : decode cL_law 1133 = .ok (.aload_n 1, 1) := by decide +kernel
theorem dL_law_1134 : decode cL_law 1134 = .ok (.aload_n 0, 1) := by decide +kernel
theorem dL_law_1135 : decode cL_law 1135 = .ok (.iload_n 3, 1) := by decide +kernel
theorem dL_law_1136 : decode cL_law 1136 = .ok (.iconst 1, 1) := by decide +kernel
theorem dL_law_1137 : decode cL_law 1137 = .ok (.iadd, 1) := by decide +kernel
theorem dL_law_1138 : decode cL_law 1138 = .ok (.iaload, 1) := by decide +kernel
theorem dL_law_1139 : decode cL_law 1139 = .ok (.invokevirtual 147, 3) := by decide +kernel
theorem dL_law_1142 : decode cL_law 1142 = .ok (.aload_n 2, 1) := by decide +kernel
theorem dL_law_1143 : decode cL_law 1143 = .ok (.aload_n 0, 1) := by decide +kernel
theorem dL_law_1144 : decode cL_law 1144 = .ok (.iload_n 3, 1) := by decide +kernel
theorem dL_law_1145 : decode cL_law 1145 = .ok (.iconst 1, 1) := by decide +kernel
theorem dL_law_1146 : decode cL_law 1146 = .ok (.iadd, 1) := by decide +kernel
theorem dL_law_1147 : decode cL_law 1147 = .ok (.iaload, 1) := by decide +kernel
theorem dL_law_1148 : decode cL_law 1148 = .ok (.invokevirtual 150, 3) := by decide +kernel
theorem dL_law_1151 : decode cL_law 1151 = .ok (.if_icmp .eq 19, 3) := by decide +kernel
theorem dL_law_1154 : decode cL_law 1154 = .ok (.iconst 0, 1) := by decide +kernel
theorem dL_law_1155 : decode cL_law 1155 = .ok (.ireturn, 1) := by decide +kernel
theorem dL_law_1156 : decode cL_law 1156 = .ok (.aload_n 1, 1) := by decide +kernel
theorem dL_law_1157 : decode cL_law 1157 = .ok (.invokevirtual 151, 3) := by decide +kernel
theorem dL_law_1160 : decode cL_law 1160 = .ok (.aload_n 2, 1) := by decide +kernel
theorem dL_law_1161 : decode cL_law 1161 = .ok (.invokevirtual 155, 3) := by decide +kernel
theorem dL_law_1164 : decode cL_law 1164 = .ok (.lcmp, 1) := by decide +kernel
theorem dL_law_1165 : decode cL_law 1165 = .ok (.ifCond .eq 5, 3) := by decide +kernel
theorem dL_law_1168 : decode cL_law 1168 = .ok (.iconst 0, 1) := by decide +kernel
theorem dL_law_1169 : decode cL_law 1169 = .ok (.ireturn, 1) := by decide +kernel
theorem dL_law_1170 : decode cL_law 1170 = .ok (.iinc 3 6, 3) := by decide +kernel
theorem dL_law_1173 : decode cL_law 1173 = .ok (.goto (-1155), 3) := by decide +kernel
theorem dL_law_1176 : decode cL_law 1176 = .ok (.iconst 1, 1) := by decide +kernel
theorem dL_law_1177 : decode cL_law 1177 = .ok (.ireturn, 1) := by decide +kernel
end
section
theorem dX8_init_0 : decode cX8_init 0 = .ok (.aload_n 0, 1) := by decide +kernel
theorem dX8_init_1 : decode cX8_init 1 = .ok (.invokespecial 1, 3) := by decide +kernel
theorem dX8_init_4 : decode cX8_init 4 = .ok (.aload_n 0, 1) := by decide +kernel
theorem dX8_init_5 : decode cX8_init 5 = .ok (.bipush 8, 2) := by decide +kernel
theorem dX8_init_7 : decode cX8_init 7 = .ok (.newarray .int, 2) := by decide +kernel
theorem dX8_init_9 : decode cX8_init 9 = .ok (.putfield 7, 3) := by decide +kernel
theorem dX8_init_12 : decode cX8_init 12 = .ok (.aload_n 0, 1) := by decide +kernel
theorem dX8_init_13 : decode cX8_init 13 = .ok (.bipush 8, 2) := by decide +kernel
theorem dX8_init_15 : decode cX8_init 15 = .ok (.newarray .int, 2) := by decide +kernel
theorem dX8_init_17 : decode cX8_init 17 = .ok (.putfield 13, 3) := by decide +kernel
theorem dX8_init_20 : decode cX8_init 20 = .ok (.aload_n 0, 1) := by decide +kernel
theorem dX8_init_21 : decode cX8_init 21 = .ok (.bipush 8, 2) := by decide +kernel
theorem dX8_init_23 : decode cX8_init 23 = .ok (.newarray .int, 2) := by decide +kernel
theorem dX8_init_25 : decode cX8_init 25 = .ok (.putfield 16, 3) := by decide +kernel
theorem dX8_init_28 : decode cX8_init 28 = .ok (.aload_n 0, 1) := by decide +kernel
theorem dX8_init_29 : decode cX8_init 29 = .ok (.bipush 8, 2) := by decide +kernel
theorem dX8_init_31 : decode cX8_init 31 = .ok (.newarray .int, 2) := by decide +kernel
theorem dX8_init_33 : decode cX8_init 33 = .ok (.putfield 19, 3) := by decide +kernel
theorem dX8_init_36 : decode cX8_init 36 = .ok (.aload_n 0, 1) := by decide +kernel
theorem dX8_init_37 : decode cX8_init 37 = .ok (.bipush 8, 2) := by decide +kernel
theorem dX8_init_39 : decode cX8_init 39 = .ok (.newarray .int, 2) := by decide +kernel
theorem dX8_init_41 : decode cX8_init 41 = .ok (.putfield 22, 3) := by decide +kernel
theorem dX8_init_44 : decode cX8_init 44 = .ok (.aload_n 0, 1) := by decide +kernel
theorem dX8_init_45 : decode cX8_init 45 = .ok (.bipush 8, 2) := by decide +kernel
theorem dX8_init_47 : decode cX8_init 47 = .ok (.newarray .int, 2) := by decide +kernel
theorem dX8_init_49 : decode cX8_init 49 = .ok (.putfield 25, 3) := by decide +kernel
theorem dX8_init_52 : decode cX8_init 52 = .ok (.aload_n 0, 1) := by decide +kernel
theorem dX8_init_53 : decode cX8_init 53 = .ok (.bipush 8, 2) := by decide +kernel
theorem dX8_init_55 : decode cX8_init 55 = .ok (.newarray .int, 2) := by decide +kernel
theorem dX8_init_57 : decode cX8_init 57 = .ok (.putfield 28, 3) := by decide +kernel
theorem dX8_init_60 : decode cX8_init 60 = .ok (.aload_n 0, 1) := by decide +kernel
theorem dX8_init_61 : decode cX8_init 61 = .ok (.bipush 8, 2) := by decide +kernel
theorem dX8_init_63 : decode cX8_init 63 = .ok (.newarray .int, 2) := by decide +kernel
theorem dX8_init_65 : decode cX8_init 65 = .ok (.putfield 31, 3) := by decide +kernel
theorem dX8_init_68 : decode cX8_init 68 = .ok (.aload_n 0, 1) := by decide +kernel
theorem dX8_init_69 : decode cX8_init 69 = .ok (.bipush 40, 2) := by decide +kernel
theorem dX8_init_71 : decode cX8_init 71 = .ok (.newarray .int, 2) := by decide +kernel
theorem dX8_init_73 : decode cX8_init 73 = .ok (.putfield 34, 3) := by decide +kernel
theorem dX8_init_76 : decode cX8_init 76 = .ok (.aload_n 0, 1) := by decide +kernel
theorem dX8_init_77 : decode cX8_init 77 = .ok (.bipush 40, 2) := by decide +kernel
theorem dX8_init_79 : decode cX8_init 79 = .ok (.newarray .int, 2) := by decide +kernel
theorem dX8_init_81 : decode cX8_init 81 = .ok (.putfield 37, 3) := by decide +kernel
theorem dX8_init_84 : decode cX8_init 84 = .ok (.aload_n 0, 1) := by decide +kernel
theorem dX8_init_85 : decode cX8_init 85 = .ok (.bipush 40, 2) := by decide +kernel
theorem dX8_init_87 : decode cX8_init 87 = .ok (.newarray .int, 2) := by decide +kernel
theorem dX8_init_89 : decode cX8_init 89 = .ok (.putfield 40, 3) := by decide +kernel
theorem dX8_init_92 : decode cX8_init 92 = .ok (.aload_n 0, 1) := by decide +kernel
theorem dX8_init_93 : decode cX8_init 93 = .ok (.bipush 40, 2) := by decide +kernel
theorem dX8_init_95 : decode cX8_init 95 = .ok (.newarray .boolean, 2) := by decide +kernel
theorem dX8_init_97 : decode cX8_init 97 = .ok (.putfield 43, 3) := by decide +kernel
theorem dX8_init_100 : decode cX8_init 100 = .ok (.aload_n 0, 1) := by decide +kernel
theorem dX8_init_101 : decode cX8_init 101 = .ok (.bipush 8, 2) := by decide +kernel
theorem dX8_init_103 : decode cX8_init 103 = .ok (.newarray .int, 2) := by decide +kernel
theorem dX8_init_105 : decode cX8_init 105 = .ok (.putfield 47, 3) := by decide +kernel
theorem dX8_init_108 : decode cX8_init 108 = .ok (.aload_n 0, 1) := by decide +kernel
theorem dX8_init_109 : decode cX8_init 109 = .ok (.bipush 8, 2) := by decide +kernel
theorem dX8_init_111 : decode cX8_init 111 = .ok (.newarray .int, 2) := by decide +kernel
theorem dX8_init_113 : decode cX8_init 113 = .ok (.putfield 50, 3) := by decide +kernel
theorem dX8_init_116 : decode cX8_init 116 = .ok (.aload_n 0, 1) := by decide +kernel
theorem dX8_init_117 : decode cX8_init 117 = .ok (.bipush 8, 2) := by decide +kernel
theorem dX8_init_119 : decode cX8_init 119 = .ok (.newarray .int, 2) := by decide +kernel
theorem dX8_init_121 : decode cX8_init 121 = .ok (.putfield 53, 3) := by decide +kernel
theorem dX8_init_124 : decode cX8_init 124 = .ok (.aload_n 0, 1) := by decide +kernel
theorem dX8_init_125 : decode cX8_init 125 = .ok (.bipush 8, 2) := by decide +kernel
theorem dX8_init_127 : decode cX8_init 127 = .ok (.newarray .int, 2) := by decide +kernel
theorem dX8_init_129 : decode cX8_init 129 = .ok (.putfield 56, 3) := by decide +kernel
theorem dX8_init_132 : decode cX8_init 132 = .ok (.aload_n 0, 1) := by decide +kernel
theorem dX8_init_133 : decode cX8_init 133 = .ok (.sipush 6591, 3) := by decide +kernel
theorem dX8_init_136 : decode cX8_init 136 = .ok (.newarray .int, 2) := by decide +kernel
theorem dX8_init_138 : decode cX8_init 138 = .ok (.putfield 59, 3) := by decide +kernel
theorem dX8_init_141 : decode cX8_init 141 = .ok (.aload_n 0, 1) := by decide +kernel
theorem dX8_init_142 : decode cX8_init 142 = .ok (.sipush 2197, 3) := by decide +kernel
theorem dX8_init_145 : decode cX8_init 145 = .ok (.newarray .int, 2) := by decide +kernel
theorem dX8_init_147 : decode cX8_init 147 = .ok (.putfield 62, 3) := by decide +kernel
theorem dX8_init_150 : decode cX8_init 150 = .ok (.aload_n 0, 1) := by decide +kernel
theorem dX8_init_151 : decode cX8_init 151 = .ok (.iconst 3, 1) := by decide +kernel
theorem dX8_init_152 : decode cX8_init 152 = .ok (.newarray .int, 2) := by decide +kernel
theorem dX8_init_154 : decode cX8_init 154 = .ok (.putfield 65, 3) := by decide +kernel
theorem dX8_init_157 : decode cX8_init 157 = .ok (.aload_n 0, 1) := by decide +kernel
theorem dX8_init_158 : decode cX8_init 158 = .ok (.sipush 488, 3) := by decide +kernel
theorem dX8_init_161 : decode cX8_init 161 = .ok (.newarray .int, 2) := by decide +kernel
theorem dX8_init_163 : decode cX8_init 163 = .ok (.putfield 68, 3) := by decide +kernel
theorem dX8_init_166 : decode cX8_init 166 = .ok (.aload_n 0, 1) := by decide +kernel
theorem dX8_init_167 : decode cX8_init 167 = .ok (.bipush 61, 2) := by decide +kernel
theorem dX8_init_169 : decode cX8_init 169 = .ok (.newarray .int, 2) := by decide +kernel
theorem dX8_init_171 : decode cX8_init 171 = .ok (.putfield 71, 3) := by decide +kernel
theorem dX8_init_174 : decode cX8_init 174 = .ok (.aload_n 0, 1) := by decide +kernel
theorem dX8_init_175 : decode cX8_init 175 = .ok (.bipush 8, 2) := by decide +kernel
theorem dX8_init_177 : decode cX8_init 177 = .ok (.newarray .int, 2) := by decide +kernel
theorem dX8_init_179 : decode cX8_init 179 = .ok (.putfield 74, 3) := by decide +kernel
theorem dX8_init_182 : decode cX8_init 182 = .ok (.aload_n 0, 1) := by decide +kernel
theorem dX8_init_183 : decode cX8_init 183 = .ok (.bipush 8, 2) := by decide +kernel
theorem dX8_init_185 : decode cX8_init 185 = .ok (.newarray .int, 2) := by decide +kernel
theorem dX8_init_187 : decode cX8_init 187 = .ok (.putfield 77, 3) := by decide +kernel
theorem dX8_init_190 : decode cX8_init 190 = .ok (.aload_n 0, 1) := by decide +kernel
theorem dX8_init_191 : decode cX8_init 191 = .ok (.iconst 4, 1) := by decide +kernel
theorem dX8_init_192 : decode cX8_init 192 = .ok (.newarray .boolean, 2) := by decide +kernel
theorem dX8_init_194 : decode cX8_init 194 = .ok (.putfield 80, 3) := by decide +kernel
theorem dX8_init_197 : decode cX8_init 197 = .ok (.aload_n 0, 1) := by decide +kernel
theorem dX8_init_198 : decode cX8_init 198 = .ok (.iconst 4, 1) := by decide +kernel
theorem dX8_init_199 : decode cX8_init 199 = .ok (.newarray .int, 2) := by decide +kernel
theorem dX8_init_201 : decode cX8_init 201 = .ok (.putfield 83, 3) := by decide +kernel
theorem dX8_init_204 : decode cX8_init 204 = .ok (.aload_n 0, 1) := by decide +kernel
theorem dX8_init_205 : decode cX8_init 205 = .ok (.iconst 4, 1) := by decide +kernel
theorem dX8_init_206 : decode cX8_init 206 = .ok (.newarray .int, 2) := by decide +kernel
theorem dX8_init_208 : decode cX8_init 208 = .ok (.putfield 86, 3) := by decide +kernel
theorem dX8_init_211 : decode cX8_init 211 = .ok (.aload_n 0, 1) := by decide +kernel
theorem dX8_init_212 : decode cX8_init 212 = .ok (.sipush 256, 3) := by decide +kernel
theorem dX8_init_215 : decode cX8_init 215 = .ok (.newarray .int, 2) := by decide +kernel
theorem dX8_init_217 : decode cX8_init 217 = .ok (.putfield 89, 3) := by decide +kernel
theorem dX8_init_220 : decode cX8_init 220 = .ok (.aload_n 0, 1) := by decide +kernel
theorem dX8_init_221 : decode cX8_init 221 = .ok (.bipush 64, 2) := by decide +kernel
theorem dX8_init_223 : decode cX8_init 223 = .ok (.newarray .int, 2) := by decide +kernel
theorem dX8_init_225 : decode cX8_init 225 = .ok (.putfield 92, 3) := by decide +kernel
theorem dX8_init_228 : decode cX8_init 228 = .ok (.return_, 1) := by decide +kernel
theorem dX8_in_0 : decode cX8_in 0 = .ok (.iload_n 0, 1) := by decide +kernel
theorem dX8_in_1 : decode cX8_in 1 = .ok (.iload_n 1, 1) := by decide +kernel
theorem dX8_in_2 : decode cX8_in 2 = .ok (.if_icmp .lt 12, 3) := by decide +kernel
theorem dX8_in_5 : decode cX8_in 5 = .ok (.iload_n 0, 1) := by decide +kernel
theorem dX8_in_6 : decode cX8_in 6 = .ok (.iload_n 2, 1) := by decide +kernel
theorem dX8_in_7 : decode cX8_in 7 = .ok (.if_icmp .gt 7, 3) := by decide +kernel
theorem dX8_in_10 : decode cX8_in 10 = .ok (.iconst 1, 1) := by decide +kernel
theorem dX8_in_11 : decode cX8_in 11 = .ok (.goto 4, 3) := by decide +kernel
theorem dX8_in_14 : decode cX8_in 14 = .ok (.iconst 0, 1) := by decide +kernel
theorem dX8_in_15 : decode cX8_in 15 = .ok (.ireturn, 1) := by decide +kernel
theorem dX8_ones_0 : decode cX8_ones 0 = .ok (.iconst 0, 1) := by decide +kernel
theorem dX8_ones_1 : decode cX8_ones 1 = .ok (.istore_n 1, 1) := by decide +kernel
theorem dX8_ones_2 : decode cX8_ones 2 = .ok (.iconst 0, 1) := by decide +kernel
theorem dX8_ones_3 : decode cX8_ones 3 = .ok (.istore_n 2, 1) := by decide +kernel
theorem dX8_ones_4 : decode cX8_ones 4 = .ok (.iload_n 2, 1) := by decide +kernel
theorem dX8_ones_5 : decode cX8_ones 5 = .ok (.bipush 8, 2) := by decide +kernel
theorem dX8_ones_7 : decode cX8_ones 7 = .ok (.if_icmp .ge 17, 3) := by decide +kernel
theorem dX8_ones_10 : decode cX8_ones 10 = .ok (.iload_n 1, 1) := by decide +kernel
theorem dX8_ones_11 : decode cX8_ones 11 = .ok (.iload_n 0, 1) := by decide +kernel
theorem dX8_ones_12 : decode cX8_ones 12 = .ok (.iload_n 2, 1) := by decide +kernel
theorem dX8_ones_13 : decode cX8_ones 13 = .ok (.ishr, 1) := by decide +kernel
theorem dX8_ones_14 : decode cX8_ones 14 = .ok (.iconst 1, 1) := by decide +kernel
theorem dX8_ones_15 : decode cX8_ones 15 = .ok (.iand, 1) := by decide +kernel
theorem dX8_ones_16 : decode cX8_ones 16 = .ok (.iadd, 1) := by decide +kernel
theorem dX8_ones_17 : decode cX8_ones 17 = .ok (.istore_n 1, 1) := by decide +kernel
theorem dX8_ones_18 : decode cX8_ones 18 = .ok (.iinc 2 1, 3) := by decide +kernel
theorem dX8_ones_21 : decode cX8_ones 21 = .ok (.goto (-17), 3) := by decide +kernel
theorem dX8_ones_24 : decode cX8_ones 24 = .ok (.iload_n 1, 1) := by decide +kernel
theorem dX8_ones_25 : decode cX8_ones 25 = .ok (.ireturn, 1) := by decide +kernel
theorem dX8_amount_0 : decode cX8_amount 0 = .ok (.iload_n 0, 1) := by decide +kernel
theorem dX8_amount_1 : decode cX8_amount 1 = .ok (.ifCond .ge 8, 3) := by decide +kernel
theorem dX8_amount_4 : decode cX8_amount 4 = .ok (.iload_n 0, 1) := by decide +kernel
theorem dX8_amount_5 : decode cX8_amount 5 = .ok (.ineg, 1) := by decide +kernel
theorem dX8_amount_6 : decode cX8_amount 6 = .ok (.goto 4, 3) := by decide +kernel
theorem dX8_amount_9 : decode cX8_amount 9 = .ok (.iload_n 0, 1) := by decide +kernel
theorem dX8_amount_10 : decode cX8_amount 10 = .ok (.ireturn, 1) := by decide +kernel
theorem dX8_lowest_0 : decode cX8_lowest 0 = .ok (.lload_n 0, 1) := by decide +kernel
theorem dX8_lowest_1 : decode cX8_lowest 1 = .ok (.lconst 0, 1) := by decide +kernel
theorem dX8_lowest_2 : decode cX8_lowest 2 = .ok (.lcmp, 1) := by decide +kernel
theorem dX8_lowest_3 : decode cX8_lowest 3 = .ok (.ifCond .ge 8, 3) := by decide +kernel
theorem dX8_lowest_6 : decode cX8_lowest 6 = .ok (.lload_n 0, 1) := by decide +kernel
theorem dX8_lowest_7 : decode cX8_lowest 7 = .ok (.lneg, 1) := by decide +kernel
theorem dX8_lowest_8 : decode cX8_lowest 8 = .ok (.goto 4, 3) := by decide +kernel
theorem dX8_lowest_11 : decode cX8_lowest 11 = .ok (.lload_n 0, 1) := by decide +kernel
theorem dX8_lowest_12 : decode cX8_lowest 12 = .ok (.lstore 5, 2) := by decide +kernel
theorem dX8_lowest_14 : decode cX8_lowest 14 = .ok (.lload_n 2, 1) := by decide +kernel
theorem dX8_lowest_15 : decode cX8_lowest 15 = .ok (.lstore 7, 2) := by decide +kernel
theorem dX8_lowest_17 : decode cX8_lowest 17 = .ok (.lload 7, 2) := by decide +kernel
theorem dX8_lowest_19 : decode cX8_lowest 19 = .ok (.lconst 0, 1) := by decide +kernel
theorem dX8_lowest_20 : decode cX8_lowest 20 = .ok (.lcmp, 1) := by decide +kernel
theorem dX8_lowest_21 : decode cX8_lowest 21 = .ok (.ifCond .eq 21, 3) := by decide +kernel
theorem dX8_lowest_24 : decode cX8_lowest 24 = .ok (.lload 5, 2) := by decide +kernel
theorem dX8_lowest_26 : decode cX8_lowest 26 = .ok (.lload 7, 2) := by decide +kernel
theorem dX8_lowest_28 : decode cX8_lowest 28 = .ok (.lrem, 1) := by decide +kernel
theorem dX8_lowest_29 : decode cX8_lowest 29 = .ok (.lstore 9, 2) := by decide +kernel
theorem dX8_lowest_31 : decode cX8_lowest 31 = .ok (.lload 7, 2) := by decide +kernel
theorem dX8_lowest_33 : decode cX8_lowest 33 = .ok (.lstore 5, 2) := by decide +kernel
theorem dX8_lowest_35 : decode cX8_lowest 35 = .ok (.lload 9, 2) := by decide +kernel
theorem dX8_lowest_37 : decode cX8_lowest 37 = .ok (.lstore 7, 2) := by decide +kernel
theorem dX8_lowest_39 : decode cX8_lowest 39 = .ok (.goto (-22), 3) := by decide +kernel
theorem dX8_lowest_42 : decode cX8_lowest 42 = .ok (.iload 4, 2) := by decide +kernel
theorem dX8_lowest_44 : decode cX8_lowest 44 = .ok (.ifCond .ne 10, 3) := by decide +kernel
theorem dX8_lowest_47 : decode cX8_lowest 47 = .ok (.lload_n 0, 1) := by decide +kernel
theorem dX8_lowest_48 : decode cX8_lowest 48 = .ok (.lload 5, 2) := by decide +kernel
theorem dX8_lowest_50 : decode cX8_lowest 50 = .ok (.ldiv, 1) := by decide +kernel
theorem dX8_lowest_51 : decode cX8_lowest 51 = .ok (.goto 7, 3) := by decide +kernel
theorem dX8_lowest_54 : decode cX8_lowest 54 = .ok (.lload_n 2, 1) := by decide +kernel
theorem dX8_lowest_55 : decode cX8_lowest 55 = .ok (.lload 5, 2) := by decide +kernel
theorem dX8_lowest_57 : decode cX8_lowest 57 = .ok (.ldiv, 1) := by decide +kernel
theorem dX8_lowest_58 : decode cX8_lowest 58 = .ok (.lreturn, 1) := by decide +kernel
theorem dX8_comer_0 : decode cX8_comer 0 = .ok (.iload_n 1, 1) := by decide +kernel
theorem dX8_comer_1 : decode cX8_comer 1 = .ok (.ifCond .ne 25, 3) := by decide +kernel
theorem dX8_comer_4 : decode cX8_comer 4 = .ok (.iload_n 2, 1) := by decide +kernel
theorem dX8_comer_5 : decode cX8_comer 5 = .ok (.iconst 0, 1) := by decide +kernel
theorem dX8_comer_6 : decode cX8_comer 6 = .ok (.bipush 60, 2) := by decide +kernel
theorem dX8_comer_8 : decode cX8_comer 8 = .ok (.invokestatic 95, 3) := by decide +kernel
theorem dX8_comer_11 : decode cX8_comer 11 = .ok (.ifCond .eq 11, 3) := by decide +kernel
theorem dX8_comer_14 : decode cX8_comer 14 = .ok (.iload_n 3, 1) := by decide +kernel
theorem dX8_comer_15 : decode cX8_comer 15 = .ok (.ifCond .ne 7, 3) := by decide +kernel
theorem dX8_comer_18 : decode cX8_comer 18 = .ok (.iconst 1, 1) := by decide +kernel
theorem dX8_comer_19 : decode cX8_comer 19 = .ok (.goto 58, 3) := by decide +kernel
theorem dX8_comer_22 : decode cX8_comer 22 = .ok (.iconst 0, 1) := by decide +kernel
theorem dX8_comer_23 : decode cX8_comer 23 = .ok (.goto 54, 3) := by decide +kernel
theorem dX8_comer_26 : decode cX8_comer 26 = .ok (.iload_n 1, 1) := by decide +kernel
theorem dX8_comer_27 : decode cX8_comer 27 = .ok (.iconst 1, 1) := by decide +kernel
theorem dX8_comer_28 : decode cX8_comer 28 = .ok (.if_icmp .ne 19, 3) := by decide +kernel
theorem dX8_comer_31 : decode cX8_comer 31 = .ok (.iload_n 2, 1) := by decide +kernel
theorem dX8_comer_32 : decode cX8_comer 32 = .ok (.ifCond .ne 11, 3) := by decide +kernel
theorem dX8_comer_35 : decode cX8_comer 35 = .ok (.iload_n 3, 1) := by decide +kernel
theorem dX8_comer_36 : decode cX8_comer 36 = .ok (.ifCond .ne 7, 3) := by decide +kernel
theorem dX8_comer_39 : decode cX8_comer 39 = .ok (.iconst 1, 1) := by decide +kernel
theorem dX8_comer_40 : decode cX8_comer 40 = .ok (.goto 37, 3) := by decide +kernel
theorem dX8_comer_43 : decode cX8_comer 43 = .ok (.iconst 0, 1) := by decide +kernel
theorem dX8_comer_44 : decode cX8_comer 44 = .ok (.goto 33, 3) := by decide +kernel
theorem dX8_comer_47 : decode cX8_comer 47 = .ok (.iload_n 1, 1) := by decide +kernel
theorem dX8_comer_48 : decode cX8_comer 48 = .ok (.iconst 2, 1) := by decide +kernel
theorem dX8_comer_49 : decode cX8_comer 49 = .ok (.if_icmp .ne 27, 3) := by decide +kernel
theorem dX8_comer_52 : decode cX8_comer 52 = .ok (.iload_n 2, 1) := by decide +kernel
theorem dX8_comer_53 : decode cX8_comer 53 = .ok (.iconst 1, 1) := by decide +kernel
theorem dX8_comer_54 : decode cX8_comer 54 = .ok (.bipush 30, 2) := by decide +kernel
theorem dX8_comer_56 : decode cX8_comer 56 = .ok (.invokestatic 95, 3) := by decide +kernel
theorem dX8_comer_59 : decode cX8_comer 59 = .ok (.ifCond .eq 17, 3) := by decide +kernel
theorem dX8_comer_62 : decode cX8_comer 62 = .ok (.iload_n 3, 1) := by decide +kernel
theorem dX8_comer_63 : decode cX8_comer 63 = .ok (.iconst 1, 1) := by decide +kernel
theorem dX8_comer_64 : decode cX8_comer 64 = .ok (.bipush 7, 2) := by decide +kernel
theorem dX8_comer_66 : decode cX8_comer 66 = .ok (.invokestatic 95, 3) := by decide +kernel
theorem dX8_comer_69 : decode cX8_comer 69 = .ok (.ifCond .eq 7, 3) := by decide +kernel
theorem dX8_comer_72 : decode cX8_comer 72 = .ok (.iconst 1, 1) := by decide +kernel
theorem dX8_comer_73 : decode cX8_comer 73 = .ok (.goto 4, 3) := by decide +kernel
theorem dX8_comer_76 : decode cX8_comer 76 = .ok (.iconst 0, 1) := by decide +kernel
theorem dX8_comer_77 : decode cX8_comer 77 = .ok (.istore 4, 2) := by decide +kernel
theorem dX8_comer_79 : decode cX8_comer 79 = .ok (.iload 4, 2) := by decide +kernel
theorem dX8_comer_81 : decode cX8_comer 81 = .ok (.ifCond .ne 6, 3) := by decide +kernel
theorem dX8_comer_84 : decode cX8_comer 84 = .ok (.bipush (-2), 2) := by decide +kernel
theorem dX8_comer_86 : decode cX8_comer 86 = .ok (.ireturn, 1) := by decide +kernel
theorem dX8_comer_87 : decode cX8_comer 87 = .ok (.aload_n 0, 1) := by decide +kernel
theorem dX8_comer_88 : decode cX8_comer 88 = .ok (.getfield 99, 3) := by decide +kernel
theorem dX8_comer_91 : decode cX8_comer 91 = .ok (.bipush 8, 2) := by decide +kernel
theorem dX8_comer_93 : decode cX8_comer 93 = .ok (.if_icmp .ne 6, 3) := by decide +kernel
theorem dX8_comer_96 : decode cX8_comer 96 = .ok (.bipush (-4), 2) := by decide +kernel
theorem dX8_comer_98 : decode cX8_comer 98 = .ok (.ireturn, 1) := by decide +kernel
theorem dX8_comer_99 : decode cX8_comer 99 = .ok (.aload_n 0, 1) := by decide +kernel
theorem dX8_comer_100 : decode cX8_comer 100 = .ok (.getfield 7, 3) := by decide +kernel
theorem dX8_comer_103 : decode cX8_comer 103 = .ok (.aload_n 0, 1) := by decide +kernel
theorem dX8_comer_104 : decode cX8_comer 104 = .ok (.getfield 99, 3) := by decide +kernel
theorem dX8_comer_107 : decode cX8_comer 107 = .ok (.iload_n 1, 1) := by decide +kernel
theorem dX8_comer_108 : decode cX8_comer 108 = .ok (.iastore, 1) := by decide +kernel
theorem dX8_comer_109 : decode cX8_comer 109 = .ok (.aload_n 0, 1) := by decide +kernel
theorem dX8_comer_110 : decode cX8_comer 110 = .ok (.getfield 13, 3) := by decide +kernel
theorem dX8_comer_113 : decode cX8_comer 113 = .ok (.aload_n 0, 1) := by decide +kernel
theorem dX8_comer_114 : decode cX8_comer 114 = .ok (.getfield 99, 3) := by decide +kernel
theorem dX8_comer_117 : decode cX8_comer 117 = .ok (.iload_n 2, 1) := by decide +kernel
theorem dX8_comer_118 : decode cX8_comer 118 = .ok (.iastore, 1) := by decide +kernel
theorem dX8_comer_119 : decode cX8_comer 119 = .ok (.aload_n 0, 1) := by decide +kernel
theorem dX8_comer_120 : decode cX8_comer 120 = .ok (.getfield 16, 3) := by decide +kernel
theorem dX8_comer_123 : decode cX8_comer 123 = .ok (.aload_n 0, 1) := by decide +kernel
theorem dX8_comer_124 : decode cX8_comer 124 = .ok (.getfield 99, 3) := by decide +kernel
theorem dX8_comer_127 : decode cX8_comer 127 = .ok (.iload_n 3, 1) := by decide +kernel
theorem dX8_comer_128 : decode cX8_comer 128 = .ok (.iastore, 1) := by decide +kernel
theorem dX8_comer_129 : decode cX8_comer 129 = .ok (.aload_n 0, 1) := by decide +kernel
theorem dX8_comer_130 : decode cX8_comer 130 = .ok (.getfield 19, 3) := by decide +kernel
theorem dX8_comer_133 : decode cX8_comer 133 = .ok (.aload_n 0, 1) := by decide +kernel
theorem dX8_comer_134 : decode cX8_comer 134 = .ok (.getfield 99, 3) := by decide +kernel
theorem dX8_comer_137 : decode cX8_comer 137 = .ok (.iconst 1, 1) := by decide +kernel
theorem dX8_comer_138 : decode cX8_comer 138 = .ok (.iastore, 1) := by decide +kernel
theorem dX8_comer_139 : decode cX8_comer 139 = .ok (.aload_n 0, 1) := by decide +kernel
theorem dX8_comer_140 : decode cX8_comer 140 = .ok (.getfield 22, 3) := by decide +kernel
theorem dX8_comer_143 : decode cX8_comer 143 = .ok (.aload_n 0, 1) := by decide +kernel
theorem dX8_comer_144 : decode cX8_comer 144 = .ok (.getfield 99, 3) := by decide +kernel
theorem dX8_comer_147 : decode cX8_comer 147 = .ok (.iconst 1, 1) := by decide +kernel
theorem dX8_comer_148 : decode cX8_comer 148 = .ok (.iastore, 1) := by decide +kernel
theorem dX8_comer_149 : decode cX8_comer 149 = .ok (.aload_n 0, 1) := by decide +kernel
theorem dX8_comer_150 : decode cX8_comer 150 = .ok (.getfield 25, 3) := by decide +kernel
theorem dX8_comer_153 : decode cX8_comer 153 = .ok (.aload_n 0, 1) := by decide +kernel
theorem dX8_comer_154 : decode cX8_comer 154 = .ok (.getfield 99, 3) := by decide +kernel
theorem dX8_comer_157 : decode cX8_comer 157 = .ok (.bipush 100, 2) := by decide +kernel
theorem dX8_comer_159 : decode cX8_comer 159 = .ok (.iastore, 1) := by decide +kernel
theorem dX8_comer_160 : decode cX8_comer 160 = .ok (.aload_n 0, 1) := by decide +kernel
theorem dX8_comer_161 : decode cX8_comer 161 = .ok (.getfield 28, 3) := by decide +kernel
theorem dX8_comer_164 : decode cX8_comer 164 = .ok (.aload_n 0, 1) := by decide +kernel
theorem dX8_comer_165 : decode cX8_comer 165 = .ok (.getfield 99, 3) := by decide +kernel
theorem dX8_comer_168 : decode cX8_comer 168 = .ok (.iconst 0, 1) := by decide +kernel
theorem dX8_comer_169 : decode cX8_comer 169 = .ok (.iastore, 1) := by decide +kernel
theorem dX8_comer_170 : decode cX8_comer 170 = .ok (.aload_n 0, 1) := by decide +kernel
theorem dX8_comer_171 : decode cX8_comer 171 = .ok (.getfield 31, 3) := by decide +kernel
theorem dX8_comer_174 : decode cX8_comer 174 = .ok (.aload_n 0, 1) := by decide +kernel
theorem dX8_comer_175 : decode cX8_comer 175 = .ok (.getfield 99, 3) := by decide +kernel
theorem dX8_comer_178 : decode cX8_comer 178 = .ok (.iconst 5, 1) := by decide +kernel
theorem dX8_comer_179 : decode cX8_comer 179 = .ok (.iastore, 1) := by decide +kernel
theorem dX8_comer_180 : decode cX8_comer 180 = .ok (.aload_n 0, 1) := by decide +kernel
theorem dX8_comer_181 : decode cX8_comer 181 = .ok (.dup, 1) := by decide +kernel
theorem dX8_comer_182 : decode cX8_comer 182 = .ok (.getfield 99, 3) := by decide +kernel
theorem dX8_comer_185 : decode cX8_comer 185 = .ok (.iconst 1, 1) := by decide +kernel
theorem dX8_comer_186 : decode cX8_comer 186 = .ok (.iadd, 1) := by decide +kernel
theorem dX8_comer_187 : decode cX8_comer 187 = .ok (.putfield 99, 3) := by decide +kernel
theorem dX8_comer_190 : decode cX8_comer 190 = .ok (.aload_n 0, 1) := by decide +kernel
theorem dX8_comer_191 : decode cX8_comer 191 = .ok (.getfield 99, 3) := by decide +kernel
theorem dX8_comer_194 : decode cX8_comer 194 = .ok (.iconst 1, 1) := by decide +kernel
theorem dX8_comer_195 : decode cX8_comer 195 = .ok (.isub, 1) := by decide +kernel
theorem dX8_comer_196 : decode cX8_comer 196 = .ok (.ireturn, 1) := by decide +kernel
theorem dX8_isComer_0 : decode cX8_isComer 0 = .ok (.iload_n 1, 1) := by decide +kernel
theorem dX8_isComer_1 : decode cX8_isComer 1 = .ok (.iconst 0, 1) := by decide +kernel
theorem dX8_isComer_2 : decode cX8_isComer 2 = .ok (.aload_n 0, 1) := by decide +kernel
theorem dX8_isComer_3 : decode cX8_isComer 3 = .ok (.getfield 99, 3) := by decide +kernel
theorem dX8_isComer_6 : decode cX8_isComer 6 = .ok (.iconst 1, 1) := by decide +kernel
theorem dX8_isComer_7 : decode cX8_isComer 7 = .ok (.isub, 1) := by decide +kernel
theorem dX8_isComer_8 : decode cX8_isComer 8 = .ok (.invokestatic 95, 3) := by decide +kernel
theorem dX8_isComer_11 : decode cX8_isComer 11 = .ok (.ireturn, 1) := by decide +kernel
theorem dX8_isPlain_0 : decode cX8_isPlain 0 = .ok (.aload_n 0, 1) := by decide +kernel
theorem dX8_isPlain_1 : decode cX8_isPlain 1 = .ok (.iload_n 1, 1) := by decide +kernel
theorem dX8_isPlain_2 : decode cX8_isPlain 2 = .ok (.invokevirtual 103, 3) := by decide +kernel
theorem dX8_isPlain_5 : decode cX8_isPlain 5 = .ok (.ifCond .eq 16, 3) := by decide +kernel
theorem dX8_isPlain_8 : decode cX8_isPlain 8 = .ok (.aload_n 0, 1) := by decide +kernel
theorem dX8_isPlain_9 : decode cX8_isPlain 9 = .ok (.getfield 7, 3) := by decide +kernel
theorem dX8_isPlain_12 : decode cX8_isPlain 12 = .ok (.iload_n 1, 1) := by decide +kernel
theorem dX8_isPlain_13 : decode cX8_isPlain 13 = .ok (.iaload, 1) := by decide +kernel
theorem dX8_isPlain_14 : decode cX8_isPlain 14 = .ok (.ifCond .ne 7, 3) := by decide +kernel
theorem dX8_isPlain_17 : decode cX8_isPlain 17 = .ok (.iconst 1, 1) := by decide +kernel
theorem dX8_isPlain_18 : decode cX8_isPlain 18 = .ok (.goto 4, 3) := by decide +kernel
theorem dX8_isPlain_21 : decode cX8_isPlain 21 = .ok (.iconst 0, 1) := by decide +kernel
theorem dX8_isPlain_22 : decode cX8_isPlain 22 = .ok (.ireturn, 1) := by decide +kernel
theorem dX8_aim_0 : decode cX8_aim 0 = .ok (.aload_n 0, 1) := by decide +kernel
theorem dX8_aim_1 : decode cX8_aim 1 = .ok (.iload_n 1, 1) := by decide +kernel
theorem dX8_aim_2 : decode cX8_aim 2 = .ok (.invokevirtual 107, 3) := by decide +kernel
theorem dX8_aim_5 : decode cX8_aim 5 = .ok (.ifCond .eq 13, 3) := by decide +kernel
theorem dX8_aim_8 : decode cX8_aim 8 = .ok (.iload_n 2, 1) := by decide +kernel
theorem dX8_aim_9 : decode cX8_aim 9 = .ok (.iconst 0, 1) := by decide +kernel
theorem dX8_aim_10 : decode cX8_aim 10 = .ok (.bipush 60, 2) := by decide +kernel
theorem dX8_aim_12 : decode cX8_aim 12 = .ok (.invokestatic 95, 3) := by decide +kernel
theorem dX8_aim_15 : decode cX8_aim 15 = .ok (.ifCond .ne 6, 3) := by decide +kernel
theorem dX8_aim_18 : decode cX8_aim 18 = .ok (.bipush (-2), 2) := by decide +kernel
theorem dX8_aim_20 : decode cX8_aim 20 = .ok (.ireturn, 1) := by decide +kernel
theorem dX8_aim_21 : decode cX8_aim 21 = .ok (.aload_n 0, 1) := by decide +kernel
theorem dX8_aim_22 : decode cX8_aim 22 = .ok (.getfield 13, 3) := by decide +kernel
theorem dX8_aim_25 : decode cX8_aim 25 = .ok (.iload_n 1, 1) := by decide +kernel
theorem dX8_aim_26 : decode cX8_aim 26 = .ok (.iaload, 1) := by decide +kernel
theorem dX8_aim_27 : decode cX8_aim 27 = .ok (.istore_n 3, 1) := by decide +kernel
theorem dX8_aim_28 : decode cX8_aim 28 = .ok (.aload_n 0, 1) := by decide +kernel
theorem dX8_aim_29 : decode cX8_aim 29 = .ok (.getfield 13, 3) := by decide +kernel
theorem dX8_aim_32 : decode cX8_aim 32 = .ok (.iload_n 1, 1) := by decide +kernel
theorem dX8_aim_33 : decode cX8_aim 33 = .ok (.iload_n 2, 1) := by decide +kernel
theorem dX8_aim_34 : decode cX8_aim 34 = .ok (.iastore, 1) := by decide +kernel
theorem dX8_aim_35 : decode cX8_aim 35 = .ok (.iload_n 3, 1) := by decide +kernel
theorem dX8_aim_36 : decode cX8_aim 36 = .ok (.ireturn, 1) := by decide +kernel
theorem dX8_read_0 : decode cX8_read 0 = .ok (.iload_n 1, 1) := by decide +kernel
theorem dX8_read_1 : decode cX8_read 1 = .ok (.invokestatic 110, 3) := by decide +kernel
theorem dX8_read_4 : decode cX8_read 4 = .ok (.ifCond .ne 6, 3) := by decide +kernel
theorem dX8_read_7 : decode cX8_read 7 = .ok (.bipush (-2), 2) := by decide +kernel
theorem dX8_read_9 : decode cX8_read 9 = .ok (.ireturn, 1) := by decide +kernel
theorem dX8_read_10 : decode cX8_read 10 = .ok (.aload_n 0, 1) := by decide +kernel
theorem dX8_read_11 : decode cX8_read 11 = .ok (.getfield 80, 3) := by decide +kernel
theorem dX8_read_14 : decode cX8_read 14 = .ok (.iload_n 1, 1) := by decide +kernel
theorem dX8_read_15 : decode cX8_read 15 = .ok (.baload, 1) := by decide +kernel
theorem dX8_read_16 : decode cX8_read 16 = .ok (.ifCond .ne 9, 3) := by decide +kernel
theorem dX8_read_19 : decode cX8_read 19 = .ok (.aload_n 0, 1) := by decide +kernel
theorem dX8_read_20 : decode cX8_read 20 = .ok (.iconst 1, 1) := by decide +kernel
theorem dX8_read_21 : decode cX8_read 21 = .ok (.invokevirtual 113, 3) := by decide +kernel
theorem dX8_read_24 : decode cX8_read 24 = .ok (.ireturn, 1) := by decide +kernel
theorem dX8_read_25 : decode cX8_read 25 = .ok (.iconst 0, 1) := by decide +kernel
theorem dX8_read_26 : decode cX8_read 26 = .ok (.istore_n 2, 1) := by decide +kernel
theorem dX8_read_27 : decode cX8_read 27 = .ok (.iconst 0, 1) := by decide +kernel
theorem dX8_read_28 : decode cX8_read 28 = .ok (.istore_n 3, 1) := by decide +kernel
theorem dX8_read_29 : decode cX8_read 29 = .ok (.iload_n 3, 1) := by decide +kernel
theorem dX8_read_30 : decode cX8_read 30 = .ok (.aload_n 0, 1) := by decide +kernel
theorem dX8_read_31 : decode cX8_read 31 = .ok (.getfield 99, 3) := by decide +kernel
theorem dX8_read_34 : decode cX8_read 34 = .ok (.if_icmp .ge 70, 3) := by decide +kernel
theorem dX8_read_37 : decode cX8_read 37 = .ok (.aload_n 0, 1) := by decide +kernel
theorem dX8_read_38 : decode cX8_read 38 = .ok (.getfield 7, 3) := by decide +kernel
theorem dX8_read_41 : decode cX8_read 41 = .ok (.iload_n 3, 1) := by decide +kernel
theorem dX8_read_42 : decode cX8_read 42 = .ok (.iaload, 1) := by decide +kernel
theorem dX8_read_43 : decode cX8_read 43 = .ok (.ifCond .ne 55, 3) := by decide +kernel
theorem dX8_read_46 : decode cX8_read 46 = .ok (.iload_n 2, 1) := by decide +kernel
theorem dX8_read_47 : decode cX8_read 47 = .ok (.aload_n 0, 1) := by decide +kernel
theorem dX8_read_48 : decode cX8_read 48 = .ok (.getfield 86, 3) := by decide +kernel
theorem dX8_read_51 : decode cX8_read 51 = .ok (.iload_n 1, 1) := by decide +kernel
theorem dX8_read_52 : decode cX8_read 52 = .ok (.iaload, 1) := by decide +kernel
theorem dX8_read_53 : decode cX8_read 53 = .ok (.if_icmp .eq 23, 3) := by decide +kernel
theorem dX8_read_56 : decode cX8_read 56 = .ok (.aload_n 0, 1) := by decide +kernel
theorem dX8_read_57 : decode cX8_read 57 = .ok (.getfield 89, 3) := by decide +kernel
theorem dX8_read_60 : decode cX8_read 60 = .ok (.bipush 64, 2) := by decide +kernel
theorem dX8_read_62 : decode cX8_read 62 = .ok (.iload_n 1, 1) := by decide +kernel
theorem dX8_read_63 : decode cX8_read 63 = .ok (.imul, 1) := by decide +kernel
theorem dX8_read_64 : decode cX8_read 64 = .ok (.iload_n 2, 1) := by decide +kernel
theorem dX8_read_65 : decode cX8_read 65 = .ok (.iadd, 1) := by decide +kernel
theorem dX8_read_66 : decode cX8_read 66 = .ok (.iaload, 1) := by decide +kernel
theorem dX8_read_67 : decode cX8_read 67 = .ok (.iconst 0, 1) := by decide +kernel
theorem dX8_read_68 : decode cX8_read 68 = .ok (.bipush 60, 2) := by decide +kernel
theorem dX8_read_70 : decode cX8_read 70 = .ok (.invokestatic 95, 3) := by decide +kernel
theorem dX8_read_73 : decode cX8_read 73 = .ok (.ifCond .ne 5, 3) := by decide +kernel
theorem dX8_read_76 : decode cX8_read 76 = .ok (.iload_n 2, 1) := by decide +kernel
theorem dX8_read_77 : decode cX8_read 77 = .ok (.ireturn, 1) := by decide +kernel
theorem dX8_read_78 : decode cX8_read 78 = .ok (.aload_n 0, 1) := by decide +kernel
theorem dX8_read_79 : decode cX8_read 79 = .ok (.getfield 13, 3) := by decide +kernel
theorem dX8_read_82 : decode cX8_read 82 = .ok (.iload_n 3, 1) := by decide +kernel
theorem dX8_read_83 : decode cX8_read 83 = .ok (.aload_n 0, 1) := by decide +kernel
theorem dX8_read_84 : decode cX8_read 84 = .ok (.getfield 89, 3) := by decide +kernel
theorem dX8_read_87 : decode cX8_read 87 = .ok (.bipush 64, 2) := by decide +kernel
theorem dX8_read_89 : decode cX8_read 89 = .ok (.iload_n 1, 1) := by decide +kernel
theorem dX8_read_90 : decode cX8_read 90 = .ok (.imul, 1) := by decide +kernel
theorem dX8_read_91 : decode cX8_read 91 = .ok (.iload_n 2, 1) := by decide +kernel
theorem dX8_read_92 : decode cX8_read 92 = .ok (.iadd, 1) := by decide +kernel
theorem dX8_read_93 : decode cX8_read 93 = .ok (.iaload, 1) := by decide +kernel
theorem dX8_read_94 : decode cX8_read 94 = .ok (.iastore, 1) := by decide +kernel
theorem dX8_read_95 : decode cX8_read 95 = .ok (.iinc 2 1, 3) := by decide +kernel
theorem dX8_read_98 : decode cX8_read 98 = .ok (.iinc 3 1, 3) := by decide +kernel
theorem dX8_read_101 : decode cX8_read 101 = .ok (.goto (-72), 3) := by decide +kernel
theorem dX8_read_104 : decode cX8_read 104 = .ok (.iload_n 2, 1) := by decide +kernel
theorem dX8_read_105 : decode cX8_read 105 = .ok (.ireturn, 1) := by decide +kernel
theorem dX8_cost_0 : decode cX8_cost 0 = .ok (.aload_n 0, 1) := by decide +kernel
theorem dX8_cost_1 : decode cX8_cost 1 = .ok (.iload_n 1, 1) := by decide +kernel
theorem dX8_cost_2 : decode cX8_cost 2 = .ok (.invokevirtual 103, 3) := by decide +kernel
theorem dX8_cost_5 : decode cX8_cost 5 = .ok (.ifCond .eq 91, 3) := by decide +kernel
theorem dX8_cost_8 : decode cX8_cost 8 = .ok (.iload_n 2, 1) := by decide +kernel
theorem dX8_cost_9 : decode cX8_cost 9 = .ok (.ifCond .eq 8, 3) := by decide +kernel
theorem dX8_cost_12 : decode cX8_cost 12 = .ok (.iload_n 2, 1) := by decide +kernel
theorem dX8_cost_13 : decode cX8_cost 13 = .ok (.iconst 1, 1) := by decide +kernel
theorem dX8_cost_14 : decode cX8_cost 14 = .ok (.if_icmp .ne 16, 3) := by decide +kernel
theorem dX8_cost_17 : decode cX8_cost 17 = .ok (.iload_n 3, 1) := by decide +kernel
theorem dX8_cost_18 : decode cX8_cost 18 = .ok (.iconst 0, 1) := by decide +kernel
theorem dX8_cost_19 : decode cX8_cost 19 = .ok (.bipush 99, 2) := by decide +kernel
theorem dX8_cost_21 : decode cX8_cost 21 = .ok (.invokestatic 95, 3) := by decide +kernel
theorem dX8_cost_24 : decode cX8_cost 24 = .ok (.ifCond .eq 72, 3) := by decide +kernel
theorem dX8_cost_27 : decode cX8_cost 27 = .ok (.goto 65, 3) := by decide +kernel
theorem dX8_cost_30 : decode cX8_cost 30 = .ok (.iload_n 2, 1) := by decide +kernel
theorem dX8_cost_31 : decode cX8_cost 31 = .ok (.iconst 2, 1) := by decide +kernel
theorem dX8_cost_32 : decode cX8_cost 32 = .ok (.if_icmp .ne 17, 3) := by decide +kernel
theorem dX8_cost_35 : decode cX8_cost 35 = .ok (.iload_n 3, 1) := by decide +kernel
theorem dX8_cost_36 : decode cX8_cost 36 = .ok (.iconst 0, 1) := by decide +kernel
theorem dX8_cost_37 : decode cX8_cost 37 = .ok (.sipush 999, 3) := by decide +kernel
theorem dX8_cost_40 : decode cX8_cost 40 = .ok (.invokestatic 95, 3) := by decide +kernel
theorem dX8_cost_43 : decode cX8_cost 43 = .ok (.ifCond .eq 53, 3) := by decide +kernel
theorem dX8_cost_46 : decode cX8_cost 46 = .ok (.goto 46, 3) := by decide +kernel
theorem dX8_cost_49 : decode cX8_cost 49 = .ok (.aload_n 0, 1) := by decide +kernel
theorem dX8_cost_50 : decode cX8_cost 50 = .ok (.getfield 7, 3) := by decide +kernel
theorem dX8_cost_53 : decode cX8_cost 53 = .ok (.iload_n 1, 1) := by decide +kernel
theorem dX8_cost_54 : decode cX8_cost 54 = .ok (.iaload, 1) := by decide +kernel
theorem dX8_cost_55 : decode cX8_cost 55 = .ok (.iconst 2, 1) := by decide +kernel
theorem dX8_cost_56 : decode cX8_cost 56 = .ok (.if_icmp .eq 40, 3) := by decide +kernel
theorem dX8_cost_59 : decode cX8_cost 59 = .ok (.iload_n 2, 1) := by decide +kernel
theorem dX8_cost_60 : decode cX8_cost 60 = .ok (.iconst 3, 1) := by decide +kernel
theorem dX8_cost_61 : decode cX8_cost 61 = .ok (.if_icmp .ne 16, 3) := by decide +kernel
theorem dX8_cost_64 : decode cX8_cost 64 = .ok (.iload_n 3, 1) := by decide +kernel
theorem dX8_cost_65 : decode cX8_cost 65 = .ok (.iconst 0, 1) := by decide +kernel
theorem dX8_cost_66 : decode cX8_cost 66 = .ok (.bipush 15, 2) := by decide +kernel
theorem dX8_cost_68 : decode cX8_cost 68 = .ok (.invokestatic 95, 3) := by decide +kernel
theorem dX8_cost_71 : decode cX8_cost 71 = .ok (.ifCond .eq 25, 3) := by decide +kernel
theorem dX8_cost_74 : decode cX8_cost 74 = .ok (.goto 18, 3) := by decide +kernel
theorem dX8_cost_77 : decode cX8_cost 77 = .ok (.iload_n 2, 1) := by decide +kernel
theorem dX8_cost_78 : decode cX8_cost 78 = .ok (.iconst 4, 1) := by decide +kernel
theorem dX8_cost_79 : decode cX8_cost 79 = .ok (.if_icmp .ne 17, 3) := by decide +kernel
theorem dX8_cost_82 : decode cX8_cost 82 = .ok (.iload_n 3, 1) := by decide +kernel
theorem dX8_cost_83 : decode cX8_cost 83 = .ok (.iconst 1, 1) := by decide +kernel
theorem dX8_cost_84 : decode cX8_cost 84 = .ok (.bipush 30, 2) := by decide +kernel
theorem dX8_cost_86 : decode cX8_cost 86 = .ok (.invokestatic 95, 3) := by decide +kernel
theorem dX8_cost_89 : decode cX8_cost 89 = .ok (.ifCond .eq 7, 3) := by decide +kernel
theorem dX8_cost_92 : decode cX8_cost 92 = .ok (.iconst 1, 1) := by decide +kernel
theorem dX8_cost_93 : decode cX8_cost 93 = .ok (.goto 4, 3) := by decide +kernel
theorem dX8_cost_96 : decode cX8_cost 96 = .ok (.iconst 0, 1) := by decide +kernel
theorem dX8_cost_97 : decode cX8_cost 97 = .ok (.istore 4, 2) := by decide +kernel
theorem dX8_cost_99 : decode cX8_cost 99 = .ok (.iload 4, 2) := by decide +kernel
theorem dX8_cost_101 : decode cX8_cost 101 = .ok (.ifCond .ne 6, 3) := by decide +kernel
theorem dX8_cost_104 : decode cX8_cost 104 = .ok (.bipush (-2), 2) := by decide +kernel
theorem dX8_cost_106 : decode cX8_cost 106 = .ok (.ireturn, 1) := by decide +kernel
theorem dX8_cost_107 : decode cX8_cost 107 = .ok (.iload_n 2, 1) := by decide +kernel
theorem dX8_cost_108 : decode cX8_cost 108 = .ok (.ifCond .ne 12, 3) := by decide +kernel
theorem dX8_cost_111 : decode cX8_cost 111 = .ok (.aload_n 0, 1) := by decide +kernel
theorem dX8_cost_112 : decode cX8_cost 112 = .ok (.getfield 19, 3) := by decide +kernel
theorem dX8_cost_115 : decode cX8_cost 115 = .ok (.iload_n 1, 1) := by decide +kernel
theorem dX8_cost_116 : decode cX8_cost 116 = .ok (.iaload, 1) := by decide +kernel
theorem dX8_cost_117 : decode cX8_cost 117 = .ok (.goto 51, 3) := by decide +kernel
theorem dX8_cost_120 : decode cX8_cost 120 = .ok (.iload_n 2, 1) := by decide +kernel
theorem dX8_cost_121 : decode cX8_cost 121 = .ok (.iconst 1, 1) := by decide +kernel
theorem dX8_cost_122 : decode cX8_cost 122 = .ok (.if_icmp .ne 12, 3) := by decide +kernel
theorem dX8_cost_125 : decode cX8_cost 125 = .ok (.aload_n 0, 1) := by decide +kernel
theorem dX8_cost_126 : decode cX8_cost 126 = .ok (.getfield 22, 3) := by decide +kernel
theorem dX8_cost_129 : decode cX8_cost 129 = .ok (.iload_n 1, 1) := by decide +kernel
theorem dX8_cost_130 : decode cX8_cost 130 = .ok (.iaload, 1) := by decide +kernel
theorem dX8_cost_131 : decode cX8_cost 131 = .ok (.goto 37, 3) := by decide +kernel
theorem dX8_cost_134 : decode cX8_cost 134 = .ok (.iload_n 2, 1) := by decide +kernel
theorem dX8_cost_135 : decode cX8_cost 135 = .ok (.iconst 2, 1) := by decide +kernel
theorem dX8_cost_136 : decode cX8_cost 136 = .ok (.if_icmp .ne 12, 3) := by decide +kernel
theorem dX8_cost_139 : decode cX8_cost 139 = .ok (.aload_n 0, 1) := by decide +kernel
theorem dX8_cost_140 : decode cX8_cost 140 = .ok (.getfield 25, 3) := by decide +kernel
theorem dX8_cost_143 : decode cX8_cost 143 = .ok (.iload_n 1, 1) := by decide +kernel
theorem dX8_cost_144 : decode cX8_cost 144 = .ok (.iaload, 1) := by decide +kernel
theorem dX8_cost_145 : decode cX8_cost 145 = .ok (.goto 23, 3) := by decide +kernel
theorem dX8_cost_148 : decode cX8_cost 148 = .ok (.iload_n 2, 1) := by decide +kernel
theorem dX8_cost_149 : decode cX8_cost 149 = .ok (.iconst 3, 1) := by decide +kernel
theorem dX8_cost_150 : decode cX8_cost 150 = .ok (.if_icmp .ne 12, 3) := by decide +kernel
theorem dX8_cost_153 : decode cX8_cost 153 = .ok (.aload_n 0, 1) := by decide +kernel
theorem dX8_cost_154 : decode cX8_cost 154 = .ok (.getfield 28, 3) := by decide +kernel
theorem dX8_cost_157 : decode cX8_cost 157 = .ok (.iload_n 1, 1) := by decide +kernel
theorem dX8_cost_158 : decode cX8_cost 158 = .ok (.iaload, 1) := by decide +kernel
theorem dX8_cost_159 : decode cX8_cost 159 = .ok (.goto 9, 3) := by decide +kernel
theorem dX8_cost_162 : decode cX8_cost 162 = .ok (.aload_n 0, 1) := by decide +kernel
theorem dX8_cost_163 : decode cX8_cost 163 = .ok (.getfield 31, 3) := by decide +kernel
theorem dX8_cost_166 : decode cX8_cost 166 = .ok (.iload_n 1, 1) := by decide +kernel
theorem dX8_cost_167 : decode cX8_cost 167 = .ok (.iaload, 1) := by decide +kernel
theorem dX8_cost_168 : decode cX8_cost 168 = .ok (.istore 5, 2) := by decide +kernel
theorem dX8_cost_170 : decode cX8_cost 170 = .ok (.aload_n 0, 1) := by decide +kernel
theorem dX8_cost_171 : decode cX8_cost 171 = .ok (.getfield 19, 3) := by decide +kernel
theorem dX8_cost_174 : decode cX8_cost 174 = .ok (.iload_n 1, 1) := by decide +kernel
theorem dX8_cost_175 : decode cX8_cost 175 = .ok (.iload_n 2, 1) := by decide +kernel
theorem dX8_cost_176 : decode cX8_cost 176 = .ok (.ifCond .ne 7, 3) := by decide +kernel
theorem dX8_cost_179 : decode cX8_cost 179 = .ok (.iload_n 3, 1) := by decide +kernel
theorem dX8_cost_180 : decode cX8_cost 180 = .ok (.goto 9, 3) := by decide +kernel
theorem dX8_cost_183 : decode cX8_cost 183 = .ok (.aload_n 0, 1) := by decide +kernel
theorem dX8_cost_184 : decode cX8_cost 184 = .ok (.getfield 19, 3) := by decide +kernel
theorem dX8_cost_187 : decode cX8_cost 187 = .ok (.iload_n 1, 1) := by decide +kernel
theorem dX8_cost_188 : decode cX8_cost 188 = .ok (.iaload, 1) := by decide +kernel
theorem dX8_cost_189 : decode cX8_cost 189 = .ok (.iastore, 1) := by decide +kernel
theorem dX8_cost_190 : decode cX8_cost 190 = .ok (.aload_n 0, 1) := by decide +kernel
theorem dX8_cost_191 : decode cX8_cost 191 = .ok (.getfield 22, 3) := by decide +kernel
theorem dX8_cost_194 : decode cX8_cost 194 = .ok (.iload_n 1, 1) := by decide +kernel
theorem dX8_cost_195 : decode cX8_cost 195 = .ok (.iload_n 2, 1) := by decide +kernel
theorem dX8_cost_196 : decode cX8_cost 196 = .ok (.iconst 1, 1) := by decide +kernel
theorem dX8_cost_197 : decode cX8_cost 197 = .ok (.if_icmp .ne 7, 3) := by decide +kernel
theorem dX8_cost_200 : decode cX8_cost 200 = .ok (.iload_n 3, 1) := by decide +kernel
theorem dX8_cost_201 : decode cX8_cost 201 = .ok (.goto 9, 3) := by decide +kernel
theorem dX8_cost_204 : decode cX8_cost 204 = .ok (.aload_n 0, 1) := by decide +kernel
theorem dX8_cost_205 : decode cX8_cost 205 = .ok (.getfield 22, 3) := by decide +kernel
theorem dX8_cost_208 : decode cX8_cost 208 = .ok (.iload_n 1, 1) := by decide +kernel
theorem dX8_cost_209 : decode cX8_cost 209 = .ok (.iaload, 1) := by decide +kernel
theorem dX8_cost_210 : decode cX8_cost 210 = .ok (.iastore, 1) := by decide +kernel
theorem dX8_cost_211 : decode cX8_cost 211 = .ok (.aload_n 0, 1) := by decide +kernel
theorem dX8_cost_212 : decode cX8_cost 212 = .ok (.getfield 25, 3) := by decide +kernel
theorem dX8_cost_215 : decode cX8_cost 215 = .ok (.iload_n 1, 1) := by decide +kernel
theorem dX8_cost_216 : decode cX8_cost 216 = .ok (.iload_n 2, 1) := by decide +kernel
theorem dX8_cost_217 : decode cX8_cost 217 = .ok (.iconst 2, 1) := by decide +kernel
theorem dX8_cost_218 : decode cX8_cost 218 = .ok (.if_icmp .ne 7, 3) := by decide +kernel
theorem dX8_cost_221 : decode cX8_cost 221 = .ok (.iload_n 3, 1) := by decide +kernel
theorem dX8_cost_222 : decode cX8_cost 222 = .ok (.goto 9, 3) := by decide +kernel
theorem dX8_cost_225 : decode cX8_cost 225 = .ok (.aload_n 0, 1) := by decide +kernel
theorem dX8_cost_226 : decode cX8_cost 226 = .ok (.getfield 25, 3) := by decide +kernel
theorem dX8_cost_229 : decode cX8_cost 229 = .ok (.iload_n 1, 1) := by decide +kernel
theorem dX8_cost_230 : decode cX8_cost 230 = .ok (.iaload, 1) := by decide +kernel
theorem dX8_cost_231 : decode cX8_cost 231 = .ok (.iastore, 1) := by decide +kernel
theorem dX8_cost_232 : decode cX8_cost 232 = .ok (.aload_n 0, 1) := by decide +kernel
theorem dX8_cost_233 : decode cX8_cost 233 = .ok (.getfield 28, 3) := by decide +kernel
theorem dX8_cost_236 : decode cX8_cost 236 = .ok (.iload_n 1, 1) := by decide +kernel
theorem dX8_cost_237 : decode cX8_cost 237 = .ok (.iload_n 2, 1) := by decide +kernel
theorem dX8_cost_238 : decode cX8_cost 238 = .ok (.iconst 3, 1) := by decide +kernel
theorem dX8_cost_239 : decode cX8_cost 239 = .ok (.if_icmp .ne 7, 3) := by decide +kernel
theorem dX8_cost_242 : decode cX8_cost 242 = .ok (.iload_n 3, 1) := by decide +kernel
theorem dX8_cost_243 : decode cX8_cost 243 = .ok (.goto 9, 3) := by decide +kernel
theorem dX8_cost_246 : decode cX8_cost 246 = .ok (.aload_n 0, 1) := by decide +kernel
theorem dX8_cost_247 : decode cX8_cost 247 = .ok (.getfield 28, 3) := by decide +kernel
theorem dX8_cost_250 : decode cX8_cost 250 = .ok (.iload_n 1, 1) := by decide +kernel
theorem dX8_cost_251 : decode cX8_cost 251 = .ok (.iaload, 1) := by decide +kernel
theorem dX8_cost_252 : decode cX8_cost 252 = .ok (.iastore, 1) := by decide +kernel
theorem dX8_cost_253 : decode cX8_cost 253 = .ok (.aload_n 0, 1) := by decide +kernel
theorem dX8_cost_254 : decode cX8_cost 254 = .ok (.getfield 31, 3) := by decide +kernel
theorem dX8_cost_257 : decode cX8_cost 257 = .ok (.iload_n 1, 1) := by decide +kernel
theorem dX8_cost_258 : decode cX8_cost 258 = .ok (.iload_n 2, 1) := by decide +kernel
theorem dX8_cost_259 : decode cX8_cost 259 = .ok (.iconst 4, 1) := by decide +kernel
theorem dX8_cost_260 : decode cX8_cost 260 = .ok (.if_icmp .ne 7, 3) := by decide +kernel
theorem dX8_cost_263 : decode cX8_cost 263 = .ok (.iload_n 3, 1) := by decide +kernel
theorem dX8_cost_264 : decode cX8_cost 264 = .ok (.goto 9, 3) := by decide +kernel
theorem dX8_cost_267 : decode cX8_cost 267 = .ok (.aload_n 0, 1) := by decide +kernel
theorem dX8_cost_268 : decode cX8_cost 268 = .ok (.getfield 31, 3) := by decide +kernel
theorem dX8_cost_271 : decode cX8_cost 271 = .ok (.iload_n 1, 1) := by decide +kernel
theorem dX8_cost_272 : decode cX8_cost 272 = .ok (.iaload, 1) := by decide +kernel
theorem dX8_cost_273 : decode cX8_cost 273 = .ok (.iastore, 1) := by decide +kernel
theorem dX8_cost_274 : decode cX8_cost 274 = .ok (.iload 5, 2) := by decide +kernel
theorem dX8_cost_276 : decode cX8_cost 276 = .ok (.ireturn, 1) := by decide +kernel
theorem dX8_set_0 : decode cX8_set 0 = .ok (.iload_n 1, 1) := by decide +kernel
theorem dX8_set_1 : decode cX8_set 1 = .ok (.iconst 0, 1) := by decide +kernel
theorem dX8_set_2 : decode cX8_set 2 = .ok (.iconst 2, 1) := by decide +kernel
theorem dX8_set_3 : decode cX8_set 3 = .ok (.invokestatic 95, 3) := by decide +kernel
theorem dX8_set_6 : decode cX8_set 6 = .ok (.ifCond .eq 22, 3) := by decide +kernel
theorem dX8_set_9 : decode cX8_set 9 = .ok (.iload_n 2, 1) := by decide +kernel
theorem dX8_set_10 : decode cX8_set 10 = .ok (.iconst 0, 1) := by decide +kernel
theorem dX8_set_11 : decode cX8_set 11 = .ok (.iload_n 1, 1) := by decide +kernel
theorem dX8_set_12 : decode cX8_set 12 = .ok (.ifCond .ne 8, 3) := by decide +kernel
theorem dX8_set_15 : decode cX8_set 15 = .ok (.bipush 59, 2) := by decide +kernel
theorem dX8_set_17 : decode cX8_set 17 = .ok (.goto 5, 3) := by decide +kernel
theorem dX8_set_20 : decode cX8_set 20 = .ok (.bipush 99, 2) := by decide +kernel
theorem dX8_set_22 : decode cX8_set 22 = .ok (.invokestatic 95, 3) := by decide +kernel
theorem dX8_set_25 : decode cX8_set 25 = .ok (.ifCond .ne 6, 3) := by decide +kernel
theorem dX8_set_28 : decode cX8_set 28 = .ok (.bipush (-2), 2) := by decide +kernel
theorem dX8_set_30 : decode cX8_set 30 = .ok (.ireturn, 1) := by decide +kernel
theorem dX8_set_31 : decode cX8_set 31 = .ok (.iload_n 1, 1) := by decide +kernel
theorem dX8_set_32 : decode cX8_set 32 = .ok (.ifCond .ne 10, 3) := by decide +kernel
theorem dX8_set_35 : decode cX8_set 35 = .ok (.aload_n 0, 1) := by decide +kernel
theorem dX8_set_36 : decode cX8_set 36 = .ok (.getfield 117, 3) := by decide +kernel
theorem dX8_set_39 : decode cX8_set 39 = .ok (.goto 19, 3) := by decide +kernel
theorem dX8_set_42 : decode cX8_set 42 = .ok (.iload_n 1, 1) := by decide +kernel
theorem dX8_set_43 : decode cX8_set 43 = .ok (.iconst 1, 1) := by decide +kernel
theorem dX8_set_44 : decode cX8_set 44 = .ok (.if_icmp .ne 10, 3) := by decide +kernel
theorem dX8_set_47 : decode cX8_set 47 = .ok (.aload_n 0, 1) := by decide +kernel
theorem dX8_set_48 : decode cX8_set 48 = .ok (.getfield 120, 3) := by decide +kernel
theorem dX8_set_51 : decode cX8_set 51 = .ok (.goto 7, 3) := by decide +kernel
theorem dX8_set_54 : decode cX8_set 54 = .ok (.aload_n 0, 1) := by decide +kernel
theorem dX8_set_55 : decode cX8_set 55 = .ok (.getfield 123, 3) := by decide +kernel
theorem dX8_set_58 : decode cX8_set 58 = .ok (.istore_n 3, 1) := by decide +kernel
theorem dX8_set_59 : decode cX8_set 59 = .ok (.aload_n 0, 1) := by decide +kernel
theorem dX8_set_60 : decode cX8_set 60 = .ok (.iload_n 1, 1) := by decide +kernel
theorem dX8_set_61 : decode cX8_set 61 = .ok (.ifCond .ne 7, 3) := by decide +kernel
theorem dX8_set_64 : decode cX8_set 64 = .ok (.iload_n 2, 1) := by decide +kernel
theorem dX8_set_65 : decode cX8_set 65 = .ok (.goto 7, 3) := by decide +kernel
theorem dX8_set_68 : decode cX8_set 68 = .ok (.aload_n 0, 1) := by decide +kernel
theorem dX8_set_69 : decode cX8_set 69 = .ok (.getfield 117, 3) := by decide +kernel
theorem dX8_set_72 : decode cX8_set 72 = .ok (.putfield 117, 3) := by decide +kernel
theorem dX8_set_75 : decode cX8_set 75 = .ok (.aload_n 0, 1) := by decide +kernel
theorem dX8_set_76 : decode cX8_set 76 = .ok (.iload_n 1, 1) := by decide +kernel
theorem dX8_set_77 : decode cX8_set 77 = .ok (.iconst 1, 1) := by decide +kernel
theorem dX8_set_78 : decode cX8_set 78 = .ok (.if_icmp .ne 7, 3) := by decide +kernel
theorem dX8_set_81 : decode cX8_set 81 = .ok (.iload_n 2, 1) := by decide +kernel
theorem dX8_set_82 : decode cX8_set 82 = .ok (.goto 7, 3) := by decide +kernel
theorem dX8_set_85 : decode cX8_set 85 = .ok (.aload_n 0, 1) := by decide +kernel
theorem dX8_set_86 : decode cX8_set 86 = .ok (.getfield 120, 3) := by decide +kernel
theorem dX8_set_89 : decode cX8_set 89 = .ok (.putfield 120, 3) := by decide +kernel
theorem dX8_set_92 : decode cX8_set 92 = .ok (.aload_n 0, 1) := by decide +kernel
theorem dX8_set_93 : decode cX8_set 93 = .ok (.iload_n 1, 1) := by decide +kernel
theorem dX8_set_94 : decode cX8_set 94 = .ok (.iconst 2, 1) := by decide +kernel
theorem dX8_set_95 : decode cX8_set 95 = .ok (.if_icmp .ne 7, 3) := by decide +kernel
theorem dX8_set_98 : decode cX8_set 98 = .ok (.iload_n 2, 1) := by decide +kernel
theorem dX8_set_99 : decode cX8_set 99 = .ok (.goto 7, 3) := by decide +kernel
theorem dX8_set_102 : decode cX8_set 102 = .ok (.aload_n 0, 1) := by decide +kernel
theorem dX8_set_103 : decode cX8_set 103 = .ok (.getfield 123, 3) := by decide +kernel
theorem dX8_set_106 : decode cX8_set 106 = .ok (.putfield 123, 3) := by decide +kernel
theorem dX8_set_109 : decode cX8_set 109 = .ok (.iload_n 3, 1) := by decide +kernel
theorem dX8_set_110 : decode cX8_set 110 = .ok (.ireturn, 1) := by decide +kernel
theorem dX8_type_0 : decode cX8_type 0 = .ok (.iload_n 1, 1) := by decide +kernel
theorem dX8_type_1 : decode cX8_type 1 = .ok (.iconst 0, 1) := by decide +kernel
theorem dX8_type_2 : decode cX8_type 2 = .ok (.sipush 255, 3) := by decide +kernel
theorem dX8_type_5 : decode cX8_type 5 = .ok (.invokestatic 95, 3) := by decide +kernel
theorem dX8_type_8 : decode cX8_type 8 = .ok (.ifCond .ne 6, 3) := by decide +kernel
theorem dX8_type_11 : decode cX8_type 11 = .ok (.bipush (-2), 2) := by decide +kernel
theorem dX8_type_13 : decode cX8_type 13 = .ok (.ireturn, 1) := by decide +kernel
theorem dX8_type_14 : decode cX8_type 14 = .ok (.aload_n 0, 1) := by decide +kernel
theorem dX8_type_15 : decode cX8_type 15 = .ok (.getfield 126, 3) := by decide +kernel
theorem dX8_type_18 : decode cX8_type 18 = .ok (.bipush 40, 2) := by decide +kernel
theorem dX8_type_20 : decode cX8_type 20 = .ok (.if_icmp .ne 6, 3) := by decide +kernel
theorem dX8_type_23 : decode cX8_type 23 = .ok (.bipush (-4), 2) := by decide +kernel
theorem dX8_type_25 : decode cX8_type 25 = .ok (.ireturn, 1) := by decide +kernel
theorem dX8_type_26 : decode cX8_type 26 = .ok (.aload_n 0, 1) := by decide +kernel
theorem dX8_type_27 : decode cX8_type 27 = .ok (.getfield 34, 3) := by decide +kernel
theorem dX8_type_30 : decode cX8_type 30 = .ok (.aload_n 0, 1) := by decide +kernel
theorem dX8_type_31 : decode cX8_type 31 = .ok (.getfield 126, 3) := by decide +kernel
theorem dX8_type_34 : decode cX8_type 34 = .ok (.iload_n 1, 1) := by decide +kernel
theorem dX8_type_35 : decode cX8_type 35 = .ok (.iastore, 1) := by decide +kernel
theorem dX8_type_36 : decode cX8_type 36 = .ok (.aload_n 0, 1) := by decide +kernel
theorem dX8_type_37 : decode cX8_type 37 = .ok (.dup, 1) := by decide +kernel
theorem dX8_type_38 : decode cX8_type 38 = .ok (.getfield 126, 3) := by decide +kernel
theorem dX8_type_41 : decode cX8_type 41 = .ok (.iconst 1, 1) := by decide +kernel
theorem dX8_type_42 : decode cX8_type 42 = .ok (.iadd, 1) := by decide +kernel
theorem dX8_type_43 : decode cX8_type 43 = .ok (.putfield 126, 3) := by decide +kernel
theorem dX8_type_46 : decode cX8_type 46 = .ok (.aload_n 0, 1) := by decide +kernel
theorem dX8_type_47 : decode cX8_type 47 = .ok (.iconst 0, 1) := by decide +kernel
theorem dX8_type_48 : decode cX8_type 48 = .ok (.putfield 129, 3) := by decide +kernel
theorem dX8_type_51 : decode cX8_type 51 = .ok (.aload_n 0, 1) := by decide +kernel
theorem dX8_type_52 : decode cX8_type 52 = .ok (.getfield 126, 3) := by decide +kernel
theorem dX8_type_55 : decode cX8_type 55 = .ok (.ireturn, 1) := by decide +kernel
theorem dX8_wipe_0 : decode cX8_wipe 0 = .ok (.aload_n 0, 1) := by decide +kernel
theorem dX8_wipe_1 : decode cX8_wipe 1 = .ok (.getfield 126, 3) := by decide +kernel
theorem dX8_wipe_4 : decode cX8_wipe 4 = .ok (.istore_n 1, 1) := by decide +kernel
theorem dX8_wipe_5 : decode cX8_wipe 5 = .ok (.aload_n 0, 1) := by decide +kernel
theorem dX8_wipe_6 : decode cX8_wipe 6 = .ok (.iconst 0, 1) := by decide +kernel
theorem dX8_wipe_7 : decode cX8_wipe 7 = .ok (.putfield 126, 3) := by decide +kernel
theorem dX8_wipe_10 : decode cX8_wipe 10 = .ok (.aload_n 0, 1) := by decide +kernel
theorem dX8_wipe_11 : decode cX8_wipe 11 = .ok (.iconst 0, 1) := by decide +kernel
theorem dX8_wipe_12 : decode cX8_wipe 12 = .ok (.putfield 129, 3) := by decide +kernel
theorem dX8_wipe_15 : decode cX8_wipe 15 = .ok (.iload_n 1, 1) := by decide +kernel
theorem dX8_wipe_16 : decode cX8_wipe 16 = .ok (.ireturn, 1) := by decide +kernel
theorem dX8_byteNow_0 : decode cX8_byteNow 0 = .ok (.aload_n 0, 1) := by decide +kernel
theorem dX8_byteNow_1 : decode cX8_byteNow 1 = .ok (.getfield 133, 3) := by decide +kernel
theorem dX8_byteNow_4 : decode cX8_byteNow 4 = .ok (.aload_n 0, 1) := by decide +kernel
theorem dX8_byteNow_5 : decode cX8_byteNow 5 = .ok (.getfield 126, 3) := by decide +kernel
theorem dX8_byteNow_8 : decode cX8_byteNow 8 = .ok (.if_icmp .ge 15, 3) := by decide +kernel
theorem dX8_byteNow_11 : decode cX8_byteNow 11 = .ok (.aload_n 0, 1) := by decide +kernel
theorem dX8_byteNow_12 : decode cX8_byteNow 12 = .ok (.getfield 34, 3) := by decide +kernel
theorem dX8_byteNow_15 : decode cX8_byteNow 15 = .ok (.aload_n 0, 1) := by decide +kernel
theorem dX8_byteNow_16 : decode cX8_byteNow 16 = .ok (.getfield 133, 3) := by decide +kernel
theorem dX8_byteNow_19 : decode cX8_byteNow 19 = .ok (.iaload, 1) := by decide +kernel
theorem dX8_byteNow_20 : decode cX8_byteNow 20 = .ok (.goto 4, 3) := by decide +kernel
theorem dX8_byteNow_23 : decode cX8_byteNow 23 = .ok (.iconst (-1), 1) := by decide +kernel
theorem dX8_byteNow_24 : decode cX8_byteNow 24 = .ok (.ireturn, 1) := by decide +kernel
theorem dX8_number_0 : decode cX8_number 0 = .ok (.aload_n 0, 1) := by decide +kernel
theorem dX8_number_1 : decode cX8_number 1 = .ok (.getfield 133, 3) := by decide +kernel
theorem dX8_number_4 : decode cX8_number 4 = .ok (.istore 4, 2) := by decide +kernel
theorem dX8_number_6 : decode cX8_number 6 = .ok (.iconst 0, 1) := by decide +kernel
theorem dX8_number_7 : decode cX8_number 7 = .ok (.istore 5, 2) := by decide +kernel
theorem dX8_number_9 : decode cX8_number 9 = .ok (.aload_n 0, 1) := by decide +kernel
theorem dX8_number_10 : decode cX8_number 10 = .ok (.getfield 133, 3) := by decide +kernel
theorem dX8_number_13 : decode cX8_number 13 = .ok (.iload 4, 2) := by decide +kernel
theorem dX8_number_15 : decode cX8_number 15 = .ok (.iload_n 1, 1) := by decide +kernel
theorem dX8_number_16 : decode cX8_number 16 = .ok (.iadd, 1) := by decide +kernel
theorem dX8_number_17 : decode cX8_number 17 = .ok (.if_icmp .ge 49, 3) := by decide +kernel
theorem dX8_number_20 : decode cX8_number 20 = .ok (.aload_n 0, 1) := by decide +kernel
theorem dX8_number_21 : decode cX8_number 21 = .ok (.invokevirtual 136, 3) := by decide +kernel
theorem dX8_number_24 : decode cX8_number 24 = .ok (.bipush 48, 2) := by decide +kernel
theorem dX8_number_26 : decode cX8_number 26 = .ok (.if_icmp .lt 40, 3) := by decide +kernel
theorem dX8_number_29 : decode cX8_number 29 = .ok (.aload_n 0, 1) := by decide +kernel
theorem dX8_number_30 : decode cX8_number 30 = .ok (.invokevirtual 136, 3) := by decide +kernel
theorem dX8_number_33 : decode cX8_number 33 = .ok (.bipush 57, 2) := by decide +kernel
theorem dX8_number_35 : decode cX8_number 35 = .ok (.if_icmp .gt 31, 3) := by decide +kernel
theorem dX8_number_38 : decode cX8_number 38 = .ok (.bipush 10, 2) := by decide +kernel
theorem dX8_number_40 : decode cX8_number 40 = .ok (.iload 5, 2) := by decide +kernel
theorem dX8_number_42 : decode cX8_number 42 = .ok (.imul, 1) := by decide +kernel
theorem dX8_number_43 : decode cX8_number 43 = .ok (.aload_n 0, 1) := by decide +kernel
theorem dX8_number_44 : decode cX8_number 44 = .ok (.invokevirtual 136, 3) := by decide +kernel
theorem dX8_number_47 : decode cX8_number 47 = .ok (.iadd, 1) := by decide +kernel
theorem dX8_number_48 : decode cX8_number 48 = .ok (.bipush 48, 2) := by decide +kernel
theorem dX8_number_50 : decode cX8_number 50 = .ok (.isub, 1) := by decide +kernel
theorem dX8_number_51 : decode cX8_number 51 = .ok (.istore 5, 2) := by decide +kernel
theorem dX8_number_53 : decode cX8_number 53 = .ok (.aload_n 0, 1) := by decide +kernel
theorem dX8_number_54 : decode cX8_number 54 = .ok (.dup, 1) := by decide +kernel
theorem dX8_number_55 : decode cX8_number 55 = .ok (.getfield 133, 3) := by decide +kernel
theorem dX8_number_58 : decode cX8_number 58 = .ok (.iconst 1, 1) := by decide +kernel
theorem dX8_number_59 : decode cX8_number 59 = .ok (.iadd, 1) := by decide +kernel
theorem dX8_number_60 : decode cX8_number 60 = .ok (.putfield 133, 3) := by decide +kernel
theorem dX8_number_63 : decode cX8_number 63 = .ok (.goto (-54), 3) := by decide +kernel
theorem dX8_number_66 : decode cX8_number 66 = .ok (.aload_n 0, 1) := by decide +kernel
theorem dX8_number_67 : decode cX8_number 67 = .ok (.getfield 133, 3) := by decide +kernel
theorem dX8_number_70 : decode cX8_number 70 = .ok (.iload 4, 2) := by decide +kernel
theorem dX8_number_72 : decode cX8_number 72 = .ok (.if_icmp .eq 13, 3) := by decide +kernel
theorem dX8_number_75 : decode cX8_number 75 = .ok (.iload 5, 2) := by decide +kernel
theorem dX8_number_77 : decode cX8_number 77 = .ok (.iload_n 2, 1) := by decide +kernel
theorem dX8_number_78 : decode cX8_number 78 = .ok (.iload_n 3, 1) := by decide +kernel
theorem dX8_number_79 : decode cX8_number 79 = .ok (.invokestatic 95, 3) := by decide +kernel
theorem dX8_number_82 : decode cX8_number 82 = .ok (.ifCond .ne 9, 3) := by decide +kernel
theorem dX8_number_85 : decode cX8_number 85 = .ok (.aload_n 0, 1) := by decide +kernel
theorem dX8_number_86 : decode cX8_number 86 = .ok (.iload 4, 2) := by decide +kernel
theorem dX8_number_88 : decode cX8_number 88 = .ok (.putfield 140, 3) := by decide +kernel
theorem dX8_number_91 : decode cX8_number 91 = .ok (.iload 5, 2) := by decide +kernel
theorem dX8_number_93 : decode cX8_number 93 = .ok (.ireturn, 1) := by decide +kernel
theorem dX8_condition_0 : decode cX8_condition 0 = .ok (.aload_n 0, 1) := by decide +kernel
theorem dX8_condition_1 : decode cX8_condition 1 = .ok (.invokevirtual 136, 3) := by decide +kernel
theorem dX8_condition_4 : decode cX8_condition 4 = .ok (.istore_n 2, 1) := by decide +kernel
theorem dX8_condition_5 : decode cX8_condition 5 = .ok (.iload_n 2, 1) := by decide +kernel
theorem dX8_condition_6 : decode cX8_condition 6 = .ok (.bipush 109, 2) := by decide +kernel
theorem dX8_condition_8 : decode cX8_condition 8 = .ok (.if_icmp .eq 30, 3) := by decide +kernel
theorem dX8_condition_11 : decode cX8_condition 11 = .ok (.iload_n 2, 1) := by decide +kernel
theorem dX8_condition_12 : decode cX8_condition 12 = .ok (.bipush 110, 2) := by decide +kernel
theorem dX8_condition_14 : decode cX8_condition 14 = .ok (.if_icmp .eq 24, 3) := by decide +kernel
theorem dX8_condition_17 : decode cX8_condition 17 = .ok (.iload_n 2, 1) := by decide +kernel
theorem dX8_condition_18 : decode cX8_condition 18 = .ok (.bipush 107, 2) := by decide +kernel
theorem dX8_condition_20 : decode cX8_condition 20 = .ok (.if_icmp .eq 18, 3) := by decide +kernel
theorem dX8_condition_23 : decode cX8_condition 23 = .ok (.iload_n 2, 1) := by decide +kernel
theorem dX8_condition_24 : decode cX8_condition 24 = .ok (.bipush 116, 2) := by decide +kernel
theorem dX8_condition_26 : decode cX8_condition 26 = .ok (.if_icmp .eq 12, 3) := by decide +kernel
theorem dX8_condition_29 : decode cX8_condition 29 = .ok (.aload_n 0, 1) := by decide +kernel
theorem dX8_condition_30 : decode cX8_condition 30 = .ok (.aload_n 0, 1) := by decide +kernel
theorem dX8_condition_31 : decode cX8_condition 31 = .ok (.getfield 133, 3) := by decide +kernel
theorem dX8_condition_34 : decode cX8_condition 34 = .ok (.putfield 140, 3) := by decide +kernel
theorem dX8_condition_37 : decode cX8_condition 37 = .ok (.return_, 1) := by decide +kernel
theorem dX8_condition_38 : decode cX8_condition 38 = .ok (.aload_n 0, 1) := by decide +kernel
theorem dX8_condition_39 : decode cX8_condition 39 = .ok (.dup, 1) := by decide +kernel
theorem dX8_condition_40 : decode cX8_condition 40 = .ok (.getfield 133, 3) := by decide +kernel
theorem dX8_condition_43 : decode cX8_condition 43 = .ok (.iconst 1, 1) := by decide +kernel
theorem dX8_condition_44 : decode cX8_condition 44 = .ok (.iadd, 1) := by decide +kernel
theorem dX8_condition_45 : decode cX8_condition 45 = .ok (.putfield 133, 3) := by decide +kernel
theorem dX8_condition_48 : decode cX8_condition 48 = .ok (.aload_n 0, 1) := by decide +kernel
theorem dX8_condition_49 : decode cX8_condition 49 = .ok (.getfield 37, 3) := by decide +kernel
theorem dX8_condition_52 : decode cX8_condition 52 = .ok (.aload_n 0, 1) := by decide +kernel
theorem dX8_condition_53 : decode cX8_condition 53 = .ok (.getfield 143, 3) := by decide +kernel
theorem dX8_condition_56 : decode cX8_condition 56 = .ok (.iload_n 2, 1) := by decide +kernel
theorem dX8_condition_57 : decode cX8_condition 57 = .ok (.iastore, 1) := by decide +kernel
theorem dX8_condition_58 : decode cX8_condition 58 = .ok (.aload_n 0, 1) := by decide +kernel
theorem dX8_condition_59 : decode cX8_condition 59 = .ok (.getfield 40, 3) := by decide +kernel
theorem dX8_condition_62 : decode cX8_condition 62 = .ok (.aload_n 0, 1) := by decide +kernel
theorem dX8_condition_63 : decode cX8_condition 63 = .ok (.getfield 143, 3) := by decide +kernel
theorem dX8_condition_66 : decode cX8_condition 66 = .ok (.iload_n 2, 1) := by decide +kernel
theorem dX8_condition_67 : decode cX8_condition 67 = .ok (.bipush 109, 2) := by decide +kernel
theorem dX8_condition_69 : decode cX8_condition 69 = .ok (.if_icmp .ne 14, 3) := by decide +kernel
theorem dX8_condition_72 : decode cX8_condition 72 = .ok (.aload_n 0, 1) := by decide +kernel
theorem dX8_condition_73 : decode cX8_condition 73 = .ok (.iconst 2, 1) := by decide +kernel
theorem dX8_condition_74 : decode cX8_condition 74 = .ok (.iconst 0, 1) := by decide +kernel
theorem dX8_condition_75 : decode cX8_condition 75 = .ok (.bipush 59, 2) := by decide +kernel
theorem dX8_condition_77 : decode cX8_condition 77 = .ok (.invokevirtual 146, 3) := by decide +kernel
theorem dX8_condition_80 : decode cX8_condition 80 = .ok (.goto 38, 3) := by decide +kernel
theorem dX8_condition_83 : decode cX8_condition 83 = .ok (.iload_n 2, 1) := by decide +kernel
theorem dX8_condition_84 : decode cX8_condition 84 = .ok (.bipush 110, 2) := by decide +kernel
theorem dX8_condition_86 : decode cX8_condition 86 = .ok (.if_icmp .ne 14, 3) := by decide +kernel
theorem dX8_condition_89 : decode cX8_condition 89 = .ok (.aload_n 0, 1) := by decide +kernel
theorem dX8_condition_90 : decode cX8_condition 90 = .ok (.iconst 1, 1) := by decide +kernel
theorem dX8_condition_91 : decode cX8_condition 91 = .ok (.iconst 1, 1) := by decide +kernel
theorem dX8_condition_92 : decode cX8_condition 92 = .ok (.bipush 8, 2) := by decide +kernel
theorem dX8_condition_94 : decode cX8_condition 94 = .ok (.invokevirtual 146, 3) := by decide +kernel
theorem dX8_condition_97 : decode cX8_condition 97 = .ok (.goto 21, 3) := by decide +kernel
theorem dX8_condition_100 : decode cX8_condition 100 = .ok (.iload_n 2, 1) := by decide +kernel
theorem dX8_condition_101 : decode cX8_condition 101 = .ok (.bipush 107, 2) := by decide +kernel
theorem dX8_condition_103 : decode cX8_condition 103 = .ok (.if_icmp .ne 14, 3) := by decide +kernel
theorem dX8_condition_106 : decode cX8_condition 106 = .ok (.aload_n 0, 1) := by decide +kernel
theorem dX8_condition_107 : decode cX8_condition 107 = .ok (.iconst 1, 1) := by decide +kernel
theorem dX8_condition_108 : decode cX8_condition 108 = .ok (.iconst 0, 1) := by decide +kernel
theorem dX8_condition_109 : decode cX8_condition 109 = .ok (.bipush 7, 2) := by decide +kernel
theorem dX8_condition_111 : decode cX8_condition 111 = .ok (.invokevirtual 146, 3) := by decide +kernel
theorem dX8_condition_114 : decode cX8_condition 114 = .ok (.goto 4, 3) := by decide +kernel
theorem dX8_condition_117 : decode cX8_condition 117 = .ok (.iconst 0, 1) := by decide +kernel
theorem dX8_condition_118 : decode cX8_condition 118 = .ok (.iastore, 1) := by decide +kernel
theorem dX8_condition_119 : decode cX8_condition 119 = .ok (.aload_n 0, 1) := by decide +kernel
theorem dX8_condition_120 : decode cX8_condition 120 = .ok (.getfield 43, 3) := by decide +kernel
theorem dX8_condition_123 : decode cX8_condition 123 = .ok (.aload_n 0, 1) := by decide +kernel
theorem dX8_condition_124 : decode cX8_condition 124 = .ok (.getfield 143, 3) := by decide +kernel
theorem dX8_condition_127 : decode cX8_condition 127 = .ok (.iload_n 1, 1) := by decide +kernel
theorem dX8_condition_128 : decode cX8_condition 128 = .ok (.bastore, 1) := by decide +kernel
theorem dX8_condition_129 : decode cX8_condition 129 = .ok (.aload_n 0, 1) := by decide +kernel
theorem dX8_condition_130 : decode cX8_condition 130 = .ok (.dup, 1) := by decide +kernel
theorem dX8_condition_131 : decode cX8_condition 131 = .ok (.getfield 143, 3) := by decide +kernel
theorem dX8_condition_134 : decode cX8_condition 134 = .ok (.iconst 1, 1) := by decide +kernel
theorem dX8_condition_135 : decode cX8_condition 135 = .ok (.iadd, 1) := by decide +kernel
theorem dX8_condition_136 : decode cX8_condition 136 = .ok (.putfield 143, 3) := by decide +kernel
theorem dX8_condition_139 : decode cX8_condition 139 = .ok (.return_, 1) := by decide +kernel
theorem dX8_faultNow_0 : decode cX8_faultNow 0 = .ok (.aload_n 0, 1) := by decide +kernel
theorem dX8_faultNow_1 : decode cX8_faultNow 1 = .ok (.getfield 129, 3) := by decide +kernel
theorem dX8_faultNow_4 : decode cX8_faultNow 4 = .ok (.ifCond .eq 8, 3) := by decide +kernel
theorem dX8_faultNow_7 : decode cX8_faultNow 7 = .ok (.aload_n 0, 1) := by decide +kernel
theorem dX8_faultNow_8 : decode cX8_faultNow 8 = .ok (.getfield 140, 3) := by decide +kernel
theorem dX8_faultNow_11 : decode cX8_faultNow 11 = .ok (.ireturn, 1) := by decide +kernel
theorem dX8_faultNow_12 : decode cX8_faultNow 12 = .ok (.aload_n 0, 1) := by decide +kernel
theorem dX8_faultNow_13 : decode cX8_faultNow 13 = .ok (.iconst 1, 1) := by decide +kernel
theorem dX8_faultNow_14 : decode cX8_faultNow 14 = .ok (.putfield 129, 3) := by decide +kernel
theorem dX8_faultNow_17 : decode cX8_faultNow 17 = .ok (.aload_n 0, 1) := by decide +kernel
theorem dX8_faultNow_18 : decode cX8_faultNow 18 = .ok (.iconst 0, 1) := by decide +kernel
theorem dX8_faultNow_19 : decode cX8_faultNow 19 = .ok (.putfield 133, 3) := by decide +kernel
theorem dX8_faultNow_22 : decode cX8_faultNow 22 = .ok (.aload_n 0, 1) := by decide +kernel
theorem dX8_faultNow_23 : decode cX8_faultNow 23 = .ok (.iconst (-1), 1) := by decide +kernel
theorem dX8_faultNow_24 : decode cX8_faultNow 24 = .ok (.putfield 140, 3) := by decide +kernel
theorem dX8_faultNow_27 : decode cX8_faultNow 27 = .ok (.aload_n 0, 1) := by decide +kernel
theorem dX8_faultNow_28 : decode cX8_faultNow 28 = .ok (.iconst 0, 1) := by decide +kernel
theorem dX8_faultNow_29 : decode cX8_faultNow 29 = .ok (.putfield 143, 3) := by decide +kernel
theorem dX8_faultNow_32 : decode cX8_faultNow 32 = .ok (.aload_n 0, 1) := by decide +kernel
theorem dX8_faultNow_33 : decode cX8_faultNow 33 = .ok (.iconst 1, 1) := by decide +kernel
theorem dX8_faultNow_34 : decode cX8_faultNow 34 = .ok (.invokevirtual 150, 3) := by decide +kernel
theorem dX8_faultNow_37 : decode cX8_faultNow 37 = .ok (.aload_n 0, 1) := by decide +kernel
theorem dX8_faultNow_38 : decode cX8_faultNow 38 = .ok (.getfield 140, 3) := by decide +kernel
theorem dX8_faultNow_41 : decode cX8_faultNow 41 = .ok (.iconst (-1), 1) := by decide +kernel
theorem dX8_faultNow_42 : decode cX8_faultNow 42 = .ok (.if_icmp .ne 70, 3) := by decide +kernel
theorem dX8_faultNow_45 : decode cX8_faultNow 45 = .ok (.aload_n 0, 1) := by decide +kernel
theorem dX8_faultNow_46 : decode cX8_faultNow 46 = .ok (.getfield 133, 3) := by decide +kernel
theorem dX8_faultNow_49 : decode cX8_faultNow 49 = .ok (.aload_n 0, 1) := by decide +kernel
theorem dX8_faultNow_50 : decode cX8_faultNow 50 = .ok (.getfield 126, 3) := by decide +kernel
theorem dX8_faultNow_53 : decode cX8_faultNow 53 = .ok (.if_icmp .ge 59, 3) := by decide +kernel
theorem dX8_faultNow_56 : decode cX8_faultNow 56 = .ok (.aload_n 0, 1) := by decide +kernel
theorem dX8_faultNow_57 : decode cX8_faultNow 57 = .ok (.invokevirtual 136, 3) := by decide +kernel
theorem dX8_faultNow_60 : decode cX8_faultNow 60 = .ok (.istore_n 1, 1) := by decide +kernel
theorem dX8_faultNow_61 : decode cX8_faultNow 61 = .ok (.iload_n 1, 1) := by decide +kernel
theorem dX8_faultNow_62 : decode cX8_faultNow 62 = .ok (.bipush 38, 2) := by decide +kernel
theorem dX8_faultNow_64 : decode cX8_faultNow 64 = .ok (.if_icmp .eq 20, 3) := by decide +kernel
theorem dX8_faultNow_67 : decode cX8_faultNow 67 = .ok (.iload_n 1, 1) := by decide +kernel
theorem dX8_faultNow_68 : decode cX8_faultNow 68 = .ok (.bipush 124, 2) := by decide +kernel
theorem dX8_faultNow_70 : decode cX8_faultNow 70 = .ok (.if_icmp .eq 14, 3) := by decide +kernel
theorem dX8_faultNow_73 : decode cX8_faultNow 73 = .ok (.aload_n 0, 1) := by decide +kernel
theorem dX8_faultNow_74 : decode cX8_faultNow 74 = .ok (.aload_n 0, 1) := by decide +kernel
theorem dX8_faultNow_75 : decode cX8_faultNow 75 = .ok (.getfield 133, 3) := by decide +kernel
theorem dX8_faultNow_78 : decode cX8_faultNow 78 = .ok (.putfield 140, 3) := by decide +kernel
theorem dX8_faultNow_81 : decode cX8_faultNow 81 = .ok (.goto 28, 3) := by decide +kernel
theorem dX8_faultNow_84 : decode cX8_faultNow 84 = .ok (.aload_n 0, 1) := by decide +kernel
theorem dX8_faultNow_85 : decode cX8_faultNow 85 = .ok (.dup, 1) := by decide +kernel
theorem dX8_faultNow_86 : decode cX8_faultNow 86 = .ok (.getfield 133, 3) := by decide +kernel
theorem dX8_faultNow_89 : decode cX8_faultNow 89 = .ok (.iconst 1, 1) := by decide +kernel
theorem dX8_faultNow_90 : decode cX8_faultNow 90 = .ok (.iadd, 1) := by decide +kernel
theorem dX8_faultNow_91 : decode cX8_faultNow 91 = .ok (.putfield 133, 3) := by decide +kernel
theorem dX8_faultNow_94 : decode cX8_faultNow 94 = .ok (.aload_n 0, 1) := by decide +kernel
theorem dX8_faultNow_95 : decode cX8_faultNow 95 = .ok (.iload_n 1, 1) := by decide +kernel
theorem dX8_faultNow_96 : decode cX8_faultNow 96 = .ok (.bipush 124, 2) := by decide +kernel
theorem dX8_faultNow_98 : decode cX8_faultNow 98 = .ok (.if_icmp .ne 7, 3) := by decide +kernel
theorem dX8_faultNow_101 : decode cX8_faultNow 101 = .ok (.iconst 1, 1) := by decide +kernel
theorem dX8_faultNow_102 : decode cX8_faultNow 102 = .ok (.goto 4, 3) := by decide +kernel
theorem dX8_faultNow_105 : decode cX8_faultNow 105 = .ok (.iconst 0, 1) := by decide +kernel
theorem dX8_faultNow_106 : decode cX8_faultNow 106 = .ok (.invokevirtual 150, 3) := by decide +kernel
theorem dX8_faultNow_109 : decode cX8_faultNow 109 = .ok (.goto (-72), 3) := by decide +kernel
theorem dX8_faultNow_112 : decode cX8_faultNow 112 = .ok (.aload_n 0, 1) := by decide +kernel
theorem dX8_faultNow_113 : decode cX8_faultNow 113 = .ok (.getfield 140, 3) := by decide +kernel
theorem dX8_faultNow_116 : decode cX8_faultNow 116 = .ok (.ireturn, 1) := by decide +kernel
theorem dX8_fault_0 : decode cX8_fault 0 = .ok (.aload_n 0, 1) := by decide +kernel
theorem dX8_fault_1 : decode cX8_fault 1 = .ok (.invokevirtual 154, 3) := by decide +kernel
theorem dX8_fault_4 : decode cX8_fault 4 = .ok (.ireturn, 1) := by decide +kernel
theorem dX8_asTold_0 : decode cX8_asTold 0 = .ok (.iconst 0, 1) := by decide +kernel
theorem dX8_asTold_1 : decode cX8_asTold 1 = .ok (.istore_n 1, 1) := by decide +kernel
theorem dX8_asTold_2 : decode cX8_asTold 2 = .ok (.iload_n 1, 1) := by decide +kernel
theorem dX8_asTold_3 : decode cX8_asTold 3 = .ok (.aload_n 0, 1) := by decide +kernel
theorem dX8_asTold_4 : decode cX8_asTold 4 = .ok (.getfield 99, 3) := by decide +kernel
theorem dX8_asTold_7 : decode cX8_asTold 7 = .ok (.if_icmp .ge 21, 3) := by decide +kernel
theorem dX8_asTold_10 : decode cX8_asTold 10 = .ok (.aload_n 0, 1) := by decide +kernel
theorem dX8_asTold_11 : decode cX8_asTold 11 = .ok (.getfield 47, 3) := by decide +kernel
theorem dX8_asTold_14 : decode cX8_asTold 14 = .ok (.iload_n 1, 1) := by decide +kernel
theorem dX8_asTold_15 : decode cX8_asTold 15 = .ok (.aload_n 0, 1) := by decide +kernel
theorem dX8_asTold_16 : decode cX8_asTold 16 = .ok (.getfield 13, 3) := by decide +kernel
theorem dX8_asTold_19 : decode cX8_asTold 19 = .ok (.iload_n 1, 1) := by decide +kernel
theorem dX8_asTold_20 : decode cX8_asTold 20 = .ok (.iaload, 1) := by decide +kernel
theorem dX8_asTold_21 : decode cX8_asTold 21 = .ok (.iastore, 1) := by decide +kernel
theorem dX8_asTold_22 : decode cX8_asTold 22 = .ok (.iinc 1 1, 3) := by decide +kernel
theorem dX8_asTold_25 : decode cX8_asTold 25 = .ok (.goto (-23), 3) := by decide +kernel
theorem dX8_asTold_28 : decode cX8_asTold 28 = .ok (.aload_n 0, 1) := by decide +kernel
theorem dX8_asTold_29 : decode cX8_asTold 29 = .ok (.aload_n 0, 1) := by decide +kernel
theorem dX8_asTold_30 : decode cX8_asTold 30 = .ok (.getfield 117, 3) := by decide +kernel
theorem dX8_asTold_33 : decode cX8_asTold 33 = .ok (.putfield 157, 3) := by decide +kernel
theorem dX8_asTold_36 : decode cX8_asTold 36 = .ok (.aload_n 0, 1) := by decide +kernel
theorem dX8_asTold_37 : decode cX8_asTold 37 = .ok (.aload_n 0, 1) := by decide +kernel
theorem dX8_asTold_38 : decode cX8_asTold 38 = .ok (.getfield 120, 3) := by decide +kernel
theorem dX8_asTold_41 : decode cX8_asTold 41 = .ok (.putfield 160, 3) := by decide +kernel
theorem dX8_asTold_44 : decode cX8_asTold 44 = .ok (.aload_n 0, 1) := by decide +kernel
theorem dX8_asTold_45 : decode cX8_asTold 45 = .ok (.aload_n 0, 1) := by decide +kernel
theorem dX8_asTold_46 : decode cX8_asTold 46 = .ok (.getfield 123, 3) := by decide +kernel
theorem dX8_asTold_49 : decode cX8_asTold 49 = .ok (.putfield 163, 3) := by decide +kernel
theorem dX8_asTold_52 : decode cX8_asTold 52 = .ok (.aload_n 0, 1) := by decide +kernel
theorem dX8_asTold_53 : decode cX8_asTold 53 = .ok (.iconst 0, 1) := by decide +kernel
theorem dX8_asTold_54 : decode cX8_asTold 54 = .ok (.putfield 166, 3) := by decide +kernel
theorem dX8_asTold_57 : decode cX8_asTold 57 = .ok (.aload_n 0, 1) := by decide +kernel
theorem dX8_asTold_58 : decode cX8_asTold 58 = .ok (.iconst 0, 1) := by decide +kernel
theorem dX8_asTold_59 : decode cX8_asTold 59 = .ok (.putfield 169, 3) := by decide +kernel
theorem dX8_asTold_62 : decode cX8_asTold 62 = .ok (.aload_n 0, 1) := by decide +kernel
theorem dX8_asTold_63 : decode cX8_asTold 63 = .ok (.iconst 0, 1) := by decide +kernel
theorem dX8_asTold_64 : decode cX8_asTold 64 = .ok (.putfield 172, 3) := by decide +kernel
theorem dX8_asTold_67 : decode cX8_asTold 67 = .ok (.return_, 1) := by decide +kernel
theorem dX8_looks_0 : decode cX8_looks 0 = .ok (.aload_n 0, 1) := by decide +kernel
theorem dX8_looks_1 : decode cX8_looks 1 = .ok (.getfield 7, 3) := by decide +kernel
theorem dX8_looks_4 : decode cX8_looks 4 = .ok (.iload_n 1, 1) := by decide +kernel
theorem dX8_looks_5 : decode cX8_looks 5 = .ok (.iaload, 1) := by decide +kernel
theorem dX8_looks_6 : decode cX8_looks 6 = .ok (.iconst 2, 1) := by decide +kernel
theorem dX8_looks_7 : decode cX8_looks 7 = .ok (.if_icmp .ne 18, 3) := by decide +kernel
theorem dX8_looks_10 : decode cX8_looks 10 = .ok (.aload_n 0, 1) := by decide +kernel
theorem dX8_looks_11 : decode cX8_looks 11 = .ok (.getfield 169, 3) := by decide +kernel
theorem dX8_looks_14 : decode cX8_looks 14 = .ok (.iload_n 1, 1) := by decide +kernel
theorem dX8_looks_15 : decode cX8_looks 15 = .ok (.ishr, 1) := by decide +kernel
theorem dX8_looks_16 : decode cX8_looks 16 = .ok (.iconst 1, 1) := by decide +kernel
theorem dX8_looks_17 : decode cX8_looks 17 = .ok (.iand, 1) := by decide +kernel
theorem dX8_looks_18 : decode cX8_looks 18 = .ok (.ifCond .ne 7, 3) := by decide +kernel
theorem dX8_looks_21 : decode cX8_looks 21 = .ok (.iconst 1, 1) := by decide +kernel
theorem dX8_looks_22 : decode cX8_looks 22 = .ok (.goto 4, 3) := by decide +kernel
theorem dX8_looks_25 : decode cX8_looks 25 = .ok (.iconst 0, 1) := by decide +kernel
theorem dX8_looks_26 : decode cX8_looks 26 = .ok (.ireturn, 1) := by decide +kernel
theorem dX8_comesAll_0 : decode cX8_comesAll 0 = .ok (.iconst 0, 1) := by decide +kernel
theorem dX8_comesAll_1 : decode cX8_comesAll 1 = .ok (.istore_n 1, 1) := by decide +kernel
theorem dX8_comesAll_2 : decode cX8_comesAll 2 = .ok (.iconst 0, 1) := by decide +kernel
theorem dX8_comesAll_3 : decode cX8_comesAll 3 = .ok (.istore_n 2, 1) := by decide +kernel
theorem dX8_comesAll_4 : decode cX8_comesAll 4 = .ok (.iload_n 2, 1) := by decide +kernel
theorem dX8_comesAll_5 : decode cX8_comesAll 5 = .ok (.aload_n 0, 1) := by decide +kernel
theorem dX8_comesAll_6 : decode cX8_comesAll 6 = .ok (.getfield 99, 3) := by decide +kernel
theorem dX8_comesAll_9 : decode cX8_comesAll 9 = .ok (.if_icmp .ge 155, 3) := by decide +kernel
theorem dX8_comesAll_12 : decode cX8_comesAll 12 = .ok (.aload_n 0, 1) := by decide +kernel
theorem dX8_comesAll_13 : decode cX8_comesAll 13 = .ok (.getfield 7, 3) := by decide +kernel
theorem dX8_comesAll_16 : decode cX8_comesAll 16 = .ok (.iload_n 2, 1) := by decide +kernel
theorem dX8_comesAll_17 : decode cX8_comesAll 17 = .ok (.iaload, 1) := by decide +kernel
theorem dX8_comesAll_18 : decode cX8_comesAll 18 = .ok (.iconst 1, 1) := by decide +kernel
theorem dX8_comesAll_19 : decode cX8_comesAll 19 = .ok (.if_icmp .eq 15, 3) := by decide +kernel
theorem dX8_comesAll_22 : decode cX8_comesAll 22 = .ok (.aload_n 0, 1) := by decide +kernel
theorem dX8_comesAll_23 : decode cX8_comesAll 23 = .ok (.getfield 166, 3) := by decide +kernel
theorem dX8_comesAll_26 : decode cX8_comesAll 26 = .ok (.iload_n 2, 1) := by decide +kernel
theorem dX8_comesAll_27 : decode cX8_comesAll 27 = .ok (.ishr, 1) := by decide +kernel
theorem dX8_comesAll_28 : decode cX8_comesAll 28 = .ok (.iconst 1, 1) := by decide +kernel
theorem dX8_comesAll_29 : decode cX8_comesAll 29 = .ok (.iand, 1) := by decide +kernel
theorem dX8_comesAll_30 : decode cX8_comesAll 30 = .ok (.iconst 1, 1) := by decide +kernel
theorem dX8_comesAll_31 : decode cX8_comesAll 31 = .ok (.if_icmp .ne 7, 3) := by decide +kernel
theorem dX8_comesAll_34 : decode cX8_comesAll 34 = .ok (.iconst 1, 1) := by decide +kernel
theorem dX8_comesAll_35 : decode cX8_comesAll 35 = .ok (.goto 4, 3) := by decide +kernel
theorem dX8_comesAll_38 : decode cX8_comesAll 38 = .ok (.iconst 0, 1) := by decide +kernel
theorem dX8_comesAll_39 : decode cX8_comesAll 39 = .ok (.istore_n 3, 1) := by decide +kernel
theorem dX8_comesAll_40 : decode cX8_comesAll 40 = .ok (.aload_n 0, 1) := by decide +kernel
theorem dX8_comesAll_41 : decode cX8_comesAll 41 = .ok (.getfield 7, 3) := by decide +kernel
theorem dX8_comesAll_44 : decode cX8_comesAll 44 = .ok (.iload_n 2, 1) := by decide +kernel
theorem dX8_comesAll_45 : decode cX8_comesAll 45 = .ok (.iaload, 1) := by decide +kernel
theorem dX8_comesAll_46 : decode cX8_comesAll 46 = .ok (.iconst 2, 1) := by decide +kernel
theorem dX8_comesAll_47 : decode cX8_comesAll 47 = .ok (.if_icmp .eq 15, 3) := by decide +kernel
theorem dX8_comesAll_50 : decode cX8_comesAll 50 = .ok (.aload_n 0, 1) := by decide +kernel
theorem dX8_comesAll_51 : decode cX8_comesAll 51 = .ok (.getfield 169, 3) := by decide +kernel
theorem dX8_comesAll_54 : decode cX8_comesAll 54 = .ok (.iload_n 2, 1) := by decide +kernel
theorem dX8_comesAll_55 : decode cX8_comesAll 55 = .ok (.ishr, 1) := by decide +kernel
theorem dX8_comesAll_56 : decode cX8_comesAll 56 = .ok (.iconst 1, 1) := by decide +kernel
theorem dX8_comesAll_57 : decode cX8_comesAll 57 = .ok (.iand, 1) := by decide +kernel
theorem dX8_comesAll_58 : decode cX8_comesAll 58 = .ok (.iconst 1, 1) := by decide +kernel
theorem dX8_comesAll_59 : decode cX8_comesAll 59 = .ok (.if_icmp .ne 8, 3) := by decide +kernel
theorem dX8_comesAll_62 : decode cX8_comesAll 62 = .ok (.bipush 60, 2) := by decide +kernel
theorem dX8_comesAll_64 : decode cX8_comesAll 64 = .ok (.goto 20, 3) := by decide +kernel
theorem dX8_comesAll_67 : decode cX8_comesAll 67 = .ok (.iload_n 3, 1) := by decide +kernel
theorem dX8_comesAll_68 : decode cX8_comesAll 68 = .ok (.ifCond .eq 10, 3) := by decide +kernel
theorem dX8_comesAll_71 : decode cX8_comesAll 71 = .ok (.aload_n 0, 1) := by decide +kernel
theorem dX8_comesAll_72 : decode cX8_comesAll 72 = .ok (.getfield 157, 3) := by decide +kernel
theorem dX8_comesAll_75 : decode cX8_comesAll 75 = .ok (.goto 9, 3) := by decide +kernel
theorem dX8_comesAll_78 : decode cX8_comesAll 78 = .ok (.aload_n 0, 1) := by decide +kernel
theorem dX8_comesAll_79 : decode cX8_comesAll 79 = .ok (.getfield 47, 3) := by decide +kernel
theorem dX8_comesAll_82 : decode cX8_comesAll 82 = .ok (.iload_n 2, 1) := by decide +kernel
theorem dX8_comesAll_83 : decode cX8_comesAll 83 = .ok (.iaload, 1) := by decide +kernel
theorem dX8_comesAll_84 : decode cX8_comesAll 84 = .ok (.istore 4, 2) := by decide +kernel
theorem dX8_comesAll_86 : decode cX8_comesAll 86 = .ok (.iload 4, 2) := by decide +kernel
theorem dX8_comesAll_88 : decode cX8_comesAll 88 = .ok (.iload 4, 2) := by decide +kernel
theorem dX8_comesAll_90 : decode cX8_comesAll 90 = .ok (.bipush 60, 2) := by decide +kernel
theorem dX8_comesAll_92 : decode cX8_comesAll 92 = .ok (.if_icmp .ge 24, 3) := by decide +kernel
theorem dX8_comesAll_95 : decode cX8_comesAll 95 = .ok (.aload_n 0, 1) := by decide +kernel
theorem dX8_comesAll_96 : decode cX8_comesAll 96 = .ok (.getfield 172, 3) := by decide +kernel
theorem dX8_comesAll_99 : decode cX8_comesAll 99 = .ok (.iload_n 2, 1) := by decide +kernel
theorem dX8_comesAll_100 : decode cX8_comesAll 100 = .ok (.ishr, 1) := by decide +kernel
theorem dX8_comesAll_101 : decode cX8_comesAll 101 = .ok (.iconst 1, 1) := by decide +kernel
theorem dX8_comesAll_102 : decode cX8_comesAll 102 = .ok (.iand, 1) := by decide +kernel
theorem dX8_comesAll_103 : decode cX8_comesAll 103 = .ok (.iconst 1, 1) := by decide +kernel
theorem dX8_comesAll_104 : decode cX8_comesAll 104 = .ok (.if_icmp .ne 12, 3) := by decide +kernel
theorem dX8_comesAll_107 : decode cX8_comesAll 107 = .ok (.aload_n 0, 1) := by decide +kernel
theorem dX8_comesAll_108 : decode cX8_comesAll 108 = .ok (.getfield 31, 3) := by decide +kernel
theorem dX8_comesAll_111 : decode cX8_comesAll 111 = .ok (.iload_n 2, 1) := by decide +kernel
theorem dX8_comesAll_112 : decode cX8_comesAll 112 = .ok (.iaload, 1) := by decide +kernel
theorem dX8_comesAll_113 : decode cX8_comesAll 113 = .ok (.goto 4, 3) := by decide +kernel
theorem dX8_comesAll_116 : decode cX8_comesAll 116 = .ok (.iconst 0, 1) := by decide +kernel
theorem dX8_comesAll_117 : decode cX8_comesAll 117 = .ok (.iadd, 1) := by decide +kernel
theorem dX8_comesAll_118 : decode cX8_comesAll 118 = .ok (.istore 4, 2) := by decide +kernel
theorem dX8_comesAll_120 : decode cX8_comesAll 120 = .ok (.aload_n 0, 1) := by decide +kernel
theorem dX8_comesAll_121 : decode cX8_comesAll 121 = .ok (.getfield 50, 3) := by decide +kernel
theorem dX8_comesAll_124 : decode cX8_comesAll 124 = .ok (.iload_n 2, 1) := by decide +kernel
theorem dX8_comesAll_125 : decode cX8_comesAll 125 = .ok (.iload 4, 2) := by decide +kernel
theorem dX8_comesAll_127 : decode cX8_comesAll 127 = .ok (.bipush 60, 2) := by decide +kernel
theorem dX8_comesAll_129 : decode cX8_comesAll 129 = .ok (.if_icmp .le 8, 3) := by decide +kernel
theorem dX8_comesAll_132 : decode cX8_comesAll 132 = .ok (.bipush 60, 2) := by decide +kernel
theorem dX8_comesAll_134 : decode cX8_comesAll 134 = .ok (.goto 5, 3) := by decide +kernel
theorem dX8_comesAll_137 : decode cX8_comesAll 137 = .ok (.iload 4, 2) := by decide +kernel
theorem dX8_comesAll_139 : decode cX8_comesAll 139 = .ok (.iastore, 1) := by decide +kernel
theorem dX8_comesAll_140 : decode cX8_comesAll 140 = .ok (.iload_n 1, 1) := by decide +kernel
theorem dX8_comesAll_141 : decode cX8_comesAll 141 = .ok (.ifCond .ne 11, 3) := by decide +kernel
theorem dX8_comesAll_144 : decode cX8_comesAll 144 = .ok (.aload_n 0, 1) := by decide +kernel
theorem dX8_comesAll_145 : decode cX8_comesAll 145 = .ok (.iload_n 2, 1) := by decide +kernel
theorem dX8_comesAll_146 : decode cX8_comesAll 146 = .ok (.invokevirtual 175, 3) := by decide +kernel
theorem dX8_comesAll_149 : decode cX8_comesAll 149 = .ok (.ifCond .eq 7, 3) := by decide +kernel
theorem dX8_comesAll_152 : decode cX8_comesAll 152 = .ok (.iconst 1, 1) := by decide +kernel
theorem dX8_comesAll_153 : decode cX8_comesAll 153 = .ok (.goto 4, 3) := by decide +kernel
theorem dX8_comesAll_156 : decode cX8_comesAll 156 = .ok (.iconst 0, 1) := by decide +kernel
theorem dX8_comesAll_157 : decode cX8_comesAll 157 = .ok (.istore_n 1, 1) := by decide +kernel
theorem dX8_comesAll_158 : decode cX8_comesAll 158 = .ok (.iinc 2 1, 3) := by decide +kernel
theorem dX8_comesAll_161 : decode cX8_comesAll 161 = .ok (.goto (-157), 3) := by decide +kernel
theorem dX8_comesAll_164 : decode cX8_comesAll 164 = .ok (.iconst 0, 1) := by decide +kernel
theorem dX8_comesAll_165 : decode cX8_comesAll 165 = .ok (.istore_n 2, 1) := by decide +kernel
theorem dX8_comesAll_166 : decode cX8_comesAll 166 = .ok (.iload_n 2, 1) := by decide +kernel
theorem dX8_comesAll_167 : decode cX8_comesAll 167 = .ok (.bipush 60, 2) := by decide +kernel
theorem dX8_comesAll_169 : decode cX8_comesAll 169 = .ok (.if_icmp .ge 139, 3) := by decide +kernel
theorem dX8_comesAll_172 : decode cX8_comesAll 172 = .ok (.iload_n 1, 1) := by decide +kernel
theorem dX8_comesAll_173 : decode cX8_comesAll 173 = .ok (.ifCond .eq 135, 3) := by decide +kernel
theorem dX8_comesAll_176 : decode cX8_comesAll 176 = .ok (.iconst 0, 1) := by decide +kernel
theorem dX8_comesAll_177 : decode cX8_comesAll 177 = .ok (.istore_n 3, 1) := by decide +kernel
theorem dX8_comesAll_178 : decode cX8_comesAll 178 = .ok (.iload_n 3, 1) := by decide +kernel
theorem dX8_comesAll_179 : decode cX8_comesAll 179 = .ok (.aload_n 0, 1) := by decide +kernel
theorem dX8_comesAll_180 : decode cX8_comesAll 180 = .ok (.getfield 99, 3) := by decide +kernel
theorem dX8_comesAll_183 : decode cX8_comesAll 183 = .ok (.if_icmp .ge 119, 3) := by decide +kernel
theorem dX8_comesAll_186 : decode cX8_comesAll 186 = .ok (.aload_n 0, 1) := by decide +kernel
theorem dX8_comesAll_187 : decode cX8_comesAll 187 = .ok (.iload_n 3, 1) := by decide +kernel
theorem dX8_comesAll_188 : decode cX8_comesAll 188 = .ok (.invokevirtual 175, 3) := by decide +kernel
theorem dX8_comesAll_191 : decode cX8_comesAll 191 = .ok (.ifCond .eq 105, 3) := by decide +kernel
theorem dX8_comesAll_194 : decode cX8_comesAll 194 = .ok (.aload_n 0, 1) := by decide +kernel
theorem dX8_comesAll_195 : decode cX8_comesAll 195 = .ok (.getfield 50, 3) := by decide +kernel
theorem dX8_comesAll_198 : decode cX8_comesAll 198 = .ok (.iload_n 3, 1) := by decide +kernel
theorem dX8_comesAll_199 : decode cX8_comesAll 199 = .ok (.iaload, 1) := by decide +kernel
theorem dX8_comesAll_200 : decode cX8_comesAll 200 = .ok (.bipush 60, 2) := by decide +kernel
theorem dX8_comesAll_202 : decode cX8_comesAll 202 = .ok (.if_icmp .ne 94, 3) := by decide +kernel
theorem dX8_comesAll_205 : decode cX8_comesAll 205 = .ok (.iconst 0, 1) := by decide +kernel
theorem dX8_comesAll_206 : decode cX8_comesAll 206 = .ok (.istore 4, 2) := by decide +kernel
theorem dX8_comesAll_208 : decode cX8_comesAll 208 = .ok (.iconst 0, 1) := by decide +kernel
theorem dX8_comesAll_209 : decode cX8_comesAll 209 = .ok (.istore 5, 2) := by decide +kernel
theorem dX8_comesAll_211 : decode cX8_comesAll 211 = .ok (.iload 5, 2) := by decide +kernel
theorem dX8_comesAll_213 : decode cX8_comesAll 213 = .ok (.aload_n 0, 1) := by decide +kernel
theorem dX8_comesAll_214 : decode cX8_comesAll 214 = .ok (.getfield 99, 3) := by decide +kernel
theorem dX8_comesAll_217 : decode cX8_comesAll 217 = .ok (.if_icmp .ge 36, 3) := by decide +kernel
theorem dX8_comesAll_220 : decode cX8_comesAll 220 = .ok (.iload 4, 2) := by decide +kernel
theorem dX8_comesAll_222 : decode cX8_comesAll 222 = .ok (.iload 5, 2) := by decide +kernel
theorem dX8_comesAll_224 : decode cX8_comesAll 224 = .ok (.iload_n 3, 1) := by decide +kernel
theorem dX8_comesAll_225 : decode cX8_comesAll 225 = .ok (.if_icmp .eq 18, 3) := by decide +kernel
theorem dX8_comesAll_228 : decode cX8_comesAll 228 = .ok (.aload_n 0, 1) := by decide +kernel
theorem dX8_comesAll_229 : decode cX8_comesAll 229 = .ok (.getfield 50, 3) := by decide +kernel
theorem dX8_comesAll_232 : decode cX8_comesAll 232 = .ok (.iload 5, 2) := by decide +kernel
theorem dX8_comesAll_234 : decode cX8_comesAll 234 = .ok (.iaload, 1) := by decide +kernel
theorem dX8_comesAll_235 : decode cX8_comesAll 235 = .ok (.iload_n 2, 1) := by decide +kernel
theorem dX8_comesAll_236 : decode cX8_comesAll 236 = .ok (.if_icmp .gt 7, 3) := by decide +kernel
theorem dX8_comesAll_239 : decode cX8_comesAll 239 = .ok (.iconst 1, 1) := by decide +kernel
theorem dX8_comesAll_240 : decode cX8_comesAll 240 = .ok (.goto 4, 3) := by decide +kernel
theorem dX8_comesAll_243 : decode cX8_comesAll 243 = .ok (.iconst 0, 1) := by decide +kernel
theorem dX8_comesAll_244 : decode cX8_comesAll 244 = .ok (.iadd, 1) := by decide +kernel
theorem dX8_comesAll_245 : decode cX8_comesAll 245 = .ok (.istore 4, 2) := by decide +kernel
theorem dX8_comesAll_247 : decode cX8_comesAll 247 = .ok (.iinc 5 1, 3) := by decide +kernel
theorem dX8_comesAll_250 : decode cX8_comesAll 250 = .ok (.goto (-39), 3) := by decide +kernel
theorem dX8_comesAll_253 : decode cX8_comesAll 253 = .ok (.aload_n 0, 1) := by decide +kernel
theorem dX8_comesAll_254 : decode cX8_comesAll 254 = .ok (.getfield 50, 3) := by decide +kernel
theorem dX8_comesAll_257 : decode cX8_comesAll 257 = .ok (.iload_n 3, 1) := by decide +kernel
theorem dX8_comesAll_258 : decode cX8_comesAll 258 = .ok (.iload 4, 2) := by decide +kernel
theorem dX8_comesAll_260 : decode cX8_comesAll 260 = .ok (.aload_n 0, 1) := by decide +kernel
theorem dX8_comesAll_261 : decode cX8_comesAll 261 = .ok (.getfield 16, 3) := by decide +kernel
theorem dX8_comesAll_264 : decode cX8_comesAll 264 = .ok (.iload_n 3, 1) := by decide +kernel
theorem dX8_comesAll_265 : decode cX8_comesAll 265 = .ok (.iaload, 1) := by decide +kernel
theorem dX8_comesAll_266 : decode cX8_comesAll 266 = .ok (.if_icmp .lt 27, 3) := by decide +kernel
theorem dX8_comesAll_269 : decode cX8_comesAll 269 = .ok (.iload_n 2, 1) := by decide +kernel
theorem dX8_comesAll_270 : decode cX8_comesAll 270 = .ok (.aload_n 0, 1) := by decide +kernel
theorem dX8_comesAll_271 : decode cX8_comesAll 271 = .ok (.getfield 13, 3) := by decide +kernel
theorem dX8_comesAll_274 : decode cX8_comesAll 274 = .ok (.iload_n 3, 1) := by decide +kernel
theorem dX8_comesAll_275 : decode cX8_comesAll 275 = .ok (.iaload, 1) := by decide +kernel
theorem dX8_comesAll_276 : decode cX8_comesAll 276 = .ok (.iadd, 1) := by decide +kernel
theorem dX8_comesAll_277 : decode cX8_comesAll 277 = .ok (.bipush 60, 2) := by decide +kernel
theorem dX8_comesAll_279 : decode cX8_comesAll 279 = .ok (.if_icmp .ge 14, 3) := by decide +kernel
theorem dX8_comesAll_282 : decode cX8_comesAll 282 = .ok (.iload_n 2, 1) := by decide +kernel
theorem dX8_comesAll_283 : decode cX8_comesAll 283 = .ok (.aload_n 0, 1) := by decide +kernel
theorem dX8_comesAll_284 : decode cX8_comesAll 284 = .ok (.getfield 13, 3) := by decide +kernel
theorem dX8_comesAll_287 : decode cX8_comesAll 287 = .ok (.iload_n 3, 1) := by decide +kernel
theorem dX8_comesAll_288 : decode cX8_comesAll 288 = .ok (.iaload, 1) := by decide +kernel
theorem dX8_comesAll_289 : decode cX8_comesAll 289 = .ok (.iadd, 1) := by decide +kernel
theorem dX8_comesAll_290 : decode cX8_comesAll 290 = .ok (.goto 5, 3) := by decide +kernel
theorem dX8_comesAll_293 : decode cX8_comesAll 293 = .ok (.bipush 60, 2) := by decide +kernel
theorem dX8_comesAll_295 : decode cX8_comesAll 295 = .ok (.iastore, 1) := by decide +kernel
theorem dX8_comesAll_296 : decode cX8_comesAll 296 = .ok (.iinc 3 1, 3) := by decide +kernel
theorem dX8_comesAll_299 : decode cX8_comesAll 299 = .ok (.goto (-121), 3) := by decide +kernel
theorem dX8_comesAll_302 : decode cX8_comesAll 302 = .ok (.iinc 2 1, 3) := by decide +kernel
theorem dX8_comesAll_305 : decode cX8_comesAll 305 = .ok (.goto (-139), 3) := by decide +kernel
theorem dX8_comesAll_308 : decode cX8_comesAll 308 = .ok (.return_, 1) := by decide +kernel
theorem dX8_beginsNow_0 : decode cX8_beginsNow 0 = .ok (.iconst 0, 1) := by decide +kernel
theorem dX8_beginsNow_1 : decode cX8_beginsNow 1 = .ok (.istore_n 1, 1) := by decide +kernel
theorem dX8_beginsNow_2 : decode cX8_beginsNow 2 = .ok (.iload_n 1, 1) := by decide +kernel
theorem dX8_beginsNow_3 : decode cX8_beginsNow 3 = .ok (.aload_n 0, 1) := by decide +kernel
theorem dX8_beginsNow_4 : decode cX8_beginsNow 4 = .ok (.getfield 99, 3) := by decide +kernel
theorem dX8_beginsNow_7 : decode cX8_beginsNow 7 = .ok (.if_icmp .ge 64, 3) := by decide +kernel
theorem dX8_beginsNow_10 : decode cX8_beginsNow 10 = .ok (.iload_n 1, 1) := by decide +kernel
theorem dX8_beginsNow_11 : decode cX8_beginsNow 11 = .ok (.istore_n 2, 1) := by decide +kernel
theorem dX8_beginsNow_12 : decode cX8_beginsNow 12 = .ok (.iload_n 2, 1) := by decide +kernel
theorem dX8_beginsNow_13 : decode cX8_beginsNow 13 = .ok (.ifCond .le 40, 3) := by decide +kernel
theorem dX8_beginsNow_16 : decode cX8_beginsNow 16 = .ok (.aload_n 0, 1) := by decide +kernel
theorem dX8_beginsNow_17 : decode cX8_beginsNow 17 = .ok (.getfield 53, 3) := by decide +kernel
theorem dX8_beginsNow_20 : decode cX8_beginsNow 20 = .ok (.iload_n 2, 1) := by decide +kernel
theorem dX8_beginsNow_21 : decode cX8_beginsNow 21 = .ok (.iconst 1, 1) := by decide +kernel
theorem dX8_beginsNow_22 : decode cX8_beginsNow 22 = .ok (.isub, 1) := by decide +kernel
theorem dX8_beginsNow_23 : decode cX8_beginsNow 23 = .ok (.iaload, 1) := by decide +kernel
theorem dX8_beginsNow_24 : decode cX8_beginsNow 24 = .ok (.aload_n 0, 1) := by decide +kernel
theorem dX8_beginsNow_25 : decode cX8_beginsNow 25 = .ok (.getfield 50, 3) := by decide +kernel
theorem dX8_beginsNow_28 : decode cX8_beginsNow 28 = .ok (.iload_n 1, 1) := by decide +kernel
theorem dX8_beginsNow_29 : decode cX8_beginsNow 29 = .ok (.iaload, 1) := by decide +kernel
theorem dX8_beginsNow_30 : decode cX8_beginsNow 30 = .ok (.if_icmp .le 23, 3) := by decide +kernel
theorem dX8_beginsNow_33 : decode cX8_beginsNow 33 = .ok (.aload_n 0, 1) := by decide +kernel
theorem dX8_beginsNow_34 : decode cX8_beginsNow 34 = .ok (.getfield 53, 3) := by decide +kernel
theorem dX8_beginsNow_37 : decode cX8_beginsNow 37 = .ok (.iload_n 2, 1) := by decide +kernel
theorem dX8_beginsNow_38 : decode cX8_beginsNow 38 = .ok (.aload_n 0, 1) := by decide +kernel
theorem dX8_beginsNow_39 : decode cX8_beginsNow 39 = .ok (.getfield 53, 3) := by decide +kernel
theorem dX8_beginsNow_42 : decode cX8_beginsNow 42 = .ok (.iload_n 2, 1) := by decide +kernel
theorem dX8_beginsNow_43 : decode cX8_beginsNow 43 = .ok (.iconst 1, 1) := by decide +kernel
theorem dX8_beginsNow_44 : decode cX8_beginsNow 44 = .ok (.isub, 1) := by decide +kernel
theorem dX8_beginsNow_45 : decode cX8_beginsNow 45 = .ok (.iaload, 1) := by decide +kernel
theorem dX8_beginsNow_46 : decode cX8_beginsNow 46 = .ok (.iastore, 1) := by decide +kernel
theorem dX8_beginsNow_47 : decode cX8_beginsNow 47 = .ok (.iinc 2 (-1), 3) := by decide +kernel
theorem dX8_beginsNow_50 : decode cX8_beginsNow 50 = .ok (.goto (-38), 3) := by decide +kernel
theorem dX8_beginsNow_53 : decode cX8_beginsNow 53 = .ok (.aload_n 0, 1) := by decide +kernel
theorem dX8_beginsNow_54 : decode cX8_beginsNow 54 = .ok (.getfield 53, 3) := by decide +kernel
theorem dX8_beginsNow_57 : decode cX8_beginsNow 57 = .ok (.iload_n 2, 1) := by decide +kernel
theorem dX8_beginsNow_58 : decode cX8_beginsNow 58 = .ok (.aload_n 0, 1) := by decide +kernel
theorem dX8_beginsNow_59 : decode cX8_beginsNow 59 = .ok (.getfield 50, 3) := by decide +kernel
theorem dX8_beginsNow_62 : decode cX8_beginsNow 62 = .ok (.iload_n 1, 1) := by decide +kernel
theorem dX8_beginsNow_63 : decode cX8_beginsNow 63 = .ok (.iaload, 1) := by decide +kernel
theorem dX8_beginsNow_64 : decode cX8_beginsNow 64 = .ok (.iastore, 1) := by decide +kernel
theorem dX8_beginsNow_65 : decode cX8_beginsNow 65 = .ok (.iinc 1 1, 3) := by decide +kernel
theorem dX8_beginsNow_68 : decode cX8_beginsNow 68 = .ok (.goto (-66), 3) := by decide +kernel
theorem dX8_beginsNow_71 : decode cX8_beginsNow 71 = .ok (.aload_n 0, 1) := by decide +kernel
theorem dX8_beginsNow_72 : decode cX8_beginsNow 72 = .ok (.bipush 60, 2) := by decide +kernel
theorem dX8_beginsNow_74 : decode cX8_beginsNow 74 = .ok (.putfield 178, 3) := by decide +kernel
theorem dX8_beginsNow_77 : decode cX8_beginsNow 77 = .ok (.iconst 0, 1) := by decide +kernel
theorem dX8_beginsNow_78 : decode cX8_beginsNow 78 = .ok (.istore_n 1, 1) := by decide +kernel
theorem dX8_beginsNow_79 : decode cX8_beginsNow 79 = .ok (.iconst 0, 1) := by decide +kernel
theorem dX8_beginsNow_80 : decode cX8_beginsNow 80 = .ok (.istore_n 2, 1) := by decide +kernel
theorem dX8_beginsNow_81 : decode cX8_beginsNow 81 = .ok (.iload_n 2, 1) := by decide +kernel
theorem dX8_beginsNow_82 : decode cX8_beginsNow 82 = .ok (.aload_n 0, 1) := by decide +kernel
theorem dX8_beginsNow_83 : decode cX8_beginsNow 83 = .ok (.getfield 143, 3) := by decide +kernel
theorem dX8_beginsNow_86 : decode cX8_beginsNow 86 = .ok (.if_icmp .ge 180, 3) := by decide +kernel
theorem dX8_beginsNow_89 : decode cX8_beginsNow 89 = .ok (.aload_n 0, 1) := by decide +kernel
theorem dX8_beginsNow_90 : decode cX8_beginsNow 90 = .ok (.getfield 40, 3) := by decide +kernel
theorem dX8_beginsNow_93 : decode cX8_beginsNow 93 = .ok (.iload_n 2, 1) := by decide +kernel
theorem dX8_beginsNow_94 : decode cX8_beginsNow 94 = .ok (.iaload, 1) := by decide +kernel
theorem dX8_beginsNow_95 : decode cX8_beginsNow 95 = .ok (.istore_n 3, 1) := by decide +kernel
theorem dX8_beginsNow_96 : decode cX8_beginsNow 96 = .ok (.aload_n 0, 1) := by decide +kernel
theorem dX8_beginsNow_97 : decode cX8_beginsNow 97 = .ok (.getfield 37, 3) := by decide +kernel
theorem dX8_beginsNow_100 : decode cX8_beginsNow 100 = .ok (.iload_n 2, 1) := by decide +kernel
theorem dX8_beginsNow_101 : decode cX8_beginsNow 101 = .ok (.iaload, 1) := by decide +kernel
theorem dX8_beginsNow_102 : decode cX8_beginsNow 102 = .ok (.bipush 109, 2) := by decide +kernel
theorem dX8_beginsNow_104 : decode cX8_beginsNow 104 = .ok (.if_icmp .ne 7, 3) := by decide +kernel
theorem dX8_beginsNow_107 : decode cX8_beginsNow 107 = .ok (.iload_n 3, 1) := by decide +kernel
theorem dX8_beginsNow_108 : decode cX8_beginsNow 108 = .ok (.goto 75, 3) := by decide +kernel
theorem dX8_beginsNow_111 : decode cX8_beginsNow 111 = .ok (.aload_n 0, 1) := by decide +kernel
theorem dX8_beginsNow_112 : decode cX8_beginsNow 112 = .ok (.getfield 37, 3) := by decide +kernel
theorem dX8_beginsNow_115 : decode cX8_beginsNow 115 = .ok (.iload_n 2, 1) := by decide +kernel
theorem dX8_beginsNow_116 : decode cX8_beginsNow 116 = .ok (.iaload, 1) := by decide +kernel
theorem dX8_beginsNow_117 : decode cX8_beginsNow 117 = .ok (.bipush 116, 2) := by decide +kernel
theorem dX8_beginsNow_119 : decode cX8_beginsNow 119 = .ok (.if_icmp .ne 10, 3) := by decide +kernel
theorem dX8_beginsNow_122 : decode cX8_beginsNow 122 = .ok (.aload_n 0, 1) := by decide +kernel
theorem dX8_beginsNow_123 : decode cX8_beginsNow 123 = .ok (.getfield 157, 3) := by decide +kernel
theorem dX8_beginsNow_126 : decode cX8_beginsNow 126 = .ok (.goto 57, 3) := by decide +kernel
theorem dX8_beginsNow_129 : decode cX8_beginsNow 129 = .ok (.aload_n 0, 1) := by decide +kernel
theorem dX8_beginsNow_130 : decode cX8_beginsNow 130 = .ok (.getfield 37, 3) := by decide +kernel
theorem dX8_beginsNow_133 : decode cX8_beginsNow 133 = .ok (.iload_n 2, 1) := by decide +kernel
theorem dX8_beginsNow_134 : decode cX8_beginsNow 134 = .ok (.iaload, 1) := by decide +kernel
theorem dX8_beginsNow_135 : decode cX8_beginsNow 135 = .ok (.bipush 110, 2) := by decide +kernel
theorem dX8_beginsNow_137 : decode cX8_beginsNow 137 = .ok (.if_icmp .ne 27, 3) := by decide +kernel
theorem dX8_beginsNow_140 : decode cX8_beginsNow 140 = .ok (.iload_n 3, 1) := by decide +kernel
theorem dX8_beginsNow_141 : decode cX8_beginsNow 141 = .ok (.aload_n 0, 1) := by decide +kernel
theorem dX8_beginsNow_142 : decode cX8_beginsNow 142 = .ok (.getfield 99, 3) := by decide +kernel
theorem dX8_beginsNow_145 : decode cX8_beginsNow 145 = .ok (.if_icmp .gt 14, 3) := by decide +kernel
theorem dX8_beginsNow_148 : decode cX8_beginsNow 148 = .ok (.aload_n 0, 1) := by decide +kernel
theorem dX8_beginsNow_149 : decode cX8_beginsNow 149 = .ok (.getfield 53, 3) := by decide +kernel
theorem dX8_beginsNow_152 : decode cX8_beginsNow 152 = .ok (.iload_n 3, 1) := by decide +kernel
theorem dX8_beginsNow_153 : decode cX8_beginsNow 153 = .ok (.iconst 1, 1) := by decide +kernel
theorem dX8_beginsNow_154 : decode cX8_beginsNow 154 = .ok (.isub, 1) := by decide +kernel
theorem dX8_beginsNow_155 : decode cX8_beginsNow 155 = .ok (.iaload, 1) := by decide +kernel
theorem dX8_beginsNow_156 : decode cX8_beginsNow 156 = .ok (.goto 27, 3) := by decide +kernel
theorem dX8_beginsNow_159 : decode cX8_beginsNow 159 = .ok (.bipush 60, 2) := by decide +kernel
theorem dX8_beginsNow_161 : decode cX8_beginsNow 161 = .ok (.goto 22, 3) := by decide +kernel
theorem dX8_beginsNow_164 : decode cX8_beginsNow 164 = .ok (.iload_n 3, 1) := by decide +kernel
theorem dX8_beginsNow_165 : decode cX8_beginsNow 165 = .ok (.aload_n 0, 1) := by decide +kernel
theorem dX8_beginsNow_166 : decode cX8_beginsNow 166 = .ok (.getfield 99, 3) := by decide +kernel
theorem dX8_beginsNow_169 : decode cX8_beginsNow 169 = .ok (.if_icmp .ge 12, 3) := by decide +kernel
theorem dX8_beginsNow_172 : decode cX8_beginsNow 172 = .ok (.aload_n 0, 1) := by decide +kernel
theorem dX8_beginsNow_173 : decode cX8_beginsNow 173 = .ok (.getfield 50, 3) := by decide +kernel
theorem dX8_beginsNow_176 : decode cX8_beginsNow 176 = .ok (.iload_n 3, 1) := by decide +kernel
theorem dX8_beginsNow_177 : decode cX8_beginsNow 177 = .ok (.iaload, 1) := by decide +kernel
theorem dX8_beginsNow_178 : decode cX8_beginsNow 178 = .ok (.goto 5, 3) := by decide +kernel
theorem dX8_beginsNow_181 : decode cX8_beginsNow 181 = .ok (.bipush 60, 2) := by decide +kernel
theorem dX8_beginsNow_183 : decode cX8_beginsNow 183 = .ok (.istore 4, 2) := by decide +kernel
theorem dX8_beginsNow_185 : decode cX8_beginsNow 185 = .ok (.aload_n 0, 1) := by decide +kernel
theorem dX8_beginsNow_186 : decode cX8_beginsNow 186 = .ok (.getfield 43, 3) := by decide +kernel
theorem dX8_beginsNow_189 : decode cX8_beginsNow 189 = .ok (.iload_n 2, 1) := by decide +kernel
theorem dX8_beginsNow_190 : decode cX8_beginsNow 190 = .ok (.baload, 1) := by decide +kernel
theorem dX8_beginsNow_191 : decode cX8_beginsNow 191 = .ok (.ifCond .ne 9, 3) := by decide +kernel
theorem dX8_beginsNow_194 : decode cX8_beginsNow 194 = .ok (.iload 4, 2) := by decide +kernel
theorem dX8_beginsNow_196 : decode cX8_beginsNow 196 = .ok (.iload_n 1, 1) := by decide +kernel
theorem dX8_beginsNow_197 : decode cX8_beginsNow 197 = .ok (.if_icmp .le 8, 3) := by decide +kernel
theorem dX8_beginsNow_200 : decode cX8_beginsNow 200 = .ok (.iload 4, 2) := by decide +kernel
theorem dX8_beginsNow_202 : decode cX8_beginsNow 202 = .ok (.goto 4, 3) := by decide +kernel
theorem dX8_beginsNow_205 : decode cX8_beginsNow 205 = .ok (.iload_n 1, 1) := by decide +kernel
theorem dX8_beginsNow_206 : decode cX8_beginsNow 206 = .ok (.istore_n 1, 1) := by decide +kernel
theorem dX8_beginsNow_207 : decode cX8_beginsNow 207 = .ok (.iload_n 2, 1) := by decide +kernel
theorem dX8_beginsNow_208 : decode cX8_beginsNow 208 = .ok (.aload_n 0, 1) := by decide +kernel
theorem dX8_beginsNow_209 : decode cX8_beginsNow 209 = .ok (.getfield 143, 3) := by decide +kernel
theorem dX8_beginsNow_212 : decode cX8_beginsNow 212 = .ok (.iconst 1, 1) := by decide +kernel
theorem dX8_beginsNow_213 : decode cX8_beginsNow 213 = .ok (.isub, 1) := by decide +kernel
theorem dX8_beginsNow_214 : decode cX8_beginsNow 214 = .ok (.if_icmp .eq 14, 3) := by decide +kernel
theorem dX8_beginsNow_217 : decode cX8_beginsNow 217 = .ok (.aload_n 0, 1) := by decide +kernel
theorem dX8_beginsNow_218 : decode cX8_beginsNow 218 = .ok (.getfield 43, 3) := by decide +kernel
theorem dX8_beginsNow_221 : decode cX8_beginsNow 221 = .ok (.iload_n 2, 1) := by decide +kernel
theorem dX8_beginsNow_222 : decode cX8_beginsNow 222 = .ok (.iconst 1, 1) := by decide +kernel
theorem dX8_beginsNow_223 : decode cX8_beginsNow 223 = .ok (.iadd, 1) := by decide +kernel
theorem dX8_beginsNow_224 : decode cX8_beginsNow 224 = .ok (.baload, 1) := by decide +kernel
theorem dX8_beginsNow_225 : decode cX8_beginsNow 225 = .ok (.ifCond .eq 7, 3) := by decide +kernel
theorem dX8_beginsNow_228 : decode cX8_beginsNow 228 = .ok (.iconst 1, 1) := by decide +kernel
theorem dX8_beginsNow_229 : decode cX8_beginsNow 229 = .ok (.goto 4, 3) := by decide +kernel
theorem dX8_beginsNow_232 : decode cX8_beginsNow 232 = .ok (.iconst 0, 1) := by decide +kernel
theorem dX8_beginsNow_233 : decode cX8_beginsNow 233 = .ok (.istore 5, 2) := by decide +kernel
theorem dX8_beginsNow_235 : decode cX8_beginsNow 235 = .ok (.aload_n 0, 1) := by decide +kernel
theorem dX8_beginsNow_236 : decode cX8_beginsNow 236 = .ok (.iload 5, 2) := by decide +kernel
theorem dX8_beginsNow_238 : decode cX8_beginsNow 238 = .ok (.ifCond .eq 15, 3) := by decide +kernel
theorem dX8_beginsNow_241 : decode cX8_beginsNow 241 = .ok (.iload_n 1, 1) := by decide +kernel
theorem dX8_beginsNow_242 : decode cX8_beginsNow 242 = .ok (.aload_n 0, 1) := by decide +kernel
theorem dX8_beginsNow_243 : decode cX8_beginsNow 243 = .ok (.getfield 178, 3) := by decide +kernel
theorem dX8_beginsNow_246 : decode cX8_beginsNow 246 = .ok (.if_icmp .ge 7, 3) := by decide +kernel
theorem dX8_beginsNow_249 : decode cX8_beginsNow 249 = .ok (.iload_n 1, 1) := by decide +kernel
theorem dX8_beginsNow_250 : decode cX8_beginsNow 250 = .ok (.goto 7, 3) := by decide +kernel
theorem dX8_beginsNow_253 : decode cX8_beginsNow 253 = .ok (.aload_n 0, 1) := by decide +kernel
theorem dX8_beginsNow_254 : decode cX8_beginsNow 254 = .ok (.getfield 178, 3) := by decide +kernel
theorem dX8_beginsNow_257 : decode cX8_beginsNow 257 = .ok (.putfield 178, 3) := by decide +kernel
theorem dX8_beginsNow_260 : decode cX8_beginsNow 260 = .ok (.iinc 2 1, 3) := by decide +kernel
theorem dX8_beginsNow_263 : decode cX8_beginsNow 263 = .ok (.goto (-182), 3) := by decide +kernel
theorem dX8_beginsNow_266 : decode cX8_beginsNow 266 = .ok (.return_, 1) := by decide +kernel
theorem dX8_goes_0 : decode cX8_goes 0 = .ok (.aload_n 0, 1) := by decide +kernel
theorem dX8_goes_1 : decode cX8_goes 1 = .ok (.invokevirtual 181, 3) := by decide +kernel
theorem dX8_goes_4 : decode cX8_goes 4 = .ok (.aload_n 0, 1) := by decide +kernel
theorem dX8_goes_5 : decode cX8_goes 5 = .ok (.invokevirtual 154, 3) := by decide +kernel
theorem dX8_goes_8 : decode cX8_goes 8 = .ok (.iconst (-1), 1) := by decide +kernel
theorem dX8_goes_9 : decode cX8_goes 9 = .ok (.if_icmp .ne 10, 3) := by decide +kernel
theorem dX8_goes_12 : decode cX8_goes 12 = .ok (.aload_n 0, 1) := by decide +kernel
theorem dX8_goes_13 : decode cX8_goes 13 = .ok (.invokevirtual 184, 3) := by decide +kernel
theorem dX8_goes_16 : decode cX8_goes 16 = .ok (.goto 9, 3) := by decide +kernel
theorem dX8_goes_19 : decode cX8_goes 19 = .ok (.aload_n 0, 1) := by decide +kernel
theorem dX8_goes_20 : decode cX8_goes 20 = .ok (.bipush 60, 2) := by decide +kernel
theorem dX8_goes_22 : decode cX8_goes 22 = .ok (.putfield 178, 3) := by decide +kernel
theorem dX8_goes_25 : decode cX8_goes 25 = .ok (.return_, 1) := by decide +kernel
theorem dX8_paysNow_0 : decode cX8_paysNow 0 = .ok (.aload_n 0, 1) := by decide +kernel
theorem dX8_paysNow_1 : decode cX8_paysNow 1 = .ok (.getfield 50, 3) := by decide +kernel
theorem dX8_paysNow_4 : decode cX8_paysNow 4 = .ok (.iload_n 1, 1) := by decide +kernel
theorem dX8_paysNow_5 : decode cX8_paysNow 5 = .ok (.iaload, 1) := by decide +kernel
theorem dX8_paysNow_6 : decode cX8_paysNow 6 = .ok (.bipush 60, 2) := by decide +kernel
theorem dX8_paysNow_8 : decode cX8_paysNow 8 = .ok (.if_icmp .ne 10, 3) := by decide +kernel
theorem dX8_paysNow_11 : decode cX8_paysNow 11 = .ok (.aload_n 0, 1) := by decide +kernel
theorem dX8_paysNow_12 : decode cX8_paysNow 12 = .ok (.getfield 25, 3) := by decide +kernel
theorem dX8_paysNow_15 : decode cX8_paysNow 15 = .ok (.iload_n 1, 1) := by decide +kernel
theorem dX8_paysNow_16 : decode cX8_paysNow 16 = .ok (.iaload, 1) := by decide +kernel
theorem dX8_paysNow_17 : decode cX8_paysNow 17 = .ok (.ireturn, 1) := by decide +kernel
theorem dX8_paysNow_18 : decode cX8_paysNow 18 = .ok (.aload_n 0, 1) := by decide +kernel
theorem dX8_paysNow_19 : decode cX8_paysNow 19 = .ok (.getfield 50, 3) := by decide +kernel
theorem dX8_paysNow_22 : decode cX8_paysNow 22 = .ok (.iload_n 1, 1) := by decide +kernel
theorem dX8_paysNow_23 : decode cX8_paysNow 23 = .ok (.iaload, 1) := by decide +kernel
theorem dX8_paysNow_24 : decode cX8_paysNow 24 = .ok (.aload_n 0, 1) := by decide +kernel
theorem dX8_paysNow_25 : decode cX8_paysNow 25 = .ok (.getfield 157, 3) := by decide +kernel
theorem dX8_paysNow_28 : decode cX8_paysNow 28 = .ok (.if_icmp .le 10, 3) := by decide +kernel
theorem dX8_paysNow_31 : decode cX8_paysNow 31 = .ok (.aload_n 0, 1) := by decide +kernel
theorem dX8_paysNow_32 : decode cX8_paysNow 32 = .ok (.getfield 160, 3) := by decide +kernel
theorem dX8_paysNow_35 : decode cX8_paysNow 35 = .ok (.goto 4, 3) := by decide +kernel
theorem dX8_paysNow_38 : decode cX8_paysNow 38 = .ok (.iconst 0, 1) := by decide +kernel
theorem dX8_paysNow_39 : decode cX8_paysNow 39 = .ok (.istore_n 2, 1) := by decide +kernel
theorem dX8_paysNow_40 : decode cX8_paysNow 40 = .ok (.aload_n 0, 1) := by decide +kernel
theorem dX8_paysNow_41 : decode cX8_paysNow 41 = .ok (.getfield 50, 3) := by decide +kernel
theorem dX8_paysNow_44 : decode cX8_paysNow 44 = .ok (.iload_n 1, 1) := by decide +kernel
theorem dX8_paysNow_45 : decode cX8_paysNow 45 = .ok (.iaload, 1) := by decide +kernel
theorem dX8_paysNow_46 : decode cX8_paysNow 46 = .ok (.aload_n 0, 1) := by decide +kernel
theorem dX8_paysNow_47 : decode cX8_paysNow 47 = .ok (.getfield 178, 3) := by decide +kernel
theorem dX8_paysNow_50 : decode cX8_paysNow 50 = .ok (.if_icmp .gt 42, 3) := by decide +kernel
theorem dX8_paysNow_53 : decode cX8_paysNow 53 = .ok (.iload_n 2, 1) := by decide +kernel
theorem dX8_paysNow_54 : decode cX8_paysNow 54 = .ok (.aload_n 0, 1) := by decide +kernel
theorem dX8_paysNow_55 : decode cX8_paysNow 55 = .ok (.getfield 19, 3) := by decide +kernel
theorem dX8_paysNow_58 : decode cX8_paysNow 58 = .ok (.iload_n 1, 1) := by decide +kernel
theorem dX8_paysNow_59 : decode cX8_paysNow 59 = .ok (.iaload, 1) := by decide +kernel
theorem dX8_paysNow_60 : decode cX8_paysNow 60 = .ok (.aload_n 0, 1) := by decide +kernel
theorem dX8_paysNow_61 : decode cX8_paysNow 61 = .ok (.getfield 178, 3) := by decide +kernel
theorem dX8_paysNow_64 : decode cX8_paysNow 64 = .ok (.aload_n 0, 1) := by decide +kernel
theorem dX8_paysNow_65 : decode cX8_paysNow 65 = .ok (.getfield 50, 3) := by decide +kernel
theorem dX8_paysNow_68 : decode cX8_paysNow 68 = .ok (.iload_n 1, 1) := by decide +kernel
theorem dX8_paysNow_69 : decode cX8_paysNow 69 = .ok (.iaload, 1) := by decide +kernel
theorem dX8_paysNow_70 : decode cX8_paysNow 70 = .ok (.isub, 1) := by decide +kernel
theorem dX8_paysNow_71 : decode cX8_paysNow 71 = .ok (.imul, 1) := by decide +kernel
theorem dX8_paysNow_72 : decode cX8_paysNow 72 = .ok (.iadd, 1) := by decide +kernel
theorem dX8_paysNow_73 : decode cX8_paysNow 73 = .ok (.aload_n 0, 1) := by decide +kernel
theorem dX8_paysNow_74 : decode cX8_paysNow 74 = .ok (.getfield 178, 3) := by decide +kernel
theorem dX8_paysNow_77 : decode cX8_paysNow 77 = .ok (.bipush 60, 2) := by decide +kernel
theorem dX8_paysNow_79 : decode cX8_paysNow 79 = .ok (.if_icmp .ge 10, 3) := by decide +kernel
theorem dX8_paysNow_82 : decode cX8_paysNow 82 = .ok (.aload_n 0, 1) := by decide +kernel
theorem dX8_paysNow_83 : decode cX8_paysNow 83 = .ok (.getfield 163, 3) := by decide +kernel
theorem dX8_paysNow_86 : decode cX8_paysNow 86 = .ok (.goto 4, 3) := by decide +kernel
theorem dX8_paysNow_89 : decode cX8_paysNow 89 = .ok (.iconst 0, 1) := by decide +kernel
theorem dX8_paysNow_90 : decode cX8_paysNow 90 = .ok (.isub, 1) := by decide +kernel
theorem dX8_paysNow_91 : decode cX8_paysNow 91 = .ok (.ireturn, 1) := by decide +kernel
theorem dX8_paysNow_92 : decode cX8_paysNow 92 = .ok (.iload_n 2, 1) := by decide +kernel
theorem dX8_paysNow_93 : decode cX8_paysNow 93 = .ok (.aload_n 0, 1) := by decide +kernel
theorem dX8_paysNow_94 : decode cX8_paysNow 94 = .ok (.getfield 22, 3) := by decide +kernel
theorem dX8_paysNow_97 : decode cX8_paysNow 97 = .ok (.iload_n 1, 1) := by decide +kernel
theorem dX8_paysNow_98 : decode cX8_paysNow 98 = .ok (.iaload, 1) := by decide +kernel
theorem dX8_paysNow_99 : decode cX8_paysNow 99 = .ok (.aload_n 0, 1) := by decide +kernel
theorem dX8_paysNow_100 : decode cX8_paysNow 100 = .ok (.getfield 50, 3) := by decide +kernel
theorem dX8_paysNow_103 : decode cX8_paysNow 103 = .ok (.iload_n 1, 1) := by decide +kernel
theorem dX8_paysNow_104 : decode cX8_paysNow 104 = .ok (.iaload, 1) := by decide +kernel
theorem dX8_paysNow_105 : decode cX8_paysNow 105 = .ok (.aload_n 0, 1) := by decide +kernel
theorem dX8_paysNow_106 : decode cX8_paysNow 106 = .ok (.getfield 178, 3) := by decide +kernel
theorem dX8_paysNow_109 : decode cX8_paysNow 109 = .ok (.isub, 1) := by decide +kernel
theorem dX8_paysNow_110 : decode cX8_paysNow 110 = .ok (.imul, 1) := by decide +kernel
theorem dX8_paysNow_111 : decode cX8_paysNow 111 = .ok (.iadd, 1) := by decide +kernel
theorem dX8_paysNow_112 : decode cX8_paysNow 112 = .ok (.ireturn, 1) := by decide +kernel
theorem dX8_paysAll_0 : decode cX8_paysAll 0 = .ok (.iconst 0, 1) := by decide +kernel
theorem dX8_paysAll_1 : decode cX8_paysAll 1 = .ok (.istore_n 1, 1) := by decide +kernel
theorem dX8_paysAll_2 : decode cX8_paysAll 2 = .ok (.iconst 0, 1) := by decide +kernel
theorem dX8_paysAll_3 : decode cX8_paysAll 3 = .ok (.istore_n 2, 1) := by decide +kernel
theorem dX8_paysAll_4 : decode cX8_paysAll 4 = .ok (.iload_n 2, 1) := by decide +kernel
theorem dX8_paysAll_5 : decode cX8_paysAll 5 = .ok (.aload_n 0, 1) := by decide +kernel
theorem dX8_paysAll_6 : decode cX8_paysAll 6 = .ok (.getfield 99, 3) := by decide +kernel
theorem dX8_paysAll_9 : decode cX8_paysAll 9 = .ok (.if_icmp .ge 17, 3) := by decide +kernel
theorem dX8_paysAll_12 : decode cX8_paysAll 12 = .ok (.iload_n 1, 1) := by decide +kernel
theorem dX8_paysAll_13 : decode cX8_paysAll 13 = .ok (.aload_n 0, 1) := by decide +kernel
theorem dX8_paysAll_14 : decode cX8_paysAll 14 = .ok (.iload_n 2, 1) := by decide +kernel
theorem dX8_paysAll_15 : decode cX8_paysAll 15 = .ok (.invokevirtual 187, 3) := by decide +kernel
theorem dX8_paysAll_18 : decode cX8_paysAll 18 = .ok (.iadd, 1) := by decide +kernel
theorem dX8_paysAll_19 : decode cX8_paysAll 19 = .ok (.istore_n 1, 1) := by decide +kernel
theorem dX8_paysAll_20 : decode cX8_paysAll 20 = .ok (.iinc 2 1, 3) := by decide +kernel
theorem dX8_paysAll_23 : decode cX8_paysAll 23 = .ok (.goto (-19), 3) := by decide +kernel
theorem dX8_paysAll_26 : decode cX8_paysAll 26 = .ok (.iload_n 1, 1) := by decide +kernel
theorem dX8_paysAll_27 : decode cX8_paysAll 27 = .ok (.ireturn, 1) := by decide +kernel
theorem dX8_begins_0 : decode cX8_begins 0 = .ok (.aload_n 0, 1) := by decide +kernel
theorem dX8_begins_1 : decode cX8_begins 1 = .ok (.invokevirtual 190, 3) := by decide +kernel
theorem dX8_begins_4 : decode cX8_begins 4 = .ok (.aload_n 0, 1) := by decide +kernel
theorem dX8_begins_5 : decode cX8_begins 5 = .ok (.invokevirtual 193, 3) := by decide +kernel
theorem dX8_begins_8 : decode cX8_begins 8 = .ok (.aload_n 0, 1) := by decide +kernel
theorem dX8_begins_9 : decode cX8_begins 9 = .ok (.getfield 178, 3) := by decide +kernel
theorem dX8_begins_12 : decode cX8_begins 12 = .ok (.ireturn, 1) := by decide +kernel
theorem dX8_comes_0 : decode cX8_comes 0 = .ok (.aload_n 0, 1) := by decide +kernel
theorem dX8_comes_1 : decode cX8_comes 1 = .ok (.iload_n 1, 1) := by decide +kernel
theorem dX8_comes_2 : decode cX8_comes 2 = .ok (.invokevirtual 103, 3) := by decide +kernel
theorem dX8_comes_5 : decode cX8_comes 5 = .ok (.ifCond .ne 6, 3) := by decide +kernel
theorem dX8_comes_8 : decode cX8_comes 8 = .ok (.bipush (-2), 2) := by decide +kernel
theorem dX8_comes_10 : decode cX8_comes 10 = .ok (.ireturn, 1) := by decide +kernel
theorem dX8_comes_11 : decode cX8_comes 11 = .ok (.aload_n 0, 1) := by decide +kernel
theorem dX8_comes_12 : decode cX8_comes 12 = .ok (.invokevirtual 190, 3) := by decide +kernel
theorem dX8_comes_15 : decode cX8_comes 15 = .ok (.aload_n 0, 1) := by decide +kernel
theorem dX8_comes_16 : decode cX8_comes 16 = .ok (.invokevirtual 193, 3) := by decide +kernel
theorem dX8_comes_19 : decode cX8_comes 19 = .ok (.aload_n 0, 1) := by decide +kernel
theorem dX8_comes_20 : decode cX8_comes 20 = .ok (.getfield 50, 3) := by decide +kernel
theorem dX8_comes_23 : decode cX8_comes 23 = .ok (.iload_n 1, 1) := by decide +kernel
theorem dX8_comes_24 : decode cX8_comes 24 = .ok (.iaload, 1) := by decide +kernel
theorem dX8_comes_25 : decode cX8_comes 25 = .ok (.ireturn, 1) := by decide +kernel
theorem dX8_pays_0 : decode cX8_pays 0 = .ok (.iload_n 1, 1) := by decide +kernel
theorem dX8_pays_1 : decode cX8_pays 1 = .ok (.iconst (-1), 1) := by decide +kernel
theorem dX8_pays_2 : decode cX8_pays 2 = .ok (.if_icmp .eq 15, 3) := by decide +kernel
theorem dX8_pays_5 : decode cX8_pays 5 = .ok (.aload_n 0, 1) := by decide +kernel
theorem dX8_pays_6 : decode cX8_pays 6 = .ok (.iload_n 1, 1) := by decide +kernel
theorem dX8_pays_7 : decode cX8_pays 7 = .ok (.invokevirtual 103, 3) := by decide +kernel
theorem dX8_pays_10 : decode cX8_pays 10 = .ok (.ifCond .ne 7, 3) := by decide +kernel
theorem dX8_pays_13 : decode cX8_pays 13 = .ok (.sipush (-10000), 3) := by decide +kernel
theorem dX8_pays_16 : decode cX8_pays 16 = .ok (.ireturn, 1) := by decide +kernel
theorem dX8_pays_17 : decode cX8_pays 17 = .ok (.aload_n 0, 1) := by decide +kernel
theorem dX8_pays_18 : decode cX8_pays 18 = .ok (.invokevirtual 190, 3) := by decide +kernel
theorem dX8_pays_21 : decode cX8_pays 21 = .ok (.aload_n 0, 1) := by decide +kernel
theorem dX8_pays_22 : decode cX8_pays 22 = .ok (.invokevirtual 193, 3) := by decide +kernel
theorem dX8_pays_25 : decode cX8_pays 25 = .ok (.iload_n 1, 1) := by decide +kernel
theorem dX8_pays_26 : decode cX8_pays 26 = .ok (.iconst (-1), 1) := by decide +kernel
theorem dX8_pays_27 : decode cX8_pays 27 = .ok (.if_icmp .ne 10, 3) := by decide +kernel
theorem dX8_pays_30 : decode cX8_pays 30 = .ok (.aload_n 0, 1) := by decide +kernel
theorem dX8_pays_31 : decode cX8_pays 31 = .ok (.invokevirtual 196, 3) := by decide +kernel
theorem dX8_pays_34 : decode cX8_pays 34 = .ok (.goto 8, 3) := by decide +kernel
theorem dX8_pays_37 : decode cX8_pays 37 = .ok (.aload_n 0, 1) := by decide +kernel
theorem dX8_pays_38 : decode cX8_pays 38 = .ok (.iload_n 1, 1) := by decide +kernel
theorem dX8_pays_39 : decode cX8_pays 39 = .ok (.invokevirtual 187, 3) := by decide +kernel
theorem dX8_pays_42 : decode cX8_pays 42 = .ok (.ireturn, 1) := by decide +kernel
theorem dX8_bestOf_0 : decode cX8_bestOf 0 = .ok (.aload_n 0, 1) := by decide +kernel
theorem dX8_bestOf_1 : decode cX8_bestOf 1 = .ok (.getfield 47, 3) := by decide +kernel
theorem dX8_bestOf_4 : decode cX8_bestOf 4 = .ok (.iload_n 1, 1) := by decide +kernel
theorem dX8_bestOf_5 : decode cX8_bestOf 5 = .ok (.iaload, 1) := by decide +kernel
theorem dX8_bestOf_6 : decode cX8_bestOf 6 = .ok (.istore_n 3, 1) := by decide +kernel
theorem dX8_bestOf_7 : decode cX8_bestOf 7 = .ok (.iconst 0, 1) := by decide +kernel
theorem dX8_bestOf_8 : decode cX8_bestOf 8 = .ok (.istore 4, 2) := by decide +kernel
theorem dX8_bestOf_10 : decode cX8_bestOf 10 = .ok (.iconst 0, 1) := by decide +kernel
theorem dX8_bestOf_11 : decode cX8_bestOf 11 = .ok (.istore 5, 2) := by decide +kernel
theorem dX8_bestOf_13 : decode cX8_bestOf 13 = .ok (.iconst 0, 1) := by decide +kernel
theorem dX8_bestOf_14 : decode cX8_bestOf 14 = .ok (.istore 6, 2) := by decide +kernel
theorem dX8_bestOf_16 : decode cX8_bestOf 16 = .ok (.iload 6, 2) := by decide +kernel
theorem dX8_bestOf_18 : decode cX8_bestOf 18 = .ok (.bipush 60, 2) := by decide +kernel
theorem dX8_bestOf_20 : decode cX8_bestOf 20 = .ok (.if_icmp .gt 86, 3) := by decide +kernel
theorem dX8_bestOf_23 : decode cX8_bestOf 23 = .ok (.aload_n 0, 1) := by decide +kernel
theorem dX8_bestOf_24 : decode cX8_bestOf 24 = .ok (.getfield 47, 3) := by decide +kernel
theorem dX8_bestOf_27 : decode cX8_bestOf 27 = .ok (.iload_n 1, 1) := by decide +kernel
theorem dX8_bestOf_28 : decode cX8_bestOf 28 = .ok (.iload 6, 2) := by decide +kernel
theorem dX8_bestOf_30 : decode cX8_bestOf 30 = .ok (.iastore, 1) := by decide +kernel
theorem dX8_bestOf_31 : decode cX8_bestOf 31 = .ok (.aload_n 0, 1) := by decide +kernel
theorem dX8_bestOf_32 : decode cX8_bestOf 32 = .ok (.invokevirtual 193, 3) := by decide +kernel
theorem dX8_bestOf_35 : decode cX8_bestOf 35 = .ok (.aload_n 0, 1) := by decide +kernel
theorem dX8_bestOf_36 : decode cX8_bestOf 36 = .ok (.iload_n 1, 1) := by decide +kernel
theorem dX8_bestOf_37 : decode cX8_bestOf 37 = .ok (.invokevirtual 187, 3) := by decide +kernel
theorem dX8_bestOf_40 : decode cX8_bestOf 40 = .ok (.istore 7, 2) := by decide +kernel
theorem dX8_bestOf_42 : decode cX8_bestOf 42 = .ok (.iload 6, 2) := by decide +kernel
theorem dX8_bestOf_44 : decode cX8_bestOf 44 = .ok (.ifCond .eq 21, 3) := by decide +kernel
theorem dX8_bestOf_47 : decode cX8_bestOf 47 = .ok (.iload 7, 2) := by decide +kernel
theorem dX8_bestOf_49 : decode cX8_bestOf 49 = .ok (.iload 5, 2) := by decide +kernel
theorem dX8_bestOf_51 : decode cX8_bestOf 51 = .ok (.if_icmp .lt 14, 3) := by decide +kernel
theorem dX8_bestOf_54 : decode cX8_bestOf 54 = .ok (.iload_n 2, 1) := by decide +kernel
theorem dX8_bestOf_55 : decode cX8_bestOf 55 = .ok (.ifCond .eq 14, 3) := by decide +kernel
theorem dX8_bestOf_58 : decode cX8_bestOf 58 = .ok (.iload 7, 2) := by decide +kernel
theorem dX8_bestOf_60 : decode cX8_bestOf 60 = .ok (.iload 5, 2) := by decide +kernel
theorem dX8_bestOf_62 : decode cX8_bestOf 62 = .ok (.if_icmp .ne 7, 3) := by decide +kernel
theorem dX8_bestOf_65 : decode cX8_bestOf 65 = .ok (.iconst 1, 1) := by decide +kernel
theorem dX8_bestOf_66 : decode cX8_bestOf 66 = .ok (.goto 4, 3) := by decide +kernel
theorem dX8_bestOf_69 : decode cX8_bestOf 69 = .ok (.iconst 0, 1) := by decide +kernel
theorem dX8_bestOf_70 : decode cX8_bestOf 70 = .ok (.istore 8, 2) := by decide +kernel
theorem dX8_bestOf_72 : decode cX8_bestOf 72 = .ok (.iload 8, 2) := by decide +kernel
theorem dX8_bestOf_74 : decode cX8_bestOf 74 = .ok (.ifCond .eq 8, 3) := by decide +kernel
theorem dX8_bestOf_77 : decode cX8_bestOf 77 = .ok (.iload 6, 2) := by decide +kernel
theorem dX8_bestOf_79 : decode cX8_bestOf 79 = .ok (.goto 5, 3) := by decide +kernel
theorem dX8_bestOf_82 : decode cX8_bestOf 82 = .ok (.iload 4, 2) := by decide +kernel
theorem dX8_bestOf_84 : decode cX8_bestOf 84 = .ok (.istore 4, 2) := by decide +kernel
theorem dX8_bestOf_86 : decode cX8_bestOf 86 = .ok (.iload 8, 2) := by decide +kernel
theorem dX8_bestOf_88 : decode cX8_bestOf 88 = .ok (.ifCond .eq 8, 3) := by decide +kernel
theorem dX8_bestOf_91 : decode cX8_bestOf 91 = .ok (.iload 7, 2) := by decide +kernel
theorem dX8_bestOf_93 : decode cX8_bestOf 93 = .ok (.goto 5, 3) := by decide +kernel
theorem dX8_bestOf_96 : decode cX8_bestOf 96 = .ok (.iload 5, 2) := by decide +kernel
theorem dX8_bestOf_98 : decode cX8_bestOf 98 = .ok (.istore 5, 2) := by decide +kernel
theorem dX8_bestOf_100 : decode cX8_bestOf 100 = .ok (.iinc 6 1, 3) := by decide +kernel
theorem dX8_bestOf_103 : decode cX8_bestOf 103 = .ok (.goto (-87), 3) := by decide +kernel
theorem dX8_bestOf_106 : decode cX8_bestOf 106 = .ok (.aload_n 0, 1) := by decide +kernel
theorem dX8_bestOf_107 : decode cX8_bestOf 107 = .ok (.getfield 47, 3) := by decide +kernel
theorem dX8_bestOf_110 : decode cX8_bestOf 110 = .ok (.iload_n 1, 1) := by decide +kernel
theorem dX8_bestOf_111 : decode cX8_bestOf 111 = .ok (.iload_n 3, 1) := by decide +kernel
theorem dX8_bestOf_112 : decode cX8_bestOf 112 = .ok (.iastore, 1) := by decide +kernel
theorem dX8_bestOf_113 : decode cX8_bestOf 113 = .ok (.iload 4, 2) := by decide +kernel
theorem dX8_bestOf_115 : decode cX8_bestOf 115 = .ok (.ireturn, 1) := by decide +kernel
theorem dX8_best_0 : decode cX8_best 0 = .ok (.aload_n 0, 1) := by decide +kernel
theorem dX8_best_1 : decode cX8_best 1 = .ok (.iload_n 1, 1) := by decide +kernel
theorem dX8_best_2 : decode cX8_best 2 = .ok (.invokevirtual 107, 3) := by decide +kernel
theorem dX8_best_5 : decode cX8_best 5 = .ok (.ifCond .ne 6, 3) := by decide +kernel
theorem dX8_best_8 : decode cX8_best 8 = .ok (.bipush (-2), 2) := by decide +kernel
theorem dX8_best_10 : decode cX8_best 10 = .ok (.ireturn, 1) := by decide +kernel
theorem dX8_best_11 : decode cX8_best 11 = .ok (.aload_n 0, 1) := by decide +kernel
theorem dX8_best_12 : decode cX8_best 12 = .ok (.invokevirtual 190, 3) := by decide +kernel
theorem dX8_best_15 : decode cX8_best 15 = .ok (.aload_n 0, 1) := by decide +kernel
theorem dX8_best_16 : decode cX8_best 16 = .ok (.iload_n 1, 1) := by decide +kernel
theorem dX8_best_17 : decode cX8_best 17 = .ok (.iload_n 2, 1) := by decide +kernel
theorem dX8_best_18 : decode cX8_best 18 = .ok (.invokevirtual 199, 3) := by decide +kernel
theorem dX8_best_21 : decode cX8_best 21 = .ok (.ireturn, 1) := by decide +kernel
theorem dX8_restlessNow_0 : decode cX8_restlessNow 0 = .ok (.aload_n 0, 1) := by decide +kernel
theorem dX8_restlessNow_1 : decode cX8_restlessNow 1 = .ok (.invokevirtual 190, 3) := by decide +kernel
theorem dX8_restlessNow_4 : decode cX8_restlessNow 4 = .ok (.iconst 0, 1) := by decide +kernel
theorem dX8_restlessNow_5 : decode cX8_restlessNow 5 = .ok (.istore_n 1, 1) := by decide +kernel
theorem dX8_restlessNow_6 : decode cX8_restlessNow 6 = .ok (.iload_n 1, 1) := by decide +kernel
theorem dX8_restlessNow_7 : decode cX8_restlessNow 7 = .ok (.aload_n 0, 1) := by decide +kernel
theorem dX8_restlessNow_8 : decode cX8_restlessNow 8 = .ok (.getfield 99, 3) := by decide +kernel
theorem dX8_restlessNow_11 : decode cX8_restlessNow 11 = .ok (.if_icmp .ge 73, 3) := by decide +kernel
theorem dX8_restlessNow_14 : decode cX8_restlessNow 14 = .ok (.aload_n 0, 1) := by decide +kernel
theorem dX8_restlessNow_15 : decode cX8_restlessNow 15 = .ok (.getfield 7, 3) := by decide +kernel
theorem dX8_restlessNow_18 : decode cX8_restlessNow 18 = .ok (.iload_n 1, 1) := by decide +kernel
theorem dX8_restlessNow_19 : decode cX8_restlessNow 19 = .ok (.iaload, 1) := by decide +kernel
theorem dX8_restlessNow_20 : decode cX8_restlessNow 20 = .ok (.ifCond .ne 58, 3) := by decide +kernel
theorem dX8_restlessNow_23 : decode cX8_restlessNow 23 = .ok (.aload_n 0, 1) := by decide +kernel
theorem dX8_restlessNow_24 : decode cX8_restlessNow 24 = .ok (.invokevirtual 193, 3) := by decide +kernel
theorem dX8_restlessNow_27 : decode cX8_restlessNow 27 = .ok (.aload_n 0, 1) := by decide +kernel
theorem dX8_restlessNow_28 : decode cX8_restlessNow 28 = .ok (.iload_n 1, 1) := by decide +kernel
theorem dX8_restlessNow_29 : decode cX8_restlessNow 29 = .ok (.invokevirtual 187, 3) := by decide +kernel
theorem dX8_restlessNow_32 : decode cX8_restlessNow 32 = .ok (.istore_n 2, 1) := by decide +kernel
theorem dX8_restlessNow_33 : decode cX8_restlessNow 33 = .ok (.aload_n 0, 1) := by decide +kernel
theorem dX8_restlessNow_34 : decode cX8_restlessNow 34 = .ok (.getfield 47, 3) := by decide +kernel
theorem dX8_restlessNow_37 : decode cX8_restlessNow 37 = .ok (.iload_n 1, 1) := by decide +kernel
theorem dX8_restlessNow_38 : decode cX8_restlessNow 38 = .ok (.iaload, 1) := by decide +kernel
theorem dX8_restlessNow_39 : decode cX8_restlessNow 39 = .ok (.istore_n 3, 1) := by decide +kernel
theorem dX8_restlessNow_40 : decode cX8_restlessNow 40 = .ok (.aload_n 0, 1) := by decide +kernel
theorem dX8_restlessNow_41 : decode cX8_restlessNow 41 = .ok (.getfield 47, 3) := by decide +kernel
theorem dX8_restlessNow_44 : decode cX8_restlessNow 44 = .ok (.iload_n 1, 1) := by decide +kernel
theorem dX8_restlessNow_45 : decode cX8_restlessNow 45 = .ok (.aload_n 0, 1) := by decide +kernel
theorem dX8_restlessNow_46 : decode cX8_restlessNow 46 = .ok (.iload_n 1, 1) := by decide +kernel
theorem dX8_restlessNow_47 : decode cX8_restlessNow 47 = .ok (.iconst 0, 1) := by decide +kernel
theorem dX8_restlessNow_48 : decode cX8_restlessNow 48 = .ok (.invokevirtual 199, 3) := by decide +kernel
theorem dX8_restlessNow_51 : decode cX8_restlessNow 51 = .ok (.iastore, 1) := by decide +kernel
theorem dX8_restlessNow_52 : decode cX8_restlessNow 52 = .ok (.aload_n 0, 1) := by decide +kernel
theorem dX8_restlessNow_53 : decode cX8_restlessNow 53 = .ok (.invokevirtual 193, 3) := by decide +kernel
theorem dX8_restlessNow_56 : decode cX8_restlessNow 56 = .ok (.aload_n 0, 1) := by decide +kernel
theorem dX8_restlessNow_57 : decode cX8_restlessNow 57 = .ok (.iload_n 1, 1) := by decide +kernel
theorem dX8_restlessNow_58 : decode cX8_restlessNow 58 = .ok (.invokevirtual 187, 3) := by decide +kernel
theorem dX8_restlessNow_61 : decode cX8_restlessNow 61 = .ok (.istore 4, 2) := by decide +kernel
theorem dX8_restlessNow_63 : decode cX8_restlessNow 63 = .ok (.aload_n 0, 1) := by decide +kernel
theorem dX8_restlessNow_64 : decode cX8_restlessNow 64 = .ok (.getfield 47, 3) := by decide +kernel
theorem dX8_restlessNow_67 : decode cX8_restlessNow 67 = .ok (.iload_n 1, 1) := by decide +kernel
theorem dX8_restlessNow_68 : decode cX8_restlessNow 68 = .ok (.iload_n 3, 1) := by decide +kernel
theorem dX8_restlessNow_69 : decode cX8_restlessNow 69 = .ok (.iastore, 1) := by decide +kernel
theorem dX8_restlessNow_70 : decode cX8_restlessNow 70 = .ok (.iload 4, 2) := by decide +kernel
theorem dX8_restlessNow_72 : decode cX8_restlessNow 72 = .ok (.iload_n 2, 1) := by decide +kernel
theorem dX8_restlessNow_73 : decode cX8_restlessNow 73 = .ok (.if_icmp .ge 5, 3) := by decide +kernel
theorem dX8_restlessNow_76 : decode cX8_restlessNow 76 = .ok (.iload_n 1, 1) := by decide +kernel
theorem dX8_restlessNow_77 : decode cX8_restlessNow 77 = .ok (.ireturn, 1) := by decide +kernel
theorem dX8_restlessNow_78 : decode cX8_restlessNow 78 = .ok (.iinc 1 1, 3) := by decide +kernel
theorem dX8_restlessNow_81 : decode cX8_restlessNow 81 = .ok (.goto (-75), 3) := by decide +kernel
theorem dX8_restlessNow_84 : decode cX8_restlessNow 84 = .ok (.iconst (-1), 1) := by decide +kernel
theorem dX8_restlessNow_85 : decode cX8_restlessNow 85 = .ok (.ireturn, 1) := by decide +kernel
theorem dX8_restless_0 : decode cX8_restless 0 = .ok (.aload_n 0, 1) := by decide +kernel
theorem dX8_restless_1 : decode cX8_restless 1 = .ok (.invokevirtual 203, 3) := by decide +kernel
theorem dX8_restless_4 : decode cX8_restless 4 = .ok (.ireturn, 1) := by decide +kernel
theorem dX8_climbs_0 : decode cX8_climbs 0 = .ok (.iconst 0, 1) := by decide +kernel
theorem dX8_climbs_1 : decode cX8_climbs 1 = .ok (.istore_n 2, 1) := by decide +kernel
theorem dX8_climbs_2 : decode cX8_climbs 2 = .ok (.iload_n 2, 1) := by decide +kernel
theorem dX8_climbs_3 : decode cX8_climbs 3 = .ok (.aload_n 0, 1) := by decide +kernel
theorem dX8_climbs_4 : decode cX8_climbs 4 = .ok (.getfield 99, 3) := by decide +kernel
theorem dX8_climbs_7 : decode cX8_climbs 7 = .ok (.if_icmp .ge 43, 3) := by decide +kernel
theorem dX8_climbs_10 : decode cX8_climbs 10 = .ok (.aload_n 0, 1) := by decide +kernel
theorem dX8_climbs_11 : decode cX8_climbs 11 = .ok (.getfield 47, 3) := by decide +kernel
theorem dX8_climbs_14 : decode cX8_climbs 14 = .ok (.iload_n 2, 1) := by decide +kernel
theorem dX8_climbs_15 : decode cX8_climbs 15 = .ok (.aload_n 0, 1) := by decide +kernel
theorem dX8_climbs_16 : decode cX8_climbs 16 = .ok (.getfield 7, 3) := by decide +kernel
theorem dX8_climbs_19 : decode cX8_climbs 19 = .ok (.iload_n 2, 1) := by decide +kernel
theorem dX8_climbs_20 : decode cX8_climbs 20 = .ok (.iaload, 1) := by decide +kernel
theorem dX8_climbs_21 : decode cX8_climbs 21 = .ok (.ifCond .ne 16, 3) := by decide +kernel
theorem dX8_climbs_24 : decode cX8_climbs 24 = .ok (.iload_n 1, 1) := by decide +kernel
theorem dX8_climbs_25 : decode cX8_climbs 25 = .ok (.ifCond .eq 8, 3) := by decide +kernel
theorem dX8_climbs_28 : decode cX8_climbs 28 = .ok (.bipush 60, 2) := by decide +kernel
theorem dX8_climbs_30 : decode cX8_climbs 30 = .ok (.goto 13, 3) := by decide +kernel
theorem dX8_climbs_33 : decode cX8_climbs 33 = .ok (.iconst 0, 1) := by decide +kernel
theorem dX8_climbs_34 : decode cX8_climbs 34 = .ok (.goto 9, 3) := by decide +kernel
theorem dX8_climbs_37 : decode cX8_climbs 37 = .ok (.aload_n 0, 1) := by decide +kernel
theorem dX8_climbs_38 : decode cX8_climbs 38 = .ok (.getfield 47, 3) := by decide +kernel
theorem dX8_climbs_41 : decode cX8_climbs 41 = .ok (.iload_n 2, 1) := by decide +kernel
theorem dX8_climbs_42 : decode cX8_climbs 42 = .ok (.iaload, 1) := by decide +kernel
theorem dX8_climbs_43 : decode cX8_climbs 43 = .ok (.iastore, 1) := by decide +kernel
theorem dX8_climbs_44 : decode cX8_climbs 44 = .ok (.iinc 2 1, 3) := by decide +kernel
theorem dX8_climbs_47 : decode cX8_climbs 47 = .ok (.goto (-45), 3) := by decide +kernel
theorem dX8_climbs_50 : decode cX8_climbs 50 = .ok (.iconst 0, 1) := by decide +kernel
theorem dX8_climbs_51 : decode cX8_climbs 51 = .ok (.istore_n 2, 1) := by decide +kernel
theorem dX8_climbs_52 : decode cX8_climbs 52 = .ok (.iload_n 2, 1) := by decide +kernel
theorem dX8_climbs_53 : decode cX8_climbs 53 = .ok (.bipush 20, 2) := by decide +kernel
theorem dX8_climbs_55 : decode cX8_climbs 55 = .ok (.if_icmp .ge 101, 3) := by decide +kernel
theorem dX8_climbs_58 : decode cX8_climbs 58 = .ok (.iconst 0, 1) := by decide +kernel
theorem dX8_climbs_59 : decode cX8_climbs 59 = .ok (.istore_n 3, 1) := by decide +kernel
theorem dX8_climbs_60 : decode cX8_climbs 60 = .ok (.iconst 0, 1) := by decide +kernel
theorem dX8_climbs_61 : decode cX8_climbs 61 = .ok (.istore 4, 2) := by decide +kernel
theorem dX8_climbs_63 : decode cX8_climbs 63 = .ok (.iload 4, 2) := by decide +kernel
theorem dX8_climbs_65 : decode cX8_climbs 65 = .ok (.aload_n 0, 1) := by decide +kernel
theorem dX8_climbs_66 : decode cX8_climbs 66 = .ok (.getfield 99, 3) := by decide +kernel
theorem dX8_climbs_69 : decode cX8_climbs 69 = .ok (.if_icmp .ge 71, 3) := by decide +kernel
theorem dX8_climbs_72 : decode cX8_climbs 72 = .ok (.aload_n 0, 1) := by decide +kernel
theorem dX8_climbs_73 : decode cX8_climbs 73 = .ok (.getfield 7, 3) := by decide +kernel
theorem dX8_climbs_76 : decode cX8_climbs 76 = .ok (.iload 4, 2) := by decide +kernel
theorem dX8_climbs_78 : decode cX8_climbs 78 = .ok (.iaload, 1) := by decide +kernel
theorem dX8_climbs_79 : decode cX8_climbs 79 = .ok (.ifCond .ne 55, 3) := by decide +kernel
theorem dX8_climbs_82 : decode cX8_climbs 82 = .ok (.aload_n 0, 1) := by decide +kernel
theorem dX8_climbs_83 : decode cX8_climbs 83 = .ok (.getfield 166, 3) := by decide +kernel
theorem dX8_climbs_86 : decode cX8_climbs 86 = .ok (.iload 4, 2) := by decide +kernel
theorem dX8_climbs_88 : decode cX8_climbs 88 = .ok (.ishr, 1) := by decide +kernel
theorem dX8_climbs_89 : decode cX8_climbs 89 = .ok (.iconst 1, 1) := by decide +kernel
theorem dX8_climbs_90 : decode cX8_climbs 90 = .ok (.iand, 1) := by decide +kernel
theorem dX8_climbs_91 : decode cX8_climbs 91 = .ok (.ifCond .ne 43, 3) := by decide +kernel
theorem dX8_climbs_94 : decode cX8_climbs 94 = .ok (.aload_n 0, 1) := by decide +kernel
theorem dX8_climbs_95 : decode cX8_climbs 95 = .ok (.iload 4, 2) := by decide +kernel
theorem dX8_climbs_97 : decode cX8_climbs 97 = .ok (.iload_n 1, 1) := by decide +kernel
theorem dX8_climbs_98 : decode cX8_climbs 98 = .ok (.invokevirtual 199, 3) := by decide +kernel
theorem dX8_climbs_101 : decode cX8_climbs 101 = .ok (.istore 5, 2) := by decide +kernel
theorem dX8_climbs_103 : decode cX8_climbs 103 = .ok (.iload_n 3, 1) := by decide +kernel
theorem dX8_climbs_104 : decode cX8_climbs 104 = .ok (.ifCond .ne 15, 3) := by decide +kernel
theorem dX8_climbs_107 : decode cX8_climbs 107 = .ok (.iload 5, 2) := by decide +kernel
theorem dX8_climbs_109 : decode cX8_climbs 109 = .ok (.aload_n 0, 1) := by decide +kernel
theorem dX8_climbs_110 : decode cX8_climbs 110 = .ok (.getfield 47, 3) := by decide +kernel
theorem dX8_climbs_113 : decode cX8_climbs 113 = .ok (.iload 4, 2) := by decide +kernel
theorem dX8_climbs_115 : decode cX8_climbs 115 = .ok (.iaload, 1) := by decide +kernel
theorem dX8_climbs_116 : decode cX8_climbs 116 = .ok (.if_icmp .eq 7, 3) := by decide +kernel
theorem dX8_climbs_119 : decode cX8_climbs 119 = .ok (.iconst 1, 1) := by decide +kernel
theorem dX8_climbs_120 : decode cX8_climbs 120 = .ok (.goto 4, 3) := by decide +kernel
theorem dX8_climbs_123 : decode cX8_climbs 123 = .ok (.iconst 0, 1) := by decide +kernel
theorem dX8_climbs_124 : decode cX8_climbs 124 = .ok (.istore_n 3, 1) := by decide +kernel
theorem dX8_climbs_125 : decode cX8_climbs 125 = .ok (.aload_n 0, 1) := by decide +kernel
theorem dX8_climbs_126 : decode cX8_climbs 126 = .ok (.getfield 47, 3) := by decide +kernel
theorem dX8_climbs_129 : decode cX8_climbs 129 = .ok (.iload 4, 2) := by decide +kernel
theorem dX8_climbs_131 : decode cX8_climbs 131 = .ok (.iload 5, 2) := by decide +kernel
theorem dX8_climbs_133 : decode cX8_climbs 133 = .ok (.iastore, 1) := by decide +kernel
theorem dX8_climbs_134 : decode cX8_climbs 134 = .ok (.iinc 4 1, 3) := by decide +kernel
theorem dX8_climbs_137 : decode cX8_climbs 137 = .ok (.goto (-74), 3) := by decide +kernel
theorem dX8_climbs_140 : decode cX8_climbs 140 = .ok (.iload_n 3, 1) := by decide +kernel
theorem dX8_climbs_141 : decode cX8_climbs 141 = .ok (.ifCond .ne 9, 3) := by decide +kernel
theorem dX8_climbs_144 : decode cX8_climbs 144 = .ok (.aload_n 0, 1) := by decide +kernel
theorem dX8_climbs_145 : decode cX8_climbs 145 = .ok (.invokevirtual 193, 3) := by decide +kernel
theorem dX8_climbs_148 : decode cX8_climbs 148 = .ok (.iconst 1, 1) := by decide +kernel
theorem dX8_climbs_149 : decode cX8_climbs 149 = .ok (.ireturn, 1) := by decide +kernel
theorem dX8_climbs_150 : decode cX8_climbs 150 = .ok (.iinc 2 1, 3) := by decide +kernel
theorem dX8_climbs_153 : decode cX8_climbs 153 = .ok (.goto (-101), 3) := by decide +kernel
theorem dX8_climbs_156 : decode cX8_climbs 156 = .ok (.iconst 0, 1) := by decide +kernel
theorem dX8_climbs_157 : decode cX8_climbs 157 = .ok (.ireturn, 1) := by decide +kernel
theorem dX8_climbNow_0 : decode cX8_climbNow 0 = .ok (.aload_n 0, 1) := by decide +kernel
theorem dX8_climbNow_1 : decode cX8_climbNow 1 = .ok (.invokevirtual 190, 3) := by decide +kernel
theorem dX8_climbNow_4 : decode cX8_climbNow 4 = .ok (.aload_n 0, 1) := by decide +kernel
theorem dX8_climbNow_5 : decode cX8_climbNow 5 = .ok (.iload_n 1, 1) := by decide +kernel
theorem dX8_climbNow_6 : decode cX8_climbNow 6 = .ok (.invokevirtual 206, 3) := by decide +kernel
theorem dX8_climbNow_9 : decode cX8_climbNow 9 = .ok (.ifCond .eq 10, 3) := by decide +kernel
theorem dX8_climbNow_12 : decode cX8_climbNow 12 = .ok (.aload_n 0, 1) := by decide +kernel
theorem dX8_climbNow_13 : decode cX8_climbNow 13 = .ok (.getfield 178, 3) := by decide +kernel
theorem dX8_climbNow_16 : decode cX8_climbNow 16 = .ok (.goto 4, 3) := by decide +kernel
theorem dX8_climbNow_19 : decode cX8_climbNow 19 = .ok (.iconst (-1), 1) := by decide +kernel
theorem dX8_climbNow_20 : decode cX8_climbNow 20 = .ok (.ireturn, 1) := by decide +kernel
theorem dX8_climb_0 : decode cX8_climb 0 = .ok (.iload_n 2, 1) := by decide +kernel
theorem dX8_climb_1 : decode cX8_climb 1 = .ok (.iconst (-1), 1) := by decide +kernel
theorem dX8_climb_2 : decode cX8_climb 2 = .ok (.if_icmp .eq 14, 3) := by decide +kernel
theorem dX8_climb_5 : decode cX8_climb 5 = .ok (.aload_n 0, 1) := by decide +kernel
theorem dX8_climb_6 : decode cX8_climb 6 = .ok (.iload_n 2, 1) := by decide +kernel
theorem dX8_climb_7 : decode cX8_climb 7 = .ok (.invokevirtual 107, 3) := by decide +kernel
theorem dX8_climb_10 : decode cX8_climb 10 = .ok (.ifCond .ne 6, 3) := by decide +kernel
theorem dX8_climb_13 : decode cX8_climb 13 = .ok (.bipush (-2), 2) := by decide +kernel
theorem dX8_climb_15 : decode cX8_climb 15 = .ok (.ireturn, 1) := by decide +kernel
theorem dX8_climb_16 : decode cX8_climb 16 = .ok (.aload_n 0, 1) := by decide +kernel
theorem dX8_climb_17 : decode cX8_climb 17 = .ok (.iload_n 1, 1) := by decide +kernel
theorem dX8_climb_18 : decode cX8_climb 18 = .ok (.invokevirtual 210, 3) := by decide +kernel
theorem dX8_climb_21 : decode cX8_climb 21 = .ok (.istore_n 3, 1) := by decide +kernel
theorem dX8_climb_22 : decode cX8_climb 22 = .ok (.iload_n 3, 1) := by decide +kernel
theorem dX8_climb_23 : decode cX8_climb 23 = .ok (.iconst (-1), 1) := by decide +kernel
theorem dX8_climb_24 : decode cX8_climb 24 = .ok (.if_icmp .eq 8, 3) := by decide +kernel
theorem dX8_climb_27 : decode cX8_climb 27 = .ok (.iload_n 2, 1) := by decide +kernel
theorem dX8_climb_28 : decode cX8_climb 28 = .ok (.iconst (-1), 1) := by decide +kernel
theorem dX8_climb_29 : decode cX8_climb 29 = .ok (.if_icmp .ne 7, 3) := by decide +kernel
theorem dX8_climb_32 : decode cX8_climb 32 = .ok (.iload_n 3, 1) := by decide +kernel
theorem dX8_climb_33 : decode cX8_climb 33 = .ok (.goto 9, 3) := by decide +kernel
theorem dX8_climb_36 : decode cX8_climb 36 = .ok (.aload_n 0, 1) := by decide +kernel
theorem dX8_climb_37 : decode cX8_climb 37 = .ok (.getfield 47, 3) := by decide +kernel
theorem dX8_climb_40 : decode cX8_climb 40 = .ok (.iload_n 2, 1) := by decide +kernel
theorem dX8_climb_41 : decode cX8_climb 41 = .ok (.iaload, 1) := by decide +kernel
theorem dX8_climb_42 : decode cX8_climb 42 = .ok (.ireturn, 1) := by decide +kernel
theorem dX8_minuteOf_0 : decode cX8_minuteOf 0 = .ok (.iload_n 2, 1) := by decide +kernel
theorem dX8_minuteOf_1 : decode cX8_minuteOf 1 = .ok (.iload_n 1, 1) := by decide +kernel
theorem dX8_minuteOf_2 : decode cX8_minuteOf 2 = .ok (.iconst 1, 1) := by decide +kernel
theorem dX8_minuteOf_3 : decode cX8_minuteOf 3 = .ok (.isub, 1) := by decide +kernel
theorem dX8_minuteOf_4 : decode cX8_minuteOf 4 = .ok (.if_icmp .ne 8, 3) := by decide +kernel
theorem dX8_minuteOf_7 : decode cX8_minuteOf 7 = .ok (.bipush 60, 2) := by decide +kernel
theorem dX8_minuteOf_9 : decode cX8_minuteOf 9 = .ok (.goto 6, 3) := by decide +kernel
theorem dX8_minuteOf_12 : decode cX8_minuteOf 12 = .ok (.iload_n 0, 1) := by decide +kernel
theorem dX8_minuteOf_13 : decode cX8_minuteOf 13 = .ok (.iload_n 2, 1) := by decide +kernel
theorem dX8_minuteOf_14 : decode cX8_minuteOf 14 = .ok (.imul, 1) := by decide +kernel
theorem dX8_minuteOf_15 : decode cX8_minuteOf 15 = .ok (.ireturn, 1) := by decide +kernel
theorem dX8_gathers_0 : decode cX8_gathers 0 = .ok (.aload_n 0, 1) := by decide +kernel
theorem dX8_gathers_1 : decode cX8_gathers 1 = .ok (.iconst 0, 1) := by decide +kernel
theorem dX8_gathers_2 : decode cX8_gathers 2 = .ok (.putfield 214, 3) := by decide +kernel
theorem dX8_gathers_5 : decode cX8_gathers 5 = .ok (.iconst 0, 1) := by decide +kernel
theorem dX8_gathers_6 : decode cX8_gathers 6 = .ok (.istore_n 1, 1) := by decide +kernel
theorem dX8_gathers_7 : decode cX8_gathers 7 = .ok (.iload_n 1, 1) := by decide +kernel
theorem dX8_gathers_8 : decode cX8_gathers 8 = .ok (.aload_n 0, 1) := by decide +kernel
theorem dX8_gathers_9 : decode cX8_gathers 9 = .ok (.getfield 99, 3) := by decide +kernel
theorem dX8_gathers_12 : decode cX8_gathers 12 = .ok (.if_icmp .ge 38, 3) := by decide +kernel
theorem dX8_gathers_15 : decode cX8_gathers 15 = .ok (.aload_n 0, 1) := by decide +kernel
theorem dX8_gathers_16 : decode cX8_gathers 16 = .ok (.getfield 7, 3) := by decide +kernel
theorem dX8_gathers_19 : decode cX8_gathers 19 = .ok (.iload_n 1, 1) := by decide +kernel
theorem dX8_gathers_20 : decode cX8_gathers 20 = .ok (.iaload, 1) := by decide +kernel
theorem dX8_gathers_21 : decode cX8_gathers 21 = .ok (.ifCond .ne 23, 3) := by decide +kernel
theorem dX8_gathers_24 : decode cX8_gathers 24 = .ok (.aload_n 0, 1) := by decide +kernel
theorem dX8_gathers_25 : decode cX8_gathers 25 = .ok (.getfield 56, 3) := by decide +kernel
theorem dX8_gathers_28 : decode cX8_gathers 28 = .ok (.aload_n 0, 1) := by decide +kernel
theorem dX8_gathers_29 : decode cX8_gathers 29 = .ok (.getfield 214, 3) := by decide +kernel
theorem dX8_gathers_32 : decode cX8_gathers 32 = .ok (.iload_n 1, 1) := by decide +kernel
theorem dX8_gathers_33 : decode cX8_gathers 33 = .ok (.iastore, 1) := by decide +kernel
theorem dX8_gathers_34 : decode cX8_gathers 34 = .ok (.aload_n 0, 1) := by decide +kernel
theorem dX8_gathers_35 : decode cX8_gathers 35 = .ok (.dup, 1) := by decide +kernel
theorem dX8_gathers_36 : decode cX8_gathers 36 = .ok (.getfield 214, 3) := by decide +kernel
theorem dX8_gathers_39 : decode cX8_gathers 39 = .ok (.iconst 1, 1) := by decide +kernel
theorem dX8_gathers_40 : decode cX8_gathers 40 = .ok (.iadd, 1) := by decide +kernel
theorem dX8_gathers_41 : decode cX8_gathers 41 = .ok (.putfield 214, 3) := by decide +kernel
theorem dX8_gathers_44 : decode cX8_gathers 44 = .ok (.iinc 1 1, 3) := by decide +kernel
theorem dX8_gathers_47 : decode cX8_gathers 47 = .ok (.goto (-40), 3) := by decide +kernel
theorem dX8_gathers_50 : decode cX8_gathers 50 = .ok (.aload_n 0, 1) := by decide +kernel
theorem dX8_gathers_51 : decode cX8_gathers 51 = .ok (.getfield 214, 3) := by decide +kernel
theorem dX8_gathers_54 : decode cX8_gathers 54 = .ok (.iconst 4, 1) := by decide +kernel
theorem dX8_gathers_55 : decode cX8_gathers 55 = .ok (.if_icmp .ge 7, 3) := by decide +kernel
theorem dX8_gathers_58 : decode cX8_gathers 58 = .ok (.iconst 1, 1) := by decide +kernel
theorem dX8_gathers_59 : decode cX8_gathers 59 = .ok (.goto 4, 3) := by decide +kernel
theorem dX8_gathers_62 : decode cX8_gathers 62 = .ok (.iconst 0, 1) := by decide +kernel
theorem dX8_gathers_63 : decode cX8_gathers 63 = .ok (.ireturn, 1) := by decide +kernel
theorem dX8_grids_0 : decode cX8_grids 0 = .ok (.aload_n 0, 1) := by decide +kernel
theorem dX8_grids_1 : decode cX8_grids 1 = .ok (.bipush 60, 2) := by decide +kernel
theorem dX8_grids_3 : decode cX8_grids 3 = .ok (.iload_n 1, 1) := by decide +kernel
theorem dX8_grids_4 : decode cX8_grids 4 = .ok (.iadd, 1) := by decide +kernel
theorem dX8_grids_5 : decode cX8_grids 5 = .ok (.iconst 1, 1) := by decide +kernel
theorem dX8_grids_6 : decode cX8_grids 6 = .ok (.isub, 1) := by decide +kernel
theorem dX8_grids_7 : decode cX8_grids 7 = .ok (.iload_n 1, 1) := by decide +kernel
theorem dX8_grids_8 : decode cX8_grids 8 = .ok (.idiv, 1) := by decide +kernel
theorem dX8_grids_9 : decode cX8_grids 9 = .ok (.iconst 1, 1) := by decide +kernel
theorem dX8_grids_10 : decode cX8_grids 10 = .ok (.iadd, 1) := by decide +kernel
theorem dX8_grids_11 : decode cX8_grids 11 = .ok (.putfield 217, 3) := by decide +kernel
theorem dX8_grids_14 : decode cX8_grids 14 = .ok (.aload_n 0, 1) := by decide +kernel
theorem dX8_grids_15 : decode cX8_grids 15 = .ok (.iconst 1, 1) := by decide +kernel
theorem dX8_grids_16 : decode cX8_grids 16 = .ok (.putfield 220, 3) := by decide +kernel
theorem dX8_grids_19 : decode cX8_grids 19 = .ok (.aload_n 0, 1) := by decide +kernel
theorem dX8_grids_20 : decode cX8_grids 20 = .ok (.getfield 214, 3) := by decide +kernel
theorem dX8_grids_23 : decode cX8_grids 23 = .ok (.iconst 1, 1) := by decide +kernel
theorem dX8_grids_24 : decode cX8_grids 24 = .ok (.isub, 1) := by decide +kernel
theorem dX8_grids_25 : decode cX8_grids 25 = .ok (.istore_n 2, 1) := by decide +kernel
theorem dX8_grids_26 : decode cX8_grids 26 = .ok (.iload_n 2, 1) := by decide +kernel
theorem dX8_grids_27 : decode cX8_grids 27 = .ok (.ifCond .lt 32, 3) := by decide +kernel
theorem dX8_grids_30 : decode cX8_grids 30 = .ok (.aload_n 0, 1) := by decide +kernel
theorem dX8_grids_31 : decode cX8_grids 31 = .ok (.getfield 65, 3) := by decide +kernel
theorem dX8_grids_34 : decode cX8_grids 34 = .ok (.iload_n 2, 1) := by decide +kernel
theorem dX8_grids_35 : decode cX8_grids 35 = .ok (.aload_n 0, 1) := by decide +kernel
theorem dX8_grids_36 : decode cX8_grids 36 = .ok (.getfield 220, 3) := by decide +kernel
theorem dX8_grids_39 : decode cX8_grids 39 = .ok (.iastore, 1) := by decide +kernel
theorem dX8_grids_40 : decode cX8_grids 40 = .ok (.aload_n 0, 1) := by decide +kernel
theorem dX8_grids_41 : decode cX8_grids 41 = .ok (.dup, 1) := by decide +kernel
theorem dX8_grids_42 : decode cX8_grids 42 = .ok (.getfield 220, 3) := by decide +kernel
theorem dX8_grids_45 : decode cX8_grids 45 = .ok (.aload_n 0, 1) := by decide +kernel
theorem dX8_grids_46 : decode cX8_grids 46 = .ok (.getfield 217, 3) := by decide +kernel
theorem dX8_grids_49 : decode cX8_grids 49 = .ok (.imul, 1) := by decide +kernel
theorem dX8_grids_50 : decode cX8_grids 50 = .ok (.putfield 220, 3) := by decide +kernel
theorem dX8_grids_53 : decode cX8_grids 53 = .ok (.iinc 2 (-1), 3) := by decide +kernel
theorem dX8_grids_56 : decode cX8_grids 56 = .ok (.goto (-30), 3) := by decide +kernel
theorem dX8_grids_59 : decode cX8_grids 59 = .ok (.aload_n 0, 1) := by decide +kernel
theorem dX8_grids_60 : decode cX8_grids 60 = .ok (.invokevirtual 190, 3) := by decide +kernel
theorem dX8_grids_63 : decode cX8_grids 63 = .ok (.iconst 0, 1) := by decide +kernel
theorem dX8_grids_64 : decode cX8_grids 64 = .ok (.istore_n 2, 1) := by decide +kernel
theorem dX8_grids_65 : decode cX8_grids 65 = .ok (.iload_n 2, 1) := by decide +kernel
theorem dX8_grids_66 : decode cX8_grids 66 = .ok (.aload_n 0, 1) := by decide +kernel
theorem dX8_grids_67 : decode cX8_grids 67 = .ok (.getfield 220, 3) := by decide +kernel
theorem dX8_grids_70 : decode cX8_grids 70 = .ok (.if_icmp .ge 109, 3) := by decide +kernel
theorem dX8_grids_73 : decode cX8_grids 73 = .ok (.iconst 0, 1) := by decide +kernel
theorem dX8_grids_74 : decode cX8_grids 74 = .ok (.istore_n 3, 1) := by decide +kernel
theorem dX8_grids_75 : decode cX8_grids 75 = .ok (.iload_n 3, 1) := by decide +kernel
theorem dX8_grids_76 : decode cX8_grids 76 = .ok (.aload_n 0, 1) := by decide +kernel
theorem dX8_grids_77 : decode cX8_grids 77 = .ok (.getfield 214, 3) := by decide +kernel
theorem dX8_grids_80 : decode cX8_grids 80 = .ok (.if_icmp .ge 41, 3) := by decide +kernel
theorem dX8_grids_83 : decode cX8_grids 83 = .ok (.aload_n 0, 1) := by decide +kernel
theorem dX8_grids_84 : decode cX8_grids 84 = .ok (.getfield 47, 3) := by decide +kernel
theorem dX8_grids_87 : decode cX8_grids 87 = .ok (.aload_n 0, 1) := by decide +kernel
theorem dX8_grids_88 : decode cX8_grids 88 = .ok (.getfield 56, 3) := by decide +kernel
theorem dX8_grids_91 : decode cX8_grids 91 = .ok (.iload_n 3, 1) := by decide +kernel
theorem dX8_grids_92 : decode cX8_grids 92 = .ok (.iaload, 1) := by decide +kernel
theorem dX8_grids_93 : decode cX8_grids 93 = .ok (.iload_n 1, 1) := by decide +kernel
theorem dX8_grids_94 : decode cX8_grids 94 = .ok (.aload_n 0, 1) := by decide +kernel
theorem dX8_grids_95 : decode cX8_grids 95 = .ok (.getfield 217, 3) := by decide +kernel
theorem dX8_grids_98 : decode cX8_grids 98 = .ok (.iload_n 2, 1) := by decide +kernel
theorem dX8_grids_99 : decode cX8_grids 99 = .ok (.aload_n 0, 1) := by decide +kernel
theorem dX8_grids_100 : decode cX8_grids 100 = .ok (.getfield 65, 3) := by decide +kernel
theorem dX8_grids_103 : decode cX8_grids 103 = .ok (.iload_n 3, 1) := by decide +kernel
theorem dX8_grids_104 : decode cX8_grids 104 = .ok (.iaload, 1) := by decide +kernel
theorem dX8_grids_105 : decode cX8_grids 105 = .ok (.idiv, 1) := by decide +kernel
theorem dX8_grids_106 : decode cX8_grids 106 = .ok (.aload_n 0, 1) := by decide +kernel
theorem dX8_grids_107 : decode cX8_grids 107 = .ok (.getfield 217, 3) := by decide +kernel
theorem dX8_grids_110 : decode cX8_grids 110 = .ok (.irem, 1) := by decide +kernel
theorem dX8_grids_111 : decode cX8_grids 111 = .ok (.invokestatic 223, 3) := by decide +kernel
theorem dX8_grids_114 : decode cX8_grids 114 = .ok (.iastore, 1) := by decide +kernel
theorem dX8_grids_115 : decode cX8_grids 115 = .ok (.iinc 3 1, 3) := by decide +kernel
theorem dX8_grids_118 : decode cX8_grids 118 = .ok (.goto (-43), 3) := by decide +kernel
theorem dX8_grids_121 : decode cX8_grids 121 = .ok (.aload_n 0, 1) := by decide +kernel
theorem dX8_grids_122 : decode cX8_grids 122 = .ok (.invokevirtual 193, 3) := by decide +kernel
theorem dX8_grids_125 : decode cX8_grids 125 = .ok (.iconst 0, 1) := by decide +kernel
theorem dX8_grids_126 : decode cX8_grids 126 = .ok (.istore_n 3, 1) := by decide +kernel
theorem dX8_grids_127 : decode cX8_grids 127 = .ok (.iload_n 3, 1) := by decide +kernel
theorem dX8_grids_128 : decode cX8_grids 128 = .ok (.aload_n 0, 1) := by decide +kernel
theorem dX8_grids_129 : decode cX8_grids 129 = .ok (.getfield 214, 3) := by decide +kernel
theorem dX8_grids_132 : decode cX8_grids 132 = .ok (.if_icmp .ge 31, 3) := by decide +kernel
theorem dX8_grids_135 : decode cX8_grids 135 = .ok (.aload_n 0, 1) := by decide +kernel
theorem dX8_grids_136 : decode cX8_grids 136 = .ok (.getfield 59, 3) := by decide +kernel
theorem dX8_grids_139 : decode cX8_grids 139 = .ok (.sipush 2197, 3) := by decide +kernel
theorem dX8_grids_142 : decode cX8_grids 142 = .ok (.iload_n 3, 1) := by decide +kernel
theorem dX8_grids_143 : decode cX8_grids 143 = .ok (.imul, 1) := by decide +kernel
theorem dX8_grids_144 : decode cX8_grids 144 = .ok (.iload_n 2, 1) := by decide +kernel
theorem dX8_grids_145 : decode cX8_grids 145 = .ok (.iadd, 1) := by decide +kernel
theorem dX8_grids_146 : decode cX8_grids 146 = .ok (.aload_n 0, 1) := by decide +kernel
theorem dX8_grids_147 : decode cX8_grids 147 = .ok (.aload_n 0, 1) := by decide +kernel
theorem dX8_grids_148 : decode cX8_grids 148 = .ok (.getfield 56, 3) := by decide +kernel
theorem dX8_grids_151 : decode cX8_grids 151 = .ok (.iload_n 3, 1) := by decide +kernel
theorem dX8_grids_152 : decode cX8_grids 152 = .ok (.iaload, 1) := by decide +kernel
theorem dX8_grids_153 : decode cX8_grids 153 = .ok (.invokevirtual 187, 3) := by decide +kernel
theorem dX8_grids_156 : decode cX8_grids 156 = .ok (.iastore, 1) := by decide +kernel
theorem dX8_grids_157 : decode cX8_grids 157 = .ok (.iinc 3 1, 3) := by decide +kernel
theorem dX8_grids_160 : decode cX8_grids 160 = .ok (.goto (-33), 3) := by decide +kernel
theorem dX8_grids_163 : decode cX8_grids 163 = .ok (.aload_n 0, 1) := by decide +kernel
theorem dX8_grids_164 : decode cX8_grids 164 = .ok (.getfield 62, 3) := by decide +kernel
theorem dX8_grids_167 : decode cX8_grids 167 = .ok (.iload_n 2, 1) := by decide +kernel
theorem dX8_grids_168 : decode cX8_grids 168 = .ok (.aload_n 0, 1) := by decide +kernel
theorem dX8_grids_169 : decode cX8_grids 169 = .ok (.invokevirtual 196, 3) := by decide +kernel
theorem dX8_grids_172 : decode cX8_grids 172 = .ok (.iastore, 1) := by decide +kernel
theorem dX8_grids_173 : decode cX8_grids 173 = .ok (.iinc 2 1, 3) := by decide +kernel
theorem dX8_grids_176 : decode cX8_grids 176 = .ok (.goto (-111), 3) := by decide +kernel
theorem dX8_grids_179 : decode cX8_grids 179 = .ok (.return_, 1) := by decide +kernel
theorem dX8_isRest_0 : decode cX8_isRest 0 = .ok (.iconst 0, 1) := by decide +kernel
theorem dX8_isRest_1 : decode cX8_isRest 1 = .ok (.istore_n 2, 1) := by decide +kernel
theorem dX8_isRest_2 : decode cX8_isRest 2 = .ok (.iload_n 2, 1) := by decide +kernel
theorem dX8_isRest_3 : decode cX8_isRest 3 = .ok (.aload_n 0, 1) := by decide +kernel
theorem dX8_isRest_4 : decode cX8_isRest 4 = .ok (.getfield 214, 3) := by decide +kernel
theorem dX8_isRest_7 : decode cX8_isRest 7 = .ok (.if_icmp .ge 82, 3) := by decide +kernel
theorem dX8_isRest_10 : decode cX8_isRest 10 = .ok (.iload_n 1, 1) := by decide +kernel
theorem dX8_isRest_11 : decode cX8_isRest 11 = .ok (.aload_n 0, 1) := by decide +kernel
theorem dX8_isRest_12 : decode cX8_isRest 12 = .ok (.getfield 65, 3) := by decide +kernel
theorem dX8_isRest_15 : decode cX8_isRest 15 = .ok (.iload_n 2, 1) := by decide +kernel
theorem dX8_isRest_16 : decode cX8_isRest 16 = .ok (.iaload, 1) := by decide +kernel
theorem dX8_isRest_17 : decode cX8_isRest 17 = .ok (.idiv, 1) := by decide +kernel
theorem dX8_isRest_18 : decode cX8_isRest 18 = .ok (.aload_n 0, 1) := by decide +kernel
theorem dX8_isRest_19 : decode cX8_isRest 19 = .ok (.getfield 217, 3) := by decide +kernel
theorem dX8_isRest_22 : decode cX8_isRest 22 = .ok (.irem, 1) := by decide +kernel
theorem dX8_isRest_23 : decode cX8_isRest 23 = .ok (.istore_n 3, 1) := by decide +kernel
theorem dX8_isRest_24 : decode cX8_isRest 24 = .ok (.iconst 0, 1) := by decide +kernel
theorem dX8_isRest_25 : decode cX8_isRest 25 = .ok (.istore 4, 2) := by decide +kernel
theorem dX8_isRest_27 : decode cX8_isRest 27 = .ok (.iload 4, 2) := by decide +kernel
theorem dX8_isRest_29 : decode cX8_isRest 29 = .ok (.aload_n 0, 1) := by decide +kernel
theorem dX8_isRest_30 : decode cX8_isRest 30 = .ok (.getfield 217, 3) := by decide +kernel
theorem dX8_isRest_33 : decode cX8_isRest 33 = .ok (.if_icmp .ge 50, 3) := by decide +kernel
theorem dX8_isRest_36 : decode cX8_isRest 36 = .ok (.aload_n 0, 1) := by decide +kernel
theorem dX8_isRest_37 : decode cX8_isRest 37 = .ok (.getfield 59, 3) := by decide +kernel
theorem dX8_isRest_40 : decode cX8_isRest 40 = .ok (.sipush 2197, 3) := by decide +kernel
theorem dX8_isRest_43 : decode cX8_isRest 43 = .ok (.iload_n 2, 1) := by decide +kernel
theorem dX8_isRest_44 : decode cX8_isRest 44 = .ok (.imul, 1) := by decide +kernel
theorem dX8_isRest_45 : decode cX8_isRest 45 = .ok (.iload_n 1, 1) := by decide +kernel
theorem dX8_isRest_46 : decode cX8_isRest 46 = .ok (.iadd, 1) := by decide +kernel
theorem dX8_isRest_47 : decode cX8_isRest 47 = .ok (.iload 4, 2) := by decide +kernel
theorem dX8_isRest_49 : decode cX8_isRest 49 = .ok (.iload_n 3, 1) := by decide +kernel
theorem dX8_isRest_50 : decode cX8_isRest 50 = .ok (.isub, 1) := by decide +kernel
theorem dX8_isRest_51 : decode cX8_isRest 51 = .ok (.aload_n 0, 1) := by decide +kernel
theorem dX8_isRest_52 : decode cX8_isRest 52 = .ok (.getfield 65, 3) := by decide +kernel
theorem dX8_isRest_55 : decode cX8_isRest 55 = .ok (.iload_n 2, 1) := by decide +kernel
theorem dX8_isRest_56 : decode cX8_isRest 56 = .ok (.iaload, 1) := by decide +kernel
theorem dX8_isRest_57 : decode cX8_isRest 57 = .ok (.imul, 1) := by decide +kernel
theorem dX8_isRest_58 : decode cX8_isRest 58 = .ok (.iadd, 1) := by decide +kernel
theorem dX8_isRest_59 : decode cX8_isRest 59 = .ok (.iaload, 1) := by decide +kernel
theorem dX8_isRest_60 : decode cX8_isRest 60 = .ok (.aload_n 0, 1) := by decide +kernel
theorem dX8_isRest_61 : decode cX8_isRest 61 = .ok (.getfield 59, 3) := by decide +kernel
theorem dX8_isRest_64 : decode cX8_isRest 64 = .ok (.sipush 2197, 3) := by decide +kernel
theorem dX8_isRest_67 : decode cX8_isRest 67 = .ok (.iload_n 2, 1) := by decide +kernel
theorem dX8_isRest_68 : decode cX8_isRest 68 = .ok (.imul, 1) := by decide +kernel
theorem dX8_isRest_69 : decode cX8_isRest 69 = .ok (.iload_n 1, 1) := by decide +kernel
theorem dX8_isRest_70 : decode cX8_isRest 70 = .ok (.iadd, 1) := by decide +kernel
theorem dX8_isRest_71 : decode cX8_isRest 71 = .ok (.iaload, 1) := by decide +kernel
theorem dX8_isRest_72 : decode cX8_isRest 72 = .ok (.if_icmp .ge 5, 3) := by decide +kernel
theorem dX8_isRest_75 : decode cX8_isRest 75 = .ok (.iconst 0, 1) := by decide +kernel
theorem dX8_isRest_76 : decode cX8_isRest 76 = .ok (.ireturn, 1) := by decide +kernel
theorem dX8_isRest_77 : decode cX8_isRest 77 = .ok (.iinc 4 1, 3) := by decide +kernel
theorem dX8_isRest_80 : decode cX8_isRest 80 = .ok (.goto (-53), 3) := by decide +kernel
theorem dX8_isRest_83 : decode cX8_isRest 83 = .ok (.iinc 2 1, 3) := by decide +kernel
theorem dX8_isRest_86 : decode cX8_isRest 86 = .ok (.goto (-84), 3) := by decide +kernel
theorem dX8_isRest_89 : decode cX8_isRest 89 = .ok (.iconst 1, 1) := by decide +kernel
theorem dX8_isRest_90 : decode cX8_isRest 90 = .ok (.ireturn, 1) := by decide +kernel
theorem dX8_restAt_0 : decode cX8_restAt 0 = .ok (.aload_n 0, 1) := by decide +kernel
theorem dX8_restAt_1 : decode cX8_restAt 1 = .ok (.iconst 0, 1) := by decide +kernel
theorem dX8_restAt_2 : decode cX8_restAt 2 = .ok (.putfield 226, 3) := by decide +kernel
theorem dX8_restAt_5 : decode cX8_restAt 5 = .ok (.iconst 0, 1) := by decide +kernel
theorem dX8_restAt_6 : decode cX8_restAt 6 = .ok (.istore_n 2, 1) := by decide +kernel
theorem dX8_restAt_7 : decode cX8_restAt 7 = .ok (.iload_n 2, 1) := by decide +kernel
theorem dX8_restAt_8 : decode cX8_restAt 8 = .ok (.aload_n 0, 1) := by decide +kernel
theorem dX8_restAt_9 : decode cX8_restAt 9 = .ok (.getfield 220, 3) := by decide +kernel
theorem dX8_restAt_12 : decode cX8_restAt 12 = .ok (.if_icmp .ge 37, 3) := by decide +kernel
theorem dX8_restAt_15 : decode cX8_restAt 15 = .ok (.aload_n 0, 1) := by decide +kernel
theorem dX8_restAt_16 : decode cX8_restAt 16 = .ok (.iload_n 2, 1) := by decide +kernel
theorem dX8_restAt_17 : decode cX8_restAt 17 = .ok (.invokevirtual 229, 3) := by decide +kernel
theorem dX8_restAt_20 : decode cX8_restAt 20 = .ok (.ifCond .eq 23, 3) := by decide +kernel
theorem dX8_restAt_23 : decode cX8_restAt 23 = .ok (.aload_n 0, 1) := by decide +kernel
theorem dX8_restAt_24 : decode cX8_restAt 24 = .ok (.getfield 226, 3) := by decide +kernel
theorem dX8_restAt_27 : decode cX8_restAt 27 = .ok (.iload_n 1, 1) := by decide +kernel
theorem dX8_restAt_28 : decode cX8_restAt 28 = .ok (.if_icmp .ne 5, 3) := by decide +kernel
theorem dX8_restAt_31 : decode cX8_restAt 31 = .ok (.iload_n 2, 1) := by decide +kernel
theorem dX8_restAt_32 : decode cX8_restAt 32 = .ok (.ireturn, 1) := by decide +kernel
theorem dX8_restAt_33 : decode cX8_restAt 33 = .ok (.aload_n 0, 1) := by decide +kernel
theorem dX8_restAt_34 : decode cX8_restAt 34 = .ok (.dup, 1) := by decide +kernel
theorem dX8_restAt_35 : decode cX8_restAt 35 = .ok (.getfield 226, 3) := by decide +kernel
theorem dX8_restAt_38 : decode cX8_restAt 38 = .ok (.iconst 1, 1) := by decide +kernel
theorem dX8_restAt_39 : decode cX8_restAt 39 = .ok (.iadd, 1) := by decide +kernel
theorem dX8_restAt_40 : decode cX8_restAt 40 = .ok (.putfield 226, 3) := by decide +kernel
theorem dX8_restAt_43 : decode cX8_restAt 43 = .ok (.iinc 2 1, 3) := by decide +kernel
theorem dX8_restAt_46 : decode cX8_restAt 46 = .ok (.goto (-39), 3) := by decide +kernel
theorem dX8_restAt_49 : decode cX8_restAt 49 = .ok (.iconst (-1), 1) := by decide +kernel
theorem dX8_restAt_50 : decode cX8_restAt 50 = .ok (.ireturn, 1) := by decide +kernel
theorem dX8_rests_0 : decode cX8_rests 0 = .ok (.iload_n 2, 1) := by decide +kernel
theorem dX8_rests_1 : decode cX8_rests 1 = .ok (.iconst (-1), 1) := by decide +kernel
theorem dX8_rests_2 : decode cX8_rests 2 = .ok (.if_icmp .ne 12, 3) := by decide +kernel
theorem dX8_rests_5 : decode cX8_rests 5 = .ok (.iload_n 3, 1) := by decide +kernel
theorem dX8_rests_6 : decode cX8_rests 6 = .ok (.iconst (-1), 1) := by decide +kernel
theorem dX8_rests_7 : decode cX8_rests 7 = .ok (.if_icmp .ne 7, 3) := by decide +kernel
theorem dX8_rests_10 : decode cX8_rests 10 = .ok (.iconst 1, 1) := by decide +kernel
theorem dX8_rests_11 : decode cX8_rests 11 = .ok (.goto 4, 3) := by decide +kernel
theorem dX8_rests_14 : decode cX8_rests 14 = .ok (.iconst 0, 1) := by decide +kernel
theorem dX8_rests_15 : decode cX8_rests 15 = .ok (.istore 4, 2) := by decide +kernel
theorem dX8_rests_17 : decode cX8_rests 17 = .ok (.iload_n 1, 1) := by decide +kernel
theorem dX8_rests_18 : decode cX8_rests 18 = .ok (.iconst 5, 1) := by decide +kernel
theorem dX8_rests_19 : decode cX8_rests 19 = .ok (.bipush 30, 2) := by decide +kernel
theorem dX8_rests_21 : decode cX8_rests 21 = .ok (.invokestatic 95, 3) := by decide +kernel
theorem dX8_rests_24 : decode cX8_rests 24 = .ok (.ifCond .eq 20, 3) := by decide +kernel
theorem dX8_rests_27 : decode cX8_rests 27 = .ok (.iload 4, 2) := by decide +kernel
theorem dX8_rests_29 : decode cX8_rests 29 = .ok (.ifCond .ne 18, 3) := by decide +kernel
theorem dX8_rests_32 : decode cX8_rests 32 = .ok (.iload_n 2, 1) := by decide +kernel
theorem dX8_rests_33 : decode cX8_rests 33 = .ok (.ifCond .lt 11, 3) := by decide +kernel
theorem dX8_rests_36 : decode cX8_rests 36 = .ok (.aload_n 0, 1) := by decide +kernel
theorem dX8_rests_37 : decode cX8_rests 37 = .ok (.iload_n 3, 1) := by decide +kernel
theorem dX8_rests_38 : decode cX8_rests 38 = .ok (.invokevirtual 107, 3) := by decide +kernel
theorem dX8_rests_41 : decode cX8_rests 41 = .ok (.ifCond .ne 6, 3) := by decide +kernel
theorem dX8_rests_44 : decode cX8_rests 44 = .ok (.bipush (-2), 2) := by decide +kernel
theorem dX8_rests_46 : decode cX8_rests 46 = .ok (.ireturn, 1) := by decide +kernel
theorem dX8_rests_47 : decode cX8_rests 47 = .ok (.aload_n 0, 1) := by decide +kernel
theorem dX8_rests_48 : decode cX8_rests 48 = .ok (.invokevirtual 232, 3) := by decide +kernel
theorem dX8_rests_51 : decode cX8_rests 51 = .ok (.ifCond .ne 6, 3) := by decide +kernel
theorem dX8_rests_54 : decode cX8_rests 54 = .ok (.bipush (-4), 2) := by decide +kernel
theorem dX8_rests_56 : decode cX8_rests 56 = .ok (.ireturn, 1) := by decide +kernel
theorem dX8_rests_57 : decode cX8_rests 57 = .ok (.aload_n 0, 1) := by decide +kernel
theorem dX8_rests_58 : decode cX8_rests 58 = .ok (.iload_n 1, 1) := by decide +kernel
theorem dX8_rests_59 : decode cX8_rests 59 = .ok (.invokevirtual 236, 3) := by decide +kernel
theorem dX8_rests_62 : decode cX8_rests 62 = .ok (.aload_n 0, 1) := by decide +kernel
theorem dX8_rests_63 : decode cX8_rests 63 = .ok (.iload_n 2, 1) := by decide +kernel
theorem dX8_rests_64 : decode cX8_rests 64 = .ok (.invokevirtual 240, 3) := by decide +kernel
theorem dX8_rests_67 : decode cX8_rests 67 = .ok (.istore 5, 2) := by decide +kernel
theorem dX8_rests_69 : decode cX8_rests 69 = .ok (.iload 4, 2) := by decide +kernel
theorem dX8_rests_71 : decode cX8_rests 71 = .ok (.ifCond .eq 8, 3) := by decide +kernel
theorem dX8_rests_74 : decode cX8_rests 74 = .ok (.aload_n 0, 1) := by decide +kernel
theorem dX8_rests_75 : decode cX8_rests 75 = .ok (.getfield 226, 3) := by decide +kernel
theorem dX8_rests_78 : decode cX8_rests 78 = .ok (.ireturn, 1) := by decide +kernel
theorem dX8_rests_79 : decode cX8_rests 79 = .ok (.iconst 0, 1) := by decide +kernel
theorem dX8_rests_80 : decode cX8_rests 80 = .ok (.istore 6, 2) := by decide +kernel
theorem dX8_rests_82 : decode cX8_rests 82 = .ok (.aload_n 0, 1) := by decide +kernel
theorem dX8_rests_83 : decode cX8_rests 83 = .ok (.getfield 56, 3) := by decide +kernel
theorem dX8_rests_86 : decode cX8_rests 86 = .ok (.iload 6, 2) := by decide +kernel
theorem dX8_rests_88 : decode cX8_rests 88 = .ok (.iaload, 1) := by decide +kernel
theorem dX8_rests_89 : decode cX8_rests 89 = .ok (.iload_n 3, 1) := by decide +kernel
theorem dX8_rests_90 : decode cX8_rests 90 = .ok (.if_icmp .eq 9, 3) := by decide +kernel
theorem dX8_rests_93 : decode cX8_rests 93 = .ok (.iinc 6 1, 3) := by decide +kernel
theorem dX8_rests_96 : decode cX8_rests 96 = .ok (.goto (-14), 3) := by decide +kernel
theorem dX8_rests_99 : decode cX8_rests 99 = .ok (.iload 5, 2) := by decide +kernel
theorem dX8_rests_101 : decode cX8_rests 101 = .ok (.iconst (-1), 1) := by decide +kernel
theorem dX8_rests_102 : decode cX8_rests 102 = .ok (.if_icmp .ne 7, 3) := by decide +kernel
theorem dX8_rests_105 : decode cX8_rests 105 = .ok (.iconst (-1), 1) := by decide +kernel
theorem dX8_rests_106 : decode cX8_rests 106 = .ok (.goto 26, 3) := by decide +kernel
theorem dX8_rests_109 : decode cX8_rests 109 = .ok (.iload_n 1, 1) := by decide +kernel
theorem dX8_rests_110 : decode cX8_rests 110 = .ok (.aload_n 0, 1) := by decide +kernel
theorem dX8_rests_111 : decode cX8_rests 111 = .ok (.getfield 217, 3) := by decide +kernel
theorem dX8_rests_114 : decode cX8_rests 114 = .ok (.iload 5, 2) := by decide +kernel
theorem dX8_rests_116 : decode cX8_rests 116 = .ok (.aload_n 0, 1) := by decide +kernel
theorem dX8_rests_117 : decode cX8_rests 117 = .ok (.getfield 65, 3) := by decide +kernel
theorem dX8_rests_120 : decode cX8_rests 120 = .ok (.iload 6, 2) := by decide +kernel
theorem dX8_rests_122 : decode cX8_rests 122 = .ok (.iaload, 1) := by decide +kernel
theorem dX8_rests_123 : decode cX8_rests 123 = .ok (.idiv, 1) := by decide +kernel
theorem dX8_rests_124 : decode cX8_rests 124 = .ok (.aload_n 0, 1) := by decide +kernel
theorem dX8_rests_125 : decode cX8_rests 125 = .ok (.getfield 217, 3) := by decide +kernel
theorem dX8_rests_128 : decode cX8_rests 128 = .ok (.irem, 1) := by decide +kernel
theorem dX8_rests_129 : decode cX8_rests 129 = .ok (.invokestatic 223, 3) := by decide +kernel
theorem dX8_rests_132 : decode cX8_rests 132 = .ok (.ireturn, 1) := by decide +kernel
theorem dX8_lost_0 : decode cX8_lost 0 = .ok (.iload_n 1, 1) := by decide +kernel
theorem dX8_lost_1 : decode cX8_lost 1 = .ok (.iconst 5, 1) := by decide +kernel
theorem dX8_lost_2 : decode cX8_lost 2 = .ok (.bipush 30, 2) := by decide +kernel
theorem dX8_lost_4 : decode cX8_lost 4 = .ok (.invokestatic 95, 3) := by decide +kernel
theorem dX8_lost_7 : decode cX8_lost 7 = .ok (.ifCond .eq 8, 3) := by decide +kernel
theorem dX8_lost_10 : decode cX8_lost 10 = .ok (.iload_n 2, 1) := by decide +kernel
theorem dX8_lost_11 : decode cX8_lost 11 = .ok (.iconst (-1), 1) := by decide +kernel
theorem dX8_lost_12 : decode cX8_lost 12 = .ok (.if_icmp .ge 7, 3) := by decide +kernel
theorem dX8_lost_15 : decode cX8_lost 15 = .ok (.sipush (-10000), 3) := by decide +kernel
theorem dX8_lost_18 : decode cX8_lost 18 = .ok (.ireturn, 1) := by decide +kernel
theorem dX8_lost_19 : decode cX8_lost 19 = .ok (.aload_n 0, 1) := by decide +kernel
theorem dX8_lost_20 : decode cX8_lost 20 = .ok (.invokevirtual 232, 3) := by decide +kernel
theorem dX8_lost_23 : decode cX8_lost 23 = .ok (.ifCond .ne 7, 3) := by decide +kernel
theorem dX8_lost_26 : decode cX8_lost 26 = .ok (.sipush (-10001), 3) := by decide +kernel
theorem dX8_lost_29 : decode cX8_lost 29 = .ok (.ireturn, 1) := by decide +kernel
theorem dX8_lost_30 : decode cX8_lost 30 = .ok (.aload_n 0, 1) := by decide +kernel
theorem dX8_lost_31 : decode cX8_lost 31 = .ok (.iload_n 1, 1) := by decide +kernel
theorem dX8_lost_32 : decode cX8_lost 32 = .ok (.invokevirtual 236, 3) := by decide +kernel
theorem dX8_lost_35 : decode cX8_lost 35 = .ok (.aload_n 0, 1) := by decide +kernel
theorem dX8_lost_36 : decode cX8_lost 36 = .ok (.getfield 62, 3) := by decide +kernel
theorem dX8_lost_39 : decode cX8_lost 39 = .ok (.iconst 0, 1) := by decide +kernel
theorem dX8_lost_40 : decode cX8_lost 40 = .ok (.iaload, 1) := by decide +kernel
theorem dX8_lost_41 : decode cX8_lost 41 = .ok (.istore_n 3, 1) := by decide +kernel
theorem dX8_lost_42 : decode cX8_lost 42 = .ok (.iconst 1, 1) := by decide +kernel
theorem dX8_lost_43 : decode cX8_lost 43 = .ok (.istore 4, 2) := by decide +kernel
theorem dX8_lost_45 : decode cX8_lost 45 = .ok (.iload 4, 2) := by decide +kernel
theorem dX8_lost_47 : decode cX8_lost 47 = .ok (.aload_n 0, 1) := by decide +kernel
theorem dX8_lost_48 : decode cX8_lost 48 = .ok (.getfield 220, 3) := by decide +kernel
theorem dX8_lost_51 : decode cX8_lost 51 = .ok (.if_icmp .ge 32, 3) := by decide +kernel
theorem dX8_lost_54 : decode cX8_lost 54 = .ok (.aload_n 0, 1) := by decide +kernel
theorem dX8_lost_55 : decode cX8_lost 55 = .ok (.getfield 62, 3) := by decide +kernel
theorem dX8_lost_58 : decode cX8_lost 58 = .ok (.iload 4, 2) := by decide +kernel
theorem dX8_lost_60 : decode cX8_lost 60 = .ok (.iaload, 1) := by decide +kernel
theorem dX8_lost_61 : decode cX8_lost 61 = .ok (.iload_n 3, 1) := by decide +kernel
theorem dX8_lost_62 : decode cX8_lost 62 = .ok (.if_icmp .ge 13, 3) := by decide +kernel
theorem dX8_lost_65 : decode cX8_lost 65 = .ok (.aload_n 0, 1) := by decide +kernel
theorem dX8_lost_66 : decode cX8_lost 66 = .ok (.getfield 62, 3) := by decide +kernel
theorem dX8_lost_69 : decode cX8_lost 69 = .ok (.iload 4, 2) := by decide +kernel
theorem dX8_lost_71 : decode cX8_lost 71 = .ok (.iaload, 1) := by decide +kernel
theorem dX8_lost_72 : decode cX8_lost 72 = .ok (.goto 4, 3) := by decide +kernel
theorem dX8_lost_75 : decode cX8_lost 75 = .ok (.iload_n 3, 1) := by decide +kernel
theorem dX8_lost_76 : decode cX8_lost 76 = .ok (.istore_n 3, 1) := by decide +kernel
theorem dX8_lost_77 : decode cX8_lost 77 = .ok (.iinc 4 1, 3) := by decide +kernel
theorem dX8_lost_80 : decode cX8_lost 80 = .ok (.goto (-35), 3) := by decide +kernel
theorem dX8_lost_83 : decode cX8_lost 83 = .ok (.iload_n 2, 1) := by decide +kernel
theorem dX8_lost_84 : decode cX8_lost 84 = .ok (.iconst (-1), 1) := by decide +kernel
theorem dX8_lost_85 : decode cX8_lost 85 = .ok (.if_icmp .ne 5, 3) := by decide +kernel
theorem dX8_lost_88 : decode cX8_lost 88 = .ok (.iload_n 3, 1) := by decide +kernel
theorem dX8_lost_89 : decode cX8_lost 89 = .ok (.ireturn, 1) := by decide +kernel
theorem dX8_lost_90 : decode cX8_lost 90 = .ok (.aload_n 0, 1) := by decide +kernel
theorem dX8_lost_91 : decode cX8_lost 91 = .ok (.iload_n 2, 1) := by decide +kernel
theorem dX8_lost_92 : decode cX8_lost 92 = .ok (.invokevirtual 240, 3) := by decide +kernel
theorem dX8_lost_95 : decode cX8_lost 95 = .ok (.istore 4, 2) := by decide +kernel
theorem dX8_lost_97 : decode cX8_lost 97 = .ok (.iload 4, 2) := by decide +kernel
theorem dX8_lost_99 : decode cX8_lost 99 = .ok (.iconst (-1), 1) := by decide +kernel
theorem dX8_lost_100 : decode cX8_lost 100 = .ok (.if_icmp .ne 9, 3) := by decide +kernel
theorem dX8_lost_103 : decode cX8_lost 103 = .ok (.sipush (-10002), 3) := by decide +kernel
theorem dX8_lost_106 : decode cX8_lost 106 = .ok (.goto 12, 3) := by decide +kernel
theorem dX8_lost_109 : decode cX8_lost 109 = .ok (.aload_n 0, 1) := by decide +kernel
theorem dX8_lost_110 : decode cX8_lost 110 = .ok (.getfield 62, 3) := by decide +kernel
theorem dX8_lost_113 : decode cX8_lost 113 = .ok (.iload 4, 2) := by decide +kernel
theorem dX8_lost_115 : decode cX8_lost 115 = .ok (.iaload, 1) := by decide +kernel
theorem dX8_lost_116 : decode cX8_lost 116 = .ok (.iload_n 3, 1) := by decide +kernel
theorem dX8_lost_117 : decode cX8_lost 117 = .ok (.isub, 1) := by decide +kernel
theorem dX8_lost_118 : decode cX8_lost 118 = .ok (.ireturn, 1) := by decide +kernel
theorem dX8_weeks_0 : decode cX8_weeks 0 = .ok (.aload_n 0, 1) := by decide +kernel
theorem dX8_weeks_1 : decode cX8_weeks 1 = .ok (.invokevirtual 190, 3) := by decide +kernel
theorem dX8_weeks_4 : decode cX8_weeks 4 = .ok (.iconst 0, 1) := by decide +kernel
theorem dX8_weeks_5 : decode cX8_weeks 5 = .ok (.istore_n 2, 1) := by decide +kernel
theorem dX8_weeks_6 : decode cX8_weeks 6 = .ok (.iload_n 2, 1) := by decide +kernel
theorem dX8_weeks_7 : decode cX8_weeks 7 = .ok (.iload_n 1, 1) := by decide +kernel
theorem dX8_weeks_8 : decode cX8_weeks 8 = .ok (.if_icmp .gt 140, 3) := by decide +kernel
theorem dX8_weeks_11 : decode cX8_weeks 11 = .ok (.aload_n 0, 1) := by decide +kernel
theorem dX8_weeks_12 : decode cX8_weeks 12 = .ok (.invokevirtual 193, 3) := by decide +kernel
theorem dX8_weeks_15 : decode cX8_weeks 15 = .ok (.aload_n 0, 1) := by decide +kernel
theorem dX8_weeks_16 : decode cX8_weeks 16 = .ok (.getfield 71, 3) := by decide +kernel
theorem dX8_weeks_19 : decode cX8_weeks 19 = .ok (.iload_n 2, 1) := by decide +kernel
theorem dX8_weeks_20 : decode cX8_weeks 20 = .ok (.aload_n 0, 1) := by decide +kernel
theorem dX8_weeks_21 : decode cX8_weeks 21 = .ok (.getfield 178, 3) := by decide +kernel
theorem dX8_weeks_24 : decode cX8_weeks 24 = .ok (.iastore, 1) := by decide +kernel
theorem dX8_weeks_25 : decode cX8_weeks 25 = .ok (.iconst 0, 1) := by decide +kernel
theorem dX8_weeks_26 : decode cX8_weeks 26 = .ok (.istore_n 3, 1) := by decide +kernel
theorem dX8_weeks_27 : decode cX8_weeks 27 = .ok (.iload_n 3, 1) := by decide +kernel
theorem dX8_weeks_28 : decode cX8_weeks 28 = .ok (.aload_n 0, 1) := by decide +kernel
theorem dX8_weeks_29 : decode cX8_weeks 29 = .ok (.getfield 99, 3) := by decide +kernel
theorem dX8_weeks_32 : decode cX8_weeks 32 = .ok (.if_icmp .ge 26, 3) := by decide +kernel
theorem dX8_weeks_35 : decode cX8_weeks 35 = .ok (.aload_n 0, 1) := by decide +kernel
theorem dX8_weeks_36 : decode cX8_weeks 36 = .ok (.getfield 68, 3) := by decide +kernel
theorem dX8_weeks_39 : decode cX8_weeks 39 = .ok (.bipush 8, 2) := by decide +kernel
theorem dX8_weeks_41 : decode cX8_weeks 41 = .ok (.iload_n 2, 1) := by decide +kernel
theorem dX8_weeks_42 : decode cX8_weeks 42 = .ok (.imul, 1) := by decide +kernel
theorem dX8_weeks_43 : decode cX8_weeks 43 = .ok (.iload_n 3, 1) := by decide +kernel
theorem dX8_weeks_44 : decode cX8_weeks 44 = .ok (.iadd, 1) := by decide +kernel
theorem dX8_weeks_45 : decode cX8_weeks 45 = .ok (.aload_n 0, 1) := by decide +kernel
theorem dX8_weeks_46 : decode cX8_weeks 46 = .ok (.getfield 47, 3) := by decide +kernel
theorem dX8_weeks_49 : decode cX8_weeks 49 = .ok (.iload_n 3, 1) := by decide +kernel
theorem dX8_weeks_50 : decode cX8_weeks 50 = .ok (.iaload, 1) := by decide +kernel
theorem dX8_weeks_51 : decode cX8_weeks 51 = .ok (.iastore, 1) := by decide +kernel
theorem dX8_weeks_52 : decode cX8_weeks 52 = .ok (.iinc 3 1, 3) := by decide +kernel
theorem dX8_weeks_55 : decode cX8_weeks 55 = .ok (.goto (-28), 3) := by decide +kernel
theorem dX8_weeks_58 : decode cX8_weeks 58 = .ok (.iconst 0, 1) := by decide +kernel
theorem dX8_weeks_59 : decode cX8_weeks 59 = .ok (.istore_n 3, 1) := by decide +kernel
theorem dX8_weeks_60 : decode cX8_weeks 60 = .ok (.iload_n 3, 1) := by decide +kernel
theorem dX8_weeks_61 : decode cX8_weeks 61 = .ok (.aload_n 0, 1) := by decide +kernel
theorem dX8_weeks_62 : decode cX8_weeks 62 = .ok (.getfield 99, 3) := by decide +kernel
theorem dX8_weeks_65 : decode cX8_weeks 65 = .ok (.if_icmp .ge 44, 3) := by decide +kernel
theorem dX8_weeks_68 : decode cX8_weeks 68 = .ok (.iload_n 2, 1) := by decide +kernel
theorem dX8_weeks_69 : decode cX8_weeks 69 = .ok (.iload_n 1, 1) := by decide +kernel
theorem dX8_weeks_70 : decode cX8_weeks 70 = .ok (.if_icmp .ge 39, 3) := by decide +kernel
theorem dX8_weeks_73 : decode cX8_weeks 73 = .ok (.aload_n 0, 1) := by decide +kernel
theorem dX8_weeks_74 : decode cX8_weeks 74 = .ok (.getfield 74, 3) := by decide +kernel
theorem dX8_weeks_77 : decode cX8_weeks 77 = .ok (.iload_n 3, 1) := by decide +kernel
theorem dX8_weeks_78 : decode cX8_weeks 78 = .ok (.aload_n 0, 1) := by decide +kernel
theorem dX8_weeks_79 : decode cX8_weeks 79 = .ok (.getfield 7, 3) := by decide +kernel
theorem dX8_weeks_82 : decode cX8_weeks 82 = .ok (.iload_n 3, 1) := by decide +kernel
theorem dX8_weeks_83 : decode cX8_weeks 83 = .ok (.iaload, 1) := by decide +kernel
theorem dX8_weeks_84 : decode cX8_weeks 84 = .ok (.ifCond .ne 12, 3) := by decide +kernel
theorem dX8_weeks_87 : decode cX8_weeks 87 = .ok (.aload_n 0, 1) := by decide +kernel
theorem dX8_weeks_88 : decode cX8_weeks 88 = .ok (.iload_n 3, 1) := by decide +kernel
theorem dX8_weeks_89 : decode cX8_weeks 89 = .ok (.iconst 0, 1) := by decide +kernel
theorem dX8_weeks_90 : decode cX8_weeks 90 = .ok (.invokevirtual 199, 3) := by decide +kernel
theorem dX8_weeks_93 : decode cX8_weeks 93 = .ok (.goto 9, 3) := by decide +kernel
theorem dX8_weeks_96 : decode cX8_weeks 96 = .ok (.aload_n 0, 1) := by decide +kernel
theorem dX8_weeks_97 : decode cX8_weeks 97 = .ok (.getfield 47, 3) := by decide +kernel
theorem dX8_weeks_100 : decode cX8_weeks 100 = .ok (.iload_n 3, 1) := by decide +kernel
theorem dX8_weeks_101 : decode cX8_weeks 101 = .ok (.iaload, 1) := by decide +kernel
theorem dX8_weeks_102 : decode cX8_weeks 102 = .ok (.iastore, 1) := by decide +kernel
theorem dX8_weeks_103 : decode cX8_weeks 103 = .ok (.iinc 3 1, 3) := by decide +kernel
theorem dX8_weeks_106 : decode cX8_weeks 106 = .ok (.goto (-46), 3) := by decide +kernel
theorem dX8_weeks_109 : decode cX8_weeks 109 = .ok (.iconst 0, 1) := by decide +kernel
theorem dX8_weeks_110 : decode cX8_weeks 110 = .ok (.istore_n 3, 1) := by decide +kernel
theorem dX8_weeks_111 : decode cX8_weeks 111 = .ok (.iload_n 3, 1) := by decide +kernel
theorem dX8_weeks_112 : decode cX8_weeks 112 = .ok (.aload_n 0, 1) := by decide +kernel
theorem dX8_weeks_113 : decode cX8_weeks 113 = .ok (.getfield 99, 3) := by decide +kernel
theorem dX8_weeks_116 : decode cX8_weeks 116 = .ok (.if_icmp .ge 26, 3) := by decide +kernel
theorem dX8_weeks_119 : decode cX8_weeks 119 = .ok (.iload_n 2, 1) := by decide +kernel
theorem dX8_weeks_120 : decode cX8_weeks 120 = .ok (.iload_n 1, 1) := by decide +kernel
theorem dX8_weeks_121 : decode cX8_weeks 121 = .ok (.if_icmp .ge 21, 3) := by decide +kernel
theorem dX8_weeks_124 : decode cX8_weeks 124 = .ok (.aload_n 0, 1) := by decide +kernel
theorem dX8_weeks_125 : decode cX8_weeks 125 = .ok (.getfield 47, 3) := by decide +kernel
theorem dX8_weeks_128 : decode cX8_weeks 128 = .ok (.iload_n 3, 1) := by decide +kernel
theorem dX8_weeks_129 : decode cX8_weeks 129 = .ok (.aload_n 0, 1) := by decide +kernel
theorem dX8_weeks_130 : decode cX8_weeks 130 = .ok (.getfield 74, 3) := by decide +kernel
theorem dX8_weeks_133 : decode cX8_weeks 133 = .ok (.iload_n 3, 1) := by decide +kernel
theorem dX8_weeks_134 : decode cX8_weeks 134 = .ok (.iaload, 1) := by decide +kernel
theorem dX8_weeks_135 : decode cX8_weeks 135 = .ok (.iastore, 1) := by decide +kernel
theorem dX8_weeks_136 : decode cX8_weeks 136 = .ok (.iinc 3 1, 3) := by decide +kernel
theorem dX8_weeks_139 : decode cX8_weeks 139 = .ok (.goto (-28), 3) := by decide +kernel
theorem dX8_weeks_142 : decode cX8_weeks 142 = .ok (.iinc 2 1, 3) := by decide +kernel
theorem dX8_weeks_145 : decode cX8_weeks 145 = .ok (.goto (-139), 3) := by decide +kernel
theorem dX8_weeks_148 : decode cX8_weeks 148 = .ok (.return_, 1) := by decide +kernel
theorem dX8_weekNow_0 : decode cX8_weekNow 0 = .ok (.aload_n 0, 1) := by decide +kernel
theorem dX8_weekNow_1 : decode cX8_weekNow 1 = .ok (.iload_n 1, 1) := by decide +kernel
theorem dX8_weekNow_2 : decode cX8_weekNow 2 = .ok (.invokevirtual 243, 3) := by decide +kernel
theorem dX8_weekNow_5 : decode cX8_weekNow 5 = .ok (.aload_n 0, 1) := by decide +kernel
theorem dX8_weekNow_6 : decode cX8_weekNow 6 = .ok (.getfield 71, 3) := by decide +kernel
theorem dX8_weekNow_9 : decode cX8_weekNow 9 = .ok (.iload_n 1, 1) := by decide +kernel
theorem dX8_weekNow_10 : decode cX8_weekNow 10 = .ok (.iaload, 1) := by decide +kernel
theorem dX8_weekNow_11 : decode cX8_weekNow 11 = .ok (.ireturn, 1) := by decide +kernel
theorem dX8_week_0 : decode cX8_week 0 = .ok (.iload_n 1, 1) := by decide +kernel
theorem dX8_week_1 : decode cX8_week 1 = .ok (.iconst 0, 1) := by decide +kernel
theorem dX8_week_2 : decode cX8_week 2 = .ok (.bipush 60, 2) := by decide +kernel
theorem dX8_week_4 : decode cX8_week 4 = .ok (.invokestatic 95, 3) := by decide +kernel
theorem dX8_week_7 : decode cX8_week 7 = .ok (.ifCond .eq 11, 3) := by decide +kernel
theorem dX8_week_10 : decode cX8_week 10 = .ok (.aload_n 0, 1) := by decide +kernel
theorem dX8_week_11 : decode cX8_week 11 = .ok (.iload_n 1, 1) := by decide +kernel
theorem dX8_week_12 : decode cX8_week 12 = .ok (.invokevirtual 246, 3) := by decide +kernel
theorem dX8_week_15 : decode cX8_week 15 = .ok (.goto 5, 3) := by decide +kernel
theorem dX8_week_18 : decode cX8_week 18 = .ok (.bipush (-2), 2) := by decide +kernel
theorem dX8_week_20 : decode cX8_week 20 = .ok (.ireturn, 1) := by decide +kernel
theorem dX8_isSameWeek_0 : decode cX8_isSameWeek 0 = .ok (.iconst 0, 1) := by decide +kernel
theorem dX8_isSameWeek_1 : decode cX8_isSameWeek 1 = .ok (.istore_n 3, 1) := by decide +kernel
theorem dX8_isSameWeek_2 : decode cX8_isSameWeek 2 = .ok (.iload_n 3, 1) := by decide +kernel
theorem dX8_isSameWeek_3 : decode cX8_isSameWeek 3 = .ok (.aload_n 0, 1) := by decide +kernel
theorem dX8_isSameWeek_4 : decode cX8_isSameWeek 4 = .ok (.getfield 99, 3) := by decide +kernel
theorem dX8_isSameWeek_7 : decode cX8_isSameWeek 7 = .ok (.if_icmp .ge 36, 3) := by decide +kernel
theorem dX8_isSameWeek_10 : decode cX8_isSameWeek 10 = .ok (.aload_n 0, 1) := by decide +kernel
theorem dX8_isSameWeek_11 : decode cX8_isSameWeek 11 = .ok (.getfield 68, 3) := by decide +kernel
theorem dX8_isSameWeek_14 : decode cX8_isSameWeek 14 = .ok (.bipush 8, 2) := by decide +kernel
theorem dX8_isSameWeek_16 : decode cX8_isSameWeek 16 = .ok (.iload_n 1, 1) := by decide +kernel
theorem dX8_isSameWeek_17 : decode cX8_isSameWeek 17 = .ok (.imul, 1) := by decide +kernel
theorem dX8_isSameWeek_18 : decode cX8_isSameWeek 18 = .ok (.iload_n 3, 1) := by decide +kernel
theorem dX8_isSameWeek_19 : decode cX8_isSameWeek 19 = .ok (.iadd, 1) := by decide +kernel
theorem dX8_isSameWeek_20 : decode cX8_isSameWeek 20 = .ok (.iaload, 1) := by decide +kernel
theorem dX8_isSameWeek_21 : decode cX8_isSameWeek 21 = .ok (.aload_n 0, 1) := by decide +kernel
theorem dX8_isSameWeek_22 : decode cX8_isSameWeek 22 = .ok (.getfield 68, 3) := by decide +kernel
theorem dX8_isSameWeek_25 : decode cX8_isSameWeek 25 = .ok (.bipush 8, 2) := by decide +kernel
theorem dX8_isSameWeek_27 : decode cX8_isSameWeek 27 = .ok (.iload_n 2, 1) := by decide +kernel
theorem dX8_isSameWeek_28 : decode cX8_isSameWeek 28 = .ok (.imul, 1) := by decide +kernel
theorem dX8_isSameWeek_29 : decode cX8_isSameWeek 29 = .ok (.iload_n 3, 1) := by decide +kernel
theorem dX8_isSameWeek_30 : decode cX8_isSameWeek 30 = .ok (.iadd, 1) := by decide +kernel
theorem dX8_isSameWeek_31 : decode cX8_isSameWeek 31 = .ok (.iaload, 1) := by decide +kernel
theorem dX8_isSameWeek_32 : decode cX8_isSameWeek 32 = .ok (.if_icmp .eq 5, 3) := by decide +kernel
theorem dX8_isSameWeek_35 : decode cX8_isSameWeek 35 = .ok (.iconst 0, 1) := by decide +kernel
theorem dX8_isSameWeek_36 : decode cX8_isSameWeek 36 = .ok (.ireturn, 1) := by decide +kernel
theorem dX8_isSameWeek_37 : decode cX8_isSameWeek 37 = .ok (.iinc 3 1, 3) := by decide +kernel
theorem dX8_isSameWeek_40 : decode cX8_isSameWeek 40 = .ok (.goto (-38), 3) := by decide +kernel
theorem dX8_isSameWeek_43 : decode cX8_isSameWeek 43 = .ok (.iconst 1, 1) := by decide +kernel
theorem dX8_isSameWeek_44 : decode cX8_isSameWeek 44 = .ok (.ireturn, 1) := by decide +kernel
theorem dX8_round_0 : decode cX8_round 0 = .ok (.iload_n 1, 1) := by decide +kernel
theorem dX8_round_1 : decode cX8_round 1 = .ok (.iconst 0, 1) := by decide +kernel
theorem dX8_round_2 : decode cX8_round 2 = .ok (.iconst 1, 1) := by decide +kernel
theorem dX8_round_3 : decode cX8_round 3 = .ok (.invokestatic 95, 3) := by decide +kernel
theorem dX8_round_6 : decode cX8_round 6 = .ok (.ifCond .ne 6, 3) := by decide +kernel
theorem dX8_round_9 : decode cX8_round 9 = .ok (.bipush (-2), 2) := by decide +kernel
theorem dX8_round_11 : decode cX8_round 11 = .ok (.ireturn, 1) := by decide +kernel
theorem dX8_round_12 : decode cX8_round 12 = .ok (.aload_n 0, 1) := by decide +kernel
theorem dX8_round_13 : decode cX8_round 13 = .ok (.bipush 60, 2) := by decide +kernel
theorem dX8_round_15 : decode cX8_round 15 = .ok (.invokevirtual 243, 3) := by decide +kernel
theorem dX8_round_18 : decode cX8_round 18 = .ok (.iconst 0, 1) := by decide +kernel
theorem dX8_round_19 : decode cX8_round 19 = .ok (.istore_n 2, 1) := by decide +kernel
theorem dX8_round_20 : decode cX8_round 20 = .ok (.iload_n 2, 1) := by decide +kernel
theorem dX8_round_21 : decode cX8_round 21 = .ok (.bipush 60, 2) := by decide +kernel
theorem dX8_round_23 : decode cX8_round 23 = .ok (.if_icmp .ge 46, 3) := by decide +kernel
theorem dX8_round_26 : decode cX8_round 26 = .ok (.iload_n 2, 1) := by decide +kernel
theorem dX8_round_27 : decode cX8_round 27 = .ok (.iconst 1, 1) := by decide +kernel
theorem dX8_round_28 : decode cX8_round 28 = .ok (.iadd, 1) := by decide +kernel
theorem dX8_round_29 : decode cX8_round 29 = .ok (.istore_n 3, 1) := by decide +kernel
theorem dX8_round_30 : decode cX8_round 30 = .ok (.iload_n 3, 1) := by decide +kernel
theorem dX8_round_31 : decode cX8_round 31 = .ok (.bipush 60, 2) := by decide +kernel
theorem dX8_round_33 : decode cX8_round 33 = .ok (.if_icmp .gt 30, 3) := by decide +kernel
theorem dX8_round_36 : decode cX8_round 36 = .ok (.aload_n 0, 1) := by decide +kernel
theorem dX8_round_37 : decode cX8_round 37 = .ok (.iload_n 2, 1) := by decide +kernel
theorem dX8_round_38 : decode cX8_round 38 = .ok (.iload_n 3, 1) := by decide +kernel
theorem dX8_round_39 : decode cX8_round 39 = .ok (.invokevirtual 249, 3) := by decide +kernel
theorem dX8_round_42 : decode cX8_round 42 = .ok (.ifCond .eq 15, 3) := by decide +kernel
theorem dX8_round_45 : decode cX8_round 45 = .ok (.iload_n 1, 1) := by decide +kernel
theorem dX8_round_46 : decode cX8_round 46 = .ok (.ifCond .ne 7, 3) := by decide +kernel
theorem dX8_round_49 : decode cX8_round 49 = .ok (.iload_n 2, 1) := by decide +kernel
theorem dX8_round_50 : decode cX8_round 50 = .ok (.goto 6, 3) := by decide +kernel
theorem dX8_round_53 : decode cX8_round 53 = .ok (.iload_n 3, 1) := by decide +kernel
theorem dX8_round_54 : decode cX8_round 54 = .ok (.iload_n 2, 1) := by decide +kernel
theorem dX8_round_55 : decode cX8_round 55 = .ok (.isub, 1) := by decide +kernel
theorem dX8_round_56 : decode cX8_round 56 = .ok (.ireturn, 1) := by decide +kernel
theorem dX8_round_57 : decode cX8_round 57 = .ok (.iinc 3 1, 3) := by decide +kernel
theorem dX8_round_60 : decode cX8_round 60 = .ok (.goto (-30), 3) := by decide +kernel
theorem dX8_round_63 : decode cX8_round 63 = .ok (.iinc 2 1, 3) := by decide +kernel
theorem dX8_round_66 : decode cX8_round 66 = .ok (.goto (-46), 3) := by decide +kernel
theorem dX8_round_69 : decode cX8_round 69 = .ok (.iconst (-1), 1) := by decide +kernel
theorem dX8_round_70 : decode cX8_round 70 = .ok (.ireturn, 1) := by decide +kernel
theorem dX8_moved_0 : decode cX8_moved 0 = .ok (.iload_n 1, 1) := by decide +kernel
theorem dX8_moved_1 : decode cX8_moved 1 = .ok (.iconst 0, 1) := by decide +kernel
theorem dX8_moved_2 : decode cX8_moved 2 = .ok (.bipush 59, 2) := by decide +kernel
theorem dX8_moved_4 : decode cX8_moved 4 = .ok (.invokestatic 95, 3) := by decide +kernel
theorem dX8_moved_7 : decode cX8_moved 7 = .ok (.ifCond .ne 6, 3) := by decide +kernel
theorem dX8_moved_10 : decode cX8_moved 10 = .ok (.bipush (-2), 2) := by decide +kernel
theorem dX8_moved_12 : decode cX8_moved 12 = .ok (.ireturn, 1) := by decide +kernel
theorem dX8_moved_13 : decode cX8_moved 13 = .ok (.iconst (-1), 1) := by decide +kernel
theorem dX8_moved_14 : decode cX8_moved 14 = .ok (.istore_n 2, 1) := by decide +kernel
theorem dX8_moved_15 : decode cX8_moved 15 = .ok (.iconst 0, 1) := by decide +kernel
theorem dX8_moved_16 : decode cX8_moved 16 = .ok (.istore_n 3, 1) := by decide +kernel
theorem dX8_moved_17 : decode cX8_moved 17 = .ok (.iconst 0, 1) := by decide +kernel
theorem dX8_moved_18 : decode cX8_moved 18 = .ok (.istore 4, 2) := by decide +kernel
theorem dX8_moved_20 : decode cX8_moved 20 = .ok (.iload 4, 2) := by decide +kernel
theorem dX8_moved_22 : decode cX8_moved 22 = .ok (.bipush 60, 2) := by decide +kernel
theorem dX8_moved_24 : decode cX8_moved 24 = .ok (.if_icmp .ge 89, 3) := by decide +kernel
theorem dX8_moved_27 : decode cX8_moved 27 = .ok (.aload_n 0, 1) := by decide +kernel
theorem dX8_moved_28 : decode cX8_moved 28 = .ok (.invokevirtual 190, 3) := by decide +kernel
theorem dX8_moved_31 : decode cX8_moved 31 = .ok (.aload_n 0, 1) := by decide +kernel
theorem dX8_moved_32 : decode cX8_moved 32 = .ok (.iload 4, 2) := by decide +kernel
theorem dX8_moved_34 : decode cX8_moved 34 = .ok (.putfield 157, 3) := by decide +kernel
theorem dX8_moved_37 : decode cX8_moved 37 = .ok (.aload_n 0, 1) := by decide +kernel
theorem dX8_moved_38 : decode cX8_moved 38 = .ok (.iconst 0, 1) := by decide +kernel
theorem dX8_moved_39 : decode cX8_moved 39 = .ok (.invokevirtual 206, 3) := by decide +kernel
theorem dX8_moved_42 : decode cX8_moved 42 = .ok (.ifCond .eq 10, 3) := by decide +kernel
theorem dX8_moved_45 : decode cX8_moved 45 = .ok (.aload_n 0, 1) := by decide +kernel
theorem dX8_moved_46 : decode cX8_moved 46 = .ok (.getfield 178, 3) := by decide +kernel
theorem dX8_moved_49 : decode cX8_moved 49 = .ok (.goto 5, 3) := by decide +kernel
theorem dX8_moved_52 : decode cX8_moved 52 = .ok (.bipush 60, 2) := by decide +kernel
theorem dX8_moved_54 : decode cX8_moved 54 = .ok (.istore 5, 2) := by decide +kernel
theorem dX8_moved_56 : decode cX8_moved 56 = .ok (.iload 5, 2) := by decide +kernel
theorem dX8_moved_58 : decode cX8_moved 58 = .ok (.iload_n 1, 1) := by decide +kernel
theorem dX8_moved_59 : decode cX8_moved 59 = .ok (.isub, 1) := by decide +kernel
theorem dX8_moved_60 : decode cX8_moved 60 = .ok (.invokestatic 253, 3) := by decide +kernel
theorem dX8_moved_63 : decode cX8_moved 63 = .ok (.istore 6, 2) := by decide +kernel
theorem dX8_moved_65 : decode cX8_moved 65 = .ok (.iload_n 2, 1) := by decide +kernel
theorem dX8_moved_66 : decode cX8_moved 66 = .ok (.iconst (-1), 1) := by decide +kernel
theorem dX8_moved_67 : decode cX8_moved 67 = .ok (.if_icmp .eq 9, 3) := by decide +kernel
theorem dX8_moved_70 : decode cX8_moved 70 = .ok (.iload 6, 2) := by decide +kernel
theorem dX8_moved_72 : decode cX8_moved 72 = .ok (.iload_n 3, 1) := by decide +kernel
theorem dX8_moved_73 : decode cX8_moved 73 = .ok (.if_icmp .ge 7, 3) := by decide +kernel
theorem dX8_moved_76 : decode cX8_moved 76 = .ok (.iconst 1, 1) := by decide +kernel
theorem dX8_moved_77 : decode cX8_moved 77 = .ok (.goto 4, 3) := by decide +kernel
theorem dX8_moved_80 : decode cX8_moved 80 = .ok (.iconst 0, 1) := by decide +kernel
theorem dX8_moved_81 : decode cX8_moved 81 = .ok (.istore 7, 2) := by decide +kernel
theorem dX8_moved_83 : decode cX8_moved 83 = .ok (.iload 7, 2) := by decide +kernel
theorem dX8_moved_85 : decode cX8_moved 85 = .ok (.ifCond .eq 8, 3) := by decide +kernel
theorem dX8_moved_88 : decode cX8_moved 88 = .ok (.iload 4, 2) := by decide +kernel
theorem dX8_moved_90 : decode cX8_moved 90 = .ok (.goto 4, 3) := by decide +kernel
theorem dX8_moved_93 : decode cX8_moved 93 = .ok (.iload_n 2, 1) := by decide +kernel
theorem dX8_moved_94 : decode cX8_moved 94 = .ok (.istore_n 2, 1) := by decide +kernel
theorem dX8_moved_95 : decode cX8_moved 95 = .ok (.iload 7, 2) := by decide +kernel
theorem dX8_moved_97 : decode cX8_moved 97 = .ok (.ifCond .eq 8, 3) := by decide +kernel
theorem dX8_moved_100 : decode cX8_moved 100 = .ok (.iload 6, 2) := by decide +kernel
theorem dX8_moved_102 : decode cX8_moved 102 = .ok (.goto 4, 3) := by decide +kernel
theorem dX8_moved_105 : decode cX8_moved 105 = .ok (.iload_n 3, 1) := by decide +kernel
theorem dX8_moved_106 : decode cX8_moved 106 = .ok (.istore_n 3, 1) := by decide +kernel
theorem dX8_moved_107 : decode cX8_moved 107 = .ok (.iinc 4 1, 3) := by decide +kernel
theorem dX8_moved_110 : decode cX8_moved 110 = .ok (.goto (-90), 3) := by decide +kernel
theorem dX8_moved_113 : decode cX8_moved 113 = .ok (.iload_n 2, 1) := by decide +kernel
theorem dX8_moved_114 : decode cX8_moved 114 = .ok (.ireturn, 1) := by decide +kernel
theorem dX8_least_0 : decode cX8_least 0 = .ok (.iconst 0, 1) := by decide +kernel
theorem dX8_least_1 : decode cX8_least 1 = .ok (.istore_n 2, 1) := by decide +kernel
theorem dX8_least_2 : decode cX8_least 2 = .ok (.iload_n 2, 1) := by decide +kernel
theorem dX8_least_3 : decode cX8_least 3 = .ok (.bipush 40, 2) := by decide +kernel
theorem dX8_least_5 : decode cX8_least 5 = .ok (.if_icmp .gt 66, 3) := by decide +kernel
theorem dX8_least_8 : decode cX8_least 8 = .ok (.aload_n 0, 1) := by decide +kernel
theorem dX8_least_9 : decode cX8_least 9 = .ok (.invokevirtual 190, 3) := by decide +kernel
theorem dX8_least_12 : decode cX8_least 12 = .ok (.aload_n 0, 1) := by decide +kernel
theorem dX8_least_13 : decode cX8_least 13 = .ok (.iload_n 1, 1) := by decide +kernel
theorem dX8_least_14 : decode cX8_least 14 = .ok (.ifCond .eq 10, 3) := by decide +kernel
theorem dX8_least_17 : decode cX8_least 17 = .ok (.aload_n 0, 1) := by decide +kernel
theorem dX8_least_18 : decode cX8_least 18 = .ok (.getfield 160, 3) := by decide +kernel
theorem dX8_least_21 : decode cX8_least 21 = .ok (.goto 4, 3) := by decide +kernel
theorem dX8_least_24 : decode cX8_least 24 = .ok (.iload_n 2, 1) := by decide +kernel
theorem dX8_least_25 : decode cX8_least 25 = .ok (.putfield 160, 3) := by decide +kernel
theorem dX8_least_28 : decode cX8_least 28 = .ok (.aload_n 0, 1) := by decide +kernel
theorem dX8_least_29 : decode cX8_least 29 = .ok (.iload_n 1, 1) := by decide +kernel
theorem dX8_least_30 : decode cX8_least 30 = .ok (.ifCond .eq 7, 3) := by decide +kernel
theorem dX8_least_33 : decode cX8_least 33 = .ok (.iload_n 2, 1) := by decide +kernel
theorem dX8_least_34 : decode cX8_least 34 = .ok (.goto 7, 3) := by decide +kernel
theorem dX8_least_37 : decode cX8_least 37 = .ok (.aload_n 0, 1) := by decide +kernel
theorem dX8_least_38 : decode cX8_least 38 = .ok (.getfield 163, 3) := by decide +kernel
theorem dX8_least_41 : decode cX8_least 41 = .ok (.putfield 163, 3) := by decide +kernel
theorem dX8_least_44 : decode cX8_least 44 = .ok (.aload_n 0, 1) := by decide +kernel
theorem dX8_least_45 : decode cX8_least 45 = .ok (.iconst 1, 1) := by decide +kernel
theorem dX8_least_46 : decode cX8_least 46 = .ok (.invokevirtual 206, 3) := by decide +kernel
theorem dX8_least_49 : decode cX8_least 49 = .ok (.ifCond .eq 16, 3) := by decide +kernel
theorem dX8_least_52 : decode cX8_least 52 = .ok (.aload_n 0, 1) := by decide +kernel
theorem dX8_least_53 : decode cX8_least 53 = .ok (.getfield 178, 3) := by decide +kernel
theorem dX8_least_56 : decode cX8_least 56 = .ok (.aload_n 0, 1) := by decide +kernel
theorem dX8_least_57 : decode cX8_least 57 = .ok (.getfield 157, 3) := by decide +kernel
theorem dX8_least_60 : decode cX8_least 60 = .ok (.if_icmp .gt 5, 3) := by decide +kernel
theorem dX8_least_63 : decode cX8_least 63 = .ok (.iload_n 2, 1) := by decide +kernel
theorem dX8_least_64 : decode cX8_least 64 = .ok (.ireturn, 1) := by decide +kernel
theorem dX8_least_65 : decode cX8_least 65 = .ok (.iinc 2 1, 3) := by decide +kernel
theorem dX8_least_68 : decode cX8_least 68 = .ok (.goto (-66), 3) := by decide +kernel
theorem dX8_least_71 : decode cX8_least 71 = .ok (.iconst (-1), 1) := by decide +kernel
theorem dX8_least_72 : decode cX8_least 72 = .ok (.ireturn, 1) := by decide +kernel
theorem dX8_keysNow_0 : decode cX8_keysNow 0 = .ok (.aload_n 0, 1) := by decide +kernel
theorem dX8_keysNow_1 : decode cX8_keysNow 1 = .ok (.invokevirtual 190, 3) := by decide +kernel
theorem dX8_keysNow_4 : decode cX8_keysNow 4 = .ok (.aload_n 0, 1) := by decide +kernel
theorem dX8_keysNow_5 : decode cX8_keysNow 5 = .ok (.invokevirtual 193, 3) := by decide +kernel
theorem dX8_keysNow_8 : decode cX8_keysNow 8 = .ok (.aload_n 0, 1) := by decide +kernel
theorem dX8_keysNow_9 : decode cX8_keysNow 9 = .ok (.getfield 178, 3) := by decide +kernel
theorem dX8_keysNow_12 : decode cX8_keysNow 12 = .ok (.istore_n 2, 1) := by decide +kernel
theorem dX8_keysNow_13 : decode cX8_keysNow 13 = .ok (.iconst 0, 1) := by decide +kernel
theorem dX8_keysNow_14 : decode cX8_keysNow 14 = .ok (.istore_n 3, 1) := by decide +kernel
theorem dX8_keysNow_15 : decode cX8_keysNow 15 = .ok (.iconst 0, 1) := by decide +kernel
theorem dX8_keysNow_16 : decode cX8_keysNow 16 = .ok (.istore 4, 2) := by decide +kernel
theorem dX8_keysNow_18 : decode cX8_keysNow 18 = .ok (.iload 4, 2) := by decide +kernel
theorem dX8_keysNow_20 : decode cX8_keysNow 20 = .ok (.aload_n 0, 1) := by decide +kernel
theorem dX8_keysNow_21 : decode cX8_keysNow 21 = .ok (.getfield 99, 3) := by decide +kernel
theorem dX8_keysNow_24 : decode cX8_keysNow 24 = .ok (.if_icmp .ge 81, 3) := by decide +kernel
theorem dX8_keysNow_27 : decode cX8_keysNow 27 = .ok (.iload_n 2, 1) := by decide +kernel
theorem dX8_keysNow_28 : decode cX8_keysNow 28 = .ok (.bipush 60, 2) := by decide +kernel
theorem dX8_keysNow_30 : decode cX8_keysNow 30 = .ok (.if_icmp .ge 75, 3) := by decide +kernel
theorem dX8_keysNow_33 : decode cX8_keysNow 33 = .ok (.iload_n 1, 1) := by decide +kernel
theorem dX8_keysNow_34 : decode cX8_keysNow 34 = .ok (.ifCond .ne 43, 3) := by decide +kernel
theorem dX8_keysNow_37 : decode cX8_keysNow 37 = .ok (.aload_n 0, 1) := by decide +kernel
theorem dX8_keysNow_38 : decode cX8_keysNow 38 = .ok (.iconst 1, 1) := by decide +kernel
theorem dX8_keysNow_39 : decode cX8_keysNow 39 = .ok (.iload 4, 2) := by decide +kernel
theorem dX8_keysNow_41 : decode cX8_keysNow 41 = .ok (.ishl, 1) := by decide +kernel
theorem dX8_keysNow_42 : decode cX8_keysNow 42 = .ok (.putfield 169, 3) := by decide +kernel
theorem dX8_keysNow_45 : decode cX8_keysNow 45 = .ok (.aload_n 0, 1) := by decide +kernel
theorem dX8_keysNow_46 : decode cX8_keysNow 46 = .ok (.invokevirtual 193, 3) := by decide +kernel
theorem dX8_keysNow_49 : decode cX8_keysNow 49 = .ok (.iload_n 3, 1) := by decide +kernel
theorem dX8_keysNow_50 : decode cX8_keysNow 50 = .ok (.aload_n 0, 1) := by decide +kernel
theorem dX8_keysNow_51 : decode cX8_keysNow 51 = .ok (.getfield 178, 3) := by decide +kernel
theorem dX8_keysNow_54 : decode cX8_keysNow 54 = .ok (.bipush 60, 2) := by decide +kernel
theorem dX8_keysNow_56 : decode cX8_keysNow 56 = .ok (.if_icmp .ne 10, 3) := by decide +kernel
theorem dX8_keysNow_59 : decode cX8_keysNow 59 = .ok (.iconst 1, 1) := by decide +kernel
theorem dX8_keysNow_60 : decode cX8_keysNow 60 = .ok (.iload 4, 2) := by decide +kernel
theorem dX8_keysNow_62 : decode cX8_keysNow 62 = .ok (.ishl, 1) := by decide +kernel
theorem dX8_keysNow_63 : decode cX8_keysNow 63 = .ok (.goto 4, 3) := by decide +kernel
theorem dX8_keysNow_66 : decode cX8_keysNow 66 = .ok (.iconst 0, 1) := by decide +kernel
theorem dX8_keysNow_67 : decode cX8_keysNow 67 = .ok (.ior, 1) := by decide +kernel
theorem dX8_keysNow_68 : decode cX8_keysNow 68 = .ok (.istore_n 3, 1) := by decide +kernel
theorem dX8_keysNow_69 : decode cX8_keysNow 69 = .ok (.aload_n 0, 1) := by decide +kernel
theorem dX8_keysNow_70 : decode cX8_keysNow 70 = .ok (.iconst 0, 1) := by decide +kernel
theorem dX8_keysNow_71 : decode cX8_keysNow 71 = .ok (.putfield 169, 3) := by decide +kernel
theorem dX8_keysNow_74 : decode cX8_keysNow 74 = .ok (.goto 25, 3) := by decide +kernel
theorem dX8_keysNow_77 : decode cX8_keysNow 77 = .ok (.iload_n 3, 1) := by decide +kernel
theorem dX8_keysNow_78 : decode cX8_keysNow 78 = .ok (.aload_n 0, 1) := by decide +kernel
theorem dX8_keysNow_79 : decode cX8_keysNow 79 = .ok (.getfield 50, 3) := by decide +kernel
theorem dX8_keysNow_82 : decode cX8_keysNow 82 = .ok (.iload 4, 2) := by decide +kernel
theorem dX8_keysNow_84 : decode cX8_keysNow 84 = .ok (.iaload, 1) := by decide +kernel
theorem dX8_keysNow_85 : decode cX8_keysNow 85 = .ok (.iload_n 2, 1) := by decide +kernel
theorem dX8_keysNow_86 : decode cX8_keysNow 86 = .ok (.if_icmp .ne 10, 3) := by decide +kernel
theorem dX8_keysNow_89 : decode cX8_keysNow 89 = .ok (.iconst 1, 1) := by decide +kernel
theorem dX8_keysNow_90 : decode cX8_keysNow 90 = .ok (.iload 4, 2) := by decide +kernel
theorem dX8_keysNow_92 : decode cX8_keysNow 92 = .ok (.ishl, 1) := by decide +kernel
theorem dX8_keysNow_93 : decode cX8_keysNow 93 = .ok (.goto 4, 3) := by decide +kernel
theorem dX8_keysNow_96 : decode cX8_keysNow 96 = .ok (.iconst 0, 1) := by decide +kernel
theorem dX8_keysNow_97 : decode cX8_keysNow 97 = .ok (.ior, 1) := by decide +kernel
theorem dX8_keysNow_98 : decode cX8_keysNow 98 = .ok (.istore_n 3, 1) := by decide +kernel
theorem dX8_keysNow_99 : decode cX8_keysNow 99 = .ok (.iinc 4 1, 3) := by decide +kernel
theorem dX8_keysNow_102 : decode cX8_keysNow 102 = .ok (.goto (-84), 3) := by decide +kernel
theorem dX8_keysNow_105 : decode cX8_keysNow 105 = .ok (.iload_n 3, 1) := by decide +kernel
theorem dX8_keysNow_106 : decode cX8_keysNow 106 = .ok (.ireturn, 1) := by decide +kernel
theorem dX8_keys_0 : decode cX8_keys 0 = .ok (.iload_n 1, 1) := by decide +kernel
theorem dX8_keys_1 : decode cX8_keys 1 = .ok (.iconst 0, 1) := by decide +kernel
theorem dX8_keys_2 : decode cX8_keys 2 = .ok (.iconst 1, 1) := by decide +kernel
theorem dX8_keys_3 : decode cX8_keys 3 = .ok (.invokestatic 95, 3) := by decide +kernel
theorem dX8_keys_6 : decode cX8_keys 6 = .ok (.ifCond .eq 11, 3) := by decide +kernel
theorem dX8_keys_9 : decode cX8_keys 9 = .ok (.aload_n 0, 1) := by decide +kernel
theorem dX8_keys_10 : decode cX8_keys 10 = .ok (.iload_n 1, 1) := by decide +kernel
theorem dX8_keys_11 : decode cX8_keys 11 = .ok (.invokevirtual 256, 3) := by decide +kernel
theorem dX8_keys_14 : decode cX8_keys 14 = .ok (.goto 5, 3) := by decide +kernel
theorem dX8_keys_17 : decode cX8_keys 17 = .ok (.bipush (-2), 2) := by decide +kernel
theorem dX8_keys_19 : decode cX8_keys 19 = .ok (.ireturn, 1) := by decide +kernel
theorem dX8_guests_0 : decode cX8_guests 0 = .ok (.iconst 0, 1) := by decide +kernel
theorem dX8_guests_1 : decode cX8_guests 1 = .ok (.istore_n 1, 1) := by decide +kernel
theorem dX8_guests_2 : decode cX8_guests 2 = .ok (.iconst 0, 1) := by decide +kernel
theorem dX8_guests_3 : decode cX8_guests 3 = .ok (.istore_n 2, 1) := by decide +kernel
theorem dX8_guests_4 : decode cX8_guests 4 = .ok (.iload_n 2, 1) := by decide +kernel
theorem dX8_guests_5 : decode cX8_guests 5 = .ok (.aload_n 0, 1) := by decide +kernel
theorem dX8_guests_6 : decode cX8_guests 6 = .ok (.getfield 99, 3) := by decide +kernel
theorem dX8_guests_9 : decode cX8_guests 9 = .ok (.if_icmp .ge 28, 3) := by decide +kernel
theorem dX8_guests_12 : decode cX8_guests 12 = .ok (.iload_n 1, 1) := by decide +kernel
theorem dX8_guests_13 : decode cX8_guests 13 = .ok (.aload_n 0, 1) := by decide +kernel
theorem dX8_guests_14 : decode cX8_guests 14 = .ok (.getfield 7, 3) := by decide +kernel
theorem dX8_guests_17 : decode cX8_guests 17 = .ok (.iload_n 2, 1) := by decide +kernel
theorem dX8_guests_18 : decode cX8_guests 18 = .ok (.iaload, 1) := by decide +kernel
theorem dX8_guests_19 : decode cX8_guests 19 = .ok (.ifCond .ne 9, 3) := by decide +kernel
theorem dX8_guests_22 : decode cX8_guests 22 = .ok (.iconst 1, 1) := by decide +kernel
theorem dX8_guests_23 : decode cX8_guests 23 = .ok (.iload_n 2, 1) := by decide +kernel
theorem dX8_guests_24 : decode cX8_guests 24 = .ok (.ishl, 1) := by decide +kernel
theorem dX8_guests_25 : decode cX8_guests 25 = .ok (.goto 4, 3) := by decide +kernel
theorem dX8_guests_28 : decode cX8_guests 28 = .ok (.iconst 0, 1) := by decide +kernel
theorem dX8_guests_29 : decode cX8_guests 29 = .ok (.ior, 1) := by decide +kernel
theorem dX8_guests_30 : decode cX8_guests 30 = .ok (.istore_n 1, 1) := by decide +kernel
theorem dX8_guests_31 : decode cX8_guests 31 = .ok (.iinc 2 1, 3) := by decide +kernel
theorem dX8_guests_34 : decode cX8_guests 34 = .ok (.goto (-30), 3) := by decide +kernel
theorem dX8_guests_37 : decode cX8_guests 37 = .ok (.iconst 0, 1) := by decide +kernel
theorem dX8_guests_38 : decode cX8_guests 38 = .ok (.istore_n 2, 1) := by decide +kernel
theorem dX8_guests_39 : decode cX8_guests 39 = .ok (.iload_n 2, 1) := by decide +kernel
theorem dX8_guests_40 : decode cX8_guests 40 = .ok (.iconst 4, 1) := by decide +kernel
theorem dX8_guests_41 : decode cX8_guests 41 = .ok (.if_icmp .ge 70, 3) := by decide +kernel
theorem dX8_guests_44 : decode cX8_guests 44 = .ok (.iconst 0, 1) := by decide +kernel
theorem dX8_guests_45 : decode cX8_guests 45 = .ok (.istore_n 3, 1) := by decide +kernel
theorem dX8_guests_46 : decode cX8_guests 46 = .ok (.iload_n 3, 1) := by decide +kernel
theorem dX8_guests_47 : decode cX8_guests 47 = .ok (.sipush 256, 3) := by decide +kernel
theorem dX8_guests_50 : decode cX8_guests 50 = .ok (.if_icmp .ge 55, 3) := by decide +kernel
theorem dX8_guests_53 : decode cX8_guests 53 = .ok (.iload_n 3, 1) := by decide +kernel
theorem dX8_guests_54 : decode cX8_guests 54 = .ok (.invokestatic 259, 3) := by decide +kernel
theorem dX8_guests_57 : decode cX8_guests 57 = .ok (.iload_n 2, 1) := by decide +kernel
theorem dX8_guests_58 : decode cX8_guests 58 = .ok (.if_icmp .ne 41, 3) := by decide +kernel
theorem dX8_guests_61 : decode cX8_guests 61 = .ok (.iload_n 3, 1) := by decide +kernel
theorem dX8_guests_62 : decode cX8_guests 62 = .ok (.iload_n 1, 1) := by decide +kernel
theorem dX8_guests_63 : decode cX8_guests 63 = .ok (.iconst (-1), 1) := by decide +kernel
theorem dX8_guests_64 : decode cX8_guests 64 = .ok (.ixor, 1) := by decide +kernel
theorem dX8_guests_65 : decode cX8_guests 65 = .ok (.iand, 1) := by decide +kernel
theorem dX8_guests_66 : decode cX8_guests 66 = .ok (.ifCond .ne 33, 3) := by decide +kernel
theorem dX8_guests_69 : decode cX8_guests 69 = .ok (.aload_n 0, 1) := by decide +kernel
theorem dX8_guests_70 : decode cX8_guests 70 = .ok (.invokevirtual 190, 3) := by decide +kernel
theorem dX8_guests_73 : decode cX8_guests 73 = .ok (.aload_n 0, 1) := by decide +kernel
theorem dX8_guests_74 : decode cX8_guests 74 = .ok (.iload_n 3, 1) := by decide +kernel
theorem dX8_guests_75 : decode cX8_guests 75 = .ok (.putfield 166, 3) := by decide +kernel
theorem dX8_guests_78 : decode cX8_guests 78 = .ok (.aload_n 0, 1) := by decide +kernel
theorem dX8_guests_79 : decode cX8_guests 79 = .ok (.iconst 1, 1) := by decide +kernel
theorem dX8_guests_80 : decode cX8_guests 80 = .ok (.invokevirtual 206, 3) := by decide +kernel
theorem dX8_guests_83 : decode cX8_guests 83 = .ok (.ifCond .eq 16, 3) := by decide +kernel
theorem dX8_guests_86 : decode cX8_guests 86 = .ok (.aload_n 0, 1) := by decide +kernel
theorem dX8_guests_87 : decode cX8_guests 87 = .ok (.getfield 178, 3) := by decide +kernel
theorem dX8_guests_90 : decode cX8_guests 90 = .ok (.aload_n 0, 1) := by decide +kernel
theorem dX8_guests_91 : decode cX8_guests 91 = .ok (.getfield 157, 3) := by decide +kernel
theorem dX8_guests_94 : decode cX8_guests 94 = .ok (.if_icmp .gt 5, 3) := by decide +kernel
theorem dX8_guests_97 : decode cX8_guests 97 = .ok (.iload_n 3, 1) := by decide +kernel
theorem dX8_guests_98 : decode cX8_guests 98 = .ok (.ireturn, 1) := by decide +kernel
theorem dX8_guests_99 : decode cX8_guests 99 = .ok (.iinc 3 1, 3) := by decide +kernel
theorem dX8_guests_102 : decode cX8_guests 102 = .ok (.goto (-56), 3) := by decide +kernel
theorem dX8_guests_105 : decode cX8_guests 105 = .ok (.iinc 2 1, 3) := by decide +kernel
theorem dX8_guests_108 : decode cX8_guests 108 = .ok (.goto (-69), 3) := by decide +kernel
theorem dX8_guests_111 : decode cX8_guests 111 = .ok (.iconst (-1), 1) := by decide +kernel
theorem dX8_guests_112 : decode cX8_guests 112 = .ok (.ireturn, 1) := by decide +kernel
theorem dX8_roads_0 : decode cX8_roads 0 = .ok (.aload_n 0, 1) := by decide +kernel
theorem dX8_roads_1 : decode cX8_roads 1 = .ok (.iconst 0, 1) := by decide +kernel
theorem dX8_roads_2 : decode cX8_roads 2 = .ok (.putfield 262, 3) := by decide +kernel
theorem dX8_roads_5 : decode cX8_roads 5 = .ok (.iconst 0, 1) := by decide +kernel
theorem dX8_roads_6 : decode cX8_roads 6 = .ok (.istore_n 1, 1) := by decide +kernel
theorem dX8_roads_7 : decode cX8_roads 7 = .ok (.iload_n 1, 1) := by decide +kernel
theorem dX8_roads_8 : decode cX8_roads 8 = .ok (.aload_n 0, 1) := by decide +kernel
theorem dX8_roads_9 : decode cX8_roads 9 = .ok (.getfield 99, 3) := by decide +kernel
theorem dX8_roads_12 : decode cX8_roads 12 = .ok (.if_icmp .ge 48, 3) := by decide +kernel
theorem dX8_roads_15 : decode cX8_roads 15 = .ok (.aload_n 0, 1) := by decide +kernel
theorem dX8_roads_16 : decode cX8_roads 16 = .ok (.getfield 7, 3) := by decide +kernel
theorem dX8_roads_19 : decode cX8_roads 19 = .ok (.iload_n 1, 1) := by decide +kernel
theorem dX8_roads_20 : decode cX8_roads 20 = .ok (.iaload, 1) := by decide +kernel
theorem dX8_roads_21 : decode cX8_roads 21 = .ok (.iconst 2, 1) := by decide +kernel
theorem dX8_roads_22 : decode cX8_roads 22 = .ok (.if_icmp .eq 32, 3) := by decide +kernel
theorem dX8_roads_25 : decode cX8_roads 25 = .ok (.aload_n 0, 1) := by decide +kernel
theorem dX8_roads_26 : decode cX8_roads 26 = .ok (.getfield 28, 3) := by decide +kernel
theorem dX8_roads_29 : decode cX8_roads 29 = .ok (.iload_n 1, 1) := by decide +kernel
theorem dX8_roads_30 : decode cX8_roads 30 = .ok (.iaload, 1) := by decide +kernel
theorem dX8_roads_31 : decode cX8_roads 31 = .ok (.ifCond .le 23, 3) := by decide +kernel
theorem dX8_roads_34 : decode cX8_roads 34 = .ok (.aload_n 0, 1) := by decide +kernel
theorem dX8_roads_35 : decode cX8_roads 35 = .ok (.getfield 77, 3) := by decide +kernel
theorem dX8_roads_38 : decode cX8_roads 38 = .ok (.aload_n 0, 1) := by decide +kernel
theorem dX8_roads_39 : decode cX8_roads 39 = .ok (.getfield 262, 3) := by decide +kernel
theorem dX8_roads_42 : decode cX8_roads 42 = .ok (.iload_n 1, 1) := by decide +kernel
theorem dX8_roads_43 : decode cX8_roads 43 = .ok (.iastore, 1) := by decide +kernel
theorem dX8_roads_44 : decode cX8_roads 44 = .ok (.aload_n 0, 1) := by decide +kernel
theorem dX8_roads_45 : decode cX8_roads 45 = .ok (.dup, 1) := by decide +kernel
theorem dX8_roads_46 : decode cX8_roads 46 = .ok (.getfield 262, 3) := by decide +kernel
theorem dX8_roads_49 : decode cX8_roads 49 = .ok (.iconst 1, 1) := by decide +kernel
theorem dX8_roads_50 : decode cX8_roads 50 = .ok (.iadd, 1) := by decide +kernel
theorem dX8_roads_51 : decode cX8_roads 51 = .ok (.putfield 262, 3) := by decide +kernel
theorem dX8_roads_54 : decode cX8_roads 54 = .ok (.iinc 1 1, 3) := by decide +kernel
theorem dX8_roads_57 : decode cX8_roads 57 = .ok (.goto (-50), 3) := by decide +kernel
theorem dX8_roads_60 : decode cX8_roads 60 = .ok (.return_, 1) := by decide +kernel
theorem dX8_takes_0 : decode cX8_takes 0 = .ok (.lconst 1, 1) := by decide +kernel
theorem dX8_takes_1 : decode cX8_takes 1 = .ok (.lstore_n 2, 1) := by decide +kernel
theorem dX8_takes_2 : decode cX8_takes 2 = .ok (.aload_n 0, 1) := by decide +kernel
theorem dX8_takes_3 : decode cX8_takes 3 = .ok (.iconst 0, 1) := by decide +kernel
theorem dX8_takes_4 : decode cX8_takes 4 = .ok (.putfield 172, 3) := by decide +kernel
theorem dX8_takes_7 : decode cX8_takes 7 = .ok (.iconst 0, 1) := by decide +kernel
theorem dX8_takes_8 : decode cX8_takes 8 = .ok (.istore 4, 2) := by decide +kernel
theorem dX8_takes_10 : decode cX8_takes 10 = .ok (.iload 4, 2) := by decide +kernel
theorem dX8_takes_12 : decode cX8_takes 12 = .ok (.aload_n 0, 1) := by decide +kernel
theorem dX8_takes_13 : decode cX8_takes 13 = .ok (.getfield 262, 3) := by decide +kernel
theorem dX8_takes_16 : decode cX8_takes 16 = .ok (.if_icmp .ge 93, 3) := by decide +kernel
theorem dX8_takes_19 : decode cX8_takes 19 = .ok (.iload_n 1, 1) := by decide +kernel
theorem dX8_takes_20 : decode cX8_takes 20 = .ok (.iload 4, 2) := by decide +kernel
theorem dX8_takes_22 : decode cX8_takes 22 = .ok (.ishr, 1) := by decide +kernel
theorem dX8_takes_23 : decode cX8_takes 23 = .ok (.iconst 1, 1) := by decide +kernel
theorem dX8_takes_24 : decode cX8_takes 24 = .ok (.iand, 1) := by decide +kernel
theorem dX8_takes_25 : decode cX8_takes 25 = .ok (.iconst 1, 1) := by decide +kernel
theorem dX8_takes_26 : decode cX8_takes 26 = .ok (.if_icmp .ne 7, 3) := by decide +kernel
theorem dX8_takes_29 : decode cX8_takes 29 = .ok (.iconst 1, 1) := by decide +kernel
theorem dX8_takes_30 : decode cX8_takes 30 = .ok (.goto 4, 3) := by decide +kernel
theorem dX8_takes_33 : decode cX8_takes 33 = .ok (.iconst 0, 1) := by decide +kernel
theorem dX8_takes_34 : decode cX8_takes 34 = .ok (.istore 5, 2) := by decide +kernel
theorem dX8_takes_36 : decode cX8_takes 36 = .ok (.lload_n 2, 1) := by decide +kernel
theorem dX8_takes_37 : decode cX8_takes 37 = .ok (.iload 5, 2) := by decide +kernel
theorem dX8_takes_39 : decode cX8_takes 39 = .ok (.ifCond .eq 19, 3) := by decide +kernel
theorem dX8_takes_42 : decode cX8_takes 42 = .ok (.aload_n 0, 1) := by decide +kernel
theorem dX8_takes_43 : decode cX8_takes 43 = .ok (.getfield 28, 3) := by decide +kernel
theorem dX8_takes_46 : decode cX8_takes 46 = .ok (.aload_n 0, 1) := by decide +kernel
theorem dX8_takes_47 : decode cX8_takes 47 = .ok (.getfield 77, 3) := by decide +kernel
theorem dX8_takes_50 : decode cX8_takes 50 = .ok (.iload 4, 2) := by decide +kernel
theorem dX8_takes_52 : decode cX8_takes 52 = .ok (.iaload, 1) := by decide +kernel
theorem dX8_takes_53 : decode cX8_takes 53 = .ok (.iaload, 1) := by decide +kernel
theorem dX8_takes_54 : decode cX8_takes 54 = .ok (.i2l, 1) := by decide +kernel
theorem dX8_takes_55 : decode cX8_takes 55 = .ok (.goto 19, 3) := by decide +kernel
theorem dX8_takes_58 : decode cX8_takes 58 = .ok (.bipush 16, 2) := by decide +kernel
theorem dX8_takes_60 : decode cX8_takes 60 = .ok (.aload_n 0, 1) := by decide +kernel
theorem dX8_takes_61 : decode cX8_takes 61 = .ok (.getfield 28, 3) := by decide +kernel
theorem dX8_takes_64 : decode cX8_takes 64 = .ok (.aload_n 0, 1) := by decide +kernel
theorem dX8_takes_65 : decode cX8_takes 65 = .ok (.getfield 77, 3) := by decide +kernel
theorem dX8_takes_68 : decode cX8_takes 68 = .ok (.iload 4, 2) := by decide +kernel
theorem dX8_takes_70 : decode cX8_takes 70 = .ok (.iaload, 1) := by decide +kernel
theorem dX8_takes_71 : decode cX8_takes 71 = .ok (.iaload, 1) := by decide +kernel
theorem dX8_takes_72 : decode cX8_takes 72 = .ok (.isub, 1) := by decide +kernel
theorem dX8_takes_73 : decode cX8_takes 73 = .ok (.i2l, 1) := by decide +kernel
theorem dX8_takes_74 : decode cX8_takes 74 = .ok (.lmul, 1) := by decide +kernel
theorem dX8_takes_75 : decode cX8_takes 75 = .ok (.lstore_n 2, 1) := by decide +kernel
theorem dX8_takes_76 : decode cX8_takes 76 = .ok (.aload_n 0, 1) := by decide +kernel
theorem dX8_takes_77 : decode cX8_takes 77 = .ok (.dup, 1) := by decide +kernel
theorem dX8_takes_78 : decode cX8_takes 78 = .ok (.getfield 172, 3) := by decide +kernel
theorem dX8_takes_81 : decode cX8_takes 81 = .ok (.iload 5, 2) := by decide +kernel
theorem dX8_takes_83 : decode cX8_takes 83 = .ok (.ifCond .eq 15, 3) := by decide +kernel
theorem dX8_takes_86 : decode cX8_takes 86 = .ok (.iconst 1, 1) := by decide +kernel
theorem dX8_takes_87 : decode cX8_takes 87 = .ok (.aload_n 0, 1) := by decide +kernel
theorem dX8_takes_88 : decode cX8_takes 88 = .ok (.getfield 77, 3) := by decide +kernel
theorem dX8_takes_91 : decode cX8_takes 91 = .ok (.iload 4, 2) := by decide +kernel
theorem dX8_takes_93 : decode cX8_takes 93 = .ok (.iaload, 1) := by decide +kernel
theorem dX8_takes_94 : decode cX8_takes 94 = .ok (.ishl, 1) := by decide +kernel
theorem dX8_takes_95 : decode cX8_takes 95 = .ok (.goto 4, 3) := by decide +kernel
theorem dX8_takes_98 : decode cX8_takes 98 = .ok (.iconst 0, 1) := by decide +kernel
theorem dX8_takes_99 : decode cX8_takes 99 = .ok (.ior, 1) := by decide +kernel
theorem dX8_takes_100 : decode cX8_takes 100 = .ok (.putfield 172, 3) := by decide +kernel
theorem dX8_takes_103 : decode cX8_takes 103 = .ok (.iinc 4 1, 3) := by decide +kernel
theorem dX8_takes_106 : decode cX8_takes 106 = .ok (.goto (-96), 3) := by decide +kernel
theorem dX8_takes_109 : decode cX8_takes 109 = .ok (.aload_n 0, 1) := by decide +kernel
theorem dX8_takes_110 : decode cX8_takes 110 = .ok (.invokevirtual 193, 3) := by decide +kernel
theorem dX8_takes_113 : decode cX8_takes 113 = .ok (.lload_n 2, 1) := by decide +kernel
theorem dX8_takes_114 : decode cX8_takes 114 = .ok (.lreturn, 1) := by decide +kernel
theorem dX8_oddsNow_0 : decode cX8_oddsNow 0 = .ok (.aload_n 0, 1) := by decide +kernel
theorem dX8_oddsNow_1 : decode cX8_oddsNow 1 = .ok (.invokevirtual 190, 3) := by decide +kernel
theorem dX8_oddsNow_4 : decode cX8_oddsNow 4 = .ok (.aload_n 0, 1) := by decide +kernel
theorem dX8_oddsNow_5 : decode cX8_oddsNow 5 = .ok (.invokevirtual 265, 3) := by decide +kernel
theorem dX8_oddsNow_8 : decode cX8_oddsNow 8 = .ok (.lconst 0, 1) := by decide +kernel
theorem dX8_oddsNow_9 : decode cX8_oddsNow 9 = .ok (.lstore_n 3, 1) := by decide +kernel
theorem dX8_oddsNow_10 : decode cX8_oddsNow 10 = .ok (.iconst 0, 1) := by decide +kernel
theorem dX8_oddsNow_11 : decode cX8_oddsNow 11 = .ok (.istore 5, 2) := by decide +kernel
theorem dX8_oddsNow_13 : decode cX8_oddsNow 13 = .ok (.iload 5, 2) := by decide +kernel
theorem dX8_oddsNow_15 : decode cX8_oddsNow 15 = .ok (.iconst 1, 1) := by decide +kernel
theorem dX8_oddsNow_16 : decode cX8_oddsNow 16 = .ok (.aload_n 0, 1) := by decide +kernel
theorem dX8_oddsNow_17 : decode cX8_oddsNow 17 = .ok (.getfield 262, 3) := by decide +kernel
theorem dX8_oddsNow_20 : decode cX8_oddsNow 20 = .ok (.ishl, 1) := by decide +kernel
theorem dX8_oddsNow_21 : decode cX8_oddsNow 21 = .ok (.if_icmp .ge 34, 3) := by decide +kernel
theorem dX8_oddsNow_24 : decode cX8_oddsNow 24 = .ok (.aload_n 0, 1) := by decide +kernel
theorem dX8_oddsNow_25 : decode cX8_oddsNow 25 = .ok (.iload 5, 2) := by decide +kernel
theorem dX8_oddsNow_27 : decode cX8_oddsNow 27 = .ok (.invokevirtual 268, 3) := by decide +kernel
theorem dX8_oddsNow_30 : decode cX8_oddsNow 30 = .ok (.lstore 6, 2) := by decide +kernel
theorem dX8_oddsNow_32 : decode cX8_oddsNow 32 = .ok (.lload_n 3, 1) := by decide +kernel
theorem dX8_oddsNow_33 : decode cX8_oddsNow 33 = .ok (.aload_n 0, 1) := by decide +kernel
theorem dX8_oddsNow_34 : decode cX8_oddsNow 34 = .ok (.getfield 178, 3) := by decide +kernel
theorem dX8_oddsNow_37 : decode cX8_oddsNow 37 = .ok (.iload_n 1, 1) := by decide +kernel
theorem dX8_oddsNow_38 : decode cX8_oddsNow 38 = .ok (.if_icmp .gt 8, 3) := by decide +kernel
theorem dX8_oddsNow_41 : decode cX8_oddsNow 41 = .ok (.lload 6, 2) := by decide +kernel
theorem dX8_oddsNow_43 : decode cX8_oddsNow 43 = .ok (.goto 4, 3) := by decide +kernel
theorem dX8_oddsNow_46 : decode cX8_oddsNow 46 = .ok (.lconst 0, 1) := by decide +kernel
theorem dX8_oddsNow_47 : decode cX8_oddsNow 47 = .ok (.ladd, 1) := by decide +kernel
theorem dX8_oddsNow_48 : decode cX8_oddsNow 48 = .ok (.lstore_n 3, 1) := by decide +kernel
theorem dX8_oddsNow_49 : decode cX8_oddsNow 49 = .ok (.iinc 5 1, 3) := by decide +kernel
theorem dX8_oddsNow_52 : decode cX8_oddsNow 52 = .ok (.goto (-39), 3) := by decide +kernel
theorem dX8_oddsNow_55 : decode cX8_oddsNow 55 = .ok (.lload_n 3, 1) := by decide +kernel
theorem dX8_oddsNow_56 : decode cX8_oddsNow 56 = .ok (.lconst 1, 1) := by decide +kernel
theorem dX8_oddsNow_57 : decode cX8_oddsNow 57 = .ok (.iconst 4, 1) := by decide +kernel
theorem dX8_oddsNow_58 : decode cX8_oddsNow 58 = .ok (.aload_n 0, 1) := by decide +kernel
theorem dX8_oddsNow_59 : decode cX8_oddsNow 59 = .ok (.getfield 262, 3) := by decide +kernel
theorem dX8_oddsNow_62 : decode cX8_oddsNow 62 = .ok (.imul, 1) := by decide +kernel
theorem dX8_oddsNow_63 : decode cX8_oddsNow 63 = .ok (.lshl, 1) := by decide +kernel
theorem dX8_oddsNow_64 : decode cX8_oddsNow 64 = .ok (.iload_n 2, 1) := by decide +kernel
theorem dX8_oddsNow_65 : decode cX8_oddsNow 65 = .ok (.invokestatic 272, 3) := by decide +kernel
theorem dX8_oddsNow_68 : decode cX8_oddsNow 68 = .ok (.lreturn, 1) := by decide +kernel
theorem dX8_odds_0 : decode cX8_odds 0 = .ok (.iload_n 1, 1) := by decide +kernel
theorem dX8_odds_1 : decode cX8_odds 1 = .ok (.iconst 0, 1) := by decide +kernel
theorem dX8_odds_2 : decode cX8_odds 2 = .ok (.bipush 59, 2) := by decide +kernel
theorem dX8_odds_4 : decode cX8_odds 4 = .ok (.invokestatic 95, 3) := by decide +kernel
theorem dX8_odds_7 : decode cX8_odds 7 = .ok (.ifCond .eq 21, 3) := by decide +kernel
theorem dX8_odds_10 : decode cX8_odds 10 = .ok (.iload_n 2, 1) := by decide +kernel
theorem dX8_odds_11 : decode cX8_odds 11 = .ok (.iconst 0, 1) := by decide +kernel
theorem dX8_odds_12 : decode cX8_odds 12 = .ok (.iconst 1, 1) := by decide +kernel
theorem dX8_odds_13 : decode cX8_odds 13 = .ok (.invokestatic 95, 3) := by decide +kernel
theorem dX8_odds_16 : decode cX8_odds 16 = .ok (.ifCond .eq 12, 3) := by decide +kernel
theorem dX8_odds_19 : decode cX8_odds 19 = .ok (.aload_n 0, 1) := by decide +kernel
theorem dX8_odds_20 : decode cX8_odds 20 = .ok (.iload_n 1, 1) := by decide +kernel
theorem dX8_odds_21 : decode cX8_odds 21 = .ok (.iload_n 2, 1) := by decide +kernel
theorem dX8_odds_22 : decode cX8_odds 22 = .ok (.invokevirtual 276, 3) := by decide +kernel
theorem dX8_odds_25 : decode cX8_odds 25 = .ok (.goto 6, 3) := by decide +kernel
theorem dX8_odds_28 : decode cX8_odds 28 = .ok (.ldc2_w 280, 3) := by decide +kernel
theorem dX8_odds_31 : decode cX8_odds 31 = .ok (.lreturn, 1) := by decide +kernel
theorem dX8_meanNow_0 : decode cX8_meanNow 0 = .ok (.lconst 0, 1) := by decide +kernel
theorem dX8_meanNow_1 : decode cX8_meanNow 1 = .ok (.lstore_n 2, 1) := by decide +kernel
theorem dX8_meanNow_2 : decode cX8_meanNow 2 = .ok (.iconst 0, 1) := by decide +kernel
theorem dX8_meanNow_3 : decode cX8_meanNow 3 = .ok (.istore 4, 2) := by decide +kernel
theorem dX8_meanNow_5 : decode cX8_meanNow 5 = .ok (.iload 4, 2) := by decide +kernel
theorem dX8_meanNow_7 : decode cX8_meanNow 7 = .ok (.iconst 1, 1) := by decide +kernel
theorem dX8_meanNow_8 : decode cX8_meanNow 8 = .ok (.aload_n 0, 1) := by decide +kernel
theorem dX8_meanNow_9 : decode cX8_meanNow 9 = .ok (.getfield 262, 3) := by decide +kernel
theorem dX8_meanNow_12 : decode cX8_meanNow 12 = .ok (.ishl, 1) := by decide +kernel
theorem dX8_meanNow_13 : decode cX8_meanNow 13 = .ok (.if_icmp .ge 29, 3) := by decide +kernel
theorem dX8_meanNow_16 : decode cX8_meanNow 16 = .ok (.aload_n 0, 1) := by decide +kernel
theorem dX8_meanNow_17 : decode cX8_meanNow 17 = .ok (.iload 4, 2) := by decide +kernel
theorem dX8_meanNow_19 : decode cX8_meanNow 19 = .ok (.invokevirtual 268, 3) := by decide +kernel
theorem dX8_meanNow_22 : decode cX8_meanNow 22 = .ok (.lstore 5, 2) := by decide +kernel
theorem dX8_meanNow_24 : decode cX8_meanNow 24 = .ok (.lload_n 2, 1) := by decide +kernel
theorem dX8_meanNow_25 : decode cX8_meanNow 25 = .ok (.lload 5, 2) := by decide +kernel
theorem dX8_meanNow_27 : decode cX8_meanNow 27 = .ok (.aload_n 0, 1) := by decide +kernel
theorem dX8_meanNow_28 : decode cX8_meanNow 28 = .ok (.iload_n 1, 1) := by decide +kernel
theorem dX8_meanNow_29 : decode cX8_meanNow 29 = .ok (.invokevirtual 187, 3) := by decide +kernel
theorem dX8_meanNow_32 : decode cX8_meanNow 32 = .ok (.i2l, 1) := by decide +kernel
theorem dX8_meanNow_33 : decode cX8_meanNow 33 = .ok (.lmul, 1) := by decide +kernel
theorem dX8_meanNow_34 : decode cX8_meanNow 34 = .ok (.ladd, 1) := by decide +kernel
theorem dX8_meanNow_35 : decode cX8_meanNow 35 = .ok (.lstore_n 2, 1) := by decide +kernel
theorem dX8_meanNow_36 : decode cX8_meanNow 36 = .ok (.iinc 4 1, 3) := by decide +kernel
theorem dX8_meanNow_39 : decode cX8_meanNow 39 = .ok (.goto (-34), 3) := by decide +kernel
theorem dX8_meanNow_42 : decode cX8_meanNow 42 = .ok (.lload_n 2, 1) := by decide +kernel
theorem dX8_meanNow_43 : decode cX8_meanNow 43 = .ok (.lreturn, 1) := by decide +kernel
theorem dX8_mean_0 : decode cX8_mean 0 = .ok (.aload_n 0, 1) := by decide +kernel
theorem dX8_mean_1 : decode cX8_mean 1 = .ok (.iload_n 1, 1) := by decide +kernel
theorem dX8_mean_2 : decode cX8_mean 2 = .ok (.invokevirtual 103, 3) := by decide +kernel
theorem dX8_mean_5 : decode cX8_mean 5 = .ok (.ifCond .eq 12, 3) := by decide +kernel
theorem dX8_mean_8 : decode cX8_mean 8 = .ok (.iload_n 2, 1) := by decide +kernel
theorem dX8_mean_9 : decode cX8_mean 9 = .ok (.iconst 0, 1) := by decide +kernel
theorem dX8_mean_10 : decode cX8_mean 10 = .ok (.iconst 1, 1) := by decide +kernel
theorem dX8_mean_11 : decode cX8_mean 11 = .ok (.invokestatic 95, 3) := by decide +kernel
theorem dX8_mean_14 : decode cX8_mean 14 = .ok (.ifCond .ne 7, 3) := by decide +kernel
theorem dX8_mean_17 : decode cX8_mean 17 = .ok (.ldc2_w 280, 3) := by decide +kernel
theorem dX8_mean_20 : decode cX8_mean 20 = .ok (.lreturn, 1) := by decide +kernel
theorem dX8_mean_21 : decode cX8_mean 21 = .ok (.aload_n 0, 1) := by decide +kernel
theorem dX8_mean_22 : decode cX8_mean 22 = .ok (.invokevirtual 190, 3) := by decide +kernel
theorem dX8_mean_25 : decode cX8_mean 25 = .ok (.aload_n 0, 1) := by decide +kernel
theorem dX8_mean_26 : decode cX8_mean 26 = .ok (.invokevirtual 265, 3) := by decide +kernel
theorem dX8_mean_29 : decode cX8_mean 29 = .ok (.aload_n 0, 1) := by decide +kernel
theorem dX8_mean_30 : decode cX8_mean 30 = .ok (.iload_n 1, 1) := by decide +kernel
theorem dX8_mean_31 : decode cX8_mean 31 = .ok (.invokevirtual 282, 3) := by decide +kernel
theorem dX8_mean_34 : decode cX8_mean 34 = .ok (.lconst 1, 1) := by decide +kernel
theorem dX8_mean_35 : decode cX8_mean 35 = .ok (.iconst 4, 1) := by decide +kernel
theorem dX8_mean_36 : decode cX8_mean 36 = .ok (.aload_n 0, 1) := by decide +kernel
theorem dX8_mean_37 : decode cX8_mean 37 = .ok (.getfield 262, 3) := by decide +kernel
theorem dX8_mean_40 : decode cX8_mean 40 = .ok (.imul, 1) := by decide +kernel
theorem dX8_mean_41 : decode cX8_mean 41 = .ok (.lshl, 1) := by decide +kernel
theorem dX8_mean_42 : decode cX8_mean 42 = .ok (.iload_n 2, 1) := by decide +kernel
theorem dX8_mean_43 : decode cX8_mean 43 = .ok (.invokestatic 272, 3) := by decide +kernel
theorem dX8_mean_46 : decode cX8_mean 46 = .ok (.lreturn, 1) := by decide +kernel
theorem dX8_sure_0 : decode cX8_sure 0 = .ok (.aload_n 0, 1) := by decide +kernel
theorem dX8_sure_1 : decode cX8_sure 1 = .ok (.iload_n 1, 1) := by decide +kernel
theorem dX8_sure_2 : decode cX8_sure 2 = .ok (.invokevirtual 107, 3) := by decide +kernel
theorem dX8_sure_5 : decode cX8_sure 5 = .ok (.ifCond .ne 6, 3) := by decide +kernel
theorem dX8_sure_8 : decode cX8_sure 8 = .ok (.bipush (-2), 2) := by decide +kernel
theorem dX8_sure_10 : decode cX8_sure 10 = .ok (.ireturn, 1) := by decide +kernel
theorem dX8_sure_11 : decode cX8_sure 11 = .ok (.aload_n 0, 1) := by decide +kernel
theorem dX8_sure_12 : decode cX8_sure 12 = .ok (.invokevirtual 190, 3) := by decide +kernel
theorem dX8_sure_15 : decode cX8_sure 15 = .ok (.aload_n 0, 1) := by decide +kernel
theorem dX8_sure_16 : decode cX8_sure 16 = .ok (.invokevirtual 265, 3) := by decide +kernel
theorem dX8_sure_19 : decode cX8_sure 19 = .ok (.iconst 0, 1) := by decide +kernel
theorem dX8_sure_20 : decode cX8_sure 20 = .ok (.istore_n 2, 1) := by decide +kernel
theorem dX8_sure_21 : decode cX8_sure 21 = .ok (.lconst 0, 1) := by decide +kernel
theorem dX8_sure_22 : decode cX8_sure 22 = .ok (.lstore_n 3, 1) := by decide +kernel
theorem dX8_sure_23 : decode cX8_sure 23 = .ok (.iconst 0, 1) := by decide +kernel
theorem dX8_sure_24 : decode cX8_sure 24 = .ok (.istore 5, 2) := by decide +kernel
theorem dX8_sure_26 : decode cX8_sure 26 = .ok (.iload 5, 2) := by decide +kernel
theorem dX8_sure_28 : decode cX8_sure 28 = .ok (.bipush 60, 2) := by decide +kernel
theorem dX8_sure_30 : decode cX8_sure 30 = .ok (.if_icmp .gt 67, 3) := by decide +kernel
theorem dX8_sure_33 : decode cX8_sure 33 = .ok (.aload_n 0, 1) := by decide +kernel
theorem dX8_sure_34 : decode cX8_sure 34 = .ok (.getfield 47, 3) := by decide +kernel
theorem dX8_sure_37 : decode cX8_sure 37 = .ok (.iload_n 1, 1) := by decide +kernel
theorem dX8_sure_38 : decode cX8_sure 38 = .ok (.iload 5, 2) := by decide +kernel
theorem dX8_sure_40 : decode cX8_sure 40 = .ok (.iastore, 1) := by decide +kernel
theorem dX8_sure_41 : decode cX8_sure 41 = .ok (.aload_n 0, 1) := by decide +kernel
theorem dX8_sure_42 : decode cX8_sure 42 = .ok (.iload_n 1, 1) := by decide +kernel
theorem dX8_sure_43 : decode cX8_sure 43 = .ok (.invokevirtual 282, 3) := by decide +kernel
theorem dX8_sure_46 : decode cX8_sure 46 = .ok (.lstore 6, 2) := by decide +kernel
theorem dX8_sure_48 : decode cX8_sure 48 = .ok (.iload 5, 2) := by decide +kernel
theorem dX8_sure_50 : decode cX8_sure 50 = .ok (.ifCond .eq 10, 3) := by decide +kernel
theorem dX8_sure_53 : decode cX8_sure 53 = .ok (.lload 6, 2) := by decide +kernel
theorem dX8_sure_55 : decode cX8_sure 55 = .ok (.lload_n 3, 1) := by decide +kernel
theorem dX8_sure_56 : decode cX8_sure 56 = .ok (.lcmp, 1) := by decide +kernel
theorem dX8_sure_57 : decode cX8_sure 57 = .ok (.ifCond .ge 7, 3) := by decide +kernel
theorem dX8_sure_60 : decode cX8_sure 60 = .ok (.iconst 1, 1) := by decide +kernel
theorem dX8_sure_61 : decode cX8_sure 61 = .ok (.goto 4, 3) := by decide +kernel
theorem dX8_sure_64 : decode cX8_sure 64 = .ok (.iconst 0, 1) := by decide +kernel
theorem dX8_sure_65 : decode cX8_sure 65 = .ok (.istore 8, 2) := by decide +kernel
theorem dX8_sure_67 : decode cX8_sure 67 = .ok (.iload 8, 2) := by decide +kernel
theorem dX8_sure_69 : decode cX8_sure 69 = .ok (.ifCond .eq 8, 3) := by decide +kernel
theorem dX8_sure_72 : decode cX8_sure 72 = .ok (.iload 5, 2) := by decide +kernel
theorem dX8_sure_74 : decode cX8_sure 74 = .ok (.goto 4, 3) := by decide +kernel
theorem dX8_sure_77 : decode cX8_sure 77 = .ok (.iload_n 2, 1) := by decide +kernel
theorem dX8_sure_78 : decode cX8_sure 78 = .ok (.istore_n 2, 1) := by decide +kernel
theorem dX8_sure_79 : decode cX8_sure 79 = .ok (.iload 8, 2) := by decide +kernel
theorem dX8_sure_81 : decode cX8_sure 81 = .ok (.ifCond .eq 8, 3) := by decide +kernel
theorem dX8_sure_84 : decode cX8_sure 84 = .ok (.lload 6, 2) := by decide +kernel
theorem dX8_sure_86 : decode cX8_sure 86 = .ok (.goto 4, 3) := by decide +kernel
theorem dX8_sure_89 : decode cX8_sure 89 = .ok (.lload_n 3, 1) := by decide +kernel
theorem dX8_sure_90 : decode cX8_sure 90 = .ok (.lstore_n 3, 1) := by decide +kernel
theorem dX8_sure_91 : decode cX8_sure 91 = .ok (.iinc 5 1, 3) := by decide +kernel
theorem dX8_sure_94 : decode cX8_sure 94 = .ok (.goto (-68), 3) := by decide +kernel
theorem dX8_sure_97 : decode cX8_sure 97 = .ok (.iload_n 2, 1) := by decide +kernel
theorem dX8_sure_98 : decode cX8_sure 98 = .ok (.ireturn, 1) := by decide +kernel
theorem dX8_meets_0 : decode cX8_meets 0 = .ok (.aload_n 0, 1) := by decide +kernel
theorem dX8_meets_1 : decode cX8_meets 1 = .ok (.iload_n 1, 1) := by decide +kernel
theorem dX8_meets_2 : decode cX8_meets 2 = .ok (.putfield 285, 3) := by decide +kernel
theorem dX8_meets_5 : decode cX8_meets 5 = .ok (.bipush (-10), 2) := by decide +kernel
theorem dX8_meets_7 : decode cX8_meets 7 = .ok (.iload_n 1, 1) := by decide +kernel
theorem dX8_meets_8 : decode cX8_meets 8 = .ok (.isub, 1) := by decide +kernel
theorem dX8_meets_9 : decode cX8_meets 9 = .ok (.ireturn, 1) := by decide +kernel
theorem dX8_isSheet_0 : decode cX8_isSheet 0 = .ok (.iload_n 0, 1) := by decide +kernel
theorem dX8_isSheet_1 : decode cX8_isSheet 1 = .ok (.iconst 0, 1) := by decide +kernel
theorem dX8_isSheet_2 : decode cX8_isSheet 2 = .ok (.iconst 3, 1) := by decide +kernel
theorem dX8_isSheet_3 : decode cX8_isSheet 3 = .ok (.invokestatic 95, 3) := by decide +kernel
theorem dX8_isSheet_6 : decode cX8_isSheet 6 = .ok (.ireturn, 1) := by decide +kernel
theorem dX8_sheet_0 : decode cX8_sheet 0 = .ok (.iload_n 1, 1) := by decide +kernel
theorem dX8_sheet_1 : decode cX8_sheet 1 = .ok (.invokestatic 110, 3) := by decide +kernel
theorem dX8_sheet_4 : decode cX8_sheet 4 = .ok (.ifCond .eq 18, 3) := by decide +kernel
theorem dX8_sheet_7 : decode cX8_sheet 7 = .ok (.iload_n 2, 1) := by decide +kernel
theorem dX8_sheet_8 : decode cX8_sheet 8 = .ok (.iconst 0, 1) := by decide +kernel
theorem dX8_sheet_9 : decode cX8_sheet 9 = .ok (.iconst 2, 1) := by decide +kernel
theorem dX8_sheet_10 : decode cX8_sheet 10 = .ok (.invokestatic 95, 3) := by decide +kernel
theorem dX8_sheet_13 : decode cX8_sheet 13 = .ok (.ifCond .eq 9, 3) := by decide +kernel
theorem dX8_sheet_16 : decode cX8_sheet 16 = .ok (.iload_n 3, 1) := by decide +kernel
theorem dX8_sheet_17 : decode cX8_sheet 17 = .ok (.bipush 64, 2) := by decide +kernel
theorem dX8_sheet_19 : decode cX8_sheet 19 = .ok (.if_icmp .le 6, 3) := by decide +kernel
theorem dX8_sheet_22 : decode cX8_sheet 22 = .ok (.bipush (-2), 2) := by decide +kernel
theorem dX8_sheet_24 : decode cX8_sheet 24 = .ok (.ireturn, 1) := by decide +kernel
theorem dX8_sheet_25 : decode cX8_sheet 25 = .ok (.iload_n 3, 1) := by decide +kernel
theorem dX8_sheet_26 : decode cX8_sheet 26 = .ok (.ifCond .ge 9, 3) := by decide +kernel
theorem dX8_sheet_29 : decode cX8_sheet 29 = .ok (.aload_n 0, 1) := by decide +kernel
theorem dX8_sheet_30 : decode cX8_sheet 30 = .ok (.iconst 5, 1) := by decide +kernel
theorem dX8_sheet_31 : decode cX8_sheet 31 = .ok (.invokevirtual 113, 3) := by decide +kernel
theorem dX8_sheet_34 : decode cX8_sheet 34 = .ok (.ireturn, 1) := by decide +kernel
theorem dX8_sheet_35 : decode cX8_sheet 35 = .ok (.aload_n 0, 1) := by decide +kernel
theorem dX8_sheet_36 : decode cX8_sheet 36 = .ok (.getfield 80, 3) := by decide +kernel
theorem dX8_sheet_39 : decode cX8_sheet 39 = .ok (.iload_n 1, 1) := by decide +kernel
theorem dX8_sheet_40 : decode cX8_sheet 40 = .ok (.iconst 1, 1) := by decide +kernel
theorem dX8_sheet_41 : decode cX8_sheet 41 = .ok (.bastore, 1) := by decide +kernel
theorem dX8_sheet_42 : decode cX8_sheet 42 = .ok (.aload_n 0, 1) := by decide +kernel
theorem dX8_sheet_43 : decode cX8_sheet 43 = .ok (.getfield 83, 3) := by decide +kernel
theorem dX8_sheet_46 : decode cX8_sheet 46 = .ok (.iload_n 1, 1) := by decide +kernel
theorem dX8_sheet_47 : decode cX8_sheet 47 = .ok (.iload_n 2, 1) := by decide +kernel
theorem dX8_sheet_48 : decode cX8_sheet 48 = .ok (.iastore, 1) := by decide +kernel
theorem dX8_sheet_49 : decode cX8_sheet 49 = .ok (.aload_n 0, 1) := by decide +kernel
theorem dX8_sheet_50 : decode cX8_sheet 50 = .ok (.getfield 86, 3) := by decide +kernel
theorem dX8_sheet_53 : decode cX8_sheet 53 = .ok (.iload_n 1, 1) := by decide +kernel
theorem dX8_sheet_54 : decode cX8_sheet 54 = .ok (.iload_n 3, 1) := by decide +kernel
theorem dX8_sheet_55 : decode cX8_sheet 55 = .ok (.iastore, 1) := by decide +kernel
theorem dX8_sheet_56 : decode cX8_sheet 56 = .ok (.iconst 0, 1) := by decide +kernel
theorem dX8_sheet_57 : decode cX8_sheet 57 = .ok (.istore 4, 2) := by decide +kernel
theorem dX8_sheet_59 : decode cX8_sheet 59 = .ok (.iload 4, 2) := by decide +kernel
theorem dX8_sheet_61 : decode cX8_sheet 61 = .ok (.bipush 64, 2) := by decide +kernel
theorem dX8_sheet_63 : decode cX8_sheet 63 = .ok (.if_icmp .ge 22, 3) := by decide +kernel
theorem dX8_sheet_66 : decode cX8_sheet 66 = .ok (.aload_n 0, 1) := by decide +kernel
theorem dX8_sheet_67 : decode cX8_sheet 67 = .ok (.getfield 89, 3) := by decide +kernel
theorem dX8_sheet_70 : decode cX8_sheet 70 = .ok (.bipush 64, 2) := by decide +kernel
theorem dX8_sheet_72 : decode cX8_sheet 72 = .ok (.iload_n 1, 1) := by decide +kernel
theorem dX8_sheet_73 : decode cX8_sheet 73 = .ok (.imul, 1) := by decide +kernel
theorem dX8_sheet_74 : decode cX8_sheet 74 = .ok (.iload 4, 2) := by decide +kernel
theorem dX8_sheet_76 : decode cX8_sheet 76 = .ok (.iadd, 1) := by decide +kernel
theorem dX8_sheet_77 : decode cX8_sheet 77 = .ok (.iconst 0, 1) := by decide +kernel
theorem dX8_sheet_78 : decode cX8_sheet 78 = .ok (.iastore, 1) := by decide +kernel
theorem dX8_sheet_79 : decode cX8_sheet 79 = .ok (.iinc 4 1, 3) := by decide +kernel
theorem dX8_sheet_82 : decode cX8_sheet 82 = .ok (.goto (-23), 3) := by decide +kernel
theorem dX8_sheet_85 : decode cX8_sheet 85 = .ok (.iload_n 3, 1) := by decide +kernel
theorem dX8_sheet_86 : decode cX8_sheet 86 = .ok (.ireturn, 1) := by decide +kernel
theorem dX8_lose_0 : decode cX8_lose 0 = .ok (.iload_n 1, 1) := by decide +kernel
theorem dX8_lose_1 : decode cX8_lose 1 = .ok (.invokestatic 110, 3) := by decide +kernel
theorem dX8_lose_4 : decode cX8_lose 4 = .ok (.ifCond .ne 6, 3) := by decide +kernel
theorem dX8_lose_7 : decode cX8_lose 7 = .ok (.bipush (-2), 2) := by decide +kernel
theorem dX8_lose_9 : decode cX8_lose 9 = .ok (.ireturn, 1) := by decide +kernel
theorem dX8_lose_10 : decode cX8_lose 10 = .ok (.aload_n 0, 1) := by decide +kernel
theorem dX8_lose_11 : decode cX8_lose 11 = .ok (.getfield 80, 3) := by decide +kernel
theorem dX8_lose_14 : decode cX8_lose 14 = .ok (.iload_n 1, 1) := by decide +kernel
theorem dX8_lose_15 : decode cX8_lose 15 = .ok (.baload, 1) := by decide +kernel
theorem dX8_lose_16 : decode cX8_lose 16 = .ok (.ifCond .ne 9, 3) := by decide +kernel
theorem dX8_lose_19 : decode cX8_lose 19 = .ok (.aload_n 0, 1) := by decide +kernel
theorem dX8_lose_20 : decode cX8_lose 20 = .ok (.iconst 1, 1) := by decide +kernel
theorem dX8_lose_21 : decode cX8_lose 21 = .ok (.invokevirtual 113, 3) := by decide +kernel
theorem dX8_lose_24 : decode cX8_lose 24 = .ok (.ireturn, 1) := by decide +kernel
theorem dX8_lose_25 : decode cX8_lose 25 = .ok (.aload_n 0, 1) := by decide +kernel
theorem dX8_lose_26 : decode cX8_lose 26 = .ok (.getfield 80, 3) := by decide +kernel
theorem dX8_lose_29 : decode cX8_lose 29 = .ok (.iload_n 1, 1) := by decide +kernel
theorem dX8_lose_30 : decode cX8_lose 30 = .ok (.iconst 0, 1) := by decide +kernel
theorem dX8_lose_31 : decode cX8_lose 31 = .ok (.bastore, 1) := by decide +kernel
theorem dX8_lose_32 : decode cX8_lose 32 = .ok (.aload_n 0, 1) := by decide +kernel
theorem dX8_lose_33 : decode cX8_lose 33 = .ok (.getfield 86, 3) := by decide +kernel
theorem dX8_lose_36 : decode cX8_lose 36 = .ok (.iload_n 1, 1) := by decide +kernel
theorem dX8_lose_37 : decode cX8_lose 37 = .ok (.iaload, 1) := by decide +kernel
theorem dX8_lose_38 : decode cX8_lose 38 = .ok (.ireturn, 1) := by decide +kernel
theorem dX8_lacks_0 : decode cX8_lacks 0 = .ok (.aload_n 0, 1) := by decide +kernel
theorem dX8_lacks_1 : decode cX8_lacks 1 = .ok (.getfield 80, 3) := by decide +kernel
theorem dX8_lacks_4 : decode cX8_lacks 4 = .ok (.iload_n 1, 1) := by decide +kernel
theorem dX8_lacks_5 : decode cX8_lacks 5 = .ok (.baload, 1) := by decide +kernel
theorem dX8_lacks_6 : decode cX8_lacks 6 = .ok (.ifCond .ne 7, 3) := by decide +kernel
theorem dX8_lacks_9 : decode cX8_lacks 9 = .ok (.iconst 1, 1) := by decide +kernel
theorem dX8_lacks_10 : decode cX8_lacks 10 = .ok (.goto 38, 3) := by decide +kernel
theorem dX8_lacks_13 : decode cX8_lacks 13 = .ok (.aload_n 0, 1) := by decide +kernel
theorem dX8_lacks_14 : decode cX8_lacks 14 = .ok (.getfield 83, 3) := by decide +kernel
theorem dX8_lacks_17 : decode cX8_lacks 17 = .ok (.iload_n 1, 1) := by decide +kernel
theorem dX8_lacks_18 : decode cX8_lacks 18 = .ok (.iaload, 1) := by decide +kernel
theorem dX8_lacks_19 : decode cX8_lacks 19 = .ok (.iload_n 2, 1) := by decide +kernel
theorem dX8_lacks_20 : decode cX8_lacks 20 = .ok (.if_icmp .eq 7, 3) := by decide +kernel
theorem dX8_lacks_23 : decode cX8_lacks 23 = .ok (.iconst 3, 1) := by decide +kernel
theorem dX8_lacks_24 : decode cX8_lacks 24 = .ok (.goto 24, 3) := by decide +kernel
theorem dX8_lacks_27 : decode cX8_lacks 27 = .ok (.iload_n 3, 1) := by decide +kernel
theorem dX8_lacks_28 : decode cX8_lacks 28 = .ok (.iconst 0, 1) := by decide +kernel
theorem dX8_lacks_29 : decode cX8_lacks 29 = .ok (.aload_n 0, 1) := by decide +kernel
theorem dX8_lacks_30 : decode cX8_lacks 30 = .ok (.getfield 86, 3) := by decide +kernel
theorem dX8_lacks_33 : decode cX8_lacks 33 = .ok (.iload_n 1, 1) := by decide +kernel
theorem dX8_lacks_34 : decode cX8_lacks 34 = .ok (.iaload, 1) := by decide +kernel
theorem dX8_lacks_35 : decode cX8_lacks 35 = .ok (.iconst 1, 1) := by decide +kernel
theorem dX8_lacks_36 : decode cX8_lacks 36 = .ok (.isub, 1) := by decide +kernel
theorem dX8_lacks_37 : decode cX8_lacks 37 = .ok (.invokestatic 95, 3) := by decide +kernel
theorem dX8_lacks_40 : decode cX8_lacks 40 = .ok (.ifCond .eq 7, 3) := by decide +kernel
theorem dX8_lacks_43 : decode cX8_lacks 43 = .ok (.iconst 0, 1) := by decide +kernel
theorem dX8_lacks_44 : decode cX8_lacks 44 = .ok (.goto 4, 3) := by decide +kernel
theorem dX8_lacks_47 : decode cX8_lacks 47 = .ok (.iconst 2, 1) := by decide +kernel
theorem dX8_lacks_48 : decode cX8_lacks 48 = .ok (.ireturn, 1) := by decide +kernel
theorem dX8_keep_0 : decode cX8_keep 0 = .ok (.aload_n 0, 1) := by decide +kernel
theorem dX8_keep_1 : decode cX8_keep 1 = .ok (.getfield 89, 3) := by decide +kernel
theorem dX8_keep_4 : decode cX8_keep 4 = .ok (.bipush 64, 2) := by decide +kernel
theorem dX8_keep_6 : decode cX8_keep 6 = .ok (.iload_n 1, 1) := by decide +kernel
theorem dX8_keep_7 : decode cX8_keep 7 = .ok (.imul, 1) := by decide +kernel
theorem dX8_keep_8 : decode cX8_keep 8 = .ok (.iload_n 2, 1) := by decide +kernel
theorem dX8_keep_9 : decode cX8_keep 9 = .ok (.iadd, 1) := by decide +kernel
theorem dX8_keep_10 : decode cX8_keep 10 = .ok (.aload_n 0, 1) := by decide +kernel
theorem dX8_keep_11 : decode cX8_keep 11 = .ok (.getfield 83, 3) := by decide +kernel
theorem dX8_keep_14 : decode cX8_keep 14 = .ok (.iload_n 1, 1) := by decide +kernel
theorem dX8_keep_15 : decode cX8_keep 15 = .ok (.iaload, 1) := by decide +kernel
theorem dX8_keep_16 : decode cX8_keep 16 = .ok (.ifCond .ne 8, 3) := by decide +kernel
theorem dX8_keep_19 : decode cX8_keep 19 = .ok (.iload_n 3, 1) := by decide +kernel
theorem dX8_keep_20 : decode cX8_keep 20 = .ok (.i2b, 1) := by decide +kernel
theorem dX8_keep_21 : decode cX8_keep 21 = .ok (.goto 19, 3) := by decide +kernel
theorem dX8_keep_24 : decode cX8_keep 24 = .ok (.aload_n 0, 1) := by decide +kernel
theorem dX8_keep_25 : decode cX8_keep 25 = .ok (.getfield 83, 3) := by decide +kernel
theorem dX8_keep_28 : decode cX8_keep 28 = .ok (.iload_n 1, 1) := by decide +kernel
theorem dX8_keep_29 : decode cX8_keep 29 = .ok (.iaload, 1) := by decide +kernel
theorem dX8_keep_30 : decode cX8_keep 30 = .ok (.iconst 1, 1) := by decide +kernel
theorem dX8_keep_31 : decode cX8_keep 31 = .ok (.if_icmp .ne 8, 3) := by decide +kernel
theorem dX8_keep_34 : decode cX8_keep 34 = .ok (.iload_n 3, 1) := by decide +kernel
theorem dX8_keep_35 : decode cX8_keep 35 = .ok (.i2s, 1) := by decide +kernel
theorem dX8_keep_36 : decode cX8_keep 36 = .ok (.goto 4, 3) := by decide +kernel
theorem dX8_keep_39 : decode cX8_keep 39 = .ok (.iload_n 3, 1) := by decide +kernel
theorem dX8_keep_40 : decode cX8_keep 40 = .ok (.iastore, 1) := by decide +kernel
theorem dX8_keep_41 : decode cX8_keep 41 = .ok (.return_, 1) := by decide +kernel
theorem dX8_put_0 : decode cX8_put 0 = .ok (.iload_n 1, 1) := by decide +kernel
theorem dX8_put_1 : decode cX8_put 1 = .ok (.invokestatic 110, 3) := by decide +kernel
theorem dX8_put_4 : decode cX8_put 4 = .ok (.ifCond .eq 12, 3) := by decide +kernel
theorem dX8_put_7 : decode cX8_put 7 = .ok (.iload_n 2, 1) := by decide +kernel
theorem dX8_put_8 : decode cX8_put 8 = .ok (.iconst 0, 1) := by decide +kernel
theorem dX8_put_9 : decode cX8_put 9 = .ok (.iconst 2, 1) := by decide +kernel
theorem dX8_put_10 : decode cX8_put 10 = .ok (.invokestatic 95, 3) := by decide +kernel
theorem dX8_put_13 : decode cX8_put 13 = .ok (.ifCond .ne 6, 3) := by decide +kernel
theorem dX8_put_16 : decode cX8_put 16 = .ok (.bipush (-2), 2) := by decide +kernel
theorem dX8_put_18 : decode cX8_put 18 = .ok (.ireturn, 1) := by decide +kernel
theorem dX8_put_19 : decode cX8_put 19 = .ok (.aload_n 0, 1) := by decide +kernel
theorem dX8_put_20 : decode cX8_put 20 = .ok (.iload_n 1, 1) := by decide +kernel
theorem dX8_put_21 : decode cX8_put 21 = .ok (.iload_n 2, 1) := by decide +kernel
theorem dX8_put_22 : decode cX8_put 22 = .ok (.iload_n 3, 1) := by decide +kernel
theorem dX8_put_23 : decode cX8_put 23 = .ok (.invokevirtual 288, 3) := by decide +kernel
theorem dX8_put_26 : decode cX8_put 26 = .ok (.istore 5, 2) := by decide +kernel
theorem dX8_put_28 : decode cX8_put 28 = .ok (.iload 5, 2) := by decide +kernel
theorem dX8_put_30 : decode cX8_put 30 = .ok (.ifCond .le 10, 3) := by decide +kernel
theorem dX8_put_33 : decode cX8_put 33 = .ok (.aload_n 0, 1) := by decide +kernel
theorem dX8_put_34 : decode cX8_put 34 = .ok (.iload 5, 2) := by decide +kernel
theorem dX8_put_36 : decode cX8_put 36 = .ok (.invokevirtual 113, 3) := by decide +kernel
theorem dX8_put_39 : decode cX8_put 39 = .ok (.ireturn, 1) := by decide +kernel
theorem dX8_put_40 : decode cX8_put 40 = .ok (.aload_n 0, 1) := by decide +kernel
theorem dX8_put_41 : decode cX8_put 41 = .ok (.iload_n 1, 1) := by decide +kernel
theorem dX8_put_42 : decode cX8_put 42 = .ok (.iload_n 3, 1) := by decide +kernel
theorem dX8_put_43 : decode cX8_put 43 = .ok (.iload 4, 2) := by decide +kernel
theorem dX8_put_45 : decode cX8_put 45 = .ok (.invokevirtual 291, 3) := by decide +kernel
theorem dX8_put_48 : decode cX8_put 48 = .ok (.iconst 1, 1) := by decide +kernel
theorem dX8_put_49 : decode cX8_put 49 = .ok (.ireturn, 1) := by decide +kernel
theorem dX8_get_0 : decode cX8_get 0 = .ok (.iload_n 1, 1) := by decide +kernel
theorem dX8_get_1 : decode cX8_get 1 = .ok (.invokestatic 110, 3) := by decide +kernel
theorem dX8_get_4 : decode cX8_get 4 = .ok (.ifCond .eq 12, 3) := by decide +kernel
theorem dX8_get_7 : decode cX8_get 7 = .ok (.iload_n 2, 1) := by decide +kernel
theorem dX8_get_8 : decode cX8_get 8 = .ok (.iconst 0, 1) := by decide +kernel
theorem dX8_get_9 : decode cX8_get 9 = .ok (.iconst 2, 1) := by decide +kernel
theorem dX8_get_10 : decode cX8_get 10 = .ok (.invokestatic 95, 3) := by decide +kernel
theorem dX8_get_13 : decode cX8_get 13 = .ok (.ifCond .ne 7, 3) := by decide +kernel
theorem dX8_get_16 : decode cX8_get 16 = .ok (.ldc_w 295, 3) := by decide +kernel
theorem dX8_get_19 : decode cX8_get 19 = .ok (.ireturn, 1) := by decide +kernel
theorem dX8_get_20 : decode cX8_get 20 = .ok (.aload_n 0, 1) := by decide +kernel
theorem dX8_get_21 : decode cX8_get 21 = .ok (.iload_n 1, 1) := by decide +kernel
theorem dX8_get_22 : decode cX8_get 22 = .ok (.iload_n 2, 1) := by decide +kernel
theorem dX8_get_23 : decode cX8_get 23 = .ok (.iload_n 3, 1) := by decide +kernel
theorem dX8_get_24 : decode cX8_get 24 = .ok (.invokevirtual 288, 3) := by decide +kernel
theorem dX8_get_27 : decode cX8_get 27 = .ok (.istore 4, 2) := by decide +kernel
theorem dX8_get_29 : decode cX8_get 29 = .ok (.iload 4, 2) := by decide +kernel
theorem dX8_get_31 : decode cX8_get 31 = .ok (.ifCond .le 13, 3) := by decide +kernel
theorem dX8_get_34 : decode cX8_get 34 = .ok (.aload_n 0, 1) := by decide +kernel
theorem dX8_get_35 : decode cX8_get 35 = .ok (.iload 4, 2) := by decide +kernel
theorem dX8_get_37 : decode cX8_get 37 = .ok (.putfield 285, 3) := by decide +kernel
theorem dX8_get_40 : decode cX8_get 40 = .ok (.ldc_w 295, 3) := by decide +kernel
theorem dX8_get_43 : decode cX8_get 43 = .ok (.ireturn, 1) := by decide +kernel
theorem dX8_get_44 : decode cX8_get 44 = .ok (.aload_n 0, 1) := by decide +kernel
theorem dX8_get_45 : decode cX8_get 45 = .ok (.getfield 89, 3) := by decide +kernel
theorem dX8_get_48 : decode cX8_get 48 = .ok (.bipush 64, 2) := by decide +kernel
theorem dX8_get_50 : decode cX8_get 50 = .ok (.iload_n 1, 1) := by decide +kernel
theorem dX8_get_51 : decode cX8_get 51 = .ok (.imul, 1) := by decide +kernel
theorem dX8_get_52 : decode cX8_get 52 = .ok (.iload_n 3, 1) := by decide +kernel
theorem dX8_get_53 : decode cX8_get 53 = .ok (.iadd, 1) := by decide +kernel
theorem dX8_get_54 : decode cX8_get 54 = .ok (.iaload, 1) := by decide +kernel
theorem dX8_get_55 : decode cX8_get 55 = .ok (.ireturn, 1) := by decide +kernel
theorem dX8_copy_0 : decode cX8_copy 0 = .ok (.iload_n 1, 1) := by decide +kernel
theorem dX8_copy_1 : decode cX8_copy 1 = .ok (.invokestatic 110, 3) := by decide +kernel
theorem dX8_copy_4 : decode cX8_copy 4 = .ok (.ifCond .eq 10, 3) := by decide +kernel
theorem dX8_copy_7 : decode cX8_copy 7 = .ok (.iload_n 3, 1) := by decide +kernel
theorem dX8_copy_8 : decode cX8_copy 8 = .ok (.invokestatic 110, 3) := by decide +kernel
theorem dX8_copy_11 : decode cX8_copy 11 = .ok (.ifCond .ne 6, 3) := by decide +kernel
theorem dX8_copy_14 : decode cX8_copy 14 = .ok (.bipush (-2), 2) := by decide +kernel
theorem dX8_copy_16 : decode cX8_copy 16 = .ok (.ireturn, 1) := by decide +kernel
theorem dX8_copy_17 : decode cX8_copy 17 = .ok (.aload_n 0, 1) := by decide +kernel
theorem dX8_copy_18 : decode cX8_copy 18 = .ok (.getfield 80, 3) := by decide +kernel
theorem dX8_copy_21 : decode cX8_copy 21 = .ok (.iload_n 1, 1) := by decide +kernel
theorem dX8_copy_22 : decode cX8_copy 22 = .ok (.baload, 1) := by decide +kernel
theorem dX8_copy_23 : decode cX8_copy 23 = .ok (.ifCond .eq 12, 3) := by decide +kernel
theorem dX8_copy_26 : decode cX8_copy 26 = .ok (.aload_n 0, 1) := by decide +kernel
theorem dX8_copy_27 : decode cX8_copy 27 = .ok (.getfield 80, 3) := by decide +kernel
theorem dX8_copy_30 : decode cX8_copy 30 = .ok (.iload_n 3, 1) := by decide +kernel
theorem dX8_copy_31 : decode cX8_copy 31 = .ok (.baload, 1) := by decide +kernel
theorem dX8_copy_32 : decode cX8_copy 32 = .ok (.ifCond .ne 9, 3) := by decide +kernel
theorem dX8_copy_35 : decode cX8_copy 35 = .ok (.aload_n 0, 1) := by decide +kernel
theorem dX8_copy_36 : decode cX8_copy 36 = .ok (.iconst 1, 1) := by decide +kernel
theorem dX8_copy_37 : decode cX8_copy 37 = .ok (.invokevirtual 113, 3) := by decide +kernel
theorem dX8_copy_40 : decode cX8_copy 40 = .ok (.ireturn, 1) := by decide +kernel
theorem dX8_copy_41 : decode cX8_copy 41 = .ok (.aload_n 0, 1) := by decide +kernel
theorem dX8_copy_42 : decode cX8_copy 42 = .ok (.getfield 83, 3) := by decide +kernel
theorem dX8_copy_45 : decode cX8_copy 45 = .ok (.iload_n 1, 1) := by decide +kernel
theorem dX8_copy_46 : decode cX8_copy 46 = .ok (.iaload, 1) := by decide +kernel
theorem dX8_copy_47 : decode cX8_copy 47 = .ok (.aload_n 0, 1) := by decide +kernel
theorem dX8_copy_48 : decode cX8_copy 48 = .ok (.getfield 83, 3) := by decide +kernel
theorem dX8_copy_51 : decode cX8_copy 51 = .ok (.iload_n 3, 1) := by decide +kernel
theorem dX8_copy_52 : decode cX8_copy 52 = .ok (.iaload, 1) := by decide +kernel
theorem dX8_copy_53 : decode cX8_copy 53 = .ok (.if_icmp .eq 9, 3) := by decide +kernel
theorem dX8_copy_56 : decode cX8_copy 56 = .ok (.aload_n 0, 1) := by decide +kernel
theorem dX8_copy_57 : decode cX8_copy 57 = .ok (.iconst 4, 1) := by decide +kernel
theorem dX8_copy_58 : decode cX8_copy 58 = .ok (.invokevirtual 113, 3) := by decide +kernel
theorem dX8_copy_61 : decode cX8_copy 61 = .ok (.ireturn, 1) := by decide +kernel
theorem dX8_copy_62 : decode cX8_copy 62 = .ok (.iload_n 2, 1) := by decide +kernel
theorem dX8_copy_63 : decode cX8_copy 63 = .ok (.ifCond .lt 48, 3) := by decide +kernel
theorem dX8_copy_66 : decode cX8_copy 66 = .ok (.iload 4, 2) := by decide +kernel
theorem dX8_copy_68 : decode cX8_copy 68 = .ok (.ifCond .lt 43, 3) := by decide +kernel
theorem dX8_copy_71 : decode cX8_copy 71 = .ok (.iload 5, 2) := by decide +kernel
theorem dX8_copy_73 : decode cX8_copy 73 = .ok (.ifCond .lt 38, 3) := by decide +kernel
theorem dX8_copy_76 : decode cX8_copy 76 = .ok (.iload_n 2, 1) := by decide +kernel
theorem dX8_copy_77 : decode cX8_copy 77 = .ok (.i2l, 1) := by decide +kernel
theorem dX8_copy_78 : decode cX8_copy 78 = .ok (.iload 5, 2) := by decide +kernel
theorem dX8_copy_80 : decode cX8_copy 80 = .ok (.i2l, 1) := by decide +kernel
theorem dX8_copy_81 : decode cX8_copy 81 = .ok (.ladd, 1) := by decide +kernel
theorem dX8_copy_82 : decode cX8_copy 82 = .ok (.aload_n 0, 1) := by decide +kernel
theorem dX8_copy_83 : decode cX8_copy 83 = .ok (.getfield 86, 3) := by decide +kernel
theorem dX8_copy_86 : decode cX8_copy 86 = .ok (.iload_n 1, 1) := by decide +kernel
theorem dX8_copy_87 : decode cX8_copy 87 = .ok (.iaload, 1) := by decide +kernel
theorem dX8_copy_88 : decode cX8_copy 88 = .ok (.i2l, 1) := by decide +kernel
theorem dX8_copy_89 : decode cX8_copy 89 = .ok (.lcmp, 1) := by decide +kernel
theorem dX8_copy_90 : decode cX8_copy 90 = .ok (.ifCond .gt 21, 3) := by decide +kernel
theorem dX8_copy_93 : decode cX8_copy 93 = .ok (.iload 4, 2) := by decide +kernel
theorem dX8_copy_95 : decode cX8_copy 95 = .ok (.i2l, 1) := by decide +kernel
theorem dX8_copy_96 : decode cX8_copy 96 = .ok (.iload 5, 2) := by decide +kernel
theorem dX8_copy_98 : decode cX8_copy 98 = .ok (.i2l, 1) := by decide +kernel
theorem dX8_copy_99 : decode cX8_copy 99 = .ok (.ladd, 1) := by decide +kernel
theorem dX8_copy_100 : decode cX8_copy 100 = .ok (.aload_n 0, 1) := by decide +kernel
theorem dX8_copy_101 : decode cX8_copy 101 = .ok (.getfield 86, 3) := by decide +kernel
theorem dX8_copy_104 : decode cX8_copy 104 = .ok (.iload_n 3, 1) := by decide +kernel
theorem dX8_copy_105 : decode cX8_copy 105 = .ok (.iaload, 1) := by decide +kernel
theorem dX8_copy_106 : decode cX8_copy 106 = .ok (.i2l, 1) := by decide +kernel
theorem dX8_copy_107 : decode cX8_copy 107 = .ok (.lcmp, 1) := by decide +kernel
theorem dX8_copy_108 : decode cX8_copy 108 = .ok (.ifCond .le 9, 3) := by decide +kernel
theorem dX8_copy_111 : decode cX8_copy 111 = .ok (.aload_n 0, 1) := by decide +kernel
theorem dX8_copy_112 : decode cX8_copy 112 = .ok (.iconst 2, 1) := by decide +kernel
theorem dX8_copy_113 : decode cX8_copy 113 = .ok (.invokevirtual 113, 3) := by decide +kernel
theorem dX8_copy_116 : decode cX8_copy 116 = .ok (.ireturn, 1) := by decide +kernel
theorem dX8_copy_117 : decode cX8_copy 117 = .ok (.iconst 0, 1) := by decide +kernel
theorem dX8_copy_118 : decode cX8_copy 118 = .ok (.istore 6, 2) := by decide +kernel
theorem dX8_copy_120 : decode cX8_copy 120 = .ok (.iload 6, 2) := by decide +kernel
theorem dX8_copy_122 : decode cX8_copy 122 = .ok (.iload 5, 2) := by decide +kernel
theorem dX8_copy_124 : decode cX8_copy 124 = .ok (.if_icmp .ge 30, 3) := by decide +kernel
theorem dX8_copy_127 : decode cX8_copy 127 = .ok (.aload_n 0, 1) := by decide +kernel
theorem dX8_copy_128 : decode cX8_copy 128 = .ok (.getfield 92, 3) := by decide +kernel
theorem dX8_copy_131 : decode cX8_copy 131 = .ok (.iload 6, 2) := by decide +kernel
theorem dX8_copy_133 : decode cX8_copy 133 = .ok (.aload_n 0, 1) := by decide +kernel
theorem dX8_copy_134 : decode cX8_copy 134 = .ok (.getfield 89, 3) := by decide +kernel
theorem dX8_copy_137 : decode cX8_copy 137 = .ok (.bipush 64, 2) := by decide +kernel
theorem dX8_copy_139 : decode cX8_copy 139 = .ok (.iload_n 1, 1) := by decide +kernel
theorem dX8_copy_140 : decode cX8_copy 140 = .ok (.imul, 1) := by decide +kernel
theorem dX8_copy_141 : decode cX8_copy 141 = .ok (.iload_n 2, 1) := by decide +kernel
theorem dX8_copy_142 : decode cX8_copy 142 = .ok (.iadd, 1) := by decide +kernel
theorem dX8_copy_143 : decode cX8_copy 143 = .ok (.iload 6, 2) := by decide +kernel
theorem dX8_copy_145 : decode cX8_copy 145 = .ok (.iadd, 1) := by decide +kernel
theorem dX8_copy_146 : decode cX8_copy 146 = .ok (.iaload, 1) := by decide +kernel
theorem dX8_copy_147 : decode cX8_copy 147 = .ok (.iastore, 1) := by decide +kernel
theorem dX8_copy_148 : decode cX8_copy 148 = .ok (.iinc 6 1, 3) := by decide +kernel
theorem dX8_copy_151 : decode cX8_copy 151 = .ok (.goto (-31), 3) := by decide +kernel
theorem dX8_copy_154 : decode cX8_copy 154 = .ok (.iconst 0, 1) := by decide +kernel
theorem dX8_copy_155 : decode cX8_copy 155 = .ok (.istore 6, 2) := by decide +kernel
theorem dX8_copy_157 : decode cX8_copy 157 = .ok (.iload 6, 2) := by decide +kernel
theorem dX8_copy_159 : decode cX8_copy 159 = .ok (.iload 5, 2) := by decide +kernel
theorem dX8_copy_161 : decode cX8_copy 161 = .ok (.if_icmp .ge 31, 3) := by decide +kernel
theorem dX8_copy_164 : decode cX8_copy 164 = .ok (.aload_n 0, 1) := by decide +kernel
theorem dX8_copy_165 : decode cX8_copy 165 = .ok (.getfield 89, 3) := by decide +kernel
theorem dX8_copy_168 : decode cX8_copy 168 = .ok (.bipush 64, 2) := by decide +kernel
theorem dX8_copy_170 : decode cX8_copy 170 = .ok (.iload_n 3, 1) := by decide +kernel
theorem dX8_copy_171 : decode cX8_copy 171 = .ok (.imul, 1) := by decide +kernel
theorem dX8_copy_172 : decode cX8_copy 172 = .ok (.iload 4, 2) := by decide +kernel
theorem dX8_copy_174 : decode cX8_copy 174 = .ok (.iadd, 1) := by decide +kernel
theorem dX8_copy_175 : decode cX8_copy 175 = .ok (.iload 6, 2) := by decide +kernel
theorem dX8_copy_177 : decode cX8_copy 177 = .ok (.iadd, 1) := by decide +kernel
theorem dX8_copy_178 : decode cX8_copy 178 = .ok (.aload_n 0, 1) := by decide +kernel
theorem dX8_copy_179 : decode cX8_copy 179 = .ok (.getfield 92, 3) := by decide +kernel
theorem dX8_copy_182 : decode cX8_copy 182 = .ok (.iload 6, 2) := by decide +kernel
theorem dX8_copy_184 : decode cX8_copy 184 = .ok (.iaload, 1) := by decide +kernel
theorem dX8_copy_185 : decode cX8_copy 185 = .ok (.iastore, 1) := by decide +kernel
theorem dX8_copy_186 : decode cX8_copy 186 = .ok (.iinc 6 1, 3) := by decide +kernel
theorem dX8_copy_189 : decode cX8_copy 189 = .ok (.goto (-32), 3) := by decide +kernel
theorem dX8_copy_192 : decode cX8_copy 192 = .ok (.iconst 1, 1) := by decide +kernel
theorem dX8_copy_193 : decode cX8_copy 193 = .ok (.ireturn, 1) := by decide +kernel
theorem dX8_write_0 : decode cX8_write 0 = .ok (.iload_n 1, 1) := by decide +kernel
theorem dX8_write_1 : decode cX8_write 1 = .ok (.invokestatic 110, 3) := by decide +kernel
theorem dX8_write_4 : decode cX8_write 4 = .ok (.ifCond .ne 6, 3) := by decide +kernel
theorem dX8_write_7 : decode cX8_write 7 = .ok (.bipush (-2), 2) := by decide +kernel
theorem dX8_write_9 : decode cX8_write 9 = .ok (.ireturn, 1) := by decide +kernel
theorem dX8_write_10 : decode cX8_write 10 = .ok (.aload_n 0, 1) := by decide +kernel
theorem dX8_write_11 : decode cX8_write 11 = .ok (.getfield 80, 3) := by decide +kernel
theorem dX8_write_14 : decode cX8_write 14 = .ok (.iload_n 1, 1) := by decide +kernel
theorem dX8_write_15 : decode cX8_write 15 = .ok (.baload, 1) := by decide +kernel
theorem dX8_write_16 : decode cX8_write 16 = .ok (.ifCond .ne 9, 3) := by decide +kernel
theorem dX8_write_19 : decode cX8_write 19 = .ok (.aload_n 0, 1) := by decide +kernel
theorem dX8_write_20 : decode cX8_write 20 = .ok (.iconst 1, 1) := by decide +kernel
theorem dX8_write_21 : decode cX8_write 21 = .ok (.invokevirtual 113, 3) := by decide +kernel
theorem dX8_write_24 : decode cX8_write 24 = .ok (.ireturn, 1) := by decide +kernel
theorem dX8_write_25 : decode cX8_write 25 = .ok (.aload_n 0, 1) := by decide +kernel
theorem dX8_write_26 : decode cX8_write 26 = .ok (.getfield 86, 3) := by decide +kernel
theorem dX8_write_29 : decode cX8_write 29 = .ok (.iload_n 1, 1) := by decide +kernel
theorem dX8_write_30 : decode cX8_write 30 = .ok (.iaload, 1) := by decide +kernel
theorem dX8_write_31 : decode cX8_write 31 = .ok (.bipush 61, 2) := by decide +kernel
theorem dX8_write_33 : decode cX8_write 33 = .ok (.if_icmp .ge 12, 3) := by decide +kernel
theorem dX8_write_36 : decode cX8_write 36 = .ok (.aload_n 0, 1) := by decide +kernel
theorem dX8_write_37 : decode cX8_write 37 = .ok (.getfield 86, 3) := by decide +kernel
theorem dX8_write_40 : decode cX8_write 40 = .ok (.iload_n 1, 1) := by decide +kernel
theorem dX8_write_41 : decode cX8_write 41 = .ok (.iaload, 1) := by decide +kernel
theorem dX8_write_42 : decode cX8_write 42 = .ok (.goto 5, 3) := by decide +kernel
theorem dX8_write_45 : decode cX8_write 45 = .ok (.bipush 61, 2) := by decide +kernel
theorem dX8_write_47 : decode cX8_write 47 = .ok (.istore_n 2, 1) := by decide +kernel
theorem dX8_write_48 : decode cX8_write 48 = .ok (.iload_n 2, 1) := by decide +kernel
theorem dX8_write_49 : decode cX8_write 49 = .ok (.ifCond .le 10, 3) := by decide +kernel
theorem dX8_write_52 : decode cX8_write 52 = .ok (.aload_n 0, 1) := by decide +kernel
theorem dX8_write_53 : decode cX8_write 53 = .ok (.iload_n 2, 1) := by decide +kernel
theorem dX8_write_54 : decode cX8_write 54 = .ok (.iconst 1, 1) := by decide +kernel
theorem dX8_write_55 : decode cX8_write 55 = .ok (.isub, 1) := by decide +kernel
theorem dX8_write_56 : decode cX8_write 56 = .ok (.invokevirtual 243, 3) := by decide +kernel
theorem dX8_write_59 : decode cX8_write 59 = .ok (.iconst 0, 1) := by decide +kernel
theorem dX8_write_60 : decode cX8_write 60 = .ok (.istore_n 3, 1) := by decide +kernel
theorem dX8_write_61 : decode cX8_write 61 = .ok (.iload_n 3, 1) := by decide +kernel
theorem dX8_write_62 : decode cX8_write 62 = .ok (.iload_n 2, 1) := by decide +kernel
theorem dX8_write_63 : decode cX8_write 63 = .ok (.if_icmp .ge 21, 3) := by decide +kernel
theorem dX8_write_66 : decode cX8_write 66 = .ok (.aload_n 0, 1) := by decide +kernel
theorem dX8_write_67 : decode cX8_write 67 = .ok (.iload_n 1, 1) := by decide +kernel
theorem dX8_write_68 : decode cX8_write 68 = .ok (.iload_n 3, 1) := by decide +kernel
theorem dX8_write_69 : decode cX8_write 69 = .ok (.aload_n 0, 1) := by decide +kernel
theorem dX8_write_70 : decode cX8_write 70 = .ok (.getfield 71, 3) := by decide +kernel
theorem dX8_write_73 : decode cX8_write 73 = .ok (.iload_n 3, 1) := by decide +kernel
theorem dX8_write_74 : decode cX8_write 74 = .ok (.iaload, 1) := by decide +kernel
theorem dX8_write_75 : decode cX8_write 75 = .ok (.invokevirtual 291, 3) := by decide +kernel
theorem dX8_write_78 : decode cX8_write 78 = .ok (.iinc 3 1, 3) := by decide +kernel
theorem dX8_write_81 : decode cX8_write 81 = .ok (.goto (-20), 3) := by decide +kernel
theorem dX8_write_84 : decode cX8_write 84 = .ok (.iload_n 2, 1) := by decide +kernel
theorem dX8_write_85 : decode cX8_write 85 = .ok (.ireturn, 1) := by decide +kernel
theorem dX8_sumOf_0 : decode cX8_sumOf 0 = .ok (.iconst 0, 1) := by decide +kernel
theorem dX8_sumOf_1 : decode cX8_sumOf 1 = .ok (.istore_n 2, 1) := by decide +kernel
theorem dX8_sumOf_2 : decode cX8_sumOf 2 = .ok (.iconst 0, 1) := by decide +kernel
theorem dX8_sumOf_3 : decode cX8_sumOf 3 = .ok (.istore_n 3, 1) := by decide +kernel
theorem dX8_sumOf_4 : decode cX8_sumOf 4 = .ok (.iload_n 3, 1) := by decide +kernel
theorem dX8_sumOf_5 : decode cX8_sumOf 5 = .ok (.aload_n 0, 1) := by decide +kernel
theorem dX8_sumOf_6 : decode cX8_sumOf 6 = .ok (.getfield 99, 3) := by decide +kernel
theorem dX8_sumOf_9 : decode cX8_sumOf 9 = .ok (.if_icmp .ge 57, 3) := by decide +kernel
theorem dX8_sumOf_12 : decode cX8_sumOf 12 = .ok (.iload_n 2, 1) := by decide +kernel
theorem dX8_sumOf_13 : decode cX8_sumOf 13 = .ok (.iload_n 1, 1) := by decide +kernel
theorem dX8_sumOf_14 : decode cX8_sumOf 14 = .ok (.bipush 7, 2) := by decide +kernel
theorem dX8_sumOf_16 : decode cX8_sumOf 16 = .ok (.if_icmp .ne 12, 3) := by decide +kernel
theorem dX8_sumOf_19 : decode cX8_sumOf 19 = .ok (.aload_n 0, 1) := by decide +kernel
theorem dX8_sumOf_20 : decode cX8_sumOf 20 = .ok (.getfield 28, 3) := by decide +kernel
theorem dX8_sumOf_23 : decode cX8_sumOf 23 = .ok (.iload_n 3, 1) := by decide +kernel
theorem dX8_sumOf_24 : decode cX8_sumOf 24 = .ok (.iaload, 1) := by decide +kernel
theorem dX8_sumOf_25 : decode cX8_sumOf 25 = .ok (.goto 33, 3) := by decide +kernel
theorem dX8_sumOf_28 : decode cX8_sumOf 28 = .ok (.aload_n 0, 1) := by decide +kernel
theorem dX8_sumOf_29 : decode cX8_sumOf 29 = .ok (.getfield 7, 3) := by decide +kernel
theorem dX8_sumOf_32 : decode cX8_sumOf 32 = .ok (.iload_n 3, 1) := by decide +kernel
theorem dX8_sumOf_33 : decode cX8_sumOf 33 = .ok (.iaload, 1) := by decide +kernel
theorem dX8_sumOf_34 : decode cX8_sumOf 34 = .ok (.ifCond .eq 7, 3) := by decide +kernel
theorem dX8_sumOf_37 : decode cX8_sumOf 37 = .ok (.iconst 0, 1) := by decide +kernel
theorem dX8_sumOf_38 : decode cX8_sumOf 38 = .ok (.goto 20, 3) := by decide +kernel
theorem dX8_sumOf_41 : decode cX8_sumOf 41 = .ok (.iload_n 1, 1) := by decide +kernel
theorem dX8_sumOf_42 : decode cX8_sumOf 42 = .ok (.iconst 1, 1) := by decide +kernel
theorem dX8_sumOf_43 : decode cX8_sumOf 43 = .ok (.if_icmp .ne 9, 3) := by decide +kernel
theorem dX8_sumOf_46 : decode cX8_sumOf 46 = .ok (.iconst 1, 1) := by decide +kernel
theorem dX8_sumOf_47 : decode cX8_sumOf 47 = .ok (.iload_n 3, 1) := by decide +kernel
theorem dX8_sumOf_48 : decode cX8_sumOf 48 = .ok (.ishl, 1) := by decide +kernel
theorem dX8_sumOf_49 : decode cX8_sumOf 49 = .ok (.goto 9, 3) := by decide +kernel
theorem dX8_sumOf_52 : decode cX8_sumOf 52 = .ok (.aload_n 0, 1) := by decide +kernel
theorem dX8_sumOf_53 : decode cX8_sumOf 53 = .ok (.getfield 13, 3) := by decide +kernel
theorem dX8_sumOf_56 : decode cX8_sumOf 56 = .ok (.iload_n 3, 1) := by decide +kernel
theorem dX8_sumOf_57 : decode cX8_sumOf 57 = .ok (.iaload, 1) := by decide +kernel
theorem dX8_sumOf_58 : decode cX8_sumOf 58 = .ok (.iadd, 1) := by decide +kernel
theorem dX8_sumOf_59 : decode cX8_sumOf 59 = .ok (.istore_n 2, 1) := by decide +kernel
theorem dX8_sumOf_60 : decode cX8_sumOf 60 = .ok (.iinc 3 1, 3) := by decide +kernel
theorem dX8_sumOf_63 : decode cX8_sumOf 63 = .ok (.goto (-59), 3) := by decide +kernel
theorem dX8_sumOf_66 : decode cX8_sumOf 66 = .ok (.iload_n 2, 1) := by decide +kernel
theorem dX8_sumOf_67 : decode cX8_sumOf 67 = .ok (.ireturn, 1) := by decide +kernel
theorem dX8_count_0 : decode cX8_count 0 = .ok (.iload_n 1, 1) := by decide +kernel
theorem dX8_count_1 : decode cX8_count 1 = .ok (.tableswitch 87 0 8 #[51, 56, 62, 67, 72, 77, 56, 56, 82], 51) := by decide +kernel
theorem dX8_count_52 : decode cX8_count 52 = .ok (.aload_n 0, 1) := by decide +kernel
theorem dX8_count_53 : decode cX8_count 53 = .ok (.getfield 99, 3) := by decide +kernel
theorem dX8_count_56 : decode cX8_count 56 = .ok (.ireturn, 1) := by decide +kernel
theorem dX8_count_57 : decode cX8_count 57 = .ok (.aload_n 0, 1) := by decide +kernel
theorem dX8_count_58 : decode cX8_count 58 = .ok (.iload_n 1, 1) := by decide +kernel
theorem dX8_count_59 : decode cX8_count 59 = .ok (.invokevirtual 296, 3) := by decide +kernel
theorem dX8_count_62 : decode cX8_count 62 = .ok (.ireturn, 1) := by decide +kernel
theorem dX8_count_63 : decode cX8_count 63 = .ok (.aload_n 0, 1) := by decide +kernel
theorem dX8_count_64 : decode cX8_count 64 = .ok (.getfield 117, 3) := by decide +kernel
theorem dX8_count_67 : decode cX8_count 67 = .ok (.ireturn, 1) := by decide +kernel
theorem dX8_count_68 : decode cX8_count 68 = .ok (.aload_n 0, 1) := by decide +kernel
theorem dX8_count_69 : decode cX8_count 69 = .ok (.getfield 120, 3) := by decide +kernel
theorem dX8_count_72 : decode cX8_count 72 = .ok (.ireturn, 1) := by decide +kernel
theorem dX8_count_73 : decode cX8_count 73 = .ok (.aload_n 0, 1) := by decide +kernel
theorem dX8_count_74 : decode cX8_count 74 = .ok (.getfield 123, 3) := by decide +kernel
theorem dX8_count_77 : decode cX8_count 77 = .ok (.ireturn, 1) := by decide +kernel
theorem dX8_count_78 : decode cX8_count 78 = .ok (.aload_n 0, 1) := by decide +kernel
theorem dX8_count_79 : decode cX8_count 79 = .ok (.getfield 126, 3) := by decide +kernel
theorem dX8_count_82 : decode cX8_count 82 = .ok (.ireturn, 1) := by decide +kernel
theorem dX8_count_83 : decode cX8_count 83 = .ok (.aload_n 0, 1) := by decide +kernel
theorem dX8_count_84 : decode cX8_count 84 = .ok (.getfield 285, 3) := by decide +kernel
theorem dX8_count_87 : decode cX8_count 87 = .ok (.ireturn, 1) := by decide +kernel
theorem dX8_count_88 : decode cX8_count 88 = .ok (.bipush (-2), 2) := by decide +kernel
theorem dX8_count_90 : decode cX8_count 90 = .ok (.ireturn, 1) := by decide +kernel
theorem dX8_digest_0 : decode cX8_digest 0 = .ok (.ldc2_w 299, 3) := by decide +kernel
theorem dX8_digest_3 : decode cX8_digest 3 = .ok (.lstore_n 1, 1) := by decide +kernel
theorem dX8_digest_4 : decode cX8_digest 4 = .ok (.iconst 0, 1) := by decide +kernel
theorem dX8_digest_5 : decode cX8_digest 5 = .ok (.istore_n 3, 1) := by decide +kernel
theorem dX8_digest_6 : decode cX8_digest 6 = .ok (.iload_n 3, 1) := by decide +kernel
theorem dX8_digest_7 : decode cX8_digest 7 = .ok (.bipush 8, 2) := by decide +kernel
theorem dX8_digest_9 : decode cX8_digest 9 = .ok (.if_icmp .ge 22, 3) := by decide +kernel
theorem dX8_digest_12 : decode cX8_digest 12 = .ok (.ldc2_w 301, 3) := by decide +kernel
theorem dX8_digest_15 : decode cX8_digest 15 = .ok (.lload_n 1, 1) := by decide +kernel
theorem dX8_digest_16 : decode cX8_digest 16 = .ok (.lmul, 1) := by decide +kernel
theorem dX8_digest_17 : decode cX8_digest 17 = .ok (.aload_n 0, 1) := by decide +kernel
theorem dX8_digest_18 : decode cX8_digest 18 = .ok (.iload_n 3, 1) := by decide +kernel
theorem dX8_digest_19 : decode cX8_digest 19 = .ok (.invokevirtual 303, 3) := by decide +kernel
theorem dX8_digest_22 : decode cX8_digest 22 = .ok (.i2l, 1) := by decide +kernel
theorem dX8_digest_23 : decode cX8_digest 23 = .ok (.ladd, 1) := by decide +kernel
theorem dX8_digest_24 : decode cX8_digest 24 = .ok (.lstore_n 1, 1) := by decide +kernel
theorem dX8_digest_25 : decode cX8_digest 25 = .ok (.iinc 3 1, 3) := by decide +kernel
theorem dX8_digest_28 : decode cX8_digest 28 = .ok (.goto (-22), 3) := by decide +kernel
theorem dX8_digest_31 : decode cX8_digest 31 = .ok (.ldc2_w 301, 3) := by decide +kernel
theorem dX8_digest_34 : decode cX8_digest 34 = .ok (.lload_n 1, 1) := by decide +kernel
theorem dX8_digest_35 : decode cX8_digest 35 = .ok (.lmul, 1) := by decide +kernel
theorem dX8_digest_36 : decode cX8_digest 36 = .ok (.aload_n 0, 1) := by decide +kernel
theorem dX8_digest_37 : decode cX8_digest 37 = .ok (.invokevirtual 154, 3) := by decide +kernel
theorem dX8_digest_40 : decode cX8_digest 40 = .ok (.i2l, 1) := by decide +kernel
theorem dX8_digest_41 : decode cX8_digest 41 = .ok (.ladd, 1) := by decide +kernel
theorem dX8_digest_42 : decode cX8_digest 42 = .ok (.lstore_n 1, 1) := by decide +kernel
theorem dX8_digest_43 : decode cX8_digest 43 = .ok (.aload_n 0, 1) := by decide +kernel
theorem dX8_digest_44 : decode cX8_digest 44 = .ok (.invokevirtual 190, 3) := by decide +kernel
theorem dX8_digest_47 : decode cX8_digest 47 = .ok (.aload_n 0, 1) := by decide +kernel
theorem dX8_digest_48 : decode cX8_digest 48 = .ok (.invokevirtual 193, 3) := by decide +kernel
theorem dX8_digest_51 : decode cX8_digest 51 = .ok (.ldc2_w 301, 3) := by decide +kernel
theorem dX8_digest_54 : decode cX8_digest 54 = .ok (.lload_n 1, 1) := by decide +kernel
theorem dX8_digest_55 : decode cX8_digest 55 = .ok (.lmul, 1) := by decide +kernel
theorem dX8_digest_56 : decode cX8_digest 56 = .ok (.aload_n 0, 1) := by decide +kernel
theorem dX8_digest_57 : decode cX8_digest 57 = .ok (.getfield 178, 3) := by decide +kernel
theorem dX8_digest_60 : decode cX8_digest 60 = .ok (.i2l, 1) := by decide +kernel
theorem dX8_digest_61 : decode cX8_digest 61 = .ok (.ladd, 1) := by decide +kernel
theorem dX8_digest_62 : decode cX8_digest 62 = .ok (.lstore_n 1, 1) := by decide +kernel
theorem dX8_digest_63 : decode cX8_digest 63 = .ok (.iconst 0, 1) := by decide +kernel
theorem dX8_digest_64 : decode cX8_digest 64 = .ok (.istore_n 3, 1) := by decide +kernel
theorem dX8_digest_65 : decode cX8_digest 65 = .ok (.iload_n 3, 1) := by decide +kernel
theorem dX8_digest_66 : decode cX8_digest 66 = .ok (.aload_n 0, 1) := by decide +kernel
theorem dX8_digest_67 : decode cX8_digest 67 = .ok (.getfield 99, 3) := by decide +kernel
theorem dX8_digest_70 : decode cX8_digest 70 = .ok (.if_icmp .ge 36, 3) := by decide +kernel
theorem dX8_digest_73 : decode cX8_digest 73 = .ok (.ldc2_w 301, 3) := by decide +kernel
theorem dX8_digest_76 : decode cX8_digest 76 = .ok (.lload_n 1, 1) := by decide +kernel
theorem dX8_digest_77 : decode cX8_digest 77 = .ok (.lmul, 1) := by decide +kernel
theorem dX8_digest_78 : decode cX8_digest 78 = .ok (.aload_n 0, 1) := by decide +kernel
theorem dX8_digest_79 : decode cX8_digest 79 = .ok (.getfield 50, 3) := by decide +kernel
theorem dX8_digest_82 : decode cX8_digest 82 = .ok (.iload_n 3, 1) := by decide +kernel
theorem dX8_digest_83 : decode cX8_digest 83 = .ok (.iaload, 1) := by decide +kernel
theorem dX8_digest_84 : decode cX8_digest 84 = .ok (.i2l, 1) := by decide +kernel
theorem dX8_digest_85 : decode cX8_digest 85 = .ok (.ladd, 1) := by decide +kernel
theorem dX8_digest_86 : decode cX8_digest 86 = .ok (.lstore_n 1, 1) := by decide +kernel
theorem dX8_digest_87 : decode cX8_digest 87 = .ok (.ldc2_w 301, 3) := by decide +kernel
theorem dX8_digest_90 : decode cX8_digest 90 = .ok (.lload_n 1, 1) := by decide +kernel
theorem dX8_digest_91 : decode cX8_digest 91 = .ok (.lmul, 1) := by decide +kernel
theorem dX8_digest_92 : decode cX8_digest 92 = .ok (.aload_n 0, 1) := by decide +kernel
theorem dX8_digest_93 : decode cX8_digest 93 = .ok (.iload_n 3, 1) := by decide +kernel
theorem dX8_digest_94 : decode cX8_digest 94 = .ok (.invokevirtual 187, 3) := by decide +kernel
theorem dX8_digest_97 : decode cX8_digest 97 = .ok (.i2l, 1) := by decide +kernel
theorem dX8_digest_98 : decode cX8_digest 98 = .ok (.ladd, 1) := by decide +kernel
theorem dX8_digest_99 : decode cX8_digest 99 = .ok (.lstore_n 1, 1) := by decide +kernel
theorem dX8_digest_100 : decode cX8_digest 100 = .ok (.iinc 3 1, 3) := by decide +kernel
theorem dX8_digest_103 : decode cX8_digest 103 = .ok (.goto (-38), 3) := by decide +kernel
theorem dX8_digest_106 : decode cX8_digest 106 = .ok (.ldc2_w 301, 3) := by decide +kernel
theorem dX8_digest_109 : decode cX8_digest 109 = .ok (.lload_n 1, 1) := by decide +kernel
theorem dX8_digest_110 : decode cX8_digest 110 = .ok (.lmul, 1) := by decide +kernel
theorem dX8_digest_111 : decode cX8_digest 111 = .ok (.aload_n 0, 1) := by decide +kernel
theorem dX8_digest_112 : decode cX8_digest 112 = .ok (.invokevirtual 203, 3) := by decide +kernel
theorem dX8_digest_115 : decode cX8_digest 115 = .ok (.i2l, 1) := by decide +kernel
theorem dX8_digest_116 : decode cX8_digest 116 = .ok (.ladd, 1) := by decide +kernel
theorem dX8_digest_117 : decode cX8_digest 117 = .ok (.lstore_n 1, 1) := by decide +kernel
theorem dX8_digest_118 : decode cX8_digest 118 = .ok (.ldc2_w 301, 3) := by decide +kernel
theorem dX8_digest_121 : decode cX8_digest 121 = .ok (.lload_n 1, 1) := by decide +kernel
theorem dX8_digest_122 : decode cX8_digest 122 = .ok (.lmul, 1) := by decide +kernel
theorem dX8_digest_123 : decode cX8_digest 123 = .ok (.aload_n 0, 1) := by decide +kernel
theorem dX8_digest_124 : decode cX8_digest 124 = .ok (.iconst 0, 1) := by decide +kernel
theorem dX8_digest_125 : decode cX8_digest 125 = .ok (.invokevirtual 210, 3) := by decide +kernel
theorem dX8_digest_128 : decode cX8_digest 128 = .ok (.i2l, 1) := by decide +kernel
theorem dX8_digest_129 : decode cX8_digest 129 = .ok (.ladd, 1) := by decide +kernel
theorem dX8_digest_130 : decode cX8_digest 130 = .ok (.lstore_n 1, 1) := by decide +kernel
theorem dX8_digest_131 : decode cX8_digest 131 = .ok (.ldc2_w 301, 3) := by decide +kernel
theorem dX8_digest_134 : decode cX8_digest 134 = .ok (.lload_n 1, 1) := by decide +kernel
theorem dX8_digest_135 : decode cX8_digest 135 = .ok (.lmul, 1) := by decide +kernel
theorem dX8_digest_136 : decode cX8_digest 136 = .ok (.aload_n 0, 1) := by decide +kernel
theorem dX8_digest_137 : decode cX8_digest 137 = .ok (.iconst 1, 1) := by decide +kernel
theorem dX8_digest_138 : decode cX8_digest 138 = .ok (.invokevirtual 210, 3) := by decide +kernel
theorem dX8_digest_141 : decode cX8_digest 141 = .ok (.i2l, 1) := by decide +kernel
theorem dX8_digest_142 : decode cX8_digest 142 = .ok (.ladd, 1) := by decide +kernel
theorem dX8_digest_143 : decode cX8_digest 143 = .ok (.lstore_n 1, 1) := by decide +kernel
theorem dX8_digest_144 : decode cX8_digest 144 = .ok (.ldc2_w 301, 3) := by decide +kernel
theorem dX8_digest_147 : decode cX8_digest 147 = .ok (.lload_n 1, 1) := by decide +kernel
theorem dX8_digest_148 : decode cX8_digest 148 = .ok (.lmul, 1) := by decide +kernel
theorem dX8_digest_149 : decode cX8_digest 149 = .ok (.aload_n 0, 1) := by decide +kernel
theorem dX8_digest_150 : decode cX8_digest 150 = .ok (.iconst 1, 1) := by decide +kernel
theorem dX8_digest_151 : decode cX8_digest 151 = .ok (.invokevirtual 246, 3) := by decide +kernel
theorem dX8_digest_154 : decode cX8_digest 154 = .ok (.i2l, 1) := by decide +kernel
theorem dX8_digest_155 : decode cX8_digest 155 = .ok (.ladd, 1) := by decide +kernel
theorem dX8_digest_156 : decode cX8_digest 156 = .ok (.lstore_n 1, 1) := by decide +kernel
theorem dX8_digest_157 : decode cX8_digest 157 = .ok (.ldc2_w 301, 3) := by decide +kernel
theorem dX8_digest_160 : decode cX8_digest 160 = .ok (.lload_n 1, 1) := by decide +kernel
theorem dX8_digest_161 : decode cX8_digest 161 = .ok (.lmul, 1) := by decide +kernel
theorem dX8_digest_162 : decode cX8_digest 162 = .ok (.aload_n 0, 1) := by decide +kernel
theorem dX8_digest_163 : decode cX8_digest 163 = .ok (.iconst 2, 1) := by decide +kernel
theorem dX8_digest_164 : decode cX8_digest 164 = .ok (.invokevirtual 246, 3) := by decide +kernel
theorem dX8_digest_167 : decode cX8_digest 167 = .ok (.i2l, 1) := by decide +kernel
theorem dX8_digest_168 : decode cX8_digest 168 = .ok (.ladd, 1) := by decide +kernel
theorem dX8_digest_169 : decode cX8_digest 169 = .ok (.lstore_n 1, 1) := by decide +kernel
theorem dX8_digest_170 : decode cX8_digest 170 = .ok (.ldc2_w 301, 3) := by decide +kernel
theorem dX8_digest_173 : decode cX8_digest 173 = .ok (.lload_n 1, 1) := by decide +kernel
theorem dX8_digest_174 : decode cX8_digest 174 = .ok (.lmul, 1) := by decide +kernel
theorem dX8_digest_175 : decode cX8_digest 175 = .ok (.aload_n 0, 1) := by decide +kernel
theorem dX8_digest_176 : decode cX8_digest 176 = .ok (.iconst 0, 1) := by decide +kernel
theorem dX8_digest_177 : decode cX8_digest 177 = .ok (.invokevirtual 256, 3) := by decide +kernel
theorem dX8_digest_180 : decode cX8_digest 180 = .ok (.i2l, 1) := by decide +kernel
theorem dX8_digest_181 : decode cX8_digest 181 = .ok (.ladd, 1) := by decide +kernel
theorem dX8_digest_182 : decode cX8_digest 182 = .ok (.lstore_n 1, 1) := by decide +kernel
theorem dX8_digest_183 : decode cX8_digest 183 = .ok (.ldc2_w 301, 3) := by decide +kernel
theorem dX8_digest_186 : decode cX8_digest 186 = .ok (.lload_n 1, 1) := by decide +kernel
theorem dX8_digest_187 : decode cX8_digest 187 = .ok (.lmul, 1) := by decide +kernel
theorem dX8_digest_188 : decode cX8_digest 188 = .ok (.aload_n 0, 1) := by decide +kernel
theorem dX8_digest_189 : decode cX8_digest 189 = .ok (.iconst 1, 1) := by decide +kernel
theorem dX8_digest_190 : decode cX8_digest 190 = .ok (.invokevirtual 256, 3) := by decide +kernel
theorem dX8_digest_193 : decode cX8_digest 193 = .ok (.i2l, 1) := by decide +kernel
theorem dX8_digest_194 : decode cX8_digest 194 = .ok (.ladd, 1) := by decide +kernel
theorem dX8_digest_195 : decode cX8_digest 195 = .ok (.lstore_n 1, 1) := by decide +kernel
theorem dX8_digest_196 : decode cX8_digest 196 = .ok (.ldc2_w 301, 3) := by decide +kernel
theorem dX8_digest_199 : decode cX8_digest 199 = .ok (.lload_n 1, 1) := by decide +kernel
theorem dX8_digest_200 : decode cX8_digest 200 = .ok (.lmul, 1) := by decide +kernel
theorem dX8_digest_201 : decode cX8_digest 201 = .ok (.aload_n 0, 1) := by decide +kernel
theorem dX8_digest_202 : decode cX8_digest 202 = .ok (.bipush 30, 2) := by decide +kernel
theorem dX8_digest_204 : decode cX8_digest 204 = .ok (.iconst 0, 1) := by decide +kernel
theorem dX8_digest_205 : decode cX8_digest 205 = .ok (.invokevirtual 276, 3) := by decide +kernel
theorem dX8_digest_208 : decode cX8_digest 208 = .ok (.ladd, 1) := by decide +kernel
theorem dX8_digest_209 : decode cX8_digest 209 = .ok (.lreturn, 1) := by decide +kernel
end
section
-- methods: name, code, locals, answer, frames and words below
abbrev mJ6_bitCount_0f7a4 : Mt := (yJ6_bitCount_0f7a4, cJ6_bitCount_0f7a4, 1, some .int, 0, 0)
abbrev mJ9_abs_0f7a4 : Mt := (yJ9_abs_0f7a4, cJ9_abs_0f7a4, 1, some .int, 0, 0)
abbrev mJ9_max_7cf53 : Mt := (yJ9_max_7cf53, cJ9_max_7cf53, 2, some .int, 0, 0)
abbrev mJ9_min_7cf53 : Mt := (yJ9_min_7cf53, cJ9_min_7cf53, 2, some .int, 0, 0)
abbrev mX0_init : Mt := (yX0_init, cX0_init, 3, none, 1, 20)
abbrev mX0_lotsTogether : Mt := (yX0_lotsTogether, cX0_lotsTogether, 3, some .int, 0, 0)
abbrev mX1_aimsAsOne : Mt := (yX1_aimsAsOne, cX1_aimsAsOne, 4, some .long, 0, 0)
abbrev mX1_aimsTogether : Mt := (yX1_aimsTogether, cX1_aimsTogether, 3, some .int, 0, 0)
abbrev mX1_becomes : Mt := (yX1_becomes, cX1_becomes, 2, none, 1, 26)
abbrev mX1_bestOf : Mt := (yX1_bestOf, cX1_bestOf, 9, some .int, 3, 68)
abbrev mX1_callLookers : Mt := (yX1_callLookers, cX1_callLookers, 5, none, 1, 22)
abbrev mX1_climbs : Mt := (yX1_climbs, cX1_climbs, 6, some .boolean, 4, 96)
abbrev mX1_comingAt : Mt := (yX1_comingAt, cX1_comingAt, 4, some .int, 0, 0)
abbrev mX1_enter : Mt := (yX1_enter, cX1_enter, 3, none, 0, 0)
abbrev mX1_firmMinute : Mt := (yX1_firmMinute, cX1_firmMinute, 3, some .int, 0, 0)
abbrev mX1_firstRestless : Mt := (yX1_firstRestless, cX1_firstRestless, 3, some .int, 4, 96)
abbrev mX1_gather : Mt := (yX1_gather, cX1_gather, 3, none, 1, 26)
abbrev mX1_goesToNextWeek : Mt := (yX1_goesToNextWeek, cX1_goesToNextWeek, 2, none, 4, 96)
abbrev mX1_init : Mt := (yX1_init, cX1_init, 4, none, 1, 20)
abbrev mX1_makePunctual : Mt := (yX1_makePunctual, cX1_makePunctual, 3, none, 0, 0)
abbrev mX1_openPrice : Mt := (yX1_openPrice, cX1_openPrice, 3, some .int, 3, 68)
abbrev mX1_plainBits : Mt := (yX1_plainBits, cX1_plainBits, 3, some .int, 0, 0)
abbrev mX1_price : Mt := (yX1_price, cX1_price, 5, some .int, 0, 0)
abbrev mX1_reckon : Mt := (yX1_reckon, cX1_reckon, 1, some .int, 3, 68)
abbrev mX1_restsAmong : Mt := (yX1_restsAmong, cX1_restsAmong, 6, some .boolean, 4, 90)
abbrev mX1_settle : Mt := (yX1_settle, cX1_settle, 3, some .int, 2, 46)
abbrev mX1_together : Mt := (yX1_together, cX1_together, 4, some .int, 4, 88)
abbrev mX2_good : Mt := (yX2_good, cX2_good, 4, some .int, 5, 111)
abbrev mX2_init : Mt := (yX2_init, cX2_init, 2, none, 1, 20)
abbrev mX2_lay : Mt := (yX2_lay, cX2_lay, 3, none, 0, 0)
abbrev mX2_toFirstWay : Mt := (yX2_toFirstWay, cX2_toFirstWay, 2, none, 0, 0)
abbrev mX2_toNextWay : Mt := (yX2_toNextWay, cX2_toNextWay, 4, some .boolean, 0, 0)
abbrev mX2_walk : Mt := (yX2_walk, cX2_walk, 5, some .int, 5, 115)
abbrev mX3_begunBy : Mt := (yX3_begunBy, cX3_begunBy, 7, some .long, 4, 88)
abbrev mX3_init : Mt := (yX3_init, cX3_init, 3, none, 1, 20)
abbrev mX3_lowest : Mt := (yX3_lowest, cX3_lowest, 9, some .long, 0, 0)
abbrev mX3_priceOf : Mt := (yX3_priceOf, cX3_priceOf, 8, some .long, 4, 88)
abbrev mX3_weight : Mt := (yX3_weight, cX3_weight, 6, some .long, 0, 0)
abbrev mX4_beginning : Mt := (yX4_beginning, cX4_beginning, 11, some .int, 0, 0)
abbrev mX4_closes : Mt := (yX4_closes, cX4_closes, 1, none, 0, 0)
abbrev mX4_empties : Mt := (yX4_empties, cX4_empties, 1, none, 4, 90)
abbrev mX4_here : Mt := (yX4_here, cX4_here, 1, some .int, 0, 0)
abbrev mX4_init : Mt := (yX4_init, cX4_init, 1, none, 1, 20)
abbrev mX4_number : Mt := (yX4_number, cX4_number, 7, some .int, 1, 20)
abbrev mX4_opens : Mt := (yX4_opens, cX4_opens, 1, none, 0, 0)
abbrev mX4_parse : Mt := (yX4_parse, cX4_parse, 3, none, 3, 68)
abbrev mX4_readsCondition : Mt := (yX4_readsCondition, cX4_readsCondition, 3, some .boolean, 2, 46)
abbrev mX4_readsJoint : Mt := (yX4_readsJoint, cX4_readsJoint, 2, some .boolean, 1, 20)
abbrev mX4_takes : Mt := (yX4_takes, cX4_takes, 2, some .boolean, 4, 90)
abbrev mX5_drop : Mt := (yX5_drop, cX5_drop, 2, none, 0, 0)
abbrev mX5_findingAt : Mt := (yX5_findingAt, cX5_findingAt, 4, some .int, 1, 21)
abbrev mX5_finds : Mt := (yX5_finds, cX5_finds, 2, some .int, 0, 0)
abbrev mX5_hasItems : Mt := (yX5_hasItems, cX5_hasItems, 4, some .boolean, 0, 0)
abbrev mX5_init : Mt := (yX5_init, cX5_init, 2, none, 1, 20)
abbrev mX5_isGone : Mt := (yX5_isGone, cX5_isGone, 2, some .boolean, 0, 0)
abbrev mX5_lay : Mt := (yX5_lay, cX5_lay, 5, none, 0, 0)
abbrev mX5_lowest : Mt := (yX5_lowest, cX5_lowest, 3, some .int, 0, 0)
abbrev mX6_comesTo : Mt := (yX6_comesTo, cX6_comesTo, 3, none, 5, 117)
abbrev mX6_init : Mt := (yX6_init, cX6_init, 2, none, 1, 20)
abbrev mX6_run : Mt := (yX6_run, cX6_run, 3, none, 6, 139)
abbrev mX7_aim : Mt := (yX7_aim, cX7_aim, 4, some .int, 1, 21)
abbrev mX7_begins : Mt := (yX7_begins, cX7_begins, 1, some .int, 4, 88)
abbrev mX7_best : Mt := (yX7_best, cX7_best, 3, some .int, 4, 96)
abbrev mX7_climb : Mt := (yX7_climb, cX7_climb, 3, some .int, 5, 121)
abbrev mX7_comer : Mt := (yX7_comer, cX7_comer, 5, some .int, 2, 42)
abbrev mX7_comes : Mt := (yX7_comes, cX7_comes, 2, some .int, 4, 88)
abbrev mX7_copy : Mt := (yX7_copy, cX7_copy, 6, some .int, 1, 26)
abbrev mX7_cost : Mt := (yX7_cost, cX7_cost, 5, some .int, 1, 21)
abbrev mX7_count : Mt := (yX7_count, cX7_count, 2, some .int, 1, 22)
abbrev mX7_digest : Mt := (yX7_digest, cX7_digest, 4, some .long, 8, 182)
abbrev mX7_fault : Mt := (yX7_fault, cX7_fault, 1, some .int, 0, 0)
abbrev mX7_get : Mt := (yX7_get, cX7_get, 5, some .int, 2, 44)
abbrev mX7_guests : Mt := (yX7_guests, cX7_guests, 4, some .int, 6, 141)
abbrev mX7_init : Mt := (yX7_init, cX7_init, 1, none, 2, 43)
abbrev mX7_isComer : Mt := (yX7_isComer, cX7_isComer, 2, some .boolean, 0, 0)
abbrev mX7_isForm : Mt := (yX7_isForm, cX7_isForm, 1, some .boolean, 0, 0)
abbrev mX7_isPlain : Mt := (yX7_isPlain, cX7_isPlain, 2, some .boolean, 0, 0)
abbrev mX7_isSheet : Mt := (yX7_isSheet, cX7_isSheet, 1, some .boolean, 0, 0)
abbrev mX7_isStep : Mt := (yX7_isStep, cX7_isStep, 1, some .boolean, 0, 0)
abbrev mX7_keyBits : Mt := (yX7_keyBits, cX7_keyBits, 3, some .int, 4, 88)
abbrev mX7_keys : Mt := (yX7_keys, cX7_keys, 3, some .int, 5, 110)
abbrev mX7_least : Mt := (yX7_least, cX7_least, 3, some .int, 6, 141)
abbrev mX7_lose : Mt := (yX7_lose, cX7_lose, 3, some .int, 1, 21)
abbrev mX7_lost : Mt := (yX7_lost, cX7_lost, 4, some .int, 6, 139)
abbrev mX7_mayAim : Mt := (yX7_mayAim, cX7_mayAim, 1, some .boolean, 0, 0)
abbrev mX7_mayCome : Mt := (yX7_mayCome, cX7_mayCome, 3, some .boolean, 1, 20)
abbrev mX7_mean : Mt := (yX7_mean, cX7_mean, 3, some .long, 5, 115)
abbrev mX7_moved : Mt := (yX7_moved, cX7_moved, 7, some .int, 5, 121)
abbrev mX7_odds : Mt := (yX7_odds, cX7_odds, 3, some .long, 5, 114)
abbrev mX7_pays : Mt := (yX7_pays, cX7_pays, 3, some .int, 5, 111)
abbrev mX7_put : Mt := (yX7_put, cX7_put, 6, some .int, 2, 44)
abbrev mX7_read : Mt := (yX7_read, cX7_read, 4, some .int, 1, 21)
abbrev mX7_restless : Mt := (yX7_restless, cX7_restless, 1, some .int, 5, 118)
abbrev mX7_rests : Mt := (yX7_rests, cX7_rests, 5, some .int, 6, 139)
abbrev mX7_round : Mt := (yX7_round, cX7_round, 2, some .int, 7, 161)
abbrev mX7_set : Mt := (yX7_set, cX7_set, 4, some .int, 0, 0)
abbrev mX7_sheet : Mt := (yX7_sheet, cX7_sheet, 4, some .int, 1, 24)
abbrev mX7_sure : Mt := (yX7_sure, cX7_sure, 8, some .int, 5, 115)
abbrev mX7_trialIsInTime : Mt := (yX7_trialIsInTime, cX7_trialIsInTime, 1, some .boolean, 5, 121)
abbrev mX7_type : Mt := (yX7_type, cX7_type, 2, some .int, 5, 111)
abbrev mX7_week : Mt := (yX7_week, cX7_week, 2, some .int, 7, 161)
abbrev mX7_wipe : Mt := (yX7_wipe, cX7_wipe, 2, some .int, 5, 110)
abbrev mX7_write : Mt := (yX7_write, cX7_write, 4, some .int, 7, 161)
abbrev mX8_aim : Mt := (yX8_aim, cX8_aim, 4, some .int, 3, 64)
abbrev mX8_amount : Mt := (yX8_amount, cX8_amount, 1, some .int, 0, 0)
abbrev mX8_asTold : Mt := (yX8_asTold, cX8_asTold, 2, none, 0, 0)
abbrev mX8_begins : Mt := (yX8_begins, cX8_begins, 1, some .int, 5, 110)
abbrev mX8_beginsNow : Mt := (yX8_beginsNow, cX8_beginsNow, 6, none, 0, 0)
abbrev mX8_best : Mt := (yX8_best, cX8_best, 3, some .int, 6, 138)
abbrev mX8_bestOf : Mt := (yX8_bestOf, cX8_bestOf, 9, some .int, 5, 110)
abbrev mX8_byteNow : Mt := (yX8_byteNow, cX8_byteNow, 1, some .int, 0, 0)
abbrev mX8_climb : Mt := (yX8_climb, cX8_climb, 4, some .int, 8, 184)
abbrev mX8_climbNow : Mt := (yX8_climbNow, cX8_climbNow, 2, some .int, 7, 163)
abbrev mX8_climbs : Mt := (yX8_climbs, cX8_climbs, 6, some .boolean, 6, 138)
abbrev mX8_comer : Mt := (yX8_comer, cX8_comer, 5, some .int, 1, 22)
abbrev mX8_comes : Mt := (yX8_comes, cX8_comes, 2, some .int, 5, 110)
abbrev mX8_comesAll : Mt := (yX8_comesAll, cX8_comesAll, 6, none, 1, 21)
abbrev mX8_condition : Mt := (yX8_condition, cX8_condition, 3, none, 2, 47)
abbrev mX8_copy : Mt := (yX8_copy, cX8_copy, 7, some .int, 2, 42)
abbrev mX8_cost : Mt := (yX8_cost, cX8_cost, 6, some .int, 2, 43)
abbrev mX8_count : Mt := (yX8_count, cX8_count, 2, some .int, 1, 23)
abbrev mX8_digest : Mt := (yX8_digest, cX8_digest, 4, some .long, 8, 184)
abbrev mX8_fault : Mt := (yX8_fault, cX8_fault, 1, some .int, 4, 90)
abbrev mX8_faultNow : Mt := (yX8_faultNow, cX8_faultNow, 2, some .int, 3, 69)
abbrev mX8_gathers : Mt := (yX8_gathers, cX8_gathers, 2, some .boolean, 0, 0)
abbrev mX8_get : Mt := (yX8_get, cX8_get, 5, some .int, 2, 45)
abbrev mX8_goes : Mt := (yX8_goes, cX8_goes, 1, none, 4, 90)
abbrev mX8_grids : Mt := (yX8_grids, cX8_grids, 4, none, 5, 110)
abbrev mX8_guests : Mt := (yX8_guests, cX8_guests, 4, some .int, 7, 163)
abbrev mX8_in : Mt := (yX8_in, cX8_in, 3, some .boolean, 0, 0)
abbrev mX8_init : Mt := (yX8_init, cX8_init, 1, none, 1, 20)
abbrev mX8_isComer : Mt := (yX8_isComer, cX8_isComer, 2, some .boolean, 1, 22)
abbrev mX8_isPlain : Mt := (yX8_isPlain, cX8_isPlain, 2, some .boolean, 2, 43)
abbrev mX8_isRest : Mt := (yX8_isRest, cX8_isRest, 5, some .boolean, 0, 0)
abbrev mX8_isSameWeek : Mt := (yX8_isSameWeek, cX8_isSameWeek, 4, some .boolean, 0, 0)
abbrev mX8_isSheet : Mt := (yX8_isSheet, cX8_isSheet, 1, some .boolean, 1, 22)
abbrev mX8_keep : Mt := (yX8_keep, cX8_keep, 4, none, 0, 0)
abbrev mX8_keys : Mt := (yX8_keys, cX8_keys, 2, some .int, 6, 134)
abbrev mX8_keysNow : Mt := (yX8_keysNow, cX8_keysNow, 5, some .int, 5, 110)
abbrev mX8_lacks : Mt := (yX8_lacks, cX8_lacks, 4, some .int, 1, 22)
abbrev mX8_least : Mt := (yX8_least, cX8_least, 3, some .int, 7, 163)
abbrev mX8_looks : Mt := (yX8_looks, cX8_looks, 2, some .boolean, 0, 0)
abbrev mX8_lose : Mt := (yX8_lose, cX8_lose, 2, some .int, 2, 42)
abbrev mX8_lost : Mt := (yX8_lost, cX8_lost, 5, some .int, 6, 133)
abbrev mX8_lowest : Mt := (yX8_lowest, cX8_lowest, 11, some .long, 0, 0)
abbrev mX8_mean : Mt := (yX8_mean, cX8_mean, 3, some .long, 7, 161)
abbrev mX8_meanNow : Mt := (yX8_meanNow, cX8_meanNow, 7, some .long, 6, 135)
abbrev mX8_meets : Mt := (yX8_meets, cX8_meets, 2, some .int, 0, 0)
abbrev mX8_minuteOf : Mt := (yX8_minuteOf, cX8_minuteOf, 3, some .int, 0, 0)
abbrev mX8_moved : Mt := (yX8_moved, cX8_moved, 8, some .int, 7, 163)
abbrev mX8_number : Mt := (yX8_number, cX8_number, 6, some .int, 1, 22)
abbrev mX8_odds : Mt := (yX8_odds, cX8_odds, 3, some .long, 7, 162)
abbrev mX8_oddsNow : Mt := (yX8_oddsNow, cX8_oddsNow, 8, some .long, 6, 135)
abbrev mX8_ones : Mt := (yX8_ones, cX8_ones, 3, some .int, 0, 0)
abbrev mX8_pays : Mt := (yX8_pays, cX8_pays, 2, some .int, 5, 110)
abbrev mX8_paysAll : Mt := (yX8_paysAll, cX8_paysAll, 3, some .int, 1, 22)
abbrev mX8_paysNow : Mt := (yX8_paysNow, cX8_paysNow, 3, some .int, 0, 0)
abbrev mX8_put : Mt := (yX8_put, cX8_put, 6, some .int, 2, 45)
abbrev mX8_read : Mt := (yX8_read, cX8_read, 4, some .int, 2, 42)
abbrev mX8_restAt : Mt := (yX8_restAt, cX8_restAt, 3, some .int, 1, 24)
abbrev mX8_restless : Mt := (yX8_restless, cX8_restless, 1, some .int, 7, 162)
abbrev mX8_restlessNow : Mt := (yX8_restlessNow, cX8_restlessNow, 5, some .int, 6, 138)
abbrev mX8_rests : Mt := (yX8_rests, cX8_rests, 7, some .int, 6, 133)
abbrev mX8_roads : Mt := (yX8_roads, cX8_roads, 2, none, 0, 0)
abbrev mX8_round : Mt := (yX8_round, cX8_round, 4, some .int, 7, 161)
abbrev mX8_set : Mt := (yX8_set, cX8_set, 4, some .int, 1, 22)
abbrev mX8_sheet : Mt := (yX8_sheet, cX8_sheet, 5, some .int, 2, 42)
abbrev mX8_sumOf : Mt := (yX8_sumOf, cX8_sumOf, 4, some .int, 0, 0)
abbrev mX8_sure : Mt := (yX8_sure, cX8_sure, 9, some .int, 7, 161)
abbrev mX8_takes : Mt := (yX8_takes, cX8_takes, 6, some .long, 5, 110)
abbrev mX8_type : Mt := (yX8_type, cX8_type, 2, some .int, 1, 22)
abbrev mX8_week : Mt := (yX8_week, cX8_week, 2, some .int, 8, 182)
abbrev mX8_weekNow : Mt := (yX8_weekNow, cX8_weekNow, 2, some .int, 7, 161)
abbrev mX8_weeks : Mt := (yX8_weeks, cX8_weeks, 4, none, 6, 138)
abbrev mX8_wipe : Mt := (yX8_wipe, cX8_wipe, 2, some .int, 0, 0)
abbrev mX8_write : Mt := (yX8_write, cX8_write, 4, some .int, 7, 161)
-- fields
theorem fX0_15 : FL RX0 15 0 2 := ⟨_, rfl, by decide, wt (List.mem_of_getElem? (i := 89) (by decide +kernel)) rfl, rfl⟩
theorem fX0_23 : FL RX0 23 0 3 := ⟨_, rfl, by decide, wt (List.mem_of_getElem? (i := 92) (by decide +kernel)) rfl, rfl⟩
theorem fX0_9 : FL RX0 9 0 1 := ⟨_, rfl, by decide, wt (List.mem_of_getElem? (i := 86) (by decide +kernel)) rfl, rfl⟩
theorem fX1_107 : FL RX1 107 0 1 := ⟨_, rfl, by decide, wt (List.mem_of_getElem? (i := 88) (by decide +kernel)) rfl, rfl⟩
theorem fX1_110 : FL RX1 110 0 2 := ⟨_, rfl, by decide, wt (List.mem_of_getElem? (i := 91) (by decide +kernel)) rfl, rfl⟩
theorem fX1_13 : FL RX1 13 1 0 := ⟨_, rfl, by decide, wt (List.mem_of_getElem? (i := 163) (by decide +kernel)) rfl, rfl⟩
theorem fX1_18 : FL RX1 18 1 1 := ⟨_, rfl, by decide, wt (List.mem_of_getElem? (i := 165) (by decide +kernel)) rfl, rfl⟩
theorem fX1_21 : FL RX1 21 1 2 := ⟨_, rfl, by decide, wt (List.mem_of_getElem? (i := 168) (by decide +kernel)) rfl, rfl⟩
theorem fX1_24 : FL RX1 24 1 3 := ⟨_, rfl, by decide, wt (List.mem_of_getElem? (i := 171) (by decide +kernel)) rfl, rfl⟩
theorem fX1_27 : FL RX1 27 1 8 := ⟨_, rfl, by decide, wt (List.mem_of_getElem? (i := 180) (by decide +kernel)) rfl, rfl⟩
theorem fX1_30 : FL RX1 30 1 10 := ⟨_, rfl, by decide, wt (List.mem_of_getElem? (i := 182) (by decide +kernel)) rfl, rfl⟩
theorem fX1_33 : FL RX1 33 1 12 := ⟨_, rfl, by decide, wt (List.mem_of_getElem? (i := 184) (by decide +kernel)) rfl, rfl⟩
theorem fX1_36 : FL RX1 36 1 14 := ⟨_, rfl, by decide, wt (List.mem_of_getElem? (i := 186) (by decide +kernel)) rfl, rfl⟩
theorem fX1_39 : FL RX1 39 1 6 := ⟨_, rfl, by decide, wt (List.mem_of_getElem? (i := 178) (by decide +kernel)) rfl, rfl⟩
theorem fX1_43 : FL RX1 43 1 7 := ⟨_, rfl, by decide, wt (List.mem_of_getElem? (i := 179) (by decide +kernel)) rfl, rfl⟩
theorem fX1_53 : FL RX1 53 1 4 := ⟨_, rfl, by decide, wt (List.mem_of_getElem? (i := 174) (by decide +kernel)) rfl, rfl⟩
theorem fX1_57 : FL RX1 57 1 5 := ⟨_, rfl, by decide, wt (List.mem_of_getElem? (i := 176) (by decide +kernel)) rfl, rfl⟩
theorem fX1_76 : FL RX1 76 1 9 := ⟨_, rfl, by decide, wt (List.mem_of_getElem? (i := 181) (by decide +kernel)) rfl, rfl⟩
theorem fX1_79 : FL RX1 79 1 13 := ⟨_, rfl, by decide, wt (List.mem_of_getElem? (i := 185) (by decide +kernel)) rfl, rfl⟩
theorem fX1_89 : FL RX1 89 1 11 := ⟨_, rfl, by decide, wt (List.mem_of_getElem? (i := 183) (by decide +kernel)) rfl, rfl⟩
theorem fX1_92 : FL RX1 92 0 3 := ⟨_, rfl, by decide, wt (List.mem_of_getElem? (i := 95) (by decide +kernel)) rfl, rfl⟩
theorem fX2_15 : FL RX2 15 2 3 := ⟨_, rfl, by decide, wt (List.mem_of_getElem? (i := 227) (by decide +kernel)) rfl, rfl⟩
theorem fX2_18 : FL RX2 18 2 0 := ⟨_, rfl, by decide, wt (List.mem_of_getElem? (i := 224) (by decide +kernel)) rfl, rfl⟩
theorem fX2_22 : FL RX2 22 2 2 := ⟨_, rfl, by decide, wt (List.mem_of_getElem? (i := 226) (by decide +kernel)) rfl, rfl⟩
theorem fX2_26 : FL RX2 26 1 1 := ⟨_, rfl, by decide, wt (List.mem_of_getElem? (i := 167) (by decide +kernel)) rfl, rfl⟩
theorem fX2_31 : FL RX2 31 1 2 := ⟨_, rfl, by decide, wt (List.mem_of_getElem? (i := 170) (by decide +kernel)) rfl, rfl⟩
theorem fX2_9 : FL RX2 9 2 1 := ⟨_, rfl, by decide, wt (List.mem_of_getElem? (i := 225) (by decide +kernel)) rfl, rfl⟩
theorem fX3_15 : FL RX3 15 3 1 := ⟨_, rfl, by decide, wt (List.mem_of_getElem? (i := 270) (by decide +kernel)) rfl, rfl⟩
theorem fX3_19 : FL RX3 19 0 3 := ⟨_, rfl, by decide, wt (List.mem_of_getElem? (i := 93) (by decide +kernel)) rfl, rfl⟩
theorem fX3_29 : FL RX3 29 1 4 := ⟨_, rfl, by decide, wt (List.mem_of_getElem? (i := 175) (by decide +kernel)) rfl, rfl⟩
theorem fX3_39 : FL RX3 39 1 3 := ⟨_, rfl, by decide, wt (List.mem_of_getElem? (i := 172) (by decide +kernel)) rfl, rfl⟩
theorem fX3_9 : FL RX3 9 3 0 := ⟨_, rfl, by decide, wt (List.mem_of_getElem? (i := 269) (by decide +kernel)) rfl, rfl⟩
theorem fX4_15 : FL RX4 15 4 5 := ⟨_, rfl, by decide, wt (List.mem_of_getElem? (i := 119) (by decide +kernel)) rfl, rfl⟩
theorem fX4_18 : FL RX4 18 4 6 := ⟨_, rfl, by decide, wt (List.mem_of_getElem? (i := 120) (by decide +kernel)) rfl, rfl⟩
theorem fX4_22 : FL RX4 22 4 7 := ⟨_, rfl, by decide, wt (List.mem_of_getElem? (i := 121) (by decide +kernel)) rfl, rfl⟩
theorem fX4_25 : FL RX4 25 4 8 := ⟨_, rfl, by decide, wt (List.mem_of_getElem? (i := 122) (by decide +kernel)) rfl, rfl⟩
theorem fX4_28 : FL RX4 28 4 0 := ⟨_, rfl, by decide, wt (List.mem_of_getElem? (i := 112) (by decide +kernel)) rfl, rfl⟩
theorem fX4_35 : FL RX4 35 4 3 := ⟨_, rfl, by decide, wt (List.mem_of_getElem? (i := 117) (by decide +kernel)) rfl, rfl⟩
theorem fX4_38 : FL RX4 38 4 1 := ⟨_, rfl, by decide, wt (List.mem_of_getElem? (i := 114) (by decide +kernel)) rfl, rfl⟩
theorem fX4_41 : FL RX4 41 4 4 := ⟨_, rfl, by decide, wt (List.mem_of_getElem? (i := 118) (by decide +kernel)) rfl, rfl⟩
theorem fX4_58 : FL RX4 58 4 10 := ⟨_, rfl, by decide, wt (List.mem_of_getElem? (i := 124) (by decide +kernel)) rfl, rfl⟩
theorem fX4_62 : FL RX4 62 4 9 := ⟨_, rfl, by decide, wt (List.mem_of_getElem? (i := 123) (by decide +kernel)) rfl, rfl⟩
theorem fX4_75 : FL RX4 75 4 11 := ⟨_, rfl, by decide, wt (List.mem_of_getElem? (i := 125) (by decide +kernel)) rfl, rfl⟩
theorem fX4_78 : FL RX4 78 4 12 := ⟨_, rfl, by decide, wt (List.mem_of_getElem? (i := 126) (by decide +kernel)) rfl, rfl⟩
theorem fX4_9 : FL RX4 9 4 2 := ⟨_, rfl, by decide, wt (List.mem_of_getElem? (i := 116) (by decide +kernel)) rfl, rfl⟩
theorem fX5_11 : FL RX5 11 5 0 := ⟨_, rfl, by decide, wt (List.mem_of_getElem? (i := 283) (by decide +kernel)) rfl, rfl⟩
theorem fX5_16 : FL RX5 16 5 1 := ⟨_, rfl, by decide, wt (List.mem_of_getElem? (i := 285) (by decide +kernel)) rfl, rfl⟩
theorem fX5_20 : FL RX5 20 5 2 := ⟨_, rfl, by decide, wt (List.mem_of_getElem? (i := 287) (by decide +kernel)) rfl, rfl⟩
theorem fX5_23 : FL RX5 23 5 3 := ⟨_, rfl, by decide, wt (List.mem_of_getElem? (i := 289) (by decide +kernel)) rfl, rfl⟩
theorem fX6_15 : FL RX6 15 6 4 := ⟨_, rfl, by decide, wt (List.mem_of_getElem? (i := 250) (by decide +kernel)) rfl, rfl⟩
theorem fX6_19 : FL RX6 19 6 3 := ⟨_, rfl, by decide, wt (List.mem_of_getElem? (i := 249) (by decide +kernel)) rfl, rfl⟩
theorem fX6_23 : FL RX6 23 6 1 := ⟨_, rfl, by decide, wt (List.mem_of_getElem? (i := 245) (by decide +kernel)) rfl, rfl⟩
theorem fX6_27 : FL RX6 27 6 2 := ⟨_, rfl, by decide, wt (List.mem_of_getElem? (i := 247) (by decide +kernel)) rfl, rfl⟩
theorem fX6_9 : FL RX6 9 6 0 := ⟨_, rfl, by decide, wt (List.mem_of_getElem? (i := 243) (by decide +kernel)) rfl, rfl⟩
theorem fX7_107 : FL RX7 107 5 2 := ⟨_, rfl, by decide, wt (List.mem_of_getElem? (i := 288) (by decide +kernel)) rfl, rfl⟩
theorem fX7_110 : FL RX7 110 5 0 := ⟨_, rfl, by decide, wt (List.mem_of_getElem? (i := 284) (by decide +kernel)) rfl, rfl⟩
theorem fX7_117 : Cond.fieldLink RX7 117 "HallMinutes" "COST_LEAST" "[I" ∈ wtb := wt (List.mem_of_getElem? (i := 366) (by decide +kernel)) rfl
theorem fX7_120 : Cond.fieldLink RX7 120 "HallMinutes" "COST_MOST" "[I" ∈ wtb := wt (List.mem_of_getElem? (i := 368) (by decide +kernel)) rfl
theorem fX7_123 : FL RX7 123 0 3 := ⟨_, rfl, by decide, wt (List.mem_of_getElem? (i := 94) (by decide +kernel)) rfl, rfl⟩
theorem fX7_126 : Cond.fieldLink RX7 126 "HallMinutes" "TERM_MOST" "[I" ∈ wtb := wt (List.mem_of_getElem? (i := 374) (by decide +kernel)) rfl
theorem fX7_129 : FL RX7 129 1 0 := ⟨_, rfl, by decide, wt (List.mem_of_getElem? (i := 164) (by decide +kernel)) rfl, rfl⟩
theorem fX7_135 : FL RX7 135 4 0 := ⟨_, rfl, by decide, wt (List.mem_of_getElem? (i := 113) (by decide +kernel)) rfl, rfl⟩
theorem fX7_14 : FL RX7 14 7 0 := ⟨_, rfl, by decide, wt (List.mem_of_getElem? (i := 300) (by decide +kernel)) rfl, rfl⟩
theorem fX7_141 : FL RX7 141 4 1 := ⟨_, rfl, by decide, wt (List.mem_of_getElem? (i := 115) (by decide +kernel)) rfl, rfl⟩
theorem fX7_148 : FL RX7 148 1 3 := ⟨_, rfl, by decide, wt (List.mem_of_getElem? (i := 173) (by decide +kernel)) rfl, rfl⟩
theorem fX7_196 : FL RX7 196 6 0 := ⟨_, rfl, by decide, wt (List.mem_of_getElem? (i := 244) (by decide +kernel)) rfl, rfl⟩
theorem fX7_199 : FL RX7 199 6 1 := ⟨_, rfl, by decide, wt (List.mem_of_getElem? (i := 246) (by decide +kernel)) rfl, rfl⟩
theorem fX7_202 : FL RX7 202 6 2 := ⟨_, rfl, by decide, wt (List.mem_of_getElem? (i := 248) (by decide +kernel)) rfl, rfl⟩
theorem fX7_21 : FL RX7 21 7 1 := ⟨_, rfl, by decide, wt (List.mem_of_getElem? (i := 301) (by decide +kernel)) rfl, rfl⟩
theorem fX7_254 : FL RX7 254 5 1 := ⟨_, rfl, by decide, wt (List.mem_of_getElem? (i := 286) (by decide +kernel)) rfl, rfl⟩
theorem fX7_275 : FL RX7 275 5 3 := ⟨_, rfl, by decide, wt (List.mem_of_getElem? (i := 290) (by decide +kernel)) rfl, rfl⟩
theorem fX7_30 : FL RX7 30 7 2 := ⟨_, rfl, by decide, wt (List.mem_of_getElem? (i := 302) (by decide +kernel)) rfl, rfl⟩
theorem fX7_314 : FL RX7 314 1 5 := ⟨_, rfl, by decide, wt (List.mem_of_getElem? (i := 177) (by decide +kernel)) rfl, rfl⟩
theorem fX7_34 : FL RX7 34 7 3 := ⟨_, rfl, by decide, wt (List.mem_of_getElem? (i := 303) (by decide +kernel)) rfl, rfl⟩
theorem fX7_42 : FL RX7 42 7 4 := ⟨_, rfl, by decide, wt (List.mem_of_getElem? (i := 304) (by decide +kernel)) rfl, rfl⟩
theorem fX7_49 : FL RX7 49 7 5 := ⟨_, rfl, by decide, wt (List.mem_of_getElem? (i := 305) (by decide +kernel)) rfl, rfl⟩
theorem fX7_58 : FL RX7 58 7 6 := ⟨_, rfl, by decide, wt (List.mem_of_getElem? (i := 306) (by decide +kernel)) rfl, rfl⟩
theorem fX7_65 : FL RX7 65 7 7 := ⟨_, rfl, by decide, wt (List.mem_of_getElem? (i := 307) (by decide +kernel)) rfl, rfl⟩
theorem fX7_73 : FL RX7 73 0 0 := ⟨_, rfl, by decide, wt (List.mem_of_getElem? (i := 85) (by decide +kernel)) rfl, rfl⟩
theorem fX7_77 : FL RX7 77 0 1 := ⟨_, rfl, by decide, wt (List.mem_of_getElem? (i := 87) (by decide +kernel)) rfl, rfl⟩
theorem fX7_81 : FL RX7 81 0 2 := ⟨_, rfl, by decide, wt (List.mem_of_getElem? (i := 90) (by decide +kernel)) rfl, rfl⟩
theorem fX7_84 : FL RX7 84 1 1 := ⟨_, rfl, by decide, wt (List.mem_of_getElem? (i := 166) (by decide +kernel)) rfl, rfl⟩
theorem fX7_87 : FL RX7 87 1 2 := ⟨_, rfl, by decide, wt (List.mem_of_getElem? (i := 169) (by decide +kernel)) rfl, rfl⟩
theorem fX8_117 : FL RX8 117 8 9 := ⟨_, rfl, by decide, wt (List.mem_of_getElem? (i := 751) (by decide +kernel)) rfl, rfl⟩
theorem fX8_120 : FL RX8 120 8 10 := ⟨_, rfl, by decide, wt (List.mem_of_getElem? (i := 752) (by decide +kernel)) rfl, rfl⟩
theorem fX8_123 : FL RX8 123 8 11 := ⟨_, rfl, by decide, wt (List.mem_of_getElem? (i := 753) (by decide +kernel)) rfl, rfl⟩
theorem fX8_126 : FL RX8 126 8 12 := ⟨_, rfl, by decide, wt (List.mem_of_getElem? (i := 754) (by decide +kernel)) rfl, rfl⟩
theorem fX8_129 : FL RX8 129 8 14 := ⟨_, rfl, by decide, wt (List.mem_of_getElem? (i := 756) (by decide +kernel)) rfl, rfl⟩
theorem fX8_13 : FL RX8 13 8 2 := ⟨_, rfl, by decide, wt (List.mem_of_getElem? (i := 744) (by decide +kernel)) rfl, rfl⟩
theorem fX8_133 : FL RX8 133 8 15 := ⟨_, rfl, by decide, wt (List.mem_of_getElem? (i := 757) (by decide +kernel)) rfl, rfl⟩
theorem fX8_140 : FL RX8 140 8 16 := ⟨_, rfl, by decide, wt (List.mem_of_getElem? (i := 758) (by decide +kernel)) rfl, rfl⟩
theorem fX8_143 : FL RX8 143 8 17 := ⟨_, rfl, by decide, wt (List.mem_of_getElem? (i := 759) (by decide +kernel)) rfl, rfl⟩
theorem fX8_157 : FL RX8 157 8 22 := ⟨_, rfl, by decide, wt (List.mem_of_getElem? (i := 764) (by decide +kernel)) rfl, rfl⟩
theorem fX8_16 : FL RX8 16 8 3 := ⟨_, rfl, by decide, wt (List.mem_of_getElem? (i := 745) (by decide +kernel)) rfl, rfl⟩
theorem fX8_160 : FL RX8 160 8 23 := ⟨_, rfl, by decide, wt (List.mem_of_getElem? (i := 765) (by decide +kernel)) rfl, rfl⟩
theorem fX8_163 : FL RX8 163 8 24 := ⟨_, rfl, by decide, wt (List.mem_of_getElem? (i := 766) (by decide +kernel)) rfl, rfl⟩
theorem fX8_166 : FL RX8 166 8 25 := ⟨_, rfl, by decide, wt (List.mem_of_getElem? (i := 767) (by decide +kernel)) rfl, rfl⟩
theorem fX8_169 : FL RX8 169 8 26 := ⟨_, rfl, by decide, wt (List.mem_of_getElem? (i := 768) (by decide +kernel)) rfl, rfl⟩
theorem fX8_172 : FL RX8 172 8 27 := ⟨_, rfl, by decide, wt (List.mem_of_getElem? (i := 769) (by decide +kernel)) rfl, rfl⟩
theorem fX8_178 : FL RX8 178 8 30 := ⟨_, rfl, by decide, wt (List.mem_of_getElem? (i := 772) (by decide +kernel)) rfl, rfl⟩
theorem fX8_19 : FL RX8 19 8 4 := ⟨_, rfl, by decide, wt (List.mem_of_getElem? (i := 746) (by decide +kernel)) rfl, rfl⟩
theorem fX8_214 : FL RX8 214 8 31 := ⟨_, rfl, by decide, wt (List.mem_of_getElem? (i := 773) (by decide +kernel)) rfl, rfl⟩
theorem fX8_217 : FL RX8 217 8 35 := ⟨_, rfl, by decide, wt (List.mem_of_getElem? (i := 777) (by decide +kernel)) rfl, rfl⟩
theorem fX8_22 : FL RX8 22 8 5 := ⟨_, rfl, by decide, wt (List.mem_of_getElem? (i := 747) (by decide +kernel)) rfl, rfl⟩
theorem fX8_220 : FL RX8 220 8 36 := ⟨_, rfl, by decide, wt (List.mem_of_getElem? (i := 778) (by decide +kernel)) rfl, rfl⟩
theorem fX8_226 : FL RX8 226 8 38 := ⟨_, rfl, by decide, wt (List.mem_of_getElem? (i := 780) (by decide +kernel)) rfl, rfl⟩
theorem fX8_25 : FL RX8 25 8 6 := ⟨_, rfl, by decide, wt (List.mem_of_getElem? (i := 748) (by decide +kernel)) rfl, rfl⟩
theorem fX8_262 : FL RX8 262 8 42 := ⟨_, rfl, by decide, wt (List.mem_of_getElem? (i := 784) (by decide +kernel)) rfl, rfl⟩
theorem fX8_28 : FL RX8 28 8 7 := ⟨_, rfl, by decide, wt (List.mem_of_getElem? (i := 749) (by decide +kernel)) rfl, rfl⟩
theorem fX8_285 : FL RX8 285 8 49 := ⟨_, rfl, by decide, wt (List.mem_of_getElem? (i := 791) (by decide +kernel)) rfl, rfl⟩
theorem fX8_31 : FL RX8 31 8 8 := ⟨_, rfl, by decide, wt (List.mem_of_getElem? (i := 750) (by decide +kernel)) rfl, rfl⟩
theorem fX8_34 : FL RX8 34 8 13 := ⟨_, rfl, by decide, wt (List.mem_of_getElem? (i := 755) (by decide +kernel)) rfl, rfl⟩
theorem fX8_37 : FL RX8 37 8 18 := ⟨_, rfl, by decide, wt (List.mem_of_getElem? (i := 760) (by decide +kernel)) rfl, rfl⟩
theorem fX8_40 : FL RX8 40 8 19 := ⟨_, rfl, by decide, wt (List.mem_of_getElem? (i := 761) (by decide +kernel)) rfl, rfl⟩
theorem fX8_43 : FL RX8 43 8 20 := ⟨_, rfl, by decide, wt (List.mem_of_getElem? (i := 762) (by decide +kernel)) rfl, rfl⟩
theorem fX8_47 : FL RX8 47 8 21 := ⟨_, rfl, by decide, wt (List.mem_of_getElem? (i := 763) (by decide +kernel)) rfl, rfl⟩
theorem fX8_50 : FL RX8 50 8 28 := ⟨_, rfl, by decide, wt (List.mem_of_getElem? (i := 770) (by decide +kernel)) rfl, rfl⟩
theorem fX8_53 : FL RX8 53 8 29 := ⟨_, rfl, by decide, wt (List.mem_of_getElem? (i := 771) (by decide +kernel)) rfl, rfl⟩
theorem fX8_56 : FL RX8 56 8 32 := ⟨_, rfl, by decide, wt (List.mem_of_getElem? (i := 774) (by decide +kernel)) rfl, rfl⟩
theorem fX8_59 : FL RX8 59 8 33 := ⟨_, rfl, by decide, wt (List.mem_of_getElem? (i := 775) (by decide +kernel)) rfl, rfl⟩
theorem fX8_62 : FL RX8 62 8 34 := ⟨_, rfl, by decide, wt (List.mem_of_getElem? (i := 776) (by decide +kernel)) rfl, rfl⟩
theorem fX8_65 : FL RX8 65 8 37 := ⟨_, rfl, by decide, wt (List.mem_of_getElem? (i := 779) (by decide +kernel)) rfl, rfl⟩
theorem fX8_68 : FL RX8 68 8 39 := ⟨_, rfl, by decide, wt (List.mem_of_getElem? (i := 781) (by decide +kernel)) rfl, rfl⟩
theorem fX8_7 : FL RX8 7 8 1 := ⟨_, rfl, by decide, wt (List.mem_of_getElem? (i := 743) (by decide +kernel)) rfl, rfl⟩
theorem fX8_71 : FL RX8 71 8 40 := ⟨_, rfl, by decide, wt (List.mem_of_getElem? (i := 782) (by decide +kernel)) rfl, rfl⟩
theorem fX8_74 : FL RX8 74 8 41 := ⟨_, rfl, by decide, wt (List.mem_of_getElem? (i := 783) (by decide +kernel)) rfl, rfl⟩
theorem fX8_77 : FL RX8 77 8 43 := ⟨_, rfl, by decide, wt (List.mem_of_getElem? (i := 785) (by decide +kernel)) rfl, rfl⟩
theorem fX8_80 : FL RX8 80 8 44 := ⟨_, rfl, by decide, wt (List.mem_of_getElem? (i := 786) (by decide +kernel)) rfl, rfl⟩
theorem fX8_83 : FL RX8 83 8 45 := ⟨_, rfl, by decide, wt (List.mem_of_getElem? (i := 787) (by decide +kernel)) rfl, rfl⟩
theorem fX8_86 : FL RX8 86 8 46 := ⟨_, rfl, by decide, wt (List.mem_of_getElem? (i := 788) (by decide +kernel)) rfl, rfl⟩
theorem fX8_89 : FL RX8 89 8 47 := ⟨_, rfl, by decide, wt (List.mem_of_getElem? (i := 789) (by decide +kernel)) rfl, rfl⟩
theorem fX8_92 : FL RX8 92 8 48 := ⟨_, rfl, by decide, wt (List.mem_of_getElem? (i := 790) (by decide +kernel)) rfl, rfl⟩
theorem fX8_99 : FL RX8 99 8 0 := ⟨_, rfl, by decide, wt (List.mem_of_getElem? (i := 742) (by decide +kernel)) rfl, rfl⟩
theorem kX1_115 : Cond.constant RX1 115 (Int32.ofInt (2147483647)) ∈ wtb := wt (List.mem_of_getElem? (i := 487) (by decide +kernel)) rfl
theorem kX2_47 : Cond.constant RX2 47 (Int32.ofInt (2147483647)) ∈ wtb := wt (List.mem_of_getElem? (i := 558) (by decide +kernel)) rfl
theorem kX7_253 : Cond.constant RX7 253 (Int32.ofInt (-2147483648)) ∈ wtb := wt (List.mem_of_getElem? (i := 693) (by decide +kernel)) rfl
theorem kX8_295 : Cond.constant RX8 295 (Int32.ofInt (-2147483648)) ∈ wtb := wt (List.mem_of_getElem? (i := 1156) (by decide +kernel)) rfl
theorem kJ6_265 : Cond.constant RJ6 265 (Int32.ofInt (1431655765)) ∈ wtb := wt (List.mem_of_getElem? (i := 527) (by decide +kernel)) rfl
theorem kJ6_266 : Cond.constant RJ6 266 (Int32.ofInt (858993459)) ∈ wtb := wt (List.mem_of_getElem? (i := 528) (by decide +kernel)) rfl
theorem kJ6_267 : Cond.constant RJ6 267 (Int32.ofInt (252645135)) ∈ wtb := wt (List.mem_of_getElem? (i := 529) (by decide +kernel)) rfl
theorem kX3_47 : Cond.constantLong RX3 47 (Int64.ofInt (4294967296)) ∈ wtb := wt (List.mem_of_getElem? (i := 641) (by decide +kernel)) rfl
theorem kX3_49 : Cond.constantLong RX3 49 (Int64.ofInt (2)) ∈ wtb := wt (List.mem_of_getElem? (i := 642) (by decide +kernel)) rfl
theorem kX7_223 : Cond.constantLong RX7 223 (Int64.ofInt (-9223372036854775806)) ∈ wtb := wt (List.mem_of_getElem? (i := 627) (by decide +kernel)) rfl
theorem kX7_236 : Cond.constantLong RX7 236 (Int64.ofInt (9223372036854775807)) ∈ wtb := wt (List.mem_of_getElem? (i := 656) (by decide +kernel)) rfl
theorem kX7_278 : Cond.constantLong RX7 278 (Int64.ofInt (17)) ∈ wtb := wt (List.mem_of_getElem? (i := 724) (by decide +kernel)) rfl
theorem kX7_280 : Cond.constantLong RX7 280 (Int64.ofInt (31)) ∈ wtb := wt (List.mem_of_getElem? (i := 725) (by decide +kernel)) rfl
theorem kX8_280 : Cond.constantLong RX8 280 (Int64.ofInt (-9223372036854775806)) ∈ wtb := wt (List.mem_of_getElem? (i := 1119) (by decide +kernel)) rfl
theorem kX8_299 : Cond.constantLong RX8 299 (Int64.ofInt (17)) ∈ wtb := wt (List.mem_of_getElem? (i := 1177) (by decide +kernel)) rfl
theorem kX8_301 : Cond.constantLong RX8 301 (Int64.ofInt (31)) ∈ wtb := wt (List.mem_of_getElem? (i := 1178) (by decide +kernel)) rfl
theorem lX1_cp47 : Cond.methodLink RX1 47 arraycopyName ∈ wtb ∧ Cond.native arraycopyName ∈ wtb ∧ Cond.static arraycopyName ∈ wtb ∧ Cond.initialized "java/lang/System" ∈ wtb := ⟨wt (List.mem_of_getElem? (i := 446) (by decide +kernel)) rfl, wt (List.mem_of_getElem? (i := 448) (by decide +kernel)) rfl, wt (List.mem_of_getElem? (i := 447) (by decide +kernel)) rfl, wt (List.mem_of_getElem? (i := 65) (by decide +kernel)) rfl⟩
theorem lX1_bestOf_60 : MLV RX1 60 mX1_bestOf mX1_gather 1 := ⟨⟨wt (List.mem_of_getElem? (i := 434) (by decide +kernel)) rfl, wt (List.mem_of_getElem? (i := 58) (by decide +kernel)) rfl, wt (List.mem_of_getElem? (i := 437) (by decide +kernel)) rfl, by decide +kernel, by decide, by decide⟩, by decide +kernel, wt (List.mem_of_getElem? (i := 436) (by decide +kernel)) rfl, wt (List.mem_of_getElem? (i := 9) (by decide +kernel)) rfl⟩
theorem lX1_bestOf_64 : MLV RX1 64 mX1_bestOf mX1_settle 2 := ⟨⟨wt (List.mem_of_getElem? (i := 449) (by decide +kernel)) rfl, wt (List.mem_of_getElem? (i := 58) (by decide +kernel)) rfl, wt (List.mem_of_getElem? (i := 452) (by decide +kernel)) rfl, by decide +kernel, by decide, by decide⟩, by decide +kernel, wt (List.mem_of_getElem? (i := 451) (by decide +kernel)) rfl, wt (List.mem_of_getElem? (i := 12) (by decide +kernel)) rfl⟩
theorem lX1_bestOf_72 : MLV RX1 72 mX1_bestOf mX1_price 3 := ⟨⟨wt (List.mem_of_getElem? (i := 474) (by decide +kernel)) rfl, wt (List.mem_of_getElem? (i := 58) (by decide +kernel)) rfl, wt (List.mem_of_getElem? (i := 477) (by decide +kernel)) rfl, by decide +kernel, by decide, by decide⟩, by decide +kernel, wt (List.mem_of_getElem? (i := 475) (by decide +kernel)) rfl, wt (List.mem_of_getElem? (i := 476) (by decide +kernel)) rfl⟩
theorem lX1_callLookers_86 : MLV RX1 86 mX1_callLookers mX1_enter 1 := ⟨⟨wt (List.mem_of_getElem? (i := 442) (by decide +kernel)) rfl, wt (List.mem_of_getElem? (i := 58) (by decide +kernel)) rfl, wt (List.mem_of_getElem? (i := 445) (by decide +kernel)) rfl, by decide +kernel, by decide, by decide⟩, by decide +kernel, wt (List.mem_of_getElem? (i := 444) (by decide +kernel)) rfl, wt (List.mem_of_getElem? (i := 11) (by decide +kernel)) rfl⟩
theorem lX1_climbs_116 : MLV RX1 116 mX1_climbs mX1_bestOf 2 := ⟨⟨wt (List.mem_of_getElem? (i := 496) (by decide +kernel)) rfl, wt (List.mem_of_getElem? (i := 58) (by decide +kernel)) rfl, wt (List.mem_of_getElem? (i := 486) (by decide +kernel)) rfl, by decide +kernel, by decide, by decide⟩, by decide +kernel, wt (List.mem_of_getElem? (i := 484) (by decide +kernel)) rfl, wt (List.mem_of_getElem? (i := 485) (by decide +kernel)) rfl⟩
theorem lX1_firstRestless_116 : MLV RX1 116 mX1_firstRestless mX1_bestOf 2 := ⟨⟨wt (List.mem_of_getElem? (i := 496) (by decide +kernel)) rfl, wt (List.mem_of_getElem? (i := 58) (by decide +kernel)) rfl, wt (List.mem_of_getElem? (i := 486) (by decide +kernel)) rfl, by decide +kernel, by decide, by decide⟩, by decide +kernel, wt (List.mem_of_getElem? (i := 484) (by decide +kernel)) rfl, wt (List.mem_of_getElem? (i := 485) (by decide +kernel)) rfl⟩
theorem lX1_firstRestless_120 : MLV RX1 120 mX1_firstRestless mX1_openPrice 2 := ⟨⟨wt (List.mem_of_getElem? (i := 497) (by decide +kernel)) rfl, wt (List.mem_of_getElem? (i := 58) (by decide +kernel)) rfl, wt (List.mem_of_getElem? (i := 500) (by decide +kernel)) rfl, by decide +kernel, by decide, by decide⟩, by decide +kernel, wt (List.mem_of_getElem? (i := 499) (by decide +kernel)) rfl, wt (List.mem_of_getElem? (i := 14) (by decide +kernel)) rfl⟩
theorem lX1_gather_82 : MLV RX1 82 mX1_gather mX1_firmMinute 1 := ⟨⟨wt (List.mem_of_getElem? (i := 438) (by decide +kernel)) rfl, wt (List.mem_of_getElem? (i := 58) (by decide +kernel)) rfl, wt (List.mem_of_getElem? (i := 441) (by decide +kernel)) rfl, by decide +kernel, by decide, by decide⟩, by decide +kernel, wt (List.mem_of_getElem? (i := 440) (by decide +kernel)) rfl, wt (List.mem_of_getElem? (i := 10) (by decide +kernel)) rfl⟩
theorem lX1_gather_86 : MLV RX1 86 mX1_gather mX1_enter 1 := ⟨⟨wt (List.mem_of_getElem? (i := 442) (by decide +kernel)) rfl, wt (List.mem_of_getElem? (i := 58) (by decide +kernel)) rfl, wt (List.mem_of_getElem? (i := 445) (by decide +kernel)) rfl, by decide +kernel, by decide, by decide⟩, by decide +kernel, wt (List.mem_of_getElem? (i := 444) (by decide +kernel)) rfl, wt (List.mem_of_getElem? (i := 11) (by decide +kernel)) rfl⟩
theorem lX1_goesToNextWeek_116 : MLV RX1 116 mX1_goesToNextWeek mX1_bestOf 2 := ⟨⟨wt (List.mem_of_getElem? (i := 496) (by decide +kernel)) rfl, wt (List.mem_of_getElem? (i := 58) (by decide +kernel)) rfl, wt (List.mem_of_getElem? (i := 486) (by decide +kernel)) rfl, by decide +kernel, by decide, by decide⟩, by decide +kernel, wt (List.mem_of_getElem? (i := 484) (by decide +kernel)) rfl, wt (List.mem_of_getElem? (i := 485) (by decide +kernel)) rfl⟩
theorem lX1_openPrice_64 : MLV RX1 64 mX1_openPrice mX1_settle 2 := ⟨⟨wt (List.mem_of_getElem? (i := 449) (by decide +kernel)) rfl, wt (List.mem_of_getElem? (i := 58) (by decide +kernel)) rfl, wt (List.mem_of_getElem? (i := 452) (by decide +kernel)) rfl, by decide +kernel, by decide, by decide⟩, by decide +kernel, wt (List.mem_of_getElem? (i := 451) (by decide +kernel)) rfl, wt (List.mem_of_getElem? (i := 12) (by decide +kernel)) rfl⟩
theorem lX1_openPrice_72 : MLV RX1 72 mX1_openPrice mX1_price 3 := ⟨⟨wt (List.mem_of_getElem? (i := 474) (by decide +kernel)) rfl, wt (List.mem_of_getElem? (i := 58) (by decide +kernel)) rfl, wt (List.mem_of_getElem? (i := 477) (by decide +kernel)) rfl, by decide +kernel, by decide, by decide⟩, by decide +kernel, wt (List.mem_of_getElem? (i := 475) (by decide +kernel)) rfl, wt (List.mem_of_getElem? (i := 476) (by decide +kernel)) rfl⟩
theorem lX1_reckon_60 : MLV RX1 60 mX1_reckon mX1_gather 1 := ⟨⟨wt (List.mem_of_getElem? (i := 434) (by decide +kernel)) rfl, wt (List.mem_of_getElem? (i := 58) (by decide +kernel)) rfl, wt (List.mem_of_getElem? (i := 437) (by decide +kernel)) rfl, by decide +kernel, by decide, by decide⟩, by decide +kernel, wt (List.mem_of_getElem? (i := 436) (by decide +kernel)) rfl, wt (List.mem_of_getElem? (i := 9) (by decide +kernel)) rfl⟩
theorem lX1_reckon_64 : MLV RX1 64 mX1_reckon mX1_settle 2 := ⟨⟨wt (List.mem_of_getElem? (i := 449) (by decide +kernel)) rfl, wt (List.mem_of_getElem? (i := 58) (by decide +kernel)) rfl, wt (List.mem_of_getElem? (i := 452) (by decide +kernel)) rfl, by decide +kernel, by decide, by decide⟩, by decide +kernel, wt (List.mem_of_getElem? (i := 451) (by decide +kernel)) rfl, wt (List.mem_of_getElem? (i := 12) (by decide +kernel)) rfl⟩
theorem lX1_restsAmong_60 : MLV RX1 60 mX1_restsAmong mX1_gather 1 := ⟨⟨wt (List.mem_of_getElem? (i := 434) (by decide +kernel)) rfl, wt (List.mem_of_getElem? (i := 58) (by decide +kernel)) rfl, wt (List.mem_of_getElem? (i := 437) (by decide +kernel)) rfl, by decide +kernel, by decide, by decide⟩, by decide +kernel, wt (List.mem_of_getElem? (i := 436) (by decide +kernel)) rfl, wt (List.mem_of_getElem? (i := 9) (by decide +kernel)) rfl⟩
theorem lX1_restsAmong_120 : MLV RX1 120 mX1_restsAmong mX1_openPrice 2 := ⟨⟨wt (List.mem_of_getElem? (i := 497) (by decide +kernel)) rfl, wt (List.mem_of_getElem? (i := 58) (by decide +kernel)) rfl, wt (List.mem_of_getElem? (i := 500) (by decide +kernel)) rfl, by decide +kernel, by decide, by decide⟩, by decide +kernel, wt (List.mem_of_getElem? (i := 499) (by decide +kernel)) rfl, wt (List.mem_of_getElem? (i := 14) (by decide +kernel)) rfl⟩
theorem lX1_settle_86 : MLV RX1 86 mX1_settle mX1_enter 1 := ⟨⟨wt (List.mem_of_getElem? (i := 442) (by decide +kernel)) rfl, wt (List.mem_of_getElem? (i := 58) (by decide +kernel)) rfl, wt (List.mem_of_getElem? (i := 445) (by decide +kernel)) rfl, by decide +kernel, by decide, by decide⟩, by decide +kernel, wt (List.mem_of_getElem? (i := 444) (by decide +kernel)) rfl, wt (List.mem_of_getElem? (i := 11) (by decide +kernel)) rfl⟩
theorem lX1_settle_98 : MLV RX1 98 mX1_settle mX1_callLookers 0 := ⟨⟨wt (List.mem_of_getElem? (i := 453) (by decide +kernel)) rfl, wt (List.mem_of_getElem? (i := 58) (by decide +kernel)) rfl, wt (List.mem_of_getElem? (i := 456) (by decide +kernel)) rfl, by decide +kernel, by decide, by decide⟩, by decide +kernel, wt (List.mem_of_getElem? (i := 455) (by decide +kernel)) rfl, wt (List.mem_of_getElem? (i := 13) (by decide +kernel)) rfl⟩
theorem lX1_settle_101 : MLV RX1 101 mX1_settle mX4_beginning 4 := ⟨⟨wt (List.mem_of_getElem? (i := 457) (by decide +kernel)) rfl, wt (List.mem_of_getElem? (i := 57) (by decide +kernel)) rfl, wt (List.mem_of_getElem? (i := 460) (by decide +kernel)) rfl, by decide +kernel, by decide, by decide⟩, by decide +kernel, wt (List.mem_of_getElem? (i := 458) (by decide +kernel)) rfl, wt (List.mem_of_getElem? (i := 459) (by decide +kernel)) rfl⟩
theorem lX1_together_68 : MLV RX1 68 mX1_together mX1_reckon 0 := ⟨⟨wt (List.mem_of_getElem? (i := 473) (by decide +kernel)) rfl, wt (List.mem_of_getElem? (i := 58) (by decide +kernel)) rfl, wt (List.mem_of_getElem? (i := 433) (by decide +kernel)) rfl, by decide +kernel, by decide, by decide⟩, by decide +kernel, wt (List.mem_of_getElem? (i := 431) (by decide +kernel)) rfl, wt (List.mem_of_getElem? (i := 432) (by decide +kernel)) rfl⟩
theorem lX1_together_72 : MLV RX1 72 mX1_together mX1_price 3 := ⟨⟨wt (List.mem_of_getElem? (i := 474) (by decide +kernel)) rfl, wt (List.mem_of_getElem? (i := 58) (by decide +kernel)) rfl, wt (List.mem_of_getElem? (i := 477) (by decide +kernel)) rfl, by decide +kernel, by decide, by decide⟩, by decide +kernel, wt (List.mem_of_getElem? (i := 475) (by decide +kernel)) rfl, wt (List.mem_of_getElem? (i := 476) (by decide +kernel)) rfl⟩
theorem lX2_good_34 : MLV RX2 34 mX2_good mX2_toFirstWay 0 := ⟨⟨wt (List.mem_of_getElem? (i := 538) (by decide +kernel)) rfl, wt (List.mem_of_getElem? (i := 59) (by decide +kernel)) rfl, wt (List.mem_of_getElem? (i := 541) (by decide +kernel)) rfl, by decide +kernel, by decide, by decide⟩, by decide +kernel, wt (List.mem_of_getElem? (i := 540) (by decide +kernel)) rfl, wt (List.mem_of_getElem? (i := 15) (by decide +kernel)) rfl⟩
theorem lX2_good_48 : MLV RX2 48 mX2_good mX1_together 0 := ⟨⟨wt (List.mem_of_getElem? (i := 559) (by decide +kernel)) rfl, wt (List.mem_of_getElem? (i := 58) (by decide +kernel)) rfl, wt (List.mem_of_getElem? (i := 472) (by decide +kernel)) rfl, by decide +kernel, by decide, by decide⟩, by decide +kernel, wt (List.mem_of_getElem? (i := 470) (by decide +kernel)) rfl, wt (List.mem_of_getElem? (i := 471) (by decide +kernel)) rfl⟩
theorem lX2_min52 : MLm RX2 52 Lib.Math.min.name Lib.Math.min.code 2 := ⟨wt (List.mem_of_getElem? (i := 560) (by decide +kernel)) rfl, wt (List.mem_of_getElem? (i := 561) (by decide +kernel)) rfl, wt (List.mem_of_getElem? (i := 64) (by decide +kernel)) rfl, wt (List.mem_of_getElem? (i := 562) (by decide +kernel)) rfl⟩
theorem lX2_good_41 : MLV RX2 41 mX2_good mX2_toNextWay 0 := ⟨⟨wt (List.mem_of_getElem? (i := 546) (by decide +kernel)) rfl, wt (List.mem_of_getElem? (i := 59) (by decide +kernel)) rfl, wt (List.mem_of_getElem? (i := 549) (by decide +kernel)) rfl, by decide +kernel, by decide, by decide⟩, by decide +kernel, wt (List.mem_of_getElem? (i := 548) (by decide +kernel)) rfl, wt (List.mem_of_getElem? (i := 16) (by decide +kernel)) rfl⟩
theorem lX2_walk_34 : MLV RX2 34 mX2_walk mX2_toFirstWay 0 := ⟨⟨wt (List.mem_of_getElem? (i := 538) (by decide +kernel)) rfl, wt (List.mem_of_getElem? (i := 59) (by decide +kernel)) rfl, wt (List.mem_of_getElem? (i := 541) (by decide +kernel)) rfl, by decide +kernel, by decide, by decide⟩, by decide +kernel, wt (List.mem_of_getElem? (i := 540) (by decide +kernel)) rfl, wt (List.mem_of_getElem? (i := 15) (by decide +kernel)) rfl⟩
theorem lX2_walk_37 : MLV RX2 37 mX2_walk mX1_restsAmong 2 := ⟨⟨wt (List.mem_of_getElem? (i := 542) (by decide +kernel)) rfl, wt (List.mem_of_getElem? (i := 58) (by decide +kernel)) rfl, wt (List.mem_of_getElem? (i := 545) (by decide +kernel)) rfl, by decide +kernel, by decide, by decide⟩, by decide +kernel, wt (List.mem_of_getElem? (i := 543) (by decide +kernel)) rfl, wt (List.mem_of_getElem? (i := 544) (by decide +kernel)) rfl⟩
theorem lX2_walk_41 : MLV RX2 41 mX2_walk mX2_toNextWay 0 := ⟨⟨wt (List.mem_of_getElem? (i := 546) (by decide +kernel)) rfl, wt (List.mem_of_getElem? (i := 59) (by decide +kernel)) rfl, wt (List.mem_of_getElem? (i := 549) (by decide +kernel)) rfl, by decide +kernel, by decide, by decide⟩, by decide +kernel, wt (List.mem_of_getElem? (i := 548) (by decide +kernel)) rfl, wt (List.mem_of_getElem? (i := 16) (by decide +kernel)) rfl⟩
theorem lX3_begunBy_25 : MLV RX3 25 mX3_begunBy mX3_weight 1 := ⟨⟨wt (List.mem_of_getElem? (i := 632) (by decide +kernel)) rfl, wt (List.mem_of_getElem? (i := 61) (by decide +kernel)) rfl, wt (List.mem_of_getElem? (i := 635) (by decide +kernel)) rfl, by decide +kernel, by decide, by decide⟩, by decide +kernel, wt (List.mem_of_getElem? (i := 634) (by decide +kernel)) rfl, wt (List.mem_of_getElem? (i := 20) (by decide +kernel)) rfl⟩
theorem lX3_begunBy_35 : MLV RX3 35 mX3_begunBy mX1_reckon 0 := ⟨⟨wt (List.mem_of_getElem? (i := 636) (by decide +kernel)) rfl, wt (List.mem_of_getElem? (i := 58) (by decide +kernel)) rfl, wt (List.mem_of_getElem? (i := 433) (by decide +kernel)) rfl, by decide +kernel, by decide, by decide⟩, by decide +kernel, wt (List.mem_of_getElem? (i := 431) (by decide +kernel)) rfl, wt (List.mem_of_getElem? (i := 432) (by decide +kernel)) rfl⟩
theorem lX3_priceOf_25 : MLV RX3 25 mX3_priceOf mX3_weight 1 := ⟨⟨wt (List.mem_of_getElem? (i := 632) (by decide +kernel)) rfl, wt (List.mem_of_getElem? (i := 61) (by decide +kernel)) rfl, wt (List.mem_of_getElem? (i := 635) (by decide +kernel)) rfl, by decide +kernel, by decide, by decide⟩, by decide +kernel, wt (List.mem_of_getElem? (i := 634) (by decide +kernel)) rfl, wt (List.mem_of_getElem? (i := 20) (by decide +kernel)) rfl⟩
theorem lX3_priceOf_35 : MLV RX3 35 mX3_priceOf mX1_reckon 0 := ⟨⟨wt (List.mem_of_getElem? (i := 636) (by decide +kernel)) rfl, wt (List.mem_of_getElem? (i := 58) (by decide +kernel)) rfl, wt (List.mem_of_getElem? (i := 433) (by decide +kernel)) rfl, by decide +kernel, by decide, by decide⟩, by decide +kernel, wt (List.mem_of_getElem? (i := 431) (by decide +kernel)) rfl, wt (List.mem_of_getElem? (i := 432) (by decide +kernel)) rfl⟩
theorem lX3_priceOf_43 : MLV RX3 43 mX3_priceOf mX1_price 3 := ⟨⟨wt (List.mem_of_getElem? (i := 651) (by decide +kernel)) rfl, wt (List.mem_of_getElem? (i := 58) (by decide +kernel)) rfl, wt (List.mem_of_getElem? (i := 477) (by decide +kernel)) rfl, by decide +kernel, by decide, by decide⟩, by decide +kernel, wt (List.mem_of_getElem? (i := 475) (by decide +kernel)) rfl, wt (List.mem_of_getElem? (i := 476) (by decide +kernel)) rfl⟩
theorem lX4_empties_32 : MLV RX4 32 mX4_empties mX4_parse 0 := ⟨⟨wt (List.mem_of_getElem? (i := 383) (by decide +kernel)) rfl, wt (List.mem_of_getElem? (i := 57) (by decide +kernel)) rfl, wt (List.mem_of_getElem? (i := 386) (by decide +kernel)) rfl, by decide +kernel, by decide, by decide⟩, by decide +kernel, wt (List.mem_of_getElem? (i := 385) (by decide +kernel)) rfl, wt (List.mem_of_getElem? (i := 2) (by decide +kernel)) rfl⟩
theorem lX4_number_54 : MLV RX4 54 mX4_number mX4_here 0 := ⟨⟨wt (List.mem_of_getElem? (i := 395) (by decide +kernel)) rfl, wt (List.mem_of_getElem? (i := 57) (by decide +kernel)) rfl, wt (List.mem_of_getElem? (i := 398) (by decide +kernel)) rfl, by decide +kernel, by decide, by decide⟩, by decide +kernel, wt (List.mem_of_getElem? (i := 397) (by decide +kernel)) rfl, wt (List.mem_of_getElem? (i := 5) (by decide +kernel)) rfl⟩
theorem lX4_parse_44 : MLV RX4 44 mX4_parse mX4_opens 0 := ⟨⟨wt (List.mem_of_getElem? (i := 387) (by decide +kernel)) rfl, wt (List.mem_of_getElem? (i := 57) (by decide +kernel)) rfl, wt (List.mem_of_getElem? (i := 390) (by decide +kernel)) rfl, by decide +kernel, by decide, by decide⟩, by decide +kernel, wt (List.mem_of_getElem? (i := 389) (by decide +kernel)) rfl, wt (List.mem_of_getElem? (i := 3) (by decide +kernel)) rfl⟩
theorem lX4_parse_47 : MLV RX4 47 mX4_parse mX4_readsCondition 0 := ⟨⟨wt (List.mem_of_getElem? (i := 391) (by decide +kernel)) rfl, wt (List.mem_of_getElem? (i := 57) (by decide +kernel)) rfl, wt (List.mem_of_getElem? (i := 394) (by decide +kernel)) rfl, by decide +kernel, by decide, by decide⟩, by decide +kernel, wt (List.mem_of_getElem? (i := 393) (by decide +kernel)) rfl, wt (List.mem_of_getElem? (i := 4) (by decide +kernel)) rfl⟩
theorem lX4_parse_51 : MLV RX4 51 mX4_parse mX4_readsJoint 0 := ⟨⟨wt (List.mem_of_getElem? (i := 406) (by decide +kernel)) rfl, wt (List.mem_of_getElem? (i := 57) (by decide +kernel)) rfl, wt (List.mem_of_getElem? (i := 409) (by decide +kernel)) rfl, by decide +kernel, by decide, by decide⟩, by decide +kernel, wt (List.mem_of_getElem? (i := 408) (by decide +kernel)) rfl, wt (List.mem_of_getElem? (i := 7) (by decide +kernel)) rfl⟩
theorem lX4_readsCondition_54 : MLV RX4 54 mX4_readsCondition mX4_here 0 := ⟨⟨wt (List.mem_of_getElem? (i := 395) (by decide +kernel)) rfl, wt (List.mem_of_getElem? (i := 57) (by decide +kernel)) rfl, wt (List.mem_of_getElem? (i := 398) (by decide +kernel)) rfl, by decide +kernel, by decide, by decide⟩, by decide +kernel, wt (List.mem_of_getElem? (i := 397) (by decide +kernel)) rfl, wt (List.mem_of_getElem? (i := 5) (by decide +kernel)) rfl⟩
theorem lX4_readsCondition_65 : MLV RX4 65 mX4_readsCondition mX4_number 3 := ⟨⟨wt (List.mem_of_getElem? (i := 399) (by decide +kernel)) rfl, wt (List.mem_of_getElem? (i := 57) (by decide +kernel)) rfl, wt (List.mem_of_getElem? (i := 402) (by decide +kernel)) rfl, by decide +kernel, by decide, by decide⟩, by decide +kernel, wt (List.mem_of_getElem? (i := 401) (by decide +kernel)) rfl, wt (List.mem_of_getElem? (i := 6) (by decide +kernel)) rfl⟩
theorem lX4_max69 : MLm RX4 69 Lib.Math.max.name Lib.Math.max.code 2 := ⟨wt (List.mem_of_getElem? (i := 403) (by decide +kernel)) rfl, wt (List.mem_of_getElem? (i := 404) (by decide +kernel)) rfl, wt (List.mem_of_getElem? (i := 64) (by decide +kernel)) rfl, wt (List.mem_of_getElem? (i := 405) (by decide +kernel)) rfl⟩
theorem lX4_readsJoint_54 : MLV RX4 54 mX4_readsJoint mX4_here 0 := ⟨⟨wt (List.mem_of_getElem? (i := 395) (by decide +kernel)) rfl, wt (List.mem_of_getElem? (i := 57) (by decide +kernel)) rfl, wt (List.mem_of_getElem? (i := 398) (by decide +kernel)) rfl, by decide +kernel, by decide, by decide⟩, by decide +kernel, wt (List.mem_of_getElem? (i := 397) (by decide +kernel)) rfl, wt (List.mem_of_getElem? (i := 5) (by decide +kernel)) rfl⟩
theorem lX4_readsJoint_81 : MLV RX4 81 mX4_readsJoint mX4_closes 0 := ⟨⟨wt (List.mem_of_getElem? (i := 410) (by decide +kernel)) rfl, wt (List.mem_of_getElem? (i := 57) (by decide +kernel)) rfl, wt (List.mem_of_getElem? (i := 413) (by decide +kernel)) rfl, by decide +kernel, by decide, by decide⟩, by decide +kernel, wt (List.mem_of_getElem? (i := 412) (by decide +kernel)) rfl, wt (List.mem_of_getElem? (i := 8) (by decide +kernel)) rfl⟩
theorem lX4_readsJoint_44 : MLV RX4 44 mX4_readsJoint mX4_opens 0 := ⟨⟨wt (List.mem_of_getElem? (i := 387) (by decide +kernel)) rfl, wt (List.mem_of_getElem? (i := 57) (by decide +kernel)) rfl, wt (List.mem_of_getElem? (i := 390) (by decide +kernel)) rfl, by decide +kernel, by decide, by decide⟩, by decide +kernel, wt (List.mem_of_getElem? (i := 389) (by decide +kernel)) rfl, wt (List.mem_of_getElem? (i := 3) (by decide +kernel)) rfl⟩
theorem lX4_takes_32 : MLV RX4 32 mX4_takes mX4_parse 0 := ⟨⟨wt (List.mem_of_getElem? (i := 383) (by decide +kernel)) rfl, wt (List.mem_of_getElem? (i := 57) (by decide +kernel)) rfl, wt (List.mem_of_getElem? (i := 386) (by decide +kernel)) rfl, by decide +kernel, by decide, by decide⟩, by decide +kernel, wt (List.mem_of_getElem? (i := 385) (by decide +kernel)) rfl, wt (List.mem_of_getElem? (i := 2) (by decide +kernel)) rfl⟩
theorem lX5_findingAt_27 : MLV RX5 27 mX5_findingAt mX5_isGone 1 := ⟨⟨wt (List.mem_of_getElem? (i := 684) (by decide +kernel)) rfl, wt (List.mem_of_getElem? (i := 62) (by decide +kernel)) rfl, wt (List.mem_of_getElem? (i := 353) (by decide +kernel)) rfl, by decide +kernel, by decide, by decide⟩, by decide +kernel, wt (List.mem_of_getElem? (i := 351) (by decide +kernel)) rfl, wt (List.mem_of_getElem? (i := 352) (by decide +kernel)) rfl⟩
theorem lX6_comesTo_34 : MLV RX6 34 mX6_comesTo mX1_goesToNextWeek 0 := ⟨⟨wt (List.mem_of_getElem? (i := 575) (by decide +kernel)) rfl, wt (List.mem_of_getElem? (i := 58) (by decide +kernel)) rfl, wt (List.mem_of_getElem? (i := 578) (by decide +kernel)) rfl, by decide +kernel, by decide, by decide⟩, by decide +kernel, wt (List.mem_of_getElem? (i := 576) (by decide +kernel)) rfl, wt (List.mem_of_getElem? (i := 577) (by decide +kernel)) rfl⟩
theorem lX6_comesTo_39 : MLV RX6 39 mX6_comesTo mX1_aimsAsOne 0 := ⟨⟨wt (List.mem_of_getElem? (i := 579) (by decide +kernel)) rfl, wt (List.mem_of_getElem? (i := 58) (by decide +kernel)) rfl, wt (List.mem_of_getElem? (i := 582) (by decide +kernel)) rfl, by decide +kernel, by decide, by decide⟩, by decide +kernel, wt (List.mem_of_getElem? (i := 580) (by decide +kernel)) rfl, wt (List.mem_of_getElem? (i := 581) (by decide +kernel)) rfl⟩
theorem lX6_comesTo_43 : MLV RX6 43 mX6_comesTo mX1_reckon 0 := ⟨⟨wt (List.mem_of_getElem? (i := 583) (by decide +kernel)) rfl, wt (List.mem_of_getElem? (i := 58) (by decide +kernel)) rfl, wt (List.mem_of_getElem? (i := 433) (by decide +kernel)) rfl, by decide +kernel, by decide, by decide⟩, by decide +kernel, wt (List.mem_of_getElem? (i := 431) (by decide +kernel)) rfl, wt (List.mem_of_getElem? (i := 432) (by decide +kernel)) rfl⟩
theorem lX6_run_30 : MLV RX6 30 mX6_run mX6_comesTo 1 := ⟨⟨wt (List.mem_of_getElem? (i := 571) (by decide +kernel)) rfl, wt (List.mem_of_getElem? (i := 60) (by decide +kernel)) rfl, wt (List.mem_of_getElem? (i := 574) (by decide +kernel)) rfl, by decide +kernel, by decide, by decide⟩, by decide +kernel, wt (List.mem_of_getElem? (i := 573) (by decide +kernel)) rfl, wt (List.mem_of_getElem? (i := 17) (by decide +kernel)) rfl⟩
theorem lX7_aim_90 : MLV RX7 90 mX7_aim mX7_isPlain 1 := ⟨⟨wt (List.mem_of_getElem? (i := 339) (by decide +kernel)) rfl, wt (List.mem_of_getElem? (i := 55) (by decide +kernel)) rfl, wt (List.mem_of_getElem? (i := 342) (by decide +kernel)) rfl, by decide +kernel, by decide, by decide⟩, by decide +kernel, wt (List.mem_of_getElem? (i := 341) (by decide +kernel)) rfl, wt (List.mem_of_getElem? (i := 0) (by decide +kernel)) rfl⟩
theorem lX7_aim_94 : MLS RX7 94 mX7_aim mX7_mayAim 1 := ⟨⟨wt (List.mem_of_getElem? (i := 332) (by decide +kernel)) rfl, wt (List.mem_of_getElem? (i := 55) (by decide +kernel)) rfl, wt (List.mem_of_getElem? (i := 334) (by decide +kernel)) rfl, by decide +kernel, by decide, by decide⟩, by decide +kernel, wt (List.mem_of_getElem? (i := 333) (by decide +kernel)) rfl⟩
theorem lX7_begins_144 : MLV RX7 144 mX7_begins mX1_reckon 0 := ⟨⟨wt (List.mem_of_getElem? (i := 430) (by decide +kernel)) rfl, wt (List.mem_of_getElem? (i := 58) (by decide +kernel)) rfl, wt (List.mem_of_getElem? (i := 433) (by decide +kernel)) rfl, by decide +kernel, by decide, by decide⟩, by decide +kernel, wt (List.mem_of_getElem? (i := 431) (by decide +kernel)) rfl, wt (List.mem_of_getElem? (i := 432) (by decide +kernel)) rfl⟩
theorem lX7_best_90 : MLV RX7 90 mX7_best mX7_isPlain 1 := ⟨⟨wt (List.mem_of_getElem? (i := 339) (by decide +kernel)) rfl, wt (List.mem_of_getElem? (i := 55) (by decide +kernel)) rfl, wt (List.mem_of_getElem? (i := 342) (by decide +kernel)) rfl, by decide +kernel, by decide, by decide⟩, by decide +kernel, wt (List.mem_of_getElem? (i := 341) (by decide +kernel)) rfl, wt (List.mem_of_getElem? (i := 0) (by decide +kernel)) rfl⟩
theorem lX7_best_158 : MLV RX7 158 mX7_best mX1_bestOf 2 := ⟨⟨wt (List.mem_of_getElem? (i := 483) (by decide +kernel)) rfl, wt (List.mem_of_getElem? (i := 58) (by decide +kernel)) rfl, wt (List.mem_of_getElem? (i := 486) (by decide +kernel)) rfl, by decide +kernel, by decide, by decide⟩, by decide +kernel, wt (List.mem_of_getElem? (i := 484) (by decide +kernel)) rfl, wt (List.mem_of_getElem? (i := 485) (by decide +kernel)) rfl⟩
theorem lX7_climb_90 : MLV RX7 90 mX7_climb mX7_isPlain 1 := ⟨⟨wt (List.mem_of_getElem? (i := 339) (by decide +kernel)) rfl, wt (List.mem_of_getElem? (i := 55) (by decide +kernel)) rfl, wt (List.mem_of_getElem? (i := 342) (by decide +kernel)) rfl, by decide +kernel, by decide, by decide⟩, by decide +kernel, wt (List.mem_of_getElem? (i := 341) (by decide +kernel)) rfl, wt (List.mem_of_getElem? (i := 0) (by decide +kernel)) rfl⟩
theorem lX7_climb_165 : MLV RX7 165 mX7_climb mX1_becomes 1 := ⟨⟨wt (List.mem_of_getElem? (i := 505) (by decide +kernel)) rfl, wt (List.mem_of_getElem? (i := 58) (by decide +kernel)) rfl, wt (List.mem_of_getElem? (i := 508) (by decide +kernel)) rfl, by decide +kernel, by decide, by decide⟩, by decide +kernel, wt (List.mem_of_getElem? (i := 506) (by decide +kernel)) rfl, wt (List.mem_of_getElem? (i := 507) (by decide +kernel)) rfl⟩
theorem lX7_climb_168 : MLV RX7 168 mX7_climb mX1_climbs 1 := ⟨⟨wt (List.mem_of_getElem? (i := 509) (by decide +kernel)) rfl, wt (List.mem_of_getElem? (i := 58) (by decide +kernel)) rfl, wt (List.mem_of_getElem? (i := 512) (by decide +kernel)) rfl, by decide +kernel, by decide, by decide⟩, by decide +kernel, wt (List.mem_of_getElem? (i := 510) (by decide +kernel)) rfl, wt (List.mem_of_getElem? (i := 511) (by decide +kernel)) rfl⟩
theorem lX7_climb_144 : MLV RX7 144 mX7_climb mX1_reckon 0 := ⟨⟨wt (List.mem_of_getElem? (i := 430) (by decide +kernel)) rfl, wt (List.mem_of_getElem? (i := 58) (by decide +kernel)) rfl, wt (List.mem_of_getElem? (i := 433) (by decide +kernel)) rfl, by decide +kernel, by decide, by decide⟩, by decide +kernel, wt (List.mem_of_getElem? (i := 431) (by decide +kernel)) rfl, wt (List.mem_of_getElem? (i := 432) (by decide +kernel)) rfl⟩
theorem lX7_comer_69 : MLS RX7 69 mX7_comer mX7_mayCome 3 := ⟨⟨wt (List.mem_of_getElem? (i := 329) (by decide +kernel)) rfl, wt (List.mem_of_getElem? (i := 55) (by decide +kernel)) rfl, wt (List.mem_of_getElem? (i := 331) (by decide +kernel)) rfl, by decide +kernel, by decide, by decide⟩, by decide +kernel, wt (List.mem_of_getElem? (i := 330) (by decide +kernel)) rfl⟩
theorem lX7_comes_114 : MLV RX7 114 mX7_comes mX7_isComer 1 := ⟨⟨wt (List.mem_of_getElem? (i := 362) (by decide +kernel)) rfl, wt (List.mem_of_getElem? (i := 55) (by decide +kernel)) rfl, wt (List.mem_of_getElem? (i := 365) (by decide +kernel)) rfl, by decide +kernel, by decide, by decide⟩, by decide +kernel, wt (List.mem_of_getElem? (i := 364) (by decide +kernel)) rfl, wt (List.mem_of_getElem? (i := 1) (by decide +kernel)) rfl⟩
theorem lX7_comes_144 : MLV RX7 144 mX7_comes mX1_reckon 0 := ⟨⟨wt (List.mem_of_getElem? (i := 430) (by decide +kernel)) rfl, wt (List.mem_of_getElem? (i := 58) (by decide +kernel)) rfl, wt (List.mem_of_getElem? (i := 433) (by decide +kernel)) rfl, by decide +kernel, by decide, by decide⟩, by decide +kernel, wt (List.mem_of_getElem? (i := 431) (by decide +kernel)) rfl, wt (List.mem_of_getElem? (i := 432) (by decide +kernel)) rfl⟩
theorem lX7_copy_97 : MLS RX7 97 mX7_copy mX7_isSheet 1 := ⟨⟨wt (List.mem_of_getElem? (i := 347) (by decide +kernel)) rfl, wt (List.mem_of_getElem? (i := 55) (by decide +kernel)) rfl, wt (List.mem_of_getElem? (i := 349) (by decide +kernel)) rfl, by decide +kernel, by decide, by decide⟩, by decide +kernel, wt (List.mem_of_getElem? (i := 348) (by decide +kernel)) rfl⟩
theorem lX7_copy_100 : MLV RX7 100 mX7_copy mX5_isGone 1 := ⟨⟨wt (List.mem_of_getElem? (i := 350) (by decide +kernel)) rfl, wt (List.mem_of_getElem? (i := 62) (by decide +kernel)) rfl, wt (List.mem_of_getElem? (i := 353) (by decide +kernel)) rfl, by decide +kernel, by decide, by decide⟩, by decide +kernel, wt (List.mem_of_getElem? (i := 351) (by decide +kernel)) rfl, wt (List.mem_of_getElem? (i := 352) (by decide +kernel)) rfl⟩
theorem lX7_copy_103 : MLV RX7 103 mX7_copy mX5_finds 1 := ⟨⟨wt (List.mem_of_getElem? (i := 354) (by decide +kernel)) rfl, wt (List.mem_of_getElem? (i := 62) (by decide +kernel)) rfl, wt (List.mem_of_getElem? (i := 357) (by decide +kernel)) rfl, by decide +kernel, by decide, by decide⟩, by decide +kernel, wt (List.mem_of_getElem? (i := 355) (by decide +kernel)) rfl, wt (List.mem_of_getElem? (i := 356) (by decide +kernel)) rfl⟩
theorem lX7_copy_257 : MLV RX7 257 mX7_copy mX5_hasItems 3 := ⟨⟨wt (List.mem_of_getElem? (i := 698) (by decide +kernel)) rfl, wt (List.mem_of_getElem? (i := 62) (by decide +kernel)) rfl, wt (List.mem_of_getElem? (i := 701) (by decide +kernel)) rfl, by decide +kernel, by decide, by decide⟩, by decide +kernel, wt (List.mem_of_getElem? (i := 699) (by decide +kernel)) rfl, wt (List.mem_of_getElem? (i := 700) (by decide +kernel)) rfl⟩
theorem lX7_cp260 : Cond.methodLink RX7 260 arraycopyName ∈ wtb ∧ Cond.native arraycopyName ∈ wtb ∧ Cond.static arraycopyName ∈ wtb ∧ Cond.initialized "java/lang/System" ∈ wtb := ⟨wt (List.mem_of_getElem? (i := 702) (by decide +kernel)) rfl, wt (List.mem_of_getElem? (i := 448) (by decide +kernel)) rfl, wt (List.mem_of_getElem? (i := 447) (by decide +kernel)) rfl, wt (List.mem_of_getElem? (i := 65) (by decide +kernel)) rfl⟩
theorem lX7_cost_114 : MLV RX7 114 mX7_cost mX7_isComer 1 := ⟨⟨wt (List.mem_of_getElem? (i := 362) (by decide +kernel)) rfl, wt (List.mem_of_getElem? (i := 55) (by decide +kernel)) rfl, wt (List.mem_of_getElem? (i := 365) (by decide +kernel)) rfl, by decide +kernel, by decide, by decide⟩, by decide +kernel, wt (List.mem_of_getElem? (i := 364) (by decide +kernel)) rfl, wt (List.mem_of_getElem? (i := 1) (by decide +kernel)) rfl⟩
theorem lX7_count_175 : MLV RX7 175 mX7_count mX1_plainBits 0 := ⟨⟨wt (List.mem_of_getElem? (i := 520) (by decide +kernel)) rfl, wt (List.mem_of_getElem? (i := 58) (by decide +kernel)) rfl, wt (List.mem_of_getElem? (i := 523) (by decide +kernel)) rfl, by decide +kernel, by decide, by decide⟩, by decide +kernel, wt (List.mem_of_getElem? (i := 521) (by decide +kernel)) rfl, wt (List.mem_of_getElem? (i := 522) (by decide +kernel)) rfl⟩
theorem lX7_count_269 : MLV RX7 269 mX7_count mX1_aimsTogether 0 := ⟨⟨wt (List.mem_of_getElem? (i := 712) (by decide +kernel)) rfl, wt (List.mem_of_getElem? (i := 58) (by decide +kernel)) rfl, wt (List.mem_of_getElem? (i := 715) (by decide +kernel)) rfl, by decide +kernel, by decide, by decide⟩, by decide +kernel, wt (List.mem_of_getElem? (i := 713) (by decide +kernel)) rfl, wt (List.mem_of_getElem? (i := 714) (by decide +kernel)) rfl⟩
theorem lX7_count_272 : MLV RX7 272 mX7_count mX0_lotsTogether 0 := ⟨⟨wt (List.mem_of_getElem? (i := 716) (by decide +kernel)) rfl, wt (List.mem_of_getElem? (i := 56) (by decide +kernel)) rfl, wt (List.mem_of_getElem? (i := 719) (by decide +kernel)) rfl, by decide +kernel, by decide, by decide⟩, by decide +kernel, wt (List.mem_of_getElem? (i := 717) (by decide +kernel)) rfl, wt (List.mem_of_getElem? (i := 718) (by decide +kernel)) rfl⟩
theorem lX7_digest_282 : MLV RX7 282 mX7_digest mX7_count 1 := ⟨⟨wt (List.mem_of_getElem? (i := 726) (by decide +kernel)) rfl, wt (List.mem_of_getElem? (i := 55) (by decide +kernel)) rfl, wt (List.mem_of_getElem? (i := 711) (by decide +kernel)) rfl, by decide +kernel, by decide, by decide⟩, by decide +kernel, wt (List.mem_of_getElem? (i := 709) (by decide +kernel)) rfl, wt (List.mem_of_getElem? (i := 710) (by decide +kernel)) rfl⟩
theorem lX7_digest_285 : MLV RX7 285 mX7_digest mX7_fault 0 := ⟨⟨wt (List.mem_of_getElem? (i := 727) (by decide +kernel)) rfl, wt (List.mem_of_getElem? (i := 55) (by decide +kernel)) rfl, wt (List.mem_of_getElem? (i := 425) (by decide +kernel)) rfl, by decide +kernel, by decide, by decide⟩, by decide +kernel, wt (List.mem_of_getElem? (i := 423) (by decide +kernel)) rfl, wt (List.mem_of_getElem? (i := 424) (by decide +kernel)) rfl⟩
theorem lX7_digest_288 : MLV RX7 288 mX7_digest mX7_begins 0 := ⟨⟨wt (List.mem_of_getElem? (i := 728) (by decide +kernel)) rfl, wt (List.mem_of_getElem? (i := 55) (by decide +kernel)) rfl, wt (List.mem_of_getElem? (i := 429) (by decide +kernel)) rfl, by decide +kernel, by decide, by decide⟩, by decide +kernel, wt (List.mem_of_getElem? (i := 427) (by decide +kernel)) rfl, wt (List.mem_of_getElem? (i := 428) (by decide +kernel)) rfl⟩
theorem lX7_digest_291 : MLV RX7 291 mX7_digest mX7_comes 1 := ⟨⟨wt (List.mem_of_getElem? (i := 729) (by decide +kernel)) rfl, wt (List.mem_of_getElem? (i := 55) (by decide +kernel)) rfl, wt (List.mem_of_getElem? (i := 464) (by decide +kernel)) rfl, by decide +kernel, by decide, by decide⟩, by decide +kernel, wt (List.mem_of_getElem? (i := 462) (by decide +kernel)) rfl, wt (List.mem_of_getElem? (i := 463) (by decide +kernel)) rfl⟩
theorem lX7_digest_294 : MLV RX7 294 mX7_digest mX7_pays 1 := ⟨⟨wt (List.mem_of_getElem? (i := 730) (by decide +kernel)) rfl, wt (List.mem_of_getElem? (i := 55) (by decide +kernel)) rfl, wt (List.mem_of_getElem? (i := 468) (by decide +kernel)) rfl, by decide +kernel, by decide, by decide⟩, by decide +kernel, wt (List.mem_of_getElem? (i := 466) (by decide +kernel)) rfl, wt (List.mem_of_getElem? (i := 467) (by decide +kernel)) rfl⟩
theorem lX7_digest_297 : MLV RX7 297 mX7_digest mX7_restless 0 := ⟨⟨wt (List.mem_of_getElem? (i := 731) (by decide +kernel)) rfl, wt (List.mem_of_getElem? (i := 55) (by decide +kernel)) rfl, wt (List.mem_of_getElem? (i := 491) (by decide +kernel)) rfl, by decide +kernel, by decide, by decide⟩, by decide +kernel, wt (List.mem_of_getElem? (i := 489) (by decide +kernel)) rfl, wt (List.mem_of_getElem? (i := 490) (by decide +kernel)) rfl⟩
theorem lX7_digest_300 : MLV RX7 300 mX7_digest mX7_climb 2 := ⟨⟨wt (List.mem_of_getElem? (i := 732) (by decide +kernel)) rfl, wt (List.mem_of_getElem? (i := 55) (by decide +kernel)) rfl, wt (List.mem_of_getElem? (i := 504) (by decide +kernel)) rfl, by decide +kernel, by decide, by decide⟩, by decide +kernel, wt (List.mem_of_getElem? (i := 502) (by decide +kernel)) rfl, wt (List.mem_of_getElem? (i := 503) (by decide +kernel)) rfl⟩
theorem lX7_digest_304 : MLV RX7 304 mX7_digest mX7_week 1 := ⟨⟨wt (List.mem_of_getElem? (i := 733) (by decide +kernel)) rfl, wt (List.mem_of_getElem? (i := 55) (by decide +kernel)) rfl, wt (List.mem_of_getElem? (i := 566) (by decide +kernel)) rfl, by decide +kernel, by decide, by decide⟩, by decide +kernel, wt (List.mem_of_getElem? (i := 564) (by decide +kernel)) rfl, wt (List.mem_of_getElem? (i := 565) (by decide +kernel)) rfl⟩
theorem lX7_digest_307 : MLV RX7 307 mX7_digest mX7_keys 1 := ⟨⟨wt (List.mem_of_getElem? (i := 734) (by decide +kernel)) rfl, wt (List.mem_of_getElem? (i := 55) (by decide +kernel)) rfl, wt (List.mem_of_getElem? (i := 606) (by decide +kernel)) rfl, by decide +kernel, by decide, by decide⟩, by decide +kernel, wt (List.mem_of_getElem? (i := 604) (by decide +kernel)) rfl, wt (List.mem_of_getElem? (i := 605) (by decide +kernel)) rfl⟩
theorem lX7_digest_310 : MLV RX7 310 mX7_digest mX7_odds 2 := ⟨⟨wt (List.mem_of_getElem? (i := 735) (by decide +kernel)) rfl, wt (List.mem_of_getElem? (i := 55) (by decide +kernel)) rfl, wt (List.mem_of_getElem? (i := 626) (by decide +kernel)) rfl, by decide +kernel, by decide, by decide⟩, by decide +kernel, wt (List.mem_of_getElem? (i := 624) (by decide +kernel)) rfl, wt (List.mem_of_getElem? (i := 625) (by decide +kernel)) rfl⟩
theorem lX7_get_97 : MLS RX7 97 mX7_get mX7_isSheet 1 := ⟨⟨wt (List.mem_of_getElem? (i := 347) (by decide +kernel)) rfl, wt (List.mem_of_getElem? (i := 55) (by decide +kernel)) rfl, wt (List.mem_of_getElem? (i := 349) (by decide +kernel)) rfl, by decide +kernel, by decide, by decide⟩, by decide +kernel, wt (List.mem_of_getElem? (i := 348) (by decide +kernel)) rfl⟩
theorem lX7_get_238 : MLS RX7 238 mX7_get mX7_isForm 1 := ⟨⟨wt (List.mem_of_getElem? (i := 661) (by decide +kernel)) rfl, wt (List.mem_of_getElem? (i := 55) (by decide +kernel)) rfl, wt (List.mem_of_getElem? (i := 663) (by decide +kernel)) rfl, by decide +kernel, by decide, by decide⟩, by decide +kernel, wt (List.mem_of_getElem? (i := 662) (by decide +kernel)) rfl⟩
theorem lX7_get_247 : MLV RX7 247 mX7_get mX5_findingAt 3 := ⟨⟨wt (List.mem_of_getElem? (i := 680) (by decide +kernel)) rfl, wt (List.mem_of_getElem? (i := 62) (by decide +kernel)) rfl, wt (List.mem_of_getElem? (i := 683) (by decide +kernel)) rfl, by decide +kernel, by decide, by decide⟩, by decide +kernel, wt (List.mem_of_getElem? (i := 681) (by decide +kernel)) rfl, wt (List.mem_of_getElem? (i := 682) (by decide +kernel)) rfl⟩
theorem lX7_get_103 : MLV RX7 103 mX7_get mX5_finds 1 := ⟨⟨wt (List.mem_of_getElem? (i := 354) (by decide +kernel)) rfl, wt (List.mem_of_getElem? (i := 62) (by decide +kernel)) rfl, wt (List.mem_of_getElem? (i := 357) (by decide +kernel)) rfl, by decide +kernel, by decide, by decide⟩, by decide +kernel, wt (List.mem_of_getElem? (i := 355) (by decide +kernel)) rfl, wt (List.mem_of_getElem? (i := 356) (by decide +kernel)) rfl⟩
theorem lX7_guests_175 : MLV RX7 175 mX7_guests mX1_plainBits 0 := ⟨⟨wt (List.mem_of_getElem? (i := 520) (by decide +kernel)) rfl, wt (List.mem_of_getElem? (i := 58) (by decide +kernel)) rfl, wt (List.mem_of_getElem? (i := 523) (by decide +kernel)) rfl, by decide +kernel, by decide, by decide⟩, by decide +kernel, wt (List.mem_of_getElem? (i := 521) (by decide +kernel)) rfl, wt (List.mem_of_getElem? (i := 522) (by decide +kernel)) rfl⟩
theorem lX7_guests_178 : MLS RX7 178 mX7_guests mJ6_bitCount_0f7a4 1 := ⟨⟨wt (List.mem_of_getElem? (i := 524) (by decide +kernel)) rfl, wt (List.mem_of_getElem? (i := 66) (by decide +kernel)) rfl, wt (List.mem_of_getElem? (i := 526) (by decide +kernel)) rfl, by decide +kernel, by decide, by decide⟩, by decide +kernel, wt (List.mem_of_getElem? (i := 525) (by decide +kernel)) rfl⟩
theorem lX7_guests_165 : MLV RX7 165 mX7_guests mX1_becomes 1 := ⟨⟨wt (List.mem_of_getElem? (i := 505) (by decide +kernel)) rfl, wt (List.mem_of_getElem? (i := 58) (by decide +kernel)) rfl, wt (List.mem_of_getElem? (i := 508) (by decide +kernel)) rfl, by decide +kernel, by decide, by decide⟩, by decide +kernel, wt (List.mem_of_getElem? (i := 506) (by decide +kernel)) rfl, wt (List.mem_of_getElem? (i := 507) (by decide +kernel)) rfl⟩
theorem lX7_guests_220 : MLV RX7 220 mX7_guests mX1_makePunctual 1 := ⟨⟨wt (List.mem_of_getElem? (i := 619) (by decide +kernel)) rfl, wt (List.mem_of_getElem? (i := 58) (by decide +kernel)) rfl, wt (List.mem_of_getElem? (i := 622) (by decide +kernel)) rfl, by decide +kernel, by decide, by decide⟩, by decide +kernel, wt (List.mem_of_getElem? (i := 620) (by decide +kernel)) rfl, wt (List.mem_of_getElem? (i := 621) (by decide +kernel)) rfl⟩
theorem lX7_guests_210 : MLV RX7 210 mX7_guests mX7_trialIsInTime 0 := ⟨⟨wt (List.mem_of_getElem? (i := 599) (by decide +kernel)) rfl, wt (List.mem_of_getElem? (i := 55) (by decide +kernel)) rfl, wt (List.mem_of_getElem? (i := 602) (by decide +kernel)) rfl, by decide +kernel, by decide, by decide⟩, by decide +kernel, wt (List.mem_of_getElem? (i := 601) (by decide +kernel)) rfl, wt (List.mem_of_getElem? (i := 18) (by decide +kernel)) rfl⟩
theorem lX7_keyBits_165 : MLV RX7 165 mX7_keyBits mX1_becomes 1 := ⟨⟨wt (List.mem_of_getElem? (i := 505) (by decide +kernel)) rfl, wt (List.mem_of_getElem? (i := 58) (by decide +kernel)) rfl, wt (List.mem_of_getElem? (i := 508) (by decide +kernel)) rfl, by decide +kernel, by decide, by decide⟩, by decide +kernel, wt (List.mem_of_getElem? (i := 506) (by decide +kernel)) rfl, wt (List.mem_of_getElem? (i := 507) (by decide +kernel)) rfl⟩
theorem lX7_keyBits_144 : MLV RX7 144 mX7_keyBits mX1_reckon 0 := ⟨⟨wt (List.mem_of_getElem? (i := 430) (by decide +kernel)) rfl, wt (List.mem_of_getElem? (i := 58) (by decide +kernel)) rfl, wt (List.mem_of_getElem? (i := 433) (by decide +kernel)) rfl, by decide +kernel, by decide, by decide⟩, by decide +kernel, wt (List.mem_of_getElem? (i := 431) (by decide +kernel)) rfl, wt (List.mem_of_getElem? (i := 432) (by decide +kernel)) rfl⟩
theorem lX7_keys_144 : MLV RX7 144 mX7_keys mX1_reckon 0 := ⟨⟨wt (List.mem_of_getElem? (i := 430) (by decide +kernel)) rfl, wt (List.mem_of_getElem? (i := 58) (by decide +kernel)) rfl, wt (List.mem_of_getElem? (i := 433) (by decide +kernel)) rfl, by decide +kernel, by decide, by decide⟩, by decide +kernel, wt (List.mem_of_getElem? (i := 431) (by decide +kernel)) rfl, wt (List.mem_of_getElem? (i := 432) (by decide +kernel)) rfl⟩
theorem lX7_keys_214 : MLV RX7 214 mX7_keys mX7_keyBits 0 := ⟨⟨wt (List.mem_of_getElem? (i := 607) (by decide +kernel)) rfl, wt (List.mem_of_getElem? (i := 55) (by decide +kernel)) rfl, wt (List.mem_of_getElem? (i := 610) (by decide +kernel)) rfl, by decide +kernel, by decide, by decide⟩, by decide +kernel, wt (List.mem_of_getElem? (i := 609) (by decide +kernel)) rfl, wt (List.mem_of_getElem? (i := 19) (by decide +kernel)) rfl⟩
theorem lX7_keys_217 : MLV RX7 217 mX7_keys mX1_comingAt 1 := ⟨⟨wt (List.mem_of_getElem? (i := 611) (by decide +kernel)) rfl, wt (List.mem_of_getElem? (i := 58) (by decide +kernel)) rfl, wt (List.mem_of_getElem? (i := 614) (by decide +kernel)) rfl, by decide +kernel, by decide, by decide⟩, by decide +kernel, wt (List.mem_of_getElem? (i := 612) (by decide +kernel)) rfl, wt (List.mem_of_getElem? (i := 613) (by decide +kernel)) rfl⟩
theorem lX7_least_165 : MLV RX7 165 mX7_least mX1_becomes 1 := ⟨⟨wt (List.mem_of_getElem? (i := 505) (by decide +kernel)) rfl, wt (List.mem_of_getElem? (i := 58) (by decide +kernel)) rfl, wt (List.mem_of_getElem? (i := 508) (by decide +kernel)) rfl, by decide +kernel, by decide, by decide⟩, by decide +kernel, wt (List.mem_of_getElem? (i := 506) (by decide +kernel)) rfl, wt (List.mem_of_getElem? (i := 507) (by decide +kernel)) rfl⟩
theorem lX7_least_210 : MLV RX7 210 mX7_least mX7_trialIsInTime 0 := ⟨⟨wt (List.mem_of_getElem? (i := 599) (by decide +kernel)) rfl, wt (List.mem_of_getElem? (i := 55) (by decide +kernel)) rfl, wt (List.mem_of_getElem? (i := 602) (by decide +kernel)) rfl, by decide +kernel, by decide, by decide⟩, by decide +kernel, wt (List.mem_of_getElem? (i := 601) (by decide +kernel)) rfl, wt (List.mem_of_getElem? (i := 18) (by decide +kernel)) rfl⟩
theorem lX7_lose_97 : MLS RX7 97 mX7_lose mX7_isSheet 1 := ⟨⟨wt (List.mem_of_getElem? (i := 347) (by decide +kernel)) rfl, wt (List.mem_of_getElem? (i := 55) (by decide +kernel)) rfl, wt (List.mem_of_getElem? (i := 349) (by decide +kernel)) rfl, by decide +kernel, by decide, by decide⟩, by decide +kernel, wt (List.mem_of_getElem? (i := 348) (by decide +kernel)) rfl⟩
theorem lX7_lose_100 : MLV RX7 100 mX7_lose mX5_isGone 1 := ⟨⟨wt (List.mem_of_getElem? (i := 350) (by decide +kernel)) rfl, wt (List.mem_of_getElem? (i := 62) (by decide +kernel)) rfl, wt (List.mem_of_getElem? (i := 353) (by decide +kernel)) rfl, by decide +kernel, by decide, by decide⟩, by decide +kernel, wt (List.mem_of_getElem? (i := 351) (by decide +kernel)) rfl, wt (List.mem_of_getElem? (i := 352) (by decide +kernel)) rfl⟩
theorem lX7_lose_103 : MLV RX7 103 mX7_lose mX5_finds 1 := ⟨⟨wt (List.mem_of_getElem? (i := 354) (by decide +kernel)) rfl, wt (List.mem_of_getElem? (i := 62) (by decide +kernel)) rfl, wt (List.mem_of_getElem? (i := 357) (by decide +kernel)) rfl, by decide +kernel, by decide, by decide⟩, by decide +kernel, wt (List.mem_of_getElem? (i := 355) (by decide +kernel)) rfl, wt (List.mem_of_getElem? (i := 356) (by decide +kernel)) rfl⟩
theorem lX7_lose_244 : MLV RX7 244 mX7_lose mX5_drop 1 := ⟨⟨wt (List.mem_of_getElem? (i := 672) (by decide +kernel)) rfl, wt (List.mem_of_getElem? (i := 62) (by decide +kernel)) rfl, wt (List.mem_of_getElem? (i := 675) (by decide +kernel)) rfl, by decide +kernel, by decide, by decide⟩, by decide +kernel, wt (List.mem_of_getElem? (i := 673) (by decide +kernel)) rfl, wt (List.mem_of_getElem? (i := 674) (by decide +kernel)) rfl⟩
theorem lX7_lost_172 : MLS RX7 172 mX7_lost mX7_isStep 1 := ⟨⟨wt (List.mem_of_getElem? (i := 517) (by decide +kernel)) rfl, wt (List.mem_of_getElem? (i := 55) (by decide +kernel)) rfl, wt (List.mem_of_getElem? (i := 519) (by decide +kernel)) rfl, by decide +kernel, by decide, by decide⟩, by decide +kernel, wt (List.mem_of_getElem? (i := 518) (by decide +kernel)) rfl⟩
theorem lX7_lost_175 : MLV RX7 175 mX7_lost mX1_plainBits 0 := ⟨⟨wt (List.mem_of_getElem? (i := 520) (by decide +kernel)) rfl, wt (List.mem_of_getElem? (i := 58) (by decide +kernel)) rfl, wt (List.mem_of_getElem? (i := 523) (by decide +kernel)) rfl, by decide +kernel, by decide, by decide⟩, by decide +kernel, wt (List.mem_of_getElem? (i := 521) (by decide +kernel)) rfl, wt (List.mem_of_getElem? (i := 522) (by decide +kernel)) rfl⟩
theorem lX7_lost_178 : MLS RX7 178 mX7_lost mJ6_bitCount_0f7a4 1 := ⟨⟨wt (List.mem_of_getElem? (i := 524) (by decide +kernel)) rfl, wt (List.mem_of_getElem? (i := 66) (by decide +kernel)) rfl, wt (List.mem_of_getElem? (i := 526) (by decide +kernel)) rfl, by decide +kernel, by decide, by decide⟩, by decide +kernel, wt (List.mem_of_getElem? (i := 525) (by decide +kernel)) rfl⟩
theorem lX7_lost_165 : MLV RX7 165 mX7_lost mX1_becomes 1 := ⟨⟨wt (List.mem_of_getElem? (i := 505) (by decide +kernel)) rfl, wt (List.mem_of_getElem? (i := 58) (by decide +kernel)) rfl, wt (List.mem_of_getElem? (i := 508) (by decide +kernel)) rfl, by decide +kernel, by decide, by decide⟩, by decide +kernel, wt (List.mem_of_getElem? (i := 506) (by decide +kernel)) rfl, wt (List.mem_of_getElem? (i := 507) (by decide +kernel)) rfl⟩
theorem lX7_lost_183 : MLV RX7 183 mX7_lost mX2_lay 1 := ⟨⟨wt (List.mem_of_getElem? (i := 530) (by decide +kernel)) rfl, wt (List.mem_of_getElem? (i := 59) (by decide +kernel)) rfl, wt (List.mem_of_getElem? (i := 533) (by decide +kernel)) rfl, by decide +kernel, by decide, by decide⟩, by decide +kernel, wt (List.mem_of_getElem? (i := 531) (by decide +kernel)) rfl, wt (List.mem_of_getElem? (i := 532) (by decide +kernel)) rfl⟩
theorem lX7_lost_190 : MLV RX7 190 mX7_lost mX2_good 0 := ⟨⟨wt (List.mem_of_getElem? (i := 554) (by decide +kernel)) rfl, wt (List.mem_of_getElem? (i := 59) (by decide +kernel)) rfl, wt (List.mem_of_getElem? (i := 557) (by decide +kernel)) rfl, by decide +kernel, by decide, by decide⟩, by decide +kernel, wt (List.mem_of_getElem? (i := 555) (by decide +kernel)) rfl, wt (List.mem_of_getElem? (i := 556) (by decide +kernel)) rfl⟩
theorem lX7_lost_187 : MLV RX7 187 mX7_lost mX2_walk 1 := ⟨⟨wt (List.mem_of_getElem? (i := 534) (by decide +kernel)) rfl, wt (List.mem_of_getElem? (i := 59) (by decide +kernel)) rfl, wt (List.mem_of_getElem? (i := 537) (by decide +kernel)) rfl, by decide +kernel, by decide, by decide⟩, by decide +kernel, wt (List.mem_of_getElem? (i := 535) (by decide +kernel)) rfl, wt (List.mem_of_getElem? (i := 536) (by decide +kernel)) rfl⟩
theorem lX7_lost_151 : MLV RX7 151 mX7_lost mX1_together 0 := ⟨⟨wt (List.mem_of_getElem? (i := 469) (by decide +kernel)) rfl, wt (List.mem_of_getElem? (i := 58) (by decide +kernel)) rfl, wt (List.mem_of_getElem? (i := 472) (by decide +kernel)) rfl, by decide +kernel, by decide, by decide⟩, by decide +kernel, wt (List.mem_of_getElem? (i := 470) (by decide +kernel)) rfl, wt (List.mem_of_getElem? (i := 471) (by decide +kernel)) rfl⟩
theorem lX7_mayCome_94 : MLS RX7 94 mX7_mayCome mX7_mayAim 1 := ⟨⟨wt (List.mem_of_getElem? (i := 332) (by decide +kernel)) rfl, wt (List.mem_of_getElem? (i := 55) (by decide +kernel)) rfl, wt (List.mem_of_getElem? (i := 334) (by decide +kernel)) rfl, by decide +kernel, by decide, by decide⟩, by decide +kernel, wt (List.mem_of_getElem? (i := 333) (by decide +kernel)) rfl⟩
theorem lX7_mean_114 : MLV RX7 114 mX7_mean mX7_isComer 1 := ⟨⟨wt (List.mem_of_getElem? (i := 362) (by decide +kernel)) rfl, wt (List.mem_of_getElem? (i := 55) (by decide +kernel)) rfl, wt (List.mem_of_getElem? (i := 365) (by decide +kernel)) rfl, by decide +kernel, by decide, by decide⟩, by decide +kernel, wt (List.mem_of_getElem? (i := 364) (by decide +kernel)) rfl, wt (List.mem_of_getElem? (i := 1) (by decide +kernel)) rfl⟩
theorem lX7_mean_165 : MLV RX7 165 mX7_mean mX1_becomes 1 := ⟨⟨wt (List.mem_of_getElem? (i := 505) (by decide +kernel)) rfl, wt (List.mem_of_getElem? (i := 58) (by decide +kernel)) rfl, wt (List.mem_of_getElem? (i := 508) (by decide +kernel)) rfl, by decide +kernel, by decide, by decide⟩, by decide +kernel, wt (List.mem_of_getElem? (i := 506) (by decide +kernel)) rfl, wt (List.mem_of_getElem? (i := 507) (by decide +kernel)) rfl⟩
theorem lX7_mean_233 : MLV RX7 233 mX7_mean mX3_priceOf 1 := ⟨⟨wt (List.mem_of_getElem? (i := 647) (by decide +kernel)) rfl, wt (List.mem_of_getElem? (i := 61) (by decide +kernel)) rfl, wt (List.mem_of_getElem? (i := 650) (by decide +kernel)) rfl, by decide +kernel, by decide, by decide⟩, by decide +kernel, wt (List.mem_of_getElem? (i := 648) (by decide +kernel)) rfl, wt (List.mem_of_getElem? (i := 649) (by decide +kernel)) rfl⟩
theorem lX7_mean_229 : MLV RX7 229 mX7_mean mX3_lowest 2 := ⟨⟨wt (List.mem_of_getElem? (i := 637) (by decide +kernel)) rfl, wt (List.mem_of_getElem? (i := 61) (by decide +kernel)) rfl, wt (List.mem_of_getElem? (i := 640) (by decide +kernel)) rfl, by decide +kernel, by decide, by decide⟩, by decide +kernel, wt (List.mem_of_getElem? (i := 638) (by decide +kernel)) rfl, wt (List.mem_of_getElem? (i := 639) (by decide +kernel)) rfl⟩
theorem lX7_moved_165 : MLV RX7 165 mX7_moved mX1_becomes 1 := ⟨⟨wt (List.mem_of_getElem? (i := 505) (by decide +kernel)) rfl, wt (List.mem_of_getElem? (i := 58) (by decide +kernel)) rfl, wt (List.mem_of_getElem? (i := 508) (by decide +kernel)) rfl, by decide +kernel, by decide, by decide⟩, by decide +kernel, wt (List.mem_of_getElem? (i := 506) (by decide +kernel)) rfl, wt (List.mem_of_getElem? (i := 507) (by decide +kernel)) rfl⟩
theorem lX7_moved_168 : MLV RX7 168 mX7_moved mX1_climbs 1 := ⟨⟨wt (List.mem_of_getElem? (i := 509) (by decide +kernel)) rfl, wt (List.mem_of_getElem? (i := 58) (by decide +kernel)) rfl, wt (List.mem_of_getElem? (i := 512) (by decide +kernel)) rfl, by decide +kernel, by decide, by decide⟩, by decide +kernel, wt (List.mem_of_getElem? (i := 510) (by decide +kernel)) rfl, wt (List.mem_of_getElem? (i := 511) (by decide +kernel)) rfl⟩
theorem lX7_moved_144 : MLV RX7 144 mX7_moved mX1_reckon 0 := ⟨⟨wt (List.mem_of_getElem? (i := 430) (by decide +kernel)) rfl, wt (List.mem_of_getElem? (i := 58) (by decide +kernel)) rfl, wt (List.mem_of_getElem? (i := 433) (by decide +kernel)) rfl, by decide +kernel, by decide, by decide⟩, by decide +kernel, wt (List.mem_of_getElem? (i := 431) (by decide +kernel)) rfl, wt (List.mem_of_getElem? (i := 432) (by decide +kernel)) rfl⟩
theorem lX7_abs205 : MLm RX7 205 Lib.Math.abs.name Lib.Math.abs.code 1 := ⟨wt (List.mem_of_getElem? (i := 592) (by decide +kernel)) rfl, wt (List.mem_of_getElem? (i := 593) (by decide +kernel)) rfl, wt (List.mem_of_getElem? (i := 64) (by decide +kernel)) rfl, wt (List.mem_of_getElem? (i := 594) (by decide +kernel)) rfl⟩
theorem lX7_odds_165 : MLV RX7 165 mX7_odds mX1_becomes 1 := ⟨⟨wt (List.mem_of_getElem? (i := 505) (by decide +kernel)) rfl, wt (List.mem_of_getElem? (i := 58) (by decide +kernel)) rfl, wt (List.mem_of_getElem? (i := 508) (by decide +kernel)) rfl, by decide +kernel, by decide, by decide⟩, by decide +kernel, wt (List.mem_of_getElem? (i := 506) (by decide +kernel)) rfl, wt (List.mem_of_getElem? (i := 507) (by decide +kernel)) rfl⟩
theorem lX7_odds_225 : MLV RX7 225 mX7_odds mX3_begunBy 1 := ⟨⟨wt (List.mem_of_getElem? (i := 628) (by decide +kernel)) rfl, wt (List.mem_of_getElem? (i := 61) (by decide +kernel)) rfl, wt (List.mem_of_getElem? (i := 631) (by decide +kernel)) rfl, by decide +kernel, by decide, by decide⟩, by decide +kernel, wt (List.mem_of_getElem? (i := 629) (by decide +kernel)) rfl, wt (List.mem_of_getElem? (i := 630) (by decide +kernel)) rfl⟩
theorem lX7_odds_229 : MLV RX7 229 mX7_odds mX3_lowest 2 := ⟨⟨wt (List.mem_of_getElem? (i := 637) (by decide +kernel)) rfl, wt (List.mem_of_getElem? (i := 61) (by decide +kernel)) rfl, wt (List.mem_of_getElem? (i := 640) (by decide +kernel)) rfl, by decide +kernel, by decide, by decide⟩, by decide +kernel, wt (List.mem_of_getElem? (i := 638) (by decide +kernel)) rfl, wt (List.mem_of_getElem? (i := 639) (by decide +kernel)) rfl⟩
theorem lX7_pays_151 : MLV RX7 151 mX7_pays mX1_together 0 := ⟨⟨wt (List.mem_of_getElem? (i := 469) (by decide +kernel)) rfl, wt (List.mem_of_getElem? (i := 58) (by decide +kernel)) rfl, wt (List.mem_of_getElem? (i := 472) (by decide +kernel)) rfl, by decide +kernel, by decide, by decide⟩, by decide +kernel, wt (List.mem_of_getElem? (i := 470) (by decide +kernel)) rfl, wt (List.mem_of_getElem? (i := 471) (by decide +kernel)) rfl⟩
theorem lX7_pays_114 : MLV RX7 114 mX7_pays mX7_isComer 1 := ⟨⟨wt (List.mem_of_getElem? (i := 362) (by decide +kernel)) rfl, wt (List.mem_of_getElem? (i := 55) (by decide +kernel)) rfl, wt (List.mem_of_getElem? (i := 365) (by decide +kernel)) rfl, by decide +kernel, by decide, by decide⟩, by decide +kernel, wt (List.mem_of_getElem? (i := 364) (by decide +kernel)) rfl, wt (List.mem_of_getElem? (i := 1) (by decide +kernel)) rfl⟩
theorem lX7_pays_144 : MLV RX7 144 mX7_pays mX1_reckon 0 := ⟨⟨wt (List.mem_of_getElem? (i := 430) (by decide +kernel)) rfl, wt (List.mem_of_getElem? (i := 58) (by decide +kernel)) rfl, wt (List.mem_of_getElem? (i := 433) (by decide +kernel)) rfl, by decide +kernel, by decide, by decide⟩, by decide +kernel, wt (List.mem_of_getElem? (i := 431) (by decide +kernel)) rfl, wt (List.mem_of_getElem? (i := 432) (by decide +kernel)) rfl⟩
theorem lX7_pays_154 : MLV RX7 154 mX7_pays mX1_price 3 := ⟨⟨wt (List.mem_of_getElem? (i := 478) (by decide +kernel)) rfl, wt (List.mem_of_getElem? (i := 58) (by decide +kernel)) rfl, wt (List.mem_of_getElem? (i := 477) (by decide +kernel)) rfl, by decide +kernel, by decide, by decide⟩, by decide +kernel, wt (List.mem_of_getElem? (i := 475) (by decide +kernel)) rfl, wt (List.mem_of_getElem? (i := 476) (by decide +kernel)) rfl⟩
theorem lX7_put_97 : MLS RX7 97 mX7_put mX7_isSheet 1 := ⟨⟨wt (List.mem_of_getElem? (i := 347) (by decide +kernel)) rfl, wt (List.mem_of_getElem? (i := 55) (by decide +kernel)) rfl, wt (List.mem_of_getElem? (i := 349) (by decide +kernel)) rfl, by decide +kernel, by decide, by decide⟩, by decide +kernel, wt (List.mem_of_getElem? (i := 348) (by decide +kernel)) rfl⟩
theorem lX7_put_238 : MLS RX7 238 mX7_put mX7_isForm 1 := ⟨⟨wt (List.mem_of_getElem? (i := 661) (by decide +kernel)) rfl, wt (List.mem_of_getElem? (i := 55) (by decide +kernel)) rfl, wt (List.mem_of_getElem? (i := 663) (by decide +kernel)) rfl, by decide +kernel, by decide, by decide⟩, by decide +kernel, wt (List.mem_of_getElem? (i := 662) (by decide +kernel)) rfl⟩
theorem lX7_put_247 : MLV RX7 247 mX7_put mX5_findingAt 3 := ⟨⟨wt (List.mem_of_getElem? (i := 680) (by decide +kernel)) rfl, wt (List.mem_of_getElem? (i := 62) (by decide +kernel)) rfl, wt (List.mem_of_getElem? (i := 683) (by decide +kernel)) rfl, by decide +kernel, by decide, by decide⟩, by decide +kernel, wt (List.mem_of_getElem? (i := 681) (by decide +kernel)) rfl, wt (List.mem_of_getElem? (i := 682) (by decide +kernel)) rfl⟩
theorem lX7_put_103 : MLV RX7 103 mX7_put mX5_finds 1 := ⟨⟨wt (List.mem_of_getElem? (i := 354) (by decide +kernel)) rfl, wt (List.mem_of_getElem? (i := 62) (by decide +kernel)) rfl, wt (List.mem_of_getElem? (i := 357) (by decide +kernel)) rfl, by decide +kernel, by decide, by decide⟩, by decide +kernel, wt (List.mem_of_getElem? (i := 355) (by decide +kernel)) rfl, wt (List.mem_of_getElem? (i := 356) (by decide +kernel)) rfl⟩
theorem lX7_put_250 : MLV RX7 250 mX7_put mX5_lowest 2 := ⟨⟨wt (List.mem_of_getElem? (i := 685) (by decide +kernel)) rfl, wt (List.mem_of_getElem? (i := 62) (by decide +kernel)) rfl, wt (List.mem_of_getElem? (i := 688) (by decide +kernel)) rfl, by decide +kernel, by decide, by decide⟩, by decide +kernel, wt (List.mem_of_getElem? (i := 686) (by decide +kernel)) rfl, wt (List.mem_of_getElem? (i := 687) (by decide +kernel)) rfl⟩
theorem lX7_read_97 : MLS RX7 97 mX7_read mX7_isSheet 1 := ⟨⟨wt (List.mem_of_getElem? (i := 347) (by decide +kernel)) rfl, wt (List.mem_of_getElem? (i := 55) (by decide +kernel)) rfl, wt (List.mem_of_getElem? (i := 349) (by decide +kernel)) rfl, by decide +kernel, by decide, by decide⟩, by decide +kernel, wt (List.mem_of_getElem? (i := 348) (by decide +kernel)) rfl⟩
theorem lX7_read_100 : MLV RX7 100 mX7_read mX5_isGone 1 := ⟨⟨wt (List.mem_of_getElem? (i := 350) (by decide +kernel)) rfl, wt (List.mem_of_getElem? (i := 62) (by decide +kernel)) rfl, wt (List.mem_of_getElem? (i := 353) (by decide +kernel)) rfl, by decide +kernel, by decide, by decide⟩, by decide +kernel, wt (List.mem_of_getElem? (i := 351) (by decide +kernel)) rfl, wt (List.mem_of_getElem? (i := 352) (by decide +kernel)) rfl⟩
theorem lX7_read_103 : MLV RX7 103 mX7_read mX5_finds 1 := ⟨⟨wt (List.mem_of_getElem? (i := 354) (by decide +kernel)) rfl, wt (List.mem_of_getElem? (i := 62) (by decide +kernel)) rfl, wt (List.mem_of_getElem? (i := 357) (by decide +kernel)) rfl, by decide +kernel, by decide, by decide⟩, by decide +kernel, wt (List.mem_of_getElem? (i := 355) (by decide +kernel)) rfl, wt (List.mem_of_getElem? (i := 356) (by decide +kernel)) rfl⟩
theorem lX7_read_94 : MLS RX7 94 mX7_read mX7_mayAim 1 := ⟨⟨wt (List.mem_of_getElem? (i := 332) (by decide +kernel)) rfl, wt (List.mem_of_getElem? (i := 55) (by decide +kernel)) rfl, wt (List.mem_of_getElem? (i := 334) (by decide +kernel)) rfl, by decide +kernel, by decide, by decide⟩, by decide +kernel, wt (List.mem_of_getElem? (i := 333) (by decide +kernel)) rfl⟩
theorem lX7_restless_162 : MLV RX7 162 mX7_restless mX1_firstRestless 0 := ⟨⟨wt (List.mem_of_getElem? (i := 492) (by decide +kernel)) rfl, wt (List.mem_of_getElem? (i := 58) (by decide +kernel)) rfl, wt (List.mem_of_getElem? (i := 495) (by decide +kernel)) rfl, by decide +kernel, by decide, by decide⟩, by decide +kernel, wt (List.mem_of_getElem? (i := 493) (by decide +kernel)) rfl, wt (List.mem_of_getElem? (i := 494) (by decide +kernel)) rfl⟩
theorem lX7_rests_172 : MLS RX7 172 mX7_rests mX7_isStep 1 := ⟨⟨wt (List.mem_of_getElem? (i := 517) (by decide +kernel)) rfl, wt (List.mem_of_getElem? (i := 55) (by decide +kernel)) rfl, wt (List.mem_of_getElem? (i := 519) (by decide +kernel)) rfl, by decide +kernel, by decide, by decide⟩, by decide +kernel, wt (List.mem_of_getElem? (i := 518) (by decide +kernel)) rfl⟩
theorem lX7_rests_90 : MLV RX7 90 mX7_rests mX7_isPlain 1 := ⟨⟨wt (List.mem_of_getElem? (i := 339) (by decide +kernel)) rfl, wt (List.mem_of_getElem? (i := 55) (by decide +kernel)) rfl, wt (List.mem_of_getElem? (i := 342) (by decide +kernel)) rfl, by decide +kernel, by decide, by decide⟩, by decide +kernel, wt (List.mem_of_getElem? (i := 341) (by decide +kernel)) rfl, wt (List.mem_of_getElem? (i := 0) (by decide +kernel)) rfl⟩
theorem lX7_rests_175 : MLV RX7 175 mX7_rests mX1_plainBits 0 := ⟨⟨wt (List.mem_of_getElem? (i := 520) (by decide +kernel)) rfl, wt (List.mem_of_getElem? (i := 58) (by decide +kernel)) rfl, wt (List.mem_of_getElem? (i := 523) (by decide +kernel)) rfl, by decide +kernel, by decide, by decide⟩, by decide +kernel, wt (List.mem_of_getElem? (i := 521) (by decide +kernel)) rfl, wt (List.mem_of_getElem? (i := 522) (by decide +kernel)) rfl⟩
theorem lX7_rests_178 : MLS RX7 178 mX7_rests mJ6_bitCount_0f7a4 1 := ⟨⟨wt (List.mem_of_getElem? (i := 524) (by decide +kernel)) rfl, wt (List.mem_of_getElem? (i := 66) (by decide +kernel)) rfl, wt (List.mem_of_getElem? (i := 526) (by decide +kernel)) rfl, by decide +kernel, by decide, by decide⟩, by decide +kernel, wt (List.mem_of_getElem? (i := 525) (by decide +kernel)) rfl⟩
theorem lX7_rests_165 : MLV RX7 165 mX7_rests mX1_becomes 1 := ⟨⟨wt (List.mem_of_getElem? (i := 505) (by decide +kernel)) rfl, wt (List.mem_of_getElem? (i := 58) (by decide +kernel)) rfl, wt (List.mem_of_getElem? (i := 508) (by decide +kernel)) rfl, by decide +kernel, by decide, by decide⟩, by decide +kernel, wt (List.mem_of_getElem? (i := 506) (by decide +kernel)) rfl, wt (List.mem_of_getElem? (i := 507) (by decide +kernel)) rfl⟩
theorem lX7_rests_183 : MLV RX7 183 mX7_rests mX2_lay 1 := ⟨⟨wt (List.mem_of_getElem? (i := 530) (by decide +kernel)) rfl, wt (List.mem_of_getElem? (i := 59) (by decide +kernel)) rfl, wt (List.mem_of_getElem? (i := 533) (by decide +kernel)) rfl, by decide +kernel, by decide, by decide⟩, by decide +kernel, wt (List.mem_of_getElem? (i := 531) (by decide +kernel)) rfl, wt (List.mem_of_getElem? (i := 532) (by decide +kernel)) rfl⟩
theorem lX7_rests_187 : MLV RX7 187 mX7_rests mX2_walk 1 := ⟨⟨wt (List.mem_of_getElem? (i := 534) (by decide +kernel)) rfl, wt (List.mem_of_getElem? (i := 59) (by decide +kernel)) rfl, wt (List.mem_of_getElem? (i := 537) (by decide +kernel)) rfl, by decide +kernel, by decide, by decide⟩, by decide +kernel, wt (List.mem_of_getElem? (i := 535) (by decide +kernel)) rfl, wt (List.mem_of_getElem? (i := 536) (by decide +kernel)) rfl⟩
theorem lX7_round_165 : MLV RX7 165 mX7_round mX1_becomes 1 := ⟨⟨wt (List.mem_of_getElem? (i := 505) (by decide +kernel)) rfl, wt (List.mem_of_getElem? (i := 58) (by decide +kernel)) rfl, wt (List.mem_of_getElem? (i := 508) (by decide +kernel)) rfl, by decide +kernel, by decide, by decide⟩, by decide +kernel, wt (List.mem_of_getElem? (i := 506) (by decide +kernel)) rfl, wt (List.mem_of_getElem? (i := 507) (by decide +kernel)) rfl⟩
theorem lX7_round_193 : MLV RX7 193 mX7_round mX6_run 1 := ⟨⟨wt (List.mem_of_getElem? (i := 567) (by decide +kernel)) rfl, wt (List.mem_of_getElem? (i := 60) (by decide +kernel)) rfl, wt (List.mem_of_getElem? (i := 570) (by decide +kernel)) rfl, by decide +kernel, by decide, by decide⟩, by decide +kernel, wt (List.mem_of_getElem? (i := 568) (by decide +kernel)) rfl, wt (List.mem_of_getElem? (i := 569) (by decide +kernel)) rfl⟩
theorem lX7_sheet_97 : MLS RX7 97 mX7_sheet mX7_isSheet 1 := ⟨⟨wt (List.mem_of_getElem? (i := 347) (by decide +kernel)) rfl, wt (List.mem_of_getElem? (i := 55) (by decide +kernel)) rfl, wt (List.mem_of_getElem? (i := 349) (by decide +kernel)) rfl, by decide +kernel, by decide, by decide⟩, by decide +kernel, wt (List.mem_of_getElem? (i := 348) (by decide +kernel)) rfl⟩
theorem lX7_sheet_238 : MLS RX7 238 mX7_sheet mX7_isForm 1 := ⟨⟨wt (List.mem_of_getElem? (i := 661) (by decide +kernel)) rfl, wt (List.mem_of_getElem? (i := 55) (by decide +kernel)) rfl, wt (List.mem_of_getElem? (i := 663) (by decide +kernel)) rfl, by decide +kernel, by decide, by decide⟩, by decide +kernel, wt (List.mem_of_getElem? (i := 662) (by decide +kernel)) rfl⟩
theorem lX7_sheet_103 : MLV RX7 103 mX7_sheet mX5_finds 1 := ⟨⟨wt (List.mem_of_getElem? (i := 354) (by decide +kernel)) rfl, wt (List.mem_of_getElem? (i := 62) (by decide +kernel)) rfl, wt (List.mem_of_getElem? (i := 357) (by decide +kernel)) rfl, by decide +kernel, by decide, by decide⟩, by decide +kernel, wt (List.mem_of_getElem? (i := 355) (by decide +kernel)) rfl, wt (List.mem_of_getElem? (i := 356) (by decide +kernel)) rfl⟩
theorem lX7_sheet_241 : MLV RX7 241 mX7_sheet mX5_lay 3 := ⟨⟨wt (List.mem_of_getElem? (i := 664) (by decide +kernel)) rfl, wt (List.mem_of_getElem? (i := 62) (by decide +kernel)) rfl, wt (List.mem_of_getElem? (i := 667) (by decide +kernel)) rfl, by decide +kernel, by decide, by decide⟩, by decide +kernel, wt (List.mem_of_getElem? (i := 665) (by decide +kernel)) rfl, wt (List.mem_of_getElem? (i := 666) (by decide +kernel)) rfl⟩
theorem lX7_sure_90 : MLV RX7 90 mX7_sure mX7_isPlain 1 := ⟨⟨wt (List.mem_of_getElem? (i := 339) (by decide +kernel)) rfl, wt (List.mem_of_getElem? (i := 55) (by decide +kernel)) rfl, wt (List.mem_of_getElem? (i := 342) (by decide +kernel)) rfl, by decide +kernel, by decide, by decide⟩, by decide +kernel, wt (List.mem_of_getElem? (i := 341) (by decide +kernel)) rfl, wt (List.mem_of_getElem? (i := 0) (by decide +kernel)) rfl⟩
theorem lX7_sure_165 : MLV RX7 165 mX7_sure mX1_becomes 1 := ⟨⟨wt (List.mem_of_getElem? (i := 505) (by decide +kernel)) rfl, wt (List.mem_of_getElem? (i := 58) (by decide +kernel)) rfl, wt (List.mem_of_getElem? (i := 508) (by decide +kernel)) rfl, by decide +kernel, by decide, by decide⟩, by decide +kernel, wt (List.mem_of_getElem? (i := 506) (by decide +kernel)) rfl, wt (List.mem_of_getElem? (i := 507) (by decide +kernel)) rfl⟩
theorem lX7_sure_233 : MLV RX7 233 mX7_sure mX3_priceOf 1 := ⟨⟨wt (List.mem_of_getElem? (i := 647) (by decide +kernel)) rfl, wt (List.mem_of_getElem? (i := 61) (by decide +kernel)) rfl, wt (List.mem_of_getElem? (i := 650) (by decide +kernel)) rfl, by decide +kernel, by decide, by decide⟩, by decide +kernel, wt (List.mem_of_getElem? (i := 648) (by decide +kernel)) rfl, wt (List.mem_of_getElem? (i := 649) (by decide +kernel)) rfl⟩
theorem lX7_trialIsInTime_168 : MLV RX7 168 mX7_trialIsInTime mX1_climbs 1 := ⟨⟨wt (List.mem_of_getElem? (i := 509) (by decide +kernel)) rfl, wt (List.mem_of_getElem? (i := 58) (by decide +kernel)) rfl, wt (List.mem_of_getElem? (i := 512) (by decide +kernel)) rfl, by decide +kernel, by decide, by decide⟩, by decide +kernel, wt (List.mem_of_getElem? (i := 510) (by decide +kernel)) rfl, wt (List.mem_of_getElem? (i := 511) (by decide +kernel)) rfl⟩
theorem lX7_trialIsInTime_144 : MLV RX7 144 mX7_trialIsInTime mX1_reckon 0 := ⟨⟨wt (List.mem_of_getElem? (i := 430) (by decide +kernel)) rfl, wt (List.mem_of_getElem? (i := 58) (by decide +kernel)) rfl, wt (List.mem_of_getElem? (i := 433) (by decide +kernel)) rfl, by decide +kernel, by decide, by decide⟩, by decide +kernel, wt (List.mem_of_getElem? (i := 431) (by decide +kernel)) rfl, wt (List.mem_of_getElem? (i := 432) (by decide +kernel)) rfl⟩
theorem lX7_type_132 : MLV RX7 132 mX7_type mX4_takes 1 := ⟨⟨wt (List.mem_of_getElem? (i := 379) (by decide +kernel)) rfl, wt (List.mem_of_getElem? (i := 57) (by decide +kernel)) rfl, wt (List.mem_of_getElem? (i := 382) (by decide +kernel)) rfl, by decide +kernel, by decide, by decide⟩, by decide +kernel, wt (List.mem_of_getElem? (i := 380) (by decide +kernel)) rfl, wt (List.mem_of_getElem? (i := 381) (by decide +kernel)) rfl⟩
theorem lX7_week_165 : MLV RX7 165 mX7_week mX1_becomes 1 := ⟨⟨wt (List.mem_of_getElem? (i := 505) (by decide +kernel)) rfl, wt (List.mem_of_getElem? (i := 58) (by decide +kernel)) rfl, wt (List.mem_of_getElem? (i := 508) (by decide +kernel)) rfl, by decide +kernel, by decide, by decide⟩, by decide +kernel, wt (List.mem_of_getElem? (i := 506) (by decide +kernel)) rfl, wt (List.mem_of_getElem? (i := 507) (by decide +kernel)) rfl⟩
theorem lX7_week_193 : MLV RX7 193 mX7_week mX6_run 1 := ⟨⟨wt (List.mem_of_getElem? (i := 567) (by decide +kernel)) rfl, wt (List.mem_of_getElem? (i := 60) (by decide +kernel)) rfl, wt (List.mem_of_getElem? (i := 570) (by decide +kernel)) rfl, by decide +kernel, by decide, by decide⟩, by decide +kernel, wt (List.mem_of_getElem? (i := 568) (by decide +kernel)) rfl, wt (List.mem_of_getElem? (i := 569) (by decide +kernel)) rfl⟩
theorem lX7_wipe_138 : MLV RX7 138 mX7_wipe mX4_empties 0 := ⟨⟨wt (List.mem_of_getElem? (i := 418) (by decide +kernel)) rfl, wt (List.mem_of_getElem? (i := 57) (by decide +kernel)) rfl, wt (List.mem_of_getElem? (i := 421) (by decide +kernel)) rfl, by decide +kernel, by decide, by decide⟩, by decide +kernel, wt (List.mem_of_getElem? (i := 419) (by decide +kernel)) rfl, wt (List.mem_of_getElem? (i := 420) (by decide +kernel)) rfl⟩
theorem lX7_write_97 : MLS RX7 97 mX7_write mX7_isSheet 1 := ⟨⟨wt (List.mem_of_getElem? (i := 347) (by decide +kernel)) rfl, wt (List.mem_of_getElem? (i := 55) (by decide +kernel)) rfl, wt (List.mem_of_getElem? (i := 349) (by decide +kernel)) rfl, by decide +kernel, by decide, by decide⟩, by decide +kernel, wt (List.mem_of_getElem? (i := 348) (by decide +kernel)) rfl⟩
theorem lX7_write_100 : MLV RX7 100 mX7_write mX5_isGone 1 := ⟨⟨wt (List.mem_of_getElem? (i := 350) (by decide +kernel)) rfl, wt (List.mem_of_getElem? (i := 62) (by decide +kernel)) rfl, wt (List.mem_of_getElem? (i := 353) (by decide +kernel)) rfl, by decide +kernel, by decide, by decide⟩, by decide +kernel, wt (List.mem_of_getElem? (i := 351) (by decide +kernel)) rfl, wt (List.mem_of_getElem? (i := 352) (by decide +kernel)) rfl⟩
theorem lX7_write_103 : MLV RX7 103 mX7_write mX5_finds 1 := ⟨⟨wt (List.mem_of_getElem? (i := 354) (by decide +kernel)) rfl, wt (List.mem_of_getElem? (i := 62) (by decide +kernel)) rfl, wt (List.mem_of_getElem? (i := 357) (by decide +kernel)) rfl, by decide +kernel, by decide, by decide⟩, by decide +kernel, wt (List.mem_of_getElem? (i := 355) (by decide +kernel)) rfl, wt (List.mem_of_getElem? (i := 356) (by decide +kernel)) rfl⟩
theorem lX7_min266 : MLm RX7 266 Lib.Math.min.name Lib.Math.min.code 2 := ⟨wt (List.mem_of_getElem? (i := 707) (by decide +kernel)) rfl, wt (List.mem_of_getElem? (i := 561) (by decide +kernel)) rfl, wt (List.mem_of_getElem? (i := 64) (by decide +kernel)) rfl, wt (List.mem_of_getElem? (i := 562) (by decide +kernel)) rfl⟩
theorem lX7_write_165 : MLV RX7 165 mX7_write mX1_becomes 1 := ⟨⟨wt (List.mem_of_getElem? (i := 505) (by decide +kernel)) rfl, wt (List.mem_of_getElem? (i := 58) (by decide +kernel)) rfl, wt (List.mem_of_getElem? (i := 508) (by decide +kernel)) rfl, by decide +kernel, by decide, by decide⟩, by decide +kernel, wt (List.mem_of_getElem? (i := 506) (by decide +kernel)) rfl, wt (List.mem_of_getElem? (i := 507) (by decide +kernel)) rfl⟩
theorem lX7_write_193 : MLV RX7 193 mX7_write mX6_run 1 := ⟨⟨wt (List.mem_of_getElem? (i := 567) (by decide +kernel)) rfl, wt (List.mem_of_getElem? (i := 60) (by decide +kernel)) rfl, wt (List.mem_of_getElem? (i := 570) (by decide +kernel)) rfl, by decide +kernel, by decide, by decide⟩, by decide +kernel, wt (List.mem_of_getElem? (i := 568) (by decide +kernel)) rfl, wt (List.mem_of_getElem? (i := 569) (by decide +kernel)) rfl⟩
theorem lX8_aim_107 : MLV RX8 107 mX8_aim mX8_isPlain 1 := ⟨⟨wt (List.mem_of_getElem? (i := 904) (by decide +kernel)) rfl, wt (List.mem_of_getElem? (i := 63) (by decide +kernel)) rfl, wt (List.mem_of_getElem? (i := 907) (by decide +kernel)) rfl, by decide +kernel, by decide, by decide⟩, by decide +kernel, wt (List.mem_of_getElem? (i := 906) (by decide +kernel)) rfl, wt (List.mem_of_getElem? (i := 21) (by decide +kernel)) rfl⟩
theorem lX8_aim_95 : MLS RX8 95 mX8_aim mX8_in 3 := ⟨⟨wt (List.mem_of_getElem? (i := 897) (by decide +kernel)) rfl, wt (List.mem_of_getElem? (i := 63) (by decide +kernel)) rfl, wt (List.mem_of_getElem? (i := 899) (by decide +kernel)) rfl, by decide +kernel, by decide, by decide⟩, by decide +kernel, wt (List.mem_of_getElem? (i := 898) (by decide +kernel)) rfl⟩
theorem lX8_begins_190 : MLV RX8 190 mX8_begins mX8_asTold 0 := ⟨⟨wt (List.mem_of_getElem? (i := 963) (by decide +kernel)) rfl, wt (List.mem_of_getElem? (i := 63) (by decide +kernel)) rfl, wt (List.mem_of_getElem? (i := 966) (by decide +kernel)) rfl, by decide +kernel, by decide, by decide⟩, by decide +kernel, wt (List.mem_of_getElem? (i := 965) (by decide +kernel)) rfl, wt (List.mem_of_getElem? (i := 28) (by decide +kernel)) rfl⟩
theorem lX8_begins_193 : MLV RX8 193 mX8_begins mX8_goes 0 := ⟨⟨wt (List.mem_of_getElem? (i := 967) (by decide +kernel)) rfl, wt (List.mem_of_getElem? (i := 63) (by decide +kernel)) rfl, wt (List.mem_of_getElem? (i := 970) (by decide +kernel)) rfl, by decide +kernel, by decide, by decide⟩, by decide +kernel, wt (List.mem_of_getElem? (i := 969) (by decide +kernel)) rfl, wt (List.mem_of_getElem? (i := 29) (by decide +kernel)) rfl⟩
theorem lX8_best_107 : MLV RX8 107 mX8_best mX8_isPlain 1 := ⟨⟨wt (List.mem_of_getElem? (i := 904) (by decide +kernel)) rfl, wt (List.mem_of_getElem? (i := 63) (by decide +kernel)) rfl, wt (List.mem_of_getElem? (i := 907) (by decide +kernel)) rfl, by decide +kernel, by decide, by decide⟩, by decide +kernel, wt (List.mem_of_getElem? (i := 906) (by decide +kernel)) rfl, wt (List.mem_of_getElem? (i := 21) (by decide +kernel)) rfl⟩
theorem lX8_best_190 : MLV RX8 190 mX8_best mX8_asTold 0 := ⟨⟨wt (List.mem_of_getElem? (i := 963) (by decide +kernel)) rfl, wt (List.mem_of_getElem? (i := 63) (by decide +kernel)) rfl, wt (List.mem_of_getElem? (i := 966) (by decide +kernel)) rfl, by decide +kernel, by decide, by decide⟩, by decide +kernel, wt (List.mem_of_getElem? (i := 965) (by decide +kernel)) rfl, wt (List.mem_of_getElem? (i := 28) (by decide +kernel)) rfl⟩
theorem lX8_best_199 : MLV RX8 199 mX8_best mX8_bestOf 2 := ⟨⟨wt (List.mem_of_getElem? (i := 1003) (by decide +kernel)) rfl, wt (List.mem_of_getElem? (i := 63) (by decide +kernel)) rfl, wt (List.mem_of_getElem? (i := 1006) (by decide +kernel)) rfl, by decide +kernel, by decide, by decide⟩, by decide +kernel, wt (List.mem_of_getElem? (i := 1005) (by decide +kernel)) rfl, wt (List.mem_of_getElem? (i := 35) (by decide +kernel)) rfl⟩
theorem lX8_bestOf_193 : MLV RX8 193 mX8_bestOf mX8_goes 0 := ⟨⟨wt (List.mem_of_getElem? (i := 967) (by decide +kernel)) rfl, wt (List.mem_of_getElem? (i := 63) (by decide +kernel)) rfl, wt (List.mem_of_getElem? (i := 970) (by decide +kernel)) rfl, by decide +kernel, by decide, by decide⟩, by decide +kernel, wt (List.mem_of_getElem? (i := 969) (by decide +kernel)) rfl, wt (List.mem_of_getElem? (i := 29) (by decide +kernel)) rfl⟩
theorem lX8_bestOf_187 : MLV RX8 187 mX8_bestOf mX8_paysNow 1 := ⟨⟨wt (List.mem_of_getElem? (i := 995) (by decide +kernel)) rfl, wt (List.mem_of_getElem? (i := 63) (by decide +kernel)) rfl, wt (List.mem_of_getElem? (i := 998) (by decide +kernel)) rfl, by decide +kernel, by decide, by decide⟩, by decide +kernel, wt (List.mem_of_getElem? (i := 997) (by decide +kernel)) rfl, wt (List.mem_of_getElem? (i := 34) (by decide +kernel)) rfl⟩
theorem lX8_climb_107 : MLV RX8 107 mX8_climb mX8_isPlain 1 := ⟨⟨wt (List.mem_of_getElem? (i := 904) (by decide +kernel)) rfl, wt (List.mem_of_getElem? (i := 63) (by decide +kernel)) rfl, wt (List.mem_of_getElem? (i := 907) (by decide +kernel)) rfl, by decide +kernel, by decide, by decide⟩, by decide +kernel, wt (List.mem_of_getElem? (i := 906) (by decide +kernel)) rfl, wt (List.mem_of_getElem? (i := 21) (by decide +kernel)) rfl⟩
theorem lX8_climb_210 : MLV RX8 210 mX8_climb mX8_climbNow 1 := ⟨⟨wt (List.mem_of_getElem? (i := 1019) (by decide +kernel)) rfl, wt (List.mem_of_getElem? (i := 63) (by decide +kernel)) rfl, wt (List.mem_of_getElem? (i := 1022) (by decide +kernel)) rfl, by decide +kernel, by decide, by decide⟩, by decide +kernel, wt (List.mem_of_getElem? (i := 1021) (by decide +kernel)) rfl, wt (List.mem_of_getElem? (i := 37) (by decide +kernel)) rfl⟩
theorem lX8_climbNow_190 : MLV RX8 190 mX8_climbNow mX8_asTold 0 := ⟨⟨wt (List.mem_of_getElem? (i := 963) (by decide +kernel)) rfl, wt (List.mem_of_getElem? (i := 63) (by decide +kernel)) rfl, wt (List.mem_of_getElem? (i := 966) (by decide +kernel)) rfl, by decide +kernel, by decide, by decide⟩, by decide +kernel, wt (List.mem_of_getElem? (i := 965) (by decide +kernel)) rfl, wt (List.mem_of_getElem? (i := 28) (by decide +kernel)) rfl⟩
theorem lX8_climbNow_206 : MLV RX8 206 mX8_climbNow mX8_climbs 1 := ⟨⟨wt (List.mem_of_getElem? (i := 1023) (by decide +kernel)) rfl, wt (List.mem_of_getElem? (i := 63) (by decide +kernel)) rfl, wt (List.mem_of_getElem? (i := 1026) (by decide +kernel)) rfl, by decide +kernel, by decide, by decide⟩, by decide +kernel, wt (List.mem_of_getElem? (i := 1025) (by decide +kernel)) rfl, wt (List.mem_of_getElem? (i := 38) (by decide +kernel)) rfl⟩
theorem lX8_climbs_199 : MLV RX8 199 mX8_climbs mX8_bestOf 2 := ⟨⟨wt (List.mem_of_getElem? (i := 1003) (by decide +kernel)) rfl, wt (List.mem_of_getElem? (i := 63) (by decide +kernel)) rfl, wt (List.mem_of_getElem? (i := 1006) (by decide +kernel)) rfl, by decide +kernel, by decide, by decide⟩, by decide +kernel, wt (List.mem_of_getElem? (i := 1005) (by decide +kernel)) rfl, wt (List.mem_of_getElem? (i := 35) (by decide +kernel)) rfl⟩
theorem lX8_climbs_193 : MLV RX8 193 mX8_climbs mX8_goes 0 := ⟨⟨wt (List.mem_of_getElem? (i := 967) (by decide +kernel)) rfl, wt (List.mem_of_getElem? (i := 63) (by decide +kernel)) rfl, wt (List.mem_of_getElem? (i := 970) (by decide +kernel)) rfl, by decide +kernel, by decide, by decide⟩, by decide +kernel, wt (List.mem_of_getElem? (i := 969) (by decide +kernel)) rfl, wt (List.mem_of_getElem? (i := 29) (by decide +kernel)) rfl⟩
theorem lX8_comer_95 : MLS RX8 95 mX8_comer mX8_in 3 := ⟨⟨wt (List.mem_of_getElem? (i := 897) (by decide +kernel)) rfl, wt (List.mem_of_getElem? (i := 63) (by decide +kernel)) rfl, wt (List.mem_of_getElem? (i := 899) (by decide +kernel)) rfl, by decide +kernel, by decide, by decide⟩, by decide +kernel, wt (List.mem_of_getElem? (i := 898) (by decide +kernel)) rfl⟩
theorem lX8_comes_103 : MLV RX8 103 mX8_comes mX8_isComer 1 := ⟨⟨wt (List.mem_of_getElem? (i := 908) (by decide +kernel)) rfl, wt (List.mem_of_getElem? (i := 63) (by decide +kernel)) rfl, wt (List.mem_of_getElem? (i := 911) (by decide +kernel)) rfl, by decide +kernel, by decide, by decide⟩, by decide +kernel, wt (List.mem_of_getElem? (i := 910) (by decide +kernel)) rfl, wt (List.mem_of_getElem? (i := 22) (by decide +kernel)) rfl⟩
theorem lX8_comes_190 : MLV RX8 190 mX8_comes mX8_asTold 0 := ⟨⟨wt (List.mem_of_getElem? (i := 963) (by decide +kernel)) rfl, wt (List.mem_of_getElem? (i := 63) (by decide +kernel)) rfl, wt (List.mem_of_getElem? (i := 966) (by decide +kernel)) rfl, by decide +kernel, by decide, by decide⟩, by decide +kernel, wt (List.mem_of_getElem? (i := 965) (by decide +kernel)) rfl, wt (List.mem_of_getElem? (i := 28) (by decide +kernel)) rfl⟩
theorem lX8_comes_193 : MLV RX8 193 mX8_comes mX8_goes 0 := ⟨⟨wt (List.mem_of_getElem? (i := 967) (by decide +kernel)) rfl, wt (List.mem_of_getElem? (i := 63) (by decide +kernel)) rfl, wt (List.mem_of_getElem? (i := 970) (by decide +kernel)) rfl, by decide +kernel, by decide, by decide⟩, by decide +kernel, wt (List.mem_of_getElem? (i := 969) (by decide +kernel)) rfl, wt (List.mem_of_getElem? (i := 29) (by decide +kernel)) rfl⟩
theorem lX8_comesAll_175 : MLV RX8 175 mX8_comesAll mX8_looks 1 := ⟨⟨wt (List.mem_of_getElem? (i := 975) (by decide +kernel)) rfl, wt (List.mem_of_getElem? (i := 63) (by decide +kernel)) rfl, wt (List.mem_of_getElem? (i := 978) (by decide +kernel)) rfl, by decide +kernel, by decide, by decide⟩, by decide +kernel, wt (List.mem_of_getElem? (i := 977) (by decide +kernel)) rfl, wt (List.mem_of_getElem? (i := 31) (by decide +kernel)) rfl⟩
theorem lX8_condition_136 : MLV RX8 136 mX8_condition mX8_byteNow 0 := ⟨⟨wt (List.mem_of_getElem? (i := 951) (by decide +kernel)) rfl, wt (List.mem_of_getElem? (i := 63) (by decide +kernel)) rfl, wt (List.mem_of_getElem? (i := 954) (by decide +kernel)) rfl, by decide +kernel, by decide, by decide⟩, by decide +kernel, wt (List.mem_of_getElem? (i := 953) (by decide +kernel)) rfl, wt (List.mem_of_getElem? (i := 26) (by decide +kernel)) rfl⟩
theorem lX8_condition_146 : MLV RX8 146 mX8_condition mX8_number 3 := ⟨⟨wt (List.mem_of_getElem? (i := 955) (by decide +kernel)) rfl, wt (List.mem_of_getElem? (i := 63) (by decide +kernel)) rfl, wt (List.mem_of_getElem? (i := 958) (by decide +kernel)) rfl, by decide +kernel, by decide, by decide⟩, by decide +kernel, wt (List.mem_of_getElem? (i := 957) (by decide +kernel)) rfl, wt (List.mem_of_getElem? (i := 27) (by decide +kernel)) rfl⟩
theorem lX8_copy_110 : MLS RX8 110 mX8_copy mX8_isSheet 1 := ⟨⟨wt (List.mem_of_getElem? (i := 916) (by decide +kernel)) rfl, wt (List.mem_of_getElem? (i := 63) (by decide +kernel)) rfl, wt (List.mem_of_getElem? (i := 918) (by decide +kernel)) rfl, by decide +kernel, by decide, by decide⟩, by decide +kernel, wt (List.mem_of_getElem? (i := 917) (by decide +kernel)) rfl⟩
theorem lX8_copy_113 : MLV RX8 113 mX8_copy mX8_meets 1 := ⟨⟨wt (List.mem_of_getElem? (i := 919) (by decide +kernel)) rfl, wt (List.mem_of_getElem? (i := 63) (by decide +kernel)) rfl, wt (List.mem_of_getElem? (i := 922) (by decide +kernel)) rfl, by decide +kernel, by decide, by decide⟩, by decide +kernel, wt (List.mem_of_getElem? (i := 921) (by decide +kernel)) rfl, wt (List.mem_of_getElem? (i := 23) (by decide +kernel)) rfl⟩
theorem lX8_cost_103 : MLV RX8 103 mX8_cost mX8_isComer 1 := ⟨⟨wt (List.mem_of_getElem? (i := 908) (by decide +kernel)) rfl, wt (List.mem_of_getElem? (i := 63) (by decide +kernel)) rfl, wt (List.mem_of_getElem? (i := 911) (by decide +kernel)) rfl, by decide +kernel, by decide, by decide⟩, by decide +kernel, wt (List.mem_of_getElem? (i := 910) (by decide +kernel)) rfl, wt (List.mem_of_getElem? (i := 22) (by decide +kernel)) rfl⟩
theorem lX8_cost_95 : MLS RX8 95 mX8_cost mX8_in 3 := ⟨⟨wt (List.mem_of_getElem? (i := 897) (by decide +kernel)) rfl, wt (List.mem_of_getElem? (i := 63) (by decide +kernel)) rfl, wt (List.mem_of_getElem? (i := 899) (by decide +kernel)) rfl, by decide +kernel, by decide, by decide⟩, by decide +kernel, wt (List.mem_of_getElem? (i := 898) (by decide +kernel)) rfl⟩
theorem lX8_count_296 : MLV RX8 296 mX8_count mX8_sumOf 1 := ⟨⟨wt (List.mem_of_getElem? (i := 1169) (by decide +kernel)) rfl, wt (List.mem_of_getElem? (i := 63) (by decide +kernel)) rfl, wt (List.mem_of_getElem? (i := 1172) (by decide +kernel)) rfl, by decide +kernel, by decide, by decide⟩, by decide +kernel, wt (List.mem_of_getElem? (i := 1171) (by decide +kernel)) rfl, wt (List.mem_of_getElem? (i := 53) (by decide +kernel)) rfl⟩
theorem lX8_digest_303 : MLV RX8 303 mX8_digest mX8_count 1 := ⟨⟨wt (List.mem_of_getElem? (i := 1179) (by decide +kernel)) rfl, wt (List.mem_of_getElem? (i := 63) (by decide +kernel)) rfl, wt (List.mem_of_getElem? (i := 1168) (by decide +kernel)) rfl, by decide +kernel, by decide, by decide⟩, by decide +kernel, wt (List.mem_of_getElem? (i := 1166) (by decide +kernel)) rfl, wt (List.mem_of_getElem? (i := 1167) (by decide +kernel)) rfl⟩
theorem lX8_digest_154 : MLV RX8 154 mX8_digest mX8_faultNow 0 := ⟨⟨wt (List.mem_of_getElem? (i := 943) (by decide +kernel)) rfl, wt (List.mem_of_getElem? (i := 63) (by decide +kernel)) rfl, wt (List.mem_of_getElem? (i := 946) (by decide +kernel)) rfl, by decide +kernel, by decide, by decide⟩, by decide +kernel, wt (List.mem_of_getElem? (i := 945) (by decide +kernel)) rfl, wt (List.mem_of_getElem? (i := 24) (by decide +kernel)) rfl⟩
theorem lX8_digest_190 : MLV RX8 190 mX8_digest mX8_asTold 0 := ⟨⟨wt (List.mem_of_getElem? (i := 963) (by decide +kernel)) rfl, wt (List.mem_of_getElem? (i := 63) (by decide +kernel)) rfl, wt (List.mem_of_getElem? (i := 966) (by decide +kernel)) rfl, by decide +kernel, by decide, by decide⟩, by decide +kernel, wt (List.mem_of_getElem? (i := 965) (by decide +kernel)) rfl, wt (List.mem_of_getElem? (i := 28) (by decide +kernel)) rfl⟩
theorem lX8_digest_193 : MLV RX8 193 mX8_digest mX8_goes 0 := ⟨⟨wt (List.mem_of_getElem? (i := 967) (by decide +kernel)) rfl, wt (List.mem_of_getElem? (i := 63) (by decide +kernel)) rfl, wt (List.mem_of_getElem? (i := 970) (by decide +kernel)) rfl, by decide +kernel, by decide, by decide⟩, by decide +kernel, wt (List.mem_of_getElem? (i := 969) (by decide +kernel)) rfl, wt (List.mem_of_getElem? (i := 29) (by decide +kernel)) rfl⟩
theorem lX8_digest_187 : MLV RX8 187 mX8_digest mX8_paysNow 1 := ⟨⟨wt (List.mem_of_getElem? (i := 995) (by decide +kernel)) rfl, wt (List.mem_of_getElem? (i := 63) (by decide +kernel)) rfl, wt (List.mem_of_getElem? (i := 998) (by decide +kernel)) rfl, by decide +kernel, by decide, by decide⟩, by decide +kernel, wt (List.mem_of_getElem? (i := 997) (by decide +kernel)) rfl, wt (List.mem_of_getElem? (i := 34) (by decide +kernel)) rfl⟩
theorem lX8_digest_203 : MLV RX8 203 mX8_digest mX8_restlessNow 0 := ⟨⟨wt (List.mem_of_getElem? (i := 1011) (by decide +kernel)) rfl, wt (List.mem_of_getElem? (i := 63) (by decide +kernel)) rfl, wt (List.mem_of_getElem? (i := 1014) (by decide +kernel)) rfl, by decide +kernel, by decide, by decide⟩, by decide +kernel, wt (List.mem_of_getElem? (i := 1013) (by decide +kernel)) rfl, wt (List.mem_of_getElem? (i := 36) (by decide +kernel)) rfl⟩
theorem lX8_digest_210 : MLV RX8 210 mX8_digest mX8_climbNow 1 := ⟨⟨wt (List.mem_of_getElem? (i := 1019) (by decide +kernel)) rfl, wt (List.mem_of_getElem? (i := 63) (by decide +kernel)) rfl, wt (List.mem_of_getElem? (i := 1022) (by decide +kernel)) rfl, by decide +kernel, by decide, by decide⟩, by decide +kernel, wt (List.mem_of_getElem? (i := 1021) (by decide +kernel)) rfl, wt (List.mem_of_getElem? (i := 37) (by decide +kernel)) rfl⟩
theorem lX8_digest_246 : MLV RX8 246 mX8_digest mX8_weekNow 1 := ⟨⟨wt (List.mem_of_getElem? (i := 1058) (by decide +kernel)) rfl, wt (List.mem_of_getElem? (i := 63) (by decide +kernel)) rfl, wt (List.mem_of_getElem? (i := 1061) (by decide +kernel)) rfl, by decide +kernel, by decide, by decide⟩, by decide +kernel, wt (List.mem_of_getElem? (i := 1060) (by decide +kernel)) rfl, wt (List.mem_of_getElem? (i := 43) (by decide +kernel)) rfl⟩
theorem lX8_digest_256 : MLV RX8 256 mX8_digest mX8_keysNow 1 := ⟨⟨wt (List.mem_of_getElem? (i := 1089) (by decide +kernel)) rfl, wt (List.mem_of_getElem? (i := 63) (by decide +kernel)) rfl, wt (List.mem_of_getElem? (i := 1092) (by decide +kernel)) rfl, by decide +kernel, by decide, by decide⟩, by decide +kernel, wt (List.mem_of_getElem? (i := 1091) (by decide +kernel)) rfl, wt (List.mem_of_getElem? (i := 46) (by decide +kernel)) rfl⟩
theorem lX8_digest_276 : MLV RX8 276 mX8_digest mX8_oddsNow 2 := ⟨⟨wt (List.mem_of_getElem? (i := 1104) (by decide +kernel)) rfl, wt (List.mem_of_getElem? (i := 63) (by decide +kernel)) rfl, wt (List.mem_of_getElem? (i := 1107) (by decide +kernel)) rfl, by decide +kernel, by decide, by decide⟩, by decide +kernel, wt (List.mem_of_getElem? (i := 1106) (by decide +kernel)) rfl, wt (List.mem_of_getElem? (i := 47) (by decide +kernel)) rfl⟩
theorem lX8_fault_154 : MLV RX8 154 mX8_fault mX8_faultNow 0 := ⟨⟨wt (List.mem_of_getElem? (i := 943) (by decide +kernel)) rfl, wt (List.mem_of_getElem? (i := 63) (by decide +kernel)) rfl, wt (List.mem_of_getElem? (i := 946) (by decide +kernel)) rfl, by decide +kernel, by decide, by decide⟩, by decide +kernel, wt (List.mem_of_getElem? (i := 945) (by decide +kernel)) rfl, wt (List.mem_of_getElem? (i := 24) (by decide +kernel)) rfl⟩
theorem lX8_faultNow_150 : MLV RX8 150 mX8_faultNow mX8_condition 1 := ⟨⟨wt (List.mem_of_getElem? (i := 947) (by decide +kernel)) rfl, wt (List.mem_of_getElem? (i := 63) (by decide +kernel)) rfl, wt (List.mem_of_getElem? (i := 950) (by decide +kernel)) rfl, by decide +kernel, by decide, by decide⟩, by decide +kernel, wt (List.mem_of_getElem? (i := 949) (by decide +kernel)) rfl, wt (List.mem_of_getElem? (i := 25) (by decide +kernel)) rfl⟩
theorem lX8_faultNow_136 : MLV RX8 136 mX8_faultNow mX8_byteNow 0 := ⟨⟨wt (List.mem_of_getElem? (i := 951) (by decide +kernel)) rfl, wt (List.mem_of_getElem? (i := 63) (by decide +kernel)) rfl, wt (List.mem_of_getElem? (i := 954) (by decide +kernel)) rfl, by decide +kernel, by decide, by decide⟩, by decide +kernel, wt (List.mem_of_getElem? (i := 953) (by decide +kernel)) rfl, wt (List.mem_of_getElem? (i := 26) (by decide +kernel)) rfl⟩
theorem lX8_get_110 : MLS RX8 110 mX8_get mX8_isSheet 1 := ⟨⟨wt (List.mem_of_getElem? (i := 916) (by decide +kernel)) rfl, wt (List.mem_of_getElem? (i := 63) (by decide +kernel)) rfl, wt (List.mem_of_getElem? (i := 918) (by decide +kernel)) rfl, by decide +kernel, by decide, by decide⟩, by decide +kernel, wt (List.mem_of_getElem? (i := 917) (by decide +kernel)) rfl⟩
theorem lX8_get_95 : MLS RX8 95 mX8_get mX8_in 3 := ⟨⟨wt (List.mem_of_getElem? (i := 897) (by decide +kernel)) rfl, wt (List.mem_of_getElem? (i := 63) (by decide +kernel)) rfl, wt (List.mem_of_getElem? (i := 899) (by decide +kernel)) rfl, by decide +kernel, by decide, by decide⟩, by decide +kernel, wt (List.mem_of_getElem? (i := 898) (by decide +kernel)) rfl⟩
theorem lX8_get_288 : MLV RX8 288 mX8_get mX8_lacks 3 := ⟨⟨wt (List.mem_of_getElem? (i := 1144) (by decide +kernel)) rfl, wt (List.mem_of_getElem? (i := 63) (by decide +kernel)) rfl, wt (List.mem_of_getElem? (i := 1147) (by decide +kernel)) rfl, by decide +kernel, by decide, by decide⟩, by decide +kernel, wt (List.mem_of_getElem? (i := 1146) (by decide +kernel)) rfl, wt (List.mem_of_getElem? (i := 51) (by decide +kernel)) rfl⟩
theorem lX8_goes_181 : MLV RX8 181 mX8_goes mX8_comesAll 0 := ⟨⟨wt (List.mem_of_getElem? (i := 971) (by decide +kernel)) rfl, wt (List.mem_of_getElem? (i := 63) (by decide +kernel)) rfl, wt (List.mem_of_getElem? (i := 974) (by decide +kernel)) rfl, by decide +kernel, by decide, by decide⟩, by decide +kernel, wt (List.mem_of_getElem? (i := 973) (by decide +kernel)) rfl, wt (List.mem_of_getElem? (i := 30) (by decide +kernel)) rfl⟩
theorem lX8_goes_154 : MLV RX8 154 mX8_goes mX8_faultNow 0 := ⟨⟨wt (List.mem_of_getElem? (i := 943) (by decide +kernel)) rfl, wt (List.mem_of_getElem? (i := 63) (by decide +kernel)) rfl, wt (List.mem_of_getElem? (i := 946) (by decide +kernel)) rfl, by decide +kernel, by decide, by decide⟩, by decide +kernel, wt (List.mem_of_getElem? (i := 945) (by decide +kernel)) rfl, wt (List.mem_of_getElem? (i := 24) (by decide +kernel)) rfl⟩
theorem lX8_goes_184 : MLV RX8 184 mX8_goes mX8_beginsNow 0 := ⟨⟨wt (List.mem_of_getElem? (i := 979) (by decide +kernel)) rfl, wt (List.mem_of_getElem? (i := 63) (by decide +kernel)) rfl, wt (List.mem_of_getElem? (i := 982) (by decide +kernel)) rfl, by decide +kernel, by decide, by decide⟩, by decide +kernel, wt (List.mem_of_getElem? (i := 981) (by decide +kernel)) rfl, wt (List.mem_of_getElem? (i := 32) (by decide +kernel)) rfl⟩
theorem lX8_grids_190 : MLV RX8 190 mX8_grids mX8_asTold 0 := ⟨⟨wt (List.mem_of_getElem? (i := 963) (by decide +kernel)) rfl, wt (List.mem_of_getElem? (i := 63) (by decide +kernel)) rfl, wt (List.mem_of_getElem? (i := 966) (by decide +kernel)) rfl, by decide +kernel, by decide, by decide⟩, by decide +kernel, wt (List.mem_of_getElem? (i := 965) (by decide +kernel)) rfl, wt (List.mem_of_getElem? (i := 28) (by decide +kernel)) rfl⟩
theorem lX8_grids_223 : MLS RX8 223 mX8_grids mX8_minuteOf 3 := ⟨⟨wt (List.mem_of_getElem? (i := 1039) (by decide +kernel)) rfl, wt (List.mem_of_getElem? (i := 63) (by decide +kernel)) rfl, wt (List.mem_of_getElem? (i := 1041) (by decide +kernel)) rfl, by decide +kernel, by decide, by decide⟩, by decide +kernel, wt (List.mem_of_getElem? (i := 1040) (by decide +kernel)) rfl⟩
theorem lX8_grids_193 : MLV RX8 193 mX8_grids mX8_goes 0 := ⟨⟨wt (List.mem_of_getElem? (i := 967) (by decide +kernel)) rfl, wt (List.mem_of_getElem? (i := 63) (by decide +kernel)) rfl, wt (List.mem_of_getElem? (i := 970) (by decide +kernel)) rfl, by decide +kernel, by decide, by decide⟩, by decide +kernel, wt (List.mem_of_getElem? (i := 969) (by decide +kernel)) rfl, wt (List.mem_of_getElem? (i := 29) (by decide +kernel)) rfl⟩
theorem lX8_grids_187 : MLV RX8 187 mX8_grids mX8_paysNow 1 := ⟨⟨wt (List.mem_of_getElem? (i := 995) (by decide +kernel)) rfl, wt (List.mem_of_getElem? (i := 63) (by decide +kernel)) rfl, wt (List.mem_of_getElem? (i := 998) (by decide +kernel)) rfl, by decide +kernel, by decide, by decide⟩, by decide +kernel, wt (List.mem_of_getElem? (i := 997) (by decide +kernel)) rfl, wt (List.mem_of_getElem? (i := 34) (by decide +kernel)) rfl⟩
theorem lX8_grids_196 : MLV RX8 196 mX8_grids mX8_paysAll 0 := ⟨⟨wt (List.mem_of_getElem? (i := 991) (by decide +kernel)) rfl, wt (List.mem_of_getElem? (i := 63) (by decide +kernel)) rfl, wt (List.mem_of_getElem? (i := 994) (by decide +kernel)) rfl, by decide +kernel, by decide, by decide⟩, by decide +kernel, wt (List.mem_of_getElem? (i := 993) (by decide +kernel)) rfl, wt (List.mem_of_getElem? (i := 33) (by decide +kernel)) rfl⟩
theorem lX8_guests_259 : MLS RX8 259 mX8_guests mX8_ones 1 := ⟨⟨wt (List.mem_of_getElem? (i := 1097) (by decide +kernel)) rfl, wt (List.mem_of_getElem? (i := 63) (by decide +kernel)) rfl, wt (List.mem_of_getElem? (i := 1099) (by decide +kernel)) rfl, by decide +kernel, by decide, by decide⟩, by decide +kernel, wt (List.mem_of_getElem? (i := 1098) (by decide +kernel)) rfl⟩
theorem lX8_guests_190 : MLV RX8 190 mX8_guests mX8_asTold 0 := ⟨⟨wt (List.mem_of_getElem? (i := 963) (by decide +kernel)) rfl, wt (List.mem_of_getElem? (i := 63) (by decide +kernel)) rfl, wt (List.mem_of_getElem? (i := 966) (by decide +kernel)) rfl, by decide +kernel, by decide, by decide⟩, by decide +kernel, wt (List.mem_of_getElem? (i := 965) (by decide +kernel)) rfl, wt (List.mem_of_getElem? (i := 28) (by decide +kernel)) rfl⟩
theorem lX8_guests_206 : MLV RX8 206 mX8_guests mX8_climbs 1 := ⟨⟨wt (List.mem_of_getElem? (i := 1023) (by decide +kernel)) rfl, wt (List.mem_of_getElem? (i := 63) (by decide +kernel)) rfl, wt (List.mem_of_getElem? (i := 1026) (by decide +kernel)) rfl, by decide +kernel, by decide, by decide⟩, by decide +kernel, wt (List.mem_of_getElem? (i := 1025) (by decide +kernel)) rfl, wt (List.mem_of_getElem? (i := 38) (by decide +kernel)) rfl⟩
theorem lX8_isComer_95 : MLS RX8 95 mX8_isComer mX8_in 3 := ⟨⟨wt (List.mem_of_getElem? (i := 897) (by decide +kernel)) rfl, wt (List.mem_of_getElem? (i := 63) (by decide +kernel)) rfl, wt (List.mem_of_getElem? (i := 899) (by decide +kernel)) rfl, by decide +kernel, by decide, by decide⟩, by decide +kernel, wt (List.mem_of_getElem? (i := 898) (by decide +kernel)) rfl⟩
theorem lX8_isPlain_103 : MLV RX8 103 mX8_isPlain mX8_isComer 1 := ⟨⟨wt (List.mem_of_getElem? (i := 908) (by decide +kernel)) rfl, wt (List.mem_of_getElem? (i := 63) (by decide +kernel)) rfl, wt (List.mem_of_getElem? (i := 911) (by decide +kernel)) rfl, by decide +kernel, by decide, by decide⟩, by decide +kernel, wt (List.mem_of_getElem? (i := 910) (by decide +kernel)) rfl, wt (List.mem_of_getElem? (i := 22) (by decide +kernel)) rfl⟩
theorem lX8_isSheet_95 : MLS RX8 95 mX8_isSheet mX8_in 3 := ⟨⟨wt (List.mem_of_getElem? (i := 897) (by decide +kernel)) rfl, wt (List.mem_of_getElem? (i := 63) (by decide +kernel)) rfl, wt (List.mem_of_getElem? (i := 899) (by decide +kernel)) rfl, by decide +kernel, by decide, by decide⟩, by decide +kernel, wt (List.mem_of_getElem? (i := 898) (by decide +kernel)) rfl⟩
theorem lX8_keys_95 : MLS RX8 95 mX8_keys mX8_in 3 := ⟨⟨wt (List.mem_of_getElem? (i := 897) (by decide +kernel)) rfl, wt (List.mem_of_getElem? (i := 63) (by decide +kernel)) rfl, wt (List.mem_of_getElem? (i := 899) (by decide +kernel)) rfl, by decide +kernel, by decide, by decide⟩, by decide +kernel, wt (List.mem_of_getElem? (i := 898) (by decide +kernel)) rfl⟩
theorem lX8_keys_256 : MLV RX8 256 mX8_keys mX8_keysNow 1 := ⟨⟨wt (List.mem_of_getElem? (i := 1089) (by decide +kernel)) rfl, wt (List.mem_of_getElem? (i := 63) (by decide +kernel)) rfl, wt (List.mem_of_getElem? (i := 1092) (by decide +kernel)) rfl, by decide +kernel, by decide, by decide⟩, by decide +kernel, wt (List.mem_of_getElem? (i := 1091) (by decide +kernel)) rfl, wt (List.mem_of_getElem? (i := 46) (by decide +kernel)) rfl⟩
theorem lX8_keysNow_190 : MLV RX8 190 mX8_keysNow mX8_asTold 0 := ⟨⟨wt (List.mem_of_getElem? (i := 963) (by decide +kernel)) rfl, wt (List.mem_of_getElem? (i := 63) (by decide +kernel)) rfl, wt (List.mem_of_getElem? (i := 966) (by decide +kernel)) rfl, by decide +kernel, by decide, by decide⟩, by decide +kernel, wt (List.mem_of_getElem? (i := 965) (by decide +kernel)) rfl, wt (List.mem_of_getElem? (i := 28) (by decide +kernel)) rfl⟩
theorem lX8_keysNow_193 : MLV RX8 193 mX8_keysNow mX8_goes 0 := ⟨⟨wt (List.mem_of_getElem? (i := 967) (by decide +kernel)) rfl, wt (List.mem_of_getElem? (i := 63) (by decide +kernel)) rfl, wt (List.mem_of_getElem? (i := 970) (by decide +kernel)) rfl, by decide +kernel, by decide, by decide⟩, by decide +kernel, wt (List.mem_of_getElem? (i := 969) (by decide +kernel)) rfl, wt (List.mem_of_getElem? (i := 29) (by decide +kernel)) rfl⟩
theorem lX8_lacks_95 : MLS RX8 95 mX8_lacks mX8_in 3 := ⟨⟨wt (List.mem_of_getElem? (i := 897) (by decide +kernel)) rfl, wt (List.mem_of_getElem? (i := 63) (by decide +kernel)) rfl, wt (List.mem_of_getElem? (i := 899) (by decide +kernel)) rfl, by decide +kernel, by decide, by decide⟩, by decide +kernel, wt (List.mem_of_getElem? (i := 898) (by decide +kernel)) rfl⟩
theorem lX8_least_190 : MLV RX8 190 mX8_least mX8_asTold 0 := ⟨⟨wt (List.mem_of_getElem? (i := 963) (by decide +kernel)) rfl, wt (List.mem_of_getElem? (i := 63) (by decide +kernel)) rfl, wt (List.mem_of_getElem? (i := 966) (by decide +kernel)) rfl, by decide +kernel, by decide, by decide⟩, by decide +kernel, wt (List.mem_of_getElem? (i := 965) (by decide +kernel)) rfl, wt (List.mem_of_getElem? (i := 28) (by decide +kernel)) rfl⟩
theorem lX8_least_206 : MLV RX8 206 mX8_least mX8_climbs 1 := ⟨⟨wt (List.mem_of_getElem? (i := 1023) (by decide +kernel)) rfl, wt (List.mem_of_getElem? (i := 63) (by decide +kernel)) rfl, wt (List.mem_of_getElem? (i := 1026) (by decide +kernel)) rfl, by decide +kernel, by decide, by decide⟩, by decide +kernel, wt (List.mem_of_getElem? (i := 1025) (by decide +kernel)) rfl, wt (List.mem_of_getElem? (i := 38) (by decide +kernel)) rfl⟩
theorem lX8_lose_110 : MLS RX8 110 mX8_lose mX8_isSheet 1 := ⟨⟨wt (List.mem_of_getElem? (i := 916) (by decide +kernel)) rfl, wt (List.mem_of_getElem? (i := 63) (by decide +kernel)) rfl, wt (List.mem_of_getElem? (i := 918) (by decide +kernel)) rfl, by decide +kernel, by decide, by decide⟩, by decide +kernel, wt (List.mem_of_getElem? (i := 917) (by decide +kernel)) rfl⟩
theorem lX8_lose_113 : MLV RX8 113 mX8_lose mX8_meets 1 := ⟨⟨wt (List.mem_of_getElem? (i := 919) (by decide +kernel)) rfl, wt (List.mem_of_getElem? (i := 63) (by decide +kernel)) rfl, wt (List.mem_of_getElem? (i := 922) (by decide +kernel)) rfl, by decide +kernel, by decide, by decide⟩, by decide +kernel, wt (List.mem_of_getElem? (i := 921) (by decide +kernel)) rfl, wt (List.mem_of_getElem? (i := 23) (by decide +kernel)) rfl⟩
theorem lX8_lost_95 : MLS RX8 95 mX8_lost mX8_in 3 := ⟨⟨wt (List.mem_of_getElem? (i := 897) (by decide +kernel)) rfl, wt (List.mem_of_getElem? (i := 63) (by decide +kernel)) rfl, wt (List.mem_of_getElem? (i := 899) (by decide +kernel)) rfl, by decide +kernel, by decide, by decide⟩, by decide +kernel, wt (List.mem_of_getElem? (i := 898) (by decide +kernel)) rfl⟩
theorem lX8_lost_232 : MLV RX8 232 mX8_lost mX8_gathers 0 := ⟨⟨wt (List.mem_of_getElem? (i := 1031) (by decide +kernel)) rfl, wt (List.mem_of_getElem? (i := 63) (by decide +kernel)) rfl, wt (List.mem_of_getElem? (i := 1034) (by decide +kernel)) rfl, by decide +kernel, by decide, by decide⟩, by decide +kernel, wt (List.mem_of_getElem? (i := 1033) (by decide +kernel)) rfl, wt (List.mem_of_getElem? (i := 39) (by decide +kernel)) rfl⟩
theorem lX8_lost_236 : MLV RX8 236 mX8_lost mX8_grids 1 := ⟨⟨wt (List.mem_of_getElem? (i := 1035) (by decide +kernel)) rfl, wt (List.mem_of_getElem? (i := 63) (by decide +kernel)) rfl, wt (List.mem_of_getElem? (i := 1038) (by decide +kernel)) rfl, by decide +kernel, by decide, by decide⟩, by decide +kernel, wt (List.mem_of_getElem? (i := 1037) (by decide +kernel)) rfl, wt (List.mem_of_getElem? (i := 40) (by decide +kernel)) rfl⟩
theorem lX8_lost_240 : MLV RX8 240 mX8_lost mX8_restAt 1 := ⟨⟨wt (List.mem_of_getElem? (i := 1042) (by decide +kernel)) rfl, wt (List.mem_of_getElem? (i := 63) (by decide +kernel)) rfl, wt (List.mem_of_getElem? (i := 1045) (by decide +kernel)) rfl, by decide +kernel, by decide, by decide⟩, by decide +kernel, wt (List.mem_of_getElem? (i := 1044) (by decide +kernel)) rfl, wt (List.mem_of_getElem? (i := 41) (by decide +kernel)) rfl⟩
theorem lX8_mean_103 : MLV RX8 103 mX8_mean mX8_isComer 1 := ⟨⟨wt (List.mem_of_getElem? (i := 908) (by decide +kernel)) rfl, wt (List.mem_of_getElem? (i := 63) (by decide +kernel)) rfl, wt (List.mem_of_getElem? (i := 911) (by decide +kernel)) rfl, by decide +kernel, by decide, by decide⟩, by decide +kernel, wt (List.mem_of_getElem? (i := 910) (by decide +kernel)) rfl, wt (List.mem_of_getElem? (i := 22) (by decide +kernel)) rfl⟩
theorem lX8_mean_95 : MLS RX8 95 mX8_mean mX8_in 3 := ⟨⟨wt (List.mem_of_getElem? (i := 897) (by decide +kernel)) rfl, wt (List.mem_of_getElem? (i := 63) (by decide +kernel)) rfl, wt (List.mem_of_getElem? (i := 899) (by decide +kernel)) rfl, by decide +kernel, by decide, by decide⟩, by decide +kernel, wt (List.mem_of_getElem? (i := 898) (by decide +kernel)) rfl⟩
theorem lX8_mean_190 : MLV RX8 190 mX8_mean mX8_asTold 0 := ⟨⟨wt (List.mem_of_getElem? (i := 963) (by decide +kernel)) rfl, wt (List.mem_of_getElem? (i := 63) (by decide +kernel)) rfl, wt (List.mem_of_getElem? (i := 966) (by decide +kernel)) rfl, by decide +kernel, by decide, by decide⟩, by decide +kernel, wt (List.mem_of_getElem? (i := 965) (by decide +kernel)) rfl, wt (List.mem_of_getElem? (i := 28) (by decide +kernel)) rfl⟩
theorem lX8_mean_265 : MLV RX8 265 mX8_mean mX8_roads 0 := ⟨⟨wt (List.mem_of_getElem? (i := 1108) (by decide +kernel)) rfl, wt (List.mem_of_getElem? (i := 63) (by decide +kernel)) rfl, wt (List.mem_of_getElem? (i := 1111) (by decide +kernel)) rfl, by decide +kernel, by decide, by decide⟩, by decide +kernel, wt (List.mem_of_getElem? (i := 1110) (by decide +kernel)) rfl, wt (List.mem_of_getElem? (i := 48) (by decide +kernel)) rfl⟩
theorem lX8_mean_282 : MLV RX8 282 mX8_mean mX8_meanNow 1 := ⟨⟨wt (List.mem_of_getElem? (i := 1124) (by decide +kernel)) rfl, wt (List.mem_of_getElem? (i := 63) (by decide +kernel)) rfl, wt (List.mem_of_getElem? (i := 1127) (by decide +kernel)) rfl, by decide +kernel, by decide, by decide⟩, by decide +kernel, wt (List.mem_of_getElem? (i := 1126) (by decide +kernel)) rfl, wt (List.mem_of_getElem? (i := 50) (by decide +kernel)) rfl⟩
theorem lX8_mean_272 : MLS RX8 272 mX8_mean mX8_lowest 3 := ⟨⟨wt (List.mem_of_getElem? (i := 1116) (by decide +kernel)) rfl, wt (List.mem_of_getElem? (i := 63) (by decide +kernel)) rfl, wt (List.mem_of_getElem? (i := 1118) (by decide +kernel)) rfl, by decide +kernel, by decide, by decide⟩, by decide +kernel, wt (List.mem_of_getElem? (i := 1117) (by decide +kernel)) rfl⟩
theorem lX8_meanNow_268 : MLV RX8 268 mX8_meanNow mX8_takes 1 := ⟨⟨wt (List.mem_of_getElem? (i := 1112) (by decide +kernel)) rfl, wt (List.mem_of_getElem? (i := 63) (by decide +kernel)) rfl, wt (List.mem_of_getElem? (i := 1115) (by decide +kernel)) rfl, by decide +kernel, by decide, by decide⟩, by decide +kernel, wt (List.mem_of_getElem? (i := 1114) (by decide +kernel)) rfl, wt (List.mem_of_getElem? (i := 49) (by decide +kernel)) rfl⟩
theorem lX8_meanNow_187 : MLV RX8 187 mX8_meanNow mX8_paysNow 1 := ⟨⟨wt (List.mem_of_getElem? (i := 995) (by decide +kernel)) rfl, wt (List.mem_of_getElem? (i := 63) (by decide +kernel)) rfl, wt (List.mem_of_getElem? (i := 998) (by decide +kernel)) rfl, by decide +kernel, by decide, by decide⟩, by decide +kernel, wt (List.mem_of_getElem? (i := 997) (by decide +kernel)) rfl, wt (List.mem_of_getElem? (i := 34) (by decide +kernel)) rfl⟩
theorem lX8_moved_95 : MLS RX8 95 mX8_moved mX8_in 3 := ⟨⟨wt (List.mem_of_getElem? (i := 897) (by decide +kernel)) rfl, wt (List.mem_of_getElem? (i := 63) (by decide +kernel)) rfl, wt (List.mem_of_getElem? (i := 899) (by decide +kernel)) rfl, by decide +kernel, by decide, by decide⟩, by decide +kernel, wt (List.mem_of_getElem? (i := 898) (by decide +kernel)) rfl⟩
theorem lX8_moved_190 : MLV RX8 190 mX8_moved mX8_asTold 0 := ⟨⟨wt (List.mem_of_getElem? (i := 963) (by decide +kernel)) rfl, wt (List.mem_of_getElem? (i := 63) (by decide +kernel)) rfl, wt (List.mem_of_getElem? (i := 966) (by decide +kernel)) rfl, by decide +kernel, by decide, by decide⟩, by decide +kernel, wt (List.mem_of_getElem? (i := 965) (by decide +kernel)) rfl, wt (List.mem_of_getElem? (i := 28) (by decide +kernel)) rfl⟩
theorem lX8_moved_206 : MLV RX8 206 mX8_moved mX8_climbs 1 := ⟨⟨wt (List.mem_of_getElem? (i := 1023) (by decide +kernel)) rfl, wt (List.mem_of_getElem? (i := 63) (by decide +kernel)) rfl, wt (List.mem_of_getElem? (i := 1026) (by decide +kernel)) rfl, by decide +kernel, by decide, by decide⟩, by decide +kernel, wt (List.mem_of_getElem? (i := 1025) (by decide +kernel)) rfl, wt (List.mem_of_getElem? (i := 38) (by decide +kernel)) rfl⟩
theorem lX8_moved_253 : MLS RX8 253 mX8_moved mX8_amount 1 := ⟨⟨wt (List.mem_of_getElem? (i := 1078) (by decide +kernel)) rfl, wt (List.mem_of_getElem? (i := 63) (by decide +kernel)) rfl, wt (List.mem_of_getElem? (i := 1080) (by decide +kernel)) rfl, by decide +kernel, by decide, by decide⟩, by decide +kernel, wt (List.mem_of_getElem? (i := 1079) (by decide +kernel)) rfl⟩
theorem lX8_number_136 : MLV RX8 136 mX8_number mX8_byteNow 0 := ⟨⟨wt (List.mem_of_getElem? (i := 951) (by decide +kernel)) rfl, wt (List.mem_of_getElem? (i := 63) (by decide +kernel)) rfl, wt (List.mem_of_getElem? (i := 954) (by decide +kernel)) rfl, by decide +kernel, by decide, by decide⟩, by decide +kernel, wt (List.mem_of_getElem? (i := 953) (by decide +kernel)) rfl, wt (List.mem_of_getElem? (i := 26) (by decide +kernel)) rfl⟩
theorem lX8_number_95 : MLS RX8 95 mX8_number mX8_in 3 := ⟨⟨wt (List.mem_of_getElem? (i := 897) (by decide +kernel)) rfl, wt (List.mem_of_getElem? (i := 63) (by decide +kernel)) rfl, wt (List.mem_of_getElem? (i := 899) (by decide +kernel)) rfl, by decide +kernel, by decide, by decide⟩, by decide +kernel, wt (List.mem_of_getElem? (i := 898) (by decide +kernel)) rfl⟩
theorem lX8_odds_95 : MLS RX8 95 mX8_odds mX8_in 3 := ⟨⟨wt (List.mem_of_getElem? (i := 897) (by decide +kernel)) rfl, wt (List.mem_of_getElem? (i := 63) (by decide +kernel)) rfl, wt (List.mem_of_getElem? (i := 899) (by decide +kernel)) rfl, by decide +kernel, by decide, by decide⟩, by decide +kernel, wt (List.mem_of_getElem? (i := 898) (by decide +kernel)) rfl⟩
theorem lX8_odds_276 : MLV RX8 276 mX8_odds mX8_oddsNow 2 := ⟨⟨wt (List.mem_of_getElem? (i := 1104) (by decide +kernel)) rfl, wt (List.mem_of_getElem? (i := 63) (by decide +kernel)) rfl, wt (List.mem_of_getElem? (i := 1107) (by decide +kernel)) rfl, by decide +kernel, by decide, by decide⟩, by decide +kernel, wt (List.mem_of_getElem? (i := 1106) (by decide +kernel)) rfl, wt (List.mem_of_getElem? (i := 47) (by decide +kernel)) rfl⟩
theorem lX8_oddsNow_190 : MLV RX8 190 mX8_oddsNow mX8_asTold 0 := ⟨⟨wt (List.mem_of_getElem? (i := 963) (by decide +kernel)) rfl, wt (List.mem_of_getElem? (i := 63) (by decide +kernel)) rfl, wt (List.mem_of_getElem? (i := 966) (by decide +kernel)) rfl, by decide +kernel, by decide, by decide⟩, by decide +kernel, wt (List.mem_of_getElem? (i := 965) (by decide +kernel)) rfl, wt (List.mem_of_getElem? (i := 28) (by decide +kernel)) rfl⟩
theorem lX8_oddsNow_265 : MLV RX8 265 mX8_oddsNow mX8_roads 0 := ⟨⟨wt (List.mem_of_getElem? (i := 1108) (by decide +kernel)) rfl, wt (List.mem_of_getElem? (i := 63) (by decide +kernel)) rfl, wt (List.mem_of_getElem? (i := 1111) (by decide +kernel)) rfl, by decide +kernel, by decide, by decide⟩, by decide +kernel, wt (List.mem_of_getElem? (i := 1110) (by decide +kernel)) rfl, wt (List.mem_of_getElem? (i := 48) (by decide +kernel)) rfl⟩
theorem lX8_oddsNow_268 : MLV RX8 268 mX8_oddsNow mX8_takes 1 := ⟨⟨wt (List.mem_of_getElem? (i := 1112) (by decide +kernel)) rfl, wt (List.mem_of_getElem? (i := 63) (by decide +kernel)) rfl, wt (List.mem_of_getElem? (i := 1115) (by decide +kernel)) rfl, by decide +kernel, by decide, by decide⟩, by decide +kernel, wt (List.mem_of_getElem? (i := 1114) (by decide +kernel)) rfl, wt (List.mem_of_getElem? (i := 49) (by decide +kernel)) rfl⟩
theorem lX8_oddsNow_272 : MLS RX8 272 mX8_oddsNow mX8_lowest 3 := ⟨⟨wt (List.mem_of_getElem? (i := 1116) (by decide +kernel)) rfl, wt (List.mem_of_getElem? (i := 63) (by decide +kernel)) rfl, wt (List.mem_of_getElem? (i := 1118) (by decide +kernel)) rfl, by decide +kernel, by decide, by decide⟩, by decide +kernel, wt (List.mem_of_getElem? (i := 1117) (by decide +kernel)) rfl⟩
theorem lX8_pays_103 : MLV RX8 103 mX8_pays mX8_isComer 1 := ⟨⟨wt (List.mem_of_getElem? (i := 908) (by decide +kernel)) rfl, wt (List.mem_of_getElem? (i := 63) (by decide +kernel)) rfl, wt (List.mem_of_getElem? (i := 911) (by decide +kernel)) rfl, by decide +kernel, by decide, by decide⟩, by decide +kernel, wt (List.mem_of_getElem? (i := 910) (by decide +kernel)) rfl, wt (List.mem_of_getElem? (i := 22) (by decide +kernel)) rfl⟩
theorem lX8_pays_190 : MLV RX8 190 mX8_pays mX8_asTold 0 := ⟨⟨wt (List.mem_of_getElem? (i := 963) (by decide +kernel)) rfl, wt (List.mem_of_getElem? (i := 63) (by decide +kernel)) rfl, wt (List.mem_of_getElem? (i := 966) (by decide +kernel)) rfl, by decide +kernel, by decide, by decide⟩, by decide +kernel, wt (List.mem_of_getElem? (i := 965) (by decide +kernel)) rfl, wt (List.mem_of_getElem? (i := 28) (by decide +kernel)) rfl⟩
theorem lX8_pays_193 : MLV RX8 193 mX8_pays mX8_goes 0 := ⟨⟨wt (List.mem_of_getElem? (i := 967) (by decide +kernel)) rfl, wt (List.mem_of_getElem? (i := 63) (by decide +kernel)) rfl, wt (List.mem_of_getElem? (i := 970) (by decide +kernel)) rfl, by decide +kernel, by decide, by decide⟩, by decide +kernel, wt (List.mem_of_getElem? (i := 969) (by decide +kernel)) rfl, wt (List.mem_of_getElem? (i := 29) (by decide +kernel)) rfl⟩
theorem lX8_pays_196 : MLV RX8 196 mX8_pays mX8_paysAll 0 := ⟨⟨wt (List.mem_of_getElem? (i := 991) (by decide +kernel)) rfl, wt (List.mem_of_getElem? (i := 63) (by decide +kernel)) rfl, wt (List.mem_of_getElem? (i := 994) (by decide +kernel)) rfl, by decide +kernel, by decide, by decide⟩, by decide +kernel, wt (List.mem_of_getElem? (i := 993) (by decide +kernel)) rfl, wt (List.mem_of_getElem? (i := 33) (by decide +kernel)) rfl⟩
theorem lX8_pays_187 : MLV RX8 187 mX8_pays mX8_paysNow 1 := ⟨⟨wt (List.mem_of_getElem? (i := 995) (by decide +kernel)) rfl, wt (List.mem_of_getElem? (i := 63) (by decide +kernel)) rfl, wt (List.mem_of_getElem? (i := 998) (by decide +kernel)) rfl, by decide +kernel, by decide, by decide⟩, by decide +kernel, wt (List.mem_of_getElem? (i := 997) (by decide +kernel)) rfl, wt (List.mem_of_getElem? (i := 34) (by decide +kernel)) rfl⟩
theorem lX8_paysAll_187 : MLV RX8 187 mX8_paysAll mX8_paysNow 1 := ⟨⟨wt (List.mem_of_getElem? (i := 995) (by decide +kernel)) rfl, wt (List.mem_of_getElem? (i := 63) (by decide +kernel)) rfl, wt (List.mem_of_getElem? (i := 998) (by decide +kernel)) rfl, by decide +kernel, by decide, by decide⟩, by decide +kernel, wt (List.mem_of_getElem? (i := 997) (by decide +kernel)) rfl, wt (List.mem_of_getElem? (i := 34) (by decide +kernel)) rfl⟩
theorem lX8_put_110 : MLS RX8 110 mX8_put mX8_isSheet 1 := ⟨⟨wt (List.mem_of_getElem? (i := 916) (by decide +kernel)) rfl, wt (List.mem_of_getElem? (i := 63) (by decide +kernel)) rfl, wt (List.mem_of_getElem? (i := 918) (by decide +kernel)) rfl, by decide +kernel, by decide, by decide⟩, by decide +kernel, wt (List.mem_of_getElem? (i := 917) (by decide +kernel)) rfl⟩
theorem lX8_put_95 : MLS RX8 95 mX8_put mX8_in 3 := ⟨⟨wt (List.mem_of_getElem? (i := 897) (by decide +kernel)) rfl, wt (List.mem_of_getElem? (i := 63) (by decide +kernel)) rfl, wt (List.mem_of_getElem? (i := 899) (by decide +kernel)) rfl, by decide +kernel, by decide, by decide⟩, by decide +kernel, wt (List.mem_of_getElem? (i := 898) (by decide +kernel)) rfl⟩
theorem lX8_put_288 : MLV RX8 288 mX8_put mX8_lacks 3 := ⟨⟨wt (List.mem_of_getElem? (i := 1144) (by decide +kernel)) rfl, wt (List.mem_of_getElem? (i := 63) (by decide +kernel)) rfl, wt (List.mem_of_getElem? (i := 1147) (by decide +kernel)) rfl, by decide +kernel, by decide, by decide⟩, by decide +kernel, wt (List.mem_of_getElem? (i := 1146) (by decide +kernel)) rfl, wt (List.mem_of_getElem? (i := 51) (by decide +kernel)) rfl⟩
theorem lX8_put_113 : MLV RX8 113 mX8_put mX8_meets 1 := ⟨⟨wt (List.mem_of_getElem? (i := 919) (by decide +kernel)) rfl, wt (List.mem_of_getElem? (i := 63) (by decide +kernel)) rfl, wt (List.mem_of_getElem? (i := 922) (by decide +kernel)) rfl, by decide +kernel, by decide, by decide⟩, by decide +kernel, wt (List.mem_of_getElem? (i := 921) (by decide +kernel)) rfl, wt (List.mem_of_getElem? (i := 23) (by decide +kernel)) rfl⟩
theorem lX8_put_291 : MLV RX8 291 mX8_put mX8_keep 3 := ⟨⟨wt (List.mem_of_getElem? (i := 1148) (by decide +kernel)) rfl, wt (List.mem_of_getElem? (i := 63) (by decide +kernel)) rfl, wt (List.mem_of_getElem? (i := 1151) (by decide +kernel)) rfl, by decide +kernel, by decide, by decide⟩, by decide +kernel, wt (List.mem_of_getElem? (i := 1150) (by decide +kernel)) rfl, wt (List.mem_of_getElem? (i := 52) (by decide +kernel)) rfl⟩
theorem lX8_read_110 : MLS RX8 110 mX8_read mX8_isSheet 1 := ⟨⟨wt (List.mem_of_getElem? (i := 916) (by decide +kernel)) rfl, wt (List.mem_of_getElem? (i := 63) (by decide +kernel)) rfl, wt (List.mem_of_getElem? (i := 918) (by decide +kernel)) rfl, by decide +kernel, by decide, by decide⟩, by decide +kernel, wt (List.mem_of_getElem? (i := 917) (by decide +kernel)) rfl⟩
theorem lX8_read_113 : MLV RX8 113 mX8_read mX8_meets 1 := ⟨⟨wt (List.mem_of_getElem? (i := 919) (by decide +kernel)) rfl, wt (List.mem_of_getElem? (i := 63) (by decide +kernel)) rfl, wt (List.mem_of_getElem? (i := 922) (by decide +kernel)) rfl, by decide +kernel, by decide, by decide⟩, by decide +kernel, wt (List.mem_of_getElem? (i := 921) (by decide +kernel)) rfl, wt (List.mem_of_getElem? (i := 23) (by decide +kernel)) rfl⟩
theorem lX8_read_95 : MLS RX8 95 mX8_read mX8_in 3 := ⟨⟨wt (List.mem_of_getElem? (i := 897) (by decide +kernel)) rfl, wt (List.mem_of_getElem? (i := 63) (by decide +kernel)) rfl, wt (List.mem_of_getElem? (i := 899) (by decide +kernel)) rfl, by decide +kernel, by decide, by decide⟩, by decide +kernel, wt (List.mem_of_getElem? (i := 898) (by decide +kernel)) rfl⟩
theorem lX8_restAt_229 : MLV RX8 229 mX8_restAt mX8_isRest 1 := ⟨⟨wt (List.mem_of_getElem? (i := 1046) (by decide +kernel)) rfl, wt (List.mem_of_getElem? (i := 63) (by decide +kernel)) rfl, wt (List.mem_of_getElem? (i := 1049) (by decide +kernel)) rfl, by decide +kernel, by decide, by decide⟩, by decide +kernel, wt (List.mem_of_getElem? (i := 1048) (by decide +kernel)) rfl, wt (List.mem_of_getElem? (i := 42) (by decide +kernel)) rfl⟩
theorem lX8_restless_203 : MLV RX8 203 mX8_restless mX8_restlessNow 0 := ⟨⟨wt (List.mem_of_getElem? (i := 1011) (by decide +kernel)) rfl, wt (List.mem_of_getElem? (i := 63) (by decide +kernel)) rfl, wt (List.mem_of_getElem? (i := 1014) (by decide +kernel)) rfl, by decide +kernel, by decide, by decide⟩, by decide +kernel, wt (List.mem_of_getElem? (i := 1013) (by decide +kernel)) rfl, wt (List.mem_of_getElem? (i := 36) (by decide +kernel)) rfl⟩
theorem lX8_restlessNow_190 : MLV RX8 190 mX8_restlessNow mX8_asTold 0 := ⟨⟨wt (List.mem_of_getElem? (i := 963) (by decide +kernel)) rfl, wt (List.mem_of_getElem? (i := 63) (by decide +kernel)) rfl, wt (List.mem_of_getElem? (i := 966) (by decide +kernel)) rfl, by decide +kernel, by decide, by decide⟩, by decide +kernel, wt (List.mem_of_getElem? (i := 965) (by decide +kernel)) rfl, wt (List.mem_of_getElem? (i := 28) (by decide +kernel)) rfl⟩
theorem lX8_restlessNow_193 : MLV RX8 193 mX8_restlessNow mX8_goes 0 := ⟨⟨wt (List.mem_of_getElem? (i := 967) (by decide +kernel)) rfl, wt (List.mem_of_getElem? (i := 63) (by decide +kernel)) rfl, wt (List.mem_of_getElem? (i := 970) (by decide +kernel)) rfl, by decide +kernel, by decide, by decide⟩, by decide +kernel, wt (List.mem_of_getElem? (i := 969) (by decide +kernel)) rfl, wt (List.mem_of_getElem? (i := 29) (by decide +kernel)) rfl⟩
theorem lX8_restlessNow_187 : MLV RX8 187 mX8_restlessNow mX8_paysNow 1 := ⟨⟨wt (List.mem_of_getElem? (i := 995) (by decide +kernel)) rfl, wt (List.mem_of_getElem? (i := 63) (by decide +kernel)) rfl, wt (List.mem_of_getElem? (i := 998) (by decide +kernel)) rfl, by decide +kernel, by decide, by decide⟩, by decide +kernel, wt (List.mem_of_getElem? (i := 997) (by decide +kernel)) rfl, wt (List.mem_of_getElem? (i := 34) (by decide +kernel)) rfl⟩
theorem lX8_restlessNow_199 : MLV RX8 199 mX8_restlessNow mX8_bestOf 2 := ⟨⟨wt (List.mem_of_getElem? (i := 1003) (by decide +kernel)) rfl, wt (List.mem_of_getElem? (i := 63) (by decide +kernel)) rfl, wt (List.mem_of_getElem? (i := 1006) (by decide +kernel)) rfl, by decide +kernel, by decide, by decide⟩, by decide +kernel, wt (List.mem_of_getElem? (i := 1005) (by decide +kernel)) rfl, wt (List.mem_of_getElem? (i := 35) (by decide +kernel)) rfl⟩
theorem lX8_rests_95 : MLS RX8 95 mX8_rests mX8_in 3 := ⟨⟨wt (List.mem_of_getElem? (i := 897) (by decide +kernel)) rfl, wt (List.mem_of_getElem? (i := 63) (by decide +kernel)) rfl, wt (List.mem_of_getElem? (i := 899) (by decide +kernel)) rfl, by decide +kernel, by decide, by decide⟩, by decide +kernel, wt (List.mem_of_getElem? (i := 898) (by decide +kernel)) rfl⟩
theorem lX8_rests_107 : MLV RX8 107 mX8_rests mX8_isPlain 1 := ⟨⟨wt (List.mem_of_getElem? (i := 904) (by decide +kernel)) rfl, wt (List.mem_of_getElem? (i := 63) (by decide +kernel)) rfl, wt (List.mem_of_getElem? (i := 907) (by decide +kernel)) rfl, by decide +kernel, by decide, by decide⟩, by decide +kernel, wt (List.mem_of_getElem? (i := 906) (by decide +kernel)) rfl, wt (List.mem_of_getElem? (i := 21) (by decide +kernel)) rfl⟩
theorem lX8_rests_232 : MLV RX8 232 mX8_rests mX8_gathers 0 := ⟨⟨wt (List.mem_of_getElem? (i := 1031) (by decide +kernel)) rfl, wt (List.mem_of_getElem? (i := 63) (by decide +kernel)) rfl, wt (List.mem_of_getElem? (i := 1034) (by decide +kernel)) rfl, by decide +kernel, by decide, by decide⟩, by decide +kernel, wt (List.mem_of_getElem? (i := 1033) (by decide +kernel)) rfl, wt (List.mem_of_getElem? (i := 39) (by decide +kernel)) rfl⟩
theorem lX8_rests_236 : MLV RX8 236 mX8_rests mX8_grids 1 := ⟨⟨wt (List.mem_of_getElem? (i := 1035) (by decide +kernel)) rfl, wt (List.mem_of_getElem? (i := 63) (by decide +kernel)) rfl, wt (List.mem_of_getElem? (i := 1038) (by decide +kernel)) rfl, by decide +kernel, by decide, by decide⟩, by decide +kernel, wt (List.mem_of_getElem? (i := 1037) (by decide +kernel)) rfl, wt (List.mem_of_getElem? (i := 40) (by decide +kernel)) rfl⟩
theorem lX8_rests_240 : MLV RX8 240 mX8_rests mX8_restAt 1 := ⟨⟨wt (List.mem_of_getElem? (i := 1042) (by decide +kernel)) rfl, wt (List.mem_of_getElem? (i := 63) (by decide +kernel)) rfl, wt (List.mem_of_getElem? (i := 1045) (by decide +kernel)) rfl, by decide +kernel, by decide, by decide⟩, by decide +kernel, wt (List.mem_of_getElem? (i := 1044) (by decide +kernel)) rfl, wt (List.mem_of_getElem? (i := 41) (by decide +kernel)) rfl⟩
theorem lX8_rests_223 : MLS RX8 223 mX8_rests mX8_minuteOf 3 := ⟨⟨wt (List.mem_of_getElem? (i := 1039) (by decide +kernel)) rfl, wt (List.mem_of_getElem? (i := 63) (by decide +kernel)) rfl, wt (List.mem_of_getElem? (i := 1041) (by decide +kernel)) rfl, by decide +kernel, by decide, by decide⟩, by decide +kernel, wt (List.mem_of_getElem? (i := 1040) (by decide +kernel)) rfl⟩
theorem lX8_round_95 : MLS RX8 95 mX8_round mX8_in 3 := ⟨⟨wt (List.mem_of_getElem? (i := 897) (by decide +kernel)) rfl, wt (List.mem_of_getElem? (i := 63) (by decide +kernel)) rfl, wt (List.mem_of_getElem? (i := 899) (by decide +kernel)) rfl, by decide +kernel, by decide, by decide⟩, by decide +kernel, wt (List.mem_of_getElem? (i := 898) (by decide +kernel)) rfl⟩
theorem lX8_round_243 : MLV RX8 243 mX8_round mX8_weeks 1 := ⟨⟨wt (List.mem_of_getElem? (i := 1062) (by decide +kernel)) rfl, wt (List.mem_of_getElem? (i := 63) (by decide +kernel)) rfl, wt (List.mem_of_getElem? (i := 1065) (by decide +kernel)) rfl, by decide +kernel, by decide, by decide⟩, by decide +kernel, wt (List.mem_of_getElem? (i := 1064) (by decide +kernel)) rfl, wt (List.mem_of_getElem? (i := 44) (by decide +kernel)) rfl⟩
theorem lX8_round_249 : MLV RX8 249 mX8_round mX8_isSameWeek 2 := ⟨⟨wt (List.mem_of_getElem? (i := 1070) (by decide +kernel)) rfl, wt (List.mem_of_getElem? (i := 63) (by decide +kernel)) rfl, wt (List.mem_of_getElem? (i := 1073) (by decide +kernel)) rfl, by decide +kernel, by decide, by decide⟩, by decide +kernel, wt (List.mem_of_getElem? (i := 1072) (by decide +kernel)) rfl, wt (List.mem_of_getElem? (i := 45) (by decide +kernel)) rfl⟩
theorem lX8_set_95 : MLS RX8 95 mX8_set mX8_in 3 := ⟨⟨wt (List.mem_of_getElem? (i := 897) (by decide +kernel)) rfl, wt (List.mem_of_getElem? (i := 63) (by decide +kernel)) rfl, wt (List.mem_of_getElem? (i := 899) (by decide +kernel)) rfl, by decide +kernel, by decide, by decide⟩, by decide +kernel, wt (List.mem_of_getElem? (i := 898) (by decide +kernel)) rfl⟩
theorem lX8_sheet_110 : MLS RX8 110 mX8_sheet mX8_isSheet 1 := ⟨⟨wt (List.mem_of_getElem? (i := 916) (by decide +kernel)) rfl, wt (List.mem_of_getElem? (i := 63) (by decide +kernel)) rfl, wt (List.mem_of_getElem? (i := 918) (by decide +kernel)) rfl, by decide +kernel, by decide, by decide⟩, by decide +kernel, wt (List.mem_of_getElem? (i := 917) (by decide +kernel)) rfl⟩
theorem lX8_sheet_95 : MLS RX8 95 mX8_sheet mX8_in 3 := ⟨⟨wt (List.mem_of_getElem? (i := 897) (by decide +kernel)) rfl, wt (List.mem_of_getElem? (i := 63) (by decide +kernel)) rfl, wt (List.mem_of_getElem? (i := 899) (by decide +kernel)) rfl, by decide +kernel, by decide, by decide⟩, by decide +kernel, wt (List.mem_of_getElem? (i := 898) (by decide +kernel)) rfl⟩
theorem lX8_sheet_113 : MLV RX8 113 mX8_sheet mX8_meets 1 := ⟨⟨wt (List.mem_of_getElem? (i := 919) (by decide +kernel)) rfl, wt (List.mem_of_getElem? (i := 63) (by decide +kernel)) rfl, wt (List.mem_of_getElem? (i := 922) (by decide +kernel)) rfl, by decide +kernel, by decide, by decide⟩, by decide +kernel, wt (List.mem_of_getElem? (i := 921) (by decide +kernel)) rfl, wt (List.mem_of_getElem? (i := 23) (by decide +kernel)) rfl⟩
theorem lX8_sure_107 : MLV RX8 107 mX8_sure mX8_isPlain 1 := ⟨⟨wt (List.mem_of_getElem? (i := 904) (by decide +kernel)) rfl, wt (List.mem_of_getElem? (i := 63) (by decide +kernel)) rfl, wt (List.mem_of_getElem? (i := 907) (by decide +kernel)) rfl, by decide +kernel, by decide, by decide⟩, by decide +kernel, wt (List.mem_of_getElem? (i := 906) (by decide +kernel)) rfl, wt (List.mem_of_getElem? (i := 21) (by decide +kernel)) rfl⟩
theorem lX8_sure_190 : MLV RX8 190 mX8_sure mX8_asTold 0 := ⟨⟨wt (List.mem_of_getElem? (i := 963) (by decide +kernel)) rfl, wt (List.mem_of_getElem? (i := 63) (by decide +kernel)) rfl, wt (List.mem_of_getElem? (i := 966) (by decide +kernel)) rfl, by decide +kernel, by decide, by decide⟩, by decide +kernel, wt (List.mem_of_getElem? (i := 965) (by decide +kernel)) rfl, wt (List.mem_of_getElem? (i := 28) (by decide +kernel)) rfl⟩
theorem lX8_sure_265 : MLV RX8 265 mX8_sure mX8_roads 0 := ⟨⟨wt (List.mem_of_getElem? (i := 1108) (by decide +kernel)) rfl, wt (List.mem_of_getElem? (i := 63) (by decide +kernel)) rfl, wt (List.mem_of_getElem? (i := 1111) (by decide +kernel)) rfl, by decide +kernel, by decide, by decide⟩, by decide +kernel, wt (List.mem_of_getElem? (i := 1110) (by decide +kernel)) rfl, wt (List.mem_of_getElem? (i := 48) (by decide +kernel)) rfl⟩
theorem lX8_sure_282 : MLV RX8 282 mX8_sure mX8_meanNow 1 := ⟨⟨wt (List.mem_of_getElem? (i := 1124) (by decide +kernel)) rfl, wt (List.mem_of_getElem? (i := 63) (by decide +kernel)) rfl, wt (List.mem_of_getElem? (i := 1127) (by decide +kernel)) rfl, by decide +kernel, by decide, by decide⟩, by decide +kernel, wt (List.mem_of_getElem? (i := 1126) (by decide +kernel)) rfl, wt (List.mem_of_getElem? (i := 50) (by decide +kernel)) rfl⟩
theorem lX8_takes_193 : MLV RX8 193 mX8_takes mX8_goes 0 := ⟨⟨wt (List.mem_of_getElem? (i := 967) (by decide +kernel)) rfl, wt (List.mem_of_getElem? (i := 63) (by decide +kernel)) rfl, wt (List.mem_of_getElem? (i := 970) (by decide +kernel)) rfl, by decide +kernel, by decide, by decide⟩, by decide +kernel, wt (List.mem_of_getElem? (i := 969) (by decide +kernel)) rfl, wt (List.mem_of_getElem? (i := 29) (by decide +kernel)) rfl⟩
theorem lX8_type_95 : MLS RX8 95 mX8_type mX8_in 3 := ⟨⟨wt (List.mem_of_getElem? (i := 897) (by decide +kernel)) rfl, wt (List.mem_of_getElem? (i := 63) (by decide +kernel)) rfl, wt (List.mem_of_getElem? (i := 899) (by decide +kernel)) rfl, by decide +kernel, by decide, by decide⟩, by decide +kernel, wt (List.mem_of_getElem? (i := 898) (by decide +kernel)) rfl⟩
theorem lX8_week_95 : MLS RX8 95 mX8_week mX8_in 3 := ⟨⟨wt (List.mem_of_getElem? (i := 897) (by decide +kernel)) rfl, wt (List.mem_of_getElem? (i := 63) (by decide +kernel)) rfl, wt (List.mem_of_getElem? (i := 899) (by decide +kernel)) rfl, by decide +kernel, by decide, by decide⟩, by decide +kernel, wt (List.mem_of_getElem? (i := 898) (by decide +kernel)) rfl⟩
theorem lX8_week_246 : MLV RX8 246 mX8_week mX8_weekNow 1 := ⟨⟨wt (List.mem_of_getElem? (i := 1058) (by decide +kernel)) rfl, wt (List.mem_of_getElem? (i := 63) (by decide +kernel)) rfl, wt (List.mem_of_getElem? (i := 1061) (by decide +kernel)) rfl, by decide +kernel, by decide, by decide⟩, by decide +kernel, wt (List.mem_of_getElem? (i := 1060) (by decide +kernel)) rfl, wt (List.mem_of_getElem? (i := 43) (by decide +kernel)) rfl⟩
theorem lX8_weekNow_243 : MLV RX8 243 mX8_weekNow mX8_weeks 1 := ⟨⟨wt (List.mem_of_getElem? (i := 1062) (by decide +kernel)) rfl, wt (List.mem_of_getElem? (i := 63) (by decide +kernel)) rfl, wt (List.mem_of_getElem? (i := 1065) (by decide +kernel)) rfl, by decide +kernel, by decide, by decide⟩, by decide +kernel, wt (List.mem_of_getElem? (i := 1064) (by decide +kernel)) rfl, wt (List.mem_of_getElem? (i := 44) (by decide +kernel)) rfl⟩
theorem lX8_weeks_190 : MLV RX8 190 mX8_weeks mX8_asTold 0 := ⟨⟨wt (List.mem_of_getElem? (i := 963) (by decide +kernel)) rfl, wt (List.mem_of_getElem? (i := 63) (by decide +kernel)) rfl, wt (List.mem_of_getElem? (i := 966) (by decide +kernel)) rfl, by decide +kernel, by decide, by decide⟩, by decide +kernel, wt (List.mem_of_getElem? (i := 965) (by decide +kernel)) rfl, wt (List.mem_of_getElem? (i := 28) (by decide +kernel)) rfl⟩
theorem lX8_weeks_193 : MLV RX8 193 mX8_weeks mX8_goes 0 := ⟨⟨wt (List.mem_of_getElem? (i := 967) (by decide +kernel)) rfl, wt (List.mem_of_getElem? (i := 63) (by decide +kernel)) rfl, wt (List.mem_of_getElem? (i := 970) (by decide +kernel)) rfl, by decide +kernel, by decide, by decide⟩, by decide +kernel, wt (List.mem_of_getElem? (i := 969) (by decide +kernel)) rfl, wt (List.mem_of_getElem? (i := 29) (by decide +kernel)) rfl⟩
theorem lX8_weeks_199 : MLV RX8 199 mX8_weeks mX8_bestOf 2 := ⟨⟨wt (List.mem_of_getElem? (i := 1003) (by decide +kernel)) rfl, wt (List.mem_of_getElem? (i := 63) (by decide +kernel)) rfl, wt (List.mem_of_getElem? (i := 1006) (by decide +kernel)) rfl, by decide +kernel, by decide, by decide⟩, by decide +kernel, wt (List.mem_of_getElem? (i := 1005) (by decide +kernel)) rfl, wt (List.mem_of_getElem? (i := 35) (by decide +kernel)) rfl⟩
theorem lX8_write_110 : MLS RX8 110 mX8_write mX8_isSheet 1 := ⟨⟨wt (List.mem_of_getElem? (i := 916) (by decide +kernel)) rfl, wt (List.mem_of_getElem? (i := 63) (by decide +kernel)) rfl, wt (List.mem_of_getElem? (i := 918) (by decide +kernel)) rfl, by decide +kernel, by decide, by decide⟩, by decide +kernel, wt (List.mem_of_getElem? (i := 917) (by decide +kernel)) rfl⟩
theorem lX8_write_113 : MLV RX8 113 mX8_write mX8_meets 1 := ⟨⟨wt (List.mem_of_getElem? (i := 919) (by decide +kernel)) rfl, wt (List.mem_of_getElem? (i := 63) (by decide +kernel)) rfl, wt (List.mem_of_getElem? (i := 922) (by decide +kernel)) rfl, by decide +kernel, by decide, by decide⟩, by decide +kernel, wt (List.mem_of_getElem? (i := 921) (by decide +kernel)) rfl, wt (List.mem_of_getElem? (i := 23) (by decide +kernel)) rfl⟩
theorem lX8_write_243 : MLV RX8 243 mX8_write mX8_weeks 1 := ⟨⟨wt (List.mem_of_getElem? (i := 1062) (by decide +kernel)) rfl, wt (List.mem_of_getElem? (i := 63) (by decide +kernel)) rfl, wt (List.mem_of_getElem? (i := 1065) (by decide +kernel)) rfl, by decide +kernel, by decide, by decide⟩, by decide +kernel, wt (List.mem_of_getElem? (i := 1064) (by decide +kernel)) rfl, wt (List.mem_of_getElem? (i := 44) (by decide +kernel)) rfl⟩
theorem lX8_write_291 : MLV RX8 291 mX8_write mX8_keep 3 := ⟨⟨wt (List.mem_of_getElem? (i := 1148) (by decide +kernel)) rfl, wt (List.mem_of_getElem? (i := 63) (by decide +kernel)) rfl, wt (List.mem_of_getElem? (i := 1151) (by decide +kernel)) rfl, by decide +kernel, by decide, by decide⟩, by decide +kernel, wt (List.mem_of_getElem? (i := 1150) (by decide +kernel)) rfl, wt (List.mem_of_getElem? (i := 52) (by decide +kernel)) rfl⟩
end
