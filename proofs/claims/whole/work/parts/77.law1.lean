-- the law's calls
theorem lL_13 : MLL 13 mX7_comer 3 := ⟨List.mem_of_getElem? (i := 325) (by decide +kernel), wt (List.mem_of_getElem? (i := 55) (by decide +kernel)) rfl, wt (List.mem_of_getElem? (i := 328) (by decide +kernel)) rfl, by decide +kernel, by decide, by decide, by decide +kernel, wt (List.mem_of_getElem? (i := 326) (by decide +kernel)) rfl, wt (List.mem_of_getElem? (i := 327) (by decide +kernel)) rfl⟩
theorem lL_17 : MLL 17 mX8_comer 3 := ⟨List.mem_of_getElem? (i := 893) (by decide +kernel), wt (List.mem_of_getElem? (i := 63) (by decide +kernel)) rfl, wt (List.mem_of_getElem? (i := 896) (by decide +kernel)) rfl, by decide +kernel, by decide, by decide, by decide +kernel, wt (List.mem_of_getElem? (i := 894) (by decide +kernel)) rfl, wt (List.mem_of_getElem? (i := 895) (by decide +kernel)) rfl⟩
theorem lL_18 : MLL 18 mX7_aim 2 := ⟨List.mem_of_getElem? (i := 335) (by decide +kernel), wt (List.mem_of_getElem? (i := 55) (by decide +kernel)) rfl, wt (List.mem_of_getElem? (i := 338) (by decide +kernel)) rfl, by decide +kernel, by decide, by decide, by decide +kernel, wt (List.mem_of_getElem? (i := 336) (by decide +kernel)) rfl, wt (List.mem_of_getElem? (i := 337) (by decide +kernel)) rfl⟩
theorem lL_22 : MLL 22 mX8_aim 2 := ⟨List.mem_of_getElem? (i := 900) (by decide +kernel), wt (List.mem_of_getElem? (i := 63) (by decide +kernel)) rfl, wt (List.mem_of_getElem? (i := 903) (by decide +kernel)) rfl, by decide +kernel, by decide, by decide, by decide +kernel, wt (List.mem_of_getElem? (i := 901) (by decide +kernel)) rfl, wt (List.mem_of_getElem? (i := 902) (by decide +kernel)) rfl⟩
theorem lL_23 : MLL 23 mX7_read 1 := ⟨List.mem_of_getElem? (i := 343) (by decide +kernel), wt (List.mem_of_getElem? (i := 55) (by decide +kernel)) rfl, wt (List.mem_of_getElem? (i := 346) (by decide +kernel)) rfl, by decide +kernel, by decide, by decide, by decide +kernel, wt (List.mem_of_getElem? (i := 344) (by decide +kernel)) rfl, wt (List.mem_of_getElem? (i := 345) (by decide +kernel)) rfl⟩
theorem lL_27 : MLL 27 mX8_read 1 := ⟨List.mem_of_getElem? (i := 912) (by decide +kernel), wt (List.mem_of_getElem? (i := 63) (by decide +kernel)) rfl, wt (List.mem_of_getElem? (i := 915) (by decide +kernel)) rfl, by decide +kernel, by decide, by decide, by decide +kernel, wt (List.mem_of_getElem? (i := 913) (by decide +kernel)) rfl, wt (List.mem_of_getElem? (i := 914) (by decide +kernel)) rfl⟩
theorem lL_28 : MLL 28 mX7_cost 3 := ⟨List.mem_of_getElem? (i := 358) (by decide +kernel), wt (List.mem_of_getElem? (i := 55) (by decide +kernel)) rfl, wt (List.mem_of_getElem? (i := 361) (by decide +kernel)) rfl, by decide +kernel, by decide, by decide, by decide +kernel, wt (List.mem_of_getElem? (i := 359) (by decide +kernel)) rfl, wt (List.mem_of_getElem? (i := 360) (by decide +kernel)) rfl⟩
theorem lL_31 : MLL 31 mX8_cost 3 := ⟨List.mem_of_getElem? (i := 923) (by decide +kernel), wt (List.mem_of_getElem? (i := 63) (by decide +kernel)) rfl, wt (List.mem_of_getElem? (i := 926) (by decide +kernel)) rfl, by decide +kernel, by decide, by decide, by decide +kernel, wt (List.mem_of_getElem? (i := 924) (by decide +kernel)) rfl, wt (List.mem_of_getElem? (i := 925) (by decide +kernel)) rfl⟩
theorem lL_32 : MLL 32 mX7_set 2 := ⟨List.mem_of_getElem? (i := 370) (by decide +kernel), wt (List.mem_of_getElem? (i := 55) (by decide +kernel)) rfl, wt (List.mem_of_getElem? (i := 373) (by decide +kernel)) rfl, by decide +kernel, by decide, by decide, by decide +kernel, wt (List.mem_of_getElem? (i := 371) (by decide +kernel)) rfl, wt (List.mem_of_getElem? (i := 372) (by decide +kernel)) rfl⟩
theorem lL_35 : MLL 35 mX8_set 2 := ⟨List.mem_of_getElem? (i := 927) (by decide +kernel), wt (List.mem_of_getElem? (i := 63) (by decide +kernel)) rfl, wt (List.mem_of_getElem? (i := 930) (by decide +kernel)) rfl, by decide +kernel, by decide, by decide, by decide +kernel, wt (List.mem_of_getElem? (i := 928) (by decide +kernel)) rfl, wt (List.mem_of_getElem? (i := 929) (by decide +kernel)) rfl⟩
theorem lL_36 : MLL 36 mX7_type 1 := ⟨List.mem_of_getElem? (i := 375) (by decide +kernel), wt (List.mem_of_getElem? (i := 55) (by decide +kernel)) rfl, wt (List.mem_of_getElem? (i := 378) (by decide +kernel)) rfl, by decide +kernel, by decide, by decide, by decide +kernel, wt (List.mem_of_getElem? (i := 376) (by decide +kernel)) rfl, wt (List.mem_of_getElem? (i := 377) (by decide +kernel)) rfl⟩
theorem lL_39 : MLL 39 mX8_type 1 := ⟨List.mem_of_getElem? (i := 931) (by decide +kernel), wt (List.mem_of_getElem? (i := 63) (by decide +kernel)) rfl, wt (List.mem_of_getElem? (i := 934) (by decide +kernel)) rfl, by decide +kernel, by decide, by decide, by decide +kernel, wt (List.mem_of_getElem? (i := 932) (by decide +kernel)) rfl, wt (List.mem_of_getElem? (i := 933) (by decide +kernel)) rfl⟩
theorem lL_40 : MLL 40 mX7_wipe 0 := ⟨List.mem_of_getElem? (i := 414) (by decide +kernel), wt (List.mem_of_getElem? (i := 55) (by decide +kernel)) rfl, wt (List.mem_of_getElem? (i := 417) (by decide +kernel)) rfl, by decide +kernel, by decide, by decide, by decide +kernel, wt (List.mem_of_getElem? (i := 415) (by decide +kernel)) rfl, wt (List.mem_of_getElem? (i := 416) (by decide +kernel)) rfl⟩
theorem lL_44 : MLL 44 mX8_wipe 0 := ⟨List.mem_of_getElem? (i := 935) (by decide +kernel), wt (List.mem_of_getElem? (i := 63) (by decide +kernel)) rfl, wt (List.mem_of_getElem? (i := 938) (by decide +kernel)) rfl, by decide +kernel, by decide, by decide, by decide +kernel, wt (List.mem_of_getElem? (i := 936) (by decide +kernel)) rfl, wt (List.mem_of_getElem? (i := 937) (by decide +kernel)) rfl⟩
theorem lL_45 : MLL 45 mX7_fault 0 := ⟨List.mem_of_getElem? (i := 422) (by decide +kernel), wt (List.mem_of_getElem? (i := 55) (by decide +kernel)) rfl, wt (List.mem_of_getElem? (i := 425) (by decide +kernel)) rfl, by decide +kernel, by decide, by decide, by decide +kernel, wt (List.mem_of_getElem? (i := 423) (by decide +kernel)) rfl, wt (List.mem_of_getElem? (i := 424) (by decide +kernel)) rfl⟩
theorem lL_48 : MLL 48 mX8_fault 0 := ⟨List.mem_of_getElem? (i := 939) (by decide +kernel), wt (List.mem_of_getElem? (i := 63) (by decide +kernel)) rfl, wt (List.mem_of_getElem? (i := 942) (by decide +kernel)) rfl, by decide +kernel, by decide, by decide, by decide +kernel, wt (List.mem_of_getElem? (i := 940) (by decide +kernel)) rfl, wt (List.mem_of_getElem? (i := 941) (by decide +kernel)) rfl⟩
theorem lL_49 : MLL 49 mX7_begins 0 := ⟨List.mem_of_getElem? (i := 426) (by decide +kernel), wt (List.mem_of_getElem? (i := 55) (by decide +kernel)) rfl, wt (List.mem_of_getElem? (i := 429) (by decide +kernel)) rfl, by decide +kernel, by decide, by decide, by decide +kernel, wt (List.mem_of_getElem? (i := 427) (by decide +kernel)) rfl, wt (List.mem_of_getElem? (i := 428) (by decide +kernel)) rfl⟩
theorem lL_52 : MLL 52 mX8_begins 0 := ⟨List.mem_of_getElem? (i := 959) (by decide +kernel), wt (List.mem_of_getElem? (i := 63) (by decide +kernel)) rfl, wt (List.mem_of_getElem? (i := 962) (by decide +kernel)) rfl, by decide +kernel, by decide, by decide, by decide +kernel, wt (List.mem_of_getElem? (i := 960) (by decide +kernel)) rfl, wt (List.mem_of_getElem? (i := 961) (by decide +kernel)) rfl⟩
theorem lL_53 : MLL 53 mX7_comes 1 := ⟨List.mem_of_getElem? (i := 461) (by decide +kernel), wt (List.mem_of_getElem? (i := 55) (by decide +kernel)) rfl, wt (List.mem_of_getElem? (i := 464) (by decide +kernel)) rfl, by decide +kernel, by decide, by decide, by decide +kernel, wt (List.mem_of_getElem? (i := 462) (by decide +kernel)) rfl, wt (List.mem_of_getElem? (i := 463) (by decide +kernel)) rfl⟩
theorem lL_56 : MLL 56 mX8_comes 1 := ⟨List.mem_of_getElem? (i := 983) (by decide +kernel), wt (List.mem_of_getElem? (i := 63) (by decide +kernel)) rfl, wt (List.mem_of_getElem? (i := 986) (by decide +kernel)) rfl, by decide +kernel, by decide, by decide, by decide +kernel, wt (List.mem_of_getElem? (i := 984) (by decide +kernel)) rfl, wt (List.mem_of_getElem? (i := 985) (by decide +kernel)) rfl⟩
theorem lL_57 : MLL 57 mX7_pays 1 := ⟨List.mem_of_getElem? (i := 465) (by decide +kernel), wt (List.mem_of_getElem? (i := 55) (by decide +kernel)) rfl, wt (List.mem_of_getElem? (i := 468) (by decide +kernel)) rfl, by decide +kernel, by decide, by decide, by decide +kernel, wt (List.mem_of_getElem? (i := 466) (by decide +kernel)) rfl, wt (List.mem_of_getElem? (i := 467) (by decide +kernel)) rfl⟩
theorem lL_60 : MLL 60 mX8_pays 1 := ⟨List.mem_of_getElem? (i := 987) (by decide +kernel), wt (List.mem_of_getElem? (i := 63) (by decide +kernel)) rfl, wt (List.mem_of_getElem? (i := 990) (by decide +kernel)) rfl, by decide +kernel, by decide, by decide, by decide +kernel, wt (List.mem_of_getElem? (i := 988) (by decide +kernel)) rfl, wt (List.mem_of_getElem? (i := 989) (by decide +kernel)) rfl⟩
theorem lL_61 : MLL 61 mX7_best 2 := ⟨List.mem_of_getElem? (i := 479) (by decide +kernel), wt (List.mem_of_getElem? (i := 55) (by decide +kernel)) rfl, wt (List.mem_of_getElem? (i := 482) (by decide +kernel)) rfl, by decide +kernel, by decide, by decide, by decide +kernel, wt (List.mem_of_getElem? (i := 480) (by decide +kernel)) rfl, wt (List.mem_of_getElem? (i := 481) (by decide +kernel)) rfl⟩
theorem lL_65 : MLL 65 mX8_best 2 := ⟨List.mem_of_getElem? (i := 999) (by decide +kernel), wt (List.mem_of_getElem? (i := 63) (by decide +kernel)) rfl, wt (List.mem_of_getElem? (i := 1002) (by decide +kernel)) rfl, by decide +kernel, by decide, by decide, by decide +kernel, wt (List.mem_of_getElem? (i := 1000) (by decide +kernel)) rfl, wt (List.mem_of_getElem? (i := 1001) (by decide +kernel)) rfl⟩
theorem lL_66 : MLL 66 mX7_restless 0 := ⟨List.mem_of_getElem? (i := 488) (by decide +kernel), wt (List.mem_of_getElem? (i := 55) (by decide +kernel)) rfl, wt (List.mem_of_getElem? (i := 491) (by decide +kernel)) rfl, by decide +kernel, by decide, by decide, by decide +kernel, wt (List.mem_of_getElem? (i := 489) (by decide +kernel)) rfl, wt (List.mem_of_getElem? (i := 490) (by decide +kernel)) rfl⟩
theorem lL_69 : MLL 69 mX8_restless 0 := ⟨List.mem_of_getElem? (i := 1007) (by decide +kernel), wt (List.mem_of_getElem? (i := 63) (by decide +kernel)) rfl, wt (List.mem_of_getElem? (i := 1010) (by decide +kernel)) rfl, by decide +kernel, by decide, by decide, by decide +kernel, wt (List.mem_of_getElem? (i := 1008) (by decide +kernel)) rfl, wt (List.mem_of_getElem? (i := 1009) (by decide +kernel)) rfl⟩
theorem lL_70 : MLL 70 mX7_climb 2 := ⟨List.mem_of_getElem? (i := 501) (by decide +kernel), wt (List.mem_of_getElem? (i := 55) (by decide +kernel)) rfl, wt (List.mem_of_getElem? (i := 504) (by decide +kernel)) rfl, by decide +kernel, by decide, by decide, by decide +kernel, wt (List.mem_of_getElem? (i := 502) (by decide +kernel)) rfl, wt (List.mem_of_getElem? (i := 503) (by decide +kernel)) rfl⟩
theorem lL_74 : MLL 74 mX8_climb 2 := ⟨List.mem_of_getElem? (i := 1015) (by decide +kernel), wt (List.mem_of_getElem? (i := 63) (by decide +kernel)) rfl, wt (List.mem_of_getElem? (i := 1018) (by decide +kernel)) rfl, by decide +kernel, by decide, by decide, by decide +kernel, wt (List.mem_of_getElem? (i := 1016) (by decide +kernel)) rfl, wt (List.mem_of_getElem? (i := 1017) (by decide +kernel)) rfl⟩
theorem lL_75 : MLL 75 mX7_rests 3 := ⟨List.mem_of_getElem? (i := 513) (by decide +kernel), wt (List.mem_of_getElem? (i := 55) (by decide +kernel)) rfl, wt (List.mem_of_getElem? (i := 516) (by decide +kernel)) rfl, by decide +kernel, by decide, by decide, by decide +kernel, wt (List.mem_of_getElem? (i := 514) (by decide +kernel)) rfl, wt (List.mem_of_getElem? (i := 515) (by decide +kernel)) rfl⟩
theorem lL_78 : MLL 78 mX8_rests 3 := ⟨List.mem_of_getElem? (i := 1027) (by decide +kernel), wt (List.mem_of_getElem? (i := 63) (by decide +kernel)) rfl, wt (List.mem_of_getElem? (i := 1030) (by decide +kernel)) rfl, by decide +kernel, by decide, by decide, by decide +kernel, wt (List.mem_of_getElem? (i := 1028) (by decide +kernel)) rfl, wt (List.mem_of_getElem? (i := 1029) (by decide +kernel)) rfl⟩
theorem lL_79 : MLL 79 mX7_lost 2 := ⟨List.mem_of_getElem? (i := 550) (by decide +kernel), wt (List.mem_of_getElem? (i := 55) (by decide +kernel)) rfl, wt (List.mem_of_getElem? (i := 553) (by decide +kernel)) rfl, by decide +kernel, by decide, by decide, by decide +kernel, wt (List.mem_of_getElem? (i := 551) (by decide +kernel)) rfl, wt (List.mem_of_getElem? (i := 552) (by decide +kernel)) rfl⟩
theorem lL_82 : MLL 82 mX8_lost 2 := ⟨List.mem_of_getElem? (i := 1050) (by decide +kernel), wt (List.mem_of_getElem? (i := 63) (by decide +kernel)) rfl, wt (List.mem_of_getElem? (i := 1053) (by decide +kernel)) rfl, by decide +kernel, by decide, by decide, by decide +kernel, wt (List.mem_of_getElem? (i := 1051) (by decide +kernel)) rfl, wt (List.mem_of_getElem? (i := 1052) (by decide +kernel)) rfl⟩
theorem lL_83 : MLL 83 mX7_week 1 := ⟨List.mem_of_getElem? (i := 563) (by decide +kernel), wt (List.mem_of_getElem? (i := 55) (by decide +kernel)) rfl, wt (List.mem_of_getElem? (i := 566) (by decide +kernel)) rfl, by decide +kernel, by decide, by decide, by decide +kernel, wt (List.mem_of_getElem? (i := 564) (by decide +kernel)) rfl, wt (List.mem_of_getElem? (i := 565) (by decide +kernel)) rfl⟩
theorem lL_86 : MLL 86 mX8_week 1 := ⟨List.mem_of_getElem? (i := 1054) (by decide +kernel), wt (List.mem_of_getElem? (i := 63) (by decide +kernel)) rfl, wt (List.mem_of_getElem? (i := 1057) (by decide +kernel)) rfl, by decide +kernel, by decide, by decide, by decide +kernel, wt (List.mem_of_getElem? (i := 1055) (by decide +kernel)) rfl, wt (List.mem_of_getElem? (i := 1056) (by decide +kernel)) rfl⟩
theorem lL_87 : MLL 87 mX7_round 1 := ⟨List.mem_of_getElem? (i := 584) (by decide +kernel), wt (List.mem_of_getElem? (i := 55) (by decide +kernel)) rfl, wt (List.mem_of_getElem? (i := 587) (by decide +kernel)) rfl, by decide +kernel, by decide, by decide, by decide +kernel, wt (List.mem_of_getElem? (i := 585) (by decide +kernel)) rfl, wt (List.mem_of_getElem? (i := 586) (by decide +kernel)) rfl⟩
theorem lL_90 : MLL 90 mX8_round 1 := ⟨List.mem_of_getElem? (i := 1066) (by decide +kernel), wt (List.mem_of_getElem? (i := 63) (by decide +kernel)) rfl, wt (List.mem_of_getElem? (i := 1069) (by decide +kernel)) rfl, by decide +kernel, by decide, by decide, by decide +kernel, wt (List.mem_of_getElem? (i := 1067) (by decide +kernel)) rfl, wt (List.mem_of_getElem? (i := 1068) (by decide +kernel)) rfl⟩
theorem lL_91 : MLL 91 mX7_moved 1 := ⟨List.mem_of_getElem? (i := 588) (by decide +kernel), wt (List.mem_of_getElem? (i := 55) (by decide +kernel)) rfl, wt (List.mem_of_getElem? (i := 591) (by decide +kernel)) rfl, by decide +kernel, by decide, by decide, by decide +kernel, wt (List.mem_of_getElem? (i := 589) (by decide +kernel)) rfl, wt (List.mem_of_getElem? (i := 590) (by decide +kernel)) rfl⟩
theorem lL_94 : MLL 94 mX8_moved 1 := ⟨List.mem_of_getElem? (i := 1074) (by decide +kernel), wt (List.mem_of_getElem? (i := 63) (by decide +kernel)) rfl, wt (List.mem_of_getElem? (i := 1077) (by decide +kernel)) rfl, by decide +kernel, by decide, by decide, by decide +kernel, wt (List.mem_of_getElem? (i := 1075) (by decide +kernel)) rfl, wt (List.mem_of_getElem? (i := 1076) (by decide +kernel)) rfl⟩
theorem lL_95 : MLL 95 mX7_least 1 := ⟨List.mem_of_getElem? (i := 595) (by decide +kernel), wt (List.mem_of_getElem? (i := 55) (by decide +kernel)) rfl, wt (List.mem_of_getElem? (i := 598) (by decide +kernel)) rfl, by decide +kernel, by decide, by decide, by decide +kernel, wt (List.mem_of_getElem? (i := 596) (by decide +kernel)) rfl, wt (List.mem_of_getElem? (i := 597) (by decide +kernel)) rfl⟩
theorem lL_99 : MLL 99 mX8_least 1 := ⟨List.mem_of_getElem? (i := 1081) (by decide +kernel), wt (List.mem_of_getElem? (i := 63) (by decide +kernel)) rfl, wt (List.mem_of_getElem? (i := 1084) (by decide +kernel)) rfl, by decide +kernel, by decide, by decide, by decide +kernel, wt (List.mem_of_getElem? (i := 1082) (by decide +kernel)) rfl, wt (List.mem_of_getElem? (i := 1083) (by decide +kernel)) rfl⟩
theorem lL_100 : MLL 100 mX7_keys 1 := ⟨List.mem_of_getElem? (i := 603) (by decide +kernel), wt (List.mem_of_getElem? (i := 55) (by decide +kernel)) rfl, wt (List.mem_of_getElem? (i := 606) (by decide +kernel)) rfl, by decide +kernel, by decide, by decide, by decide +kernel, wt (List.mem_of_getElem? (i := 604) (by decide +kernel)) rfl, wt (List.mem_of_getElem? (i := 605) (by decide +kernel)) rfl⟩
theorem lL_103 : MLL 103 mX8_keys 1 := ⟨List.mem_of_getElem? (i := 1085) (by decide +kernel), wt (List.mem_of_getElem? (i := 63) (by decide +kernel)) rfl, wt (List.mem_of_getElem? (i := 1088) (by decide +kernel)) rfl, by decide +kernel, by decide, by decide, by decide +kernel, wt (List.mem_of_getElem? (i := 1086) (by decide +kernel)) rfl, wt (List.mem_of_getElem? (i := 1087) (by decide +kernel)) rfl⟩
theorem lL_104 : MLL 104 mX7_guests 0 := ⟨List.mem_of_getElem? (i := 615) (by decide +kernel), wt (List.mem_of_getElem? (i := 55) (by decide +kernel)) rfl, wt (List.mem_of_getElem? (i := 618) (by decide +kernel)) rfl, by decide +kernel, by decide, by decide, by decide +kernel, wt (List.mem_of_getElem? (i := 616) (by decide +kernel)) rfl, wt (List.mem_of_getElem? (i := 617) (by decide +kernel)) rfl⟩
theorem lL_107 : MLL 107 mX8_guests 0 := ⟨List.mem_of_getElem? (i := 1093) (by decide +kernel), wt (List.mem_of_getElem? (i := 63) (by decide +kernel)) rfl, wt (List.mem_of_getElem? (i := 1096) (by decide +kernel)) rfl, by decide +kernel, by decide, by decide, by decide +kernel, wt (List.mem_of_getElem? (i := 1094) (by decide +kernel)) rfl, wt (List.mem_of_getElem? (i := 1095) (by decide +kernel)) rfl⟩
theorem lL_108 : MLL 108 mX7_odds 2 := ⟨List.mem_of_getElem? (i := 623) (by decide +kernel), wt (List.mem_of_getElem? (i := 55) (by decide +kernel)) rfl, wt (List.mem_of_getElem? (i := 626) (by decide +kernel)) rfl, by decide +kernel, by decide, by decide, by decide +kernel, wt (List.mem_of_getElem? (i := 624) (by decide +kernel)) rfl, wt (List.mem_of_getElem? (i := 625) (by decide +kernel)) rfl⟩
theorem lL_112 : MLL 112 mX8_odds 2 := ⟨List.mem_of_getElem? (i := 1100) (by decide +kernel), wt (List.mem_of_getElem? (i := 63) (by decide +kernel)) rfl, wt (List.mem_of_getElem? (i := 1103) (by decide +kernel)) rfl, by decide +kernel, by decide, by decide, by decide +kernel, wt (List.mem_of_getElem? (i := 1101) (by decide +kernel)) rfl, wt (List.mem_of_getElem? (i := 1102) (by decide +kernel)) rfl⟩
theorem lL_113 : MLL 113 mX7_mean 2 := ⟨List.mem_of_getElem? (i := 643) (by decide +kernel), wt (List.mem_of_getElem? (i := 55) (by decide +kernel)) rfl, wt (List.mem_of_getElem? (i := 646) (by decide +kernel)) rfl, by decide +kernel, by decide, by decide, by decide +kernel, wt (List.mem_of_getElem? (i := 644) (by decide +kernel)) rfl, wt (List.mem_of_getElem? (i := 645) (by decide +kernel)) rfl⟩
theorem lL_116 : MLL 116 mX8_mean 2 := ⟨List.mem_of_getElem? (i := 1120) (by decide +kernel), wt (List.mem_of_getElem? (i := 63) (by decide +kernel)) rfl, wt (List.mem_of_getElem? (i := 1123) (by decide +kernel)) rfl, by decide +kernel, by decide, by decide, by decide +kernel, wt (List.mem_of_getElem? (i := 1121) (by decide +kernel)) rfl, wt (List.mem_of_getElem? (i := 1122) (by decide +kernel)) rfl⟩
theorem lL_117 : MLL 117 mX7_sure 1 := ⟨List.mem_of_getElem? (i := 652) (by decide +kernel), wt (List.mem_of_getElem? (i := 55) (by decide +kernel)) rfl, wt (List.mem_of_getElem? (i := 655) (by decide +kernel)) rfl, by decide +kernel, by decide, by decide, by decide +kernel, wt (List.mem_of_getElem? (i := 653) (by decide +kernel)) rfl, wt (List.mem_of_getElem? (i := 654) (by decide +kernel)) rfl⟩
theorem lL_120 : MLL 120 mX8_sure 1 := ⟨List.mem_of_getElem? (i := 1128) (by decide +kernel), wt (List.mem_of_getElem? (i := 63) (by decide +kernel)) rfl, wt (List.mem_of_getElem? (i := 1131) (by decide +kernel)) rfl, by decide +kernel, by decide, by decide, by decide +kernel, wt (List.mem_of_getElem? (i := 1129) (by decide +kernel)) rfl, wt (List.mem_of_getElem? (i := 1130) (by decide +kernel)) rfl⟩
theorem lL_121 : MLL 121 mX7_sheet 3 := ⟨List.mem_of_getElem? (i := 657) (by decide +kernel), wt (List.mem_of_getElem? (i := 55) (by decide +kernel)) rfl, wt (List.mem_of_getElem? (i := 660) (by decide +kernel)) rfl, by decide +kernel, by decide, by decide, by decide +kernel, wt (List.mem_of_getElem? (i := 658) (by decide +kernel)) rfl, wt (List.mem_of_getElem? (i := 659) (by decide +kernel)) rfl⟩
theorem lL_124 : MLL 124 mX8_sheet 3 := ⟨List.mem_of_getElem? (i := 1132) (by decide +kernel), wt (List.mem_of_getElem? (i := 63) (by decide +kernel)) rfl, wt (List.mem_of_getElem? (i := 1135) (by decide +kernel)) rfl, by decide +kernel, by decide, by decide, by decide +kernel, wt (List.mem_of_getElem? (i := 1133) (by decide +kernel)) rfl, wt (List.mem_of_getElem? (i := 1134) (by decide +kernel)) rfl⟩
theorem lL_125 : MLL 125 mX7_lose 1 := ⟨List.mem_of_getElem? (i := 668) (by decide +kernel), wt (List.mem_of_getElem? (i := 55) (by decide +kernel)) rfl, wt (List.mem_of_getElem? (i := 671) (by decide +kernel)) rfl, by decide +kernel, by decide, by decide, by decide +kernel, wt (List.mem_of_getElem? (i := 669) (by decide +kernel)) rfl, wt (List.mem_of_getElem? (i := 670) (by decide +kernel)) rfl⟩
theorem lL_128 : MLL 128 mX8_lose 1 := ⟨List.mem_of_getElem? (i := 1136) (by decide +kernel), wt (List.mem_of_getElem? (i := 63) (by decide +kernel)) rfl, wt (List.mem_of_getElem? (i := 1139) (by decide +kernel)) rfl, by decide +kernel, by decide, by decide, by decide +kernel, wt (List.mem_of_getElem? (i := 1137) (by decide +kernel)) rfl, wt (List.mem_of_getElem? (i := 1138) (by decide +kernel)) rfl⟩
theorem lL_129 : MLL 129 mX7_put 4 := ⟨List.mem_of_getElem? (i := 676) (by decide +kernel), wt (List.mem_of_getElem? (i := 55) (by decide +kernel)) rfl, wt (List.mem_of_getElem? (i := 679) (by decide +kernel)) rfl, by decide +kernel, by decide, by decide, by decide +kernel, wt (List.mem_of_getElem? (i := 677) (by decide +kernel)) rfl, wt (List.mem_of_getElem? (i := 678) (by decide +kernel)) rfl⟩
theorem lL_133 : MLL 133 mX8_put 4 := ⟨List.mem_of_getElem? (i := 1140) (by decide +kernel), wt (List.mem_of_getElem? (i := 63) (by decide +kernel)) rfl, wt (List.mem_of_getElem? (i := 1143) (by decide +kernel)) rfl, by decide +kernel, by decide, by decide, by decide +kernel, wt (List.mem_of_getElem? (i := 1141) (by decide +kernel)) rfl, wt (List.mem_of_getElem? (i := 1142) (by decide +kernel)) rfl⟩
theorem lL_134 : MLL 134 mX7_get 3 := ⟨List.mem_of_getElem? (i := 689) (by decide +kernel), wt (List.mem_of_getElem? (i := 55) (by decide +kernel)) rfl, wt (List.mem_of_getElem? (i := 692) (by decide +kernel)) rfl, by decide +kernel, by decide, by decide, by decide +kernel, wt (List.mem_of_getElem? (i := 690) (by decide +kernel)) rfl, wt (List.mem_of_getElem? (i := 691) (by decide +kernel)) rfl⟩
theorem lL_137 : MLL 137 mX8_get 3 := ⟨List.mem_of_getElem? (i := 1152) (by decide +kernel), wt (List.mem_of_getElem? (i := 63) (by decide +kernel)) rfl, wt (List.mem_of_getElem? (i := 1155) (by decide +kernel)) rfl, by decide +kernel, by decide, by decide, by decide +kernel, wt (List.mem_of_getElem? (i := 1153) (by decide +kernel)) rfl, wt (List.mem_of_getElem? (i := 1154) (by decide +kernel)) rfl⟩
theorem lL_138 : MLL 138 mX7_copy 5 := ⟨List.mem_of_getElem? (i := 694) (by decide +kernel), wt (List.mem_of_getElem? (i := 55) (by decide +kernel)) rfl, wt (List.mem_of_getElem? (i := 697) (by decide +kernel)) rfl, by decide +kernel, by decide, by decide, by decide +kernel, wt (List.mem_of_getElem? (i := 695) (by decide +kernel)) rfl, wt (List.mem_of_getElem? (i := 696) (by decide +kernel)) rfl⟩
theorem lL_142 : MLL 142 mX8_copy 5 := ⟨List.mem_of_getElem? (i := 1157) (by decide +kernel), wt (List.mem_of_getElem? (i := 63) (by decide +kernel)) rfl, wt (List.mem_of_getElem? (i := 1160) (by decide +kernel)) rfl, by decide +kernel, by decide, by decide, by decide +kernel, wt (List.mem_of_getElem? (i := 1158) (by decide +kernel)) rfl, wt (List.mem_of_getElem? (i := 1159) (by decide +kernel)) rfl⟩
theorem lL_143 : MLL 143 mX7_write 1 := ⟨List.mem_of_getElem? (i := 703) (by decide +kernel), wt (List.mem_of_getElem? (i := 55) (by decide +kernel)) rfl, wt (List.mem_of_getElem? (i := 706) (by decide +kernel)) rfl, by decide +kernel, by decide, by decide, by decide +kernel, wt (List.mem_of_getElem? (i := 704) (by decide +kernel)) rfl, wt (List.mem_of_getElem? (i := 705) (by decide +kernel)) rfl⟩
theorem lL_146 : MLL 146 mX8_write 1 := ⟨List.mem_of_getElem? (i := 1161) (by decide +kernel), wt (List.mem_of_getElem? (i := 63) (by decide +kernel)) rfl, wt (List.mem_of_getElem? (i := 1164) (by decide +kernel)) rfl, by decide +kernel, by decide, by decide, by decide +kernel, wt (List.mem_of_getElem? (i := 1162) (by decide +kernel)) rfl, wt (List.mem_of_getElem? (i := 1163) (by decide +kernel)) rfl⟩
theorem lL_147 : MLL 147 mX7_count 1 := ⟨List.mem_of_getElem? (i := 708) (by decide +kernel), wt (List.mem_of_getElem? (i := 55) (by decide +kernel)) rfl, wt (List.mem_of_getElem? (i := 711) (by decide +kernel)) rfl, by decide +kernel, by decide, by decide, by decide +kernel, wt (List.mem_of_getElem? (i := 709) (by decide +kernel)) rfl, wt (List.mem_of_getElem? (i := 710) (by decide +kernel)) rfl⟩
theorem lL_150 : MLL 150 mX8_count 1 := ⟨List.mem_of_getElem? (i := 1165) (by decide +kernel), wt (List.mem_of_getElem? (i := 63) (by decide +kernel)) rfl, wt (List.mem_of_getElem? (i := 1168) (by decide +kernel)) rfl, by decide +kernel, by decide, by decide, by decide +kernel, wt (List.mem_of_getElem? (i := 1166) (by decide +kernel)) rfl, wt (List.mem_of_getElem? (i := 1167) (by decide +kernel)) rfl⟩
theorem lL_151 : MLL 151 mX7_digest 0 := ⟨List.mem_of_getElem? (i := 720) (by decide +kernel), wt (List.mem_of_getElem? (i := 55) (by decide +kernel)) rfl, wt (List.mem_of_getElem? (i := 723) (by decide +kernel)) rfl, by decide +kernel, by decide, by decide, by decide +kernel, wt (List.mem_of_getElem? (i := 721) (by decide +kernel)) rfl, wt (List.mem_of_getElem? (i := 722) (by decide +kernel)) rfl⟩
theorem lL_155 : MLL 155 mX8_digest 0 := ⟨List.mem_of_getElem? (i := 1173) (by decide +kernel), wt (List.mem_of_getElem? (i := 63) (by decide +kernel)) rfl, wt (List.mem_of_getElem? (i := 1176) (by decide +kernel)) rfl, by decide +kernel, by decide, by decide, by decide +kernel, wt (List.mem_of_getElem? (i := 1174) (by decide +kernel)) rfl, wt (List.mem_of_getElem? (i := 1175) (by decide +kernel)) rfl⟩
section Hi
variable (A : Mem) {c : Nat}
theorem hi_comer (kind a b : Int) (hc : 49 ≤ c) : nx_comer A kind a b c = A c := by
  unfold nx_comer
  split
  · rw [mset_nc _ _ _ _ (by omega), mset_nc _ _ _ _ (by omega), mset_nc _ _ _ _ (by omega), mset_nc _ _ _ _ (by omega), mset_nc _ _ _ _ (by omega)]
  · rfl
theorem hi_aim (comer minute : Int) (hc : 49 ≤ c) : nx_aim A comer minute c = A c := by
  unfold nx_aim
  split
  · rw [mset_nc _ _ _ _ (by omega)]
  · rfl
theorem hi_read (s : Int) (hc : 49 ≤ c) : nx_read A s c = A c := by
  unfold nx_read
  split
  · split
    · rw [mset_nc _ _ _ _ (by omega)]
    · rw [rset_ne _ _ _ (by omega)]
  · rfl
theorem hi_cost (comer wh v : Int) (hc : 49 ≤ c) : nx_cost A comer wh v c = A c := by
  unfold nx_cost
  split
  · rw [mset_nc _ _ _ _ (by omega)]
  · rfl
theorem hi_set (wh v : Int) (hc : 49 ≤ c) : nx_set A wh v c = A c := by
  unfold nx_set
  split
  · rw [mset_nc _ _ _ _ (by omega)]
  · rfl
theorem hi_sheet (s f n : Int) (hc : 49 ≤ c) : nx_sheet A s f n c = A c := by
  unfold nx_sheet
  split
  · split
    · rw [mset_nc _ _ _ _ (by omega)]
    · rw [rset_ne _ _ _ (by omega), mset_nc _ _ _ _ (by omega), mset_nc _ _ _ _ (by omega)]
  · rfl
theorem hi_lose (s : Int) (hc : 49 ≤ c) : nx_lose A s c = A c := by
  unfold nx_lose
  split
  · split
    · rw [mset_nc _ _ _ _ (by omega)]
    · rw [mset_nc _ _ _ _ (by omega), mset_nc _ _ _ _ (by omega)]
  · rfl
theorem hi_put (s f i v : Int) (hc : 49 ≤ c) : nx_put A s f i v c = A c := by
  unfold nx_put
  split
  · split
    · rw [mset_nc _ _ _ _ (by omega)]
    · rw [mset_nc _ _ _ _ (by omega)]
  · rfl
theorem hi_get (s f i : Int) (hc : 49 ≤ c) : nx_get A s f i c = A c := by
  unfold nx_get
  split
  · rw [mset_nc _ _ _ _ (by omega)]
  · rfl
theorem hi_copy (s i t j n : Int) (hc : 49 ≤ c) : nx_copy A s i t j n c = A c := by
  unfold nx_copy
  split
  · split
    · rw [mset_nc _ _ _ _ (by omega)]
    · split
      · rw [mset_nc _ _ _ _ (by omega)]
      · split
        · rw [mset_nc _ _ _ _ (by omega)]
        · rw [rset_ne _ _ _ (by omega)]
  · rfl
theorem hi_write (s : Int) (hc : 49 ≤ c) : nx_write A s c = A c := by
  unfold nx_write
  split
  · split
    · rw [mset_nc _ _ _ _ (by omega)]
    · rw [rset_ne _ _ _ (by omega)]
  · rfl
end Hi
theorem scT_hi {A B : Mem} (h : Fr scT A B) {c : Nat} (hc : 49 ≤ c) : B c = A c := funext (fun j => h c j (by unfold scT scJ; simp; omega))
theorem ty_hi {A B : Mem} {b : Int} (h : TyR A B b) {c : Nat} (hc : 49 ≤ c) : B c = A c := by
  unfold TyR at h
  split at h
  · exact scT_hi h.1 hc
  · rw [h]
theorem lCmp_self (a : Int) : lCmp a a = 0 := by unfold lCmp; simp
theorem lw_cs_comer {X : LX} (zC : X.ok) {i : Int} {mem : Mem} (hi : 0 ≤ i ∧ i + 6 ≤ (X.L : Int)) (hJ : Jn mem) (kk : ∀ m2, Jn m2 → EL X 1170 [(2, 82), (2, 0), (2, 49), (0, i)] [] m2) : EL X 180 [(2, 82), (2, 0), (2, 49), (0, i)] [] mem := by
  have hz : X.L ≤ 3072 := zC.2.2.2.2
  refine l_aloadn zC (pc := 180) dL_law_180 rfl rfl ?_
  refine l_aloadn zC (pc := 181) dL_law_181 rfl rfl ?_
  refine l_iloadn zC (pc := 182) dL_law_182 rfl rfl ?_
  refine l_iconst zC (pc := 183) dL_law_183 (by decide) ?_
  refine l_iaddn zC (pc := 184) dL_law_184 (by omega) ?_
  refine l_sld zC (pc := 185) dL_law_185 (by omega) ?_
  refine l_aloadn zC (pc := 186) dL_law_186 rfl rfl ?_
  refine l_iloadn zC (pc := 187) dL_law_187 rfl rfl ?_
  refine l_iconst zC (pc := 188) dL_law_188 (by decide) ?_
  refine l_iaddn zC (pc := 189) dL_law_189 (by omega) ?_
  refine l_sld zC (pc := 190) dL_law_190 (by omega) ?_
  refine l_aloadn zC (pc := 191) dL_law_191 rfl rfl ?_
  refine l_iloadn zC (pc := 192) dL_law_192 rfl rfl ?_
  refine l_iconst zC (pc := 193) dL_law_193 (by decide) ?_
  refine l_iaddn zC (pc := 194) dL_law_194 (by omega) ?_
  refine l_sld zC (pc := 195) dL_law_195 (by omega) ?_
  refine l_callV (zc := 0) zC (pc := 196) (c_comer X.G mem (lwS X (i + 1)) (lwS X (i + 2)) (lwS X (i + 3)) ) dL_law_196 lL_13 rfl rfl rfl rfl rfl (fun r m1 zp => ?_)
  obtain ⟨zr, zm1⟩ := zp
  rw [zr]
  show EL X 199 [(2, 82), (2, 0), (2, 49), (0, i)] [(0, an_comer mem (lwS X (i + 1)) (lwS X (i + 2)) (lwS X (i + 3)))] m1
  have zM : MI mem m1 := hJ.at (fun c hc => by rw [zm1]; exact hi_comer mem (lwS X (i + 1)) (lwS X (i + 2)) (lwS X (i + 3)) hc)
  refine l_aloadn zC (pc := 199) dL_law_199 rfl rfl ?_
  refine l_aloadn zC (pc := 200) dL_law_200 rfl rfl ?_
  refine l_iloadn zC (pc := 201) dL_law_201 rfl rfl ?_
  refine l_iconst zC (pc := 202) dL_law_202 (by decide) ?_
  refine l_iaddn zC (pc := 203) dL_law_203 (by omega) ?_
  refine l_sld zC (pc := 204) dL_law_204 (by omega) ?_
  refine l_aloadn zC (pc := 205) dL_law_205 rfl rfl ?_
  refine l_iloadn zC (pc := 206) dL_law_206 rfl rfl ?_
  refine l_iconst zC (pc := 207) dL_law_207 (by decide) ?_
  refine l_iaddn zC (pc := 208) dL_law_208 (by omega) ?_
  refine l_sld zC (pc := 209) dL_law_209 (by omega) ?_
  refine l_aloadn zC (pc := 210) dL_law_210 rfl rfl ?_
  refine l_iloadn zC (pc := 211) dL_law_211 rfl rfl ?_
  refine l_iconst zC (pc := 212) dL_law_212 (by decide) ?_
  refine l_iaddn zC (pc := 213) dL_law_213 (by omega) ?_
  refine l_sld zC (pc := 214) dL_law_214 (by omega) ?_
  refine l_callV (zc := 49) zC (pc := 215) (m_comer X.G mem m1 (lwS X (i + 1)) (lwS X (i + 2)) (lwS X (i + 3)) hJ.1 zM) dL_law_215 lL_17 rfl rfl rfl rfl rfl (fun r2 m2 zp2 => ?_)
  obtain ⟨zr2, zm2, zf2⟩ := zp2
  rw [zr2]
  show EL X 218 [(2, 82), (2, 0), (2, 49), (0, i)] [(0, an_comer mem (lwS X (i + 1)) (lwS X (i + 2)) (lwS X (i + 3))), (0, an_comer mem (lwS X (i + 1)) (lwS X (i + 2)) (lwS X (i + 3)))] m2
  have zJ : Jn m2 := jn_gen (ci_comer hJ.1 (lwS X (i + 1)) (lwS X (i + 2)) (lwS X (i + 3))) (by rw [zm1]; exact Fr.rf) zf2 zm2
  exact l_icmp_eq zC (pc := 218) (tgt := 1170) dL_law_218 rfl (fun _ => kk m2 zJ) (fun zn => absurd rfl zn)
theorem lw_cs_aim {X : LX} (zC : X.ok) {i : Int} {mem : Mem} (hi : 0 ≤ i ∧ i + 6 ≤ (X.L : Int)) (hJ : Jn mem) (kk : ∀ m2, Jn m2 → EL X 1170 [(2, 82), (2, 0), (2, 49), (0, i)] [] m2) : EL X 223 [(2, 82), (2, 0), (2, 49), (0, i)] [] mem := by
  have hz : X.L ≤ 3072 := zC.2.2.2.2
  refine l_aloadn zC (pc := 223) dL_law_223 rfl rfl ?_
  refine l_aloadn zC (pc := 224) dL_law_224 rfl rfl ?_
  refine l_iloadn zC (pc := 225) dL_law_225 rfl rfl ?_
  refine l_iconst zC (pc := 226) dL_law_226 (by decide) ?_
  refine l_iaddn zC (pc := 227) dL_law_227 (by omega) ?_
  refine l_sld zC (pc := 228) dL_law_228 (by omega) ?_
  refine l_aloadn zC (pc := 229) dL_law_229 rfl rfl ?_
  refine l_iloadn zC (pc := 230) dL_law_230 rfl rfl ?_
  refine l_iconst zC (pc := 231) dL_law_231 (by decide) ?_
  refine l_iaddn zC (pc := 232) dL_law_232 (by omega) ?_
  refine l_sld zC (pc := 233) dL_law_233 (by omega) ?_
  refine l_callV (zc := 0) zC (pc := 234) (c_aim X.G mem (lwS X (i + 1)) (lwS X (i + 2)) ) dL_law_234 lL_18 rfl rfl rfl rfl rfl (fun r m1 zp => ?_)
  obtain ⟨zr, zm1⟩ := zp
  rw [zr]
  show EL X 237 [(2, 82), (2, 0), (2, 49), (0, i)] [(0, an_aim mem (lwS X (i + 1)) (lwS X (i + 2)))] m1
  have zM : MI mem m1 := hJ.at (fun c hc => by rw [zm1]; exact hi_aim mem (lwS X (i + 1)) (lwS X (i + 2)) hc)
  refine l_aloadn zC (pc := 237) dL_law_237 rfl rfl ?_
  refine l_aloadn zC (pc := 238) dL_law_238 rfl rfl ?_
  refine l_iloadn zC (pc := 239) dL_law_239 rfl rfl ?_
  refine l_iconst zC (pc := 240) dL_law_240 (by decide) ?_
  refine l_iaddn zC (pc := 241) dL_law_241 (by omega) ?_
  refine l_sld zC (pc := 242) dL_law_242 (by omega) ?_
  refine l_aloadn zC (pc := 243) dL_law_243 rfl rfl ?_
  refine l_iloadn zC (pc := 244) dL_law_244 rfl rfl ?_
  refine l_iconst zC (pc := 245) dL_law_245 (by decide) ?_
  refine l_iaddn zC (pc := 246) dL_law_246 (by omega) ?_
  refine l_sld zC (pc := 247) dL_law_247 (by omega) ?_
  refine l_callV (zc := 49) zC (pc := 248) (m_aim X.G mem m1 (lwS X (i + 1)) (lwS X (i + 2)) hJ.1 zM) dL_law_248 lL_22 rfl rfl rfl rfl rfl (fun r2 m2 zp2 => ?_)
  obtain ⟨zr2, zm2, zf2⟩ := zp2
  rw [zr2]
  show EL X 251 [(2, 82), (2, 0), (2, 49), (0, i)] [(0, an_aim mem (lwS X (i + 1)) (lwS X (i + 2))), (0, an_aim mem (lwS X (i + 1)) (lwS X (i + 2)))] m2
  have zJ : Jn m2 := jn_gen (ci_aim hJ.1 (lwS X (i + 1)) (lwS X (i + 2))) (by rw [zm1]; exact Fr.rf) zf2 zm2
  exact l_icmp_eq zC (pc := 251) (tgt := 1170) dL_law_251 rfl (fun _ => kk m2 zJ) (fun zn => absurd rfl zn)
theorem lw_cs_read {X : LX} (zC : X.ok) {i : Int} {mem : Mem} (hi : 0 ≤ i ∧ i + 6 ≤ (X.L : Int)) (hJ : Jn mem) (kk : ∀ m2, Jn m2 → EL X 1170 [(2, 82), (2, 0), (2, 49), (0, i)] [] m2) : EL X 256 [(2, 82), (2, 0), (2, 49), (0, i)] [] mem := by
  have hz : X.L ≤ 3072 := zC.2.2.2.2
  refine l_aloadn zC (pc := 256) dL_law_256 rfl rfl ?_
  refine l_aloadn zC (pc := 257) dL_law_257 rfl rfl ?_
  refine l_iloadn zC (pc := 258) dL_law_258 rfl rfl ?_
  refine l_iconst zC (pc := 259) dL_law_259 (by decide) ?_
  refine l_iaddn zC (pc := 260) dL_law_260 (by omega) ?_
  refine l_sld zC (pc := 261) dL_law_261 (by omega) ?_
  refine l_callV (zc := 0) zC (pc := 262) (c_read X.G mem (lwS X (i + 1)) hJ.1.2.2.2.2.2) dL_law_262 lL_23 rfl rfl rfl rfl rfl (fun r m1 zp => ?_)
  obtain ⟨zr, zm1⟩ := zp
  rw [zr]
  show EL X 265 [(2, 82), (2, 0), (2, 49), (0, i)] [(0, an_read mem (lwS X (i + 1)))] m1
  have zM : MI mem m1 := hJ.at (fun c hc => by rw [zm1]; exact hi_read mem (lwS X (i + 1)) hc)
  refine l_aloadn zC (pc := 265) dL_law_265 rfl rfl ?_
  refine l_aloadn zC (pc := 266) dL_law_266 rfl rfl ?_
  refine l_iloadn zC (pc := 267) dL_law_267 rfl rfl ?_
  refine l_iconst zC (pc := 268) dL_law_268 (by decide) ?_
  refine l_iaddn zC (pc := 269) dL_law_269 (by omega) ?_
  refine l_sld zC (pc := 270) dL_law_270 (by omega) ?_
  refine l_callV (zc := 49) zC (pc := 271) (m_read X.G mem m1 (lwS X (i + 1)) hJ.1 zM hJ.1.2.2.2.2.2) dL_law_271 lL_27 rfl rfl rfl rfl rfl (fun r2 m2 zp2 => ?_)
  obtain ⟨zr2, zm2, zf2⟩ := zp2
  rw [zr2]
  show EL X 274 [(2, 82), (2, 0), (2, 49), (0, i)] [(0, an_read mem (lwS X (i + 1))), (0, an_read mem (lwS X (i + 1)))] m2
  have zJ : Jn m2 := jn_gen (ci_read hJ.1 (lwS X (i + 1))) (by rw [zm1]; exact Fr.rf) zf2 zm2
  exact l_icmp_eq zC (pc := 274) (tgt := 1170) dL_law_274 rfl (fun _ => kk m2 zJ) (fun zn => absurd rfl zn)
theorem lw_cs_cost {X : LX} (zC : X.ok) {i : Int} {mem : Mem} (hi : 0 ≤ i ∧ i + 6 ≤ (X.L : Int)) (hJ : Jn mem) (kk : ∀ m2, Jn m2 → EL X 1170 [(2, 82), (2, 0), (2, 49), (0, i)] [] m2) : EL X 279 [(2, 82), (2, 0), (2, 49), (0, i)] [] mem := by
  have hz : X.L ≤ 3072 := zC.2.2.2.2
  refine l_aloadn zC (pc := 279) dL_law_279 rfl rfl ?_
  refine l_aloadn zC (pc := 280) dL_law_280 rfl rfl ?_
  refine l_iloadn zC (pc := 281) dL_law_281 rfl rfl ?_
  refine l_iconst zC (pc := 282) dL_law_282 (by decide) ?_
  refine l_iaddn zC (pc := 283) dL_law_283 (by omega) ?_
  refine l_sld zC (pc := 284) dL_law_284 (by omega) ?_
  refine l_aloadn zC (pc := 285) dL_law_285 rfl rfl ?_
  refine l_iloadn zC (pc := 286) dL_law_286 rfl rfl ?_
  refine l_iconst zC (pc := 287) dL_law_287 (by decide) ?_
  refine l_iaddn zC (pc := 288) dL_law_288 (by omega) ?_
  refine l_sld zC (pc := 289) dL_law_289 (by omega) ?_
  refine l_aloadn zC (pc := 290) dL_law_290 rfl rfl ?_
  refine l_iloadn zC (pc := 291) dL_law_291 rfl rfl ?_
  refine l_iconst zC (pc := 292) dL_law_292 (by decide) ?_
  refine l_iaddn zC (pc := 293) dL_law_293 (by omega) ?_
  refine l_sld zC (pc := 294) dL_law_294 (by omega) ?_
  refine l_callV (zc := 0) zC (pc := 295) (c_cost X.G mem (lwS X (i + 1)) (lwS X (i + 2)) (lwS X (i + 3)) ) dL_law_295 lL_28 rfl rfl rfl rfl rfl (fun r m1 zp => ?_)
  obtain ⟨zr, zm1⟩ := zp
  rw [zr]
  show EL X 298 [(2, 82), (2, 0), (2, 49), (0, i)] [(0, an_cost mem (lwS X (i + 1)) (lwS X (i + 2)) (lwS X (i + 3)))] m1
  have zM : MI mem m1 := hJ.at (fun c hc => by rw [zm1]; exact hi_cost mem (lwS X (i + 1)) (lwS X (i + 2)) (lwS X (i + 3)) hc)
  refine l_aloadn zC (pc := 298) dL_law_298 rfl rfl ?_
  refine l_aloadn zC (pc := 299) dL_law_299 rfl rfl ?_
  refine l_iloadn zC (pc := 300) dL_law_300 rfl rfl ?_
  refine l_iconst zC (pc := 301) dL_law_301 (by decide) ?_
  refine l_iaddn zC (pc := 302) dL_law_302 (by omega) ?_
  refine l_sld zC (pc := 303) dL_law_303 (by omega) ?_
  refine l_aloadn zC (pc := 304) dL_law_304 rfl rfl ?_
  refine l_iloadn zC (pc := 305) dL_law_305 rfl rfl ?_
  refine l_iconst zC (pc := 306) dL_law_306 (by decide) ?_
  refine l_iaddn zC (pc := 307) dL_law_307 (by omega) ?_
  refine l_sld zC (pc := 308) dL_law_308 (by omega) ?_
  refine l_aloadn zC (pc := 309) dL_law_309 rfl rfl ?_
  refine l_iloadn zC (pc := 310) dL_law_310 rfl rfl ?_
  refine l_iconst zC (pc := 311) dL_law_311 (by decide) ?_
  refine l_iaddn zC (pc := 312) dL_law_312 (by omega) ?_
  refine l_sld zC (pc := 313) dL_law_313 (by omega) ?_
  refine l_callV (zc := 49) zC (pc := 314) (m_cost X.G mem m1 (lwS X (i + 1)) (lwS X (i + 2)) (lwS X (i + 3)) hJ.1 zM) dL_law_314 lL_31 rfl rfl rfl rfl rfl (fun r2 m2 zp2 => ?_)
  obtain ⟨zr2, zm2, zf2⟩ := zp2
  rw [zr2]
  show EL X 317 [(2, 82), (2, 0), (2, 49), (0, i)] [(0, an_cost mem (lwS X (i + 1)) (lwS X (i + 2)) (lwS X (i + 3))), (0, an_cost mem (lwS X (i + 1)) (lwS X (i + 2)) (lwS X (i + 3)))] m2
  have zJ : Jn m2 := jn_gen (ci_cost hJ.1 (lwS X (i + 1)) (lwS X (i + 2)) (lwS X (i + 3))) (by rw [zm1]; exact Fr.rf) zf2 zm2
  exact l_icmp_eq zC (pc := 317) (tgt := 1170) dL_law_317 rfl (fun _ => kk m2 zJ) (fun zn => absurd rfl zn)
theorem lw_cs_set {X : LX} (zC : X.ok) {i : Int} {mem : Mem} (hi : 0 ≤ i ∧ i + 6 ≤ (X.L : Int)) (hJ : Jn mem) (kk : ∀ m2, Jn m2 → EL X 1170 [(2, 82), (2, 0), (2, 49), (0, i)] [] m2) : EL X 322 [(2, 82), (2, 0), (2, 49), (0, i)] [] mem := by
  have hz : X.L ≤ 3072 := zC.2.2.2.2
  refine l_aloadn zC (pc := 322) dL_law_322 rfl rfl ?_
  refine l_aloadn zC (pc := 323) dL_law_323 rfl rfl ?_
  refine l_iloadn zC (pc := 324) dL_law_324 rfl rfl ?_
  refine l_iconst zC (pc := 325) dL_law_325 (by decide) ?_
  refine l_iaddn zC (pc := 326) dL_law_326 (by omega) ?_
  refine l_sld zC (pc := 327) dL_law_327 (by omega) ?_
  refine l_aloadn zC (pc := 328) dL_law_328 rfl rfl ?_
  refine l_iloadn zC (pc := 329) dL_law_329 rfl rfl ?_
  refine l_iconst zC (pc := 330) dL_law_330 (by decide) ?_
  refine l_iaddn zC (pc := 331) dL_law_331 (by omega) ?_
  refine l_sld zC (pc := 332) dL_law_332 (by omega) ?_
  refine l_callV (zc := 0) zC (pc := 333) (c_set X.G mem (lwS X (i + 1)) (lwS X (i + 2)) ) dL_law_333 lL_32 rfl rfl rfl rfl rfl (fun r m1 zp => ?_)
  obtain ⟨zr, zm1⟩ := zp
  rw [zr]
  show EL X 336 [(2, 82), (2, 0), (2, 49), (0, i)] [(0, an_set mem (lwS X (i + 1)) (lwS X (i + 2)))] m1
  have zM : MI mem m1 := hJ.at (fun c hc => by rw [zm1]; exact hi_set mem (lwS X (i + 1)) (lwS X (i + 2)) hc)
  refine l_aloadn zC (pc := 336) dL_law_336 rfl rfl ?_
  refine l_aloadn zC (pc := 337) dL_law_337 rfl rfl ?_
  refine l_iloadn zC (pc := 338) dL_law_338 rfl rfl ?_
  refine l_iconst zC (pc := 339) dL_law_339 (by decide) ?_
  refine l_iaddn zC (pc := 340) dL_law_340 (by omega) ?_
  refine l_sld zC (pc := 341) dL_law_341 (by omega) ?_
  refine l_aloadn zC (pc := 342) dL_law_342 rfl rfl ?_
  refine l_iloadn zC (pc := 343) dL_law_343 rfl rfl ?_
  refine l_iconst zC (pc := 344) dL_law_344 (by decide) ?_
  refine l_iaddn zC (pc := 345) dL_law_345 (by omega) ?_
  refine l_sld zC (pc := 346) dL_law_346 (by omega) ?_
  refine l_callV (zc := 49) zC (pc := 347) (m_set X.G mem m1 (lwS X (i + 1)) (lwS X (i + 2)) zM) dL_law_347 lL_35 rfl rfl rfl rfl rfl (fun r2 m2 zp2 => ?_)
  obtain ⟨zr2, zm2, zf2⟩ := zp2
  rw [zr2]
  show EL X 350 [(2, 82), (2, 0), (2, 49), (0, i)] [(0, an_set mem (lwS X (i + 1)) (lwS X (i + 2))), (0, an_set mem (lwS X (i + 1)) (lwS X (i + 2)))] m2
  have zJ : Jn m2 := jn_gen (ci_set hJ.1 (lwS X (i + 1)) (lwS X (i + 2))) (by rw [zm1]; exact Fr.rf) zf2 zm2
  exact l_icmp_eq zC (pc := 350) (tgt := 1170) dL_law_350 rfl (fun _ => kk m2 zJ) (fun zn => absurd rfl zn)
theorem lw_cs_type {X : LX} (zC : X.ok) {i : Int} {mem : Mem} (hi : 0 ≤ i ∧ i + 6 ≤ (X.L : Int)) (hJ : Jn mem) (kk : ∀ m2, Jn m2 → EL X 1170 [(2, 82), (2, 0), (2, 49), (0, i)] [] m2) : EL X 355 [(2, 82), (2, 0), (2, 49), (0, i)] [] mem := by
  have hz : X.L ≤ 3072 := zC.2.2.2.2
  refine l_aloadn zC (pc := 355) dL_law_355 rfl rfl ?_
  refine l_aloadn zC (pc := 356) dL_law_356 rfl rfl ?_
  refine l_iloadn zC (pc := 357) dL_law_357 rfl rfl ?_
  refine l_iconst zC (pc := 358) dL_law_358 (by decide) ?_
  refine l_iaddn zC (pc := 359) dL_law_359 (by omega) ?_
  refine l_sld zC (pc := 360) dL_law_360 (by omega) ?_
  refine l_callV (zc := 0) zC (pc := 361) (c_type X.G mem (lwS X (i + 1)) hJ.1.2.2.2.1) dL_law_361 lL_36 rfl rfl rfl rfl rfl (fun r m1 zp => ?_)
  obtain ⟨zr, zm1⟩ := zp
  rw [zr]
  show EL X 364 [(2, 82), (2, 0), (2, 49), (0, i)] [(0, an_type mem (lwS X (i + 1)))] m1
  have zM : MI mem m1 := hJ.at (fun c hc => ty_hi zm1 hc)
  refine l_aloadn zC (pc := 364) dL_law_364 rfl rfl ?_
  refine l_aloadn zC (pc := 365) dL_law_365 rfl rfl ?_
  refine l_iloadn zC (pc := 366) dL_law_366 rfl rfl ?_
  refine l_iconst zC (pc := 367) dL_law_367 (by decide) ?_
  refine l_iaddn zC (pc := 368) dL_law_368 (by omega) ?_
  refine l_sld zC (pc := 369) dL_law_369 (by omega) ?_
  refine l_callV (zc := 49) zC (pc := 370) (m_type X.G mem m1 m1 (lwS X (i + 1)) hJ.1 zM zm1) dL_law_370 lL_39 rfl rfl rfl rfl rfl (fun r2 m2 zp2 => ?_)
  obtain ⟨zr2, zm2, zf2⟩ := zp2
  rw [zr2]
  show EL X 373 [(2, 82), (2, 0), (2, 49), (0, i)] [(0, an_type mem (lwS X (i + 1))), (0, an_type mem (lwS X (i + 1)))] m2
  have zJ : Jn m2 := jn_gen (ci_type hJ.1 zm1) Fr.rf zf2 zm2
  exact l_icmp_eq zC (pc := 373) (tgt := 1170) dL_law_373 rfl (fun _ => kk m2 zJ) (fun zn => absurd rfl zn)
theorem lw_cs_wipe {X : LX} (zC : X.ok) {i : Int} {mem : Mem} (hi : 0 ≤ i ∧ i + 6 ≤ (X.L : Int)) (hJ : Jn mem) (kk : ∀ m2, Jn m2 → EL X 1170 [(2, 82), (2, 0), (2, 49), (0, i)] [] m2) : EL X 378 [(2, 82), (2, 0), (2, 49), (0, i)] [] mem := by
  have hz : X.L ≤ 3072 := zC.2.2.2.2
  refine l_aloadn zC (pc := 378) dL_law_378 rfl rfl ?_
  refine l_callV (zc := 0) zC (pc := 379) (c_wipe X.G mem  hJ.1.2.2.2.1) dL_law_379 lL_40 rfl rfl rfl rfl rfl (fun r m1 zp => ?_)
  obtain ⟨zr, zfr, zn0, zn1, zt⟩ := zp
  rw [zr]
  show EL X 382 [(2, 82), (2, 0), (2, 49), (0, i)] [(0, mem 10 0)] m1
  have zM : MI mem m1 := hJ.at (fun c hc => scT_hi zfr hc)
  refine l_aloadn zC (pc := 382) dL_law_382 rfl rfl ?_
  refine l_callV (zc := 49) zC (pc := 383) (m_wipe X.G mem m1 m1 zM zfr zn0 zn1) dL_law_383 lL_44 rfl rfl rfl rfl rfl (fun r2 m2 zp2 => ?_)
  obtain ⟨zr2, zm2, zf2⟩ := zp2
  rw [zr2]
  show EL X 386 [(2, 82), (2, 0), (2, 49), (0, i)] [(0, mem 10 0), (0, mem 10 0)] m2
  have zJ : Jn m2 := jn_gen (hJ.1.txt zfr zt) Fr.rf zf2 zm2
  exact l_icmp_eq zC (pc := 386) (tgt := 1170) dL_law_386 rfl (fun _ => kk m2 zJ) (fun zn => absurd rfl zn)
theorem lw_cs_fault {X : LX} (zC : X.ok) {i : Int} {mem : Mem} (hi : 0 ≤ i ∧ i + 6 ≤ (X.L : Int)) (hJ : Jn mem) (kk : ∀ m2, Jn m2 → EL X 1170 [(2, 82), (2, 0), (2, 49), (0, i)] [] m2) : EL X 391 [(2, 82), (2, 0), (2, 49), (0, i)] [] mem := by
  have hz : X.L ≤ 3072 := zC.2.2.2.2
  refine l_aloadn zC (pc := 391) dL_law_391 rfl rfl ?_
  refine l_callV (zc := 0) zC (pc := 392) (c_fault X.G mem  hJ.1) dL_law_392 lL_45 rfl rfl rfl rfl rfl (fun r m1 zp => ?_)
  obtain ⟨zr, zm1⟩ := zp
  rw [zr]
  show EL X 395 [(2, 82), (2, 0), (2, 49), (0, i)] [(0, an_fault mem )] m1
  have zM : MI mem m1 := hJ.atQ zm1
  refine l_aloadn zC (pc := 395) dL_law_395 rfl rfl ?_
  refine l_callV (zc := 49) zC (pc := 396) (m_fault X.G mem m1  hJ.1 zM) dL_law_396 lL_48 rfl rfl rfl rfl rfl (fun r2 m2 zp2 => ?_)
  obtain ⟨zr2, zm2, zf2⟩ := zp2
  rw [zr2]
  show EL X 399 [(2, 82), (2, 0), (2, 49), (0, i)] [(0, an_fault mem ), (0, an_fault mem )] m2
  have zJ : Jn m2 := jn_query hJ zm1 zf2 zm2
  exact l_icmp_eq zC (pc := 399) (tgt := 1170) dL_law_399 rfl (fun _ => kk m2 zJ) (fun zn => absurd rfl zn)
theorem lw_cs_begins {X : LX} (zC : X.ok) {i : Int} {mem : Mem} (hi : 0 ≤ i ∧ i + 6 ≤ (X.L : Int)) (hJ : Jn mem) (kk : ∀ m2, Jn m2 → EL X 1170 [(2, 82), (2, 0), (2, 49), (0, i)] [] m2) : EL X 404 [(2, 82), (2, 0), (2, 49), (0, i)] [] mem := by
  have hz : X.L ≤ 3072 := zC.2.2.2.2
  refine l_aloadn zC (pc := 404) dL_law_404 rfl rfl ?_
  refine l_callV (zc := 0) zC (pc := 405) (c_begins X.G mem  hJ.1) dL_law_405 lL_49 rfl rfl rfl rfl rfl (fun r m1 zp => ?_)
  obtain ⟨zr, zm1⟩ := zp
  rw [zr]
  show EL X 408 [(2, 82), (2, 0), (2, 49), (0, i)] [(0, an_begins mem )] m1
  have zM : MI mem m1 := hJ.atQ zm1
  refine l_aloadn zC (pc := 408) dL_law_408 rfl rfl ?_
  refine l_callV (zc := 49) zC (pc := 409) (m_begins X.G mem m1  hJ.1 zM) dL_law_409 lL_52 rfl rfl rfl rfl rfl (fun r2 m2 zp2 => ?_)
  obtain ⟨zr2, zm2, zf2⟩ := zp2
  rw [zr2]
  show EL X 412 [(2, 82), (2, 0), (2, 49), (0, i)] [(0, an_begins mem ), (0, an_begins mem )] m2
  have zJ : Jn m2 := jn_query hJ zm1 zf2 zm2
  exact l_icmp_eq zC (pc := 412) (tgt := 1170) dL_law_412 rfl (fun _ => kk m2 zJ) (fun zn => absurd rfl zn)
theorem lw_cs_comes {X : LX} (zC : X.ok) {i : Int} {mem : Mem} (hi : 0 ≤ i ∧ i + 6 ≤ (X.L : Int)) (hJ : Jn mem) (kk : ∀ m2, Jn m2 → EL X 1170 [(2, 82), (2, 0), (2, 49), (0, i)] [] m2) : EL X 417 [(2, 82), (2, 0), (2, 49), (0, i)] [] mem := by
  have hz : X.L ≤ 3072 := zC.2.2.2.2
  refine l_aloadn zC (pc := 417) dL_law_417 rfl rfl ?_
  refine l_aloadn zC (pc := 418) dL_law_418 rfl rfl ?_
  refine l_iloadn zC (pc := 419) dL_law_419 rfl rfl ?_
  refine l_iconst zC (pc := 420) dL_law_420 (by decide) ?_
  refine l_iaddn zC (pc := 421) dL_law_421 (by omega) ?_
  refine l_sld zC (pc := 422) dL_law_422 (by omega) ?_
  refine l_callV (zc := 0) zC (pc := 423) (c_comes X.G mem (lwS X (i + 1)) hJ.1) dL_law_423 lL_53 rfl rfl rfl rfl rfl (fun r m1 zp => ?_)
  obtain ⟨zr, zm1⟩ := zp
  rw [zr]
  show EL X 426 [(2, 82), (2, 0), (2, 49), (0, i)] [(0, an_comes mem (lwS X (i + 1)))] m1
  have zM : MI mem m1 := hJ.atQ zm1
  refine l_aloadn zC (pc := 426) dL_law_426 rfl rfl ?_
  refine l_aloadn zC (pc := 427) dL_law_427 rfl rfl ?_
  refine l_iloadn zC (pc := 428) dL_law_428 rfl rfl ?_
  refine l_iconst zC (pc := 429) dL_law_429 (by decide) ?_
  refine l_iaddn zC (pc := 430) dL_law_430 (by omega) ?_
  refine l_sld zC (pc := 431) dL_law_431 (by omega) ?_
  refine l_callV (zc := 49) zC (pc := 432) (m_comes X.G mem m1 (lwS X (i + 1)) hJ.1 zM) dL_law_432 lL_56 rfl rfl rfl rfl rfl (fun r2 m2 zp2 => ?_)
  obtain ⟨zr2, zm2, zf2⟩ := zp2
  rw [zr2]
  show EL X 435 [(2, 82), (2, 0), (2, 49), (0, i)] [(0, an_comes mem (lwS X (i + 1))), (0, an_comes mem (lwS X (i + 1)))] m2
  have zJ : Jn m2 := jn_query hJ zm1 zf2 zm2
  exact l_icmp_eq zC (pc := 435) (tgt := 1170) dL_law_435 rfl (fun _ => kk m2 zJ) (fun zn => absurd rfl zn)
theorem lw_cs_pays {X : LX} (zC : X.ok) {i : Int} {mem : Mem} (hi : 0 ≤ i ∧ i + 6 ≤ (X.L : Int)) (hJ : Jn mem) (kk : ∀ m2, Jn m2 → EL X 1170 [(2, 82), (2, 0), (2, 49), (0, i)] [] m2) : EL X 440 [(2, 82), (2, 0), (2, 49), (0, i)] [] mem := by
  have hz : X.L ≤ 3072 := zC.2.2.2.2
  refine l_aloadn zC (pc := 440) dL_law_440 rfl rfl ?_
  refine l_aloadn zC (pc := 441) dL_law_441 rfl rfl ?_
  refine l_iloadn zC (pc := 442) dL_law_442 rfl rfl ?_
  refine l_iconst zC (pc := 443) dL_law_443 (by decide) ?_
  refine l_iaddn zC (pc := 444) dL_law_444 (by omega) ?_
  refine l_sld zC (pc := 445) dL_law_445 (by omega) ?_
  refine l_callV (zc := 0) zC (pc := 446) (c_pays X.G mem (lwS X (i + 1)) hJ.1) dL_law_446 lL_57 rfl rfl rfl rfl rfl (fun r m1 zp => ?_)
  obtain ⟨zr, zm1⟩ := zp
  rw [zr]
  show EL X 449 [(2, 82), (2, 0), (2, 49), (0, i)] [(0, an_pays mem (lwS X (i + 1)))] m1
  have zM : MI mem m1 := hJ.atQ zm1
  refine l_aloadn zC (pc := 449) dL_law_449 rfl rfl ?_
  refine l_aloadn zC (pc := 450) dL_law_450 rfl rfl ?_
  refine l_iloadn zC (pc := 451) dL_law_451 rfl rfl ?_
  refine l_iconst zC (pc := 452) dL_law_452 (by decide) ?_
  refine l_iaddn zC (pc := 453) dL_law_453 (by omega) ?_
  refine l_sld zC (pc := 454) dL_law_454 (by omega) ?_
  refine l_callV (zc := 49) zC (pc := 455) (m_pays X.G mem m1 (lwS X (i + 1)) hJ.1 zM) dL_law_455 lL_60 rfl rfl rfl rfl rfl (fun r2 m2 zp2 => ?_)
  obtain ⟨zr2, zm2, zf2⟩ := zp2
  rw [zr2]
  show EL X 458 [(2, 82), (2, 0), (2, 49), (0, i)] [(0, an_pays mem (lwS X (i + 1))), (0, an_pays mem (lwS X (i + 1)))] m2
  have zJ : Jn m2 := jn_query hJ zm1 zf2 zm2
  exact l_icmp_eq zC (pc := 458) (tgt := 1170) dL_law_458 rfl (fun _ => kk m2 zJ) (fun zn => absurd rfl zn)
theorem lw_cs_best {X : LX} (zC : X.ok) {i : Int} {mem : Mem} (hi : 0 ≤ i ∧ i + 6 ≤ (X.L : Int)) (hJ : Jn mem) (kk : ∀ m2, Jn m2 → EL X 1170 [(2, 82), (2, 0), (2, 49), (0, i)] [] m2) : EL X 463 [(2, 82), (2, 0), (2, 49), (0, i)] [] mem := by
  have hz : X.L ≤ 3072 := zC.2.2.2.2
  refine l_aloadn zC (pc := 463) dL_law_463 rfl rfl ?_
  refine l_aloadn zC (pc := 464) dL_law_464 rfl rfl ?_
  refine l_iloadn zC (pc := 465) dL_law_465 rfl rfl ?_
  refine l_iconst zC (pc := 466) dL_law_466 (by decide) ?_
  refine l_iaddn zC (pc := 467) dL_law_467 (by omega) ?_
  refine l_sld zC (pc := 468) dL_law_468 (by omega) ?_
  refine l_aloadn zC (pc := 469) dL_law_469 rfl rfl ?_
  refine l_iloadn zC (pc := 470) dL_law_470 rfl rfl ?_
  refine l_iconst zC (pc := 471) dL_law_471 (by decide) ?_
  refine l_iaddn zC (pc := 472) dL_law_472 (by omega) ?_
  refine l_sld zC (pc := 473) dL_law_473 (by omega) ?_
  refine l_if_eq zC (pc := 474) (tgt := 481) dL_law_474 rfl (fun zb => ?_) (fun zb => ?_)
  · refine l_iconst zC (pc := 481) dL_law_481 (by decide) ?_
    refine l_callV (zc := 0) zC (pc := 482) (c_best X.G mem (lwS X (i + 1)) false hJ.1) dL_law_482 lL_61 rfl rfl rfl rfl rfl (fun r m1 zp => ?_)
    obtain ⟨zr, zm1⟩ := zp
    rw [zr]
    show EL X 485 [(2, 82), (2, 0), (2, 49), (0, i)] [(0, an_best mem (lwS X (i + 1)) false)] m1
    have zM : MI mem m1 := hJ.atQ zm1
    refine l_aloadn zC (pc := 485) dL_law_485 rfl rfl ?_
    refine l_aloadn zC (pc := 486) dL_law_486 rfl rfl ?_
    refine l_iloadn zC (pc := 487) dL_law_487 rfl rfl ?_
    refine l_iconst zC (pc := 488) dL_law_488 (by decide) ?_
    refine l_iaddn zC (pc := 489) dL_law_489 (by omega) ?_
    refine l_sld zC (pc := 490) dL_law_490 (by omega) ?_
    refine l_aloadn zC (pc := 491) dL_law_491 rfl rfl ?_
    refine l_iloadn zC (pc := 492) dL_law_492 rfl rfl ?_
    refine l_iconst zC (pc := 493) dL_law_493 (by decide) ?_
    refine l_iaddn zC (pc := 494) dL_law_494 (by omega) ?_
    refine l_sld zC (pc := 495) dL_law_495 (by omega) ?_
    refine l_if_eq zC (pc := 496) (tgt := 503) dL_law_496 rfl (fun _ => ?_) (fun zb2 => absurd zb zb2)
    refine l_iconst zC (pc := 503) dL_law_503 (by decide) ?_
    refine l_callV (zc := 49) zC (pc := 504) (m_best X.G mem m1 (lwS X (i + 1)) false hJ.1 zM) dL_law_504 lL_65 rfl rfl rfl rfl rfl (fun r2 m2 zp2 => ?_)
    obtain ⟨zr2, zm2, zf2⟩ := zp2
    rw [zr2]
    show EL X 507 [(2, 82), (2, 0), (2, 49), (0, i)] [(0, an_best mem (lwS X (i + 1)) false), (0, an_best mem (lwS X (i + 1)) false)] m2
    have zJ : Jn m2 := jn_query hJ zm1 zf2 zm2
    exact l_icmp_eq zC (pc := 507) (tgt := 1170) dL_law_507 rfl (fun _ => kk m2 zJ) (fun zn => absurd rfl zn)
  · refine l_iconst zC (pc := 477) dL_law_477 (by decide) ?_
    refine l_goto zC (pc := 478) (tgt := 482) dL_law_478 rfl ?_
    refine l_callV (zc := 0) zC (pc := 482) (c_best X.G mem (lwS X (i + 1)) true hJ.1) dL_law_482 lL_61 rfl rfl rfl rfl rfl (fun r m1 zp => ?_)
    obtain ⟨zr, zm1⟩ := zp
    rw [zr]
    show EL X 485 [(2, 82), (2, 0), (2, 49), (0, i)] [(0, an_best mem (lwS X (i + 1)) true)] m1
    have zM : MI mem m1 := hJ.atQ zm1
    refine l_aloadn zC (pc := 485) dL_law_485 rfl rfl ?_
    refine l_aloadn zC (pc := 486) dL_law_486 rfl rfl ?_
    refine l_iloadn zC (pc := 487) dL_law_487 rfl rfl ?_
    refine l_iconst zC (pc := 488) dL_law_488 (by decide) ?_
    refine l_iaddn zC (pc := 489) dL_law_489 (by omega) ?_
    refine l_sld zC (pc := 490) dL_law_490 (by omega) ?_
    refine l_aloadn zC (pc := 491) dL_law_491 rfl rfl ?_
    refine l_iloadn zC (pc := 492) dL_law_492 rfl rfl ?_
    refine l_iconst zC (pc := 493) dL_law_493 (by decide) ?_
    refine l_iaddn zC (pc := 494) dL_law_494 (by omega) ?_
    refine l_sld zC (pc := 495) dL_law_495 (by omega) ?_
    refine l_if_eq zC (pc := 496) (tgt := 503) dL_law_496 rfl (fun zb2 => absurd zb2 zb) (fun _ => ?_)
    refine l_iconst zC (pc := 499) dL_law_499 (by decide) ?_
    refine l_goto zC (pc := 500) (tgt := 504) dL_law_500 rfl ?_
    refine l_callV (zc := 49) zC (pc := 504) (m_best X.G mem m1 (lwS X (i + 1)) true hJ.1 zM) dL_law_504 lL_65 rfl rfl rfl rfl rfl (fun r2 m2 zp2 => ?_)
    obtain ⟨zr2, zm2, zf2⟩ := zp2
    rw [zr2]
    show EL X 507 [(2, 82), (2, 0), (2, 49), (0, i)] [(0, an_best mem (lwS X (i + 1)) true), (0, an_best mem (lwS X (i + 1)) true)] m2
    have zJ : Jn m2 := jn_query hJ zm1 zf2 zm2
    exact l_icmp_eq zC (pc := 507) (tgt := 1170) dL_law_507 rfl (fun _ => kk m2 zJ) (fun zn => absurd rfl zn)
theorem lw_cs_restless {X : LX} (zC : X.ok) {i : Int} {mem : Mem} (hi : 0 ≤ i ∧ i + 6 ≤ (X.L : Int)) (hJ : Jn mem) (kk : ∀ m2, Jn m2 → EL X 1170 [(2, 82), (2, 0), (2, 49), (0, i)] [] m2) : EL X 512 [(2, 82), (2, 0), (2, 49), (0, i)] [] mem := by
  have hz : X.L ≤ 3072 := zC.2.2.2.2
  refine l_aloadn zC (pc := 512) dL_law_512 rfl rfl ?_
  refine l_callV (zc := 0) zC (pc := 513) (c_restless X.G mem  hJ.1) dL_law_513 lL_66 rfl rfl rfl rfl rfl (fun r m1 zp => ?_)
  obtain ⟨zr, zm1⟩ := zp
  rw [zr]
  show EL X 516 [(2, 82), (2, 0), (2, 49), (0, i)] [(0, an_restless mem )] m1
  have zM : MI mem m1 := hJ.atQ zm1
  refine l_aloadn zC (pc := 516) dL_law_516 rfl rfl ?_
  refine l_callV (zc := 49) zC (pc := 517) (m_restless X.G mem m1  hJ.1 zM) dL_law_517 lL_69 rfl rfl rfl rfl rfl (fun r2 m2 zp2 => ?_)
  obtain ⟨zr2, zm2, zf2⟩ := zp2
  rw [zr2]
  show EL X 520 [(2, 82), (2, 0), (2, 49), (0, i)] [(0, an_restless mem ), (0, an_restless mem )] m2
  have zJ : Jn m2 := jn_query hJ zm1 zf2 zm2
  exact l_icmp_eq zC (pc := 520) (tgt := 1170) dL_law_520 rfl (fun _ => kk m2 zJ) (fun zn => absurd rfl zn)
theorem lw_cs_climb {X : LX} (zC : X.ok) {i : Int} {mem : Mem} (hi : 0 ≤ i ∧ i + 6 ≤ (X.L : Int)) (hJ : Jn mem) (kk : ∀ m2, Jn m2 → EL X 1170 [(2, 82), (2, 0), (2, 49), (0, i)] [] m2) : EL X 525 [(2, 82), (2, 0), (2, 49), (0, i)] [] mem := by
  have hz : X.L ≤ 3072 := zC.2.2.2.2
  refine l_aloadn zC (pc := 525) dL_law_525 rfl rfl ?_
  refine l_aloadn zC (pc := 526) dL_law_526 rfl rfl ?_
  refine l_iloadn zC (pc := 527) dL_law_527 rfl rfl ?_
  refine l_iconst zC (pc := 528) dL_law_528 (by decide) ?_
  refine l_iaddn zC (pc := 529) dL_law_529 (by omega) ?_
  refine l_sld zC (pc := 530) dL_law_530 (by omega) ?_
  refine l_if_eq zC (pc := 531) (tgt := 538) dL_law_531 rfl (fun zb => ?_) (fun zb => ?_)
  · refine l_iconst zC (pc := 538) dL_law_538 (by decide) ?_
    refine l_aloadn zC (pc := 539) dL_law_539 rfl rfl ?_
    refine l_iloadn zC (pc := 540) dL_law_540 rfl rfl ?_
    refine l_iconst zC (pc := 541) dL_law_541 (by decide) ?_
    refine l_iaddn zC (pc := 542) dL_law_542 (by omega) ?_
    refine l_sld zC (pc := 543) dL_law_543 (by omega) ?_
    refine l_callV (zc := 0) zC (pc := 544) (c_climb X.G mem false (lwS X (i + 2)) hJ.1) dL_law_544 lL_70 rfl rfl rfl rfl rfl (fun r m1 zp => ?_)
    obtain ⟨zr, zm1⟩ := zp
    rw [zr]
    show EL X 547 [(2, 82), (2, 0), (2, 49), (0, i)] [(0, an_climb mem false (lwS X (i + 2)))] m1
    have zM : MI mem m1 := hJ.atQ zm1
    refine l_aloadn zC (pc := 547) dL_law_547 rfl rfl ?_
    refine l_aloadn zC (pc := 548) dL_law_548 rfl rfl ?_
    refine l_iloadn zC (pc := 549) dL_law_549 rfl rfl ?_
    refine l_iconst zC (pc := 550) dL_law_550 (by decide) ?_
    refine l_iaddn zC (pc := 551) dL_law_551 (by omega) ?_
    refine l_sld zC (pc := 552) dL_law_552 (by omega) ?_
    refine l_if_eq zC (pc := 553) (tgt := 560) dL_law_553 rfl (fun _ => ?_) (fun zb2 => absurd zb zb2)
    refine l_iconst zC (pc := 560) dL_law_560 (by decide) ?_
    refine l_aloadn zC (pc := 561) dL_law_561 rfl rfl ?_
    refine l_iloadn zC (pc := 562) dL_law_562 rfl rfl ?_
    refine l_iconst zC (pc := 563) dL_law_563 (by decide) ?_
    refine l_iaddn zC (pc := 564) dL_law_564 (by omega) ?_
    refine l_sld zC (pc := 565) dL_law_565 (by omega) ?_
    refine l_callV (zc := 49) zC (pc := 566) (m_climb X.G mem m1 false (lwS X (i + 2)) hJ.1 zM) dL_law_566 lL_74 rfl rfl rfl rfl rfl (fun r2 m2 zp2 => ?_)
    obtain ⟨zr2, zm2, zf2⟩ := zp2
    rw [zr2]
    show EL X 569 [(2, 82), (2, 0), (2, 49), (0, i)] [(0, an_climb mem false (lwS X (i + 2))), (0, an_climb mem false (lwS X (i + 2)))] m2
    have zJ : Jn m2 := jn_query hJ zm1 zf2 zm2
    exact l_icmp_eq zC (pc := 569) (tgt := 1170) dL_law_569 rfl (fun _ => kk m2 zJ) (fun zn => absurd rfl zn)
  · refine l_iconst zC (pc := 534) dL_law_534 (by decide) ?_
    refine l_goto zC (pc := 535) (tgt := 539) dL_law_535 rfl ?_
    refine l_aloadn zC (pc := 539) dL_law_539 rfl rfl ?_
    refine l_iloadn zC (pc := 540) dL_law_540 rfl rfl ?_
    refine l_iconst zC (pc := 541) dL_law_541 (by decide) ?_
    refine l_iaddn zC (pc := 542) dL_law_542 (by omega) ?_
    refine l_sld zC (pc := 543) dL_law_543 (by omega) ?_
    refine l_callV (zc := 0) zC (pc := 544) (c_climb X.G mem true (lwS X (i + 2)) hJ.1) dL_law_544 lL_70 rfl rfl rfl rfl rfl (fun r m1 zp => ?_)
    obtain ⟨zr, zm1⟩ := zp
    rw [zr]
    show EL X 547 [(2, 82), (2, 0), (2, 49), (0, i)] [(0, an_climb mem true (lwS X (i + 2)))] m1
    have zM : MI mem m1 := hJ.atQ zm1
    refine l_aloadn zC (pc := 547) dL_law_547 rfl rfl ?_
    refine l_aloadn zC (pc := 548) dL_law_548 rfl rfl ?_
    refine l_iloadn zC (pc := 549) dL_law_549 rfl rfl ?_
    refine l_iconst zC (pc := 550) dL_law_550 (by decide) ?_
    refine l_iaddn zC (pc := 551) dL_law_551 (by omega) ?_
    refine l_sld zC (pc := 552) dL_law_552 (by omega) ?_
    refine l_if_eq zC (pc := 553) (tgt := 560) dL_law_553 rfl (fun zb2 => absurd zb2 zb) (fun _ => ?_)
    refine l_iconst zC (pc := 556) dL_law_556 (by decide) ?_
    refine l_goto zC (pc := 557) (tgt := 561) dL_law_557 rfl ?_
    refine l_aloadn zC (pc := 561) dL_law_561 rfl rfl ?_
    refine l_iloadn zC (pc := 562) dL_law_562 rfl rfl ?_
    refine l_iconst zC (pc := 563) dL_law_563 (by decide) ?_
    refine l_iaddn zC (pc := 564) dL_law_564 (by omega) ?_
    refine l_sld zC (pc := 565) dL_law_565 (by omega) ?_
    refine l_callV (zc := 49) zC (pc := 566) (m_climb X.G mem m1 true (lwS X (i + 2)) hJ.1 zM) dL_law_566 lL_74 rfl rfl rfl rfl rfl (fun r2 m2 zp2 => ?_)
    obtain ⟨zr2, zm2, zf2⟩ := zp2
    rw [zr2]
    show EL X 569 [(2, 82), (2, 0), (2, 49), (0, i)] [(0, an_climb mem true (lwS X (i + 2))), (0, an_climb mem true (lwS X (i + 2)))] m2
    have zJ : Jn m2 := jn_query hJ zm1 zf2 zm2
    exact l_icmp_eq zC (pc := 569) (tgt := 1170) dL_law_569 rfl (fun _ => kk m2 zJ) (fun zn => absurd rfl zn)
theorem lw_cs_rests {X : LX} (zC : X.ok) {i : Int} {mem : Mem} (hi : 0 ≤ i ∧ i + 6 ≤ (X.L : Int)) (hJ : Jn mem) (kk : ∀ m2, Jn m2 → EL X 1170 [(2, 82), (2, 0), (2, 49), (0, i)] [] m2) : EL X 574 [(2, 82), (2, 0), (2, 49), (0, i)] [] mem := by
  have hz : X.L ≤ 3072 := zC.2.2.2.2
  refine l_aloadn zC (pc := 574) dL_law_574 rfl rfl ?_
  refine l_aloadn zC (pc := 575) dL_law_575 rfl rfl ?_
  refine l_iloadn zC (pc := 576) dL_law_576 rfl rfl ?_
  refine l_iconst zC (pc := 577) dL_law_577 (by decide) ?_
  refine l_iaddn zC (pc := 578) dL_law_578 (by omega) ?_
  refine l_sld zC (pc := 579) dL_law_579 (by omega) ?_
  refine l_aloadn zC (pc := 580) dL_law_580 rfl rfl ?_
  refine l_iloadn zC (pc := 581) dL_law_581 rfl rfl ?_
  refine l_iconst zC (pc := 582) dL_law_582 (by decide) ?_
  refine l_iaddn zC (pc := 583) dL_law_583 (by omega) ?_
  refine l_sld zC (pc := 584) dL_law_584 (by omega) ?_
  refine l_aloadn zC (pc := 585) dL_law_585 rfl rfl ?_
  refine l_iloadn zC (pc := 586) dL_law_586 rfl rfl ?_
  refine l_iconst zC (pc := 587) dL_law_587 (by decide) ?_
  refine l_iaddn zC (pc := 588) dL_law_588 (by omega) ?_
  refine l_sld zC (pc := 589) dL_law_589 (by omega) ?_
  refine l_callV (zc := 0) zC (pc := 590) (c_rests X.G mem (lwS X (i + 1)) (lwS X (i + 2)) (lwS X (i + 3)) hJ.1) dL_law_590 lL_75 rfl rfl rfl rfl rfl (fun r m1 zp => ?_)
  obtain ⟨zr, zm1⟩ := zp
  rw [zr]
  show EL X 593 [(2, 82), (2, 0), (2, 49), (0, i)] [(0, an_rests mem (lwS X (i + 1)) (lwS X (i + 2)) (lwS X (i + 3)))] m1
  have zM : MI mem m1 := hJ.atQ zm1
  refine l_aloadn zC (pc := 593) dL_law_593 rfl rfl ?_
  refine l_aloadn zC (pc := 594) dL_law_594 rfl rfl ?_
  refine l_iloadn zC (pc := 595) dL_law_595 rfl rfl ?_
  refine l_iconst zC (pc := 596) dL_law_596 (by decide) ?_
  refine l_iaddn zC (pc := 597) dL_law_597 (by omega) ?_
  refine l_sld zC (pc := 598) dL_law_598 (by omega) ?_
  refine l_aloadn zC (pc := 599) dL_law_599 rfl rfl ?_
  refine l_iloadn zC (pc := 600) dL_law_600 rfl rfl ?_
  refine l_iconst zC (pc := 601) dL_law_601 (by decide) ?_
  refine l_iaddn zC (pc := 602) dL_law_602 (by omega) ?_
  refine l_sld zC (pc := 603) dL_law_603 (by omega) ?_
  refine l_aloadn zC (pc := 604) dL_law_604 rfl rfl ?_
  refine l_iloadn zC (pc := 605) dL_law_605 rfl rfl ?_
  refine l_iconst zC (pc := 606) dL_law_606 (by decide) ?_
  refine l_iaddn zC (pc := 607) dL_law_607 (by omega) ?_
  refine l_sld zC (pc := 608) dL_law_608 (by omega) ?_
  refine l_callV (zc := 49) zC (pc := 609) (m_rests X.G mem m1 (lwS X (i + 1)) (lwS X (i + 2)) (lwS X (i + 3)) hJ.1 zM) dL_law_609 lL_78 rfl rfl rfl rfl rfl (fun r2 m2 zp2 => ?_)
  obtain ⟨zr2, zm2, zf2⟩ := zp2
  rw [zr2]
  show EL X 612 [(2, 82), (2, 0), (2, 49), (0, i)] [(0, an_rests mem (lwS X (i + 1)) (lwS X (i + 2)) (lwS X (i + 3))), (0, an_rests mem (lwS X (i + 1)) (lwS X (i + 2)) (lwS X (i + 3)))] m2
  have zJ : Jn m2 := jn_query hJ zm1 zf2 zm2
  exact l_icmp_eq zC (pc := 612) (tgt := 1170) dL_law_612 rfl (fun _ => kk m2 zJ) (fun zn => absurd rfl zn)
theorem lw_cs_lost {X : LX} (zC : X.ok) {i : Int} {mem : Mem} (hi : 0 ≤ i ∧ i + 6 ≤ (X.L : Int)) (hJ : Jn mem) (kk : ∀ m2, Jn m2 → EL X 1170 [(2, 82), (2, 0), (2, 49), (0, i)] [] m2) : EL X 617 [(2, 82), (2, 0), (2, 49), (0, i)] [] mem := by
  have hz : X.L ≤ 3072 := zC.2.2.2.2
  refine l_aloadn zC (pc := 617) dL_law_617 rfl rfl ?_
  refine l_aloadn zC (pc := 618) dL_law_618 rfl rfl ?_
  refine l_iloadn zC (pc := 619) dL_law_619 rfl rfl ?_
  refine l_iconst zC (pc := 620) dL_law_620 (by decide) ?_
  refine l_iaddn zC (pc := 621) dL_law_621 (by omega) ?_
  refine l_sld zC (pc := 622) dL_law_622 (by omega) ?_
  refine l_aloadn zC (pc := 623) dL_law_623 rfl rfl ?_
  refine l_iloadn zC (pc := 624) dL_law_624 rfl rfl ?_
  refine l_iconst zC (pc := 625) dL_law_625 (by decide) ?_
  refine l_iaddn zC (pc := 626) dL_law_626 (by omega) ?_
  refine l_sld zC (pc := 627) dL_law_627 (by omega) ?_
  refine l_callV (zc := 0) zC (pc := 628) (c_lost X.G mem (lwS X (i + 1)) (lwS X (i + 2)) hJ.1) dL_law_628 lL_79 rfl rfl rfl rfl rfl (fun r m1 zp => ?_)
  obtain ⟨zr, zm1⟩ := zp
  rw [zr]
  show EL X 631 [(2, 82), (2, 0), (2, 49), (0, i)] [(0, an_lost mem (lwS X (i + 1)) (lwS X (i + 2)))] m1
  have zM : MI mem m1 := hJ.atQ zm1
  refine l_aloadn zC (pc := 631) dL_law_631 rfl rfl ?_
  refine l_aloadn zC (pc := 632) dL_law_632 rfl rfl ?_
  refine l_iloadn zC (pc := 633) dL_law_633 rfl rfl ?_
  refine l_iconst zC (pc := 634) dL_law_634 (by decide) ?_
  refine l_iaddn zC (pc := 635) dL_law_635 (by omega) ?_
  refine l_sld zC (pc := 636) dL_law_636 (by omega) ?_
  refine l_aloadn zC (pc := 637) dL_law_637 rfl rfl ?_
  refine l_iloadn zC (pc := 638) dL_law_638 rfl rfl ?_
  refine l_iconst zC (pc := 639) dL_law_639 (by decide) ?_
  refine l_iaddn zC (pc := 640) dL_law_640 (by omega) ?_
  refine l_sld zC (pc := 641) dL_law_641 (by omega) ?_
  refine l_callV (zc := 49) zC (pc := 642) (m_lost X.G mem m1 (lwS X (i + 1)) (lwS X (i + 2)) hJ.1 zM) dL_law_642 lL_82 rfl rfl rfl rfl rfl (fun r2 m2 zp2 => ?_)
  obtain ⟨zr2, zm2, zf2⟩ := zp2
  rw [zr2]
  show EL X 645 [(2, 82), (2, 0), (2, 49), (0, i)] [(0, an_lost mem (lwS X (i + 1)) (lwS X (i + 2))), (0, an_lost mem (lwS X (i + 1)) (lwS X (i + 2)))] m2
  have zJ : Jn m2 := jn_query hJ zm1 zf2 zm2
  exact l_icmp_eq zC (pc := 645) (tgt := 1170) dL_law_645 rfl (fun _ => kk m2 zJ) (fun zn => absurd rfl zn)
theorem lw_cs_week {X : LX} (zC : X.ok) {i : Int} {mem : Mem} (hi : 0 ≤ i ∧ i + 6 ≤ (X.L : Int)) (hJ : Jn mem) (kk : ∀ m2, Jn m2 → EL X 1170 [(2, 82), (2, 0), (2, 49), (0, i)] [] m2) : EL X 650 [(2, 82), (2, 0), (2, 49), (0, i)] [] mem := by
  have hz : X.L ≤ 3072 := zC.2.2.2.2
  refine l_aloadn zC (pc := 650) dL_law_650 rfl rfl ?_
  refine l_aloadn zC (pc := 651) dL_law_651 rfl rfl ?_
  refine l_iloadn zC (pc := 652) dL_law_652 rfl rfl ?_
  refine l_iconst zC (pc := 653) dL_law_653 (by decide) ?_
  refine l_iaddn zC (pc := 654) dL_law_654 (by omega) ?_
  refine l_sld zC (pc := 655) dL_law_655 (by omega) ?_
  refine l_callV (zc := 0) zC (pc := 656) (c_week X.G mem (lwS X (i + 1)) hJ.1) dL_law_656 lL_83 rfl rfl rfl rfl rfl (fun r m1 zp => ?_)
  obtain ⟨zr, zm1⟩ := zp
  rw [zr]
  show EL X 659 [(2, 82), (2, 0), (2, 49), (0, i)] [(0, an_week mem (lwS X (i + 1)))] m1
  have zM : MI mem m1 := hJ.atQ zm1
  refine l_aloadn zC (pc := 659) dL_law_659 rfl rfl ?_
  refine l_aloadn zC (pc := 660) dL_law_660 rfl rfl ?_
  refine l_iloadn zC (pc := 661) dL_law_661 rfl rfl ?_
  refine l_iconst zC (pc := 662) dL_law_662 (by decide) ?_
  refine l_iaddn zC (pc := 663) dL_law_663 (by omega) ?_
  refine l_sld zC (pc := 664) dL_law_664 (by omega) ?_
  refine l_callV (zc := 49) zC (pc := 665) (m_week X.G mem m1 (lwS X (i + 1)) hJ.1 zM) dL_law_665 lL_86 rfl rfl rfl rfl rfl (fun r2 m2 zp2 => ?_)
  obtain ⟨zr2, zm2, zf2⟩ := zp2
  rw [zr2]
  show EL X 668 [(2, 82), (2, 0), (2, 49), (0, i)] [(0, an_week mem (lwS X (i + 1))), (0, an_week mem (lwS X (i + 1)))] m2
  have zJ : Jn m2 := jn_query hJ zm1 zf2 zm2
  exact l_icmp_eq zC (pc := 668) (tgt := 1170) dL_law_668 rfl (fun _ => kk m2 zJ) (fun zn => absurd rfl zn)
theorem lw_cs_round {X : LX} (zC : X.ok) {i : Int} {mem : Mem} (hi : 0 ≤ i ∧ i + 6 ≤ (X.L : Int)) (hJ : Jn mem) (kk : ∀ m2, Jn m2 → EL X 1170 [(2, 82), (2, 0), (2, 49), (0, i)] [] m2) : EL X 673 [(2, 82), (2, 0), (2, 49), (0, i)] [] mem := by
  have hz : X.L ≤ 3072 := zC.2.2.2.2
  refine l_aloadn zC (pc := 673) dL_law_673 rfl rfl ?_
  refine l_aloadn zC (pc := 674) dL_law_674 rfl rfl ?_
  refine l_iloadn zC (pc := 675) dL_law_675 rfl rfl ?_
  refine l_iconst zC (pc := 676) dL_law_676 (by decide) ?_
  refine l_iaddn zC (pc := 677) dL_law_677 (by omega) ?_
  refine l_sld zC (pc := 678) dL_law_678 (by omega) ?_
  refine l_callV (zc := 0) zC (pc := 679) (c_round X.G mem (lwS X (i + 1)) hJ.1) dL_law_679 lL_87 rfl rfl rfl rfl rfl (fun r m1 zp => ?_)
  obtain ⟨zr, zm1⟩ := zp
  rw [zr]
  show EL X 682 [(2, 82), (2, 0), (2, 49), (0, i)] [(0, an_round mem (lwS X (i + 1)))] m1
  have zM : MI mem m1 := hJ.atQ zm1
  refine l_aloadn zC (pc := 682) dL_law_682 rfl rfl ?_
  refine l_aloadn zC (pc := 683) dL_law_683 rfl rfl ?_
  refine l_iloadn zC (pc := 684) dL_law_684 rfl rfl ?_
  refine l_iconst zC (pc := 685) dL_law_685 (by decide) ?_
  refine l_iaddn zC (pc := 686) dL_law_686 (by omega) ?_
  refine l_sld zC (pc := 687) dL_law_687 (by omega) ?_
  refine l_callV (zc := 49) zC (pc := 688) (m_round X.G mem m1 (lwS X (i + 1)) hJ.1 zM) dL_law_688 lL_90 rfl rfl rfl rfl rfl (fun r2 m2 zp2 => ?_)
  obtain ⟨zr2, zm2, zf2⟩ := zp2
  rw [zr2]
  show EL X 691 [(2, 82), (2, 0), (2, 49), (0, i)] [(0, an_round mem (lwS X (i + 1))), (0, an_round mem (lwS X (i + 1)))] m2
  have zJ : Jn m2 := jn_query hJ zm1 zf2 zm2
  exact l_icmp_eq zC (pc := 691) (tgt := 1170) dL_law_691 rfl (fun _ => kk m2 zJ) (fun zn => absurd rfl zn)
theorem lw_cs_moved {X : LX} (zC : X.ok) {i : Int} {mem : Mem} (hi : 0 ≤ i ∧ i + 6 ≤ (X.L : Int)) (hJ : Jn mem) (kk : ∀ m2, Jn m2 → EL X 1170 [(2, 82), (2, 0), (2, 49), (0, i)] [] m2) : EL X 696 [(2, 82), (2, 0), (2, 49), (0, i)] [] mem := by
  have hz : X.L ≤ 3072 := zC.2.2.2.2
  refine l_aloadn zC (pc := 696) dL_law_696 rfl rfl ?_
  refine l_aloadn zC (pc := 697) dL_law_697 rfl rfl ?_
  refine l_iloadn zC (pc := 698) dL_law_698 rfl rfl ?_
  refine l_iconst zC (pc := 699) dL_law_699 (by decide) ?_
  refine l_iaddn zC (pc := 700) dL_law_700 (by omega) ?_
  refine l_sld zC (pc := 701) dL_law_701 (by omega) ?_
  refine l_callV (zc := 0) zC (pc := 702) (c_moved X.G mem (lwS X (i + 1)) hJ.1) dL_law_702 lL_91 rfl rfl rfl rfl rfl (fun r m1 zp => ?_)
  obtain ⟨zr, zm1⟩ := zp
  rw [zr]
  show EL X 705 [(2, 82), (2, 0), (2, 49), (0, i)] [(0, an_moved mem (lwS X (i + 1)))] m1
  have zM : MI mem m1 := hJ.atQ zm1
  refine l_aloadn zC (pc := 705) dL_law_705 rfl rfl ?_
  refine l_aloadn zC (pc := 706) dL_law_706 rfl rfl ?_
  refine l_iloadn zC (pc := 707) dL_law_707 rfl rfl ?_
  refine l_iconst zC (pc := 708) dL_law_708 (by decide) ?_
  refine l_iaddn zC (pc := 709) dL_law_709 (by omega) ?_
  refine l_sld zC (pc := 710) dL_law_710 (by omega) ?_
  refine l_callV (zc := 49) zC (pc := 711) (m_moved X.G mem m1 (lwS X (i + 1)) hJ.1 zM) dL_law_711 lL_94 rfl rfl rfl rfl rfl (fun r2 m2 zp2 => ?_)
  obtain ⟨zr2, zm2, zf2⟩ := zp2
  rw [zr2]
  show EL X 714 [(2, 82), (2, 0), (2, 49), (0, i)] [(0, an_moved mem (lwS X (i + 1))), (0, an_moved mem (lwS X (i + 1)))] m2
  have zJ : Jn m2 := jn_query hJ zm1 zf2 zm2
  exact l_icmp_eq zC (pc := 714) (tgt := 1170) dL_law_714 rfl (fun _ => kk m2 zJ) (fun zn => absurd rfl zn)
theorem lw_cs_least {X : LX} (zC : X.ok) {i : Int} {mem : Mem} (hi : 0 ≤ i ∧ i + 6 ≤ (X.L : Int)) (hJ : Jn mem) (kk : ∀ m2, Jn m2 → EL X 1170 [(2, 82), (2, 0), (2, 49), (0, i)] [] m2) : EL X 719 [(2, 82), (2, 0), (2, 49), (0, i)] [] mem := by
  have hz : X.L ≤ 3072 := zC.2.2.2.2
  refine l_aloadn zC (pc := 719) dL_law_719 rfl rfl ?_
  refine l_aloadn zC (pc := 720) dL_law_720 rfl rfl ?_
  refine l_iloadn zC (pc := 721) dL_law_721 rfl rfl ?_
  refine l_iconst zC (pc := 722) dL_law_722 (by decide) ?_
  refine l_iaddn zC (pc := 723) dL_law_723 (by omega) ?_
  refine l_sld zC (pc := 724) dL_law_724 (by omega) ?_
  refine l_if_eq zC (pc := 725) (tgt := 732) dL_law_725 rfl (fun zb => ?_) (fun zb => ?_)
  · refine l_iconst zC (pc := 732) dL_law_732 (by decide) ?_
    refine l_callV (zc := 0) zC (pc := 733) (c_least X.G mem false hJ.1) dL_law_733 lL_95 rfl rfl rfl rfl rfl (fun r m1 zp => ?_)
    obtain ⟨zr, zm1⟩ := zp
    rw [zr]
    show EL X 736 [(2, 82), (2, 0), (2, 49), (0, i)] [(0, an_least mem false)] m1
    have zM : MI mem m1 := hJ.atQ zm1
    refine l_aloadn zC (pc := 736) dL_law_736 rfl rfl ?_
    refine l_aloadn zC (pc := 737) dL_law_737 rfl rfl ?_
    refine l_iloadn zC (pc := 738) dL_law_738 rfl rfl ?_
    refine l_iconst zC (pc := 739) dL_law_739 (by decide) ?_
    refine l_iaddn zC (pc := 740) dL_law_740 (by omega) ?_
    refine l_sld zC (pc := 741) dL_law_741 (by omega) ?_
    refine l_if_eq zC (pc := 742) (tgt := 749) dL_law_742 rfl (fun _ => ?_) (fun zb2 => absurd zb zb2)
    refine l_iconst zC (pc := 749) dL_law_749 (by decide) ?_
    refine l_callV (zc := 49) zC (pc := 750) (m_least X.G mem m1 false hJ.1 zM) dL_law_750 lL_99 rfl rfl rfl rfl rfl (fun r2 m2 zp2 => ?_)
    obtain ⟨zr2, zm2, zf2⟩ := zp2
    rw [zr2]
    show EL X 753 [(2, 82), (2, 0), (2, 49), (0, i)] [(0, an_least mem false), (0, an_least mem false)] m2
    have zJ : Jn m2 := jn_query hJ zm1 zf2 zm2
    exact l_icmp_eq zC (pc := 753) (tgt := 1170) dL_law_753 rfl (fun _ => kk m2 zJ) (fun zn => absurd rfl zn)
  · refine l_iconst zC (pc := 728) dL_law_728 (by decide) ?_
    refine l_goto zC (pc := 729) (tgt := 733) dL_law_729 rfl ?_
    refine l_callV (zc := 0) zC (pc := 733) (c_least X.G mem true hJ.1) dL_law_733 lL_95 rfl rfl rfl rfl rfl (fun r m1 zp => ?_)
    obtain ⟨zr, zm1⟩ := zp
    rw [zr]
    show EL X 736 [(2, 82), (2, 0), (2, 49), (0, i)] [(0, an_least mem true)] m1
    have zM : MI mem m1 := hJ.atQ zm1
    refine l_aloadn zC (pc := 736) dL_law_736 rfl rfl ?_
    refine l_aloadn zC (pc := 737) dL_law_737 rfl rfl ?_
    refine l_iloadn zC (pc := 738) dL_law_738 rfl rfl ?_
    refine l_iconst zC (pc := 739) dL_law_739 (by decide) ?_
    refine l_iaddn zC (pc := 740) dL_law_740 (by omega) ?_
    refine l_sld zC (pc := 741) dL_law_741 (by omega) ?_
    refine l_if_eq zC (pc := 742) (tgt := 749) dL_law_742 rfl (fun zb2 => absurd zb2 zb) (fun _ => ?_)
    refine l_iconst zC (pc := 745) dL_law_745 (by decide) ?_
    refine l_goto zC (pc := 746) (tgt := 750) dL_law_746 rfl ?_
    refine l_callV (zc := 49) zC (pc := 750) (m_least X.G mem m1 true hJ.1 zM) dL_law_750 lL_99 rfl rfl rfl rfl rfl (fun r2 m2 zp2 => ?_)
    obtain ⟨zr2, zm2, zf2⟩ := zp2
    rw [zr2]
    show EL X 753 [(2, 82), (2, 0), (2, 49), (0, i)] [(0, an_least mem true), (0, an_least mem true)] m2
    have zJ : Jn m2 := jn_query hJ zm1 zf2 zm2
    exact l_icmp_eq zC (pc := 753) (tgt := 1170) dL_law_753 rfl (fun _ => kk m2 zJ) (fun zn => absurd rfl zn)
theorem lw_cs_keys {X : LX} (zC : X.ok) {i : Int} {mem : Mem} (hi : 0 ≤ i ∧ i + 6 ≤ (X.L : Int)) (hJ : Jn mem) (kk : ∀ m2, Jn m2 → EL X 1170 [(2, 82), (2, 0), (2, 49), (0, i)] [] m2) : EL X 758 [(2, 82), (2, 0), (2, 49), (0, i)] [] mem := by
  have hz : X.L ≤ 3072 := zC.2.2.2.2
  refine l_aloadn zC (pc := 758) dL_law_758 rfl rfl ?_
  refine l_aloadn zC (pc := 759) dL_law_759 rfl rfl ?_
  refine l_iloadn zC (pc := 760) dL_law_760 rfl rfl ?_
  refine l_iconst zC (pc := 761) dL_law_761 (by decide) ?_
  refine l_iaddn zC (pc := 762) dL_law_762 (by omega) ?_
  refine l_sld zC (pc := 763) dL_law_763 (by omega) ?_
  refine l_callV (zc := 0) zC (pc := 764) (c_keys X.G mem (lwS X (i + 1)) hJ.1) dL_law_764 lL_100 rfl rfl rfl rfl rfl (fun r m1 zp => ?_)
  obtain ⟨zr, zm1⟩ := zp
  rw [zr]
  show EL X 767 [(2, 82), (2, 0), (2, 49), (0, i)] [(0, an_keys mem (lwS X (i + 1)))] m1
  have zM : MI mem m1 := hJ.atQ zm1
  refine l_aloadn zC (pc := 767) dL_law_767 rfl rfl ?_
  refine l_aloadn zC (pc := 768) dL_law_768 rfl rfl ?_
  refine l_iloadn zC (pc := 769) dL_law_769 rfl rfl ?_
  refine l_iconst zC (pc := 770) dL_law_770 (by decide) ?_
  refine l_iaddn zC (pc := 771) dL_law_771 (by omega) ?_
  refine l_sld zC (pc := 772) dL_law_772 (by omega) ?_
  refine l_callV (zc := 49) zC (pc := 773) (m_keys X.G mem m1 (lwS X (i + 1)) hJ.1 zM) dL_law_773 lL_103 rfl rfl rfl rfl rfl (fun r2 m2 zp2 => ?_)
  obtain ⟨zr2, zm2, zf2⟩ := zp2
  rw [zr2]
  show EL X 776 [(2, 82), (2, 0), (2, 49), (0, i)] [(0, an_keys mem (lwS X (i + 1))), (0, an_keys mem (lwS X (i + 1)))] m2
  have zJ : Jn m2 := jn_query hJ zm1 zf2 zm2
  exact l_icmp_eq zC (pc := 776) (tgt := 1170) dL_law_776 rfl (fun _ => kk m2 zJ) (fun zn => absurd rfl zn)
theorem lw_cs_guests {X : LX} (zC : X.ok) {i : Int} {mem : Mem} (hi : 0 ≤ i ∧ i + 6 ≤ (X.L : Int)) (hJ : Jn mem) (kk : ∀ m2, Jn m2 → EL X 1170 [(2, 82), (2, 0), (2, 49), (0, i)] [] m2) : EL X 781 [(2, 82), (2, 0), (2, 49), (0, i)] [] mem := by
  have hz : X.L ≤ 3072 := zC.2.2.2.2
  refine l_aloadn zC (pc := 781) dL_law_781 rfl rfl ?_
  refine l_callV (zc := 0) zC (pc := 782) (c_guests X.G mem  hJ.1) dL_law_782 lL_104 rfl rfl rfl rfl rfl (fun r m1 zp => ?_)
  obtain ⟨zr, zm1⟩ := zp
  rw [zr]
  show EL X 785 [(2, 82), (2, 0), (2, 49), (0, i)] [(0, an_guests mem )] m1
  have zM : MI mem m1 := hJ.atQ zm1
  refine l_aloadn zC (pc := 785) dL_law_785 rfl rfl ?_
  refine l_callV (zc := 49) zC (pc := 786) (m_guests X.G mem m1  hJ.1 zM) dL_law_786 lL_107 rfl rfl rfl rfl rfl (fun r2 m2 zp2 => ?_)
  obtain ⟨zr2, zm2, zf2⟩ := zp2
  rw [zr2]
  show EL X 789 [(2, 82), (2, 0), (2, 49), (0, i)] [(0, an_guests mem ), (0, an_guests mem )] m2
  have zJ : Jn m2 := jn_query hJ zm1 zf2 zm2
  exact l_icmp_eq zC (pc := 789) (tgt := 1170) dL_law_789 rfl (fun _ => kk m2 zJ) (fun zn => absurd rfl zn)
theorem lw_cs_odds {X : LX} (zC : X.ok) {i : Int} {mem : Mem} (hi : 0 ≤ i ∧ i + 6 ≤ (X.L : Int)) (hJ : Jn mem) (kk : ∀ m2, Jn m2 → EL X 1170 [(2, 82), (2, 0), (2, 49), (0, i)] [] m2) : EL X 794 [(2, 82), (2, 0), (2, 49), (0, i)] [] mem := by
  have hz : X.L ≤ 3072 := zC.2.2.2.2
  refine l_aloadn zC (pc := 794) dL_law_794 rfl rfl ?_
  refine l_aloadn zC (pc := 795) dL_law_795 rfl rfl ?_
  refine l_iloadn zC (pc := 796) dL_law_796 rfl rfl ?_
  refine l_iconst zC (pc := 797) dL_law_797 (by decide) ?_
  refine l_iaddn zC (pc := 798) dL_law_798 (by omega) ?_
  refine l_sld zC (pc := 799) dL_law_799 (by omega) ?_
  refine l_aloadn zC (pc := 800) dL_law_800 rfl rfl ?_
  refine l_iloadn zC (pc := 801) dL_law_801 rfl rfl ?_
  refine l_iconst zC (pc := 802) dL_law_802 (by decide) ?_
  refine l_iaddn zC (pc := 803) dL_law_803 (by omega) ?_
  refine l_sld zC (pc := 804) dL_law_804 (by omega) ?_
  refine l_callV (zc := 0) zC (pc := 805) (c_odds X.G mem (lwS X (i + 1)) (lwS X (i + 2)) hJ.1) dL_law_805 lL_108 rfl rfl rfl rfl rfl (fun r m1 zp => ?_)
  obtain ⟨zr, zm1⟩ := zp
  rw [zr]
  show EL X 808 [(2, 82), (2, 0), (2, 49), (0, i)] [(1, an_odds mem (lwS X (i + 1)) (lwS X (i + 2)))] m1
  have zM : MI mem m1 := hJ.atQ zm1
  refine l_aloadn zC (pc := 808) dL_law_808 rfl rfl ?_
  refine l_aloadn zC (pc := 809) dL_law_809 rfl rfl ?_
  refine l_iloadn zC (pc := 810) dL_law_810 rfl rfl ?_
  refine l_iconst zC (pc := 811) dL_law_811 (by decide) ?_
  refine l_iaddn zC (pc := 812) dL_law_812 (by omega) ?_
  refine l_sld zC (pc := 813) dL_law_813 (by omega) ?_
  refine l_aloadn zC (pc := 814) dL_law_814 rfl rfl ?_
  refine l_iloadn zC (pc := 815) dL_law_815 rfl rfl ?_
  refine l_iconst zC (pc := 816) dL_law_816 (by decide) ?_
  refine l_iaddn zC (pc := 817) dL_law_817 (by omega) ?_
  refine l_sld zC (pc := 818) dL_law_818 (by omega) ?_
  refine l_callV (zc := 49) zC (pc := 819) (m_odds X.G mem m1 (lwS X (i + 1)) (lwS X (i + 2)) hJ.1 zM) dL_law_819 lL_112 rfl rfl rfl rfl rfl (fun r2 m2 zp2 => ?_)
  obtain ⟨zr2, zm2, zf2⟩ := zp2
  rw [zr2]
  show EL X 822 [(2, 82), (2, 0), (2, 49), (0, i)] [(1, an_odds mem (lwS X (i + 1)) (lwS X (i + 2))), (1, an_odds mem (lwS X (i + 1)) (lwS X (i + 2)))] m2
  have zJ : Jn m2 := jn_query hJ zm1 zf2 zm2
  refine l_lcmp zC (pc := 822) dL_law_822 ?_
  exact l_if_eq zC (pc := 823) (tgt := 1170) dL_law_823 rfl (fun _ => kk m2 zJ) (fun zn => absurd (lCmp_self _) zn)
theorem lw_cs_mean {X : LX} (zC : X.ok) {i : Int} {mem : Mem} (hi : 0 ≤ i ∧ i + 6 ≤ (X.L : Int)) (hJ : Jn mem) (kk : ∀ m2, Jn m2 → EL X 1170 [(2, 82), (2, 0), (2, 49), (0, i)] [] m2) : EL X 828 [(2, 82), (2, 0), (2, 49), (0, i)] [] mem := by
  have hz : X.L ≤ 3072 := zC.2.2.2.2
  refine l_aloadn zC (pc := 828) dL_law_828 rfl rfl ?_
  refine l_aloadn zC (pc := 829) dL_law_829 rfl rfl ?_
  refine l_iloadn zC (pc := 830) dL_law_830 rfl rfl ?_
  refine l_iconst zC (pc := 831) dL_law_831 (by decide) ?_
  refine l_iaddn zC (pc := 832) dL_law_832 (by omega) ?_
  refine l_sld zC (pc := 833) dL_law_833 (by omega) ?_
  refine l_aloadn zC (pc := 834) dL_law_834 rfl rfl ?_
  refine l_iloadn zC (pc := 835) dL_law_835 rfl rfl ?_
  refine l_iconst zC (pc := 836) dL_law_836 (by decide) ?_
  refine l_iaddn zC (pc := 837) dL_law_837 (by omega) ?_
  refine l_sld zC (pc := 838) dL_law_838 (by omega) ?_
  refine l_callV (zc := 0) zC (pc := 839) (c_mean X.G mem (lwS X (i + 1)) (lwS X (i + 2)) hJ.1) dL_law_839 lL_113 rfl rfl rfl rfl rfl (fun r m1 zp => ?_)
  obtain ⟨zr, zm1⟩ := zp
  rw [zr]
  show EL X 842 [(2, 82), (2, 0), (2, 49), (0, i)] [(1, an_mean mem (lwS X (i + 1)) (lwS X (i + 2)))] m1
  have zM : MI mem m1 := hJ.atQ zm1
  refine l_aloadn zC (pc := 842) dL_law_842 rfl rfl ?_
  refine l_aloadn zC (pc := 843) dL_law_843 rfl rfl ?_
  refine l_iloadn zC (pc := 844) dL_law_844 rfl rfl ?_
  refine l_iconst zC (pc := 845) dL_law_845 (by decide) ?_
  refine l_iaddn zC (pc := 846) dL_law_846 (by omega) ?_
  refine l_sld zC (pc := 847) dL_law_847 (by omega) ?_
  refine l_aloadn zC (pc := 848) dL_law_848 rfl rfl ?_
  refine l_iloadn zC (pc := 849) dL_law_849 rfl rfl ?_
  refine l_iconst zC (pc := 850) dL_law_850 (by decide) ?_
  refine l_iaddn zC (pc := 851) dL_law_851 (by omega) ?_
  refine l_sld zC (pc := 852) dL_law_852 (by omega) ?_
  refine l_callV (zc := 49) zC (pc := 853) (m_mean X.G mem m1 (lwS X (i + 1)) (lwS X (i + 2)) hJ.1 zM) dL_law_853 lL_116 rfl rfl rfl rfl rfl (fun r2 m2 zp2 => ?_)
  obtain ⟨zr2, zm2, zf2⟩ := zp2
  rw [zr2]
  show EL X 856 [(2, 82), (2, 0), (2, 49), (0, i)] [(1, an_mean mem (lwS X (i + 1)) (lwS X (i + 2))), (1, an_mean mem (lwS X (i + 1)) (lwS X (i + 2)))] m2
  have zJ : Jn m2 := jn_query hJ zm1 zf2 zm2
  refine l_lcmp zC (pc := 856) dL_law_856 ?_
  exact l_if_eq zC (pc := 857) (tgt := 1170) dL_law_857 rfl (fun _ => kk m2 zJ) (fun zn => absurd (lCmp_self _) zn)
theorem lw_cs_sure {X : LX} (zC : X.ok) {i : Int} {mem : Mem} (hi : 0 ≤ i ∧ i + 6 ≤ (X.L : Int)) (hJ : Jn mem) (kk : ∀ m2, Jn m2 → EL X 1170 [(2, 82), (2, 0), (2, 49), (0, i)] [] m2) : EL X 862 [(2, 82), (2, 0), (2, 49), (0, i)] [] mem := by
  have hz : X.L ≤ 3072 := zC.2.2.2.2
  refine l_aloadn zC (pc := 862) dL_law_862 rfl rfl ?_
  refine l_aloadn zC (pc := 863) dL_law_863 rfl rfl ?_
  refine l_iloadn zC (pc := 864) dL_law_864 rfl rfl ?_
  refine l_iconst zC (pc := 865) dL_law_865 (by decide) ?_
  refine l_iaddn zC (pc := 866) dL_law_866 (by omega) ?_
  refine l_sld zC (pc := 867) dL_law_867 (by omega) ?_
  refine l_callV (zc := 0) zC (pc := 868) (c_sure X.G mem (lwS X (i + 1)) hJ.1) dL_law_868 lL_117 rfl rfl rfl rfl rfl (fun r m1 zp => ?_)
  obtain ⟨zr, zm1⟩ := zp
  rw [zr]
  show EL X 871 [(2, 82), (2, 0), (2, 49), (0, i)] [(0, an_sure mem (lwS X (i + 1)))] m1
  have zM : MI mem m1 := hJ.atQ zm1
  refine l_aloadn zC (pc := 871) dL_law_871 rfl rfl ?_
  refine l_aloadn zC (pc := 872) dL_law_872 rfl rfl ?_
  refine l_iloadn zC (pc := 873) dL_law_873 rfl rfl ?_
  refine l_iconst zC (pc := 874) dL_law_874 (by decide) ?_
  refine l_iaddn zC (pc := 875) dL_law_875 (by omega) ?_
  refine l_sld zC (pc := 876) dL_law_876 (by omega) ?_
  refine l_callV (zc := 49) zC (pc := 877) (m_sure X.G mem m1 (lwS X (i + 1)) hJ.1 zM) dL_law_877 lL_120 rfl rfl rfl rfl rfl (fun r2 m2 zp2 => ?_)
  obtain ⟨zr2, zm2, zf2⟩ := zp2
  rw [zr2]
  show EL X 880 [(2, 82), (2, 0), (2, 49), (0, i)] [(0, an_sure mem (lwS X (i + 1))), (0, an_sure mem (lwS X (i + 1)))] m2
  have zJ : Jn m2 := jn_query hJ zm1 zf2 zm2
  exact l_icmp_eq zC (pc := 880) (tgt := 1170) dL_law_880 rfl (fun _ => kk m2 zJ) (fun zn => absurd rfl zn)
theorem lw_cs_sheet {X : LX} (zC : X.ok) {i : Int} {mem : Mem} (hi : 0 ≤ i ∧ i + 6 ≤ (X.L : Int)) (hJ : Jn mem) (kk : ∀ m2, Jn m2 → EL X 1170 [(2, 82), (2, 0), (2, 49), (0, i)] [] m2) : EL X 885 [(2, 82), (2, 0), (2, 49), (0, i)] [] mem := by
  have hz : X.L ≤ 3072 := zC.2.2.2.2
  refine l_aloadn zC (pc := 885) dL_law_885 rfl rfl ?_
  refine l_aloadn zC (pc := 886) dL_law_886 rfl rfl ?_
  refine l_iloadn zC (pc := 887) dL_law_887 rfl rfl ?_
  refine l_iconst zC (pc := 888) dL_law_888 (by decide) ?_
  refine l_iaddn zC (pc := 889) dL_law_889 (by omega) ?_
  refine l_sld zC (pc := 890) dL_law_890 (by omega) ?_
  refine l_aloadn zC (pc := 891) dL_law_891 rfl rfl ?_
  refine l_iloadn zC (pc := 892) dL_law_892 rfl rfl ?_
  refine l_iconst zC (pc := 893) dL_law_893 (by decide) ?_
  refine l_iaddn zC (pc := 894) dL_law_894 (by omega) ?_
  refine l_sld zC (pc := 895) dL_law_895 (by omega) ?_
  refine l_aloadn zC (pc := 896) dL_law_896 rfl rfl ?_
  refine l_iloadn zC (pc := 897) dL_law_897 rfl rfl ?_
  refine l_iconst zC (pc := 898) dL_law_898 (by decide) ?_
  refine l_iaddn zC (pc := 899) dL_law_899 (by omega) ?_
  refine l_sld zC (pc := 900) dL_law_900 (by omega) ?_
  refine l_callV (zc := 0) zC (pc := 901) (c_sheet X.G mem (lwS X (i + 1)) (lwS X (i + 2)) (lwS X (i + 3)) ) dL_law_901 lL_121 rfl rfl rfl rfl rfl (fun r m1 zp => ?_)
  obtain ⟨zr, zm1⟩ := zp
  rw [zr]
  show EL X 904 [(2, 82), (2, 0), (2, 49), (0, i)] [(0, an_sheet mem (lwS X (i + 1)) (lwS X (i + 2)) (lwS X (i + 3)))] m1
  have zM : MI mem m1 := hJ.at (fun c hc => by rw [zm1]; exact hi_sheet mem (lwS X (i + 1)) (lwS X (i + 2)) (lwS X (i + 3)) hc)
  refine l_aloadn zC (pc := 904) dL_law_904 rfl rfl ?_
  refine l_aloadn zC (pc := 905) dL_law_905 rfl rfl ?_
  refine l_iloadn zC (pc := 906) dL_law_906 rfl rfl ?_
  refine l_iconst zC (pc := 907) dL_law_907 (by decide) ?_
  refine l_iaddn zC (pc := 908) dL_law_908 (by omega) ?_
  refine l_sld zC (pc := 909) dL_law_909 (by omega) ?_
  refine l_aloadn zC (pc := 910) dL_law_910 rfl rfl ?_
  refine l_iloadn zC (pc := 911) dL_law_911 rfl rfl ?_
  refine l_iconst zC (pc := 912) dL_law_912 (by decide) ?_
  refine l_iaddn zC (pc := 913) dL_law_913 (by omega) ?_
  refine l_sld zC (pc := 914) dL_law_914 (by omega) ?_
  refine l_aloadn zC (pc := 915) dL_law_915 rfl rfl ?_
  refine l_iloadn zC (pc := 916) dL_law_916 rfl rfl ?_
  refine l_iconst zC (pc := 917) dL_law_917 (by decide) ?_
  refine l_iaddn zC (pc := 918) dL_law_918 (by omega) ?_
  refine l_sld zC (pc := 919) dL_law_919 (by omega) ?_
  refine l_callV (zc := 49) zC (pc := 920) (m_sheet X.G mem m1 (lwS X (i + 1)) (lwS X (i + 2)) (lwS X (i + 3)) zM) dL_law_920 lL_124 rfl rfl rfl rfl rfl (fun r2 m2 zp2 => ?_)
  obtain ⟨zr2, zm2, zf2⟩ := zp2
  rw [zr2]
  show EL X 923 [(2, 82), (2, 0), (2, 49), (0, i)] [(0, an_sheet mem (lwS X (i + 1)) (lwS X (i + 2)) (lwS X (i + 3))), (0, an_sheet mem (lwS X (i + 1)) (lwS X (i + 2)) (lwS X (i + 3)))] m2
  have zJ : Jn m2 := jn_gen (ci_sheet hJ.1 (lwS X (i + 1)) (lwS X (i + 2)) (lwS X (i + 3))) (by rw [zm1]; exact Fr.rf) zf2 zm2
  exact l_icmp_eq zC (pc := 923) (tgt := 1170) dL_law_923 rfl (fun _ => kk m2 zJ) (fun zn => absurd rfl zn)
theorem lw_cs_lose {X : LX} (zC : X.ok) {i : Int} {mem : Mem} (hi : 0 ≤ i ∧ i + 6 ≤ (X.L : Int)) (hJ : Jn mem) (kk : ∀ m2, Jn m2 → EL X 1170 [(2, 82), (2, 0), (2, 49), (0, i)] [] m2) : EL X 928 [(2, 82), (2, 0), (2, 49), (0, i)] [] mem := by
  have hz : X.L ≤ 3072 := zC.2.2.2.2
  refine l_aloadn zC (pc := 928) dL_law_928 rfl rfl ?_
  refine l_aloadn zC (pc := 929) dL_law_929 rfl rfl ?_
  refine l_iloadn zC (pc := 930) dL_law_930 rfl rfl ?_
  refine l_iconst zC (pc := 931) dL_law_931 (by decide) ?_
  refine l_iaddn zC (pc := 932) dL_law_932 (by omega) ?_
  refine l_sld zC (pc := 933) dL_law_933 (by omega) ?_
  refine l_callV (zc := 0) zC (pc := 934) (c_lose X.G mem (lwS X (i + 1)) ) dL_law_934 lL_125 rfl rfl rfl rfl rfl (fun r m1 zp => ?_)
  obtain ⟨zr, zm1⟩ := zp
  rw [zr]
  show EL X 937 [(2, 82), (2, 0), (2, 49), (0, i)] [(0, an_lose mem (lwS X (i + 1)))] m1
  have zM : MI mem m1 := hJ.at (fun c hc => by rw [zm1]; exact hi_lose mem (lwS X (i + 1)) hc)
  refine l_aloadn zC (pc := 937) dL_law_937 rfl rfl ?_
  refine l_aloadn zC (pc := 938) dL_law_938 rfl rfl ?_
  refine l_iloadn zC (pc := 939) dL_law_939 rfl rfl ?_
  refine l_iconst zC (pc := 940) dL_law_940 (by decide) ?_
  refine l_iaddn zC (pc := 941) dL_law_941 (by omega) ?_
  refine l_sld zC (pc := 942) dL_law_942 (by omega) ?_
  refine l_callV (zc := 49) zC (pc := 943) (m_lose X.G mem m1 (lwS X (i + 1)) zM) dL_law_943 lL_128 rfl rfl rfl rfl rfl (fun r2 m2 zp2 => ?_)
  obtain ⟨zr2, zm2, zf2⟩ := zp2
  rw [zr2]
  show EL X 946 [(2, 82), (2, 0), (2, 49), (0, i)] [(0, an_lose mem (lwS X (i + 1))), (0, an_lose mem (lwS X (i + 1)))] m2
  have zJ : Jn m2 := jn_gen (ci_lose hJ.1 (lwS X (i + 1))) (by rw [zm1]; exact Fr.rf) zf2 zm2
  exact l_icmp_eq zC (pc := 946) (tgt := 1170) dL_law_946 rfl (fun _ => kk m2 zJ) (fun zn => absurd rfl zn)
theorem lw_cs_put {X : LX} (zC : X.ok) {i : Int} {mem : Mem} (hi : 0 ≤ i ∧ i + 6 ≤ (X.L : Int)) (hJ : Jn mem) (kk : ∀ m2, Jn m2 → EL X 1170 [(2, 82), (2, 0), (2, 49), (0, i)] [] m2) : EL X 951 [(2, 82), (2, 0), (2, 49), (0, i)] [] mem := by
  have hz : X.L ≤ 3072 := zC.2.2.2.2
  refine l_aloadn zC (pc := 951) dL_law_951 rfl rfl ?_
  refine l_aloadn zC (pc := 952) dL_law_952 rfl rfl ?_
  refine l_iloadn zC (pc := 953) dL_law_953 rfl rfl ?_
  refine l_iconst zC (pc := 954) dL_law_954 (by decide) ?_
  refine l_iaddn zC (pc := 955) dL_law_955 (by omega) ?_
  refine l_sld zC (pc := 956) dL_law_956 (by omega) ?_
  refine l_aloadn zC (pc := 957) dL_law_957 rfl rfl ?_
  refine l_iloadn zC (pc := 958) dL_law_958 rfl rfl ?_
  refine l_iconst zC (pc := 959) dL_law_959 (by decide) ?_
  refine l_iaddn zC (pc := 960) dL_law_960 (by omega) ?_
  refine l_sld zC (pc := 961) dL_law_961 (by omega) ?_
  refine l_aloadn zC (pc := 962) dL_law_962 rfl rfl ?_
  refine l_iloadn zC (pc := 963) dL_law_963 rfl rfl ?_
  refine l_iconst zC (pc := 964) dL_law_964 (by decide) ?_
  refine l_iaddn zC (pc := 965) dL_law_965 (by omega) ?_
  refine l_sld zC (pc := 966) dL_law_966 (by omega) ?_
  refine l_aloadn zC (pc := 967) dL_law_967 rfl rfl ?_
  refine l_iloadn zC (pc := 968) dL_law_968 rfl rfl ?_
  refine l_iconst zC (pc := 969) dL_law_969 (by decide) ?_
  refine l_iaddn zC (pc := 970) dL_law_970 (by omega) ?_
  refine l_sld zC (pc := 971) dL_law_971 (by omega) ?_
  refine l_callV (zc := 0) zC (pc := 972) (c_put X.G mem (lwS X (i + 1)) (lwS X (i + 2)) (lwS X (i + 3)) (lwS X (i + 4)) hJ.1.2.2.2.2.2) dL_law_972 lL_129 rfl rfl rfl rfl rfl (fun r m1 zp => ?_)
  obtain ⟨zr, zm1⟩ := zp
  rw [zr]
  show EL X 975 [(2, 82), (2, 0), (2, 49), (0, i)] [(0, an_put mem (lwS X (i + 1)) (lwS X (i + 2)) (lwS X (i + 3)) (lwS X (i + 4)))] m1
  have zM : MI mem m1 := hJ.at (fun c hc => by rw [zm1]; exact hi_put mem (lwS X (i + 1)) (lwS X (i + 2)) (lwS X (i + 3)) (lwS X (i + 4)) hc)
  refine l_aloadn zC (pc := 975) dL_law_975 rfl rfl ?_
  refine l_aloadn zC (pc := 976) dL_law_976 rfl rfl ?_
  refine l_iloadn zC (pc := 977) dL_law_977 rfl rfl ?_
  refine l_iconst zC (pc := 978) dL_law_978 (by decide) ?_
  refine l_iaddn zC (pc := 979) dL_law_979 (by omega) ?_
  refine l_sld zC (pc := 980) dL_law_980 (by omega) ?_
  refine l_aloadn zC (pc := 981) dL_law_981 rfl rfl ?_
  refine l_iloadn zC (pc := 982) dL_law_982 rfl rfl ?_
  refine l_iconst zC (pc := 983) dL_law_983 (by decide) ?_
  refine l_iaddn zC (pc := 984) dL_law_984 (by omega) ?_
  refine l_sld zC (pc := 985) dL_law_985 (by omega) ?_
  refine l_aloadn zC (pc := 986) dL_law_986 rfl rfl ?_
  refine l_iloadn zC (pc := 987) dL_law_987 rfl rfl ?_
  refine l_iconst zC (pc := 988) dL_law_988 (by decide) ?_
  refine l_iaddn zC (pc := 989) dL_law_989 (by omega) ?_
  refine l_sld zC (pc := 990) dL_law_990 (by omega) ?_
  refine l_aloadn zC (pc := 991) dL_law_991 rfl rfl ?_
  refine l_iloadn zC (pc := 992) dL_law_992 rfl rfl ?_
  refine l_iconst zC (pc := 993) dL_law_993 (by decide) ?_
  refine l_iaddn zC (pc := 994) dL_law_994 (by omega) ?_
  refine l_sld zC (pc := 995) dL_law_995 (by omega) ?_
  refine l_callV (zc := 49) zC (pc := 996) (m_put X.G mem m1 (lwS X (i + 1)) (lwS X (i + 2)) (lwS X (i + 3)) (lwS X (i + 4)) zM hJ.1.2.2.2.2.2) dL_law_996 lL_133 rfl rfl rfl rfl rfl (fun r2 m2 zp2 => ?_)
  obtain ⟨zr2, zm2, zf2⟩ := zp2
  rw [zr2]
  show EL X 999 [(2, 82), (2, 0), (2, 49), (0, i)] [(0, an_put mem (lwS X (i + 1)) (lwS X (i + 2)) (lwS X (i + 3)) (lwS X (i + 4))), (0, an_put mem (lwS X (i + 1)) (lwS X (i + 2)) (lwS X (i + 3)) (lwS X (i + 4)))] m2
  have zJ : Jn m2 := jn_gen (ci_put hJ.1 (lwS X (i + 1)) (lwS X (i + 2)) (lwS X (i + 3)) (lwS X (i + 4))) (by rw [zm1]; exact Fr.rf) zf2 zm2
  exact l_icmp_eq zC (pc := 999) (tgt := 1170) dL_law_999 rfl (fun _ => kk m2 zJ) (fun zn => absurd rfl zn)
theorem lw_cs_get {X : LX} (zC : X.ok) {i : Int} {mem : Mem} (hi : 0 ≤ i ∧ i + 6 ≤ (X.L : Int)) (hJ : Jn mem) (kk : ∀ m2, Jn m2 → EL X 1170 [(2, 82), (2, 0), (2, 49), (0, i)] [] m2) : EL X 1004 [(2, 82), (2, 0), (2, 49), (0, i)] [] mem := by
  have hz : X.L ≤ 3072 := zC.2.2.2.2
  refine l_aloadn zC (pc := 1004) dL_law_1004 rfl rfl ?_
  refine l_aloadn zC (pc := 1005) dL_law_1005 rfl rfl ?_
  refine l_iloadn zC (pc := 1006) dL_law_1006 rfl rfl ?_
  refine l_iconst zC (pc := 1007) dL_law_1007 (by decide) ?_
  refine l_iaddn zC (pc := 1008) dL_law_1008 (by omega) ?_
  refine l_sld zC (pc := 1009) dL_law_1009 (by omega) ?_
  refine l_aloadn zC (pc := 1010) dL_law_1010 rfl rfl ?_
  refine l_iloadn zC (pc := 1011) dL_law_1011 rfl rfl ?_
  refine l_iconst zC (pc := 1012) dL_law_1012 (by decide) ?_
  refine l_iaddn zC (pc := 1013) dL_law_1013 (by omega) ?_
  refine l_sld zC (pc := 1014) dL_law_1014 (by omega) ?_
  refine l_aloadn zC (pc := 1015) dL_law_1015 rfl rfl ?_
  refine l_iloadn zC (pc := 1016) dL_law_1016 rfl rfl ?_
  refine l_iconst zC (pc := 1017) dL_law_1017 (by decide) ?_
  refine l_iaddn zC (pc := 1018) dL_law_1018 (by omega) ?_
  refine l_sld zC (pc := 1019) dL_law_1019 (by omega) ?_
  refine l_callV (zc := 0) zC (pc := 1020) (c_get X.G mem (lwS X (i + 1)) (lwS X (i + 2)) (lwS X (i + 3)) hJ.1.2.2.2.2.2) dL_law_1020 lL_134 rfl rfl rfl rfl rfl (fun r m1 zp => ?_)
  obtain ⟨zr, zm1⟩ := zp
  rw [zr]
  show EL X 1023 [(2, 82), (2, 0), (2, 49), (0, i)] [(0, an_get mem (lwS X (i + 1)) (lwS X (i + 2)) (lwS X (i + 3)))] m1
  have zM : MI mem m1 := hJ.at (fun c hc => by rw [zm1]; exact hi_get mem (lwS X (i + 1)) (lwS X (i + 2)) (lwS X (i + 3)) hc)
  refine l_aloadn zC (pc := 1023) dL_law_1023 rfl rfl ?_
  refine l_aloadn zC (pc := 1024) dL_law_1024 rfl rfl ?_
  refine l_iloadn zC (pc := 1025) dL_law_1025 rfl rfl ?_
  refine l_iconst zC (pc := 1026) dL_law_1026 (by decide) ?_
  refine l_iaddn zC (pc := 1027) dL_law_1027 (by omega) ?_
  refine l_sld zC (pc := 1028) dL_law_1028 (by omega) ?_
  refine l_aloadn zC (pc := 1029) dL_law_1029 rfl rfl ?_
  refine l_iloadn zC (pc := 1030) dL_law_1030 rfl rfl ?_
  refine l_iconst zC (pc := 1031) dL_law_1031 (by decide) ?_
  refine l_iaddn zC (pc := 1032) dL_law_1032 (by omega) ?_
  refine l_sld zC (pc := 1033) dL_law_1033 (by omega) ?_
  refine l_aloadn zC (pc := 1034) dL_law_1034 rfl rfl ?_
  refine l_iloadn zC (pc := 1035) dL_law_1035 rfl rfl ?_
  refine l_iconst zC (pc := 1036) dL_law_1036 (by decide) ?_
  refine l_iaddn zC (pc := 1037) dL_law_1037 (by omega) ?_
  refine l_sld zC (pc := 1038) dL_law_1038 (by omega) ?_
  refine l_callV (zc := 49) zC (pc := 1039) (m_get X.G mem m1 (lwS X (i + 1)) (lwS X (i + 2)) (lwS X (i + 3)) zM hJ.1.2.2.2.2.2) dL_law_1039 lL_137 rfl rfl rfl rfl rfl (fun r2 m2 zp2 => ?_)
  obtain ⟨zr2, zm2, zf2⟩ := zp2
  rw [zr2]
  show EL X 1042 [(2, 82), (2, 0), (2, 49), (0, i)] [(0, an_get mem (lwS X (i + 1)) (lwS X (i + 2)) (lwS X (i + 3))), (0, an_get mem (lwS X (i + 1)) (lwS X (i + 2)) (lwS X (i + 3)))] m2
  have zJ : Jn m2 := jn_gen (ci_get hJ.1 (lwS X (i + 1)) (lwS X (i + 2)) (lwS X (i + 3))) (by rw [zm1]; exact Fr.rf) zf2 zm2
  exact l_icmp_eq zC (pc := 1042) (tgt := 1170) dL_law_1042 rfl (fun _ => kk m2 zJ) (fun zn => absurd rfl zn)
theorem lw_cs_copy {X : LX} (zC : X.ok) {i : Int} {mem : Mem} (hi : 0 ≤ i ∧ i + 6 ≤ (X.L : Int)) (hJ : Jn mem) (kk : ∀ m2, Jn m2 → EL X 1170 [(2, 82), (2, 0), (2, 49), (0, i)] [] m2) : EL X 1047 [(2, 82), (2, 0), (2, 49), (0, i)] [] mem := by
  have hz : X.L ≤ 3072 := zC.2.2.2.2
  refine l_aloadn zC (pc := 1047) dL_law_1047 rfl rfl ?_
  refine l_aloadn zC (pc := 1048) dL_law_1048 rfl rfl ?_
  refine l_iloadn zC (pc := 1049) dL_law_1049 rfl rfl ?_
  refine l_iconst zC (pc := 1050) dL_law_1050 (by decide) ?_
  refine l_iaddn zC (pc := 1051) dL_law_1051 (by omega) ?_
  refine l_sld zC (pc := 1052) dL_law_1052 (by omega) ?_
  refine l_aloadn zC (pc := 1053) dL_law_1053 rfl rfl ?_
  refine l_iloadn zC (pc := 1054) dL_law_1054 rfl rfl ?_
  refine l_iconst zC (pc := 1055) dL_law_1055 (by decide) ?_
  refine l_iaddn zC (pc := 1056) dL_law_1056 (by omega) ?_
  refine l_sld zC (pc := 1057) dL_law_1057 (by omega) ?_
  refine l_aloadn zC (pc := 1058) dL_law_1058 rfl rfl ?_
  refine l_iloadn zC (pc := 1059) dL_law_1059 rfl rfl ?_
  refine l_iconst zC (pc := 1060) dL_law_1060 (by decide) ?_
  refine l_iaddn zC (pc := 1061) dL_law_1061 (by omega) ?_
  refine l_sld zC (pc := 1062) dL_law_1062 (by omega) ?_
  refine l_aloadn zC (pc := 1063) dL_law_1063 rfl rfl ?_
  refine l_iloadn zC (pc := 1064) dL_law_1064 rfl rfl ?_
  refine l_iconst zC (pc := 1065) dL_law_1065 (by decide) ?_
  refine l_iaddn zC (pc := 1066) dL_law_1066 (by omega) ?_
  refine l_sld zC (pc := 1067) dL_law_1067 (by omega) ?_
  refine l_aloadn zC (pc := 1068) dL_law_1068 rfl rfl ?_
  refine l_iloadn zC (pc := 1069) dL_law_1069 rfl rfl ?_
  refine l_iconst zC (pc := 1070) dL_law_1070 (by decide) ?_
  refine l_iaddn zC (pc := 1071) dL_law_1071 (by omega) ?_
  refine l_sld zC (pc := 1072) dL_law_1072 (by omega) ?_
  refine l_callV (zc := 0) zC (pc := 1073) (c_copy X.G mem (lwS X (i + 1)) (lwS X (i + 2)) (lwS X (i + 3)) (lwS X (i + 4)) (lwS X (i + 5)) hJ.1.2.2.2.2.2) dL_law_1073 lL_138 rfl rfl rfl rfl rfl (fun r m1 zp => ?_)
  obtain ⟨zr, zm1⟩ := zp
  rw [zr]
  show EL X 1076 [(2, 82), (2, 0), (2, 49), (0, i)] [(0, an_copy mem (lwS X (i + 1)) (lwS X (i + 2)) (lwS X (i + 3)) (lwS X (i + 4)) (lwS X (i + 5)))] m1
  have zM : MI mem m1 := hJ.at (fun c hc => by rw [zm1]; exact hi_copy mem (lwS X (i + 1)) (lwS X (i + 2)) (lwS X (i + 3)) (lwS X (i + 4)) (lwS X (i + 5)) hc)
  refine l_aloadn zC (pc := 1076) dL_law_1076 rfl rfl ?_
  refine l_aloadn zC (pc := 1077) dL_law_1077 rfl rfl ?_
  refine l_iloadn zC (pc := 1078) dL_law_1078 rfl rfl ?_
  refine l_iconst zC (pc := 1079) dL_law_1079 (by decide) ?_
  refine l_iaddn zC (pc := 1080) dL_law_1080 (by omega) ?_
  refine l_sld zC (pc := 1081) dL_law_1081 (by omega) ?_
  refine l_aloadn zC (pc := 1082) dL_law_1082 rfl rfl ?_
  refine l_iloadn zC (pc := 1083) dL_law_1083 rfl rfl ?_
  refine l_iconst zC (pc := 1084) dL_law_1084 (by decide) ?_
  refine l_iaddn zC (pc := 1085) dL_law_1085 (by omega) ?_
  refine l_sld zC (pc := 1086) dL_law_1086 (by omega) ?_
  refine l_aloadn zC (pc := 1087) dL_law_1087 rfl rfl ?_
  refine l_iloadn zC (pc := 1088) dL_law_1088 rfl rfl ?_
  refine l_iconst zC (pc := 1089) dL_law_1089 (by decide) ?_
  refine l_iaddn zC (pc := 1090) dL_law_1090 (by omega) ?_
  refine l_sld zC (pc := 1091) dL_law_1091 (by omega) ?_
  refine l_aloadn zC (pc := 1092) dL_law_1092 rfl rfl ?_
  refine l_iloadn zC (pc := 1093) dL_law_1093 rfl rfl ?_
  refine l_iconst zC (pc := 1094) dL_law_1094 (by decide) ?_
  refine l_iaddn zC (pc := 1095) dL_law_1095 (by omega) ?_
  refine l_sld zC (pc := 1096) dL_law_1096 (by omega) ?_
  refine l_aloadn zC (pc := 1097) dL_law_1097 rfl rfl ?_
  refine l_iloadn zC (pc := 1098) dL_law_1098 rfl rfl ?_
  refine l_iconst zC (pc := 1099) dL_law_1099 (by decide) ?_
  refine l_iaddn zC (pc := 1100) dL_law_1100 (by omega) ?_
  refine l_sld zC (pc := 1101) dL_law_1101 (by omega) ?_
  refine l_callV (zc := 49) zC (pc := 1102) (m_copy X.G mem m1 (lwS X (i + 1)) (lwS X (i + 2)) (lwS X (i + 3)) (lwS X (i + 4)) (lwS X (i + 5)) zM hJ.1.2.2.2.2.2 (lwS_ok X _) (lwS_ok X _) (lwS_ok X _)) dL_law_1102 lL_142 rfl rfl rfl rfl rfl (fun r2 m2 zp2 => ?_)
  obtain ⟨zr2, zm2, zf2⟩ := zp2
  rw [zr2]
  show EL X 1105 [(2, 82), (2, 0), (2, 49), (0, i)] [(0, an_copy mem (lwS X (i + 1)) (lwS X (i + 2)) (lwS X (i + 3)) (lwS X (i + 4)) (lwS X (i + 5))), (0, an_copy mem (lwS X (i + 1)) (lwS X (i + 2)) (lwS X (i + 3)) (lwS X (i + 4)) (lwS X (i + 5)))] m2
  have zJ : Jn m2 := jn_gen (ci_copy hJ.1 (lwS X (i + 1)) (lwS X (i + 2)) (lwS X (i + 3)) (lwS X (i + 4)) (lwS X (i + 5))) (by rw [zm1]; exact Fr.rf) zf2 zm2
  exact l_icmp_eq zC (pc := 1105) (tgt := 1170) dL_law_1105 rfl (fun _ => kk m2 zJ) (fun zn => absurd rfl zn)
theorem lw_cs_write {X : LX} (zC : X.ok) {i : Int} {mem : Mem} (hi : 0 ≤ i ∧ i + 6 ≤ (X.L : Int)) (hJ : Jn mem) (kk : ∀ m2, Jn m2 → EL X 1170 [(2, 82), (2, 0), (2, 49), (0, i)] [] m2) : EL X 1110 [(2, 82), (2, 0), (2, 49), (0, i)] [] mem := by
  have hz : X.L ≤ 3072 := zC.2.2.2.2
  refine l_aloadn zC (pc := 1110) dL_law_1110 rfl rfl ?_
  refine l_aloadn zC (pc := 1111) dL_law_1111 rfl rfl ?_
  refine l_iloadn zC (pc := 1112) dL_law_1112 rfl rfl ?_
  refine l_iconst zC (pc := 1113) dL_law_1113 (by decide) ?_
  refine l_iaddn zC (pc := 1114) dL_law_1114 (by omega) ?_
  refine l_sld zC (pc := 1115) dL_law_1115 (by omega) ?_
  refine l_callV (zc := 0) zC (pc := 1116) (c_write X.G mem (lwS X (i + 1)) hJ.1) dL_law_1116 lL_143 rfl rfl rfl rfl rfl (fun r m1 zp => ?_)
  obtain ⟨zr, zm1⟩ := zp
  rw [zr]
  show EL X 1119 [(2, 82), (2, 0), (2, 49), (0, i)] [(0, an_write mem (lwS X (i + 1)))] m1
  have zM : MI mem m1 := hJ.at (fun c hc => (scQ_hi zm1 hc).trans (hi_write mem (lwS X (i + 1)) hc))
  refine l_aloadn zC (pc := 1119) dL_law_1119 rfl rfl ?_
  refine l_aloadn zC (pc := 1120) dL_law_1120 rfl rfl ?_
  refine l_iloadn zC (pc := 1121) dL_law_1121 rfl rfl ?_
  refine l_iconst zC (pc := 1122) dL_law_1122 (by decide) ?_
  refine l_iaddn zC (pc := 1123) dL_law_1123 (by omega) ?_
  refine l_sld zC (pc := 1124) dL_law_1124 (by omega) ?_
  refine l_callV (zc := 49) zC (pc := 1125) (m_write X.G mem m1 (lwS X (i + 1)) hJ.1 zM) dL_law_1125 lL_146 rfl rfl rfl rfl rfl (fun r2 m2 zp2 => ?_)
  obtain ⟨zr2, zm2, zf2⟩ := zp2
  rw [zr2]
  show EL X 1128 [(2, 82), (2, 0), (2, 49), (0, i)] [(0, an_write mem (lwS X (i + 1))), (0, an_write mem (lwS X (i + 1)))] m2
  have zJ : Jn m2 := jn_gen (ci_write hJ.1 (lwS X (i + 1))) zm1 zf2 zm2
  exact l_icmp_eq zC (pc := 1128) (tgt := 1170) dL_law_1128 rfl (fun _ => kk m2 zJ) (fun zn => absurd rfl zn)
theorem lw_cs_count {X : LX} (zC : X.ok) {i : Int} {mem : Mem} (hi : 0 ≤ i ∧ i + 6 ≤ (X.L : Int)) (hJ : Jn mem) (kk : ∀ m2, Jn m2 → EL X 1170 [(2, 82), (2, 0), (2, 49), (0, i)] [] m2) : EL X 1133 [(2, 82), (2, 0), (2, 49), (0, i)] [] mem := by
  have hz : X.L ≤ 3072 := zC.2.2.2.2
  refine l_aloadn zC (pc := 1133) dL_law_1133 rfl rfl ?_
  refine l_aloadn zC (pc := 1134) dL_law_1134 rfl rfl ?_
  refine l_iloadn zC (pc := 1135) dL_law_1135 rfl rfl ?_
  refine l_iconst zC (pc := 1136) dL_law_1136 (by decide) ?_
  refine l_iaddn zC (pc := 1137) dL_law_1137 (by omega) ?_
  refine l_sld zC (pc := 1138) dL_law_1138 (by omega) ?_
  refine l_callV (zc := 0) zC (pc := 1139) (c_count X.G mem (lwS X (i + 1)) hJ.1) dL_law_1139 lL_147 rfl rfl rfl rfl rfl (fun r m1 zp => ?_)
  obtain ⟨zr, zm1⟩ := zp
  rw [zr]
  show EL X 1142 [(2, 82), (2, 0), (2, 49), (0, i)] [(0, an_count mem (lwS X (i + 1)))] m1
  have zM : MI mem m1 := by rw [zm1]; exact hJ.2
  refine l_aloadn zC (pc := 1142) dL_law_1142 rfl rfl ?_
  refine l_aloadn zC (pc := 1143) dL_law_1143 rfl rfl ?_
  refine l_iloadn zC (pc := 1144) dL_law_1144 rfl rfl ?_
  refine l_iconst zC (pc := 1145) dL_law_1145 (by decide) ?_
  refine l_iaddn zC (pc := 1146) dL_law_1146 (by omega) ?_
  refine l_sld zC (pc := 1147) dL_law_1147 (by omega) ?_
  refine l_callV (zc := 49) zC (pc := 1148) (m_count X.G mem m1 (lwS X (i + 1)) hJ.1 zM) dL_law_1148 lL_150 rfl rfl rfl rfl rfl (fun r2 m2 zp2 => ?_)
  obtain ⟨zr2, zm2⟩ := zp2
  rw [zr2]
  show EL X 1151 [(2, 82), (2, 0), (2, 49), (0, i)] [(0, an_count mem (lwS X (i + 1))), (0, an_count mem (lwS X (i + 1)))] m2
  have zJ : Jn m2 := by rw [zm2, zm1]; exact hJ
  exact l_icmp_eq zC (pc := 1151) (tgt := 1170) dL_law_1151 rfl (fun _ => kk m2 zJ) (fun zn => absurd rfl zn)
theorem lw_cs_digest {X : LX} (zC : X.ok) {i : Int} {mem : Mem} (hi : 0 ≤ i ∧ i + 6 ≤ (X.L : Int)) (hJ : Jn mem) (kk : ∀ m2, Jn m2 → EL X 1170 [(2, 82), (2, 0), (2, 49), (0, i)] [] m2) : EL X 1156 [(2, 82), (2, 0), (2, 49), (0, i)] [] mem := by
  have hz : X.L ≤ 3072 := zC.2.2.2.2
  refine l_aloadn zC (pc := 1156) dL_law_1156 rfl rfl ?_
  refine l_callV (zc := 0) zC (pc := 1157) (c_digest X.G mem  hJ.1) dL_law_1157 lL_151 rfl rfl rfl rfl rfl (fun r m1 zp => ?_)
  obtain ⟨zr, zm1⟩ := zp
  rw [zr]
  show EL X 1160 [(2, 82), (2, 0), (2, 49), (0, i)] [(1, an_digest mem )] m1
  have zM : MI mem m1 := hJ.atQ zm1
  refine l_aloadn zC (pc := 1160) dL_law_1160 rfl rfl ?_
  refine l_callV (zc := 49) zC (pc := 1161) (m_digest X.G mem m1  hJ.1 zM) dL_law_1161 lL_155 rfl rfl rfl rfl rfl (fun r2 m2 zp2 => ?_)
  obtain ⟨zr2, zm2, zf2⟩ := zp2
  rw [zr2]
  show EL X 1164 [(2, 82), (2, 0), (2, 49), (0, i)] [(1, an_digest mem ), (1, an_digest mem )] m2
  have zJ : Jn m2 := jn_query hJ zm1 zf2 zm2
  refine l_lcmp zC (pc := 1164) dL_law_1164 ?_
  exact l_if_eq zC (pc := 1165) (tgt := 1170) dL_law_1165 rfl (fun _ => kk m2 zJ) (fun zn => absurd (lCmp_self _) zn)
/-- the cases' places -/
theorem l_cases {X : LX} (zC : X.ok) {i : Int} {mem : Mem} (hi : 0 ≤ i ∧ i + 6 ≤ (X.L : Int)) (hJ : Jn mem) (kk : ∀ m2, Jn m2 → EL X 1170 [(2, 82), (2, 0), (2, 49), (0, i)] [] m2) (a : Int) : EL X 33 [(2, 82), (2, 0), (2, 49), (0, i)] [(0, a)] mem := by
  by_cases ha : a < 0 ∨ 32 < a
  · exact l_tableOut zC (pc := 33) (tgt := 1170) dL_law_33 ha rfl (kk mem hJ)
  · have hb : 0 ≤ a ∧ a ≤ 32 := by omega
    obtain ⟨n, rfl⟩ : ∃ n : Nat, a = (n : Int) := ⟨a.toNat, by omega⟩
    have hn : n < 33 := by omega
    clear ha
    match n, hn with
    | 0, _ => exact l_tableIn zC (pc := 33) (tgt := 180) (off := 147) dL_law_33 (by decide) rfl rfl (lw_cs_comer zC hi hJ kk)
    | 1, _ => exact l_tableIn zC (pc := 33) (tgt := 223) (off := 190) dL_law_33 (by decide) rfl rfl (lw_cs_aim zC hi hJ kk)
    | 2, _ => exact l_tableIn zC (pc := 33) (tgt := 256) (off := 223) dL_law_33 (by decide) rfl rfl (lw_cs_read zC hi hJ kk)
    | 3, _ => exact l_tableIn zC (pc := 33) (tgt := 279) (off := 246) dL_law_33 (by decide) rfl rfl (lw_cs_cost zC hi hJ kk)
    | 4, _ => exact l_tableIn zC (pc := 33) (tgt := 322) (off := 289) dL_law_33 (by decide) rfl rfl (lw_cs_set zC hi hJ kk)
    | 5, _ => exact l_tableIn zC (pc := 33) (tgt := 355) (off := 322) dL_law_33 (by decide) rfl rfl (lw_cs_type zC hi hJ kk)
    | 6, _ => exact l_tableIn zC (pc := 33) (tgt := 378) (off := 345) dL_law_33 (by decide) rfl rfl (lw_cs_wipe zC hi hJ kk)
    | 7, _ => exact l_tableIn zC (pc := 33) (tgt := 391) (off := 358) dL_law_33 (by decide) rfl rfl (lw_cs_fault zC hi hJ kk)
    | 8, _ => exact l_tableIn zC (pc := 33) (tgt := 404) (off := 371) dL_law_33 (by decide) rfl rfl (lw_cs_begins zC hi hJ kk)
    | 9, _ => exact l_tableIn zC (pc := 33) (tgt := 417) (off := 384) dL_law_33 (by decide) rfl rfl (lw_cs_comes zC hi hJ kk)
    | 10, _ => exact l_tableIn zC (pc := 33) (tgt := 440) (off := 407) dL_law_33 (by decide) rfl rfl (lw_cs_pays zC hi hJ kk)
    | 11, _ => exact l_tableIn zC (pc := 33) (tgt := 463) (off := 430) dL_law_33 (by decide) rfl rfl (lw_cs_best zC hi hJ kk)
    | 12, _ => exact l_tableIn zC (pc := 33) (tgt := 512) (off := 479) dL_law_33 (by decide) rfl rfl (lw_cs_restless zC hi hJ kk)
    | 13, _ => exact l_tableIn zC (pc := 33) (tgt := 525) (off := 492) dL_law_33 (by decide) rfl rfl (lw_cs_climb zC hi hJ kk)
    | 14, _ => exact l_tableIn zC (pc := 33) (tgt := 574) (off := 541) dL_law_33 (by decide) rfl rfl (lw_cs_rests zC hi hJ kk)
    | 15, _ => exact l_tableIn zC (pc := 33) (tgt := 617) (off := 584) dL_law_33 (by decide) rfl rfl (lw_cs_lost zC hi hJ kk)
    | 16, _ => exact l_tableIn zC (pc := 33) (tgt := 650) (off := 617) dL_law_33 (by decide) rfl rfl (lw_cs_week zC hi hJ kk)
    | 17, _ => exact l_tableIn zC (pc := 33) (tgt := 673) (off := 640) dL_law_33 (by decide) rfl rfl (lw_cs_round zC hi hJ kk)
    | 18, _ => exact l_tableIn zC (pc := 33) (tgt := 696) (off := 663) dL_law_33 (by decide) rfl rfl (lw_cs_moved zC hi hJ kk)
    | 19, _ => exact l_tableIn zC (pc := 33) (tgt := 719) (off := 686) dL_law_33 (by decide) rfl rfl (lw_cs_least zC hi hJ kk)
    | 20, _ => exact l_tableIn zC (pc := 33) (tgt := 758) (off := 725) dL_law_33 (by decide) rfl rfl (lw_cs_keys zC hi hJ kk)
    | 21, _ => exact l_tableIn zC (pc := 33) (tgt := 781) (off := 748) dL_law_33 (by decide) rfl rfl (lw_cs_guests zC hi hJ kk)
    | 22, _ => exact l_tableIn zC (pc := 33) (tgt := 794) (off := 761) dL_law_33 (by decide) rfl rfl (lw_cs_odds zC hi hJ kk)
    | 23, _ => exact l_tableIn zC (pc := 33) (tgt := 828) (off := 795) dL_law_33 (by decide) rfl rfl (lw_cs_mean zC hi hJ kk)
    | 24, _ => exact l_tableIn zC (pc := 33) (tgt := 862) (off := 829) dL_law_33 (by decide) rfl rfl (lw_cs_sure zC hi hJ kk)
    | 25, _ => exact l_tableIn zC (pc := 33) (tgt := 885) (off := 852) dL_law_33 (by decide) rfl rfl (lw_cs_sheet zC hi hJ kk)
    | 26, _ => exact l_tableIn zC (pc := 33) (tgt := 928) (off := 895) dL_law_33 (by decide) rfl rfl (lw_cs_lose zC hi hJ kk)
    | 27, _ => exact l_tableIn zC (pc := 33) (tgt := 951) (off := 918) dL_law_33 (by decide) rfl rfl (lw_cs_put zC hi hJ kk)
    | 28, _ => exact l_tableIn zC (pc := 33) (tgt := 1004) (off := 971) dL_law_33 (by decide) rfl rfl (lw_cs_get zC hi hJ kk)
    | 29, _ => exact l_tableIn zC (pc := 33) (tgt := 1047) (off := 1014) dL_law_33 (by decide) rfl rfl (lw_cs_copy zC hi hJ kk)
    | 30, _ => exact l_tableIn zC (pc := 33) (tgt := 1110) (off := 1077) dL_law_33 (by decide) rfl rfl (lw_cs_write zC hi hJ kk)
    | 31, _ => exact l_tableIn zC (pc := 33) (tgt := 1133) (off := 1100) dL_law_33 (by decide) rfl rfl (lw_cs_count zC hi hJ kk)
    | 32, _ => exact l_tableIn zC (pc := 33) (tgt := 1156) (off := 1123) dL_law_33 (by decide) rfl rfl (lw_cs_digest zC hi hJ kk)
    | k + 33, hn => exact absurd hn (by omega)
/-- THE LAW'S LOOP -/
theorem l_loop {X : LX} (zC : X.ok) : ∀ (n : Nat) (i : Int) (mem : Mem), (X.L : Int) < i + n → 0 ≤ i → i ≤ 3078 → Jn mem → EL X 18 [(2, 82), (2, 0), (2, 49), (0, i)] [] mem := by
  have hz : X.L ≤ 3072 := zC.2.2.2.2
  intro n
  induction n with
  | zero =>
    intro i mem h1 h2 h3 hJ
    refine l_iloadn zC (pc := 18) dL_law_18 rfl rfl ?_
    refine l_aloadn zC (pc := 19) dL_law_19 rfl rfl ?_
    refine l_slen zC (pc := 20) dL_law_20 ?_
    refine l_bipush zC (pc := 21) dL_law_21 rfl (by decide) ?_
    refine l_isubn zC (pc := 23) dL_law_23 (by omega) ?_
    refine l_icmp_gt zC (pc := 24) (tgt := 1176) dL_law_24 rfl (fun _ => ?_) (fun hle => absurd hle (by omega))
    refine l_iconst zC (pc := 1176) dL_law_1176 (by decide) ?_
    exact l_ret zC (pc := 1177) dL_law_1177
  | succ n ih =>
    intro i mem h1 h2 h3 hJ
    refine l_iloadn zC (pc := 18) dL_law_18 rfl rfl ?_
    refine l_aloadn zC (pc := 19) dL_law_19 rfl rfl ?_
    refine l_slen zC (pc := 20) dL_law_20 ?_
    refine l_bipush zC (pc := 21) dL_law_21 rfl (by decide) ?_
    refine l_isubn zC (pc := 23) dL_law_23 (by omega) ?_
    refine l_icmp_gt zC (pc := 24) (tgt := 1176) dL_law_24 rfl (fun _ => ?_) (fun hle => ?_)
    · refine l_iconst zC (pc := 1176) dL_law_1176 (by decide) ?_
      exact l_ret zC (pc := 1177) dL_law_1177
    · refine l_aloadn zC (pc := 27) dL_law_27 rfl rfl ?_
      refine l_iloadn zC (pc := 28) dL_law_28 rfl rfl ?_
      refine l_sld zC (pc := 29) dL_law_29 (by omega) ?_
      refine l_bipush zC (pc := 30) dL_law_30 rfl (by decide) ?_
      refine l_iand zC (pc := 32) dL_law_32 ?_
      refine l_cases zC (by omega) hJ (fun m2 hJ2 => ?_) _
      refine l_iinc zC (pc := 1170) (lo' := [(2, 82), (2, 0), (2, 49), (0, i + 6)]) dL_law_1170 rfl (by omega) rfl (by decide) rfl ?_
      refine l_goto zC (pc := 1173) (tgt := 18) dL_law_1173 rfl ?_
      exact ih (i + 6) m2 (by omega) (by omega) (by omega) hJ2
