theorem tb_70 : Cond.classLink RL 7 RX11 ∈ gw_tbl := mg (List.mem_of_getElem? (i := 70) (by decide +kernel)) rfl
theorem tb_71 : Cond.instantiable RX11 9 ∈ gw_tbl := mg (List.mem_of_getElem? (i := 71) (by decide +kernel)) rfl
theorem tb_72 : Cond.methodLink RL 9 yX11_init ∈ gw_tbl := mg (List.mem_of_getElem? (i := 72) (by decide +kernel)) rfl
theorem tb_73 : Cond.instanceMethod yX11_init ∈ gw_tbl := mg (List.mem_of_getElem? (i := 73) (by decide +kernel)) rfl
theorem tb_74 : Cond.code yX11_init cX11_init 2 none ∈ gw_tbl := mg (List.mem_of_getElem? (i := 74) (by decide +kernel)) rfl
theorem tb_393 : Cond.methodLink RL 13 yX11_feed ∈ gw_tbl := mg (List.mem_of_getElem? (i := 393) (by decide +kernel)) rfl
theorem tb_394 : Cond.instanceMethod yX11_feed ∈ gw_tbl := mg (List.mem_of_getElem? (i := 394) (by decide +kernel)) rfl
theorem tb_395 : Cond.selects RX11 yX11_feed yX11_feed ∈ gw_tbl := mg (List.mem_of_getElem? (i := 395) (by decide +kernel)) rfl
theorem tb_396 : Cond.code yX11_feed cX11_feed 6 (some .int) ∈ gw_tbl := mg (List.mem_of_getElem? (i := 396) (by decide +kernel)) rfl
theorem tb_409 : Cond.methodLink RL 18 yX11_end ∈ gw_tbl := mg (List.mem_of_getElem? (i := 409) (by decide +kernel)) rfl
theorem tb_410 : Cond.instanceMethod yX11_end ∈ gw_tbl := mg (List.mem_of_getElem? (i := 410) (by decide +kernel)) rfl
theorem tb_411 : Cond.selects RX11 yX11_end yX11_end ∈ gw_tbl := mg (List.mem_of_getElem? (i := 411) (by decide +kernel)) rfl
theorem tb_412 : Cond.code yX11_end cX11_end 2 (some .int) ∈ gw_tbl := mg (List.mem_of_getElem? (i := 412) (by decide +kernel)) rfl
theorem tb_417 : Cond.methodLink RL 23 yX11_court ∈ gw_tbl := mg (List.mem_of_getElem? (i := 417) (by decide +kernel)) rfl
theorem tb_418 : Cond.instanceMethod yX11_court ∈ gw_tbl := mg (List.mem_of_getElem? (i := 418) (by decide +kernel)) rfl
theorem tb_419 : Cond.selects RX11 yX11_court yX11_court ∈ gw_tbl := mg (List.mem_of_getElem? (i := 419) (by decide +kernel)) rfl
theorem tb_420 : Cond.code yX11_court cX11_court 4 (some .int) ∈ gw_tbl := mg (List.mem_of_getElem? (i := 420) (by decide +kernel)) rfl
theorem tb_434 : Cond.methodLink RL 28 yX11_way ∈ gw_tbl := mg (List.mem_of_getElem? (i := 434) (by decide +kernel)) rfl
theorem tb_435 : Cond.instanceMethod yX11_way ∈ gw_tbl := mg (List.mem_of_getElem? (i := 435) (by decide +kernel)) rfl
theorem tb_436 : Cond.selects RX11 yX11_way yX11_way ∈ gw_tbl := mg (List.mem_of_getElem? (i := 436) (by decide +kernel)) rfl
theorem tb_437 : Cond.code yX11_way cX11_way 6 (some .int) ∈ gw_tbl := mg (List.mem_of_getElem? (i := 437) (by decide +kernel)) rfl
theorem tb_446 : Cond.methodLink RL 32 yX11_far ∈ gw_tbl := mg (List.mem_of_getElem? (i := 446) (by decide +kernel)) rfl
theorem tb_447 : Cond.instanceMethod yX11_far ∈ gw_tbl := mg (List.mem_of_getElem? (i := 447) (by decide +kernel)) rfl
theorem tb_448 : Cond.selects RX11 yX11_far yX11_far ∈ gw_tbl := mg (List.mem_of_getElem? (i := 448) (by decide +kernel)) rfl
theorem tb_449 : Cond.code yX11_far cX11_far 3 (some .int) ∈ gw_tbl := mg (List.mem_of_getElem? (i := 449) (by decide +kernel)) rfl
theorem tb_465 : Cond.methodLink RL 37 yX11_rounds ∈ gw_tbl := mg (List.mem_of_getElem? (i := 465) (by decide +kernel)) rfl
theorem tb_466 : Cond.instanceMethod yX11_rounds ∈ gw_tbl := mg (List.mem_of_getElem? (i := 466) (by decide +kernel)) rfl
theorem tb_467 : Cond.selects RX11 yX11_rounds yX11_rounds ∈ gw_tbl := mg (List.mem_of_getElem? (i := 467) (by decide +kernel)) rfl
theorem tb_468 : Cond.code yX11_rounds cX11_rounds 2 (some .int) ∈ gw_tbl := mg (List.mem_of_getElem? (i := 468) (by decide +kernel)) rfl
theorem tb_534 : Cond.methodLink RL 41 yX11_round ∈ gw_tbl := mg (List.mem_of_getElem? (i := 534) (by decide +kernel)) rfl
theorem tb_535 : Cond.instanceMethod yX11_round ∈ gw_tbl := mg (List.mem_of_getElem? (i := 535) (by decide +kernel)) rfl
theorem tb_536 : Cond.selects RX11 yX11_round yX11_round ∈ gw_tbl := mg (List.mem_of_getElem? (i := 536) (by decide +kernel)) rfl
theorem tb_537 : Cond.code yX11_round cX11_round 2 (some .int) ∈ gw_tbl := mg (List.mem_of_getElem? (i := 537) (by decide +kernel)) rfl
theorem tb_543 : Cond.methodLink RL 45 yX11_cry ∈ gw_tbl := mg (List.mem_of_getElem? (i := 543) (by decide +kernel)) rfl
theorem tb_544 : Cond.instanceMethod yX11_cry ∈ gw_tbl := mg (List.mem_of_getElem? (i := 544) (by decide +kernel)) rfl
theorem tb_545 : Cond.selects RX11 yX11_cry yX11_cry ∈ gw_tbl := mg (List.mem_of_getElem? (i := 545) (by decide +kernel)) rfl
theorem tb_546 : Cond.code yX11_cry cX11_cry 6 (some .int) ∈ gw_tbl := mg (List.mem_of_getElem? (i := 546) (by decide +kernel)) rfl
theorem tb_547 : Cond.methodLink RL 49 yX11_laws ∈ gw_tbl := mg (List.mem_of_getElem? (i := 547) (by decide +kernel)) rfl
theorem tb_548 : Cond.instanceMethod yX11_laws ∈ gw_tbl := mg (List.mem_of_getElem? (i := 548) (by decide +kernel)) rfl
theorem tb_549 : Cond.selects RX11 yX11_laws yX11_laws ∈ gw_tbl := mg (List.mem_of_getElem? (i := 549) (by decide +kernel)) rfl
theorem tb_550 : Cond.code yX11_laws cX11_laws 3 (some .int) ∈ gw_tbl := mg (List.mem_of_getElem? (i := 550) (by decide +kernel)) rfl
theorem tb_592 : Cond.laysStatic "java/lang/String" "COMPACT_STRINGS" "Z" ∈ lw_tbl := List.mem_of_getElem? (i := 592) (by decide +kernel)
theorem tb_608 : Cond.laysStatic "jdk/internal/util/Preconditions" "SIOOBE_FORMATTER" "Ljava/util/function/BiFunction;" ∈ lw_tbl := List.mem_of_getElem? (i := 608) (by decide +kernel)
theorem tb_689 : Cond.methodLink RL 53 yX11_fault ∈ gw_tbl := mg (List.mem_of_getElem? (i := 689) (by decide +kernel)) rfl
theorem tb_690 : Cond.instanceMethod yX11_fault ∈ gw_tbl := mg (List.mem_of_getElem? (i := 690) (by decide +kernel)) rfl
theorem tb_691 : Cond.selects RX11 yX11_fault yX11_fault ∈ gw_tbl := mg (List.mem_of_getElem? (i := 691) (by decide +kernel)) rfl
theorem tb_692 : Cond.code yX11_fault cX11_fault 2 (some .int) ∈ gw_tbl := mg (List.mem_of_getElem? (i := 692) (by decide +kernel)) rfl
theorem tb_701 : Cond.methodLink RL 57 yX11_law ∈ gw_tbl := mg (List.mem_of_getElem? (i := 701) (by decide +kernel)) rfl
theorem tb_702 : Cond.instanceMethod yX11_law ∈ gw_tbl := mg (List.mem_of_getElem? (i := 702) (by decide +kernel)) rfl
theorem tb_703 : Cond.selects RX11 yX11_law yX11_law ∈ gw_tbl := mg (List.mem_of_getElem? (i := 703) (by decide +kernel)) rfl
theorem tb_704 : Cond.code yX11_law cX11_law 3 (some .int) ∈ gw_tbl := mg (List.mem_of_getElem? (i := 704) (by decide +kernel)) rfl
theorem tb_709 : Cond.methodLink RL 61 yX11_may ∈ gw_tbl := mg (List.mem_of_getElem? (i := 709) (by decide +kernel)) rfl
theorem tb_710 : Cond.instanceMethod yX11_may ∈ gw_tbl := mg (List.mem_of_getElem? (i := 710) (by decide +kernel)) rfl
theorem tb_711 : Cond.selects RX11 yX11_may yX11_may ∈ gw_tbl := mg (List.mem_of_getElem? (i := 711) (by decide +kernel)) rfl
theorem tb_712 : Cond.code yX11_may cX11_may 5 (some .int) ∈ gw_tbl := mg (List.mem_of_getElem? (i := 712) (by decide +kernel)) rfl
theorem tb_724 : Cond.methodLink RL 66 yX11_house ∈ gw_tbl := mg (List.mem_of_getElem? (i := 724) (by decide +kernel)) rfl
theorem tb_725 : Cond.instanceMethod yX11_house ∈ gw_tbl := mg (List.mem_of_getElem? (i := 725) (by decide +kernel)) rfl
theorem tb_726 : Cond.selects RX11 yX11_house yX11_house ∈ gw_tbl := mg (List.mem_of_getElem? (i := 726) (by decide +kernel)) rfl
theorem tb_727 : Cond.code yX11_house cX11_house 3 (some .int) ∈ gw_tbl := mg (List.mem_of_getElem? (i := 727) (by decide +kernel)) rfl
theorem tb_760 : Cond.methodLink RL 70 yX11_purse ∈ gw_tbl := mg (List.mem_of_getElem? (i := 760) (by decide +kernel)) rfl
theorem tb_761 : Cond.instanceMethod yX11_purse ∈ gw_tbl := mg (List.mem_of_getElem? (i := 761) (by decide +kernel)) rfl
theorem tb_762 : Cond.selects RX11 yX11_purse yX11_purse ∈ gw_tbl := mg (List.mem_of_getElem? (i := 762) (by decide +kernel)) rfl
theorem tb_763 : Cond.code yX11_purse cX11_purse 4 (some .int) ∈ gw_tbl := mg (List.mem_of_getElem? (i := 763) (by decide +kernel)) rfl
theorem tb_770 : Cond.methodLink RL 74 yX11_would ∈ gw_tbl := mg (List.mem_of_getElem? (i := 770) (by decide +kernel)) rfl
theorem tb_771 : Cond.instanceMethod yX11_would ∈ gw_tbl := mg (List.mem_of_getElem? (i := 771) (by decide +kernel)) rfl
theorem tb_772 : Cond.selects RX11 yX11_would yX11_would ∈ gw_tbl := mg (List.mem_of_getElem? (i := 772) (by decide +kernel)) rfl
theorem tb_773 : Cond.code yX11_would cX11_would 5 (some .int) ∈ gw_tbl := mg (List.mem_of_getElem? (i := 773) (by decide +kernel)) rfl
theorem tb_774 : Cond.methodLink RL 78 yX11_fill ∈ gw_tbl := mg (List.mem_of_getElem? (i := 774) (by decide +kernel)) rfl
theorem tb_775 : Cond.instanceMethod yX11_fill ∈ gw_tbl := mg (List.mem_of_getElem? (i := 775) (by decide +kernel)) rfl
theorem tb_776 : Cond.selects RX11 yX11_fill yX11_fill ∈ gw_tbl := mg (List.mem_of_getElem? (i := 776) (by decide +kernel)) rfl
theorem tb_777 : Cond.code yX11_fill cX11_fill 4 (some .int) ∈ gw_tbl := mg (List.mem_of_getElem? (i := 777) (by decide +kernel)) rfl
theorem tb_820 : Cond.methodLink RL 82 yX11_year ∈ gw_tbl := mg (List.mem_of_getElem? (i := 820) (by decide +kernel)) rfl
theorem tb_821 : Cond.instanceMethod yX11_year ∈ gw_tbl := mg (List.mem_of_getElem? (i := 821) (by decide +kernel)) rfl
theorem tb_822 : Cond.selects RX11 yX11_year yX11_year ∈ gw_tbl := mg (List.mem_of_getElem? (i := 822) (by decide +kernel)) rfl
theorem tb_823 : Cond.code yX11_year cX11_year 4 (some .int) ∈ gw_tbl := mg (List.mem_of_getElem? (i := 823) (by decide +kernel)) rfl
theorem tb_828 : Cond.methodLink RL 86 yX11_about ∈ gw_tbl := mg (List.mem_of_getElem? (i := 828) (by decide +kernel)) rfl
theorem tb_829 : Cond.instanceMethod yX11_about ∈ gw_tbl := mg (List.mem_of_getElem? (i := 829) (by decide +kernel)) rfl
theorem tb_830 : Cond.selects RX11 yX11_about yX11_about ∈ gw_tbl := mg (List.mem_of_getElem? (i := 830) (by decide +kernel)) rfl
theorem tb_831 : Cond.code yX11_about cX11_about 4 (some .int) ∈ gw_tbl := mg (List.mem_of_getElem? (i := 831) (by decide +kernel)) rfl
theorem tb_836 : Cond.methodLink RL 90 yX11_charge ∈ gw_tbl := mg (List.mem_of_getElem? (i := 836) (by decide +kernel)) rfl
theorem tb_837 : Cond.instanceMethod yX11_charge ∈ gw_tbl := mg (List.mem_of_getElem? (i := 837) (by decide +kernel)) rfl
theorem tb_838 : Cond.selects RX11 yX11_charge yX11_charge ∈ gw_tbl := mg (List.mem_of_getElem? (i := 838) (by decide +kernel)) rfl
theorem tb_839 : Cond.code yX11_charge cX11_charge 5 (some .int) ∈ gw_tbl := mg (List.mem_of_getElem? (i := 839) (by decide +kernel)) rfl
theorem tb_891 : Cond.methodLink RL 94 yX11_charged ∈ gw_tbl := mg (List.mem_of_getElem? (i := 891) (by decide +kernel)) rfl
theorem tb_892 : Cond.instanceMethod yX11_charged ∈ gw_tbl := mg (List.mem_of_getElem? (i := 892) (by decide +kernel)) rfl
theorem tb_893 : Cond.selects RX11 yX11_charged yX11_charged ∈ gw_tbl := mg (List.mem_of_getElem? (i := 893) (by decide +kernel)) rfl
theorem tb_894 : Cond.code yX11_charged cX11_charged 4 (some .int) ∈ gw_tbl := mg (List.mem_of_getElem? (i := 894) (by decide +kernel)) rfl
theorem tb_903 : Cond.methodLink RL 98 yX11_morning ∈ gw_tbl := mg (List.mem_of_getElem? (i := 903) (by decide +kernel)) rfl
theorem tb_904 : Cond.instanceMethod yX11_morning ∈ gw_tbl := mg (List.mem_of_getElem? (i := 904) (by decide +kernel)) rfl
theorem tb_905 : Cond.selects RX11 yX11_morning yX11_morning ∈ gw_tbl := mg (List.mem_of_getElem? (i := 905) (by decide +kernel)) rfl
theorem tb_906 : Cond.code yX11_morning cX11_morning 2 (some .int) ∈ gw_tbl := mg (List.mem_of_getElem? (i := 906) (by decide +kernel)) rfl
theorem tb_911 : Cond.methodLink RL 103 yX11_flee ∈ gw_tbl := mg (List.mem_of_getElem? (i := 911) (by decide +kernel)) rfl
theorem tb_912 : Cond.instanceMethod yX11_flee ∈ gw_tbl := mg (List.mem_of_getElem? (i := 912) (by decide +kernel)) rfl
theorem tb_913 : Cond.selects RX11 yX11_flee yX11_flee ∈ gw_tbl := mg (List.mem_of_getElem? (i := 913) (by decide +kernel)) rfl
theorem tb_914 : Cond.code yX11_flee cX11_flee 3 (some .int) ∈ gw_tbl := mg (List.mem_of_getElem? (i := 914) (by decide +kernel)) rfl
theorem tb_933 : Cond.methodLink RL 108 yX11_fled ∈ gw_tbl := mg (List.mem_of_getElem? (i := 933) (by decide +kernel)) rfl
theorem tb_934 : Cond.instanceMethod yX11_fled ∈ gw_tbl := mg (List.mem_of_getElem? (i := 934) (by decide +kernel)) rfl
theorem tb_935 : Cond.selects RX11 yX11_fled yX11_fled ∈ gw_tbl := mg (List.mem_of_getElem? (i := 935) (by decide +kernel)) rfl
theorem tb_936 : Cond.code yX11_fled cX11_fled 2 (some .int) ∈ gw_tbl := mg (List.mem_of_getElem? (i := 936) (by decide +kernel)) rfl
theorem tb_941 : Cond.methodLink RL 112 yX11_doubt ∈ gw_tbl := mg (List.mem_of_getElem? (i := 941) (by decide +kernel)) rfl
theorem tb_942 : Cond.instanceMethod yX11_doubt ∈ gw_tbl := mg (List.mem_of_getElem? (i := 942) (by decide +kernel)) rfl
theorem tb_943 : Cond.selects RX11 yX11_doubt yX11_doubt ∈ gw_tbl := mg (List.mem_of_getElem? (i := 943) (by decide +kernel)) rfl
theorem tb_944 : Cond.code yX11_doubt cX11_doubt 14 (some .long) ∈ gw_tbl := mg (List.mem_of_getElem? (i := 944) (by decide +kernel)) rfl
theorem tb_960 : Cond.methodLink RL 117 yX11_count ∈ gw_tbl := mg (List.mem_of_getElem? (i := 960) (by decide +kernel)) rfl
theorem tb_961 : Cond.instanceMethod yX11_count ∈ gw_tbl := mg (List.mem_of_getElem? (i := 961) (by decide +kernel)) rfl
theorem tb_962 : Cond.selects RX11 yX11_count yX11_count ∈ gw_tbl := mg (List.mem_of_getElem? (i := 962) (by decide +kernel)) rfl
theorem tb_963 : Cond.code yX11_count cX11_count 2 (some .int) ∈ gw_tbl := mg (List.mem_of_getElem? (i := 963) (by decide +kernel)) rfl
theorem tb_972 : Cond.classLink RL 10 RX12 ∈ gw_tbl := mg (List.mem_of_getElem? (i := 972) (by decide +kernel)) rfl
theorem tb_973 : Cond.instantiable RX12 56 ∈ gw_tbl := mg (List.mem_of_getElem? (i := 973) (by decide +kernel)) rfl
theorem tb_974 : Cond.methodLink RL 12 yX12_init ∈ gw_tbl := mg (List.mem_of_getElem? (i := 974) (by decide +kernel)) rfl
theorem tb_975 : Cond.instanceMethod yX12_init ∈ gw_tbl := mg (List.mem_of_getElem? (i := 975) (by decide +kernel)) rfl
theorem tb_976 : Cond.code yX12_init cX12_init 3 none ∈ gw_tbl := mg (List.mem_of_getElem? (i := 976) (by decide +kernel)) rfl
theorem tb_1155 : Cond.methodLink RL 17 yX12_feed ∈ gw_tbl := mg (List.mem_of_getElem? (i := 1155) (by decide +kernel)) rfl
theorem tb_1156 : Cond.instanceMethod yX12_feed ∈ gw_tbl := mg (List.mem_of_getElem? (i := 1156) (by decide +kernel)) rfl
theorem tb_1157 : Cond.selects RX12 yX12_feed yX12_feed ∈ gw_tbl := mg (List.mem_of_getElem? (i := 1157) (by decide +kernel)) rfl
theorem tb_1158 : Cond.code yX12_feed cX12_feed 9 (some .int) ∈ gw_tbl := mg (List.mem_of_getElem? (i := 1158) (by decide +kernel)) rfl
theorem tb_1159 : Cond.methodLink RL 22 yX12_end ∈ gw_tbl := mg (List.mem_of_getElem? (i := 1159) (by decide +kernel)) rfl
theorem tb_1160 : Cond.instanceMethod yX12_end ∈ gw_tbl := mg (List.mem_of_getElem? (i := 1160) (by decide +kernel)) rfl
theorem tb_1161 : Cond.selects RX12 yX12_end yX12_end ∈ gw_tbl := mg (List.mem_of_getElem? (i := 1161) (by decide +kernel)) rfl
theorem tb_1162 : Cond.code yX12_end cX12_end 2 (some .int) ∈ gw_tbl := mg (List.mem_of_getElem? (i := 1162) (by decide +kernel)) rfl
theorem tb_1163 : Cond.methodLink RL 27 yX12_court ∈ gw_tbl := mg (List.mem_of_getElem? (i := 1163) (by decide +kernel)) rfl
theorem tb_1164 : Cond.instanceMethod yX12_court ∈ gw_tbl := mg (List.mem_of_getElem? (i := 1164) (by decide +kernel)) rfl
theorem tb_1165 : Cond.selects RX12 yX12_court yX12_court ∈ gw_tbl := mg (List.mem_of_getElem? (i := 1165) (by decide +kernel)) rfl
theorem tb_1166 : Cond.code yX12_court cX12_court 4 (some .int) ∈ gw_tbl := mg (List.mem_of_getElem? (i := 1166) (by decide +kernel)) rfl
theorem tb_1176 : Cond.methodLink RL 31 yX12_way ∈ gw_tbl := mg (List.mem_of_getElem? (i := 1176) (by decide +kernel)) rfl
theorem tb_1177 : Cond.instanceMethod yX12_way ∈ gw_tbl := mg (List.mem_of_getElem? (i := 1177) (by decide +kernel)) rfl
theorem tb_1178 : Cond.selects RX12 yX12_way yX12_way ∈ gw_tbl := mg (List.mem_of_getElem? (i := 1178) (by decide +kernel)) rfl
theorem tb_1179 : Cond.code yX12_way cX12_way 5 (some .int) ∈ gw_tbl := mg (List.mem_of_getElem? (i := 1179) (by decide +kernel)) rfl
theorem tb_1180 : Cond.methodLink RL 36 yX12_far ∈ gw_tbl := mg (List.mem_of_getElem? (i := 1180) (by decide +kernel)) rfl
theorem tb_1181 : Cond.instanceMethod yX12_far ∈ gw_tbl := mg (List.mem_of_getElem? (i := 1181) (by decide +kernel)) rfl
theorem tb_1182 : Cond.selects RX12 yX12_far yX12_far ∈ gw_tbl := mg (List.mem_of_getElem? (i := 1182) (by decide +kernel)) rfl
theorem tb_1183 : Cond.code yX12_far cX12_far 4 (some .int) ∈ gw_tbl := mg (List.mem_of_getElem? (i := 1183) (by decide +kernel)) rfl
theorem tb_1184 : Cond.methodLink RL 40 yX12_rounds ∈ gw_tbl := mg (List.mem_of_getElem? (i := 1184) (by decide +kernel)) rfl
theorem tb_1185 : Cond.instanceMethod yX12_rounds ∈ gw_tbl := mg (List.mem_of_getElem? (i := 1185) (by decide +kernel)) rfl
theorem tb_1186 : Cond.selects RX12 yX12_rounds yX12_rounds ∈ gw_tbl := mg (List.mem_of_getElem? (i := 1186) (by decide +kernel)) rfl
theorem tb_1187 : Cond.code yX12_rounds cX12_rounds 6 (some .int) ∈ gw_tbl := mg (List.mem_of_getElem? (i := 1187) (by decide +kernel)) rfl
theorem tb_1203 : Cond.methodLink RL 44 yX12_round ∈ gw_tbl := mg (List.mem_of_getElem? (i := 1203) (by decide +kernel)) rfl
theorem tb_1204 : Cond.instanceMethod yX12_round ∈ gw_tbl := mg (List.mem_of_getElem? (i := 1204) (by decide +kernel)) rfl
theorem tb_1205 : Cond.selects RX12 yX12_round yX12_round ∈ gw_tbl := mg (List.mem_of_getElem? (i := 1205) (by decide +kernel)) rfl
theorem tb_1206 : Cond.code yX12_round cX12_round 2 (some .int) ∈ gw_tbl := mg (List.mem_of_getElem? (i := 1206) (by decide +kernel)) rfl
theorem tb_1207 : Cond.methodLink RL 48 yX12_cry ∈ gw_tbl := mg (List.mem_of_getElem? (i := 1207) (by decide +kernel)) rfl
theorem tb_1208 : Cond.instanceMethod yX12_cry ∈ gw_tbl := mg (List.mem_of_getElem? (i := 1208) (by decide +kernel)) rfl
theorem tb_1209 : Cond.selects RX12 yX12_cry yX12_cry ∈ gw_tbl := mg (List.mem_of_getElem? (i := 1209) (by decide +kernel)) rfl
theorem tb_1210 : Cond.code yX12_cry cX12_cry 5 (some .int) ∈ gw_tbl := mg (List.mem_of_getElem? (i := 1210) (by decide +kernel)) rfl
theorem tb_1211 : Cond.methodLink RL 52 yX12_laws ∈ gw_tbl := mg (List.mem_of_getElem? (i := 1211) (by decide +kernel)) rfl
theorem tb_1212 : Cond.instanceMethod yX12_laws ∈ gw_tbl := mg (List.mem_of_getElem? (i := 1212) (by decide +kernel)) rfl
theorem tb_1213 : Cond.selects RX12 yX12_laws yX12_laws ∈ gw_tbl := mg (List.mem_of_getElem? (i := 1213) (by decide +kernel)) rfl
theorem tb_1214 : Cond.code yX12_laws cX12_laws 6 (some .int) ∈ gw_tbl := mg (List.mem_of_getElem? (i := 1214) (by decide +kernel)) rfl
theorem tb_1264 : Cond.methodLink RL 56 yX12_fault ∈ gw_tbl := mg (List.mem_of_getElem? (i := 1264) (by decide +kernel)) rfl
theorem tb_1265 : Cond.instanceMethod yX12_fault ∈ gw_tbl := mg (List.mem_of_getElem? (i := 1265) (by decide +kernel)) rfl
theorem tb_1266 : Cond.selects RX12 yX12_fault yX12_fault ∈ gw_tbl := mg (List.mem_of_getElem? (i := 1266) (by decide +kernel)) rfl
theorem tb_1267 : Cond.code yX12_fault cX12_fault 2 (some .int) ∈ gw_tbl := mg (List.mem_of_getElem? (i := 1267) (by decide +kernel)) rfl
theorem tb_1268 : Cond.methodLink RL 60 yX12_law ∈ gw_tbl := mg (List.mem_of_getElem? (i := 1268) (by decide +kernel)) rfl
theorem tb_1269 : Cond.instanceMethod yX12_law ∈ gw_tbl := mg (List.mem_of_getElem? (i := 1269) (by decide +kernel)) rfl
theorem tb_1270 : Cond.selects RX12 yX12_law yX12_law ∈ gw_tbl := mg (List.mem_of_getElem? (i := 1270) (by decide +kernel)) rfl
theorem tb_1271 : Cond.code yX12_law cX12_law 3 (some .int) ∈ gw_tbl := mg (List.mem_of_getElem? (i := 1271) (by decide +kernel)) rfl
theorem tb_1272 : Cond.methodLink RL 65 yX12_may ∈ gw_tbl := mg (List.mem_of_getElem? (i := 1272) (by decide +kernel)) rfl
theorem tb_1273 : Cond.instanceMethod yX12_may ∈ gw_tbl := mg (List.mem_of_getElem? (i := 1273) (by decide +kernel)) rfl
theorem tb_1274 : Cond.selects RX12 yX12_may yX12_may ∈ gw_tbl := mg (List.mem_of_getElem? (i := 1274) (by decide +kernel)) rfl
theorem tb_1275 : Cond.code yX12_may cX12_may 5 (some .int) ∈ gw_tbl := mg (List.mem_of_getElem? (i := 1275) (by decide +kernel)) rfl
theorem tb_1280 : Cond.methodLink RL 69 yX12_house ∈ gw_tbl := mg (List.mem_of_getElem? (i := 1280) (by decide +kernel)) rfl
theorem tb_1281 : Cond.instanceMethod yX12_house ∈ gw_tbl := mg (List.mem_of_getElem? (i := 1281) (by decide +kernel)) rfl
theorem tb_1282 : Cond.selects RX12 yX12_house yX12_house ∈ gw_tbl := mg (List.mem_of_getElem? (i := 1282) (by decide +kernel)) rfl
theorem tb_1283 : Cond.code yX12_house cX12_house 3 (some .int) ∈ gw_tbl := mg (List.mem_of_getElem? (i := 1283) (by decide +kernel)) rfl
theorem tb_1284 : Cond.methodLink RL 73 yX12_purse ∈ gw_tbl := mg (List.mem_of_getElem? (i := 1284) (by decide +kernel)) rfl
theorem tb_1285 : Cond.instanceMethod yX12_purse ∈ gw_tbl := mg (List.mem_of_getElem? (i := 1285) (by decide +kernel)) rfl
theorem tb_1286 : Cond.selects RX12 yX12_purse yX12_purse ∈ gw_tbl := mg (List.mem_of_getElem? (i := 1286) (by decide +kernel)) rfl
theorem tb_1287 : Cond.code yX12_purse cX12_purse 3 (some .int) ∈ gw_tbl := mg (List.mem_of_getElem? (i := 1287) (by decide +kernel)) rfl
theorem tb_1293 : Cond.methodLink RL 77 yX12_would ∈ gw_tbl := mg (List.mem_of_getElem? (i := 1293) (by decide +kernel)) rfl
theorem tb_1294 : Cond.instanceMethod yX12_would ∈ gw_tbl := mg (List.mem_of_getElem? (i := 1294) (by decide +kernel)) rfl
theorem tb_1295 : Cond.selects RX12 yX12_would yX12_would ∈ gw_tbl := mg (List.mem_of_getElem? (i := 1295) (by decide +kernel)) rfl
theorem tb_1296 : Cond.code yX12_would cX12_would 4 (some .int) ∈ gw_tbl := mg (List.mem_of_getElem? (i := 1296) (by decide +kernel)) rfl
theorem tb_1297 : Cond.methodLink RL 81 yX12_fill ∈ gw_tbl := mg (List.mem_of_getElem? (i := 1297) (by decide +kernel)) rfl
theorem tb_1298 : Cond.instanceMethod yX12_fill ∈ gw_tbl := mg (List.mem_of_getElem? (i := 1298) (by decide +kernel)) rfl
theorem tb_1299 : Cond.selects RX12 yX12_fill yX12_fill ∈ gw_tbl := mg (List.mem_of_getElem? (i := 1299) (by decide +kernel)) rfl
theorem tb_1300 : Cond.code yX12_fill cX12_fill 9 (some .int) ∈ gw_tbl := mg (List.mem_of_getElem? (i := 1300) (by decide +kernel)) rfl
theorem tb_1305 : Cond.methodLink RL 85 yX12_year ∈ gw_tbl := mg (List.mem_of_getElem? (i := 1305) (by decide +kernel)) rfl
theorem tb_1306 : Cond.instanceMethod yX12_year ∈ gw_tbl := mg (List.mem_of_getElem? (i := 1306) (by decide +kernel)) rfl
theorem tb_1307 : Cond.selects RX12 yX12_year yX12_year ∈ gw_tbl := mg (List.mem_of_getElem? (i := 1307) (by decide +kernel)) rfl
theorem tb_1308 : Cond.code yX12_year cX12_year 5 (some .int) ∈ gw_tbl := mg (List.mem_of_getElem? (i := 1308) (by decide +kernel)) rfl
theorem tb_1309 : Cond.methodLink RL 89 yX12_about ∈ gw_tbl := mg (List.mem_of_getElem? (i := 1309) (by decide +kernel)) rfl
theorem tb_1310 : Cond.instanceMethod yX12_about ∈ gw_tbl := mg (List.mem_of_getElem? (i := 1310) (by decide +kernel)) rfl
theorem tb_1311 : Cond.selects RX12 yX12_about yX12_about ∈ gw_tbl := mg (List.mem_of_getElem? (i := 1311) (by decide +kernel)) rfl
theorem tb_1312 : Cond.code yX12_about cX12_about 3 (some .int) ∈ gw_tbl := mg (List.mem_of_getElem? (i := 1312) (by decide +kernel)) rfl
theorem tb_1313 : Cond.methodLink RL 93 yX12_charge ∈ gw_tbl := mg (List.mem_of_getElem? (i := 1313) (by decide +kernel)) rfl
theorem tb_1314 : Cond.instanceMethod yX12_charge ∈ gw_tbl := mg (List.mem_of_getElem? (i := 1314) (by decide +kernel)) rfl
theorem tb_1315 : Cond.selects RX12 yX12_charge yX12_charge ∈ gw_tbl := mg (List.mem_of_getElem? (i := 1315) (by decide +kernel)) rfl
theorem tb_1316 : Cond.code yX12_charge cX12_charge 6 (some .int) ∈ gw_tbl := mg (List.mem_of_getElem? (i := 1316) (by decide +kernel)) rfl
theorem tb_1329 : Cond.methodLink RL 97 yX12_charged ∈ gw_tbl := mg (List.mem_of_getElem? (i := 1329) (by decide +kernel)) rfl
theorem tb_1330 : Cond.instanceMethod yX12_charged ∈ gw_tbl := mg (List.mem_of_getElem? (i := 1330) (by decide +kernel)) rfl
theorem tb_1331 : Cond.selects RX12 yX12_charged yX12_charged ∈ gw_tbl := mg (List.mem_of_getElem? (i := 1331) (by decide +kernel)) rfl
theorem tb_1332 : Cond.code yX12_charged cX12_charged 3 (some .int) ∈ gw_tbl := mg (List.mem_of_getElem? (i := 1332) (by decide +kernel)) rfl
theorem tb_1333 : Cond.methodLink RL 102 yX12_morning ∈ gw_tbl := mg (List.mem_of_getElem? (i := 1333) (by decide +kernel)) rfl
theorem tb_1334 : Cond.instanceMethod yX12_morning ∈ gw_tbl := mg (List.mem_of_getElem? (i := 1334) (by decide +kernel)) rfl
theorem tb_1335 : Cond.selects RX12 yX12_morning yX12_morning ∈ gw_tbl := mg (List.mem_of_getElem? (i := 1335) (by decide +kernel)) rfl
theorem tb_1336 : Cond.code yX12_morning cX12_morning 3 (some .int) ∈ gw_tbl := mg (List.mem_of_getElem? (i := 1336) (by decide +kernel)) rfl
theorem tb_1337 : Cond.methodLink RL 107 yX12_flee ∈ gw_tbl := mg (List.mem_of_getElem? (i := 1337) (by decide +kernel)) rfl
theorem tb_1338 : Cond.instanceMethod yX12_flee ∈ gw_tbl := mg (List.mem_of_getElem? (i := 1338) (by decide +kernel)) rfl
theorem tb_1339 : Cond.selects RX12 yX12_flee yX12_flee ∈ gw_tbl := mg (List.mem_of_getElem? (i := 1339) (by decide +kernel)) rfl
theorem tb_1340 : Cond.code yX12_flee cX12_flee 12 (some .int) ∈ gw_tbl := mg (List.mem_of_getElem? (i := 1340) (by decide +kernel)) rfl
theorem tb_1341 : Cond.methodLink RL 111 yX12_fled ∈ gw_tbl := mg (List.mem_of_getElem? (i := 1341) (by decide +kernel)) rfl
theorem tb_1342 : Cond.instanceMethod yX12_fled ∈ gw_tbl := mg (List.mem_of_getElem? (i := 1342) (by decide +kernel)) rfl
theorem tb_1343 : Cond.selects RX12 yX12_fled yX12_fled ∈ gw_tbl := mg (List.mem_of_getElem? (i := 1343) (by decide +kernel)) rfl
theorem tb_1344 : Cond.code yX12_fled cX12_fled 2 (some .int) ∈ gw_tbl := mg (List.mem_of_getElem? (i := 1344) (by decide +kernel)) rfl
theorem tb_1345 : Cond.methodLink RL 116 yX12_doubt ∈ gw_tbl := mg (List.mem_of_getElem? (i := 1345) (by decide +kernel)) rfl
theorem tb_1346 : Cond.instanceMethod yX12_doubt ∈ gw_tbl := mg (List.mem_of_getElem? (i := 1346) (by decide +kernel)) rfl
theorem tb_1347 : Cond.selects RX12 yX12_doubt yX12_doubt ∈ gw_tbl := mg (List.mem_of_getElem? (i := 1347) (by decide +kernel)) rfl
theorem tb_1348 : Cond.code yX12_doubt cX12_doubt 16 (some .long) ∈ gw_tbl := mg (List.mem_of_getElem? (i := 1348) (by decide +kernel)) rfl
theorem tb_1358 : Cond.methodLink RL 120 yX12_count ∈ gw_tbl := mg (List.mem_of_getElem? (i := 1358) (by decide +kernel)) rfl
theorem tb_1359 : Cond.instanceMethod yX12_count ∈ gw_tbl := mg (List.mem_of_getElem? (i := 1359) (by decide +kernel)) rfl
theorem tb_1360 : Cond.selects RX12 yX12_count yX12_count ∈ gw_tbl := mg (List.mem_of_getElem? (i := 1360) (by decide +kernel)) rfl
theorem tb_1361 : Cond.code yX12_count cX12_count 2 (some .int) ∈ gw_tbl := mg (List.mem_of_getElem? (i := 1361) (by decide +kernel)) rfl
theorem nd_11 : ND 11 9 RX11 TX11 := ⟨inX11, ⟨tyX11, tyX11_ok, by decide +kernel⟩, tb_71, tb_49, rfl, by decide⟩
theorem nd_12 : ND 12 56 RX12 TX12 := ⟨inX12, ⟨tyX12, tyX12_ok, by decide +kernel⟩, tb_973, tb_61, rfl, by decide⟩
theorem mv_X11_about : MV yX11_about cX11_about 4 (some .int) RX11 2 := ⟨tb_831, tb_829, tb_830, tb_49, by decide +kernel⟩
theorem mv_X11_charge : MV yX11_charge cX11_charge 5 (some .int) RX11 4 := ⟨tb_839, tb_837, tb_838, tb_49, by decide +kernel⟩
theorem mv_X11_charged : MV yX11_charged cX11_charged 4 (some .int) RX11 2 := ⟨tb_894, tb_892, tb_893, tb_49, by decide +kernel⟩
theorem mv_X11_count : MV yX11_count cX11_count 2 (some .int) RX11 1 := ⟨tb_963, tb_961, tb_962, tb_49, by decide +kernel⟩
theorem mv_X11_court : MV yX11_court cX11_court 4 (some .int) RX11 3 := ⟨tb_420, tb_418, tb_419, tb_49, by decide +kernel⟩
theorem mv_X11_cry : MV yX11_cry cX11_cry 6 (some .int) RX11 2 := ⟨tb_546, tb_544, tb_545, tb_49, by decide +kernel⟩
theorem mv_X11_doubt : MV yX11_doubt cX11_doubt 14 (some .long) RX11 5 := ⟨tb_944, tb_942, tb_943, tb_49, by decide +kernel⟩
theorem mv_X11_end : MV yX11_end cX11_end 2 (some .int) RX11 1 := ⟨tb_412, tb_410, tb_411, tb_49, by decide +kernel⟩
theorem mv_X11_far : MV yX11_far cX11_far 3 (some .int) RX11 2 := ⟨tb_449, tb_447, tb_448, tb_49, by decide +kernel⟩
theorem mv_X11_fault : MV yX11_fault cX11_fault 2 (some .int) RX11 1 := ⟨tb_692, tb_690, tb_691, tb_49, by decide +kernel⟩
theorem mv_X11_feed : MV yX11_feed cX11_feed 6 (some .int) RX11 5 := ⟨tb_396, tb_394, tb_395, tb_49, by decide +kernel⟩
theorem mv_X11_fill : MV yX11_fill cX11_fill 4 (some .int) RX11 2 := ⟨tb_777, tb_775, tb_776, tb_49, by decide +kernel⟩
theorem mv_X11_fled : MV yX11_fled cX11_fled 2 (some .int) RX11 1 := ⟨tb_936, tb_934, tb_935, tb_49, by decide +kernel⟩
theorem mv_X11_flee : MV yX11_flee cX11_flee 3 (some .int) RX11 1 := ⟨tb_914, tb_912, tb_913, tb_49, by decide +kernel⟩
theorem mv_X11_house : MV yX11_house cX11_house 3 (some .int) RX11 2 := ⟨tb_727, tb_725, tb_726, tb_49, by decide +kernel⟩
theorem mv_X11_init : MC yX11_init cX11_init 2 0 := ⟨tb_74, tb_73, tb_49, rfl, by decide +kernel⟩
theorem mv_X11_law : MV yX11_law cX11_law 3 (some .int) RX11 2 := ⟨tb_704, tb_702, tb_703, tb_49, by decide +kernel⟩
theorem mv_X11_laws : MV yX11_laws cX11_laws 3 (some .int) RX11 1 := ⟨tb_550, tb_548, tb_549, tb_49, by decide +kernel⟩
theorem mv_X11_may : MV yX11_may cX11_may 5 (some .int) RX11 4 := ⟨tb_712, tb_710, tb_711, tb_49, by decide +kernel⟩
theorem mv_X11_morning : MV yX11_morning cX11_morning 2 (some .int) RX11 0 := ⟨tb_906, tb_904, tb_905, tb_49, by decide +kernel⟩
theorem mv_X11_purse : MV yX11_purse cX11_purse 4 (some .int) RX11 2 := ⟨tb_763, tb_761, tb_762, tb_49, by decide +kernel⟩
theorem mv_X11_round : MV yX11_round cX11_round 2 (some .int) RX11 1 := ⟨tb_537, tb_535, tb_536, tb_49, by decide +kernel⟩
theorem mv_X11_rounds : MV yX11_rounds cX11_rounds 2 (some .int) RX11 1 := ⟨tb_468, tb_466, tb_467, tb_49, by decide +kernel⟩
theorem mv_X11_way : MV yX11_way cX11_way 6 (some .int) RX11 3 := ⟨tb_437, tb_435, tb_436, tb_49, by decide +kernel⟩
theorem mv_X11_would : MV yX11_would cX11_would 5 (some .int) RX11 2 := ⟨tb_773, tb_771, tb_772, tb_49, by decide +kernel⟩
theorem mv_X11_year : MV yX11_year cX11_year 4 (some .int) RX11 3 := ⟨tb_823, tb_821, tb_822, tb_49, by decide +kernel⟩
theorem mv_X12_about : MV yX12_about cX12_about 3 (some .int) RX12 2 := ⟨tb_1312, tb_1310, tb_1311, tb_61, by decide +kernel⟩
theorem mv_X12_charge : MV yX12_charge cX12_charge 6 (some .int) RX12 4 := ⟨tb_1316, tb_1314, tb_1315, tb_61, by decide +kernel⟩
theorem mv_X12_charged : MV yX12_charged cX12_charged 3 (some .int) RX12 2 := ⟨tb_1332, tb_1330, tb_1331, tb_61, by decide +kernel⟩
theorem mv_X12_count : MV yX12_count cX12_count 2 (some .int) RX12 1 := ⟨tb_1361, tb_1359, tb_1360, tb_61, by decide +kernel⟩
theorem mv_X12_court : MV yX12_court cX12_court 4 (some .int) RX12 3 := ⟨tb_1166, tb_1164, tb_1165, tb_61, by decide +kernel⟩
theorem mv_X12_cry : MV yX12_cry cX12_cry 5 (some .int) RX12 2 := ⟨tb_1210, tb_1208, tb_1209, tb_61, by decide +kernel⟩
theorem mv_X12_doubt : MV yX12_doubt cX12_doubt 16 (some .long) RX12 5 := ⟨tb_1348, tb_1346, tb_1347, tb_61, by decide +kernel⟩
theorem mv_X12_end : MV yX12_end cX12_end 2 (some .int) RX12 1 := ⟨tb_1162, tb_1160, tb_1161, tb_61, by decide +kernel⟩
theorem mv_X12_far : MV yX12_far cX12_far 4 (some .int) RX12 2 := ⟨tb_1183, tb_1181, tb_1182, tb_61, by decide +kernel⟩
theorem mv_X12_fault : MV yX12_fault cX12_fault 2 (some .int) RX12 1 := ⟨tb_1267, tb_1265, tb_1266, tb_61, by decide +kernel⟩
theorem mv_X12_feed : MV yX12_feed cX12_feed 9 (some .int) RX12 5 := ⟨tb_1158, tb_1156, tb_1157, tb_61, by decide +kernel⟩
theorem mv_X12_fill : MV yX12_fill cX12_fill 9 (some .int) RX12 2 := ⟨tb_1300, tb_1298, tb_1299, tb_61, by decide +kernel⟩
theorem mv_X12_fled : MV yX12_fled cX12_fled 2 (some .int) RX12 1 := ⟨tb_1344, tb_1342, tb_1343, tb_61, by decide +kernel⟩
theorem mv_X12_flee : MV yX12_flee cX12_flee 12 (some .int) RX12 1 := ⟨tb_1340, tb_1338, tb_1339, tb_61, by decide +kernel⟩
theorem mv_X12_house : MV yX12_house cX12_house 3 (some .int) RX12 2 := ⟨tb_1283, tb_1281, tb_1282, tb_61, by decide +kernel⟩
theorem mv_X12_init : MC yX12_init cX12_init 3 0 := ⟨tb_976, tb_975, tb_61, rfl, by decide +kernel⟩
theorem mv_X12_law : MV yX12_law cX12_law 3 (some .int) RX12 2 := ⟨tb_1271, tb_1269, tb_1270, tb_61, by decide +kernel⟩
theorem mv_X12_laws : MV yX12_laws cX12_laws 6 (some .int) RX12 1 := ⟨tb_1214, tb_1212, tb_1213, tb_61, by decide +kernel⟩
theorem mv_X12_may : MV yX12_may cX12_may 5 (some .int) RX12 4 := ⟨tb_1275, tb_1273, tb_1274, tb_61, by decide +kernel⟩
theorem mv_X12_morning : MV yX12_morning cX12_morning 3 (some .int) RX12 0 := ⟨tb_1336, tb_1334, tb_1335, tb_61, by decide +kernel⟩
theorem mv_X12_purse : MV yX12_purse cX12_purse 3 (some .int) RX12 2 := ⟨tb_1287, tb_1285, tb_1286, tb_61, by decide +kernel⟩
theorem mv_X12_round : MV yX12_round cX12_round 2 (some .int) RX12 1 := ⟨tb_1206, tb_1204, tb_1205, tb_61, by decide +kernel⟩
theorem mv_X12_rounds : MV yX12_rounds cX12_rounds 6 (some .int) RX12 1 := ⟨tb_1187, tb_1185, tb_1186, tb_61, by decide +kernel⟩
theorem mv_X12_way : MV yX12_way cX12_way 5 (some .int) RX12 3 := ⟨tb_1179, tb_1177, tb_1178, tb_61, by decide +kernel⟩
theorem mv_X12_would : MV yX12_would cX12_would 4 (some .int) RX12 2 := ⟨tb_1296, tb_1294, tb_1295, tb_61, by decide +kernel⟩
theorem mv_X12_year : MV yX12_year cX12_year 5 (some .int) RX12 3 := ⟨tb_1308, tb_1306, tb_1307, tb_61, by decide +kernel⟩
