theorem mw_329 : Cond.methodLink RL 13 yX6_feed ∈ ww_T := ww_Tt2 31 (by decide +kernel) rfl
theorem mw_340 : Cond.methodLink RL 18 yX6_end ∈ ww_T := ww_Tt2 42 (by decide +kernel) rfl
theorem mw_344 : Cond.methodLink RL 22 yX6_text ∈ ww_T := ww_Tt2 46 (by decide +kernel) rfl
theorem mw_527 : Cond.methodLink RL 27 yX6_fault ∈ ww_T := ww_Tt2 229 (by decide +kernel) rfl
theorem mw_531 : Cond.methodLink RL 31 yX6_rule ∈ ww_T := ww_Tt2 233 (by decide +kernel) rfl
theorem mw_535 : Cond.methodLink RL 35 yX6_place ∈ ww_T := ww_Tt2 237 (by decide +kernel) rfl
theorem mw_543 : Cond.methodLink RL 40 yX6_level ∈ ww_T := ww_Tt3 5 (by decide +kernel) rfl
theorem mw_548 : Cond.methodLink RL 44 yX6_beast ∈ ww_T := ww_Tt3 10 (by decide +kernel) rfl
theorem mw_560 : Cond.methodLink RL 48 yX6_part ∈ ww_T := ww_Tt3 22 (by decide +kernel) rfl
theorem mw_597 : Cond.methodLink RL 52 yX6_mark ∈ ww_T := ww_Tt3 59 (by decide +kernel) rfl
theorem mw_601 : Cond.methodLink RL 56 yX6_own ∈ ww_T := ww_Tt3 63 (by decide +kernel) rfl
theorem mw_605 : Cond.methodLink RL 60 yX6_law ∈ ww_T := ww_Tt3 67 (by decide +kernel) rfl
theorem mw_609 : Cond.methodLink RL 64 yX6_rot ∈ ww_T := ww_Tt3 71 (by decide +kernel) rfl
theorem mw_613 : Cond.methodLink RL 68 yX6_gangs ∈ ww_T := ww_Tt3 75 (by decide +kernel) rfl
theorem mw_617 : Cond.methodLink RL 72 yX6_lump ∈ ww_T := ww_Tt3 79 (by decide +kernel) rfl
theorem mw_621 : Cond.methodLink RL 76 yX6_go ∈ ww_T := ww_Tt3 83 (by decide +kernel) rfl
theorem mw_650 : Cond.methodLink RL 80 yX6_wet ∈ ww_T := ww_Tt3 112 (by decide +kernel) rfl
theorem mw_655 : Cond.methodLink RL 84 yX6_floats ∈ ww_T := ww_Tt3 117 (by decide +kernel) rfl
theorem mw_660 : Cond.methodLink RL 88 yX6_has ∈ ww_T := ww_Tt3 122 (by decide +kernel) rfl
theorem mw_664 : Cond.methodLink RL 92 yX6_best ∈ ww_T := ww_Tt3 126 (by decide +kernel) rfl
theorem mw_744 : Cond.methodLink RL 96 yX6_worth ∈ ww_T := ww_Tt3 206 (by decide +kernel) rfl
theorem mw_748 : Cond.methodLink RL 100 yX6_salted ∈ ww_T := ww_Tt3 210 (by decide +kernel) rfl
theorem mw_752 : Cond.methodLink RL 104 yX6_share ∈ ww_T := ww_Tt3 214 (by decide +kernel) rfl
theorem mw_760 : Cond.methodLink RL 108 yX6_tell ∈ ww_T := ww_Tt3 222 (by decide +kernel) rfl
theorem mw_768 : Cond.methodLink RL 112 yX6_forget ∈ ww_T := ww_Tt3 230 (by decide +kernel) rfl
theorem mw_772 : Cond.methodLink RL 116 yX6_laws ∈ ww_T := ww_Tt3 234 (by decide +kernel) rfl
theorem mw_781 : Cond.methodLink RL 120 yX6_whose ∈ ww_T := ww_Tt4 3 (by decide +kernel) rfl
theorem mw_785 : Cond.methodLink RL 124 yX6_strand ∈ ww_T := ww_Tt4 7 (by decide +kernel) rfl
theorem mw_794 : Cond.methodLink RL 128 yX6_luck ∈ ww_T := ww_Tt4 16 (by decide +kernel) rfl
theorem mw_801 : Cond.methodLink RL 133 yX6_open ∈ ww_T := ww_Tt4 23 (by decide +kernel) rfl
theorem mw_810 : Cond.methodLink RL 137 yX6_drift ∈ ww_T := ww_Tt4 32 (by decide +kernel) rfl
theorem mw_824 : Cond.methodLink RL 142 yX6_keep ∈ ww_T := ww_Tt4 46 (by decide +kernel) rfl
theorem mw_828 : Cond.methodLink RL 146 yX6_back ∈ ww_T := ww_Tt4 50 (by decide +kernel) rfl
theorem mw_832 : Cond.methodLink RL 150 yX6_sheet ∈ ww_T := ww_Tt4 54 (by decide +kernel) rfl
theorem mw_841 : Cond.methodLink RL 154 yX6_lay ∈ ww_T := ww_Tt4 63 (by decide +kernel) rfl
theorem mw_854 : Cond.methodLink RL 158 yX6_read ∈ ww_T := ww_Tt4 76 (by decide +kernel) rfl
theorem mw_858 : Cond.methodLink RL 163 yX6_torn ∈ ww_T := ww_Tt4 80 (by decide +kernel) rfl
theorem mw_862 : Cond.methodLink RL 167 yX6_count ∈ ww_T := ww_Tt4 84 (by decide +kernel) rfl
theorem mw_986 : Cond.methodLink RL 17 yX7_feed ∈ ww_T := ww_Tt4 208 (by decide +kernel) rfl
theorem mw_994 : Cond.methodLink RL 21 yX7_end ∈ ww_T := ww_Tt4 216 (by decide +kernel) rfl
theorem mw_998 : Cond.methodLink RL 26 yX7_text ∈ ww_T := ww_Tt4 220 (by decide +kernel) rfl
theorem mw_1061 : Cond.methodLink RL 30 yX7_fault ∈ ww_T := ww_Tt5 43 (by decide +kernel) rfl
theorem mw_1065 : Cond.methodLink RL 34 yX7_rule ∈ ww_T := ww_Tt5 47 (by decide +kernel) rfl
theorem mw_1073 : Cond.methodLink RL 39 yX7_place ∈ ww_T := ww_Tt5 55 (by decide +kernel) rfl
theorem mw_1081 : Cond.methodLink RL 43 yX7_level ∈ ww_T := ww_Tt5 63 (by decide +kernel) rfl
theorem mw_1086 : Cond.methodLink RL 47 yX7_beast ∈ ww_T := ww_Tt5 68 (by decide +kernel) rfl
theorem mw_1094 : Cond.methodLink RL 51 yX7_part ∈ ww_T := ww_Tt5 76 (by decide +kernel) rfl
theorem mw_1117 : Cond.methodLink RL 55 yX7_mark ∈ ww_T := ww_Tt5 99 (by decide +kernel) rfl
theorem mw_1126 : Cond.methodLink RL 59 yX7_own ∈ ww_T := ww_Tt5 108 (by decide +kernel) rfl
theorem mw_1131 : Cond.methodLink RL 63 yX7_law ∈ ww_T := ww_Tt5 113 (by decide +kernel) rfl
theorem mw_1135 : Cond.methodLink RL 67 yX7_rot ∈ ww_T := ww_Tt5 117 (by decide +kernel) rfl
theorem mw_1139 : Cond.methodLink RL 71 yX7_gangs ∈ ww_T := ww_Tt5 121 (by decide +kernel) rfl
theorem mw_1143 : Cond.methodLink RL 75 yX7_lump ∈ ww_T := ww_Tt5 125 (by decide +kernel) rfl
theorem mw_1148 : Cond.methodLink RL 79 yX7_go ∈ ww_T := ww_Tt5 130 (by decide +kernel) rfl
theorem mw_1164 : Cond.methodLink RL 83 yX7_wet ∈ ww_T := ww_Tt5 146 (by decide +kernel) rfl
theorem mw_1168 : Cond.methodLink RL 87 yX7_floats ∈ ww_T := ww_Tt5 150 (by decide +kernel) rfl
theorem mw_1172 : Cond.methodLink RL 91 yX7_has ∈ ww_T := ww_Tt5 154 (by decide +kernel) rfl
theorem mw_1176 : Cond.methodLink RL 95 yX7_best ∈ ww_T := ww_Tt5 158 (by decide +kernel) rfl
theorem mw_1205 : Cond.methodLink RL 99 yX7_worth ∈ ww_T := ww_Tt5 187 (by decide +kernel) rfl
theorem mw_1209 : Cond.methodLink RL 103 yX7_salted ∈ ww_T := ww_Tt5 191 (by decide +kernel) rfl
theorem mw_1213 : Cond.methodLink RL 107 yX7_share ∈ ww_T := ww_Tt5 195 (by decide +kernel) rfl
theorem mw_1221 : Cond.methodLink RL 111 yX7_tell ∈ ww_T := ww_Tt5 203 (by decide +kernel) rfl
theorem mw_1226 : Cond.methodLink RL 115 yX7_forget ∈ ww_T := ww_Tt5 208 (by decide +kernel) rfl
theorem mw_1230 : Cond.methodLink RL 119 yX7_laws ∈ ww_T := ww_Tt5 212 (by decide +kernel) rfl
theorem mw_1238 : Cond.methodLink RL 123 yX7_whose ∈ ww_T := ww_Tt5 220 (by decide +kernel) rfl
theorem mw_1242 : Cond.methodLink RL 127 yX7_strand ∈ ww_T := ww_Tt5 224 (by decide +kernel) rfl
theorem mw_1247 : Cond.methodLink RL 132 yX7_luck ∈ ww_T := ww_Tt5 229 (by decide +kernel) rfl
theorem mw_1255 : Cond.methodLink RL 136 yX7_open ∈ ww_T := ww_Tt5 237 (by decide +kernel) rfl
theorem mw_1259 : Cond.methodLink RL 141 yX7_drift ∈ ww_T := ww_Tt6 1 (by decide +kernel) rfl
theorem mw_1277 : Cond.methodLink RL 145 yX7_keep ∈ ww_T := ww_Tt6 19 (by decide +kernel) rfl
theorem mw_1281 : Cond.methodLink RL 149 yX7_back ∈ ww_T := ww_Tt6 23 (by decide +kernel) rfl
theorem mw_1285 : Cond.methodLink RL 153 yX7_sheet ∈ ww_T := ww_Tt6 27 (by decide +kernel) rfl
theorem mw_1289 : Cond.methodLink RL 157 yX7_lay ∈ ww_T := ww_Tt6 31 (by decide +kernel) rfl
theorem mw_1293 : Cond.methodLink RL 162 yX7_read ∈ ww_T := ww_Tt6 35 (by decide +kernel) rfl
theorem mw_1298 : Cond.methodLink RL 166 yX7_torn ∈ ww_T := ww_Tt6 40 (by decide +kernel) rfl
theorem mw_1302 : Cond.methodLink RL 170 yX7_count ∈ ww_T := ww_Tt6 44 (by decide +kernel) rfl
theorem mw_831 : Cond.code yX6_back cX6_back 2 (some .int) ∈ ww_T := ww_Tt4 53 (by decide +kernel) rfl
theorem mw_829 : Cond.instanceMethod yX6_back ∈ ww_T := ww_Tt4 51 (by decide +kernel) rfl
theorem mw_830 : Cond.selects RX6 yX6_back yX6_back ∈ ww_T := ww_Tt4 52 (by decide +kernel) rfl
theorem mw_551 : Cond.code yX6_beast cX6_beast 3 (some .int) ∈ ww_T := ww_Tt3 13 (by decide +kernel) rfl
theorem mw_549 : Cond.instanceMethod yX6_beast ∈ ww_T := ww_Tt3 11 (by decide +kernel) rfl
theorem mw_550 : Cond.selects RX6 yX6_beast yX6_beast ∈ ww_T := ww_Tt3 12 (by decide +kernel) rfl
theorem mw_667 : Cond.code yX6_best cX6_best 4 (some .int) ∈ ww_T := ww_Tt3 129 (by decide +kernel) rfl
theorem mw_665 : Cond.instanceMethod yX6_best ∈ ww_T := ww_Tt3 127 (by decide +kernel) rfl
theorem mw_666 : Cond.selects RX6 yX6_best yX6_best ∈ ww_T := ww_Tt3 128 (by decide +kernel) rfl
theorem mw_865 : Cond.code yX6_count cX6_count 2 (some .int) ∈ ww_T := ww_Tt4 87 (by decide +kernel) rfl
theorem mw_863 : Cond.instanceMethod yX6_count ∈ ww_T := ww_Tt4 85 (by decide +kernel) rfl
theorem mw_864 : Cond.selects RX6 yX6_count yX6_count ∈ ww_T := ww_Tt4 86 (by decide +kernel) rfl
theorem mw_813 : Cond.code yX6_drift cX6_drift 9 (some .int) ∈ ww_T := ww_Tt4 35 (by decide +kernel) rfl
theorem mw_811 : Cond.instanceMethod yX6_drift ∈ ww_T := ww_Tt4 33 (by decide +kernel) rfl
theorem mw_812 : Cond.selects RX6 yX6_drift yX6_drift ∈ ww_T := ww_Tt4 34 (by decide +kernel) rfl
theorem mw_343 : Cond.code yX6_end cX6_end 3 (some .int) ∈ ww_T := ww_Tt2 45 (by decide +kernel) rfl
theorem mw_341 : Cond.instanceMethod yX6_end ∈ ww_T := ww_Tt2 43 (by decide +kernel) rfl
theorem mw_342 : Cond.selects RX6 yX6_end yX6_end ∈ ww_T := ww_Tt2 44 (by decide +kernel) rfl
theorem mw_530 : Cond.code yX6_fault cX6_fault 1 (some .int) ∈ ww_T := ww_Tt2 232 (by decide +kernel) rfl
theorem mw_528 : Cond.instanceMethod yX6_fault ∈ ww_T := ww_Tt2 230 (by decide +kernel) rfl
theorem mw_529 : Cond.selects RX6 yX6_fault yX6_fault ∈ ww_T := ww_Tt2 231 (by decide +kernel) rfl
theorem mw_332 : Cond.code yX6_feed cX6_feed 2 (some .int) ∈ ww_T := ww_Tt2 34 (by decide +kernel) rfl
theorem mw_330 : Cond.instanceMethod yX6_feed ∈ ww_T := ww_Tt2 32 (by decide +kernel) rfl
theorem mw_331 : Cond.selects RX6 yX6_feed yX6_feed ∈ ww_T := ww_Tt2 33 (by decide +kernel) rfl
theorem mw_658 : Cond.code yX6_floats cX6_floats 3 (some .int) ∈ ww_T := ww_Tt3 120 (by decide +kernel) rfl
theorem mw_656 : Cond.instanceMethod yX6_floats ∈ ww_T := ww_Tt3 118 (by decide +kernel) rfl
theorem mw_657 : Cond.selects RX6 yX6_floats yX6_floats ∈ ww_T := ww_Tt3 119 (by decide +kernel) rfl
theorem mw_771 : Cond.code yX6_forget cX6_forget 3 (some .int) ∈ ww_T := ww_Tt3 233 (by decide +kernel) rfl
theorem mw_769 : Cond.instanceMethod yX6_forget ∈ ww_T := ww_Tt3 231 (by decide +kernel) rfl
theorem mw_770 : Cond.selects RX6 yX6_forget yX6_forget ∈ ww_T := ww_Tt3 232 (by decide +kernel) rfl
theorem mw_616 : Cond.code yX6_gangs cX6_gangs 3 (some .int) ∈ ww_T := ww_Tt3 78 (by decide +kernel) rfl
theorem mw_614 : Cond.instanceMethod yX6_gangs ∈ ww_T := ww_Tt3 76 (by decide +kernel) rfl
theorem mw_615 : Cond.selects RX6 yX6_gangs yX6_gangs ∈ ww_T := ww_Tt3 77 (by decide +kernel) rfl
theorem mw_624 : Cond.code yX6_go cX6_go 4 (some .int) ∈ ww_T := ww_Tt3 86 (by decide +kernel) rfl
theorem mw_622 : Cond.instanceMethod yX6_go ∈ ww_T := ww_Tt3 84 (by decide +kernel) rfl
theorem mw_623 : Cond.selects RX6 yX6_go yX6_go ∈ ww_T := ww_Tt3 85 (by decide +kernel) rfl
theorem mw_663 : Cond.code yX6_has cX6_has 2 (some .int) ∈ ww_T := ww_Tt3 125 (by decide +kernel) rfl
theorem mw_661 : Cond.instanceMethod yX6_has ∈ ww_T := ww_Tt3 123 (by decide +kernel) rfl
theorem mw_662 : Cond.selects RX6 yX6_has yX6_has ∈ ww_T := ww_Tt3 124 (by decide +kernel) rfl
theorem mw_827 : Cond.code yX6_keep cX6_keep 3 (some .int) ∈ ww_T := ww_Tt4 49 (by decide +kernel) rfl
theorem mw_825 : Cond.instanceMethod yX6_keep ∈ ww_T := ww_Tt4 47 (by decide +kernel) rfl
theorem mw_826 : Cond.selects RX6 yX6_keep yX6_keep ∈ ww_T := ww_Tt4 48 (by decide +kernel) rfl
theorem mw_608 : Cond.code yX6_law cX6_law 3 (some .int) ∈ ww_T := ww_Tt3 70 (by decide +kernel) rfl
theorem mw_606 : Cond.instanceMethod yX6_law ∈ ww_T := ww_Tt3 68 (by decide +kernel) rfl
theorem mw_607 : Cond.selects RX6 yX6_law yX6_law ∈ ww_T := ww_Tt3 69 (by decide +kernel) rfl
theorem mw_775 : Cond.code yX6_laws cX6_laws 3 (some .int) ∈ ww_T := ww_Tt3 237 (by decide +kernel) rfl
theorem mw_773 : Cond.instanceMethod yX6_laws ∈ ww_T := ww_Tt3 235 (by decide +kernel) rfl
theorem mw_774 : Cond.selects RX6 yX6_laws yX6_laws ∈ ww_T := ww_Tt3 236 (by decide +kernel) rfl
theorem mw_844 : Cond.code yX6_lay cX6_lay 6 (some .int) ∈ ww_T := ww_Tt4 66 (by decide +kernel) rfl
theorem mw_842 : Cond.instanceMethod yX6_lay ∈ ww_T := ww_Tt4 64 (by decide +kernel) rfl
theorem mw_843 : Cond.selects RX6 yX6_lay yX6_lay ∈ ww_T := ww_Tt4 65 (by decide +kernel) rfl
theorem mw_546 : Cond.code yX6_level cX6_level 2 (some .int) ∈ ww_T := ww_Tt3 8 (by decide +kernel) rfl
theorem mw_544 : Cond.instanceMethod yX6_level ∈ ww_T := ww_Tt3 6 (by decide +kernel) rfl
theorem mw_545 : Cond.selects RX6 yX6_level yX6_level ∈ ww_T := ww_Tt3 7 (by decide +kernel) rfl
theorem mw_797 : Cond.code yX6_luck cX6_luck 10 (some .long) ∈ ww_T := ww_Tt4 19 (by decide +kernel) rfl
theorem mw_795 : Cond.instanceMethod yX6_luck ∈ ww_T := ww_Tt4 17 (by decide +kernel) rfl
theorem mw_796 : Cond.selects RX6 yX6_luck yX6_luck ∈ ww_T := ww_Tt4 18 (by decide +kernel) rfl
theorem mw_620 : Cond.code yX6_lump cX6_lump 5 (some .int) ∈ ww_T := ww_Tt3 82 (by decide +kernel) rfl
theorem mw_618 : Cond.instanceMethod yX6_lump ∈ ww_T := ww_Tt3 80 (by decide +kernel) rfl
theorem mw_619 : Cond.selects RX6 yX6_lump yX6_lump ∈ ww_T := ww_Tt3 81 (by decide +kernel) rfl
theorem mw_600 : Cond.code yX6_mark cX6_mark 4 (some .int) ∈ ww_T := ww_Tt3 62 (by decide +kernel) rfl
theorem mw_598 : Cond.instanceMethod yX6_mark ∈ ww_T := ww_Tt3 60 (by decide +kernel) rfl
theorem mw_599 : Cond.selects RX6 yX6_mark yX6_mark ∈ ww_T := ww_Tt3 61 (by decide +kernel) rfl
theorem mw_804 : Cond.code yX6_open cX6_open 3 (some .int) ∈ ww_T := ww_Tt4 26 (by decide +kernel) rfl
theorem mw_802 : Cond.instanceMethod yX6_open ∈ ww_T := ww_Tt4 24 (by decide +kernel) rfl
theorem mw_803 : Cond.selects RX6 yX6_open yX6_open ∈ ww_T := ww_Tt4 25 (by decide +kernel) rfl
theorem mw_604 : Cond.code yX6_own cX6_own 4 (some .int) ∈ ww_T := ww_Tt3 66 (by decide +kernel) rfl
theorem mw_602 : Cond.instanceMethod yX6_own ∈ ww_T := ww_Tt3 64 (by decide +kernel) rfl
theorem mw_603 : Cond.selects RX6 yX6_own yX6_own ∈ ww_T := ww_Tt3 65 (by decide +kernel) rfl
theorem mw_563 : Cond.code yX6_part cX6_part 4 (some .int) ∈ ww_T := ww_Tt3 25 (by decide +kernel) rfl
theorem mw_561 : Cond.instanceMethod yX6_part ∈ ww_T := ww_Tt3 23 (by decide +kernel) rfl
theorem mw_562 : Cond.selects RX6 yX6_part yX6_part ∈ ww_T := ww_Tt3 24 (by decide +kernel) rfl
theorem mw_538 : Cond.code yX6_place cX6_place 3 (some .int) ∈ ww_T := ww_Tt3 0 (by decide +kernel) rfl
theorem mw_536 : Cond.instanceMethod yX6_place ∈ ww_T := ww_Tt2 238 (by decide +kernel) rfl
theorem mw_537 : Cond.selects RX6 yX6_place yX6_place ∈ ww_T := ww_Tt2 239 (by decide +kernel) rfl
theorem mw_857 : Cond.code yX6_read cX6_read 9 (some .int) ∈ ww_T := ww_Tt4 79 (by decide +kernel) rfl
theorem mw_855 : Cond.instanceMethod yX6_read ∈ ww_T := ww_Tt4 77 (by decide +kernel) rfl
theorem mw_856 : Cond.selects RX6 yX6_read yX6_read ∈ ww_T := ww_Tt4 78 (by decide +kernel) rfl
theorem mw_612 : Cond.code yX6_rot cX6_rot 3 (some .int) ∈ ww_T := ww_Tt3 74 (by decide +kernel) rfl
theorem mw_610 : Cond.instanceMethod yX6_rot ∈ ww_T := ww_Tt3 72 (by decide +kernel) rfl
theorem mw_611 : Cond.selects RX6 yX6_rot yX6_rot ∈ ww_T := ww_Tt3 73 (by decide +kernel) rfl
theorem mw_534 : Cond.code yX6_rule cX6_rule 2 (some .int) ∈ ww_T := ww_Tt2 236 (by decide +kernel) rfl
theorem mw_532 : Cond.instanceMethod yX6_rule ∈ ww_T := ww_Tt2 234 (by decide +kernel) rfl
theorem mw_533 : Cond.selects RX6 yX6_rule yX6_rule ∈ ww_T := ww_Tt2 235 (by decide +kernel) rfl
theorem mw_751 : Cond.code yX6_salted cX6_salted 7 (some .int) ∈ ww_T := ww_Tt3 213 (by decide +kernel) rfl
theorem mw_749 : Cond.instanceMethod yX6_salted ∈ ww_T := ww_Tt3 211 (by decide +kernel) rfl
theorem mw_750 : Cond.selects RX6 yX6_salted yX6_salted ∈ ww_T := ww_Tt3 212 (by decide +kernel) rfl
theorem mw_755 : Cond.code yX6_share cX6_share 3 (some .int) ∈ ww_T := ww_Tt3 217 (by decide +kernel) rfl
theorem mw_753 : Cond.instanceMethod yX6_share ∈ ww_T := ww_Tt3 215 (by decide +kernel) rfl
theorem mw_754 : Cond.selects RX6 yX6_share yX6_share ∈ ww_T := ww_Tt3 216 (by decide +kernel) rfl
theorem mw_835 : Cond.code yX6_sheet cX6_sheet 4 (some .int) ∈ ww_T := ww_Tt4 57 (by decide +kernel) rfl
theorem mw_833 : Cond.instanceMethod yX6_sheet ∈ ww_T := ww_Tt4 55 (by decide +kernel) rfl
theorem mw_834 : Cond.selects RX6 yX6_sheet yX6_sheet ∈ ww_T := ww_Tt4 56 (by decide +kernel) rfl
theorem mw_788 : Cond.code yX6_strand cX6_strand 11 (some .int) ∈ ww_T := ww_Tt4 10 (by decide +kernel) rfl
theorem mw_786 : Cond.instanceMethod yX6_strand ∈ ww_T := ww_Tt4 8 (by decide +kernel) rfl
theorem mw_787 : Cond.selects RX6 yX6_strand yX6_strand ∈ ww_T := ww_Tt4 9 (by decide +kernel) rfl
theorem mw_763 : Cond.code yX6_tell cX6_tell 3 (some .int) ∈ ww_T := ww_Tt3 225 (by decide +kernel) rfl
theorem mw_761 : Cond.instanceMethod yX6_tell ∈ ww_T := ww_Tt3 223 (by decide +kernel) rfl
theorem mw_762 : Cond.selects RX6 yX6_tell yX6_tell ∈ ww_T := ww_Tt3 224 (by decide +kernel) rfl
theorem mw_347 : Cond.code yX6_text cX6_text 2 (some .int) ∈ ww_T := ww_Tt2 49 (by decide +kernel) rfl
theorem mw_345 : Cond.instanceMethod yX6_text ∈ ww_T := ww_Tt2 47 (by decide +kernel) rfl
theorem mw_346 : Cond.selects RX6 yX6_text yX6_text ∈ ww_T := ww_Tt2 48 (by decide +kernel) rfl
theorem mw_861 : Cond.code yX6_torn cX6_torn 1 (some .int) ∈ ww_T := ww_Tt4 83 (by decide +kernel) rfl
theorem mw_859 : Cond.instanceMethod yX6_torn ∈ ww_T := ww_Tt4 81 (by decide +kernel) rfl
theorem mw_860 : Cond.selects RX6 yX6_torn yX6_torn ∈ ww_T := ww_Tt4 82 (by decide +kernel) rfl
theorem mw_653 : Cond.code yX6_wet cX6_wet 2 (some .int) ∈ ww_T := ww_Tt3 115 (by decide +kernel) rfl
theorem mw_651 : Cond.instanceMethod yX6_wet ∈ ww_T := ww_Tt3 113 (by decide +kernel) rfl
theorem mw_652 : Cond.selects RX6 yX6_wet yX6_wet ∈ ww_T := ww_Tt3 114 (by decide +kernel) rfl
theorem mw_784 : Cond.code yX6_whose cX6_whose 5 (some .int) ∈ ww_T := ww_Tt4 6 (by decide +kernel) rfl
theorem mw_782 : Cond.instanceMethod yX6_whose ∈ ww_T := ww_Tt4 4 (by decide +kernel) rfl
theorem mw_783 : Cond.selects RX6 yX6_whose yX6_whose ∈ ww_T := ww_Tt4 5 (by decide +kernel) rfl
theorem mw_747 : Cond.code yX6_worth cX6_worth 4 (some .int) ∈ ww_T := ww_Tt3 209 (by decide +kernel) rfl
theorem mw_745 : Cond.instanceMethod yX6_worth ∈ ww_T := ww_Tt3 207 (by decide +kernel) rfl
theorem mw_746 : Cond.selects RX6 yX6_worth yX6_worth ∈ ww_T := ww_Tt3 208 (by decide +kernel) rfl
theorem mw_1284 : Cond.code yX7_back cX7_back 2 (some .int) ∈ ww_T := ww_Tt6 26 (by decide +kernel) rfl
theorem mw_1282 : Cond.instanceMethod yX7_back ∈ ww_T := ww_Tt6 24 (by decide +kernel) rfl
theorem mw_1283 : Cond.selects RX7 yX7_back yX7_back ∈ ww_T := ww_Tt6 25 (by decide +kernel) rfl
theorem mw_1089 : Cond.code yX7_beast cX7_beast 3 (some .int) ∈ ww_T := ww_Tt5 71 (by decide +kernel) rfl
theorem mw_1087 : Cond.instanceMethod yX7_beast ∈ ww_T := ww_Tt5 69 (by decide +kernel) rfl
theorem mw_1088 : Cond.selects RX7 yX7_beast yX7_beast ∈ ww_T := ww_Tt5 70 (by decide +kernel) rfl
theorem mw_1179 : Cond.code yX7_best cX7_best 8 (some .int) ∈ ww_T := ww_Tt5 161 (by decide +kernel) rfl
theorem mw_1177 : Cond.instanceMethod yX7_best ∈ ww_T := ww_Tt5 159 (by decide +kernel) rfl
theorem mw_1178 : Cond.selects RX7 yX7_best yX7_best ∈ ww_T := ww_Tt5 160 (by decide +kernel) rfl
theorem mw_1305 : Cond.code yX7_count cX7_count 2 (some .int) ∈ ww_T := ww_Tt6 47 (by decide +kernel) rfl
theorem mw_1303 : Cond.instanceMethod yX7_count ∈ ww_T := ww_Tt6 45 (by decide +kernel) rfl
theorem mw_1304 : Cond.selects RX7 yX7_count yX7_count ∈ ww_T := ww_Tt6 46 (by decide +kernel) rfl
theorem mw_1262 : Cond.code yX7_drift cX7_drift 7 (some .int) ∈ ww_T := ww_Tt6 4 (by decide +kernel) rfl
theorem mw_1260 : Cond.instanceMethod yX7_drift ∈ ww_T := ww_Tt6 2 (by decide +kernel) rfl
theorem mw_1261 : Cond.selects RX7 yX7_drift yX7_drift ∈ ww_T := ww_Tt6 3 (by decide +kernel) rfl
theorem mw_997 : Cond.code yX7_end cX7_end 3 (some .int) ∈ ww_T := ww_Tt4 219 (by decide +kernel) rfl
theorem mw_995 : Cond.instanceMethod yX7_end ∈ ww_T := ww_Tt4 217 (by decide +kernel) rfl
theorem mw_996 : Cond.selects RX7 yX7_end yX7_end ∈ ww_T := ww_Tt4 218 (by decide +kernel) rfl
theorem mw_1064 : Cond.code yX7_fault cX7_fault 1 (some .int) ∈ ww_T := ww_Tt5 46 (by decide +kernel) rfl
theorem mw_1062 : Cond.instanceMethod yX7_fault ∈ ww_T := ww_Tt5 44 (by decide +kernel) rfl
theorem mw_1063 : Cond.selects RX7 yX7_fault yX7_fault ∈ ww_T := ww_Tt5 45 (by decide +kernel) rfl
theorem mw_989 : Cond.code yX7_feed cX7_feed 2 (some .int) ∈ ww_T := ww_Tt4 211 (by decide +kernel) rfl
theorem mw_987 : Cond.instanceMethod yX7_feed ∈ ww_T := ww_Tt4 209 (by decide +kernel) rfl
theorem mw_988 : Cond.selects RX7 yX7_feed yX7_feed ∈ ww_T := ww_Tt4 210 (by decide +kernel) rfl
theorem mw_1171 : Cond.code yX7_floats cX7_floats 3 (some .int) ∈ ww_T := ww_Tt5 153 (by decide +kernel) rfl
theorem mw_1169 : Cond.instanceMethod yX7_floats ∈ ww_T := ww_Tt5 151 (by decide +kernel) rfl
theorem mw_1170 : Cond.selects RX7 yX7_floats yX7_floats ∈ ww_T := ww_Tt5 152 (by decide +kernel) rfl
theorem mw_1229 : Cond.code yX7_forget cX7_forget 3 (some .int) ∈ ww_T := ww_Tt5 211 (by decide +kernel) rfl
theorem mw_1227 : Cond.instanceMethod yX7_forget ∈ ww_T := ww_Tt5 209 (by decide +kernel) rfl
theorem mw_1228 : Cond.selects RX7 yX7_forget yX7_forget ∈ ww_T := ww_Tt5 210 (by decide +kernel) rfl
theorem mw_1142 : Cond.code yX7_gangs cX7_gangs 2 (some .int) ∈ ww_T := ww_Tt5 124 (by decide +kernel) rfl
theorem mw_1140 : Cond.instanceMethod yX7_gangs ∈ ww_T := ww_Tt5 122 (by decide +kernel) rfl
theorem mw_1141 : Cond.selects RX7 yX7_gangs yX7_gangs ∈ ww_T := ww_Tt5 123 (by decide +kernel) rfl
theorem mw_1151 : Cond.code yX7_go cX7_go 3 (some .int) ∈ ww_T := ww_Tt5 133 (by decide +kernel) rfl
theorem mw_1149 : Cond.instanceMethod yX7_go ∈ ww_T := ww_Tt5 131 (by decide +kernel) rfl
theorem mw_1150 : Cond.selects RX7 yX7_go yX7_go ∈ ww_T := ww_Tt5 132 (by decide +kernel) rfl
theorem mw_1175 : Cond.code yX7_has cX7_has 2 (some .int) ∈ ww_T := ww_Tt5 157 (by decide +kernel) rfl
theorem mw_1173 : Cond.instanceMethod yX7_has ∈ ww_T := ww_Tt5 155 (by decide +kernel) rfl
theorem mw_1174 : Cond.selects RX7 yX7_has yX7_has ∈ ww_T := ww_Tt5 156 (by decide +kernel) rfl
theorem mw_1280 : Cond.code yX7_keep cX7_keep 3 (some .int) ∈ ww_T := ww_Tt6 22 (by decide +kernel) rfl
theorem mw_1278 : Cond.instanceMethod yX7_keep ∈ ww_T := ww_Tt6 20 (by decide +kernel) rfl
theorem mw_1279 : Cond.selects RX7 yX7_keep yX7_keep ∈ ww_T := ww_Tt6 21 (by decide +kernel) rfl
theorem mw_1134 : Cond.code yX7_law cX7_law 2 (some .int) ∈ ww_T := ww_Tt5 116 (by decide +kernel) rfl
theorem mw_1132 : Cond.instanceMethod yX7_law ∈ ww_T := ww_Tt5 114 (by decide +kernel) rfl
theorem mw_1133 : Cond.selects RX7 yX7_law yX7_law ∈ ww_T := ww_Tt5 115 (by decide +kernel) rfl
theorem mw_1233 : Cond.code yX7_laws cX7_laws 3 (some .int) ∈ ww_T := ww_Tt5 215 (by decide +kernel) rfl
theorem mw_1231 : Cond.instanceMethod yX7_laws ∈ ww_T := ww_Tt5 213 (by decide +kernel) rfl
theorem mw_1232 : Cond.selects RX7 yX7_laws yX7_laws ∈ ww_T := ww_Tt5 214 (by decide +kernel) rfl
theorem mw_1292 : Cond.code yX7_lay cX7_lay 4 (some .int) ∈ ww_T := ww_Tt6 34 (by decide +kernel) rfl
theorem mw_1290 : Cond.instanceMethod yX7_lay ∈ ww_T := ww_Tt6 32 (by decide +kernel) rfl
theorem mw_1291 : Cond.selects RX7 yX7_lay yX7_lay ∈ ww_T := ww_Tt6 33 (by decide +kernel) rfl
theorem mw_1084 : Cond.code yX7_level cX7_level 2 (some .int) ∈ ww_T := ww_Tt5 66 (by decide +kernel) rfl
theorem mw_1082 : Cond.instanceMethod yX7_level ∈ ww_T := ww_Tt5 64 (by decide +kernel) rfl
theorem mw_1083 : Cond.selects RX7 yX7_level yX7_level ∈ ww_T := ww_Tt5 65 (by decide +kernel) rfl
theorem mw_1250 : Cond.code yX7_luck cX7_luck 9 (some .long) ∈ ww_T := ww_Tt5 232 (by decide +kernel) rfl
theorem mw_1248 : Cond.instanceMethod yX7_luck ∈ ww_T := ww_Tt5 230 (by decide +kernel) rfl
theorem mw_1249 : Cond.selects RX7 yX7_luck yX7_luck ∈ ww_T := ww_Tt5 231 (by decide +kernel) rfl
theorem mw_1146 : Cond.code yX7_lump cX7_lump 3 (some .int) ∈ ww_T := ww_Tt5 128 (by decide +kernel) rfl
theorem mw_1144 : Cond.instanceMethod yX7_lump ∈ ww_T := ww_Tt5 126 (by decide +kernel) rfl
theorem mw_1145 : Cond.selects RX7 yX7_lump yX7_lump ∈ ww_T := ww_Tt5 127 (by decide +kernel) rfl
theorem mw_1120 : Cond.code yX7_mark cX7_mark 4 (some .int) ∈ ww_T := ww_Tt5 102 (by decide +kernel) rfl
theorem mw_1118 : Cond.instanceMethod yX7_mark ∈ ww_T := ww_Tt5 100 (by decide +kernel) rfl
theorem mw_1119 : Cond.selects RX7 yX7_mark yX7_mark ∈ ww_T := ww_Tt5 101 (by decide +kernel) rfl
theorem mw_1258 : Cond.code yX7_open cX7_open 4 (some .int) ∈ ww_T := ww_Tt6 0 (by decide +kernel) rfl
theorem mw_1256 : Cond.instanceMethod yX7_open ∈ ww_T := ww_Tt5 238 (by decide +kernel) rfl
theorem mw_1257 : Cond.selects RX7 yX7_open yX7_open ∈ ww_T := ww_Tt5 239 (by decide +kernel) rfl
theorem mw_1129 : Cond.code yX7_own cX7_own 3 (some .int) ∈ ww_T := ww_Tt5 111 (by decide +kernel) rfl
theorem mw_1127 : Cond.instanceMethod yX7_own ∈ ww_T := ww_Tt5 109 (by decide +kernel) rfl
theorem mw_1128 : Cond.selects RX7 yX7_own yX7_own ∈ ww_T := ww_Tt5 110 (by decide +kernel) rfl
theorem mw_1097 : Cond.code yX7_part cX7_part 3 (some .int) ∈ ww_T := ww_Tt5 79 (by decide +kernel) rfl
theorem mw_1095 : Cond.instanceMethod yX7_part ∈ ww_T := ww_Tt5 77 (by decide +kernel) rfl
theorem mw_1096 : Cond.selects RX7 yX7_part yX7_part ∈ ww_T := ww_Tt5 78 (by decide +kernel) rfl
theorem mw_1076 : Cond.code yX7_place cX7_place 3 (some .int) ∈ ww_T := ww_Tt5 58 (by decide +kernel) rfl
theorem mw_1074 : Cond.instanceMethod yX7_place ∈ ww_T := ww_Tt5 56 (by decide +kernel) rfl
theorem mw_1075 : Cond.selects RX7 yX7_place yX7_place ∈ ww_T := ww_Tt5 57 (by decide +kernel) rfl
theorem mw_1296 : Cond.code yX7_read cX7_read 7 (some .int) ∈ ww_T := ww_Tt6 38 (by decide +kernel) rfl
theorem mw_1294 : Cond.instanceMethod yX7_read ∈ ww_T := ww_Tt6 36 (by decide +kernel) rfl
theorem mw_1295 : Cond.selects RX7 yX7_read yX7_read ∈ ww_T := ww_Tt6 37 (by decide +kernel) rfl
theorem mw_1138 : Cond.code yX7_rot cX7_rot 2 (some .int) ∈ ww_T := ww_Tt5 120 (by decide +kernel) rfl
theorem mw_1136 : Cond.instanceMethod yX7_rot ∈ ww_T := ww_Tt5 118 (by decide +kernel) rfl
theorem mw_1137 : Cond.selects RX7 yX7_rot yX7_rot ∈ ww_T := ww_Tt5 119 (by decide +kernel) rfl
theorem mw_1068 : Cond.code yX7_rule cX7_rule 2 (some .int) ∈ ww_T := ww_Tt5 50 (by decide +kernel) rfl
theorem mw_1066 : Cond.instanceMethod yX7_rule ∈ ww_T := ww_Tt5 48 (by decide +kernel) rfl
theorem mw_1067 : Cond.selects RX7 yX7_rule yX7_rule ∈ ww_T := ww_Tt5 49 (by decide +kernel) rfl
theorem mw_1212 : Cond.code yX7_salted cX7_salted 4 (some .int) ∈ ww_T := ww_Tt5 194 (by decide +kernel) rfl
theorem mw_1210 : Cond.instanceMethod yX7_salted ∈ ww_T := ww_Tt5 192 (by decide +kernel) rfl
theorem mw_1211 : Cond.selects RX7 yX7_salted yX7_salted ∈ ww_T := ww_Tt5 193 (by decide +kernel) rfl
theorem mw_1216 : Cond.code yX7_share cX7_share 3 (some .int) ∈ ww_T := ww_Tt5 198 (by decide +kernel) rfl
theorem mw_1214 : Cond.instanceMethod yX7_share ∈ ww_T := ww_Tt5 196 (by decide +kernel) rfl
theorem mw_1215 : Cond.selects RX7 yX7_share yX7_share ∈ ww_T := ww_Tt5 197 (by decide +kernel) rfl
theorem mw_1288 : Cond.code yX7_sheet cX7_sheet 5 (some .int) ∈ ww_T := ww_Tt6 30 (by decide +kernel) rfl
theorem mw_1286 : Cond.instanceMethod yX7_sheet ∈ ww_T := ww_Tt6 28 (by decide +kernel) rfl
theorem mw_1287 : Cond.selects RX7 yX7_sheet yX7_sheet ∈ ww_T := ww_Tt6 29 (by decide +kernel) rfl
theorem mw_1245 : Cond.code yX7_strand cX7_strand 7 (some .int) ∈ ww_T := ww_Tt5 227 (by decide +kernel) rfl
theorem mw_1243 : Cond.instanceMethod yX7_strand ∈ ww_T := ww_Tt5 225 (by decide +kernel) rfl
theorem mw_1244 : Cond.selects RX7 yX7_strand yX7_strand ∈ ww_T := ww_Tt5 226 (by decide +kernel) rfl
theorem mw_1224 : Cond.code yX7_tell cX7_tell 3 (some .int) ∈ ww_T := ww_Tt5 206 (by decide +kernel) rfl
theorem mw_1222 : Cond.instanceMethod yX7_tell ∈ ww_T := ww_Tt5 204 (by decide +kernel) rfl
theorem mw_1223 : Cond.selects RX7 yX7_tell yX7_tell ∈ ww_T := ww_Tt5 205 (by decide +kernel) rfl
theorem mw_1001 : Cond.code yX7_text cX7_text 3 (some .int) ∈ ww_T := ww_Tt4 223 (by decide +kernel) rfl
theorem mw_999 : Cond.instanceMethod yX7_text ∈ ww_T := ww_Tt4 221 (by decide +kernel) rfl
theorem mw_1000 : Cond.selects RX7 yX7_text yX7_text ∈ ww_T := ww_Tt4 222 (by decide +kernel) rfl
theorem mw_1301 : Cond.code yX7_torn cX7_torn 1 (some .int) ∈ ww_T := ww_Tt6 43 (by decide +kernel) rfl
theorem mw_1299 : Cond.instanceMethod yX7_torn ∈ ww_T := ww_Tt6 41 (by decide +kernel) rfl
theorem mw_1300 : Cond.selects RX7 yX7_torn yX7_torn ∈ ww_T := ww_Tt6 42 (by decide +kernel) rfl
theorem mw_1167 : Cond.code yX7_wet cX7_wet 4 (some .int) ∈ ww_T := ww_Tt5 149 (by decide +kernel) rfl
theorem mw_1165 : Cond.instanceMethod yX7_wet ∈ ww_T := ww_Tt5 147 (by decide +kernel) rfl
theorem mw_1166 : Cond.selects RX7 yX7_wet yX7_wet ∈ ww_T := ww_Tt5 148 (by decide +kernel) rfl
theorem mw_1241 : Cond.code yX7_whose cX7_whose 5 (some .int) ∈ ww_T := ww_Tt5 223 (by decide +kernel) rfl
theorem mw_1239 : Cond.instanceMethod yX7_whose ∈ ww_T := ww_Tt5 221 (by decide +kernel) rfl
theorem mw_1240 : Cond.selects RX7 yX7_whose yX7_whose ∈ ww_T := ww_Tt5 222 (by decide +kernel) rfl
theorem mw_1208 : Cond.code yX7_worth cX7_worth 4 (some .int) ∈ ww_T := ww_Tt5 190 (by decide +kernel) rfl
theorem mw_1206 : Cond.instanceMethod yX7_worth ∈ ww_T := ww_Tt5 188 (by decide +kernel) rfl
theorem mw_1207 : Cond.selects RX7 yX7_worth yX7_worth ∈ ww_T := ww_Tt5 189 (by decide +kernel) rfl
theorem mm_X6_back : ww_mV yX6_back cX6_back 2 (some .int) 1 := ⟨mw_831, mw_59, mw_829, mw_830, by decide +kernel⟩
theorem mm_X6_beast : ww_mV yX6_beast cX6_beast 3 (some .int) 2 := ⟨mw_551, mw_59, mw_549, mw_550, by decide +kernel⟩
theorem mm_X6_best : ww_mV yX6_best cX6_best 4 (some .int) 2 := ⟨mw_667, mw_59, mw_665, mw_666, by decide +kernel⟩
theorem mm_X6_count : ww_mV yX6_count cX6_count 2 (some .int) 1 := ⟨mw_865, mw_59, mw_863, mw_864, by decide +kernel⟩
theorem mm_X6_drift : ww_mV yX6_drift cX6_drift 9 (some .int) 3 := ⟨mw_813, mw_59, mw_811, mw_812, by decide +kernel⟩
theorem mm_X6_end : ww_mV yX6_end cX6_end 3 (some .int) 1 := ⟨mw_343, mw_59, mw_341, mw_342, by decide +kernel⟩
theorem mm_X6_fault : ww_mV yX6_fault cX6_fault 1 (some .int) 0 := ⟨mw_530, mw_59, mw_528, mw_529, by decide +kernel⟩
theorem mm_X6_feed : ww_mV yX6_feed cX6_feed 2 (some .int) 1 := ⟨mw_332, mw_59, mw_330, mw_331, by decide +kernel⟩
theorem mm_X6_floats : ww_mV yX6_floats cX6_floats 3 (some .int) 1 := ⟨mw_658, mw_59, mw_656, mw_657, by decide +kernel⟩
theorem mm_X6_forget : ww_mV yX6_forget cX6_forget 3 (some .int) 1 := ⟨mw_771, mw_59, mw_769, mw_770, by decide +kernel⟩
theorem mm_X6_gangs : ww_mV yX6_gangs cX6_gangs 3 (some .int) 1 := ⟨mw_616, mw_59, mw_614, mw_615, by decide +kernel⟩
theorem mm_X6_go : ww_mV yX6_go cX6_go 4 (some .int) 2 := ⟨mw_624, mw_59, mw_622, mw_623, by decide +kernel⟩
theorem mm_X6_has : ww_mV yX6_has cX6_has 2 (some .int) 1 := ⟨mw_663, mw_59, mw_661, mw_662, by decide +kernel⟩
theorem mm_X6_keep : ww_mV yX6_keep cX6_keep 3 (some .int) 1 := ⟨mw_827, mw_59, mw_825, mw_826, by decide +kernel⟩
theorem mm_X6_law : ww_mV yX6_law cX6_law 3 (some .int) 1 := ⟨mw_608, mw_59, mw_606, mw_607, by decide +kernel⟩
theorem mm_X6_laws : ww_mV yX6_laws cX6_laws 3 (some .int) 0 := ⟨mw_775, mw_59, mw_773, mw_774, by decide +kernel⟩
theorem mm_X6_lay : ww_mV yX6_lay cX6_lay 6 (some .int) 3 := ⟨mw_844, mw_59, mw_842, mw_843, by decide +kernel⟩
theorem mm_X6_level : ww_mV yX6_level cX6_level 2 (some .int) 1 := ⟨mw_546, mw_59, mw_544, mw_545, by decide +kernel⟩
theorem mm_X6_luck : ww_mV yX6_luck cX6_luck 10 (some .long) 2 := ⟨mw_797, mw_59, mw_795, mw_796, by decide +kernel⟩
theorem mm_X6_lump : ww_mV yX6_lump cX6_lump 5 (some .int) 2 := ⟨mw_620, mw_59, mw_618, mw_619, by decide +kernel⟩
theorem mm_X6_mark : ww_mV yX6_mark cX6_mark 4 (some .int) 2 := ⟨mw_600, mw_59, mw_598, mw_599, by decide +kernel⟩
theorem mm_X6_open : ww_mV yX6_open cX6_open 3 (some .int) 0 := ⟨mw_804, mw_59, mw_802, mw_803, by decide +kernel⟩
theorem mm_X6_own : ww_mV yX6_own cX6_own 4 (some .int) 2 := ⟨mw_604, mw_59, mw_602, mw_603, by decide +kernel⟩
theorem mm_X6_part : ww_mV yX6_part cX6_part 4 (some .int) 2 := ⟨mw_563, mw_59, mw_561, mw_562, by decide +kernel⟩
theorem mm_X6_place : ww_mV yX6_place cX6_place 3 (some .int) 2 := ⟨mw_538, mw_59, mw_536, mw_537, by decide +kernel⟩
theorem mm_X6_read : ww_mV yX6_read cX6_read 9 (some .int) 4 := ⟨mw_857, mw_59, mw_855, mw_856, by decide +kernel⟩
theorem mm_X6_rot : ww_mV yX6_rot cX6_rot 3 (some .int) 1 := ⟨mw_612, mw_59, mw_610, mw_611, by decide +kernel⟩
theorem mm_X6_rule : ww_mV yX6_rule cX6_rule 2 (some .int) 1 := ⟨mw_534, mw_59, mw_532, mw_533, by decide +kernel⟩
theorem mm_X6_salted : ww_mV yX6_salted cX6_salted 7 (some .int) 1 := ⟨mw_751, mw_59, mw_749, mw_750, by decide +kernel⟩
theorem mm_X6_share : ww_mV yX6_share cX6_share 3 (some .int) 2 := ⟨mw_755, mw_59, mw_753, mw_754, by decide +kernel⟩
theorem mm_X6_sheet : ww_mV yX6_sheet cX6_sheet 4 (some .int) 3 := ⟨mw_835, mw_59, mw_833, mw_834, by decide +kernel⟩
theorem mm_X6_strand : ww_mV yX6_strand cX6_strand 11 (some .int) 2 := ⟨mw_788, mw_59, mw_786, mw_787, by decide +kernel⟩
theorem mm_X6_tell : ww_mV yX6_tell cX6_tell 3 (some .int) 2 := ⟨mw_763, mw_59, mw_761, mw_762, by decide +kernel⟩
theorem mm_X6_text : ww_mV yX6_text cX6_text 2 (some .int) 0 := ⟨mw_347, mw_59, mw_345, mw_346, by decide +kernel⟩
theorem mm_X6_torn : ww_mV yX6_torn cX6_torn 1 (some .int) 0 := ⟨mw_861, mw_59, mw_859, mw_860, by decide +kernel⟩
theorem mm_X6_wet : ww_mV yX6_wet cX6_wet 2 (some .int) 1 := ⟨mw_653, mw_59, mw_651, mw_652, by decide +kernel⟩
theorem mm_X6_whose : ww_mV yX6_whose cX6_whose 5 (some .int) 1 := ⟨mw_784, mw_59, mw_782, mw_783, by decide +kernel⟩
theorem mm_X6_worth : ww_mV yX6_worth cX6_worth 4 (some .int) 2 := ⟨mw_747, mw_59, mw_745, mw_746, by decide +kernel⟩
theorem mm_X7_back : ww_mV yX7_back cX7_back 2 (some .int) 1 := ⟨mw_1284, mw_67, mw_1282, mw_1283, by decide +kernel⟩
theorem mm_X7_beast : ww_mV yX7_beast cX7_beast 3 (some .int) 2 := ⟨mw_1089, mw_67, mw_1087, mw_1088, by decide +kernel⟩
theorem mm_X7_best : ww_mV yX7_best cX7_best 8 (some .int) 2 := ⟨mw_1179, mw_67, mw_1177, mw_1178, by decide +kernel⟩
theorem mm_X7_count : ww_mV yX7_count cX7_count 2 (some .int) 1 := ⟨mw_1305, mw_67, mw_1303, mw_1304, by decide +kernel⟩
theorem mm_X7_drift : ww_mV yX7_drift cX7_drift 7 (some .int) 3 := ⟨mw_1262, mw_67, mw_1260, mw_1261, by decide +kernel⟩
theorem mm_X7_end : ww_mV yX7_end cX7_end 3 (some .int) 1 := ⟨mw_997, mw_67, mw_995, mw_996, by decide +kernel⟩
theorem mm_X7_fault : ww_mV yX7_fault cX7_fault 1 (some .int) 0 := ⟨mw_1064, mw_67, mw_1062, mw_1063, by decide +kernel⟩
theorem mm_X7_feed : ww_mV yX7_feed cX7_feed 2 (some .int) 1 := ⟨mw_989, mw_67, mw_987, mw_988, by decide +kernel⟩
theorem mm_X7_floats : ww_mV yX7_floats cX7_floats 3 (some .int) 1 := ⟨mw_1171, mw_67, mw_1169, mw_1170, by decide +kernel⟩
theorem mm_X7_forget : ww_mV yX7_forget cX7_forget 3 (some .int) 1 := ⟨mw_1229, mw_67, mw_1227, mw_1228, by decide +kernel⟩
theorem mm_X7_gangs : ww_mV yX7_gangs cX7_gangs 2 (some .int) 1 := ⟨mw_1142, mw_67, mw_1140, mw_1141, by decide +kernel⟩
theorem mm_X7_go : ww_mV yX7_go cX7_go 3 (some .int) 2 := ⟨mw_1151, mw_67, mw_1149, mw_1150, by decide +kernel⟩
theorem mm_X7_has : ww_mV yX7_has cX7_has 2 (some .int) 1 := ⟨mw_1175, mw_67, mw_1173, mw_1174, by decide +kernel⟩
theorem mm_X7_keep : ww_mV yX7_keep cX7_keep 3 (some .int) 1 := ⟨mw_1280, mw_67, mw_1278, mw_1279, by decide +kernel⟩
theorem mm_X7_law : ww_mV yX7_law cX7_law 2 (some .int) 1 := ⟨mw_1134, mw_67, mw_1132, mw_1133, by decide +kernel⟩
theorem mm_X7_laws : ww_mV yX7_laws cX7_laws 3 (some .int) 0 := ⟨mw_1233, mw_67, mw_1231, mw_1232, by decide +kernel⟩
theorem mm_X7_lay : ww_mV yX7_lay cX7_lay 4 (some .int) 3 := ⟨mw_1292, mw_67, mw_1290, mw_1291, by decide +kernel⟩
theorem mm_X7_level : ww_mV yX7_level cX7_level 2 (some .int) 1 := ⟨mw_1084, mw_67, mw_1082, mw_1083, by decide +kernel⟩
theorem mm_X7_luck : ww_mV yX7_luck cX7_luck 9 (some .long) 2 := ⟨mw_1250, mw_67, mw_1248, mw_1249, by decide +kernel⟩
theorem mm_X7_lump : ww_mV yX7_lump cX7_lump 3 (some .int) 2 := ⟨mw_1146, mw_67, mw_1144, mw_1145, by decide +kernel⟩
theorem mm_X7_mark : ww_mV yX7_mark cX7_mark 4 (some .int) 2 := ⟨mw_1120, mw_67, mw_1118, mw_1119, by decide +kernel⟩
theorem mm_X7_open : ww_mV yX7_open cX7_open 4 (some .int) 0 := ⟨mw_1258, mw_67, mw_1256, mw_1257, by decide +kernel⟩
theorem mm_X7_own : ww_mV yX7_own cX7_own 3 (some .int) 2 := ⟨mw_1129, mw_67, mw_1127, mw_1128, by decide +kernel⟩
theorem mm_X7_part : ww_mV yX7_part cX7_part 3 (some .int) 2 := ⟨mw_1097, mw_67, mw_1095, mw_1096, by decide +kernel⟩
theorem mm_X7_place : ww_mV yX7_place cX7_place 3 (some .int) 2 := ⟨mw_1076, mw_67, mw_1074, mw_1075, by decide +kernel⟩
theorem mm_X7_read : ww_mV yX7_read cX7_read 7 (some .int) 4 := ⟨mw_1296, mw_67, mw_1294, mw_1295, by decide +kernel⟩
theorem mm_X7_rot : ww_mV yX7_rot cX7_rot 2 (some .int) 1 := ⟨mw_1138, mw_67, mw_1136, mw_1137, by decide +kernel⟩
theorem mm_X7_rule : ww_mV yX7_rule cX7_rule 2 (some .int) 1 := ⟨mw_1068, mw_67, mw_1066, mw_1067, by decide +kernel⟩
theorem mm_X7_salted : ww_mV yX7_salted cX7_salted 4 (some .int) 1 := ⟨mw_1212, mw_67, mw_1210, mw_1211, by decide +kernel⟩
theorem mm_X7_share : ww_mV yX7_share cX7_share 3 (some .int) 2 := ⟨mw_1216, mw_67, mw_1214, mw_1215, by decide +kernel⟩
theorem mm_X7_sheet : ww_mV yX7_sheet cX7_sheet 5 (some .int) 3 := ⟨mw_1288, mw_67, mw_1286, mw_1287, by decide +kernel⟩
theorem mm_X7_strand : ww_mV yX7_strand cX7_strand 7 (some .int) 2 := ⟨mw_1245, mw_67, mw_1243, mw_1244, by decide +kernel⟩
theorem mm_X7_tell : ww_mV yX7_tell cX7_tell 3 (some .int) 2 := ⟨mw_1224, mw_67, mw_1222, mw_1223, by decide +kernel⟩
theorem mm_X7_text : ww_mV yX7_text cX7_text 3 (some .int) 0 := ⟨mw_1001, mw_67, mw_999, mw_1000, by decide +kernel⟩
theorem mm_X7_torn : ww_mV yX7_torn cX7_torn 1 (some .int) 0 := ⟨mw_1301, mw_67, mw_1299, mw_1300, by decide +kernel⟩
theorem mm_X7_wet : ww_mV yX7_wet cX7_wet 4 (some .int) 1 := ⟨mw_1167, mw_67, mw_1165, mw_1166, by decide +kernel⟩
theorem mm_X7_whose : ww_mV yX7_whose cX7_whose 5 (some .int) 1 := ⟨mw_1241, mw_67, mw_1239, mw_1240, by decide +kernel⟩
theorem mm_X7_worth : ww_mV yX7_worth cX7_worth 4 (some .int) 2 := ⟨mw_1208, mw_67, mw_1206, mw_1207, by decide +kernel⟩
theorem dL_law_16 : decode cL_law 16 = .ok (.iconst 0, 1) := by decide +kernel
theorem dL_law_17 : decode cL_law 17 = .ok (.istore_n 3, 1) := by decide +kernel
theorem dL_law_18 : decode cL_law 18 = .ok (.iload_n 3, 1) := by decide +kernel
theorem dL_law_19 : decode cL_law 19 = .ok (.aload_n 0, 1) := by decide +kernel
theorem dL_law_20 : decode cL_law 20 = .ok (.arraylength, 1) := by decide +kernel
theorem dL_law_21 : decode cL_law 21 = .ok (.iconst 5, 1) := by decide +kernel
theorem dL_law_22 : decode cL_law 22 = .ok (.isub, 1) := by decide +kernel
theorem dL_law_23 : decode cL_law 23 = .ok (.if_icmp .gt 1228, 3) := by decide +kernel
theorem dL_law_26 : decode cL_law 26 = .ok (.aload_n 0, 1) := by decide +kernel
theorem dL_law_27 : decode cL_law 27 = .ok (.iload_n 3, 1) := by decide +kernel
theorem dL_law_28 : decode cL_law 28 = .ok (.iaload, 1) := by decide +kernel
theorem dL_law_29 : decode cL_law 29 = .ok (.bipush 63, 2) := by decide +kernel
theorem dL_law_31 : decode cL_law 31 = .ok (.iand, 1) := by decide +kernel
theorem dL_law_32 : decode cL_law 32 = .ok (.tableswitch 1213 0 37 #[168, 191, 214, 227, 240, 263, 296, 319, 352, 385, 418, 451, 474, 497, 520, 553, 586, 609, 632, 655, 688, 721, 744, 777, 810, 833, 846, 869, 902, 936, 949, 992, 1015, 1038, 1081, 1124, 1177, 1190], 168) := by decide +kernel
theorem dL_law_200 : decode cL_law 200 = .ok (.aload_n 1, 1) := by decide +kernel
theorem dL_law_201 : decode cL_law 201 = .ok (.aload_n 0, 1) := by decide +kernel
theorem dL_law_202 : decode cL_law 202 = .ok (.iload_n 3, 1) := by decide +kernel
theorem dL_law_203 : decode cL_law 203 = .ok (.iconst 1, 1) := by decide +kernel
theorem dL_law_204 : decode cL_law 204 = .ok (.iadd, 1) := by decide +kernel
theorem dL_law_205 : decode cL_law 205 = .ok (.iaload, 1) := by decide +kernel
theorem dL_law_206 : decode cL_law 206 = .ok (.invokevirtual 13, 3) := by decide +kernel
theorem dL_law_209 : decode cL_law 209 = .ok (.aload_n 2, 1) := by decide +kernel
theorem dL_law_210 : decode cL_law 210 = .ok (.aload_n 0, 1) := by decide +kernel
theorem dL_law_211 : decode cL_law 211 = .ok (.iload_n 3, 1) := by decide +kernel
theorem dL_law_212 : decode cL_law 212 = .ok (.iconst 1, 1) := by decide +kernel
theorem dL_law_213 : decode cL_law 213 = .ok (.iadd, 1) := by decide +kernel
theorem dL_law_214 : decode cL_law 214 = .ok (.iaload, 1) := by decide +kernel
theorem dL_law_215 : decode cL_law 215 = .ok (.invokevirtual 17, 3) := by decide +kernel
theorem dL_law_218 : decode cL_law 218 = .ok (.if_icmp .eq 1027, 3) := by decide +kernel
theorem dL_law_221 : decode cL_law 221 = .ok (.iconst 0, 1) := by decide +kernel
theorem dL_law_222 : decode cL_law 222 = .ok (.ireturn, 1) := by decide +kernel
theorem dL_law_223 : decode cL_law 223 = .ok (.aload_n 1, 1) := by decide +kernel
theorem dL_law_224 : decode cL_law 224 = .ok (.aload_n 0, 1) := by decide +kernel
theorem dL_law_225 : decode cL_law 225 = .ok (.iload_n 3, 1) := by decide +kernel
theorem dL_law_226 : decode cL_law 226 = .ok (.iconst 1, 1) := by decide +kernel
theorem dL_law_227 : decode cL_law 227 = .ok (.iadd, 1) := by decide +kernel
theorem dL_law_228 : decode cL_law 228 = .ok (.iaload, 1) := by decide +kernel
theorem dL_law_229 : decode cL_law 229 = .ok (.invokevirtual 18, 3) := by decide +kernel
theorem dL_law_232 : decode cL_law 232 = .ok (.aload_n 2, 1) := by decide +kernel
theorem dL_law_233 : decode cL_law 233 = .ok (.aload_n 0, 1) := by decide +kernel
theorem dL_law_234 : decode cL_law 234 = .ok (.iload_n 3, 1) := by decide +kernel
theorem dL_law_235 : decode cL_law 235 = .ok (.iconst 1, 1) := by decide +kernel
theorem dL_law_236 : decode cL_law 236 = .ok (.iadd, 1) := by decide +kernel
theorem dL_law_237 : decode cL_law 237 = .ok (.iaload, 1) := by decide +kernel
theorem dL_law_238 : decode cL_law 238 = .ok (.invokevirtual 21, 3) := by decide +kernel
theorem dL_law_241 : decode cL_law 241 = .ok (.if_icmp .eq 1004, 3) := by decide +kernel
theorem dL_law_244 : decode cL_law 244 = .ok (.iconst 0, 1) := by decide +kernel
theorem dL_law_245 : decode cL_law 245 = .ok (.ireturn, 1) := by decide +kernel
theorem dL_law_246 : decode cL_law 246 = .ok (.aload_n 1, 1) := by decide +kernel
theorem dL_law_247 : decode cL_law 247 = .ok (.invokevirtual 22, 3) := by decide +kernel
theorem dL_law_250 : decode cL_law 250 = .ok (.aload_n 2, 1) := by decide +kernel
theorem dL_law_251 : decode cL_law 251 = .ok (.invokevirtual 26, 3) := by decide +kernel
theorem dL_law_254 : decode cL_law 254 = .ok (.if_icmp .eq 991, 3) := by decide +kernel
theorem dL_law_257 : decode cL_law 257 = .ok (.iconst 0, 1) := by decide +kernel
theorem dL_law_258 : decode cL_law 258 = .ok (.ireturn, 1) := by decide +kernel
theorem dL_law_259 : decode cL_law 259 = .ok (.aload_n 1, 1) := by decide +kernel
theorem dL_law_260 : decode cL_law 260 = .ok (.invokevirtual 27, 3) := by decide +kernel
theorem dL_law_263 : decode cL_law 263 = .ok (.aload_n 2, 1) := by decide +kernel
theorem dL_law_264 : decode cL_law 264 = .ok (.invokevirtual 30, 3) := by decide +kernel
theorem dL_law_267 : decode cL_law 267 = .ok (.if_icmp .eq 978, 3) := by decide +kernel
theorem dL_law_270 : decode cL_law 270 = .ok (.iconst 0, 1) := by decide +kernel
theorem dL_law_271 : decode cL_law 271 = .ok (.ireturn, 1) := by decide +kernel
theorem dL_law_272 : decode cL_law 272 = .ok (.aload_n 1, 1) := by decide +kernel
theorem dL_law_273 : decode cL_law 273 = .ok (.aload_n 0, 1) := by decide +kernel
theorem dL_law_274 : decode cL_law 274 = .ok (.iload_n 3, 1) := by decide +kernel
theorem dL_law_275 : decode cL_law 275 = .ok (.iconst 1, 1) := by decide +kernel
theorem dL_law_276 : decode cL_law 276 = .ok (.iadd, 1) := by decide +kernel
theorem dL_law_277 : decode cL_law 277 = .ok (.iaload, 1) := by decide +kernel
theorem dL_law_278 : decode cL_law 278 = .ok (.invokevirtual 31, 3) := by decide +kernel
theorem dL_law_281 : decode cL_law 281 = .ok (.aload_n 2, 1) := by decide +kernel
theorem dL_law_282 : decode cL_law 282 = .ok (.aload_n 0, 1) := by decide +kernel
theorem dL_law_283 : decode cL_law 283 = .ok (.iload_n 3, 1) := by decide +kernel
theorem dL_law_284 : decode cL_law 284 = .ok (.iconst 1, 1) := by decide +kernel
theorem dL_law_285 : decode cL_law 285 = .ok (.iadd, 1) := by decide +kernel
theorem dL_law_286 : decode cL_law 286 = .ok (.iaload, 1) := by decide +kernel
theorem dL_law_287 : decode cL_law 287 = .ok (.invokevirtual 34, 3) := by decide +kernel
theorem dL_law_290 : decode cL_law 290 = .ok (.if_icmp .eq 955, 3) := by decide +kernel
theorem dL_law_293 : decode cL_law 293 = .ok (.iconst 0, 1) := by decide +kernel
theorem dL_law_294 : decode cL_law 294 = .ok (.ireturn, 1) := by decide +kernel
theorem dL_law_295 : decode cL_law 295 = .ok (.aload_n 1, 1) := by decide +kernel
theorem dL_law_296 : decode cL_law 296 = .ok (.aload_n 0, 1) := by decide +kernel
theorem dL_law_297 : decode cL_law 297 = .ok (.iload_n 3, 1) := by decide +kernel
theorem dL_law_298 : decode cL_law 298 = .ok (.iconst 1, 1) := by decide +kernel
theorem dL_law_299 : decode cL_law 299 = .ok (.iadd, 1) := by decide +kernel
theorem dL_law_300 : decode cL_law 300 = .ok (.iaload, 1) := by decide +kernel
theorem dL_law_301 : decode cL_law 301 = .ok (.aload_n 0, 1) := by decide +kernel
theorem dL_law_302 : decode cL_law 302 = .ok (.iload_n 3, 1) := by decide +kernel
theorem dL_law_303 : decode cL_law 303 = .ok (.iconst 2, 1) := by decide +kernel
theorem dL_law_304 : decode cL_law 304 = .ok (.iadd, 1) := by decide +kernel
theorem dL_law_305 : decode cL_law 305 = .ok (.iaload, 1) := by decide +kernel
theorem dL_law_306 : decode cL_law 306 = .ok (.invokevirtual 35, 3) := by decide +kernel
theorem dL_law_309 : decode cL_law 309 = .ok (.aload_n 2, 1) := by decide +kernel
theorem dL_law_310 : decode cL_law 310 = .ok (.aload_n 0, 1) := by decide +kernel
theorem dL_law_311 : decode cL_law 311 = .ok (.iload_n 3, 1) := by decide +kernel
theorem dL_law_312 : decode cL_law 312 = .ok (.iconst 1, 1) := by decide +kernel
theorem dL_law_313 : decode cL_law 313 = .ok (.iadd, 1) := by decide +kernel
theorem dL_law_314 : decode cL_law 314 = .ok (.iaload, 1) := by decide +kernel
theorem dL_law_315 : decode cL_law 315 = .ok (.aload_n 0, 1) := by decide +kernel
theorem dL_law_316 : decode cL_law 316 = .ok (.iload_n 3, 1) := by decide +kernel
theorem dL_law_317 : decode cL_law 317 = .ok (.iconst 2, 1) := by decide +kernel
theorem dL_law_318 : decode cL_law 318 = .ok (.iadd, 1) := by decide +kernel
theorem dL_law_319 : decode cL_law 319 = .ok (.iaload, 1) := by decide +kernel
theorem dL_law_320 : decode cL_law 320 = .ok (.invokevirtual 39, 3) := by decide +kernel
theorem dL_law_323 : decode cL_law 323 = .ok (.if_icmp .eq 922, 3) := by decide +kernel
theorem dL_law_326 : decode cL_law 326 = .ok (.iconst 0, 1) := by decide +kernel
theorem dL_law_327 : decode cL_law 327 = .ok (.ireturn, 1) := by decide +kernel
theorem dL_law_328 : decode cL_law 328 = .ok (.aload_n 1, 1) := by decide +kernel
theorem dL_law_329 : decode cL_law 329 = .ok (.aload_n 0, 1) := by decide +kernel
theorem dL_law_330 : decode cL_law 330 = .ok (.iload_n 3, 1) := by decide +kernel
theorem dL_law_331 : decode cL_law 331 = .ok (.iconst 1, 1) := by decide +kernel
theorem dL_law_332 : decode cL_law 332 = .ok (.iadd, 1) := by decide +kernel
theorem dL_law_333 : decode cL_law 333 = .ok (.iaload, 1) := by decide +kernel
theorem dL_law_334 : decode cL_law 334 = .ok (.invokevirtual 40, 3) := by decide +kernel
theorem dL_law_337 : decode cL_law 337 = .ok (.aload_n 2, 1) := by decide +kernel
theorem dL_law_338 : decode cL_law 338 = .ok (.aload_n 0, 1) := by decide +kernel
theorem dL_law_339 : decode cL_law 339 = .ok (.iload_n 3, 1) := by decide +kernel
theorem dL_law_340 : decode cL_law 340 = .ok (.iconst 1, 1) := by decide +kernel
theorem dL_law_341 : decode cL_law 341 = .ok (.iadd, 1) := by decide +kernel
theorem dL_law_342 : decode cL_law 342 = .ok (.iaload, 1) := by decide +kernel
theorem dL_law_343 : decode cL_law 343 = .ok (.invokevirtual 43, 3) := by decide +kernel
theorem dL_law_346 : decode cL_law 346 = .ok (.if_icmp .eq 899, 3) := by decide +kernel
theorem dL_law_349 : decode cL_law 349 = .ok (.iconst 0, 1) := by decide +kernel
theorem dL_law_350 : decode cL_law 350 = .ok (.ireturn, 1) := by decide +kernel
theorem dL_law_351 : decode cL_law 351 = .ok (.aload_n 1, 1) := by decide +kernel
theorem dL_law_352 : decode cL_law 352 = .ok (.aload_n 0, 1) := by decide +kernel
theorem dL_law_353 : decode cL_law 353 = .ok (.iload_n 3, 1) := by decide +kernel
theorem dL_law_354 : decode cL_law 354 = .ok (.iconst 1, 1) := by decide +kernel
theorem dL_law_355 : decode cL_law 355 = .ok (.iadd, 1) := by decide +kernel
theorem dL_law_356 : decode cL_law 356 = .ok (.iaload, 1) := by decide +kernel
theorem dL_law_357 : decode cL_law 357 = .ok (.aload_n 0, 1) := by decide +kernel
theorem dL_law_358 : decode cL_law 358 = .ok (.iload_n 3, 1) := by decide +kernel
theorem dL_law_359 : decode cL_law 359 = .ok (.iconst 2, 1) := by decide +kernel
theorem dL_law_360 : decode cL_law 360 = .ok (.iadd, 1) := by decide +kernel
theorem dL_law_361 : decode cL_law 361 = .ok (.iaload, 1) := by decide +kernel
theorem dL_law_362 : decode cL_law 362 = .ok (.invokevirtual 44, 3) := by decide +kernel
theorem dL_law_365 : decode cL_law 365 = .ok (.aload_n 2, 1) := by decide +kernel
theorem dL_law_366 : decode cL_law 366 = .ok (.aload_n 0, 1) := by decide +kernel
theorem dL_law_367 : decode cL_law 367 = .ok (.iload_n 3, 1) := by decide +kernel
theorem dL_law_368 : decode cL_law 368 = .ok (.iconst 1, 1) := by decide +kernel
theorem dL_law_369 : decode cL_law 369 = .ok (.iadd, 1) := by decide +kernel
theorem dL_law_370 : decode cL_law 370 = .ok (.iaload, 1) := by decide +kernel
theorem dL_law_371 : decode cL_law 371 = .ok (.aload_n 0, 1) := by decide +kernel
theorem dL_law_372 : decode cL_law 372 = .ok (.iload_n 3, 1) := by decide +kernel
theorem dL_law_373 : decode cL_law 373 = .ok (.iconst 2, 1) := by decide +kernel
theorem dL_law_374 : decode cL_law 374 = .ok (.iadd, 1) := by decide +kernel
theorem dL_law_375 : decode cL_law 375 = .ok (.iaload, 1) := by decide +kernel
theorem dL_law_376 : decode cL_law 376 = .ok (.invokevirtual 47, 3) := by decide +kernel
theorem dL_law_379 : decode cL_law 379 = .ok (.if_icmp .eq 866, 3) := by decide +kernel
theorem dL_law_382 : decode cL_law 382 = .ok (.iconst 0, 1) := by decide +kernel
theorem dL_law_383 : decode cL_law 383 = .ok (.ireturn, 1) := by decide +kernel
theorem dL_law_384 : decode cL_law 384 = .ok (.aload_n 1, 1) := by decide +kernel
theorem dL_law_385 : decode cL_law 385 = .ok (.aload_n 0, 1) := by decide +kernel
theorem dL_law_386 : decode cL_law 386 = .ok (.iload_n 3, 1) := by decide +kernel
theorem dL_law_387 : decode cL_law 387 = .ok (.iconst 1, 1) := by decide +kernel
theorem dL_law_388 : decode cL_law 388 = .ok (.iadd, 1) := by decide +kernel
theorem dL_law_389 : decode cL_law 389 = .ok (.iaload, 1) := by decide +kernel
theorem dL_law_390 : decode cL_law 390 = .ok (.aload_n 0, 1) := by decide +kernel
theorem dL_law_391 : decode cL_law 391 = .ok (.iload_n 3, 1) := by decide +kernel
theorem dL_law_392 : decode cL_law 392 = .ok (.iconst 2, 1) := by decide +kernel
theorem dL_law_393 : decode cL_law 393 = .ok (.iadd, 1) := by decide +kernel
theorem dL_law_394 : decode cL_law 394 = .ok (.iaload, 1) := by decide +kernel
theorem dL_law_395 : decode cL_law 395 = .ok (.invokevirtual 48, 3) := by decide +kernel
theorem dL_law_398 : decode cL_law 398 = .ok (.aload_n 2, 1) := by decide +kernel
theorem dL_law_399 : decode cL_law 399 = .ok (.aload_n 0, 1) := by decide +kernel
theorem dL_law_400 : decode cL_law 400 = .ok (.iload_n 3, 1) := by decide +kernel
theorem dL_law_401 : decode cL_law 401 = .ok (.iconst 1, 1) := by decide +kernel
theorem dL_law_402 : decode cL_law 402 = .ok (.iadd, 1) := by decide +kernel
theorem dL_law_403 : decode cL_law 403 = .ok (.iaload, 1) := by decide +kernel
theorem dL_law_404 : decode cL_law 404 = .ok (.aload_n 0, 1) := by decide +kernel
theorem dL_law_405 : decode cL_law 405 = .ok (.iload_n 3, 1) := by decide +kernel
theorem dL_law_406 : decode cL_law 406 = .ok (.iconst 2, 1) := by decide +kernel
theorem dL_law_407 : decode cL_law 407 = .ok (.iadd, 1) := by decide +kernel
theorem dL_law_408 : decode cL_law 408 = .ok (.iaload, 1) := by decide +kernel
theorem dL_law_409 : decode cL_law 409 = .ok (.invokevirtual 51, 3) := by decide +kernel
theorem dL_law_412 : decode cL_law 412 = .ok (.if_icmp .eq 833, 3) := by decide +kernel
theorem dL_law_415 : decode cL_law 415 = .ok (.iconst 0, 1) := by decide +kernel
theorem dL_law_416 : decode cL_law 416 = .ok (.ireturn, 1) := by decide +kernel
theorem dL_law_417 : decode cL_law 417 = .ok (.aload_n 1, 1) := by decide +kernel
theorem dL_law_418 : decode cL_law 418 = .ok (.aload_n 0, 1) := by decide +kernel
theorem dL_law_419 : decode cL_law 419 = .ok (.iload_n 3, 1) := by decide +kernel
theorem dL_law_420 : decode cL_law 420 = .ok (.iconst 1, 1) := by decide +kernel
theorem dL_law_421 : decode cL_law 421 = .ok (.iadd, 1) := by decide +kernel
theorem dL_law_422 : decode cL_law 422 = .ok (.iaload, 1) := by decide +kernel
theorem dL_law_423 : decode cL_law 423 = .ok (.aload_n 0, 1) := by decide +kernel
theorem dL_law_424 : decode cL_law 424 = .ok (.iload_n 3, 1) := by decide +kernel
theorem dL_law_425 : decode cL_law 425 = .ok (.iconst 2, 1) := by decide +kernel
theorem dL_law_426 : decode cL_law 426 = .ok (.iadd, 1) := by decide +kernel
theorem dL_law_427 : decode cL_law 427 = .ok (.iaload, 1) := by decide +kernel
theorem dL_law_428 : decode cL_law 428 = .ok (.invokevirtual 52, 3) := by decide +kernel
theorem dL_law_431 : decode cL_law 431 = .ok (.aload_n 2, 1) := by decide +kernel
theorem dL_law_432 : decode cL_law 432 = .ok (.aload_n 0, 1) := by decide +kernel
theorem dL_law_433 : decode cL_law 433 = .ok (.iload_n 3, 1) := by decide +kernel
theorem dL_law_434 : decode cL_law 434 = .ok (.iconst 1, 1) := by decide +kernel
theorem dL_law_435 : decode cL_law 435 = .ok (.iadd, 1) := by decide +kernel
theorem dL_law_436 : decode cL_law 436 = .ok (.iaload, 1) := by decide +kernel
theorem dL_law_437 : decode cL_law 437 = .ok (.aload_n 0, 1) := by decide +kernel
theorem dL_law_438 : decode cL_law 438 = .ok (.iload_n 3, 1) := by decide +kernel
theorem dL_law_439 : decode cL_law 439 = .ok (.iconst 2, 1) := by decide +kernel
theorem dL_law_440 : decode cL_law 440 = .ok (.iadd, 1) := by decide +kernel
theorem dL_law_441 : decode cL_law 441 = .ok (.iaload, 1) := by decide +kernel
theorem dL_law_442 : decode cL_law 442 = .ok (.invokevirtual 55, 3) := by decide +kernel
theorem dL_law_445 : decode cL_law 445 = .ok (.if_icmp .eq 800, 3) := by decide +kernel
theorem dL_law_448 : decode cL_law 448 = .ok (.iconst 0, 1) := by decide +kernel
theorem dL_law_449 : decode cL_law 449 = .ok (.ireturn, 1) := by decide +kernel
theorem dL_law_450 : decode cL_law 450 = .ok (.aload_n 1, 1) := by decide +kernel
theorem dL_law_451 : decode cL_law 451 = .ok (.aload_n 0, 1) := by decide +kernel
theorem dL_law_452 : decode cL_law 452 = .ok (.iload_n 3, 1) := by decide +kernel
theorem dL_law_453 : decode cL_law 453 = .ok (.iconst 1, 1) := by decide +kernel
theorem dL_law_454 : decode cL_law 454 = .ok (.iadd, 1) := by decide +kernel
theorem dL_law_455 : decode cL_law 455 = .ok (.iaload, 1) := by decide +kernel
theorem dL_law_456 : decode cL_law 456 = .ok (.aload_n 0, 1) := by decide +kernel
theorem dL_law_457 : decode cL_law 457 = .ok (.iload_n 3, 1) := by decide +kernel
theorem dL_law_458 : decode cL_law 458 = .ok (.iconst 2, 1) := by decide +kernel
theorem dL_law_459 : decode cL_law 459 = .ok (.iadd, 1) := by decide +kernel
theorem dL_law_460 : decode cL_law 460 = .ok (.iaload, 1) := by decide +kernel
theorem dL_law_461 : decode cL_law 461 = .ok (.invokevirtual 56, 3) := by decide +kernel
theorem dL_law_464 : decode cL_law 464 = .ok (.aload_n 2, 1) := by decide +kernel
theorem dL_law_465 : decode cL_law 465 = .ok (.aload_n 0, 1) := by decide +kernel
theorem dL_law_466 : decode cL_law 466 = .ok (.iload_n 3, 1) := by decide +kernel
theorem dL_law_467 : decode cL_law 467 = .ok (.iconst 1, 1) := by decide +kernel
theorem dL_law_468 : decode cL_law 468 = .ok (.iadd, 1) := by decide +kernel
theorem dL_law_469 : decode cL_law 469 = .ok (.iaload, 1) := by decide +kernel
theorem dL_law_470 : decode cL_law 470 = .ok (.aload_n 0, 1) := by decide +kernel
theorem dL_law_471 : decode cL_law 471 = .ok (.iload_n 3, 1) := by decide +kernel
theorem dL_law_472 : decode cL_law 472 = .ok (.iconst 2, 1) := by decide +kernel
theorem dL_law_473 : decode cL_law 473 = .ok (.iadd, 1) := by decide +kernel
theorem dL_law_474 : decode cL_law 474 = .ok (.iaload, 1) := by decide +kernel
theorem dL_law_475 : decode cL_law 475 = .ok (.invokevirtual 59, 3) := by decide +kernel
theorem dL_law_478 : decode cL_law 478 = .ok (.if_icmp .eq 767, 3) := by decide +kernel
theorem dL_law_481 : decode cL_law 481 = .ok (.iconst 0, 1) := by decide +kernel
theorem dL_law_482 : decode cL_law 482 = .ok (.ireturn, 1) := by decide +kernel
theorem dL_law_483 : decode cL_law 483 = .ok (.aload_n 1, 1) := by decide +kernel
theorem dL_law_484 : decode cL_law 484 = .ok (.aload_n 0, 1) := by decide +kernel
theorem dL_law_485 : decode cL_law 485 = .ok (.iload_n 3, 1) := by decide +kernel
theorem dL_law_486 : decode cL_law 486 = .ok (.iconst 1, 1) := by decide +kernel
theorem dL_law_487 : decode cL_law 487 = .ok (.iadd, 1) := by decide +kernel
theorem dL_law_488 : decode cL_law 488 = .ok (.iaload, 1) := by decide +kernel
theorem dL_law_489 : decode cL_law 489 = .ok (.invokevirtual 60, 3) := by decide +kernel
theorem dL_law_492 : decode cL_law 492 = .ok (.aload_n 2, 1) := by decide +kernel
theorem dL_law_493 : decode cL_law 493 = .ok (.aload_n 0, 1) := by decide +kernel
theorem dL_law_494 : decode cL_law 494 = .ok (.iload_n 3, 1) := by decide +kernel
theorem dL_law_495 : decode cL_law 495 = .ok (.iconst 1, 1) := by decide +kernel
theorem dL_law_496 : decode cL_law 496 = .ok (.iadd, 1) := by decide +kernel
theorem dL_law_497 : decode cL_law 497 = .ok (.iaload, 1) := by decide +kernel
theorem dL_law_498 : decode cL_law 498 = .ok (.invokevirtual 63, 3) := by decide +kernel
theorem dL_law_501 : decode cL_law 501 = .ok (.if_icmp .eq 744, 3) := by decide +kernel
theorem dL_law_504 : decode cL_law 504 = .ok (.iconst 0, 1) := by decide +kernel
theorem dL_law_505 : decode cL_law 505 = .ok (.ireturn, 1) := by decide +kernel
theorem dL_law_506 : decode cL_law 506 = .ok (.aload_n 1, 1) := by decide +kernel
theorem dL_law_507 : decode cL_law 507 = .ok (.aload_n 0, 1) := by decide +kernel
theorem dL_law_508 : decode cL_law 508 = .ok (.iload_n 3, 1) := by decide +kernel
theorem dL_law_509 : decode cL_law 509 = .ok (.iconst 1, 1) := by decide +kernel
theorem dL_law_510 : decode cL_law 510 = .ok (.iadd, 1) := by decide +kernel
theorem dL_law_511 : decode cL_law 511 = .ok (.iaload, 1) := by decide +kernel
theorem dL_law_512 : decode cL_law 512 = .ok (.invokevirtual 64, 3) := by decide +kernel
theorem dL_law_515 : decode cL_law 515 = .ok (.aload_n 2, 1) := by decide +kernel
theorem dL_law_516 : decode cL_law 516 = .ok (.aload_n 0, 1) := by decide +kernel
theorem dL_law_517 : decode cL_law 517 = .ok (.iload_n 3, 1) := by decide +kernel
theorem dL_law_518 : decode cL_law 518 = .ok (.iconst 1, 1) := by decide +kernel
theorem dL_law_519 : decode cL_law 519 = .ok (.iadd, 1) := by decide +kernel
theorem dL_law_520 : decode cL_law 520 = .ok (.iaload, 1) := by decide +kernel
theorem dL_law_521 : decode cL_law 521 = .ok (.invokevirtual 67, 3) := by decide +kernel
theorem dL_law_524 : decode cL_law 524 = .ok (.if_icmp .eq 721, 3) := by decide +kernel
theorem dL_law_527 : decode cL_law 527 = .ok (.iconst 0, 1) := by decide +kernel
theorem dL_law_528 : decode cL_law 528 = .ok (.ireturn, 1) := by decide +kernel
theorem dL_law_529 : decode cL_law 529 = .ok (.aload_n 1, 1) := by decide +kernel
theorem dL_law_530 : decode cL_law 530 = .ok (.aload_n 0, 1) := by decide +kernel
theorem dL_law_531 : decode cL_law 531 = .ok (.iload_n 3, 1) := by decide +kernel
theorem dL_law_532 : decode cL_law 532 = .ok (.iconst 1, 1) := by decide +kernel
theorem dL_law_533 : decode cL_law 533 = .ok (.iadd, 1) := by decide +kernel
theorem dL_law_534 : decode cL_law 534 = .ok (.iaload, 1) := by decide +kernel
theorem dL_law_535 : decode cL_law 535 = .ok (.invokevirtual 68, 3) := by decide +kernel
theorem dL_law_538 : decode cL_law 538 = .ok (.aload_n 2, 1) := by decide +kernel
theorem dL_law_539 : decode cL_law 539 = .ok (.aload_n 0, 1) := by decide +kernel
theorem dL_law_540 : decode cL_law 540 = .ok (.iload_n 3, 1) := by decide +kernel
theorem dL_law_541 : decode cL_law 541 = .ok (.iconst 1, 1) := by decide +kernel
theorem dL_law_542 : decode cL_law 542 = .ok (.iadd, 1) := by decide +kernel
theorem dL_law_543 : decode cL_law 543 = .ok (.iaload, 1) := by decide +kernel
theorem dL_law_544 : decode cL_law 544 = .ok (.invokevirtual 71, 3) := by decide +kernel
theorem dL_law_547 : decode cL_law 547 = .ok (.if_icmp .eq 698, 3) := by decide +kernel
theorem dL_law_550 : decode cL_law 550 = .ok (.iconst 0, 1) := by decide +kernel
theorem dL_law_551 : decode cL_law 551 = .ok (.ireturn, 1) := by decide +kernel
theorem dL_law_552 : decode cL_law 552 = .ok (.aload_n 1, 1) := by decide +kernel
theorem dL_law_553 : decode cL_law 553 = .ok (.aload_n 0, 1) := by decide +kernel
theorem dL_law_554 : decode cL_law 554 = .ok (.iload_n 3, 1) := by decide +kernel
theorem dL_law_555 : decode cL_law 555 = .ok (.iconst 1, 1) := by decide +kernel
theorem dL_law_556 : decode cL_law 556 = .ok (.iadd, 1) := by decide +kernel
theorem dL_law_557 : decode cL_law 557 = .ok (.iaload, 1) := by decide +kernel
theorem dL_law_558 : decode cL_law 558 = .ok (.aload_n 0, 1) := by decide +kernel
theorem dL_law_559 : decode cL_law 559 = .ok (.iload_n 3, 1) := by decide +kernel
theorem dL_law_560 : decode cL_law 560 = .ok (.iconst 2, 1) := by decide +kernel
theorem dL_law_561 : decode cL_law 561 = .ok (.iadd, 1) := by decide +kernel
theorem dL_law_562 : decode cL_law 562 = .ok (.iaload, 1) := by decide +kernel
theorem dL_law_563 : decode cL_law 563 = .ok (.invokevirtual 72, 3) := by decide +kernel
theorem dL_law_566 : decode cL_law 566 = .ok (.aload_n 2, 1) := by decide +kernel
theorem dL_law_567 : decode cL_law 567 = .ok (.aload_n 0, 1) := by decide +kernel
theorem dL_law_568 : decode cL_law 568 = .ok (.iload_n 3, 1) := by decide +kernel
theorem dL_law_569 : decode cL_law 569 = .ok (.iconst 1, 1) := by decide +kernel
theorem dL_law_570 : decode cL_law 570 = .ok (.iadd, 1) := by decide +kernel
theorem dL_law_571 : decode cL_law 571 = .ok (.iaload, 1) := by decide +kernel
theorem dL_law_572 : decode cL_law 572 = .ok (.aload_n 0, 1) := by decide +kernel
theorem dL_law_573 : decode cL_law 573 = .ok (.iload_n 3, 1) := by decide +kernel
theorem dL_law_574 : decode cL_law 574 = .ok (.iconst 2, 1) := by decide +kernel
theorem dL_law_575 : decode cL_law 575 = .ok (.iadd, 1) := by decide +kernel
theorem dL_law_576 : decode cL_law 576 = .ok (.iaload, 1) := by decide +kernel
theorem dL_law_577 : decode cL_law 577 = .ok (.invokevirtual 75, 3) := by decide +kernel
theorem dL_law_580 : decode cL_law 580 = .ok (.if_icmp .eq 665, 3) := by decide +kernel
theorem dL_law_583 : decode cL_law 583 = .ok (.iconst 0, 1) := by decide +kernel
theorem dL_law_584 : decode cL_law 584 = .ok (.ireturn, 1) := by decide +kernel
theorem dL_law_585 : decode cL_law 585 = .ok (.aload_n 1, 1) := by decide +kernel
theorem dL_law_586 : decode cL_law 586 = .ok (.aload_n 0, 1) := by decide +kernel
theorem dL_law_587 : decode cL_law 587 = .ok (.iload_n 3, 1) := by decide +kernel
theorem dL_law_588 : decode cL_law 588 = .ok (.iconst 1, 1) := by decide +kernel
theorem dL_law_589 : decode cL_law 589 = .ok (.iadd, 1) := by decide +kernel
theorem dL_law_590 : decode cL_law 590 = .ok (.iaload, 1) := by decide +kernel
theorem dL_law_591 : decode cL_law 591 = .ok (.aload_n 0, 1) := by decide +kernel
theorem dL_law_592 : decode cL_law 592 = .ok (.iload_n 3, 1) := by decide +kernel
theorem dL_law_593 : decode cL_law 593 = .ok (.iconst 2, 1) := by decide +kernel
theorem dL_law_594 : decode cL_law 594 = .ok (.iadd, 1) := by decide +kernel
theorem dL_law_595 : decode cL_law 595 = .ok (.iaload, 1) := by decide +kernel
theorem dL_law_596 : decode cL_law 596 = .ok (.invokevirtual 76, 3) := by decide +kernel
theorem dL_law_599 : decode cL_law 599 = .ok (.aload_n 2, 1) := by decide +kernel
theorem dL_law_600 : decode cL_law 600 = .ok (.aload_n 0, 1) := by decide +kernel
theorem dL_law_601 : decode cL_law 601 = .ok (.iload_n 3, 1) := by decide +kernel
theorem dL_law_602 : decode cL_law 602 = .ok (.iconst 1, 1) := by decide +kernel
theorem dL_law_603 : decode cL_law 603 = .ok (.iadd, 1) := by decide +kernel
theorem dL_law_604 : decode cL_law 604 = .ok (.iaload, 1) := by decide +kernel
theorem dL_law_605 : decode cL_law 605 = .ok (.aload_n 0, 1) := by decide +kernel
theorem dL_law_606 : decode cL_law 606 = .ok (.iload_n 3, 1) := by decide +kernel
theorem dL_law_607 : decode cL_law 607 = .ok (.iconst 2, 1) := by decide +kernel
theorem dL_law_608 : decode cL_law 608 = .ok (.iadd, 1) := by decide +kernel
theorem dL_law_609 : decode cL_law 609 = .ok (.iaload, 1) := by decide +kernel
theorem dL_law_610 : decode cL_law 610 = .ok (.invokevirtual 79, 3) := by decide +kernel
theorem dL_law_613 : decode cL_law 613 = .ok (.if_icmp .eq 632, 3) := by decide +kernel
theorem dL_law_616 : decode cL_law 616 = .ok (.iconst 0, 1) := by decide +kernel
theorem dL_law_617 : decode cL_law 617 = .ok (.ireturn, 1) := by decide +kernel
theorem dL_law_618 : decode cL_law 618 = .ok (.aload_n 1, 1) := by decide +kernel
theorem dL_law_619 : decode cL_law 619 = .ok (.aload_n 0, 1) := by decide +kernel
theorem dL_law_620 : decode cL_law 620 = .ok (.iload_n 3, 1) := by decide +kernel
theorem dL_law_621 : decode cL_law 621 = .ok (.iconst 1, 1) := by decide +kernel
theorem dL_law_622 : decode cL_law 622 = .ok (.iadd, 1) := by decide +kernel
theorem dL_law_623 : decode cL_law 623 = .ok (.iaload, 1) := by decide +kernel
theorem dL_law_624 : decode cL_law 624 = .ok (.invokevirtual 80, 3) := by decide +kernel
theorem dL_law_627 : decode cL_law 627 = .ok (.aload_n 2, 1) := by decide +kernel
theorem dL_law_628 : decode cL_law 628 = .ok (.aload_n 0, 1) := by decide +kernel
theorem dL_law_629 : decode cL_law 629 = .ok (.iload_n 3, 1) := by decide +kernel
theorem dL_law_630 : decode cL_law 630 = .ok (.iconst 1, 1) := by decide +kernel
theorem dL_law_631 : decode cL_law 631 = .ok (.iadd, 1) := by decide +kernel
theorem dL_law_632 : decode cL_law 632 = .ok (.iaload, 1) := by decide +kernel
theorem dL_law_633 : decode cL_law 633 = .ok (.invokevirtual 83, 3) := by decide +kernel
theorem dL_law_636 : decode cL_law 636 = .ok (.if_icmp .eq 609, 3) := by decide +kernel
theorem dL_law_639 : decode cL_law 639 = .ok (.iconst 0, 1) := by decide +kernel
theorem dL_law_640 : decode cL_law 640 = .ok (.ireturn, 1) := by decide +kernel
theorem dL_law_641 : decode cL_law 641 = .ok (.aload_n 1, 1) := by decide +kernel
theorem dL_law_642 : decode cL_law 642 = .ok (.aload_n 0, 1) := by decide +kernel
theorem dL_law_643 : decode cL_law 643 = .ok (.iload_n 3, 1) := by decide +kernel
theorem dL_law_644 : decode cL_law 644 = .ok (.iconst 1, 1) := by decide +kernel
theorem dL_law_645 : decode cL_law 645 = .ok (.iadd, 1) := by decide +kernel
theorem dL_law_646 : decode cL_law 646 = .ok (.iaload, 1) := by decide +kernel
theorem dL_law_647 : decode cL_law 647 = .ok (.invokevirtual 84, 3) := by decide +kernel
theorem dL_law_650 : decode cL_law 650 = .ok (.aload_n 2, 1) := by decide +kernel
theorem dL_law_651 : decode cL_law 651 = .ok (.aload_n 0, 1) := by decide +kernel
theorem dL_law_652 : decode cL_law 652 = .ok (.iload_n 3, 1) := by decide +kernel
theorem dL_law_653 : decode cL_law 653 = .ok (.iconst 1, 1) := by decide +kernel
theorem dL_law_654 : decode cL_law 654 = .ok (.iadd, 1) := by decide +kernel
theorem dL_law_655 : decode cL_law 655 = .ok (.iaload, 1) := by decide +kernel
theorem dL_law_656 : decode cL_law 656 = .ok (.invokevirtual 87, 3) := by decide +kernel
theorem dL_law_659 : decode cL_law 659 = .ok (.if_icmp .eq 586, 3) := by decide +kernel
theorem dL_law_662 : decode cL_law 662 = .ok (.iconst 0, 1) := by decide +kernel
theorem dL_law_663 : decode cL_law 663 = .ok (.ireturn, 1) := by decide +kernel
theorem dL_law_664 : decode cL_law 664 = .ok (.aload_n 1, 1) := by decide +kernel
theorem dL_law_665 : decode cL_law 665 = .ok (.aload_n 0, 1) := by decide +kernel
theorem dL_law_666 : decode cL_law 666 = .ok (.iload_n 3, 1) := by decide +kernel
theorem dL_law_667 : decode cL_law 667 = .ok (.iconst 1, 1) := by decide +kernel
theorem dL_law_668 : decode cL_law 668 = .ok (.iadd, 1) := by decide +kernel
theorem dL_law_669 : decode cL_law 669 = .ok (.iaload, 1) := by decide +kernel
theorem dL_law_670 : decode cL_law 670 = .ok (.invokevirtual 88, 3) := by decide +kernel
theorem dL_law_673 : decode cL_law 673 = .ok (.aload_n 2, 1) := by decide +kernel
theorem dL_law_674 : decode cL_law 674 = .ok (.aload_n 0, 1) := by decide +kernel
theorem dL_law_675 : decode cL_law 675 = .ok (.iload_n 3, 1) := by decide +kernel
theorem dL_law_676 : decode cL_law 676 = .ok (.iconst 1, 1) := by decide +kernel
theorem dL_law_677 : decode cL_law 677 = .ok (.iadd, 1) := by decide +kernel
theorem dL_law_678 : decode cL_law 678 = .ok (.iaload, 1) := by decide +kernel
theorem dL_law_679 : decode cL_law 679 = .ok (.invokevirtual 91, 3) := by decide +kernel
theorem dL_law_682 : decode cL_law 682 = .ok (.if_icmp .eq 563, 3) := by decide +kernel
theorem dL_law_685 : decode cL_law 685 = .ok (.iconst 0, 1) := by decide +kernel
theorem dL_law_686 : decode cL_law 686 = .ok (.ireturn, 1) := by decide +kernel
theorem dL_law_687 : decode cL_law 687 = .ok (.aload_n 1, 1) := by decide +kernel
theorem dL_law_688 : decode cL_law 688 = .ok (.aload_n 0, 1) := by decide +kernel
theorem dL_law_689 : decode cL_law 689 = .ok (.iload_n 3, 1) := by decide +kernel
theorem dL_law_690 : decode cL_law 690 = .ok (.iconst 1, 1) := by decide +kernel
theorem dL_law_691 : decode cL_law 691 = .ok (.iadd, 1) := by decide +kernel
theorem dL_law_692 : decode cL_law 692 = .ok (.iaload, 1) := by decide +kernel
theorem dL_law_693 : decode cL_law 693 = .ok (.aload_n 0, 1) := by decide +kernel
theorem dL_law_694 : decode cL_law 694 = .ok (.iload_n 3, 1) := by decide +kernel
theorem dL_law_695 : decode cL_law 695 = .ok (.iconst 2, 1) := by decide +kernel
theorem dL_law_696 : decode cL_law 696 = .ok (.iadd, 1) := by decide +kernel
theorem dL_law_697 : decode cL_law 697 = .ok (.iaload, 1) := by decide +kernel
theorem dL_law_698 : decode cL_law 698 = .ok (.invokevirtual 92, 3) := by decide +kernel
theorem dL_law_701 : decode cL_law 701 = .ok (.aload_n 2, 1) := by decide +kernel
theorem dL_law_702 : decode cL_law 702 = .ok (.aload_n 0, 1) := by decide +kernel
theorem dL_law_703 : decode cL_law 703 = .ok (.iload_n 3, 1) := by decide +kernel
theorem dL_law_704 : decode cL_law 704 = .ok (.iconst 1, 1) := by decide +kernel
theorem dL_law_705 : decode cL_law 705 = .ok (.iadd, 1) := by decide +kernel
theorem dL_law_706 : decode cL_law 706 = .ok (.iaload, 1) := by decide +kernel
theorem dL_law_707 : decode cL_law 707 = .ok (.aload_n 0, 1) := by decide +kernel
theorem dL_law_708 : decode cL_law 708 = .ok (.iload_n 3, 1) := by decide +kernel
theorem dL_law_709 : decode cL_law 709 = .ok (.iconst 2, 1) := by decide +kernel
theorem dL_law_710 : decode cL_law 710 = .ok (.iadd, 1) := by decide +kernel
theorem dL_law_711 : decode cL_law 711 = .ok (.iaload, 1) := by decide +kernel
theorem dL_law_712 : decode cL_law 712 = .ok (.invokevirtual 95, 3) := by decide +kernel
theorem dL_law_715 : decode cL_law 715 = .ok (.if_icmp .eq 530, 3) := by decide +kernel
theorem dL_law_718 : decode cL_law 718 = .ok (.iconst 0, 1) := by decide +kernel
theorem dL_law_719 : decode cL_law 719 = .ok (.ireturn, 1) := by decide +kernel
theorem dL_law_720 : decode cL_law 720 = .ok (.aload_n 1, 1) := by decide +kernel
theorem dL_law_721 : decode cL_law 721 = .ok (.aload_n 0, 1) := by decide +kernel
theorem dL_law_722 : decode cL_law 722 = .ok (.iload_n 3, 1) := by decide +kernel
theorem dL_law_723 : decode cL_law 723 = .ok (.iconst 1, 1) := by decide +kernel
theorem dL_law_724 : decode cL_law 724 = .ok (.iadd, 1) := by decide +kernel
theorem dL_law_725 : decode cL_law 725 = .ok (.iaload, 1) := by decide +kernel
theorem dL_law_726 : decode cL_law 726 = .ok (.aload_n 0, 1) := by decide +kernel
theorem dL_law_727 : decode cL_law 727 = .ok (.iload_n 3, 1) := by decide +kernel
theorem dL_law_728 : decode cL_law 728 = .ok (.iconst 2, 1) := by decide +kernel
theorem dL_law_729 : decode cL_law 729 = .ok (.iadd, 1) := by decide +kernel
theorem dL_law_730 : decode cL_law 730 = .ok (.iaload, 1) := by decide +kernel
theorem dL_law_731 : decode cL_law 731 = .ok (.invokevirtual 96, 3) := by decide +kernel
theorem dL_law_734 : decode cL_law 734 = .ok (.aload_n 2, 1) := by decide +kernel
theorem dL_law_735 : decode cL_law 735 = .ok (.aload_n 0, 1) := by decide +kernel
theorem dL_law_736 : decode cL_law 736 = .ok (.iload_n 3, 1) := by decide +kernel
theorem dL_law_737 : decode cL_law 737 = .ok (.iconst 1, 1) := by decide +kernel
theorem dL_law_738 : decode cL_law 738 = .ok (.iadd, 1) := by decide +kernel
theorem dL_law_739 : decode cL_law 739 = .ok (.iaload, 1) := by decide +kernel
theorem dL_law_740 : decode cL_law 740 = .ok (.aload_n 0, 1) := by decide +kernel
theorem dL_law_741 : decode cL_law 741 = .ok (.iload_n 3, 1) := by decide +kernel
theorem dL_law_742 : decode cL_law 742 = .ok (.iconst 2, 1) := by decide +kernel
theorem dL_law_743 : decode cL_law 743 = .ok (.iadd, 1) := by decide +kernel
theorem dL_law_744 : decode cL_law 744 = .ok (.iaload, 1) := by decide +kernel
theorem dL_law_745 : decode cL_law 745 = .ok (.invokevirtual 99, 3) := by decide +kernel
theorem dL_law_748 : decode cL_law 748 = .ok (.if_icmp .eq 497, 3) := by decide +kernel
theorem dL_law_751 : decode cL_law 751 = .ok (.iconst 0, 1) := by decide +kernel
theorem dL_law_752 : decode cL_law 752 = .ok (.ireturn, 1) := by decide +kernel
theorem dL_law_753 : decode cL_law 753 = .ok (.aload_n 1, 1) := by decide +kernel
theorem dL_law_754 : decode cL_law 754 = .ok (.aload_n 0, 1) := by decide +kernel
theorem dL_law_755 : decode cL_law 755 = .ok (.iload_n 3, 1) := by decide +kernel
theorem dL_law_756 : decode cL_law 756 = .ok (.iconst 1, 1) := by decide +kernel
theorem dL_law_757 : decode cL_law 757 = .ok (.iadd, 1) := by decide +kernel
theorem dL_law_758 : decode cL_law 758 = .ok (.iaload, 1) := by decide +kernel
theorem dL_law_759 : decode cL_law 759 = .ok (.invokevirtual 100, 3) := by decide +kernel
theorem dL_law_762 : decode cL_law 762 = .ok (.aload_n 2, 1) := by decide +kernel
theorem dL_law_763 : decode cL_law 763 = .ok (.aload_n 0, 1) := by decide +kernel
theorem dL_law_764 : decode cL_law 764 = .ok (.iload_n 3, 1) := by decide +kernel
theorem dL_law_765 : decode cL_law 765 = .ok (.iconst 1, 1) := by decide +kernel
theorem dL_law_766 : decode cL_law 766 = .ok (.iadd, 1) := by decide +kernel
theorem dL_law_767 : decode cL_law 767 = .ok (.iaload, 1) := by decide +kernel
theorem dL_law_768 : decode cL_law 768 = .ok (.invokevirtual 103, 3) := by decide +kernel
theorem dL_law_771 : decode cL_law 771 = .ok (.if_icmp .eq 474, 3) := by decide +kernel
theorem dL_law_774 : decode cL_law 774 = .ok (.iconst 0, 1) := by decide +kernel
theorem dL_law_775 : decode cL_law 775 = .ok (.ireturn, 1) := by decide +kernel
theorem dL_law_776 : decode cL_law 776 = .ok (.aload_n 1, 1) := by decide +kernel
theorem dL_law_777 : decode cL_law 777 = .ok (.aload_n 0, 1) := by decide +kernel
theorem dL_law_778 : decode cL_law 778 = .ok (.iload_n 3, 1) := by decide +kernel
theorem dL_law_779 : decode cL_law 779 = .ok (.iconst 1, 1) := by decide +kernel
theorem dL_law_780 : decode cL_law 780 = .ok (.iadd, 1) := by decide +kernel
theorem dL_law_781 : decode cL_law 781 = .ok (.iaload, 1) := by decide +kernel
theorem dL_law_782 : decode cL_law 782 = .ok (.aload_n 0, 1) := by decide +kernel
theorem dL_law_783 : decode cL_law 783 = .ok (.iload_n 3, 1) := by decide +kernel
theorem dL_law_784 : decode cL_law 784 = .ok (.iconst 2, 1) := by decide +kernel
theorem dL_law_785 : decode cL_law 785 = .ok (.iadd, 1) := by decide +kernel
theorem dL_law_786 : decode cL_law 786 = .ok (.iaload, 1) := by decide +kernel
theorem dL_law_787 : decode cL_law 787 = .ok (.invokevirtual 104, 3) := by decide +kernel
theorem dL_law_790 : decode cL_law 790 = .ok (.aload_n 2, 1) := by decide +kernel
theorem dL_law_791 : decode cL_law 791 = .ok (.aload_n 0, 1) := by decide +kernel
theorem dL_law_792 : decode cL_law 792 = .ok (.iload_n 3, 1) := by decide +kernel
theorem dL_law_793 : decode cL_law 793 = .ok (.iconst 1, 1) := by decide +kernel
theorem dL_law_794 : decode cL_law 794 = .ok (.iadd, 1) := by decide +kernel
theorem dL_law_795 : decode cL_law 795 = .ok (.iaload, 1) := by decide +kernel
theorem dL_law_796 : decode cL_law 796 = .ok (.aload_n 0, 1) := by decide +kernel
theorem dL_law_797 : decode cL_law 797 = .ok (.iload_n 3, 1) := by decide +kernel
theorem dL_law_798 : decode cL_law 798 = .ok (.iconst 2, 1) := by decide +kernel
theorem dL_law_799 : decode cL_law 799 = .ok (.iadd, 1) := by decide +kernel
theorem dL_law_800 : decode cL_law 800 = .ok (.iaload, 1) := by decide +kernel
theorem dL_law_801 : decode cL_law 801 = .ok (.invokevirtual 107, 3) := by decide +kernel
theorem dL_law_804 : decode cL_law 804 = .ok (.if_icmp .eq 441, 3) := by decide +kernel
theorem dL_law_807 : decode cL_law 807 = .ok (.iconst 0, 1) := by decide +kernel
theorem dL_law_808 : decode cL_law 808 = .ok (.ireturn, 1) := by decide +kernel
theorem dL_law_809 : decode cL_law 809 = .ok (.aload_n 1, 1) := by decide +kernel
theorem dL_law_810 : decode cL_law 810 = .ok (.aload_n 0, 1) := by decide +kernel
theorem dL_law_811 : decode cL_law 811 = .ok (.iload_n 3, 1) := by decide +kernel
theorem dL_law_812 : decode cL_law 812 = .ok (.iconst 1, 1) := by decide +kernel
theorem dL_law_813 : decode cL_law 813 = .ok (.iadd, 1) := by decide +kernel
theorem dL_law_814 : decode cL_law 814 = .ok (.iaload, 1) := by decide +kernel
theorem dL_law_815 : decode cL_law 815 = .ok (.aload_n 0, 1) := by decide +kernel
theorem dL_law_816 : decode cL_law 816 = .ok (.iload_n 3, 1) := by decide +kernel
theorem dL_law_817 : decode cL_law 817 = .ok (.iconst 2, 1) := by decide +kernel
theorem dL_law_818 : decode cL_law 818 = .ok (.iadd, 1) := by decide +kernel
theorem dL_law_819 : decode cL_law 819 = .ok (.iaload, 1) := by decide +kernel
theorem dL_law_820 : decode cL_law 820 = .ok (.invokevirtual 108, 3) := by decide +kernel
theorem dL_law_823 : decode cL_law 823 = .ok (.aload_n 2, 1) := by decide +kernel
theorem dL_law_824 : decode cL_law 824 = .ok (.aload_n 0, 1) := by decide +kernel
theorem dL_law_825 : decode cL_law 825 = .ok (.iload_n 3, 1) := by decide +kernel
theorem dL_law_826 : decode cL_law 826 = .ok (.iconst 1, 1) := by decide +kernel
theorem dL_law_827 : decode cL_law 827 = .ok (.iadd, 1) := by decide +kernel
theorem dL_law_828 : decode cL_law 828 = .ok (.iaload, 1) := by decide +kernel
theorem dL_law_829 : decode cL_law 829 = .ok (.aload_n 0, 1) := by decide +kernel
theorem dL_law_830 : decode cL_law 830 = .ok (.iload_n 3, 1) := by decide +kernel
theorem dL_law_831 : decode cL_law 831 = .ok (.iconst 2, 1) := by decide +kernel
theorem dL_law_832 : decode cL_law 832 = .ok (.iadd, 1) := by decide +kernel
theorem dL_law_833 : decode cL_law 833 = .ok (.iaload, 1) := by decide +kernel
theorem dL_law_834 : decode cL_law 834 = .ok (.invokevirtual 111, 3) := by decide +kernel
theorem dL_law_837 : decode cL_law 837 = .ok (.if_icmp .eq 408, 3) := by decide +kernel
theorem dL_law_840 : decode cL_law 840 = .ok (.iconst 0, 1) := by decide +kernel
theorem dL_law_841 : decode cL_law 841 = .ok (.ireturn, 1) := by decide +kernel
theorem dL_law_842 : decode cL_law 842 = .ok (.aload_n 1, 1) := by decide +kernel
theorem dL_law_843 : decode cL_law 843 = .ok (.aload_n 0, 1) := by decide +kernel
theorem dL_law_844 : decode cL_law 844 = .ok (.iload_n 3, 1) := by decide +kernel
theorem dL_law_845 : decode cL_law 845 = .ok (.iconst 1, 1) := by decide +kernel
theorem dL_law_846 : decode cL_law 846 = .ok (.iadd, 1) := by decide +kernel
theorem dL_law_847 : decode cL_law 847 = .ok (.iaload, 1) := by decide +kernel
theorem dL_law_848 : decode cL_law 848 = .ok (.invokevirtual 112, 3) := by decide +kernel
theorem dL_law_851 : decode cL_law 851 = .ok (.aload_n 2, 1) := by decide +kernel
theorem dL_law_852 : decode cL_law 852 = .ok (.aload_n 0, 1) := by decide +kernel
theorem dL_law_853 : decode cL_law 853 = .ok (.iload_n 3, 1) := by decide +kernel
theorem dL_law_854 : decode cL_law 854 = .ok (.iconst 1, 1) := by decide +kernel
theorem dL_law_855 : decode cL_law 855 = .ok (.iadd, 1) := by decide +kernel
theorem dL_law_856 : decode cL_law 856 = .ok (.iaload, 1) := by decide +kernel
theorem dL_law_857 : decode cL_law 857 = .ok (.invokevirtual 115, 3) := by decide +kernel
theorem dL_law_860 : decode cL_law 860 = .ok (.if_icmp .eq 385, 3) := by decide +kernel
theorem dL_law_863 : decode cL_law 863 = .ok (.iconst 0, 1) := by decide +kernel
theorem dL_law_864 : decode cL_law 864 = .ok (.ireturn, 1) := by decide +kernel
theorem dL_law_865 : decode cL_law 865 = .ok (.aload_n 1, 1) := by decide +kernel
theorem dL_law_866 : decode cL_law 866 = .ok (.invokevirtual 116, 3) := by decide +kernel
theorem dL_law_869 : decode cL_law 869 = .ok (.aload_n 2, 1) := by decide +kernel
theorem dL_law_870 : decode cL_law 870 = .ok (.invokevirtual 119, 3) := by decide +kernel
theorem dL_law_873 : decode cL_law 873 = .ok (.if_icmp .eq 372, 3) := by decide +kernel
theorem dL_law_876 : decode cL_law 876 = .ok (.iconst 0, 1) := by decide +kernel
theorem dL_law_877 : decode cL_law 877 = .ok (.ireturn, 1) := by decide +kernel
theorem dL_law_878 : decode cL_law 878 = .ok (.aload_n 1, 1) := by decide +kernel
theorem dL_law_879 : decode cL_law 879 = .ok (.aload_n 0, 1) := by decide +kernel
theorem dL_law_880 : decode cL_law 880 = .ok (.iload_n 3, 1) := by decide +kernel
theorem dL_law_881 : decode cL_law 881 = .ok (.iconst 1, 1) := by decide +kernel
theorem dL_law_882 : decode cL_law 882 = .ok (.iadd, 1) := by decide +kernel
theorem dL_law_883 : decode cL_law 883 = .ok (.iaload, 1) := by decide +kernel
theorem dL_law_884 : decode cL_law 884 = .ok (.invokevirtual 120, 3) := by decide +kernel
theorem dL_law_887 : decode cL_law 887 = .ok (.aload_n 2, 1) := by decide +kernel
theorem dL_law_888 : decode cL_law 888 = .ok (.aload_n 0, 1) := by decide +kernel
theorem dL_law_889 : decode cL_law 889 = .ok (.iload_n 3, 1) := by decide +kernel
theorem dL_law_890 : decode cL_law 890 = .ok (.iconst 1, 1) := by decide +kernel
theorem dL_law_891 : decode cL_law 891 = .ok (.iadd, 1) := by decide +kernel
theorem dL_law_892 : decode cL_law 892 = .ok (.iaload, 1) := by decide +kernel
theorem dL_law_893 : decode cL_law 893 = .ok (.invokevirtual 123, 3) := by decide +kernel
theorem dL_law_896 : decode cL_law 896 = .ok (.if_icmp .eq 349, 3) := by decide +kernel
theorem dL_law_899 : decode cL_law 899 = .ok (.iconst 0, 1) := by decide +kernel
theorem dL_law_900 : decode cL_law 900 = .ok (.ireturn, 1) := by decide +kernel
theorem dL_law_901 : decode cL_law 901 = .ok (.aload_n 1, 1) := by decide +kernel
theorem dL_law_902 : decode cL_law 902 = .ok (.aload_n 0, 1) := by decide +kernel
theorem dL_law_903 : decode cL_law 903 = .ok (.iload_n 3, 1) := by decide +kernel
theorem dL_law_904 : decode cL_law 904 = .ok (.iconst 1, 1) := by decide +kernel
theorem dL_law_905 : decode cL_law 905 = .ok (.iadd, 1) := by decide +kernel
theorem dL_law_906 : decode cL_law 906 = .ok (.iaload, 1) := by decide +kernel
theorem dL_law_907 : decode cL_law 907 = .ok (.aload_n 0, 1) := by decide +kernel
theorem dL_law_908 : decode cL_law 908 = .ok (.iload_n 3, 1) := by decide +kernel
theorem dL_law_909 : decode cL_law 909 = .ok (.iconst 2, 1) := by decide +kernel
theorem dL_law_910 : decode cL_law 910 = .ok (.iadd, 1) := by decide +kernel
theorem dL_law_911 : decode cL_law 911 = .ok (.iaload, 1) := by decide +kernel
theorem dL_law_912 : decode cL_law 912 = .ok (.invokevirtual 124, 3) := by decide +kernel
theorem dL_law_915 : decode cL_law 915 = .ok (.aload_n 2, 1) := by decide +kernel
theorem dL_law_916 : decode cL_law 916 = .ok (.aload_n 0, 1) := by decide +kernel
theorem dL_law_917 : decode cL_law 917 = .ok (.iload_n 3, 1) := by decide +kernel
theorem dL_law_918 : decode cL_law 918 = .ok (.iconst 1, 1) := by decide +kernel
theorem dL_law_919 : decode cL_law 919 = .ok (.iadd, 1) := by decide +kernel
theorem dL_law_920 : decode cL_law 920 = .ok (.iaload, 1) := by decide +kernel
theorem dL_law_921 : decode cL_law 921 = .ok (.aload_n 0, 1) := by decide +kernel
theorem dL_law_922 : decode cL_law 922 = .ok (.iload_n 3, 1) := by decide +kernel
theorem dL_law_923 : decode cL_law 923 = .ok (.iconst 2, 1) := by decide +kernel
theorem dL_law_924 : decode cL_law 924 = .ok (.iadd, 1) := by decide +kernel
theorem dL_law_925 : decode cL_law 925 = .ok (.iaload, 1) := by decide +kernel
theorem dL_law_926 : decode cL_law 926 = .ok (.invokevirtual 127, 3) := by decide +kernel
theorem dL_law_929 : decode cL_law 929 = .ok (.if_icmp .eq 316, 3) := by decide +kernel
theorem dL_law_932 : decode cL_law 932 = .ok (.iconst 0, 1) := by decide +kernel
theorem dL_law_933 : decode cL_law 933 = .ok (.ireturn, 1) := by decide +kernel
theorem dL_law_934 : decode cL_law 934 = .ok (.aload_n 1, 1) := by decide +kernel
theorem dL_law_935 : decode cL_law 935 = .ok (.aload_n 0, 1) := by decide +kernel
theorem dL_law_936 : decode cL_law 936 = .ok (.iload_n 3, 1) := by decide +kernel
theorem dL_law_937 : decode cL_law 937 = .ok (.iconst 1, 1) := by decide +kernel
theorem dL_law_938 : decode cL_law 938 = .ok (.iadd, 1) := by decide +kernel
theorem dL_law_939 : decode cL_law 939 = .ok (.iaload, 1) := by decide +kernel
theorem dL_law_940 : decode cL_law 940 = .ok (.aload_n 0, 1) := by decide +kernel
theorem dL_law_941 : decode cL_law 941 = .ok (.iload_n 3, 1) := by decide +kernel
theorem dL_law_942 : decode cL_law 942 = .ok (.iconst 2, 1) := by decide +kernel
theorem dL_law_943 : decode cL_law 943 = .ok (.iadd, 1) := by decide +kernel
theorem dL_law_944 : decode cL_law 944 = .ok (.iaload, 1) := by decide +kernel
theorem dL_law_945 : decode cL_law 945 = .ok (.invokevirtual 128, 3) := by decide +kernel
theorem dL_law_948 : decode cL_law 948 = .ok (.aload_n 2, 1) := by decide +kernel
theorem dL_law_949 : decode cL_law 949 = .ok (.aload_n 0, 1) := by decide +kernel
theorem dL_law_950 : decode cL_law 950 = .ok (.iload_n 3, 1) := by decide +kernel
theorem dL_law_951 : decode cL_law 951 = .ok (.iconst 1, 1) := by decide +kernel
theorem dL_law_952 : decode cL_law 952 = .ok (.iadd, 1) := by decide +kernel
theorem dL_law_953 : decode cL_law 953 = .ok (.iaload, 1) := by decide +kernel
theorem dL_law_954 : decode cL_law 954 = .ok (.aload_n 0, 1) := by decide +kernel
theorem dL_law_955 : decode cL_law 955 = .ok (.iload_n 3, 1) := by decide +kernel
theorem dL_law_956 : decode cL_law 956 = .ok (.iconst 2, 1) := by decide +kernel
theorem dL_law_957 : decode cL_law 957 = .ok (.iadd, 1) := by decide +kernel
theorem dL_law_958 : decode cL_law 958 = .ok (.iaload, 1) := by decide +kernel
theorem dL_law_959 : decode cL_law 959 = .ok (.invokevirtual 132, 3) := by decide +kernel
theorem dL_law_962 : decode cL_law 962 = .ok (.lcmp, 1) := by decide +kernel
theorem dL_law_963 : decode cL_law 963 = .ok (.ifCond .eq 282, 3) := by decide +kernel
theorem dL_law_966 : decode cL_law 966 = .ok (.iconst 0, 1) := by decide +kernel
theorem dL_law_967 : decode cL_law 967 = .ok (.ireturn, 1) := by decide +kernel
theorem dL_law_968 : decode cL_law 968 = .ok (.aload_n 1, 1) := by decide +kernel
theorem dL_law_969 : decode cL_law 969 = .ok (.invokevirtual 133, 3) := by decide +kernel
theorem dL_law_972 : decode cL_law 972 = .ok (.aload_n 2, 1) := by decide +kernel
theorem dL_law_973 : decode cL_law 973 = .ok (.invokevirtual 136, 3) := by decide +kernel
theorem dL_law_976 : decode cL_law 976 = .ok (.if_icmp .eq 269, 3) := by decide +kernel
theorem dL_law_979 : decode cL_law 979 = .ok (.iconst 0, 1) := by decide +kernel
theorem dL_law_980 : decode cL_law 980 = .ok (.ireturn, 1) := by decide +kernel
theorem dL_law_981 : decode cL_law 981 = .ok (.aload_n 1, 1) := by decide +kernel
theorem dL_law_982 : decode cL_law 982 = .ok (.aload_n 0, 1) := by decide +kernel
theorem dL_law_983 : decode cL_law 983 = .ok (.iload_n 3, 1) := by decide +kernel
theorem dL_law_984 : decode cL_law 984 = .ok (.iconst 1, 1) := by decide +kernel
theorem dL_law_985 : decode cL_law 985 = .ok (.iadd, 1) := by decide +kernel
theorem dL_law_986 : decode cL_law 986 = .ok (.iaload, 1) := by decide +kernel
theorem dL_law_987 : decode cL_law 987 = .ok (.aload_n 0, 1) := by decide +kernel
theorem dL_law_988 : decode cL_law 988 = .ok (.iload_n 3, 1) := by decide +kernel
theorem dL_law_989 : decode cL_law 989 = .ok (.iconst 2, 1) := by decide +kernel
theorem dL_law_990 : decode cL_law 990 = .ok (.iadd, 1) := by decide +kernel
theorem dL_law_991 : decode cL_law 991 = .ok (.iaload, 1) := by decide +kernel
theorem dL_law_992 : decode cL_law 992 = .ok (.aload_n 0, 1) := by decide +kernel
theorem dL_law_993 : decode cL_law 993 = .ok (.iload_n 3, 1) := by decide +kernel
theorem dL_law_994 : decode cL_law 994 = .ok (.iconst 3, 1) := by decide +kernel
theorem dL_law_995 : decode cL_law 995 = .ok (.iadd, 1) := by decide +kernel
theorem dL_law_996 : decode cL_law 996 = .ok (.iaload, 1) := by decide +kernel
theorem dL_law_997 : decode cL_law 997 = .ok (.invokevirtual 137, 3) := by decide +kernel
theorem dL_law_1000 : decode cL_law 1000 = .ok (.aload_n 2, 1) := by decide +kernel
theorem dL_law_1001 : decode cL_law 1001 = .ok (.aload_n 0, 1) := by decide +kernel
theorem dL_law_1002 : decode cL_law 1002 = .ok (.iload_n 3, 1) := by decide +kernel
theorem dL_law_1003 : decode cL_law 1003 = .ok (.iconst 1, 1) := by decide +kernel
theorem dL_law_1004 : decode cL_law 1004 = .ok (.iadd, 1) := by decide +kernel
theorem dL_law_1005 : decode cL_law 1005 = .ok (.iaload, 1) := by decide +kernel
theorem dL_law_1006 : decode cL_law 1006 = .ok (.aload_n 0, 1) := by decide +kernel
theorem dL_law_1007 : decode cL_law 1007 = .ok (.iload_n 3, 1) := by decide +kernel
theorem dL_law_1008 : decode cL_law 1008 = .ok (.iconst 2, 1) := by decide +kernel
theorem dL_law_1009 : decode cL_law 1009 = .ok (.iadd, 1) := by decide +kernel
theorem dL_law_1010 : decode cL_law 1010 = .ok (.iaload, 1) := by decide +kernel
theorem dL_law_1011 : decode cL_law 1011 = .ok (.aload_n 0, 1) := by decide +kernel
theorem dL_law_1012 : decode cL_law 1012 = .ok (.iload_n 3, 1) := by decide +kernel
theorem dL_law_1013 : decode cL_law 1013 = .ok (.iconst 3, 1) := by decide +kernel
theorem dL_law_1014 : decode cL_law 1014 = .ok (.iadd, 1) := by decide +kernel
theorem dL_law_1015 : decode cL_law 1015 = .ok (.iaload, 1) := by decide +kernel
theorem dL_law_1016 : decode cL_law 1016 = .ok (.invokevirtual 141, 3) := by decide +kernel
theorem dL_law_1019 : decode cL_law 1019 = .ok (.if_icmp .eq 226, 3) := by decide +kernel
theorem dL_law_1022 : decode cL_law 1022 = .ok (.iconst 0, 1) := by decide +kernel
theorem dL_law_1023 : decode cL_law 1023 = .ok (.ireturn, 1) := by decide +kernel
theorem dL_law_1024 : decode cL_law 1024 = .ok (.aload_n 1, 1) := by decide +kernel
theorem dL_law_1025 : decode cL_law 1025 = .ok (.aload_n 0, 1) := by decide +kernel
theorem dL_law_1026 : decode cL_law 1026 = .ok (.iload_n 3, 1) := by decide +kernel
theorem dL_law_1027 : decode cL_law 1027 = .ok (.iconst 1, 1) := by decide +kernel
theorem dL_law_1028 : decode cL_law 1028 = .ok (.iadd, 1) := by decide +kernel
theorem dL_law_1029 : decode cL_law 1029 = .ok (.iaload, 1) := by decide +kernel
theorem dL_law_1030 : decode cL_law 1030 = .ok (.invokevirtual 142, 3) := by decide +kernel
theorem dL_law_1033 : decode cL_law 1033 = .ok (.aload_n 2, 1) := by decide +kernel
theorem dL_law_1034 : decode cL_law 1034 = .ok (.aload_n 0, 1) := by decide +kernel
theorem dL_law_1035 : decode cL_law 1035 = .ok (.iload_n 3, 1) := by decide +kernel
theorem dL_law_1036 : decode cL_law 1036 = .ok (.iconst 1, 1) := by decide +kernel
theorem dL_law_1037 : decode cL_law 1037 = .ok (.iadd, 1) := by decide +kernel
theorem dL_law_1038 : decode cL_law 1038 = .ok (.iaload, 1) := by decide +kernel
theorem dL_law_1039 : decode cL_law 1039 = .ok (.invokevirtual 145, 3) := by decide +kernel
theorem dL_law_1042 : decode cL_law 1042 = .ok (.if_icmp .eq 203, 3) := by decide +kernel
theorem dL_law_1045 : decode cL_law 1045 = .ok (.iconst 0, 1) := by decide +kernel
theorem dL_law_1046 : decode cL_law 1046 = .ok (.ireturn, 1) := by decide +kernel
theorem dL_law_1047 : decode cL_law 1047 = .ok (.aload_n 1, 1) := by decide +kernel
theorem dL_law_1048 : decode cL_law 1048 = .ok (.aload_n 0, 1) := by decide +kernel
theorem dL_law_1049 : decode cL_law 1049 = .ok (.iload_n 3, 1) := by decide +kernel
theorem dL_law_1050 : decode cL_law 1050 = .ok (.iconst 1, 1) := by decide +kernel
theorem dL_law_1051 : decode cL_law 1051 = .ok (.iadd, 1) := by decide +kernel
theorem dL_law_1052 : decode cL_law 1052 = .ok (.iaload, 1) := by decide +kernel
theorem dL_law_1053 : decode cL_law 1053 = .ok (.invokevirtual 146, 3) := by decide +kernel
theorem dL_law_1056 : decode cL_law 1056 = .ok (.aload_n 2, 1) := by decide +kernel
theorem dL_law_1057 : decode cL_law 1057 = .ok (.aload_n 0, 1) := by decide +kernel
theorem dL_law_1058 : decode cL_law 1058 = .ok (.iload_n 3, 1) := by decide +kernel
theorem dL_law_1059 : decode cL_law 1059 = .ok (.iconst 1, 1) := by decide +kernel
theorem dL_law_1060 : decode cL_law 1060 = .ok (.iadd, 1) := by decide +kernel
theorem dL_law_1061 : decode cL_law 1061 = .ok (.iaload, 1) := by decide +kernel
theorem dL_law_1062 : decode cL_law 1062 = .ok (.invokevirtual 149, 3) := by decide +kernel
theorem dL_law_1065 : decode cL_law 1065 = .ok (.if_icmp .eq 180, 3) := by decide +kernel
theorem dL_law_1068 : decode cL_law 1068 = .ok (.iconst 0, 1) := by decide +kernel
theorem dL_law_1069 : decode cL_law 1069 = .ok (.ireturn, 1) := by decide +kernel
theorem dL_law_1070 : decode cL_law 1070 = .ok (.aload_n 1, 1) := by decide +kernel
theorem dL_law_1071 : decode cL_law 1071 = .ok (.aload_n 0, 1) := by decide +kernel
theorem dL_law_1072 : decode cL_law 1072 = .ok (.iload_n 3, 1) := by decide +kernel
theorem dL_law_1073 : decode cL_law 1073 = .ok (.iconst 1, 1) := by decide +kernel
theorem dL_law_1074 : decode cL_law 1074 = .ok (.iadd, 1) := by decide +kernel
theorem dL_law_1075 : decode cL_law 1075 = .ok (.iaload, 1) := by decide +kernel
theorem dL_law_1076 : decode cL_law 1076 = .ok (.aload_n 0, 1) := by decide +kernel
theorem dL_law_1077 : decode cL_law 1077 = .ok (.iload_n 3, 1) := by decide +kernel
theorem dL_law_1078 : decode cL_law 1078 = .ok (.iconst 2, 1) := by decide +kernel
theorem dL_law_1079 : decode cL_law 1079 = .ok (.iadd, 1) := by decide +kernel
theorem dL_law_1080 : decode cL_law 1080 = .ok (.iaload, 1) := by decide +kernel
theorem dL_law_1081 : decode cL_law 1081 = .ok (.aload_n 0, 1) := by decide +kernel
theorem dL_law_1082 : decode cL_law 1082 = .ok (.iload_n 3, 1) := by decide +kernel
theorem dL_law_1083 : decode cL_law 1083 = .ok (.iconst 3, 1) := by decide +kernel
theorem dL_law_1084 : decode cL_law 1084 = .ok (.iadd, 1) := by decide +kernel
theorem dL_law_1085 : decode cL_law 1085 = .ok (.iaload, 1) := by decide +kernel
theorem dL_law_1086 : decode cL_law 1086 = .ok (.invokevirtual 150, 3) := by decide +kernel
theorem dL_law_1089 : decode cL_law 1089 = .ok (.aload_n 2, 1) := by decide +kernel
theorem dL_law_1090 : decode cL_law 1090 = .ok (.aload_n 0, 1) := by decide +kernel
theorem dL_law_1091 : decode cL_law 1091 = .ok (.iload_n 3, 1) := by decide +kernel
theorem dL_law_1092 : decode cL_law 1092 = .ok (.iconst 1, 1) := by decide +kernel
theorem dL_law_1093 : decode cL_law 1093 = .ok (.iadd, 1) := by decide +kernel
theorem dL_law_1094 : decode cL_law 1094 = .ok (.iaload, 1) := by decide +kernel
theorem dL_law_1095 : decode cL_law 1095 = .ok (.aload_n 0, 1) := by decide +kernel
theorem dL_law_1096 : decode cL_law 1096 = .ok (.iload_n 3, 1) := by decide +kernel
theorem dL_law_1097 : decode cL_law 1097 = .ok (.iconst 2, 1) := by decide +kernel
theorem dL_law_1098 : decode cL_law 1098 = .ok (.iadd, 1) := by decide +kernel
theorem dL_law_1099 : decode cL_law 1099 = .ok (.iaload, 1) := by decide +kernel
theorem dL_law_1100 : decode cL_law 1100 = .ok (.aload_n 0, 1) := by decide +kernel
theorem dL_law_1101 : decode cL_law 1101 = .ok (.iload_n 3, 1) := by decide +kernel
theorem dL_law_1102 : decode cL_law 1102 = .ok (.iconst 3, 1) := by decide +kernel
theorem dL_law_1103 : decode cL_law 1103 = .ok (.iadd, 1) := by decide +kernel
theorem dL_law_1104 : decode cL_law 1104 = .ok (.iaload, 1) := by decide +kernel
theorem dL_law_1105 : decode cL_law 1105 = .ok (.invokevirtual 153, 3) := by decide +kernel
theorem dL_law_1108 : decode cL_law 1108 = .ok (.if_icmp .eq 137, 3) := by decide +kernel
theorem dL_law_1111 : decode cL_law 1111 = .ok (.iconst 0, 1) := by decide +kernel
theorem dL_law_1112 : decode cL_law 1112 = .ok (.ireturn, 1) := by decide +kernel
theorem dL_law_1113 : decode cL_law 1113 = .ok (.aload_n 1, 1) := by decide +kernel
theorem dL_law_1114 : decode cL_law 1114 = .ok (.aload_n 0, 1) := by decide +kernel
theorem dL_law_1115 : decode cL_law 1115 = .ok (.iload_n 3, 1) := by decide +kernel
theorem dL_law_1116 : decode cL_law 1116 = .ok (.iconst 1, 1) := by decide +kernel
theorem dL_law_1117 : decode cL_law 1117 = .ok (.iadd, 1) := by decide +kernel
theorem dL_law_1118 : decode cL_law 1118 = .ok (.iaload, 1) := by decide +kernel
theorem dL_law_1119 : decode cL_law 1119 = .ok (.aload_n 0, 1) := by decide +kernel
theorem dL_law_1120 : decode cL_law 1120 = .ok (.iload_n 3, 1) := by decide +kernel
theorem dL_law_1121 : decode cL_law 1121 = .ok (.iconst 2, 1) := by decide +kernel
theorem dL_law_1122 : decode cL_law 1122 = .ok (.iadd, 1) := by decide +kernel
theorem dL_law_1123 : decode cL_law 1123 = .ok (.iaload, 1) := by decide +kernel
theorem dL_law_1124 : decode cL_law 1124 = .ok (.aload_n 0, 1) := by decide +kernel
theorem dL_law_1125 : decode cL_law 1125 = .ok (.iload_n 3, 1) := by decide +kernel
theorem dL_law_1126 : decode cL_law 1126 = .ok (.iconst 3, 1) := by decide +kernel
theorem dL_law_1127 : decode cL_law 1127 = .ok (.iadd, 1) := by decide +kernel
theorem dL_law_1128 : decode cL_law 1128 = .ok (.iaload, 1) := by decide +kernel
theorem dL_law_1129 : decode cL_law 1129 = .ok (.invokevirtual 154, 3) := by decide +kernel
theorem dL_law_1132 : decode cL_law 1132 = .ok (.aload_n 2, 1) := by decide +kernel
theorem dL_law_1133 : decode cL_law 1133 = .ok (.aload_n 0, 1) := by decide +kernel
theorem dL_law_1134 : decode cL_law 1134 = .ok (.iload_n 3, 1) := by decide +kernel
theorem dL_law_1135 : decode cL_law 1135 = .ok (.iconst 1, 1) := by decide +kernel
theorem dL_law_1136 : decode cL_law 1136 = .ok (.iadd, 1) := by decide +kernel
theorem dL_law_1137 : decode cL_law 1137 = .ok (.iaload, 1) := by decide +kernel
theorem dL_law_1138 : decode cL_law 1138 = .ok (.aload_n 0, 1) := by decide +kernel
theorem dL_law_1139 : decode cL_law 1139 = .ok (.iload_n 3, 1) := by decide +kernel
theorem dL_law_1140 : decode cL_law 1140 = .ok (.iconst 2, 1) := by decide +kernel
theorem dL_law_1141 : decode cL_law 1141 = .ok (.iadd, 1) := by decide +kernel
theorem dL_law_1142 : decode cL_law 1142 = .ok (.iaload, 1) := by decide +kernel
theorem dL_law_1143 : decode cL_law 1143 = .ok (.aload_n 0, 1) := by decide +kernel
theorem dL_law_1144 : decode cL_law 1144 = .ok (.iload_n 3, 1) := by decide +kernel
theorem dL_law_1145 : decode cL_law 1145 = .ok (.iconst 3, 1) := by decide +kernel
theorem dL_law_1146 : decode cL_law 1146 = .ok (.iadd, 1) := by decide +kernel
theorem dL_law_1147 : decode cL_law 1147 = .ok (.iaload, 1) := by decide +kernel
theorem dL_law_1148 : decode cL_law 1148 = .ok (.invokevirtual 157, 3) := by decide +kernel
theorem dL_law_1151 : decode cL_law 1151 = .ok (.if_icmp .eq 94, 3) := by decide +kernel
theorem dL_law_1154 : decode cL_law 1154 = .ok (.iconst 0, 1) := by decide +kernel
theorem dL_law_1155 : decode cL_law 1155 = .ok (.ireturn, 1) := by decide +kernel
theorem dL_law_1156 : decode cL_law 1156 = .ok (.aload_n 1, 1) := by decide +kernel
theorem dL_law_1157 : decode cL_law 1157 = .ok (.aload_n 0, 1) := by decide +kernel
theorem dL_law_1158 : decode cL_law 1158 = .ok (.iload_n 3, 1) := by decide +kernel
theorem dL_law_1159 : decode cL_law 1159 = .ok (.iconst 1, 1) := by decide +kernel
theorem dL_law_1160 : decode cL_law 1160 = .ok (.iadd, 1) := by decide +kernel
theorem dL_law_1161 : decode cL_law 1161 = .ok (.iaload, 1) := by decide +kernel
theorem dL_law_1162 : decode cL_law 1162 = .ok (.aload_n 0, 1) := by decide +kernel
theorem dL_law_1163 : decode cL_law 1163 = .ok (.iload_n 3, 1) := by decide +kernel
theorem dL_law_1164 : decode cL_law 1164 = .ok (.iconst 2, 1) := by decide +kernel
theorem dL_law_1165 : decode cL_law 1165 = .ok (.iadd, 1) := by decide +kernel
theorem dL_law_1166 : decode cL_law 1166 = .ok (.iaload, 1) := by decide +kernel
theorem dL_law_1167 : decode cL_law 1167 = .ok (.aload_n 0, 1) := by decide +kernel
theorem dL_law_1168 : decode cL_law 1168 = .ok (.iload_n 3, 1) := by decide +kernel
theorem dL_law_1169 : decode cL_law 1169 = .ok (.iconst 3, 1) := by decide +kernel
theorem dL_law_1170 : decode cL_law 1170 = .ok (.iadd, 1) := by decide +kernel
theorem dL_law_1171 : decode cL_law 1171 = .ok (.iaload, 1) := by decide +kernel
theorem dL_law_1172 : decode cL_law 1172 = .ok (.aload_n 0, 1) := by decide +kernel
theorem dL_law_1173 : decode cL_law 1173 = .ok (.iload_n 3, 1) := by decide +kernel
theorem dL_law_1174 : decode cL_law 1174 = .ok (.iconst 4, 1) := by decide +kernel
theorem dL_law_1175 : decode cL_law 1175 = .ok (.iadd, 1) := by decide +kernel
theorem dL_law_1176 : decode cL_law 1176 = .ok (.iaload, 1) := by decide +kernel
theorem dL_law_1177 : decode cL_law 1177 = .ok (.invokevirtual 158, 3) := by decide +kernel
theorem dL_law_1180 : decode cL_law 1180 = .ok (.aload_n 2, 1) := by decide +kernel
theorem dL_law_1181 : decode cL_law 1181 = .ok (.aload_n 0, 1) := by decide +kernel
theorem dL_law_1182 : decode cL_law 1182 = .ok (.iload_n 3, 1) := by decide +kernel
theorem dL_law_1183 : decode cL_law 1183 = .ok (.iconst 1, 1) := by decide +kernel
theorem dL_law_1184 : decode cL_law 1184 = .ok (.iadd, 1) := by decide +kernel
theorem dL_law_1185 : decode cL_law 1185 = .ok (.iaload, 1) := by decide +kernel
theorem dL_law_1186 : decode cL_law 1186 = .ok (.aload_n 0, 1) := by decide +kernel
theorem dL_law_1187 : decode cL_law 1187 = .ok (.iload_n 3, 1) := by decide +kernel
theorem dL_law_1188 : decode cL_law 1188 = .ok (.iconst 2, 1) := by decide +kernel
theorem dL_law_1189 : decode cL_law 1189 = .ok (.iadd, 1) := by decide +kernel
theorem dL_law_1190 : decode cL_law 1190 = .ok (.iaload, 1) := by decide +kernel
theorem dL_law_1191 : decode cL_law 1191 = .ok (.aload_n 0, 1) := by decide +kernel
theorem dL_law_1192 : decode cL_law 1192 = .ok (.iload_n 3, 1) := by decide +kernel
theorem dL_law_1193 : decode cL_law 1193 = .ok (.iconst 3, 1) := by decide +kernel
theorem dL_law_1194 : decode cL_law 1194 = .ok (.iadd, 1) := by decide +kernel
theorem dL_law_1195 : decode cL_law 1195 = .ok (.iaload, 1) := by decide +kernel
theorem dL_law_1196 : decode cL_law 1196 = .ok (.aload_n 0, 1) := by decide +kernel
theorem dL_law_1197 : decode cL_law 1197 = .ok (.iload_n 3, 1) := by decide +kernel
theorem dL_law_1198 : decode cL_law 1198 = .ok (.iconst 4, 1) := by decide +kernel
theorem dL_law_1199 : decode cL_law 1199 = .ok (.iadd, 1) := by decide +kernel
theorem dL_law_1200 : decode cL_law 1200 = .ok (.iaload, 1) := by decide +kernel
theorem dL_law_1201 : decode cL_law 1201 = .ok (.invokevirtual 162, 3) := by decide +kernel
theorem dL_law_1204 : decode cL_law 1204 = .ok (.if_icmp .eq 41, 3) := by decide +kernel
theorem dL_law_1207 : decode cL_law 1207 = .ok (.iconst 0, 1) := by decide +kernel
theorem dL_law_1208 : decode cL_law 1208 = .ok (.ireturn, 1) := by decide +kernel
theorem dL_law_1209 : decode cL_law 1209 = .ok (.aload_n 1, 1) := by decide +kernel
theorem dL_law_1210 : decode cL_law 1210 = .ok (.invokevirtual 163, 3) := by decide +kernel
theorem dL_law_1213 : decode cL_law 1213 = .ok (.aload_n 2, 1) := by decide +kernel
theorem dL_law_1214 : decode cL_law 1214 = .ok (.invokevirtual 166, 3) := by decide +kernel
theorem dL_law_1217 : decode cL_law 1217 = .ok (.if_icmp .eq 28, 3) := by decide +kernel
theorem dL_law_1220 : decode cL_law 1220 = .ok (.iconst 0, 1) := by decide +kernel
theorem dL_law_1221 : decode cL_law 1221 = .ok (.ireturn, 1) := by decide +kernel
theorem dL_law_1222 : decode cL_law 1222 = .ok (.aload_n 1, 1) := by decide +kernel
theorem dL_law_1223 : decode cL_law 1223 = .ok (.aload_n 0, 1) := by decide +kernel
theorem dL_law_1224 : decode cL_law 1224 = .ok (.iload_n 3, 1) := by decide +kernel
theorem dL_law_1225 : decode cL_law 1225 = .ok (.iconst 1, 1) := by decide +kernel
theorem dL_law_1226 : decode cL_law 1226 = .ok (.iadd, 1) := by decide +kernel
theorem dL_law_1227 : decode cL_law 1227 = .ok (.iaload, 1) := by decide +kernel
theorem dL_law_1228 : decode cL_law 1228 = .ok (.invokevirtual 167, 3) := by decide +kernel
theorem dL_law_1231 : decode cL_law 1231 = .ok (.aload_n 2, 1) := by decide +kernel
theorem dL_law_1232 : decode cL_law 1232 = .ok (.aload_n 0, 1) := by decide +kernel
theorem dL_law_1233 : decode cL_law 1233 = .ok (.iload_n 3, 1) := by decide +kernel
theorem dL_law_1234 : decode cL_law 1234 = .ok (.iconst 1, 1) := by decide +kernel
theorem dL_law_1235 : decode cL_law 1235 = .ok (.iadd, 1) := by decide +kernel
theorem dL_law_1236 : decode cL_law 1236 = .ok (.iaload, 1) := by decide +kernel
theorem dL_law_1237 : decode cL_law 1237 = .ok (.invokevirtual 170, 3) := by decide +kernel
theorem dL_law_1240 : decode cL_law 1240 = .ok (.if_icmp .eq 5, 3) := by decide +kernel
theorem dL_law_1243 : decode cL_law 1243 = .ok (.iconst 0, 1) := by decide +kernel
theorem dL_law_1244 : decode cL_law 1244 = .ok (.ireturn, 1) := by decide +kernel
theorem dL_law_1245 : decode cL_law 1245 = .ok (.iinc 3 5, 3) := by decide +kernel
theorem dL_law_1248 : decode cL_law 1248 = .ok (.goto (-1230), 3) := by decide +kernel
theorem dL_law_1251 : decode cL_law 1251 = .ok (.iconst 1, 1) := by decide +kernel
theorem dL_law_1252 : decode cL_law 1252 = .ok (.ireturn, 1) := by decide +kernel
