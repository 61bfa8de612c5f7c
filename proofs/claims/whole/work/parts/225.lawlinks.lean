/-! words and links of the law alone: by program (wip/whole/gen.py) -/
theorem w_120 : Cond.classLink RL 7 RX10 ∈ TB := tk_1 (List.mem_of_getElem? (i := 21) rfl) rfl
theorem w_121 : Cond.instantiable RX10 12 ∈ TB := tk_1 (List.mem_of_getElem? (i := 22) rfl) rfl
theorem w_122 : Cond.methodLink RL 9 yX10_init ∈ TB := tk_1 (List.mem_of_getElem? (i := 23) rfl) rfl
theorem w_123 : Cond.instanceMethod yX10_init ∈ TB := tk_1 (List.mem_of_getElem? (i := 24) rfl) rfl
theorem w_124 : Cond.code yX10_init cX10_init 2 none ∈ TB := tk_1 (List.mem_of_getElem? (i := 25) rfl) rfl
theorem w_543 : Cond.methodLink RL 13 yX10_person ∈ TB := tk_2 (List.mem_of_getElem? (i := 204) rfl) rfl
theorem w_544 : Cond.instanceMethod yX10_person ∈ TB := tk_2 (List.mem_of_getElem? (i := 205) rfl) rfl
theorem w_545 : Cond.selects RX10 yX10_person yX10_person ∈ TB := tk_2 (List.mem_of_getElem? (i := 206) rfl) rfl
theorem w_546 : Cond.code yX10_person cX10_person 5 (some .int) ∈ TB := tk_2 (List.mem_of_getElem? (i := 207) rfl) rfl
theorem w_559 : Cond.methodLink RL 18 yX10_hears ∈ TB := tk_2 (List.mem_of_getElem? (i := 220) rfl) rfl
theorem w_560 : Cond.instanceMethod yX10_hears ∈ TB := tk_2 (List.mem_of_getElem? (i := 221) rfl) rfl
theorem w_561 : Cond.selects RX10 yX10_hears yX10_hears ∈ TB := tk_2 (List.mem_of_getElem? (i := 222) rfl) rfl
theorem w_562 : Cond.code yX10_hears cX10_hears 4 (some .boolean) ∈ TB := tk_2 (List.mem_of_getElem? (i := 223) rfl) rfl
theorem w_563 : Cond.methodLink RL 23 yX10_feed ∈ TB := tk_2 (List.mem_of_getElem? (i := 224) rfl) rfl
theorem w_564 : Cond.instanceMethod yX10_feed ∈ TB := tk_2 (List.mem_of_getElem? (i := 225) rfl) rfl
theorem w_565 : Cond.selects RX10 yX10_feed yX10_feed ∈ TB := tk_2 (List.mem_of_getElem? (i := 226) rfl) rfl
theorem w_566 : Cond.code yX10_feed cX10_feed 6 (some .int) ∈ TB := tk_2 (List.mem_of_getElem? (i := 227) rfl) rfl
theorem w_575 : Cond.methodLink RL 28 yX10_end ∈ TB := tk_2 (List.mem_of_getElem? (i := 236) rfl) rfl
theorem w_576 : Cond.instanceMethod yX10_end ∈ TB := tk_2 (List.mem_of_getElem? (i := 237) rfl) rfl
theorem w_577 : Cond.selects RX10 yX10_end yX10_end ∈ TB := tk_2 (List.mem_of_getElem? (i := 238) rfl) rfl
theorem w_578 : Cond.code yX10_end cX10_end 2 (some .int) ∈ TB := tk_2 (List.mem_of_getElem? (i := 239) rfl) rfl
theorem w_579 : Cond.methodLink RL 33 yX10_text ∈ TB := tk_3 (List.mem_of_getElem? (i := 0) rfl) rfl
theorem w_580 : Cond.instanceMethod yX10_text ∈ TB := tk_3 (List.mem_of_getElem? (i := 1) rfl) rfl
theorem w_581 : Cond.selects RX10 yX10_text yX10_text ∈ TB := tk_3 (List.mem_of_getElem? (i := 2) rfl) rfl
theorem w_582 : Cond.code yX10_text cX10_text 3 (some .int) ∈ TB := tk_3 (List.mem_of_getElem? (i := 3) rfl) rfl
theorem w_819 : Cond.methodLink RL 38 yX10_fault ∈ TB := tk_4 (List.mem_of_getElem? (i := 0) rfl) rfl
theorem w_820 : Cond.instanceMethod yX10_fault ∈ TB := tk_4 (List.mem_of_getElem? (i := 1) rfl) rfl
theorem w_821 : Cond.selects RX10 yX10_fault yX10_fault ∈ TB := tk_4 (List.mem_of_getElem? (i := 2) rfl) rfl
theorem w_822 : Cond.code yX10_fault cX10_fault 2 (some .int) ∈ TB := tk_4 (List.mem_of_getElem? (i := 3) rfl) rfl
theorem w_823 : Cond.methodLink RL 42 yX10_by ∈ TB := tk_4 (List.mem_of_getElem? (i := 4) rfl) rfl
theorem w_824 : Cond.instanceMethod yX10_by ∈ TB := tk_4 (List.mem_of_getElem? (i := 5) rfl) rfl
theorem w_825 : Cond.selects RX10 yX10_by yX10_by ∈ TB := tk_4 (List.mem_of_getElem? (i := 6) rfl) rfl
theorem w_826 : Cond.code yX10_by cX10_by 2 (some .boolean) ∈ TB := tk_4 (List.mem_of_getElem? (i := 7) rfl) rfl
theorem w_827 : Cond.methodLink RL 47 yX10_ring ∈ TB := tk_4 (List.mem_of_getElem? (i := 8) rfl) rfl
theorem w_828 : Cond.instanceMethod yX10_ring ∈ TB := tk_4 (List.mem_of_getElem? (i := 9) rfl) rfl
theorem w_829 : Cond.selects RX10 yX10_ring yX10_ring ∈ TB := tk_4 (List.mem_of_getElem? (i := 10) rfl) rfl
theorem w_830 : Cond.code yX10_ring cX10_ring 2 (some .boolean) ∈ TB := tk_4 (List.mem_of_getElem? (i := 11) rfl) rfl
theorem w_854 : Cond.methodLink RL 51 yX10_due ∈ TB := tk_4 (List.mem_of_getElem? (i := 35) rfl) rfl
theorem w_855 : Cond.instanceMethod yX10_due ∈ TB := tk_4 (List.mem_of_getElem? (i := 36) rfl) rfl
theorem w_856 : Cond.selects RX10 yX10_due yX10_due ∈ TB := tk_4 (List.mem_of_getElem? (i := 37) rfl) rfl
theorem w_857 : Cond.code yX10_due cX10_due 3 (some .boolean) ∈ TB := tk_4 (List.mem_of_getElem? (i := 38) rfl) rfl
theorem w_866 : Cond.methodLink RL 56 yX10_bed ∈ TB := tk_4 (List.mem_of_getElem? (i := 47) rfl) rfl
theorem w_867 : Cond.instanceMethod yX10_bed ∈ TB := tk_4 (List.mem_of_getElem? (i := 48) rfl) rfl
theorem w_868 : Cond.selects RX10 yX10_bed yX10_bed ∈ TB := tk_4 (List.mem_of_getElem? (i := 49) rfl) rfl
theorem w_869 : Cond.code yX10_bed cX10_bed 2 (some .boolean) ∈ TB := tk_4 (List.mem_of_getElem? (i := 50) rfl) rfl
theorem w_874 : Cond.methodLink RL 60 yX10_up ∈ TB := tk_4 (List.mem_of_getElem? (i := 55) rfl) rfl
theorem w_875 : Cond.instanceMethod yX10_up ∈ TB := tk_4 (List.mem_of_getElem? (i := 56) rfl) rfl
theorem w_876 : Cond.selects RX10 yX10_up yX10_up ∈ TB := tk_4 (List.mem_of_getElem? (i := 57) rfl) rfl
theorem w_877 : Cond.code yX10_up cX10_up 2 (some .boolean) ∈ TB := tk_4 (List.mem_of_getElem? (i := 58) rfl) rfl
theorem w_882 : Cond.methodLink RL 64 yX10_day ∈ TB := tk_4 (List.mem_of_getElem? (i := 63) rfl) rfl
theorem w_883 : Cond.instanceMethod yX10_day ∈ TB := tk_4 (List.mem_of_getElem? (i := 64) rfl) rfl
theorem w_884 : Cond.selects RX10 yX10_day yX10_day ∈ TB := tk_4 (List.mem_of_getElem? (i := 65) rfl) rfl
theorem w_885 : Cond.code yX10_day cX10_day 2 (some .int) ∈ TB := tk_4 (List.mem_of_getElem? (i := 66) rfl) rfl
theorem w_970 : Cond.methodLink RL 68 yX10_played ∈ TB := tk_4 (List.mem_of_getElem? (i := 151) rfl) rfl
theorem w_971 : Cond.instanceMethod yX10_played ∈ TB := tk_4 (List.mem_of_getElem? (i := 152) rfl) rfl
theorem w_972 : Cond.selects RX10 yX10_played yX10_played ∈ TB := tk_4 (List.mem_of_getElem? (i := 153) rfl) rfl
theorem w_973 : Cond.code yX10_played cX10_played 4 (some .int) ∈ TB := tk_4 (List.mem_of_getElem? (i := 154) rfl) rfl
theorem w_990 : Cond.methodLink RL 72 yX10_years ∈ TB := tk_4 (List.mem_of_getElem? (i := 171) rfl) rfl
theorem w_991 : Cond.instanceMethod yX10_years ∈ TB := tk_4 (List.mem_of_getElem? (i := 172) rfl) rfl
theorem w_992 : Cond.selects RX10 yX10_years yX10_years ∈ TB := tk_4 (List.mem_of_getElem? (i := 173) rfl) rfl
theorem w_993 : Cond.code yX10_years cX10_years 3 (some .int) ∈ TB := tk_4 (List.mem_of_getElem? (i := 174) rfl) rfl
theorem w_1002 : Cond.methodLink RL 77 yX10_undo ∈ TB := tk_4 (List.mem_of_getElem? (i := 183) rfl) rfl
theorem w_1003 : Cond.instanceMethod yX10_undo ∈ TB := tk_4 (List.mem_of_getElem? (i := 184) rfl) rfl
theorem w_1004 : Cond.selects RX10 yX10_undo yX10_undo ∈ TB := tk_4 (List.mem_of_getElem? (i := 185) rfl) rfl
theorem w_1005 : Cond.code yX10_undo cX10_undo 1 (some .int) ∈ TB := tk_4 (List.mem_of_getElem? (i := 186) rfl) rfl
theorem w_1010 : Cond.methodLink RL 81 yX10_of ∈ TB := tk_4 (List.mem_of_getElem? (i := 191) rfl) rfl
theorem w_1011 : Cond.instanceMethod yX10_of ∈ TB := tk_4 (List.mem_of_getElem? (i := 192) rfl) rfl
theorem w_1012 : Cond.selects RX10 yX10_of yX10_of ∈ TB := tk_4 (List.mem_of_getElem? (i := 193) rfl) rfl
theorem w_1013 : Cond.code yX10_of cX10_of 3 (some .int) ∈ TB := tk_4 (List.mem_of_getElem? (i := 194) rfl) rfl
theorem w_1033 : Cond.methodLink RL 85 yX10_is ∈ TB := tk_4 (List.mem_of_getElem? (i := 214) rfl) rfl
theorem w_1034 : Cond.instanceMethod yX10_is ∈ TB := tk_4 (List.mem_of_getElem? (i := 215) rfl) rfl
theorem w_1035 : Cond.selects RX10 yX10_is yX10_is ∈ TB := tk_4 (List.mem_of_getElem? (i := 216) rfl) rfl
theorem w_1036 : Cond.code yX10_is cX10_is 2 (some .int) ∈ TB := tk_4 (List.mem_of_getElem? (i := 217) rfl) rfl
theorem w_1037 : Cond.methodLink RL 89 yX10_book ∈ TB := tk_4 (List.mem_of_getElem? (i := 218) rfl) rfl
theorem w_1038 : Cond.instanceMethod yX10_book ∈ TB := tk_4 (List.mem_of_getElem? (i := 219) rfl) rfl
theorem w_1039 : Cond.selects RX10 yX10_book yX10_book ∈ TB := tk_4 (List.mem_of_getElem? (i := 220) rfl) rfl
theorem w_1040 : Cond.code yX10_book cX10_book 3 (some .int) ∈ TB := tk_4 (List.mem_of_getElem? (i := 221) rfl) rfl
theorem w_1046 : Cond.methodLink RL 93 yX10_foretold ∈ TB := tk_4 (List.mem_of_getElem? (i := 227) rfl) rfl
theorem w_1047 : Cond.instanceMethod yX10_foretold ∈ TB := tk_4 (List.mem_of_getElem? (i := 228) rfl) rfl
theorem w_1048 : Cond.selects RX10 yX10_foretold yX10_foretold ∈ TB := tk_4 (List.mem_of_getElem? (i := 229) rfl) rfl
theorem w_1049 : Cond.code yX10_foretold cX10_foretold 3 (some .int) ∈ TB := tk_4 (List.mem_of_getElem? (i := 230) rfl) rfl
theorem w_1055 : Cond.methodLink RL 97 yX10_late ∈ TB := tk_4 (List.mem_of_getElem? (i := 236) rfl) rfl
theorem w_1056 : Cond.instanceMethod yX10_late ∈ TB := tk_4 (List.mem_of_getElem? (i := 237) rfl) rfl
theorem w_1057 : Cond.selects RX10 yX10_late yX10_late ∈ TB := tk_4 (List.mem_of_getElem? (i := 238) rfl) rfl
theorem w_1058 : Cond.code yX10_late cX10_late 2 (some .int) ∈ TB := tk_4 (List.mem_of_getElem? (i := 239) rfl) rfl
theorem w_1066 : Cond.methodLink RL 101 yX10_runners ∈ TB := tk_5 (List.mem_of_getElem? (i := 7) rfl) rfl
theorem w_1067 : Cond.instanceMethod yX10_runners ∈ TB := tk_5 (List.mem_of_getElem? (i := 8) rfl) rfl
theorem w_1068 : Cond.selects RX10 yX10_runners yX10_runners ∈ TB := tk_5 (List.mem_of_getElem? (i := 9) rfl) rfl
theorem w_1069 : Cond.code yX10_runners cX10_runners 2 (some .int) ∈ TB := tk_5 (List.mem_of_getElem? (i := 10) rfl) rfl
theorem w_1070 : Cond.methodLink RL 105 yX10_settled ∈ TB := tk_5 (List.mem_of_getElem? (i := 11) rfl) rfl
theorem w_1071 : Cond.instanceMethod yX10_settled ∈ TB := tk_5 (List.mem_of_getElem? (i := 12) rfl) rfl
theorem w_1072 : Cond.selects RX10 yX10_settled yX10_settled ∈ TB := tk_5 (List.mem_of_getElem? (i := 13) rfl) rfl
theorem w_1073 : Cond.code yX10_settled cX10_settled 2 (some .int) ∈ TB := tk_5 (List.mem_of_getElem? (i := 14) rfl) rfl
theorem w_1088 : Cond.methodLink RL 109 yX10_fewest ∈ TB := tk_5 (List.mem_of_getElem? (i := 29) rfl) rfl
theorem w_1089 : Cond.instanceMethod yX10_fewest ∈ TB := tk_5 (List.mem_of_getElem? (i := 30) rfl) rfl
theorem w_1090 : Cond.selects RX10 yX10_fewest yX10_fewest ∈ TB := tk_5 (List.mem_of_getElem? (i := 31) rfl) rfl
theorem w_1091 : Cond.code yX10_fewest cX10_fewest 2 (some .int) ∈ TB := tk_5 (List.mem_of_getElem? (i := 32) rfl) rfl
theorem w_1100 : Cond.methodLink RL 114 yX10_tail ∈ TB := tk_5 (List.mem_of_getElem? (i := 41) rfl) rfl
theorem w_1101 : Cond.instanceMethod yX10_tail ∈ TB := tk_5 (List.mem_of_getElem? (i := 42) rfl) rfl
theorem w_1102 : Cond.selects RX10 yX10_tail yX10_tail ∈ TB := tk_5 (List.mem_of_getElem? (i := 43) rfl) rfl
theorem w_1103 : Cond.code yX10_tail cX10_tail 2 (some .int) ∈ TB := tk_5 (List.mem_of_getElem? (i := 44) rfl) rfl
theorem w_1116 : Cond.methodLink RL 118 yX10_round ∈ TB := tk_5 (List.mem_of_getElem? (i := 57) rfl) rfl
theorem w_1117 : Cond.instanceMethod yX10_round ∈ TB := tk_5 (List.mem_of_getElem? (i := 58) rfl) rfl
theorem w_1118 : Cond.selects RX10 yX10_round yX10_round ∈ TB := tk_5 (List.mem_of_getElem? (i := 59) rfl) rfl
theorem w_1119 : Cond.code yX10_round cX10_round 2 (some .int) ∈ TB := tk_5 (List.mem_of_getElem? (i := 60) rfl) rfl
theorem w_1124 : Cond.methodLink RL 122 yX10_rounds ∈ TB := tk_5 (List.mem_of_getElem? (i := 65) rfl) rfl
theorem w_1125 : Cond.instanceMethod yX10_rounds ∈ TB := tk_5 (List.mem_of_getElem? (i := 66) rfl) rfl
theorem w_1126 : Cond.selects RX10 yX10_rounds yX10_rounds ∈ TB := tk_5 (List.mem_of_getElem? (i := 67) rfl) rfl
theorem w_1127 : Cond.code yX10_rounds cX10_rounds 1 (some .int) ∈ TB := tk_5 (List.mem_of_getElem? (i := 68) rfl) rfl
theorem w_1132 : Cond.methodLink RL 126 yX10_basin ∈ TB := tk_5 (List.mem_of_getElem? (i := 73) rfl) rfl
theorem w_1133 : Cond.instanceMethod yX10_basin ∈ TB := tk_5 (List.mem_of_getElem? (i := 74) rfl) rfl
theorem w_1134 : Cond.selects RX10 yX10_basin yX10_basin ∈ TB := tk_5 (List.mem_of_getElem? (i := 75) rfl) rfl
theorem w_1135 : Cond.code yX10_basin cX10_basin 2 (some .int) ∈ TB := tk_5 (List.mem_of_getElem? (i := 76) rfl) rfl
theorem w_1140 : Cond.methodLink RL 130 yX10_never ∈ TB := tk_5 (List.mem_of_getElem? (i := 81) rfl) rfl
theorem w_1141 : Cond.instanceMethod yX10_never ∈ TB := tk_5 (List.mem_of_getElem? (i := 82) rfl) rfl
theorem w_1142 : Cond.selects RX10 yX10_never yX10_never ∈ TB := tk_5 (List.mem_of_getElem? (i := 83) rfl) rfl
theorem w_1143 : Cond.code yX10_never cX10_never 1 (some .int) ∈ TB := tk_5 (List.mem_of_getElem? (i := 84) rfl) rfl
theorem w_1148 : Cond.methodLink RL 134 yX10_after ∈ TB := tk_5 (List.mem_of_getElem? (i := 89) rfl) rfl
theorem w_1149 : Cond.instanceMethod yX10_after ∈ TB := tk_5 (List.mem_of_getElem? (i := 90) rfl) rfl
theorem w_1150 : Cond.selects RX10 yX10_after yX10_after ∈ TB := tk_5 (List.mem_of_getElem? (i := 91) rfl) rfl
theorem w_1151 : Cond.code yX10_after cX10_after 3 (some .int) ∈ TB := tk_5 (List.mem_of_getElem? (i := 92) rfl) rfl
theorem w_1156 : Cond.methodLink RL 138 yX10_times ∈ TB := tk_5 (List.mem_of_getElem? (i := 97) rfl) rfl
theorem w_1157 : Cond.instanceMethod yX10_times ∈ TB := tk_5 (List.mem_of_getElem? (i := 98) rfl) rfl
theorem w_1158 : Cond.selects RX10 yX10_times yX10_times ∈ TB := tk_5 (List.mem_of_getElem? (i := 99) rfl) rfl
theorem w_1159 : Cond.code yX10_times cX10_times 3 (some .int) ∈ TB := tk_5 (List.mem_of_getElem? (i := 100) rfl) rfl
theorem w_1164 : Cond.methodLink RL 142 yX10_apart ∈ TB := tk_5 (List.mem_of_getElem? (i := 105) rfl) rfl
theorem w_1165 : Cond.instanceMethod yX10_apart ∈ TB := tk_5 (List.mem_of_getElem? (i := 106) rfl) rfl
theorem w_1166 : Cond.selects RX10 yX10_apart yX10_apart ∈ TB := tk_5 (List.mem_of_getElem? (i := 107) rfl) rfl
theorem w_1167 : Cond.code yX10_apart cX10_apart 3 (some .int) ∈ TB := tk_5 (List.mem_of_getElem? (i := 108) rfl) rfl
theorem w_1172 : Cond.methodLink RL 146 yX10_always ∈ TB := tk_5 (List.mem_of_getElem? (i := 113) rfl) rfl
theorem w_1173 : Cond.instanceMethod yX10_always ∈ TB := tk_5 (List.mem_of_getElem? (i := 114) rfl) rfl
theorem w_1174 : Cond.selects RX10 yX10_always yX10_always ∈ TB := tk_5 (List.mem_of_getElem? (i := 115) rfl) rfl
theorem w_1175 : Cond.code yX10_always cX10_always 3 (some .int) ∈ TB := tk_5 (List.mem_of_getElem? (i := 116) rfl) rfl
theorem w_1183 : Cond.methodLink RL 150 yX10_calm ∈ TB := tk_5 (List.mem_of_getElem? (i := 124) rfl) rfl
theorem w_1184 : Cond.instanceMethod yX10_calm ∈ TB := tk_5 (List.mem_of_getElem? (i := 125) rfl) rfl
theorem w_1185 : Cond.selects RX10 yX10_calm yX10_calm ∈ TB := tk_5 (List.mem_of_getElem? (i := 126) rfl) rfl
theorem w_1186 : Cond.code yX10_calm cX10_calm 2 (some .int) ∈ TB := tk_5 (List.mem_of_getElem? (i := 127) rfl) rfl
theorem w_1191 : Cond.methodLink RL 154 yX10_helped ∈ TB := tk_5 (List.mem_of_getElem? (i := 132) rfl) rfl
theorem w_1192 : Cond.instanceMethod yX10_helped ∈ TB := tk_5 (List.mem_of_getElem? (i := 133) rfl) rfl
theorem w_1193 : Cond.selects RX10 yX10_helped yX10_helped ∈ TB := tk_5 (List.mem_of_getElem? (i := 134) rfl) rfl
theorem w_1194 : Cond.code yX10_helped cX10_helped 5 (some .int) ∈ TB := tk_5 (List.mem_of_getElem? (i := 135) rfl) rfl
theorem w_1195 : Cond.methodLink RL 159 yX10_early ∈ TB := tk_5 (List.mem_of_getElem? (i := 136) rfl) rfl
theorem w_1196 : Cond.instanceMethod yX10_early ∈ TB := tk_5 (List.mem_of_getElem? (i := 137) rfl) rfl
theorem w_1197 : Cond.selects RX10 yX10_early yX10_early ∈ TB := tk_5 (List.mem_of_getElem? (i := 138) rfl) rfl
theorem w_1198 : Cond.code yX10_early cX10_early 5 (some .int) ∈ TB := tk_5 (List.mem_of_getElem? (i := 139) rfl) rfl
theorem w_1201 : Cond.methodLink RL 163 yX10_weathers ∈ TB := tk_5 (List.mem_of_getElem? (i := 142) rfl) rfl
theorem w_1202 : Cond.instanceMethod yX10_weathers ∈ TB := tk_5 (List.mem_of_getElem? (i := 143) rfl) rfl
theorem w_1203 : Cond.selects RX10 yX10_weathers yX10_weathers ∈ TB := tk_5 (List.mem_of_getElem? (i := 144) rfl) rfl
theorem w_1204 : Cond.code yX10_weathers cX10_weathers 4 (some .int) ∈ TB := tk_5 (List.mem_of_getElem? (i := 145) rfl) rfl
theorem w_1205 : Cond.methodLink RL 167 yX10_needless ∈ TB := tk_5 (List.mem_of_getElem? (i := 146) rfl) rfl
theorem w_1206 : Cond.instanceMethod yX10_needless ∈ TB := tk_5 (List.mem_of_getElem? (i := 147) rfl) rfl
theorem w_1207 : Cond.selects RX10 yX10_needless yX10_needless ∈ TB := tk_5 (List.mem_of_getElem? (i := 148) rfl) rfl
theorem w_1208 : Cond.code yX10_needless cX10_needless 4 (some .int) ∈ TB := tk_5 (List.mem_of_getElem? (i := 149) rfl) rfl
theorem w_1215 : Cond.methodLink RL 171 yX10_lateness ∈ TB := tk_5 (List.mem_of_getElem? (i := 156) rfl) rfl
theorem w_1216 : Cond.instanceMethod yX10_lateness ∈ TB := tk_5 (List.mem_of_getElem? (i := 157) rfl) rfl
theorem w_1217 : Cond.selects RX10 yX10_lateness yX10_lateness ∈ TB := tk_5 (List.mem_of_getElem? (i := 158) rfl) rfl
theorem w_1218 : Cond.code yX10_lateness cX10_lateness 4 (some .int) ∈ TB := tk_5 (List.mem_of_getElem? (i := 159) rfl) rfl
theorem w_1223 : Cond.methodLink RL 175 yX10_race ∈ TB := tk_5 (List.mem_of_getElem? (i := 164) rfl) rfl
theorem w_1224 : Cond.instanceMethod yX10_race ∈ TB := tk_5 (List.mem_of_getElem? (i := 165) rfl) rfl
theorem w_1225 : Cond.selects RX10 yX10_race yX10_race ∈ TB := tk_5 (List.mem_of_getElem? (i := 166) rfl) rfl
theorem w_1226 : Cond.code yX10_race cX10_race 3 (some .int) ∈ TB := tk_5 (List.mem_of_getElem? (i := 167) rfl) rfl
theorem w_1233 : Cond.methodLink RL 179 yX10_heard ∈ TB := tk_5 (List.mem_of_getElem? (i := 174) rfl) rfl
theorem w_1234 : Cond.instanceMethod yX10_heard ∈ TB := tk_5 (List.mem_of_getElem? (i := 175) rfl) rfl
theorem w_1235 : Cond.selects RX10 yX10_heard yX10_heard ∈ TB := tk_5 (List.mem_of_getElem? (i := 176) rfl) rfl
theorem w_1236 : Cond.code yX10_heard cX10_heard 3 (some .int) ∈ TB := tk_5 (List.mem_of_getElem? (i := 177) rfl) rfl
theorem w_1237 : Cond.methodLink RL 183 yX10_believes ∈ TB := tk_5 (List.mem_of_getElem? (i := 178) rfl) rfl
theorem w_1238 : Cond.instanceMethod yX10_believes ∈ TB := tk_5 (List.mem_of_getElem? (i := 179) rfl) rfl
theorem w_1239 : Cond.selects RX10 yX10_believes yX10_believes ∈ TB := tk_5 (List.mem_of_getElem? (i := 180) rfl) rfl
theorem w_1240 : Cond.code yX10_believes cX10_believes 3 (some .int) ∈ TB := tk_5 (List.mem_of_getElem? (i := 181) rfl) rfl
theorem w_1259 : Cond.methodLink RL 187 yX10_sure ∈ TB := tk_5 (List.mem_of_getElem? (i := 200) rfl) rfl
theorem w_1260 : Cond.instanceMethod yX10_sure ∈ TB := tk_5 (List.mem_of_getElem? (i := 201) rfl) rfl
theorem w_1261 : Cond.selects RX10 yX10_sure yX10_sure ∈ TB := tk_5 (List.mem_of_getElem? (i := 202) rfl) rfl
theorem w_1262 : Cond.code yX10_sure cX10_sure 2 (some .int) ∈ TB := tk_5 (List.mem_of_getElem? (i := 203) rfl) rfl
theorem w_1271 : Cond.methodLink RL 191 yX10_tells ∈ TB := tk_5 (List.mem_of_getElem? (i := 212) rfl) rfl
theorem w_1272 : Cond.instanceMethod yX10_tells ∈ TB := tk_5 (List.mem_of_getElem? (i := 213) rfl) rfl
theorem w_1273 : Cond.selects RX10 yX10_tells yX10_tells ∈ TB := tk_5 (List.mem_of_getElem? (i := 214) rfl) rfl
theorem w_1274 : Cond.code yX10_tells cX10_tells 2 (some .int) ∈ TB := tk_5 (List.mem_of_getElem? (i := 215) rfl) rfl
theorem w_1297 : Cond.methodLink RL 195 yX10_asleep ∈ TB := tk_5 (List.mem_of_getElem? (i := 238) rfl) rfl
theorem w_1298 : Cond.instanceMethod yX10_asleep ∈ TB := tk_5 (List.mem_of_getElem? (i := 239) rfl) rfl
theorem w_1299 : Cond.selects RX10 yX10_asleep yX10_asleep ∈ TB := tk_6 (List.mem_of_getElem? (i := 0) rfl) rfl
theorem w_1300 : Cond.code yX10_asleep cX10_asleep 7 (some .int) ∈ TB := tk_6 (List.mem_of_getElem? (i := 1) rfl) rfl
theorem w_1306 : Cond.methodLink RL 199 yX10_slack ∈ TB := tk_6 (List.mem_of_getElem? (i := 7) rfl) rfl
theorem w_1307 : Cond.instanceMethod yX10_slack ∈ TB := tk_6 (List.mem_of_getElem? (i := 8) rfl) rfl
theorem w_1308 : Cond.selects RX10 yX10_slack yX10_slack ∈ TB := tk_6 (List.mem_of_getElem? (i := 9) rfl) rfl
theorem w_1309 : Cond.code yX10_slack cX10_slack 2 (some .int) ∈ TB := tk_6 (List.mem_of_getElem? (i := 10) rfl) rfl
theorem w_1310 : Cond.methodLink RL 203 yX10_least ∈ TB := tk_6 (List.mem_of_getElem? (i := 11) rfl) rfl
theorem w_1311 : Cond.instanceMethod yX10_least ∈ TB := tk_6 (List.mem_of_getElem? (i := 12) rfl) rfl
theorem w_1312 : Cond.selects RX10 yX10_least yX10_least ∈ TB := tk_6 (List.mem_of_getElem? (i := 13) rfl) rfl
theorem w_1313 : Cond.code yX10_least cX10_least 2 (some .int) ∈ TB := tk_6 (List.mem_of_getElem? (i := 14) rfl) rfl
theorem w_1315 : Cond.methodLink RL 207 yX10_moves ∈ TB := tk_6 (List.mem_of_getElem? (i := 16) rfl) rfl
theorem w_1316 : Cond.instanceMethod yX10_moves ∈ TB := tk_6 (List.mem_of_getElem? (i := 17) rfl) rfl
theorem w_1317 : Cond.selects RX10 yX10_moves yX10_moves ∈ TB := tk_6 (List.mem_of_getElem? (i := 18) rfl) rfl
theorem w_1318 : Cond.code yX10_moves cX10_moves 5 (some .int) ∈ TB := tk_6 (List.mem_of_getElem? (i := 19) rfl) rfl
theorem w_1319 : Cond.methodLink RL 211 yX10_said ∈ TB := tk_6 (List.mem_of_getElem? (i := 20) rfl) rfl
theorem w_1320 : Cond.instanceMethod yX10_said ∈ TB := tk_6 (List.mem_of_getElem? (i := 21) rfl) rfl
theorem w_1321 : Cond.selects RX10 yX10_said yX10_said ∈ TB := tk_6 (List.mem_of_getElem? (i := 22) rfl) rfl
theorem w_1322 : Cond.code yX10_said cX10_said 4 (some .int) ∈ TB := tk_6 (List.mem_of_getElem? (i := 23) rfl) rfl
theorem w_1323 : Cond.methodLink RL 215 yX10_whose ∈ TB := tk_6 (List.mem_of_getElem? (i := 24) rfl) rfl
theorem w_1324 : Cond.instanceMethod yX10_whose ∈ TB := tk_6 (List.mem_of_getElem? (i := 25) rfl) rfl
theorem w_1325 : Cond.selects RX10 yX10_whose yX10_whose ∈ TB := tk_6 (List.mem_of_getElem? (i := 26) rfl) rfl
theorem w_1326 : Cond.code yX10_whose cX10_whose 3 (some .int) ∈ TB := tk_6 (List.mem_of_getElem? (i := 27) rfl) rfl
theorem w_1331 : Cond.methodLink RL 219 yX10_latest ∈ TB := tk_6 (List.mem_of_getElem? (i := 32) rfl) rfl
theorem w_1332 : Cond.instanceMethod yX10_latest ∈ TB := tk_6 (List.mem_of_getElem? (i := 33) rfl) rfl
theorem w_1333 : Cond.selects RX10 yX10_latest yX10_latest ∈ TB := tk_6 (List.mem_of_getElem? (i := 34) rfl) rfl
theorem w_1334 : Cond.code yX10_latest cX10_latest 4 (some .int) ∈ TB := tk_6 (List.mem_of_getElem? (i := 35) rfl) rfl
theorem w_1335 : Cond.methodLink RL 223 yX10_crowded ∈ TB := tk_6 (List.mem_of_getElem? (i := 36) rfl) rfl
theorem w_1336 : Cond.instanceMethod yX10_crowded ∈ TB := tk_6 (List.mem_of_getElem? (i := 37) rfl) rfl
theorem w_1337 : Cond.selects RX10 yX10_crowded yX10_crowded ∈ TB := tk_6 (List.mem_of_getElem? (i := 38) rfl) rfl
theorem w_1338 : Cond.code yX10_crowded cX10_crowded 6 (some .int) ∈ TB := tk_6 (List.mem_of_getElem? (i := 39) rfl) rfl
theorem w_1339 : Cond.methodLink RL 227 yX10_deaf ∈ TB := tk_6 (List.mem_of_getElem? (i := 40) rfl) rfl
theorem w_1340 : Cond.instanceMethod yX10_deaf ∈ TB := tk_6 (List.mem_of_getElem? (i := 41) rfl) rfl
theorem w_1341 : Cond.selects RX10 yX10_deaf yX10_deaf ∈ TB := tk_6 (List.mem_of_getElem? (i := 42) rfl) rfl
theorem w_1342 : Cond.code yX10_deaf cX10_deaf 4 (some .int) ∈ TB := tk_6 (List.mem_of_getElem? (i := 43) rfl) rfl
theorem w_1343 : Cond.methodLink RL 231 yX10_ledger ∈ TB := tk_6 (List.mem_of_getElem? (i := 44) rfl) rfl
theorem w_1344 : Cond.instanceMethod yX10_ledger ∈ TB := tk_6 (List.mem_of_getElem? (i := 45) rfl) rfl
theorem w_1345 : Cond.selects RX10 yX10_ledger yX10_ledger ∈ TB := tk_6 (List.mem_of_getElem? (i := 46) rfl) rfl
theorem w_1346 : Cond.code yX10_ledger cX10_ledger 5 (some .int) ∈ TB := tk_6 (List.mem_of_getElem? (i := 47) rfl) rfl
theorem w_1347 : Cond.methodLink RL 235 yX10_image ∈ TB := tk_6 (List.mem_of_getElem? (i := 48) rfl) rfl
theorem w_1348 : Cond.instanceMethod yX10_image ∈ TB := tk_6 (List.mem_of_getElem? (i := 49) rfl) rfl
theorem w_1349 : Cond.selects RX10 yX10_image yX10_image ∈ TB := tk_6 (List.mem_of_getElem? (i := 50) rfl) rfl
theorem w_1350 : Cond.code yX10_image cX10_image 1 (some .int) ∈ TB := tk_6 (List.mem_of_getElem? (i := 51) rfl) rfl
theorem w_1356 : Cond.methodLink RL 239 yX10_back ∈ TB := tk_6 (List.mem_of_getElem? (i := 57) rfl) rfl
theorem w_1357 : Cond.instanceMethod yX10_back ∈ TB := tk_6 (List.mem_of_getElem? (i := 58) rfl) rfl
theorem w_1358 : Cond.selects RX10 yX10_back yX10_back ∈ TB := tk_6 (List.mem_of_getElem? (i := 59) rfl) rfl
theorem w_1359 : Cond.code yX10_back cX10_back 1 (some .int) ∈ TB := tk_6 (List.mem_of_getElem? (i := 60) rfl) rfl
theorem w_1360 : Cond.methodLink RL 243 yX10_about ∈ TB := tk_6 (List.mem_of_getElem? (i := 61) rfl) rfl
theorem w_1361 : Cond.instanceMethod yX10_about ∈ TB := tk_6 (List.mem_of_getElem? (i := 62) rfl) rfl
theorem w_1362 : Cond.selects RX10 yX10_about yX10_about ∈ TB := tk_6 (List.mem_of_getElem? (i := 63) rfl) rfl
theorem w_1363 : Cond.code yX10_about cX10_about 2 (some .int) ∈ TB := tk_6 (List.mem_of_getElem? (i := 64) rfl) rfl
theorem w_1364 : Cond.classLink RL 10 RX11 ∈ TB := tk_6 (List.mem_of_getElem? (i := 65) rfl) rfl
theorem w_1365 : Cond.instantiable RX11 31 ∈ TB := tk_6 (List.mem_of_getElem? (i := 66) rfl) rfl
theorem w_1366 : Cond.methodLink RL 12 yX11_init ∈ TB := tk_6 (List.mem_of_getElem? (i := 67) rfl) rfl
theorem w_1367 : Cond.instanceMethod yX11_init ∈ TB := tk_6 (List.mem_of_getElem? (i := 68) rfl) rfl
theorem w_1368 : Cond.code yX11_init cX11_init 2 none ∈ TB := tk_6 (List.mem_of_getElem? (i := 69) rfl) rfl
theorem w_1468 : Cond.methodLink RL 17 yX11_person ∈ TB := tk_6 (List.mem_of_getElem? (i := 169) rfl) rfl
theorem w_1487 : Cond.methodLink RL 22 yX11_hears ∈ TB := tk_6 (List.mem_of_getElem? (i := 188) rfl) rfl
theorem w_1488 : Cond.instanceMethod yX11_hears ∈ TB := tk_6 (List.mem_of_getElem? (i := 189) rfl) rfl
theorem w_1489 : Cond.selects RX11 yX11_hears yX11_hears ∈ TB := tk_6 (List.mem_of_getElem? (i := 190) rfl) rfl
theorem w_1490 : Cond.code yX11_hears cX11_hears 4 (some .boolean) ∈ TB := tk_6 (List.mem_of_getElem? (i := 191) rfl) rfl
theorem w_1491 : Cond.methodLink RL 27 yX11_feed ∈ TB := tk_6 (List.mem_of_getElem? (i := 192) rfl) rfl
theorem w_1492 : Cond.instanceMethod yX11_feed ∈ TB := tk_6 (List.mem_of_getElem? (i := 193) rfl) rfl
theorem w_1493 : Cond.selects RX11 yX11_feed yX11_feed ∈ TB := tk_6 (List.mem_of_getElem? (i := 194) rfl) rfl
theorem w_1494 : Cond.code yX11_feed cX11_feed 6 (some .int) ∈ TB := tk_6 (List.mem_of_getElem? (i := 195) rfl) rfl
theorem w_1499 : Cond.methodLink RL 32 yX11_end ∈ TB := tk_6 (List.mem_of_getElem? (i := 200) rfl) rfl
theorem w_1500 : Cond.instanceMethod yX11_end ∈ TB := tk_6 (List.mem_of_getElem? (i := 201) rfl) rfl
theorem w_1501 : Cond.selects RX11 yX11_end yX11_end ∈ TB := tk_6 (List.mem_of_getElem? (i := 202) rfl) rfl
theorem w_1502 : Cond.code yX11_end cX11_end 2 (some .int) ∈ TB := tk_6 (List.mem_of_getElem? (i := 203) rfl) rfl
theorem w_1503 : Cond.methodLink RL 37 yX11_text ∈ TB := tk_6 (List.mem_of_getElem? (i := 204) rfl) rfl
theorem w_1504 : Cond.instanceMethod yX11_text ∈ TB := tk_6 (List.mem_of_getElem? (i := 205) rfl) rfl
theorem w_1505 : Cond.selects RX11 yX11_text yX11_text ∈ TB := tk_6 (List.mem_of_getElem? (i := 206) rfl) rfl
theorem w_1506 : Cond.code yX11_text cX11_text 1 (some .int) ∈ TB := tk_6 (List.mem_of_getElem? (i := 207) rfl) rfl
theorem w_1651 : Cond.methodLink RL 41 yX11_fault ∈ TB := tk_7 (List.mem_of_getElem? (i := 112) rfl) rfl
theorem w_1652 : Cond.instanceMethod yX11_fault ∈ TB := tk_7 (List.mem_of_getElem? (i := 113) rfl) rfl
theorem w_1653 : Cond.selects RX11 yX11_fault yX11_fault ∈ TB := tk_7 (List.mem_of_getElem? (i := 114) rfl) rfl
theorem w_1654 : Cond.code yX11_fault cX11_fault 2 (some .int) ∈ TB := tk_7 (List.mem_of_getElem? (i := 115) rfl) rfl
theorem w_1655 : Cond.methodLink RL 46 yX11_by ∈ TB := tk_7 (List.mem_of_getElem? (i := 116) rfl) rfl
theorem w_1656 : Cond.instanceMethod yX11_by ∈ TB := tk_7 (List.mem_of_getElem? (i := 117) rfl) rfl
theorem w_1657 : Cond.selects RX11 yX11_by yX11_by ∈ TB := tk_7 (List.mem_of_getElem? (i := 118) rfl) rfl
theorem w_1658 : Cond.code yX11_by cX11_by 2 (some .boolean) ∈ TB := tk_7 (List.mem_of_getElem? (i := 119) rfl) rfl
theorem w_1659 : Cond.methodLink RL 80 yX11_undo ∈ TB := tk_7 (List.mem_of_getElem? (i := 120) rfl) rfl
theorem w_1660 : Cond.instanceMethod yX11_undo ∈ TB := tk_7 (List.mem_of_getElem? (i := 121) rfl) rfl
theorem w_1661 : Cond.selects RX11 yX11_undo yX11_undo ∈ TB := tk_7 (List.mem_of_getElem? (i := 122) rfl) rfl
theorem w_1662 : Cond.code yX11_undo cX11_undo 4 (some .int) ∈ TB := tk_7 (List.mem_of_getElem? (i := 123) rfl) rfl
theorem w_1663 : Cond.methodLink RL 50 yX11_ring ∈ TB := tk_7 (List.mem_of_getElem? (i := 124) rfl) rfl
theorem w_1679 : Cond.methodLink RL 55 yX11_due ∈ TB := tk_7 (List.mem_of_getElem? (i := 140) rfl) rfl
theorem w_1687 : Cond.methodLink RL 59 yX11_bed ∈ TB := tk_7 (List.mem_of_getElem? (i := 148) rfl) rfl
theorem w_1695 : Cond.methodLink RL 63 yX11_up ∈ TB := tk_7 (List.mem_of_getElem? (i := 156) rfl) rfl
theorem w_1699 : Cond.methodLink RL 67 yX11_day ∈ TB := tk_7 (List.mem_of_getElem? (i := 160) rfl) rfl
theorem w_1700 : Cond.instanceMethod yX11_day ∈ TB := tk_7 (List.mem_of_getElem? (i := 161) rfl) rfl
theorem w_1701 : Cond.selects RX11 yX11_day yX11_day ∈ TB := tk_7 (List.mem_of_getElem? (i := 162) rfl) rfl
theorem w_1702 : Cond.code yX11_day cX11_day 2 (some .int) ∈ TB := tk_7 (List.mem_of_getElem? (i := 163) rfl) rfl
theorem w_1774 : Cond.methodLink RL 71 yX11_played ∈ TB := tk_7 (List.mem_of_getElem? (i := 235) rfl) rfl
theorem w_1775 : Cond.instanceMethod yX11_played ∈ TB := tk_7 (List.mem_of_getElem? (i := 236) rfl) rfl
theorem w_1776 : Cond.selects RX11 yX11_played yX11_played ∈ TB := tk_7 (List.mem_of_getElem? (i := 237) rfl) rfl
theorem w_1777 : Cond.code yX11_played cX11_played 3 (some .int) ∈ TB := tk_7 (List.mem_of_getElem? (i := 238) rfl) rfl
theorem w_1787 : Cond.methodLink RL 76 yX11_years ∈ TB := tk_8 (List.mem_of_getElem? (i := 8) rfl) rfl
theorem w_1788 : Cond.instanceMethod yX11_years ∈ TB := tk_8 (List.mem_of_getElem? (i := 9) rfl) rfl
theorem w_1789 : Cond.selects RX11 yX11_years yX11_years ∈ TB := tk_8 (List.mem_of_getElem? (i := 10) rfl) rfl
theorem w_1790 : Cond.code yX11_years cX11_years 5 (some .int) ∈ TB := tk_8 (List.mem_of_getElem? (i := 11) rfl) rfl
theorem w_1795 : Cond.methodLink RL 84 yX11_of ∈ TB := tk_8 (List.mem_of_getElem? (i := 16) rfl) rfl
theorem w_1796 : Cond.instanceMethod yX11_of ∈ TB := tk_8 (List.mem_of_getElem? (i := 17) rfl) rfl
theorem w_1797 : Cond.selects RX11 yX11_of yX11_of ∈ TB := tk_8 (List.mem_of_getElem? (i := 18) rfl) rfl
theorem w_1798 : Cond.code yX11_of cX11_of 3 (some .int) ∈ TB := tk_8 (List.mem_of_getElem? (i := 19) rfl) rfl
theorem w_1807 : Cond.methodLink RL 88 yX11_is ∈ TB := tk_8 (List.mem_of_getElem? (i := 28) rfl) rfl
theorem w_1808 : Cond.instanceMethod yX11_is ∈ TB := tk_8 (List.mem_of_getElem? (i := 29) rfl) rfl
theorem w_1809 : Cond.selects RX11 yX11_is yX11_is ∈ TB := tk_8 (List.mem_of_getElem? (i := 30) rfl) rfl
theorem w_1810 : Cond.code yX11_is cX11_is 2 (some .int) ∈ TB := tk_8 (List.mem_of_getElem? (i := 31) rfl) rfl
theorem w_1811 : Cond.methodLink RL 92 yX11_book ∈ TB := tk_8 (List.mem_of_getElem? (i := 32) rfl) rfl
theorem w_1815 : Cond.methodLink RL 234 yX11_ledger ∈ TB := tk_8 (List.mem_of_getElem? (i := 36) rfl) rfl
theorem w_1816 : Cond.instanceMethod yX11_ledger ∈ TB := tk_8 (List.mem_of_getElem? (i := 37) rfl) rfl
theorem w_1817 : Cond.selects RX11 yX11_ledger yX11_ledger ∈ TB := tk_8 (List.mem_of_getElem? (i := 38) rfl) rfl
theorem w_1818 : Cond.code yX11_ledger cX11_ledger 4 (some .int) ∈ TB := tk_8 (List.mem_of_getElem? (i := 39) rfl) rfl
theorem w_1820 : Cond.methodLink RL 222 yX11_latest ∈ TB := tk_8 (List.mem_of_getElem? (i := 41) rfl) rfl
theorem w_1821 : Cond.instanceMethod yX11_latest ∈ TB := tk_8 (List.mem_of_getElem? (i := 42) rfl) rfl
theorem w_1822 : Cond.selects RX11 yX11_latest yX11_latest ∈ TB := tk_8 (List.mem_of_getElem? (i := 43) rfl) rfl
theorem w_1823 : Cond.code yX11_latest cX11_latest 3 (some .int) ∈ TB := tk_8 (List.mem_of_getElem? (i := 44) rfl) rfl
theorem w_1824 : Cond.methodLink RL 226 yX11_crowded ∈ TB := tk_8 (List.mem_of_getElem? (i := 45) rfl) rfl
theorem w_1825 : Cond.instanceMethod yX11_crowded ∈ TB := tk_8 (List.mem_of_getElem? (i := 46) rfl) rfl
theorem w_1826 : Cond.selects RX11 yX11_crowded yX11_crowded ∈ TB := tk_8 (List.mem_of_getElem? (i := 47) rfl) rfl
theorem w_1827 : Cond.code yX11_crowded cX11_crowded 6 (some .int) ∈ TB := tk_8 (List.mem_of_getElem? (i := 48) rfl) rfl
theorem w_1828 : Cond.methodLink RL 230 yX11_deaf ∈ TB := tk_8 (List.mem_of_getElem? (i := 49) rfl) rfl
theorem w_1829 : Cond.instanceMethod yX11_deaf ∈ TB := tk_8 (List.mem_of_getElem? (i := 50) rfl) rfl
theorem w_1830 : Cond.selects RX11 yX11_deaf yX11_deaf ∈ TB := tk_8 (List.mem_of_getElem? (i := 51) rfl) rfl
theorem w_1831 : Cond.code yX11_deaf cX11_deaf 3 (some .int) ∈ TB := tk_8 (List.mem_of_getElem? (i := 52) rfl) rfl
theorem w_1832 : Cond.methodLink RL 96 yX11_foretold ∈ TB := tk_8 (List.mem_of_getElem? (i := 53) rfl) rfl
theorem w_1833 : Cond.instanceMethod yX11_foretold ∈ TB := tk_8 (List.mem_of_getElem? (i := 54) rfl) rfl
theorem w_1834 : Cond.selects RX11 yX11_foretold yX11_foretold ∈ TB := tk_8 (List.mem_of_getElem? (i := 55) rfl) rfl
theorem w_1835 : Cond.code yX11_foretold cX11_foretold 5 (some .int) ∈ TB := tk_8 (List.mem_of_getElem? (i := 56) rfl) rfl
theorem w_1836 : Cond.methodLink RL 100 yX11_late ∈ TB := tk_8 (List.mem_of_getElem? (i := 57) rfl) rfl
theorem w_1837 : Cond.instanceMethod yX11_late ∈ TB := tk_8 (List.mem_of_getElem? (i := 58) rfl) rfl
theorem w_1838 : Cond.selects RX11 yX11_late yX11_late ∈ TB := tk_8 (List.mem_of_getElem? (i := 59) rfl) rfl
theorem w_1839 : Cond.code yX11_late cX11_late 2 (some .int) ∈ TB := tk_8 (List.mem_of_getElem? (i := 60) rfl) rfl
theorem w_1840 : Cond.methodLink RL 104 yX11_runners ∈ TB := tk_8 (List.mem_of_getElem? (i := 61) rfl) rfl
theorem w_1841 : Cond.instanceMethod yX11_runners ∈ TB := tk_8 (List.mem_of_getElem? (i := 62) rfl) rfl
theorem w_1842 : Cond.selects RX11 yX11_runners yX11_runners ∈ TB := tk_8 (List.mem_of_getElem? (i := 63) rfl) rfl
theorem w_1843 : Cond.code yX11_runners cX11_runners 2 (some .int) ∈ TB := tk_8 (List.mem_of_getElem? (i := 64) rfl) rfl
theorem w_1844 : Cond.methodLink RL 108 yX11_settled ∈ TB := tk_8 (List.mem_of_getElem? (i := 65) rfl) rfl
theorem w_1845 : Cond.instanceMethod yX11_settled ∈ TB := tk_8 (List.mem_of_getElem? (i := 66) rfl) rfl
theorem w_1846 : Cond.selects RX11 yX11_settled yX11_settled ∈ TB := tk_8 (List.mem_of_getElem? (i := 67) rfl) rfl
theorem w_1847 : Cond.code yX11_settled cX11_settled 4 (some .int) ∈ TB := tk_8 (List.mem_of_getElem? (i := 68) rfl) rfl
theorem w_1852 : Cond.methodLink RL 113 yX11_fewest ∈ TB := tk_8 (List.mem_of_getElem? (i := 73) rfl) rfl
theorem w_1853 : Cond.instanceMethod yX11_fewest ∈ TB := tk_8 (List.mem_of_getElem? (i := 74) rfl) rfl
theorem w_1854 : Cond.selects RX11 yX11_fewest yX11_fewest ∈ TB := tk_8 (List.mem_of_getElem? (i := 75) rfl) rfl
theorem w_1855 : Cond.code yX11_fewest cX11_fewest 4 (some .int) ∈ TB := tk_8 (List.mem_of_getElem? (i := 76) rfl) rfl
theorem w_1856 : Cond.methodLink RL 117 yX11_tail ∈ TB := tk_8 (List.mem_of_getElem? (i := 77) rfl) rfl
theorem w_1857 : Cond.instanceMethod yX11_tail ∈ TB := tk_8 (List.mem_of_getElem? (i := 78) rfl) rfl
theorem w_1858 : Cond.selects RX11 yX11_tail yX11_tail ∈ TB := tk_8 (List.mem_of_getElem? (i := 79) rfl) rfl
theorem w_1859 : Cond.code yX11_tail cX11_tail 3 (some .int) ∈ TB := tk_8 (List.mem_of_getElem? (i := 80) rfl) rfl
theorem w_1868 : Cond.methodLink RL 121 yX11_round ∈ TB := tk_8 (List.mem_of_getElem? (i := 89) rfl) rfl
theorem w_1869 : Cond.instanceMethod yX11_round ∈ TB := tk_8 (List.mem_of_getElem? (i := 90) rfl) rfl
theorem w_1870 : Cond.selects RX11 yX11_round yX11_round ∈ TB := tk_8 (List.mem_of_getElem? (i := 91) rfl) rfl
theorem w_1871 : Cond.code yX11_round cX11_round 4 (some .int) ∈ TB := tk_8 (List.mem_of_getElem? (i := 92) rfl) rfl
theorem w_1872 : Cond.methodLink RL 125 yX11_rounds ∈ TB := tk_8 (List.mem_of_getElem? (i := 93) rfl) rfl
theorem w_1873 : Cond.instanceMethod yX11_rounds ∈ TB := tk_8 (List.mem_of_getElem? (i := 94) rfl) rfl
theorem w_1874 : Cond.selects RX11 yX11_rounds yX11_rounds ∈ TB := tk_8 (List.mem_of_getElem? (i := 95) rfl) rfl
theorem w_1875 : Cond.code yX11_rounds cX11_rounds 5 (some .int) ∈ TB := tk_8 (List.mem_of_getElem? (i := 96) rfl) rfl
theorem w_1876 : Cond.methodLink RL 129 yX11_basin ∈ TB := tk_8 (List.mem_of_getElem? (i := 97) rfl) rfl
theorem w_1877 : Cond.instanceMethod yX11_basin ∈ TB := tk_8 (List.mem_of_getElem? (i := 98) rfl) rfl
theorem w_1878 : Cond.selects RX11 yX11_basin yX11_basin ∈ TB := tk_8 (List.mem_of_getElem? (i := 99) rfl) rfl
theorem w_1879 : Cond.code yX11_basin cX11_basin 4 (some .int) ∈ TB := tk_8 (List.mem_of_getElem? (i := 100) rfl) rfl
theorem w_1884 : Cond.methodLink RL 133 yX11_never ∈ TB := tk_8 (List.mem_of_getElem? (i := 105) rfl) rfl
theorem w_1885 : Cond.instanceMethod yX11_never ∈ TB := tk_8 (List.mem_of_getElem? (i := 106) rfl) rfl
theorem w_1886 : Cond.selects RX11 yX11_never yX11_never ∈ TB := tk_8 (List.mem_of_getElem? (i := 107) rfl) rfl
theorem w_1887 : Cond.code yX11_never cX11_never 5 (some .int) ∈ TB := tk_8 (List.mem_of_getElem? (i := 108) rfl) rfl
theorem w_1888 : Cond.methodLink RL 137 yX11_after ∈ TB := tk_8 (List.mem_of_getElem? (i := 109) rfl) rfl
theorem w_1889 : Cond.instanceMethod yX11_after ∈ TB := tk_8 (List.mem_of_getElem? (i := 110) rfl) rfl
theorem w_1890 : Cond.selects RX11 yX11_after yX11_after ∈ TB := tk_8 (List.mem_of_getElem? (i := 111) rfl) rfl
theorem w_1891 : Cond.code yX11_after cX11_after 3 (some .int) ∈ TB := tk_8 (List.mem_of_getElem? (i := 112) rfl) rfl
theorem w_1892 : Cond.methodLink RL 141 yX11_times ∈ TB := tk_8 (List.mem_of_getElem? (i := 113) rfl) rfl
theorem w_1893 : Cond.instanceMethod yX11_times ∈ TB := tk_8 (List.mem_of_getElem? (i := 114) rfl) rfl
theorem w_1894 : Cond.selects RX11 yX11_times yX11_times ∈ TB := tk_8 (List.mem_of_getElem? (i := 115) rfl) rfl
theorem w_1895 : Cond.code yX11_times cX11_times 3 (some .int) ∈ TB := tk_8 (List.mem_of_getElem? (i := 116) rfl) rfl
theorem w_1896 : Cond.methodLink RL 145 yX11_apart ∈ TB := tk_8 (List.mem_of_getElem? (i := 117) rfl) rfl
theorem w_1897 : Cond.instanceMethod yX11_apart ∈ TB := tk_8 (List.mem_of_getElem? (i := 118) rfl) rfl
theorem w_1898 : Cond.selects RX11 yX11_apart yX11_apart ∈ TB := tk_8 (List.mem_of_getElem? (i := 119) rfl) rfl
theorem w_1899 : Cond.code yX11_apart cX11_apart 4 (some .int) ∈ TB := tk_8 (List.mem_of_getElem? (i := 120) rfl) rfl
theorem w_1900 : Cond.methodLink RL 149 yX11_always ∈ TB := tk_8 (List.mem_of_getElem? (i := 121) rfl) rfl
theorem w_1901 : Cond.instanceMethod yX11_always ∈ TB := tk_8 (List.mem_of_getElem? (i := 122) rfl) rfl
theorem w_1902 : Cond.selects RX11 yX11_always yX11_always ∈ TB := tk_8 (List.mem_of_getElem? (i := 123) rfl) rfl
theorem w_1903 : Cond.code yX11_always cX11_always 6 (some .int) ∈ TB := tk_8 (List.mem_of_getElem? (i := 124) rfl) rfl
theorem w_1904 : Cond.methodLink RL 153 yX11_calm ∈ TB := tk_8 (List.mem_of_getElem? (i := 125) rfl) rfl
theorem w_1905 : Cond.instanceMethod yX11_calm ∈ TB := tk_8 (List.mem_of_getElem? (i := 126) rfl) rfl
theorem w_1906 : Cond.selects RX11 yX11_calm yX11_calm ∈ TB := tk_8 (List.mem_of_getElem? (i := 127) rfl) rfl
theorem w_1907 : Cond.code yX11_calm cX11_calm 4 (some .int) ∈ TB := tk_8 (List.mem_of_getElem? (i := 128) rfl) rfl
theorem w_1908 : Cond.methodLink RL 158 yX11_helped ∈ TB := tk_8 (List.mem_of_getElem? (i := 129) rfl) rfl
theorem w_1909 : Cond.instanceMethod yX11_helped ∈ TB := tk_8 (List.mem_of_getElem? (i := 130) rfl) rfl
theorem w_1910 : Cond.selects RX11 yX11_helped yX11_helped ∈ TB := tk_8 (List.mem_of_getElem? (i := 131) rfl) rfl
theorem w_1911 : Cond.code yX11_helped cX11_helped 3 (some .int) ∈ TB := tk_8 (List.mem_of_getElem? (i := 132) rfl) rfl
theorem w_1912 : Cond.methodLink RL 162 yX11_early ∈ TB := tk_8 (List.mem_of_getElem? (i := 133) rfl) rfl
theorem w_1913 : Cond.instanceMethod yX11_early ∈ TB := tk_8 (List.mem_of_getElem? (i := 134) rfl) rfl
theorem w_1914 : Cond.selects RX11 yX11_early yX11_early ∈ TB := tk_8 (List.mem_of_getElem? (i := 135) rfl) rfl
theorem w_1915 : Cond.code yX11_early cX11_early 6 (some .int) ∈ TB := tk_8 (List.mem_of_getElem? (i := 136) rfl) rfl
theorem w_1916 : Cond.methodLink RL 166 yX11_weathers ∈ TB := tk_8 (List.mem_of_getElem? (i := 137) rfl) rfl
theorem w_1917 : Cond.instanceMethod yX11_weathers ∈ TB := tk_8 (List.mem_of_getElem? (i := 138) rfl) rfl
theorem w_1918 : Cond.selects RX11 yX11_weathers yX11_weathers ∈ TB := tk_8 (List.mem_of_getElem? (i := 139) rfl) rfl
theorem w_1919 : Cond.code yX11_weathers cX11_weathers 5 (some .int) ∈ TB := tk_8 (List.mem_of_getElem? (i := 140) rfl) rfl
theorem w_1920 : Cond.methodLink RL 170 yX11_needless ∈ TB := tk_8 (List.mem_of_getElem? (i := 141) rfl) rfl
theorem w_1921 : Cond.instanceMethod yX11_needless ∈ TB := tk_8 (List.mem_of_getElem? (i := 142) rfl) rfl
theorem w_1922 : Cond.selects RX11 yX11_needless yX11_needless ∈ TB := tk_8 (List.mem_of_getElem? (i := 143) rfl) rfl
theorem w_1923 : Cond.code yX11_needless cX11_needless 3 (some .int) ∈ TB := tk_8 (List.mem_of_getElem? (i := 144) rfl) rfl
theorem w_1928 : Cond.methodLink RL 174 yX11_lateness ∈ TB := tk_8 (List.mem_of_getElem? (i := 149) rfl) rfl
theorem w_1929 : Cond.instanceMethod yX11_lateness ∈ TB := tk_8 (List.mem_of_getElem? (i := 150) rfl) rfl
theorem w_1930 : Cond.selects RX11 yX11_lateness yX11_lateness ∈ TB := tk_8 (List.mem_of_getElem? (i := 151) rfl) rfl
theorem w_1931 : Cond.code yX11_lateness cX11_lateness 4 (some .int) ∈ TB := tk_8 (List.mem_of_getElem? (i := 152) rfl) rfl
theorem w_1932 : Cond.methodLink RL 178 yX11_race ∈ TB := tk_8 (List.mem_of_getElem? (i := 153) rfl) rfl
theorem w_1933 : Cond.instanceMethod yX11_race ∈ TB := tk_8 (List.mem_of_getElem? (i := 154) rfl) rfl
theorem w_1934 : Cond.selects RX11 yX11_race yX11_race ∈ TB := tk_8 (List.mem_of_getElem? (i := 155) rfl) rfl
theorem w_1935 : Cond.code yX11_race cX11_race 5 (some .int) ∈ TB := tk_8 (List.mem_of_getElem? (i := 156) rfl) rfl
theorem w_1939 : Cond.methodLink RL 182 yX11_heard ∈ TB := tk_8 (List.mem_of_getElem? (i := 160) rfl) rfl
theorem w_1940 : Cond.instanceMethod yX11_heard ∈ TB := tk_8 (List.mem_of_getElem? (i := 161) rfl) rfl
theorem w_1941 : Cond.selects RX11 yX11_heard yX11_heard ∈ TB := tk_8 (List.mem_of_getElem? (i := 162) rfl) rfl
theorem w_1942 : Cond.code yX11_heard cX11_heard 3 (some .int) ∈ TB := tk_8 (List.mem_of_getElem? (i := 163) rfl) rfl
theorem w_1943 : Cond.methodLink RL 186 yX11_believes ∈ TB := tk_8 (List.mem_of_getElem? (i := 164) rfl) rfl
theorem w_1944 : Cond.instanceMethod yX11_believes ∈ TB := tk_8 (List.mem_of_getElem? (i := 165) rfl) rfl
theorem w_1945 : Cond.selects RX11 yX11_believes yX11_believes ∈ TB := tk_8 (List.mem_of_getElem? (i := 166) rfl) rfl
theorem w_1946 : Cond.code yX11_believes cX11_believes 6 (some .int) ∈ TB := tk_8 (List.mem_of_getElem? (i := 167) rfl) rfl
theorem w_1954 : Cond.methodLink RL 190 yX11_sure ∈ TB := tk_8 (List.mem_of_getElem? (i := 175) rfl) rfl
theorem w_1955 : Cond.instanceMethod yX11_sure ∈ TB := tk_8 (List.mem_of_getElem? (i := 176) rfl) rfl
theorem w_1956 : Cond.selects RX11 yX11_sure yX11_sure ∈ TB := tk_8 (List.mem_of_getElem? (i := 177) rfl) rfl
theorem w_1957 : Cond.code yX11_sure cX11_sure 5 (some .int) ∈ TB := tk_8 (List.mem_of_getElem? (i := 178) rfl) rfl
theorem w_1958 : Cond.methodLink RL 194 yX11_tells ∈ TB := tk_8 (List.mem_of_getElem? (i := 179) rfl) rfl
theorem w_1959 : Cond.instanceMethod yX11_tells ∈ TB := tk_8 (List.mem_of_getElem? (i := 180) rfl) rfl
theorem w_1960 : Cond.selects RX11 yX11_tells yX11_tells ∈ TB := tk_8 (List.mem_of_getElem? (i := 181) rfl) rfl
theorem w_1961 : Cond.code yX11_tells cX11_tells 7 (some .int) ∈ TB := tk_8 (List.mem_of_getElem? (i := 182) rfl) rfl
theorem w_1967 : Cond.methodLink RL 198 yX11_asleep ∈ TB := tk_8 (List.mem_of_getElem? (i := 188) rfl) rfl
theorem w_1968 : Cond.instanceMethod yX11_asleep ∈ TB := tk_8 (List.mem_of_getElem? (i := 189) rfl) rfl
theorem w_1969 : Cond.selects RX11 yX11_asleep yX11_asleep ∈ TB := tk_8 (List.mem_of_getElem? (i := 190) rfl) rfl
theorem w_1970 : Cond.code yX11_asleep cX11_asleep 3 (some .int) ∈ TB := tk_8 (List.mem_of_getElem? (i := 191) rfl) rfl
theorem w_1983 : Cond.methodLink RL 202 yX11_slack ∈ TB := tk_8 (List.mem_of_getElem? (i := 204) rfl) rfl
theorem w_1984 : Cond.instanceMethod yX11_slack ∈ TB := tk_8 (List.mem_of_getElem? (i := 205) rfl) rfl
theorem w_1985 : Cond.selects RX11 yX11_slack yX11_slack ∈ TB := tk_8 (List.mem_of_getElem? (i := 206) rfl) rfl
theorem w_1986 : Cond.code yX11_slack cX11_slack 2 (some .int) ∈ TB := tk_8 (List.mem_of_getElem? (i := 207) rfl) rfl
theorem w_1987 : Cond.methodLink RL 206 yX11_least ∈ TB := tk_8 (List.mem_of_getElem? (i := 208) rfl) rfl
theorem w_1988 : Cond.instanceMethod yX11_least ∈ TB := tk_8 (List.mem_of_getElem? (i := 209) rfl) rfl
theorem w_1989 : Cond.selects RX11 yX11_least yX11_least ∈ TB := tk_8 (List.mem_of_getElem? (i := 210) rfl) rfl
theorem w_1990 : Cond.code yX11_least cX11_least 2 (some .int) ∈ TB := tk_8 (List.mem_of_getElem? (i := 211) rfl) rfl
theorem w_1991 : Cond.methodLink RL 210 yX11_moves ∈ TB := tk_8 (List.mem_of_getElem? (i := 212) rfl) rfl
theorem w_1992 : Cond.instanceMethod yX11_moves ∈ TB := tk_8 (List.mem_of_getElem? (i := 213) rfl) rfl
theorem w_1993 : Cond.selects RX11 yX11_moves yX11_moves ∈ TB := tk_8 (List.mem_of_getElem? (i := 214) rfl) rfl
theorem w_1994 : Cond.code yX11_moves cX11_moves 3 (some .int) ∈ TB := tk_8 (List.mem_of_getElem? (i := 215) rfl) rfl
theorem w_1995 : Cond.methodLink RL 214 yX11_said ∈ TB := tk_8 (List.mem_of_getElem? (i := 216) rfl) rfl
theorem w_1996 : Cond.instanceMethod yX11_said ∈ TB := tk_8 (List.mem_of_getElem? (i := 217) rfl) rfl
theorem w_1997 : Cond.selects RX11 yX11_said yX11_said ∈ TB := tk_8 (List.mem_of_getElem? (i := 218) rfl) rfl
theorem w_1998 : Cond.code yX11_said cX11_said 3 (some .int) ∈ TB := tk_8 (List.mem_of_getElem? (i := 219) rfl) rfl
theorem w_1999 : Cond.methodLink RL 218 yX11_whose ∈ TB := tk_8 (List.mem_of_getElem? (i := 220) rfl) rfl
theorem w_2000 : Cond.instanceMethod yX11_whose ∈ TB := tk_8 (List.mem_of_getElem? (i := 221) rfl) rfl
theorem w_2001 : Cond.selects RX11 yX11_whose yX11_whose ∈ TB := tk_8 (List.mem_of_getElem? (i := 222) rfl) rfl
theorem w_2002 : Cond.code yX11_whose cX11_whose 6 (some .int) ∈ TB := tk_8 (List.mem_of_getElem? (i := 223) rfl) rfl
theorem w_2003 : Cond.methodLink RL 238 yX11_image ∈ TB := tk_8 (List.mem_of_getElem? (i := 224) rfl) rfl
theorem w_2004 : Cond.instanceMethod yX11_image ∈ TB := tk_8 (List.mem_of_getElem? (i := 225) rfl) rfl
theorem w_2005 : Cond.selects RX11 yX11_image yX11_image ∈ TB := tk_8 (List.mem_of_getElem? (i := 226) rfl) rfl
theorem w_2006 : Cond.code yX11_image cX11_image 1 (some .int) ∈ TB := tk_8 (List.mem_of_getElem? (i := 227) rfl) rfl
theorem w_2007 : Cond.methodLink RL 242 yX11_back ∈ TB := tk_8 (List.mem_of_getElem? (i := 228) rfl) rfl
theorem w_2008 : Cond.instanceMethod yX11_back ∈ TB := tk_8 (List.mem_of_getElem? (i := 229) rfl) rfl
theorem w_2009 : Cond.selects RX11 yX11_back yX11_back ∈ TB := tk_8 (List.mem_of_getElem? (i := 230) rfl) rfl
theorem w_2010 : Cond.code yX11_back cX11_back 1 (some .int) ∈ TB := tk_8 (List.mem_of_getElem? (i := 231) rfl) rfl
theorem w_2011 : Cond.methodLink RL 246 yX11_about ∈ TB := tk_8 (List.mem_of_getElem? (i := 232) rfl) rfl
theorem w_2012 : Cond.instanceMethod yX11_about ∈ TB := tk_8 (List.mem_of_getElem? (i := 233) rfl) rfl
theorem w_2013 : Cond.selects RX11 yX11_about yX11_about ∈ TB := tk_8 (List.mem_of_getElem? (i := 234) rfl) rfl
theorem w_2014 : Cond.code yX11_about cX11_about 2 (some .int) ∈ TB := tk_8 (List.mem_of_getElem? (i := 235) rfl) rfl
theorem kc_6 : Int32.ofInt 6 = 6 := by decide
theorem mk_L_100 : LVm RL 100 11 yX11_late cX11_late 2 (some .int) 1 := ⟨⟨w_1836, w_1839, w_111, ⟨by decide, by decide, by decide +kernel⟩⟩, w_1837, w_1838, by decide, rfl⟩
theorem mk_L_101 : LVm RL 101 10 yX10_runners cX10_runners 2 (some .int) 1 := ⟨⟨w_1066, w_1069, w_100, ⟨by decide, by decide, by decide +kernel⟩⟩, w_1067, w_1068, by decide, rfl⟩
theorem mk_L_104 : LVm RL 104 11 yX11_runners cX11_runners 2 (some .int) 1 := ⟨⟨w_1840, w_1843, w_111, ⟨by decide, by decide, by decide +kernel⟩⟩, w_1841, w_1842, by decide, rfl⟩
theorem mk_L_105 : LVm RL 105 10 yX10_settled cX10_settled 2 (some .int) 1 := ⟨⟨w_1070, w_1073, w_100, ⟨by decide, by decide, by decide +kernel⟩⟩, w_1071, w_1072, by decide, rfl⟩
theorem mk_L_108 : LVm RL 108 11 yX11_settled cX11_settled 4 (some .int) 1 := ⟨⟨w_1844, w_1847, w_111, ⟨by decide, by decide, by decide +kernel⟩⟩, w_1845, w_1846, by decide, rfl⟩
theorem mk_L_109 : LVm RL 109 10 yX10_fewest cX10_fewest 2 (some .int) 1 := ⟨⟨w_1088, w_1091, w_100, ⟨by decide, by decide, by decide +kernel⟩⟩, w_1089, w_1090, by decide, rfl⟩
theorem mk_L_113 : LVm RL 113 11 yX11_fewest cX11_fewest 4 (some .int) 1 := ⟨⟨w_1852, w_1855, w_111, ⟨by decide, by decide, by decide +kernel⟩⟩, w_1853, w_1854, by decide, rfl⟩
theorem mk_L_114 : LVm RL 114 10 yX10_tail cX10_tail 2 (some .int) 1 := ⟨⟨w_1100, w_1103, w_100, ⟨by decide, by decide, by decide +kernel⟩⟩, w_1101, w_1102, by decide, rfl⟩
theorem mk_L_117 : LVm RL 117 11 yX11_tail cX11_tail 3 (some .int) 1 := ⟨⟨w_1856, w_1859, w_111, ⟨by decide, by decide, by decide +kernel⟩⟩, w_1857, w_1858, by decide, rfl⟩
theorem mk_L_118 : LVm RL 118 10 yX10_round cX10_round 2 (some .int) 1 := ⟨⟨w_1116, w_1119, w_100, ⟨by decide, by decide, by decide +kernel⟩⟩, w_1117, w_1118, by decide, rfl⟩
theorem mk_L_12 : LIm RL 12 yX11_init cX11_init 2 0 := ⟨⟨w_1366, w_1368, w_111, ⟨by decide, by decide, by decide +kernel⟩⟩, w_1367, rfl⟩
theorem mk_L_121 : LVm RL 121 11 yX11_round cX11_round 4 (some .int) 1 := ⟨⟨w_1868, w_1871, w_111, ⟨by decide, by decide, by decide +kernel⟩⟩, w_1869, w_1870, by decide, rfl⟩
theorem mk_L_122 : LVm RL 122 10 yX10_rounds cX10_rounds 1 (some .int) 0 := ⟨⟨w_1124, w_1127, w_100, ⟨by decide, by decide, by decide +kernel⟩⟩, w_1125, w_1126, by decide, rfl⟩
theorem mk_L_125 : LVm RL 125 11 yX11_rounds cX11_rounds 5 (some .int) 0 := ⟨⟨w_1872, w_1875, w_111, ⟨by decide, by decide, by decide +kernel⟩⟩, w_1873, w_1874, by decide, rfl⟩
theorem mk_L_126 : LVm RL 126 10 yX10_basin cX10_basin 2 (some .int) 1 := ⟨⟨w_1132, w_1135, w_100, ⟨by decide, by decide, by decide +kernel⟩⟩, w_1133, w_1134, by decide, rfl⟩
theorem mk_L_129 : LVm RL 129 11 yX11_basin cX11_basin 4 (some .int) 1 := ⟨⟨w_1876, w_1879, w_111, ⟨by decide, by decide, by decide +kernel⟩⟩, w_1877, w_1878, by decide, rfl⟩
theorem mk_L_13 : LVm RL 13 10 yX10_person cX10_person 5 (some .int) 4 := ⟨⟨w_543, w_546, w_100, ⟨by decide, by decide, by decide +kernel⟩⟩, w_544, w_545, by decide, rfl⟩
theorem mk_L_130 : LVm RL 130 10 yX10_never cX10_never 1 (some .int) 0 := ⟨⟨w_1140, w_1143, w_100, ⟨by decide, by decide, by decide +kernel⟩⟩, w_1141, w_1142, by decide, rfl⟩
theorem mk_L_133 : LVm RL 133 11 yX11_never cX11_never 5 (some .int) 0 := ⟨⟨w_1884, w_1887, w_111, ⟨by decide, by decide, by decide +kernel⟩⟩, w_1885, w_1886, by decide, rfl⟩
theorem mk_L_134 : LVm RL 134 10 yX10_after cX10_after 3 (some .int) 2 := ⟨⟨w_1148, w_1151, w_100, ⟨by decide, by decide, by decide +kernel⟩⟩, w_1149, w_1150, by decide, rfl⟩
theorem mk_L_137 : LVm RL 137 11 yX11_after cX11_after 3 (some .int) 2 := ⟨⟨w_1888, w_1891, w_111, ⟨by decide, by decide, by decide +kernel⟩⟩, w_1889, w_1890, by decide, rfl⟩
theorem mk_L_138 : LVm RL 138 10 yX10_times cX10_times 3 (some .int) 2 := ⟨⟨w_1156, w_1159, w_100, ⟨by decide, by decide, by decide +kernel⟩⟩, w_1157, w_1158, by decide, rfl⟩
theorem mk_L_141 : LVm RL 141 11 yX11_times cX11_times 3 (some .int) 2 := ⟨⟨w_1892, w_1895, w_111, ⟨by decide, by decide, by decide +kernel⟩⟩, w_1893, w_1894, by decide, rfl⟩
theorem mk_L_142 : LVm RL 142 10 yX10_apart cX10_apart 3 (some .int) 2 := ⟨⟨w_1164, w_1167, w_100, ⟨by decide, by decide, by decide +kernel⟩⟩, w_1165, w_1166, by decide, rfl⟩
theorem mk_L_145 : LVm RL 145 11 yX11_apart cX11_apart 4 (some .int) 2 := ⟨⟨w_1896, w_1899, w_111, ⟨by decide, by decide, by decide +kernel⟩⟩, w_1897, w_1898, by decide, rfl⟩
theorem mk_L_146 : LVm RL 146 10 yX10_always cX10_always 3 (some .int) 0 := ⟨⟨w_1172, w_1175, w_100, ⟨by decide, by decide, by decide +kernel⟩⟩, w_1173, w_1174, by decide, rfl⟩
theorem mk_L_149 : LVm RL 149 11 yX11_always cX11_always 6 (some .int) 0 := ⟨⟨w_1900, w_1903, w_111, ⟨by decide, by decide, by decide +kernel⟩⟩, w_1901, w_1902, by decide, rfl⟩
theorem mk_L_150 : LVm RL 150 10 yX10_calm cX10_calm 2 (some .int) 1 := ⟨⟨w_1183, w_1186, w_100, ⟨by decide, by decide, by decide +kernel⟩⟩, w_1184, w_1185, by decide, rfl⟩
theorem mk_L_153 : LVm RL 153 11 yX11_calm cX11_calm 4 (some .int) 1 := ⟨⟨w_1904, w_1907, w_111, ⟨by decide, by decide, by decide +kernel⟩⟩, w_1905, w_1906, by decide, rfl⟩
theorem mk_L_154 : LVm RL 154 10 yX10_helped cX10_helped 5 (some .int) 2 := ⟨⟨w_1191, w_1194, w_100, ⟨by decide, by decide, by decide +kernel⟩⟩, w_1192, w_1193, by decide, rfl⟩
theorem mk_L_158 : LVm RL 158 11 yX11_helped cX11_helped 3 (some .int) 2 := ⟨⟨w_1908, w_1911, w_111, ⟨by decide, by decide, by decide +kernel⟩⟩, w_1909, w_1910, by decide, rfl⟩
theorem mk_L_159 : LVm RL 159 10 yX10_early cX10_early 5 (some .int) 1 := ⟨⟨w_1195, w_1198, w_100, ⟨by decide, by decide, by decide +kernel⟩⟩, w_1196, w_1197, by decide, rfl⟩
theorem mk_L_162 : LVm RL 162 11 yX11_early cX11_early 6 (some .int) 1 := ⟨⟨w_1912, w_1915, w_111, ⟨by decide, by decide, by decide +kernel⟩⟩, w_1913, w_1914, by decide, rfl⟩
theorem mk_L_163 : LVm RL 163 10 yX10_weathers cX10_weathers 4 (some .int) 1 := ⟨⟨w_1201, w_1204, w_100, ⟨by decide, by decide, by decide +kernel⟩⟩, w_1202, w_1203, by decide, rfl⟩
theorem mk_L_166 : LVm RL 166 11 yX11_weathers cX11_weathers 5 (some .int) 1 := ⟨⟨w_1916, w_1919, w_111, ⟨by decide, by decide, by decide +kernel⟩⟩, w_1917, w_1918, by decide, rfl⟩
theorem mk_L_167 : LVm RL 167 10 yX10_needless cX10_needless 4 (some .int) 0 := ⟨⟨w_1205, w_1208, w_100, ⟨by decide, by decide, by decide +kernel⟩⟩, w_1206, w_1207, by decide, rfl⟩
theorem mk_L_17 : LVm RL 17 11 yX11_person cX11_person 6 (some .int) 4 := ⟨⟨w_1468, w_1471, w_111, ⟨by decide, by decide, by decide +kernel⟩⟩, w_1469, w_1470, by decide, rfl⟩
theorem mk_L_170 : LVm RL 170 11 yX11_needless cX11_needless 3 (some .int) 0 := ⟨⟨w_1920, w_1923, w_111, ⟨by decide, by decide, by decide +kernel⟩⟩, w_1921, w_1922, by decide, rfl⟩
theorem mk_L_171 : LVm RL 171 10 yX10_lateness cX10_lateness 4 (some .int) 1 := ⟨⟨w_1215, w_1218, w_100, ⟨by decide, by decide, by decide +kernel⟩⟩, w_1216, w_1217, by decide, rfl⟩
theorem mk_L_174 : LVm RL 174 11 yX11_lateness cX11_lateness 4 (some .int) 1 := ⟨⟨w_1928, w_1931, w_111, ⟨by decide, by decide, by decide +kernel⟩⟩, w_1929, w_1930, by decide, rfl⟩
theorem mk_L_175 : LVm RL 175 10 yX10_race cX10_race 3 (some .int) 2 := ⟨⟨w_1223, w_1226, w_100, ⟨by decide, by decide, by decide +kernel⟩⟩, w_1224, w_1225, by decide, rfl⟩
theorem mk_L_178 : LVm RL 178 11 yX11_race cX11_race 5 (some .int) 2 := ⟨⟨w_1932, w_1935, w_111, ⟨by decide, by decide, by decide +kernel⟩⟩, w_1933, w_1934, by decide, rfl⟩
theorem mk_L_179 : LVm RL 179 10 yX10_heard cX10_heard 3 (some .int) 2 := ⟨⟨w_1233, w_1236, w_100, ⟨by decide, by decide, by decide +kernel⟩⟩, w_1234, w_1235, by decide, rfl⟩
theorem mk_L_18 : LVm RL 18 10 yX10_hears cX10_hears 4 (some .boolean) 3 := ⟨⟨w_559, w_562, w_100, ⟨by decide, by decide, by decide +kernel⟩⟩, w_560, w_561, by decide, rfl⟩
theorem mk_L_182 : LVm RL 182 11 yX11_heard cX11_heard 3 (some .int) 2 := ⟨⟨w_1939, w_1942, w_111, ⟨by decide, by decide, by decide +kernel⟩⟩, w_1940, w_1941, by decide, rfl⟩
theorem mk_L_183 : LVm RL 183 10 yX10_believes cX10_believes 3 (some .int) 2 := ⟨⟨w_1237, w_1240, w_100, ⟨by decide, by decide, by decide +kernel⟩⟩, w_1238, w_1239, by decide, rfl⟩
theorem mk_L_186 : LVm RL 186 11 yX11_believes cX11_believes 6 (some .int) 2 := ⟨⟨w_1943, w_1946, w_111, ⟨by decide, by decide, by decide +kernel⟩⟩, w_1944, w_1945, by decide, rfl⟩
theorem mk_L_187 : LVm RL 187 10 yX10_sure cX10_sure 2 (some .int) 1 := ⟨⟨w_1259, w_1262, w_100, ⟨by decide, by decide, by decide +kernel⟩⟩, w_1260, w_1261, by decide, rfl⟩
theorem mk_L_190 : LVm RL 190 11 yX11_sure cX11_sure 5 (some .int) 1 := ⟨⟨w_1954, w_1957, w_111, ⟨by decide, by decide, by decide +kernel⟩⟩, w_1955, w_1956, by decide, rfl⟩
theorem mk_L_191 : LVm RL 191 10 yX10_tells cX10_tells 2 (some .int) 1 := ⟨⟨w_1271, w_1274, w_100, ⟨by decide, by decide, by decide +kernel⟩⟩, w_1272, w_1273, by decide, rfl⟩
theorem mk_L_194 : LVm RL 194 11 yX11_tells cX11_tells 7 (some .int) 1 := ⟨⟨w_1958, w_1961, w_111, ⟨by decide, by decide, by decide +kernel⟩⟩, w_1959, w_1960, by decide, rfl⟩
theorem mk_L_195 : LVm RL 195 10 yX10_asleep cX10_asleep 7 (some .int) 1 := ⟨⟨w_1297, w_1300, w_100, ⟨by decide, by decide, by decide +kernel⟩⟩, w_1298, w_1299, by decide, rfl⟩
theorem mk_L_198 : LVm RL 198 11 yX11_asleep cX11_asleep 3 (some .int) 1 := ⟨⟨w_1967, w_1970, w_111, ⟨by decide, by decide, by decide +kernel⟩⟩, w_1968, w_1969, by decide, rfl⟩
theorem mk_L_199 : LVm RL 199 10 yX10_slack cX10_slack 2 (some .int) 1 := ⟨⟨w_1306, w_1309, w_100, ⟨by decide, by decide, by decide +kernel⟩⟩, w_1307, w_1308, by decide, rfl⟩
theorem mk_L_202 : LVm RL 202 11 yX11_slack cX11_slack 2 (some .int) 1 := ⟨⟨w_1983, w_1986, w_111, ⟨by decide, by decide, by decide +kernel⟩⟩, w_1984, w_1985, by decide, rfl⟩
theorem mk_L_203 : LVm RL 203 10 yX10_least cX10_least 2 (some .int) 1 := ⟨⟨w_1310, w_1313, w_100, ⟨by decide, by decide, by decide +kernel⟩⟩, w_1311, w_1312, by decide, rfl⟩
theorem mk_L_206 : LVm RL 206 11 yX11_least cX11_least 2 (some .int) 1 := ⟨⟨w_1987, w_1990, w_111, ⟨by decide, by decide, by decide +kernel⟩⟩, w_1988, w_1989, by decide, rfl⟩
theorem mk_L_207 : LVm RL 207 10 yX10_moves cX10_moves 5 (some .int) 2 := ⟨⟨w_1315, w_1318, w_100, ⟨by decide, by decide, by decide +kernel⟩⟩, w_1316, w_1317, by decide, rfl⟩
theorem mk_L_210 : LVm RL 210 11 yX11_moves cX11_moves 3 (some .int) 2 := ⟨⟨w_1991, w_1994, w_111, ⟨by decide, by decide, by decide +kernel⟩⟩, w_1992, w_1993, by decide, rfl⟩
theorem mk_L_211 : LVm RL 211 10 yX10_said cX10_said 4 (some .int) 2 := ⟨⟨w_1319, w_1322, w_100, ⟨by decide, by decide, by decide +kernel⟩⟩, w_1320, w_1321, by decide, rfl⟩
theorem mk_L_214 : LVm RL 214 11 yX11_said cX11_said 3 (some .int) 2 := ⟨⟨w_1995, w_1998, w_111, ⟨by decide, by decide, by decide +kernel⟩⟩, w_1996, w_1997, by decide, rfl⟩
theorem mk_L_215 : LVm RL 215 10 yX10_whose cX10_whose 3 (some .int) 0 := ⟨⟨w_1323, w_1326, w_100, ⟨by decide, by decide, by decide +kernel⟩⟩, w_1324, w_1325, by decide, rfl⟩
theorem mk_L_218 : LVm RL 218 11 yX11_whose cX11_whose 6 (some .int) 0 := ⟨⟨w_1999, w_2002, w_111, ⟨by decide, by decide, by decide +kernel⟩⟩, w_2000, w_2001, by decide, rfl⟩
theorem mk_L_219 : LVm RL 219 10 yX10_latest cX10_latest 4 (some .int) 0 := ⟨⟨w_1331, w_1334, w_100, ⟨by decide, by decide, by decide +kernel⟩⟩, w_1332, w_1333, by decide, rfl⟩
theorem mk_L_22 : LVm RL 22 11 yX11_hears cX11_hears 4 (some .boolean) 3 := ⟨⟨w_1487, w_1490, w_111, ⟨by decide, by decide, by decide +kernel⟩⟩, w_1488, w_1489, by decide, rfl⟩
theorem mk_L_222 : LVm RL 222 11 yX11_latest cX11_latest 3 (some .int) 0 := ⟨⟨w_1820, w_1823, w_111, ⟨by decide, by decide, by decide +kernel⟩⟩, w_1821, w_1822, by decide, rfl⟩
theorem mk_L_223 : LVm RL 223 10 yX10_crowded cX10_crowded 6 (some .int) 0 := ⟨⟨w_1335, w_1338, w_100, ⟨by decide, by decide, by decide +kernel⟩⟩, w_1336, w_1337, by decide, rfl⟩
theorem mk_L_226 : LVm RL 226 11 yX11_crowded cX11_crowded 6 (some .int) 0 := ⟨⟨w_1824, w_1827, w_111, ⟨by decide, by decide, by decide +kernel⟩⟩, w_1825, w_1826, by decide, rfl⟩
theorem mk_L_227 : LVm RL 227 10 yX10_deaf cX10_deaf 4 (some .int) 0 := ⟨⟨w_1339, w_1342, w_100, ⟨by decide, by decide, by decide +kernel⟩⟩, w_1340, w_1341, by decide, rfl⟩
theorem mk_L_23 : LVm RL 23 10 yX10_feed cX10_feed 6 (some .int) 5 := ⟨⟨w_563, w_566, w_100, ⟨by decide, by decide, by decide +kernel⟩⟩, w_564, w_565, by decide, rfl⟩
theorem mk_L_230 : LVm RL 230 11 yX11_deaf cX11_deaf 3 (some .int) 0 := ⟨⟨w_1828, w_1831, w_111, ⟨by decide, by decide, by decide +kernel⟩⟩, w_1829, w_1830, by decide, rfl⟩
theorem mk_L_231 : LVm RL 231 10 yX10_ledger cX10_ledger 5 (some .int) 1 := ⟨⟨w_1343, w_1346, w_100, ⟨by decide, by decide, by decide +kernel⟩⟩, w_1344, w_1345, by decide, rfl⟩
theorem mk_L_234 : LVm RL 234 11 yX11_ledger cX11_ledger 4 (some .int) 1 := ⟨⟨w_1815, w_1818, w_111, ⟨by decide, by decide, by decide +kernel⟩⟩, w_1816, w_1817, by decide, rfl⟩
theorem mk_L_235 : LVm RL 235 10 yX10_image cX10_image 1 (some .int) 0 := ⟨⟨w_1347, w_1350, w_100, ⟨by decide, by decide, by decide +kernel⟩⟩, w_1348, w_1349, by decide, rfl⟩
theorem mk_L_238 : LVm RL 238 11 yX11_image cX11_image 1 (some .int) 0 := ⟨⟨w_2003, w_2006, w_111, ⟨by decide, by decide, by decide +kernel⟩⟩, w_2004, w_2005, by decide, rfl⟩
theorem mk_L_239 : LVm RL 239 10 yX10_back cX10_back 1 (some .int) 0 := ⟨⟨w_1356, w_1359, w_100, ⟨by decide, by decide, by decide +kernel⟩⟩, w_1357, w_1358, by decide, rfl⟩
theorem mk_L_242 : LVm RL 242 11 yX11_back cX11_back 1 (some .int) 0 := ⟨⟨w_2007, w_2010, w_111, ⟨by decide, by decide, by decide +kernel⟩⟩, w_2008, w_2009, by decide, rfl⟩
theorem mk_L_243 : LVm RL 243 10 yX10_about cX10_about 2 (some .int) 1 := ⟨⟨w_1360, w_1363, w_100, ⟨by decide, by decide, by decide +kernel⟩⟩, w_1361, w_1362, by decide, rfl⟩
theorem mk_L_246 : LVm RL 246 11 yX11_about cX11_about 2 (some .int) 1 := ⟨⟨w_2011, w_2014, w_111, ⟨by decide, by decide, by decide +kernel⟩⟩, w_2012, w_2013, by decide, rfl⟩
theorem mk_L_27 : LVm RL 27 11 yX11_feed cX11_feed 6 (some .int) 5 := ⟨⟨w_1491, w_1494, w_111, ⟨by decide, by decide, by decide +kernel⟩⟩, w_1492, w_1493, by decide, rfl⟩
theorem mk_L_28 : LVm RL 28 10 yX10_end cX10_end 2 (some .int) 1 := ⟨⟨w_575, w_578, w_100, ⟨by decide, by decide, by decide +kernel⟩⟩, w_576, w_577, by decide, rfl⟩
theorem mk_L_32 : LVm RL 32 11 yX11_end cX11_end 2 (some .int) 1 := ⟨⟨w_1499, w_1502, w_111, ⟨by decide, by decide, by decide +kernel⟩⟩, w_1500, w_1501, by decide, rfl⟩
theorem mk_L_33 : LVm RL 33 10 yX10_text cX10_text 3 (some .int) 0 := ⟨⟨w_579, w_582, w_100, ⟨by decide, by decide, by decide +kernel⟩⟩, w_580, w_581, by decide, rfl⟩
theorem mk_L_37 : LVm RL 37 11 yX11_text cX11_text 1 (some .int) 0 := ⟨⟨w_1503, w_1506, w_111, ⟨by decide, by decide, by decide +kernel⟩⟩, w_1504, w_1505, by decide, rfl⟩
theorem mk_L_38 : LVm RL 38 10 yX10_fault cX10_fault 2 (some .int) 1 := ⟨⟨w_819, w_822, w_100, ⟨by decide, by decide, by decide +kernel⟩⟩, w_820, w_821, by decide, rfl⟩
theorem mk_L_41 : LVm RL 41 11 yX11_fault cX11_fault 2 (some .int) 1 := ⟨⟨w_1651, w_1654, w_111, ⟨by decide, by decide, by decide +kernel⟩⟩, w_1652, w_1653, by decide, rfl⟩
theorem mk_L_42 : LVm RL 42 10 yX10_by cX10_by 2 (some .boolean) 1 := ⟨⟨w_823, w_826, w_100, ⟨by decide, by decide, by decide +kernel⟩⟩, w_824, w_825, by decide, rfl⟩
theorem mk_L_46 : LVm RL 46 11 yX11_by cX11_by 2 (some .boolean) 1 := ⟨⟨w_1655, w_1658, w_111, ⟨by decide, by decide, by decide +kernel⟩⟩, w_1656, w_1657, by decide, rfl⟩
theorem mk_L_47 : LVm RL 47 10 yX10_ring cX10_ring 2 (some .boolean) 1 := ⟨⟨w_827, w_830, w_100, ⟨by decide, by decide, by decide +kernel⟩⟩, w_828, w_829, by decide, rfl⟩
theorem mk_L_50 : LVm RL 50 11 yX11_ring cX11_ring 2 (some .boolean) 1 := ⟨⟨w_1663, w_1666, w_111, ⟨by decide, by decide, by decide +kernel⟩⟩, w_1664, w_1665, by decide, rfl⟩
theorem mk_L_51 : LVm RL 51 10 yX10_due cX10_due 3 (some .boolean) 2 := ⟨⟨w_854, w_857, w_100, ⟨by decide, by decide, by decide +kernel⟩⟩, w_855, w_856, by decide, rfl⟩
theorem mk_L_55 : LVm RL 55 11 yX11_due cX11_due 3 (some .boolean) 2 := ⟨⟨w_1679, w_1682, w_111, ⟨by decide, by decide, by decide +kernel⟩⟩, w_1680, w_1681, by decide, rfl⟩
theorem mk_L_56 : LVm RL 56 10 yX10_bed cX10_bed 2 (some .boolean) 1 := ⟨⟨w_866, w_869, w_100, ⟨by decide, by decide, by decide +kernel⟩⟩, w_867, w_868, by decide, rfl⟩
theorem mk_L_59 : LVm RL 59 11 yX11_bed cX11_bed 2 (some .boolean) 1 := ⟨⟨w_1687, w_1690, w_111, ⟨by decide, by decide, by decide +kernel⟩⟩, w_1688, w_1689, by decide, rfl⟩
theorem mk_L_60 : LVm RL 60 10 yX10_up cX10_up 2 (some .boolean) 1 := ⟨⟨w_874, w_877, w_100, ⟨by decide, by decide, by decide +kernel⟩⟩, w_875, w_876, by decide, rfl⟩
theorem mk_L_63 : LVm RL 63 11 yX11_up cX11_up 2 (some .boolean) 1 := ⟨⟨w_1695, w_1698, w_111, ⟨by decide, by decide, by decide +kernel⟩⟩, w_1696, w_1697, by decide, rfl⟩
theorem mk_L_64 : LVm RL 64 10 yX10_day cX10_day 2 (some .int) 1 := ⟨⟨w_882, w_885, w_100, ⟨by decide, by decide, by decide +kernel⟩⟩, w_883, w_884, by decide, rfl⟩
theorem mk_L_67 : LVm RL 67 11 yX11_day cX11_day 2 (some .int) 1 := ⟨⟨w_1699, w_1702, w_111, ⟨by decide, by decide, by decide +kernel⟩⟩, w_1700, w_1701, by decide, rfl⟩
theorem mk_L_68 : LVm RL 68 10 yX10_played cX10_played 4 (some .int) 1 := ⟨⟨w_970, w_973, w_100, ⟨by decide, by decide, by decide +kernel⟩⟩, w_971, w_972, by decide, rfl⟩
theorem mk_L_71 : LVm RL 71 11 yX11_played cX11_played 3 (some .int) 1 := ⟨⟨w_1774, w_1777, w_111, ⟨by decide, by decide, by decide +kernel⟩⟩, w_1775, w_1776, by decide, rfl⟩
theorem mk_L_72 : LVm RL 72 10 yX10_years cX10_years 3 (some .int) 2 := ⟨⟨w_990, w_993, w_100, ⟨by decide, by decide, by decide +kernel⟩⟩, w_991, w_992, by decide, rfl⟩
theorem mk_L_76 : LVm RL 76 11 yX11_years cX11_years 5 (some .int) 2 := ⟨⟨w_1787, w_1790, w_111, ⟨by decide, by decide, by decide +kernel⟩⟩, w_1788, w_1789, by decide, rfl⟩
theorem mk_L_77 : LVm RL 77 10 yX10_undo cX10_undo 1 (some .int) 0 := ⟨⟨w_1002, w_1005, w_100, ⟨by decide, by decide, by decide +kernel⟩⟩, w_1003, w_1004, by decide, rfl⟩
theorem mk_L_80 : LVm RL 80 11 yX11_undo cX11_undo 4 (some .int) 0 := ⟨⟨w_1659, w_1662, w_111, ⟨by decide, by decide, by decide +kernel⟩⟩, w_1660, w_1661, by decide, rfl⟩
theorem mk_L_81 : LVm RL 81 10 yX10_of cX10_of 3 (some .int) 2 := ⟨⟨w_1010, w_1013, w_100, ⟨by decide, by decide, by decide +kernel⟩⟩, w_1011, w_1012, by decide, rfl⟩
theorem mk_L_84 : LVm RL 84 11 yX11_of cX11_of 3 (some .int) 2 := ⟨⟨w_1795, w_1798, w_111, ⟨by decide, by decide, by decide +kernel⟩⟩, w_1796, w_1797, by decide, rfl⟩
theorem mk_L_85 : LVm RL 85 10 yX10_is cX10_is 2 (some .int) 1 := ⟨⟨w_1033, w_1036, w_100, ⟨by decide, by decide, by decide +kernel⟩⟩, w_1034, w_1035, by decide, rfl⟩
theorem mk_L_88 : LVm RL 88 11 yX11_is cX11_is 2 (some .int) 1 := ⟨⟨w_1807, w_1810, w_111, ⟨by decide, by decide, by decide +kernel⟩⟩, w_1808, w_1809, by decide, rfl⟩
theorem mk_L_89 : LVm RL 89 10 yX10_book cX10_book 3 (some .int) 2 := ⟨⟨w_1037, w_1040, w_100, ⟨by decide, by decide, by decide +kernel⟩⟩, w_1038, w_1039, by decide, rfl⟩
theorem mk_L_9 : LIm RL 9 yX10_init cX10_init 2 0 := ⟨⟨w_122, w_124, w_100, ⟨by decide, by decide, by decide +kernel⟩⟩, w_123, rfl⟩
theorem mk_L_92 : LVm RL 92 11 yX11_book cX11_book 5 (some .int) 2 := ⟨⟨w_1811, w_1814, w_111, ⟨by decide, by decide, by decide +kernel⟩⟩, w_1812, w_1813, by decide, rfl⟩
theorem mk_L_93 : LVm RL 93 10 yX10_foretold cX10_foretold 3 (some .int) 2 := ⟨⟨w_1046, w_1049, w_100, ⟨by decide, by decide, by decide +kernel⟩⟩, w_1047, w_1048, by decide, rfl⟩
theorem mk_L_96 : LVm RL 96 11 yX11_foretold cX11_foretold 5 (some .int) 2 := ⟨⟨w_1832, w_1835, w_111, ⟨by decide, by decide, by decide +kernel⟩⟩, w_1833, w_1834, by decide, rfl⟩
theorem mk_L_97 : LVm RL 97 10 yX10_late cX10_late 2 (some .int) 1 := ⟨⟨w_1055, w_1058, w_100, ⟨by decide, by decide, by decide +kernel⟩⟩, w_1056, w_1057, by decide, rfl⟩
theorem nk_L_10 : LN RL 10 11 31 := ⟨_, _, _, kc11, w_1364, w_1365, w_111⟩
theorem nk_L_7 : LN RL 7 10 12 := ⟨_, _, _, kc10, w_120, w_121, w_100⟩
