set_option maxRecDepth 20000 in
theorem ggR_3 : GoodIn wsL_law wsX12_rules_r3 := goodIn_r _ [981, 982, 983, 984, 985, 986, 987, 988, 989, 180, 181, 182, 183, 184] (by decide +kernel) (by decide +kernel)
set_option maxRecDepth 20000 in
theorem ggR_4 : GoodIn wsL_law wsX120 := goodIn_r _ [1095, 1096, 1097, 1098, 1099, 1100, 1101, 1102, 1103, 1104, 1105, 1106, 1107, 1108, 1109, 1110, 1111, 1112, 1113, 1114, 1115, 1116, 1117, 1118, 1119, 1120, 1121, 1122, 1123, 1124, 1125, 1126, 1127, 1128, 1129, 1130, 1131, 1132, 1133, 1134, 1135, 1136, 1137, 1138, 1139, 1140, 1141, 1142, 1143, 1144, 1145, 1146, 1147, 1148, 1149, 1150, 1151, 1152, 1153, 1154, 1155, 1156, 1157, 1158, 1159, 1160, 1161, 1162, 1163] (by decide +kernel) (by decide +kernel)
theorem ggL_law_X12_rules : GoodIn wsL_law wsX12_rules := goodIn_app (a := [.code yX12_rules cX12_rules 2 (some .int)]) ggR_0 (goodIn_app (goodIn_app ggR_1 (goodIn_app ggR_2 ggR_3)) ggR_4)
