set_option maxRecDepth 20000 in
theorem gL_law_X11_weigh : GoodIn wsL_law (wsV RL 107 RX11 yX11_weigh wsX11_weigh) := goodIn_app (goodIn_of _ (by decide +kernel)) ggL_law_X11_weigh
set_option maxRecDepth 20000 in
theorem ggL_law_X12_weigh : GoodIn wsL_law wsX12_weigh := goodIn_r _ [1018, 171, 280, 974, 1019, 146, 147, 148, 177, 178, 5, 179, 180, 181, 182, 183, 184, 318, 319, 320, 321, 284, 1095, 1096, 1097, 1098, 1099, 1100, 1101, 1102, 1103, 1104, 1105, 1106, 1107, 1108, 1109, 1110, 1111, 1112, 1113, 1114, 1115, 1116, 1117, 1118, 1119, 1120, 1121, 1122, 1123, 1124, 1125, 1126, 1127, 1128, 1129, 1130, 1131, 1132, 1133, 1134, 1135, 1136, 1137, 1138, 1139, 1140, 1141, 1142, 1143, 1144, 1145, 1146, 1147, 1148, 1149, 1150, 1151, 1152, 1153, 1154, 1155, 1156, 1157, 1158, 1159, 1160, 1161, 1162, 1163] (by decide +kernel) (by decide +kernel)
set_option maxRecDepth 20000 in
theorem gL_law_X12_weigh : GoodIn wsL_law (wsV RL 110 RX12 yX12_weigh wsX12_weigh) := goodIn_app (goodIn_of _ (by decide +kernel)) ggL_law_X12_weigh
