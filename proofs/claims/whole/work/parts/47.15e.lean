set_option maxRecDepth 20000 in
theorem ggL_law_X11_given : GoodIn wsL_law wsX11_given := goodIn_r _ [1023, 1003, 1024, 17, 156, 157, 2, 158, 1025, 1026, 1027, 16, 1028, 44, 293, 499, 197, 198, 199, 20, 200, 201, 294, 295, 296, 297, 298, 299, 300, 301, 302, 303, 304, 305, 306, 307, 308, 309, 51, 1029, 1030, 1031, 192, 1032, 210, 1033, 1034, 1035, 213, 1083, 1084, 1085, 1086, 1087, 1088, 1089, 1090, 1091, 1092, 1093, 1094, 1164, 1165, 1190, 1191, 1192, 1193, 1194, 1195, 1196, 1197, 1198, 1199, 1200, 1166, 1167, 1168, 1219, 1220, 1221] (by decide +kernel) (by decide +kernel)
set_option maxRecDepth 20000 in
theorem gL_law_X11_given : GoodIn wsL_law (wsV RL 111 RX11 yX11_given wsX11_given) := goodIn_app (goodIn_of _ (by decide +kernel)) ggL_law_X11_given
set_option maxRecDepth 20000 in
theorem ggL_law_X12_given : GoodIn wsL_law wsX12_given := goodIn_r _ [1039, 171, 283, 974, 962, 284, 102, 1019, 146, 148, 147, 104, 177, 178, 5, 179, 1095, 1096, 1097, 1098, 1099, 1100, 1101, 1102, 1103, 1104, 1105, 1106, 1107, 1108, 1109, 1110, 1111, 1112, 1113, 1114, 1115, 1116, 1117, 1118, 1119, 1120, 1121, 1122, 1123, 1124, 1125, 1126, 1127, 1128, 1129, 1130, 1131, 1132, 1133, 1134, 1135, 1136, 1137, 1138, 1139, 1140, 1141, 1142, 1143, 1144, 1145, 1146, 1147, 1148, 1149, 1150, 1151, 1152, 1153, 1154, 1155, 1156, 1157, 1158, 1159, 1160, 1161, 1162, 1163] (by decide +kernel) (by decide +kernel)
set_option maxRecDepth 20000 in
theorem gL_law_X12_given : GoodIn wsL_law (wsV RL 115 RX12 yX12_given wsX12_given) := goodIn_app (goodIn_of _ (by decide +kernel)) ggL_law_X12_given
