set_option maxRecDepth 20000 in
theorem ggL_law_X11_want : GoodIn wsL_law wsX11_want := goodIn_r _ [600, 189, 601, 153, 154, 2, 155, 156, 157, 158, 159, 160, 161, 162, 39, 349, 350, 351, 352, 21, 353, 329, 198, 199, 20, 200, 201, 354, 295, 296, 297, 298, 299, 300, 301, 302, 303, 304, 305, 306, 307, 308, 309, 51, 163, 164, 165, 166, 1201, 1202, 1203, 1083, 1084, 1085, 1086, 1087, 1088, 1089, 1090, 1091, 1092, 1093, 1094, 1166, 1167, 1168] (by decide +kernel) (by decide +kernel)
set_option maxRecDepth 20000 in
theorem gL_law_X11_want : GoodIn wsL_law (wsV RL 62 RX11 yX11_want wsX11_want) := goodIn_app (goodIn_of _ (by decide +kernel)) ggL_law_X11_want
set_option maxRecDepth 20000 in
theorem ggL_law_X12_want : GoodIn wsL_law wsX12_want := goodIn_r _ [605, 171, 280, 109, 173, 174, 5, 175, 176, 177, 178, 179, 180, 181, 182, 183, 184, 369, 370, 371, 372, 341, 1095, 1096, 1097, 1098, 1099, 1100, 1101, 1102, 1103, 1104, 1105, 1106, 1107, 1108, 1109, 1110, 1111, 1112, 1113, 1114, 1115, 1116, 1117, 1118, 1119, 1120, 1121, 1122, 1123, 1124, 1125, 1126, 1127, 1128, 1129, 1130, 1131, 1132, 1133, 1134, 1135, 1136, 1137, 1138, 1139, 1140, 1141, 1142, 1143, 1144, 1145, 1146, 1147, 1148, 1149, 1150, 1151, 1152, 1153, 1154, 1155, 1156, 1157, 1158, 1159, 1160, 1161, 1162, 1163] (by decide +kernel) (by decide +kernel)
set_option maxRecDepth 20000 in
theorem gL_law_X12_want : GoodIn wsL_law (wsV RL 65 RX12 yX12_want wsX12_want) := goodIn_app (goodIn_of _ (by decide +kernel)) ggL_law_X12_want
set_option maxRecDepth 20000 in
theorem ggL_law_X11_part : GoodIn wsL_law wsX11_part := goodIn_r _ [609, 17, 153, 154, 2, 155, 156, 157, 158, 159, 160, 161, 162, 39, 484, 485, 486, 487, 36, 35, 488, 489, 490, 34, 491, 81, 79, 492, 243, 244, 245, 435, 436, 437, 438, 77, 78, 610, 611, 612, 16, 613, 591, 223, 500, 501, 502, 503, 46, 504, 505, 506, 192, 507, 216, 214, 614, 615, 616, 617, 618, 619, 620, 621, 622, 21, 353, 601, 623, 270, 271, 329, 198, 199, 20, 200, 201, 354, 295, 296, 297, 298, 299, 300, 301, 302, 303, 304, 305, 306, 307, 308, 309, 51, 624, 625, 626, 627, 628, 629, 630, 631, 632, 633, 508, 509, 510, 511, 512, 163, 164, 165, 166, 1083, 1084, 1085, 1086, 1087, 1088, 1089, 1090, 1091, 1092, 1093, 1094, 1185, 1186, 1187, 1188, 1189, 1190, 1191, 1192, 1193, 1194, 1195, 1196, 1197, 1198, 1199, 1200, 1164, 1165, 1201, 1202, 1203, 1166, 1167, 1168] (by decide +kernel) (by decide +kernel)
set_option maxRecDepth 20000 in
theorem gL_law_X11_part : GoodIn wsL_law (wsV RL 66 RX11 yX11_part wsX11_part) := goodIn_app (goodIn_of _ (by decide +kernel)) ggL_law_X11_part
set_option maxRecDepth 20000 in
theorem ggL_law_X12_part : GoodIn wsL_law wsX12_part := goodIn_r _ [637, 171, 281, 284, 101, 103, 105, 280, 638, 341, 109, 130, 173, 174, 5, 175, 176, 177, 178, 179, 180, 181, 182, 183, 184, 558, 559, 560, 561, 447, 119, 120, 121, 639, 640, 641, 642, 643, 644, 645, 646, 107, 111, 554, 555, 556, 557, 1095, 1096, 1097, 1098, 1099, 1100, 1101, 1102, 1103, 1104, 1105, 1106, 1107, 1108, 1109, 1110, 1111, 1112, 1113, 1114, 1115, 1116, 1117, 1118, 1119, 1120, 1121, 1122, 1123, 1124, 1125, 1126, 1127, 1128, 1129, 1130, 1131, 1132, 1133, 1134, 1135, 1136, 1137, 1138, 1139, 1140, 1141, 1142, 1143, 1144, 1145, 1146, 1147, 1148, 1149, 1150, 1151, 1152, 1153, 1154, 1155, 1156, 1157, 1158, 1159, 1160, 1161, 1162, 1163] (by decide +kernel) (by decide +kernel)
set_option maxRecDepth 20000 in
theorem gL_law_X12_part : GoodIn wsL_law (wsV RL 69 RX12 yX12_part wsX12_part) := goodIn_app (goodIn_of _ (by decide +kernel)) ggL_law_X12_part
set_option maxRecDepth 20000 in
theorem ggL_law_X11_got : GoodIn wsL_law wsX11_got := goodIn_r _ [650, 628, 349, 350, 351, 2, 352, 21, 353, 329, 198, 199, 20, 200, 201, 156, 157, 158, 354, 295, 296, 297, 298, 299, 300, 301, 302, 303, 304, 305, 306, 307, 308, 309, 51, 153, 154, 155, 1201, 1202, 1203, 1083, 1084, 1085, 1086, 1087, 1088, 1089, 1090, 1091, 1092, 1093, 1094, 1166, 1167, 1168] (by decide +kernel) (by decide +kernel)
set_option maxRecDepth 20000 in
theorem gL_law_X11_got : GoodIn wsL_law (wsV RL 70 RX11 yX11_got wsX11_got) := goodIn_app (goodIn_of _ (by decide +kernel)) ggL_law_X11_got
set_option maxRecDepth 20000 in
theorem ggL_law_X12_got : GoodIn wsL_law wsX12_got := goodIn_r _ [654, 171, 111, 369, 370, 371, 5, 372, 341, 177, 178, 179, 173, 174, 175, 176, 1095, 1096, 1097, 1098, 1099, 1100, 1101, 1102, 1103, 1104, 1105, 1106, 1107, 1108, 1109, 1110, 1111, 1112, 1113, 1114, 1115, 1116, 1117, 1118, 1119, 1120, 1121, 1122, 1123, 1124, 1125, 1126, 1127, 1128, 1129, 1130, 1131, 1132, 1133, 1134, 1135, 1136, 1137, 1138, 1139, 1140, 1141, 1142, 1143, 1144, 1145, 1146, 1147, 1148, 1149, 1150, 1151, 1152, 1153, 1154, 1155, 1156, 1157, 1158, 1159, 1160, 1161, 1162, 1163] (by decide +kernel) (by decide +kernel)
set_option maxRecDepth 20000 in
theorem gL_law_X12_got : GoodIn wsL_law (wsV RL 73 RX12 yX12_got wsX12_got) := goodIn_app (goodIn_of _ (by decide +kernel)) ggL_law_X12_got
set_option maxRecDepth 20000 in
theorem ggL_law_X11_road : GoodIn wsL_law wsX11_road := goodIn_r _ [658, 31, 659, 156, 157, 2, 158, 159, 160, 161, 162, 39, 163, 164, 165, 166, 1083, 1084, 1085, 1086, 1087, 1088, 1089, 1090, 1091, 1092, 1093, 1094, 1175, 1176, 1177, 1178, 1179, 1180, 1181, 1182, 1183, 1184] (by decide +kernel) (by decide +kernel)
set_option maxRecDepth 20000 in
theorem gL_law_X11_road : GoodIn wsL_law (wsV RL 74 RX11 yX11_road wsX11_road) := goodIn_app (goodIn_of _ (by decide +kernel)) ggL_law_X11_road
set_option maxRecDepth 20000 in
theorem ggL_law_X12_road : GoodIn wsL_law wsX12_road := goodIn_r _ [663, 171, 367, 664, 131, 177, 178, 5, 179, 180, 181, 182, 183, 184, 1095, 1096, 1097, 1098, 1099, 1100, 1101, 1102, 1103, 1104, 1105, 1106, 1107, 1108, 1109, 1110, 1111, 1112, 1113, 1114, 1115, 1116, 1117, 1118, 1119, 1120, 1121, 1122, 1123, 1124, 1125, 1126, 1127, 1128, 1129, 1130, 1131, 1132, 1133, 1134, 1135, 1136, 1137, 1138, 1139, 1140, 1141, 1142, 1143, 1144, 1145, 1146, 1147, 1148, 1149, 1150, 1151, 1152, 1153, 1154, 1155, 1156, 1157, 1158, 1159, 1160, 1161, 1162, 1163] (by decide +kernel) (by decide +kernel)
set_option maxRecDepth 20000 in
theorem gL_law_X12_road : GoodIn wsL_law (wsV RL 77 RX12 yX12_road wsX12_road) := goodIn_app (goodIn_of _ (by decide +kernel)) ggL_law_X12_road
