set_option maxRecDepth 20000 in
theorem ggL_law_X11_end : GoodIn wsL_law wsX11_end := goodIn_r _ [820, 27, 803, 156, 157, 2, 158, 1083, 1084, 1085, 1086, 1087, 1088, 1089, 1090, 1091, 1092, 1093, 1094, 1169, 1170, 1171, 1172, 1173, 1174] (by decide +kernel) (by decide +kernel)
set_option maxRecDepth 20000 in
theorem gL_law_X11_end : GoodIn wsL_law (wsV RL 95 RX11 yX11_end wsX11_end) := goodIn_app (goodIn_of _ (by decide +kernel)) ggL_law_X11_end
set_option maxRecDepth 20000 in
theorem ggL_law_X12_end : GoodIn wsL_law wsX12_end := goodIn_r _ [824, 171, 812, 1095, 1096, 1097, 1098, 1099, 1100, 1101, 1102, 1103, 1104, 1105, 1106, 1107, 1108, 1109, 1110, 1111, 1112, 1113, 1114, 1115, 1116, 1117, 1118, 1119, 1120, 1121, 1122, 1123, 1124, 1125, 1126, 1127, 1128, 1129, 1130, 1131, 1132, 1133, 1134, 1135, 1136, 1137, 1138, 1139, 1140, 1141, 1142, 1143, 1144, 1145, 1146, 1147, 1148, 1149, 1150, 1151, 1152, 1153, 1154, 1155, 1156, 1157, 1158, 1159, 1160, 1161, 1162, 1163] (by decide +kernel) (by decide +kernel)
set_option maxRecDepth 20000 in
theorem gL_law_X12_end : GoodIn wsL_law (wsV RL 98 RX12 yX12_end wsX12_end) := goodIn_app (goodIn_of _ (by decide +kernel)) ggL_law_X12_end
set_option maxRecDepth 20000 in
theorem ggL_law_X11_rules : GoodIn wsL_law wsX11_rules := goodIn_r _ [828, 27, 35, 477, 829, 830, 831, 26, 832, 69, 833, 71, 834, 835, 836, 837, 70, 72, 838, 270, 244, 271, 839, 840, 841, 842, 67, 843, 844, 845, 846, 847, 848, 849, 850, 851, 852, 853, 854, 855, 856, 857, 858, 859, 860, 861, 862, 863, 864, 865, 866, 867, 868, 869, 870, 871, 872, 873, 874, 875, 876, 877, 878, 879, 880, 881, 882, 883, 884, 885, 886, 303, 304, 305, 887, 888, 889, 890, 891, 892, 893, 894, 895, 896, 897, 898, 899, 900, 901, 902, 903, 904, 905, 906, 907, 908, 909, 910, 911, 912, 913, 914, 915, 34, 916, 917, 918, 919, 920, 81, 77, 78, 79, 80, 921, 922, 923, 924, 925, 926, 927, 928, 929, 930, 931, 932, 933, 934, 935, 936, 937, 938, 939, 940, 73, 159, 160, 161, 2, 162, 39, 941, 942, 943, 944, 163, 164, 165, 166, 1083, 1084, 1085, 1086, 1087, 1088, 1089, 1090, 1091, 1092, 1093, 1094, 1185, 1186, 1187, 1188, 1189, 1169, 1170, 1171, 1172, 1173, 1174] (by decide +kernel) (by decide +kernel)
set_option maxRecDepth 20000 in
theorem gL_law_X11_rules : GoodIn wsL_law (wsV RL 99 RX11 yX11_rules wsX11_rules) := goodIn_app (goodIn_of _ (by decide +kernel)) ggL_law_X11_rules
set_option maxRecDepth 20000 in
theorem ggL_law_X12_rules : GoodIn wsL_law wsX12_rules := goodIn_r _ [948, 171, 949, 950, 145, 951, 952, 953, 954, 812, 447, 119, 123, 120, 121, 122, 955, 956, 957, 5, 958, 959, 144, 960, 961, 962, 280, 580, 963, 964, 965, 966, 967, 968, 969, 970, 971, 972, 973, 176, 974, 367, 282, 975, 976, 977, 978, 979, 980, 981, 982, 983, 984, 985, 986, 987, 988, 989, 180, 181, 182, 183, 184, 1095, 1096, 1097, 1098, 1099, 1100, 1101, 1102, 1103, 1104, 1105, 1106, 1107, 1108, 1109, 1110, 1111, 1112, 1113, 1114, 1115, 1116, 1117, 1118, 1119, 1120, 1121, 1122, 1123, 1124, 1125, 1126, 1127, 1128, 1129, 1130, 1131, 1132, 1133, 1134, 1135, 1136, 1137, 1138, 1139, 1140, 1141, 1142, 1143, 1144, 1145, 1146, 1147, 1148, 1149, 1150, 1151, 1152, 1153, 1154, 1155, 1156, 1157, 1158, 1159, 1160, 1161, 1162, 1163] (by decide +kernel) (by decide +kernel)
set_option maxRecDepth 20000 in
theorem gL_law_X12_rules : GoodIn wsL_law (wsV RL 102 RX12 yX12_rules wsX12_rules) := goodIn_app (goodIn_of _ (by decide +kernel)) ggL_law_X12_rules
set_option maxRecDepth 20000 in
theorem ggL_law_X11_fault : GoodIn wsL_law wsX11_fault := goodIn_r _ [993, 27, 994, 1083, 1084, 1085, 1086, 1087, 1088, 1089, 1090, 1091, 1092, 1093, 1094, 1169, 1170, 1171, 1172, 1173, 1174] (by decide +kernel) (by decide +kernel)
set_option maxRecDepth 20000 in
theorem gL_law_X11_fault : GoodIn wsL_law (wsV RL 103 RX11 yX11_fault wsX11_fault) := goodIn_app (goodIn_of _ (by decide +kernel)) ggL_law_X11_fault
set_option maxRecDepth 20000 in
theorem ggL_law_X12_fault : GoodIn wsL_law wsX12_fault := goodIn_r _ [998, 171, 145, 1095, 1096, 1097, 1098, 1099, 1100, 1101, 1102, 1103, 1104, 1105, 1106, 1107, 1108, 1109, 1110, 1111, 1112, 1113, 1114, 1115, 1116, 1117, 1118, 1119, 1120, 1121, 1122, 1123, 1124, 1125, 1126, 1127, 1128, 1129, 1130, 1131, 1132, 1133, 1134, 1135, 1136, 1137, 1138, 1139, 1140, 1141, 1142, 1143, 1144, 1145, 1146, 1147, 1148, 1149, 1150, 1151, 1152, 1153, 1154, 1155, 1156, 1157, 1158, 1159, 1160, 1161, 1162, 1163] (by decide +kernel) (by decide +kernel)
set_option maxRecDepth 20000 in
theorem gL_law_X12_fault : GoodIn wsL_law (wsV RL 106 RX12 yX12_fault wsX12_fault) := goodIn_app (goodIn_of _ (by decide +kernel)) ggL_law_X12_fault
set_option maxRecDepth 20000 in
theorem ggL_law_X11_weigh : GoodIn wsL_law wsX11_weigh := goodIn_r _ [1002, 189, 1003, 17, 38, 1004, 1005, 1006, 1007, 156, 157, 2, 158, 159, 160, 161, 162, 39, 289, 290, 291, 16, 292, 44, 293, 197, 198, 199, 20, 200, 201, 294, 295, 296, 297, 298, 299, 300, 301, 302, 303, 304, 305, 306, 307, 308, 309, 51, 1008, 1009, 1010, 1011, 10, 11, 1012, 1013, 1014, 163, 164, 165, 166, 1083, 1084, 1085, 1086, 1087, 1088, 1089, 1090, 1091, 1092, 1093, 1094, 1219, 1220, 1221, 1190, 1191, 1192, 1193, 1194, 1195, 1196, 1197, 1198, 1199, 1200, 1164, 1165, 1166, 1167, 1168] (by decide +kernel) (by decide +kernel)
set_option maxRecDepth 20000 in
theorem gL_law_X11_weigh : GoodIn wsL_law (wsV RL 107 RX11 yX11_weigh wsX11_weigh) := goodIn_app (goodIn_of _ (by decide +kernel)) ggL_law_X11_weigh
set_option maxRecDepth 20000 in
theorem ggL_law_X12_weigh : GoodIn wsL_law wsX12_weigh := goodIn_r _ [1018, 171, 280, 974, 1019, 146, 147, 148, 177, 178, 5, 179, 180, 181, 182, 183, 184, 318, 319, 320, 321, 284, 1095, 1096, 1097, 1098, 1099, 1100, 1101, 1102, 1103, 1104, 1105, 1106, 1107, 1108, 1109, 1110, 1111, 1112, 1113, 1114, 1115, 1116, 1117, 1118, 1119, 1120, 1121, 1122, 1123, 1124, 1125, 1126, 1127, 1128, 1129, 1130, 1131, 1132, 1133, 1134, 1135, 1136, 1137, 1138, 1139, 1140, 1141, 1142, 1143, 1144, 1145, 1146, 1147, 1148, 1149, 1150, 1151, 1152, 1153, 1154, 1155, 1156, 1157, 1158, 1159, 1160, 1161, 1162, 1163] (by decide +kernel) (by decide +kernel)
set_option maxRecDepth 20000 in
theorem gL_law_X12_weigh : GoodIn wsL_law (wsV RL 110 RX12 yX12_weigh wsX12_weigh) := goodIn_app (goodIn_of _ (by decide +kernel)) ggL_law_X12_weigh
