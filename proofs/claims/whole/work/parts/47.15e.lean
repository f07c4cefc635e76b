set_option maxRecDepth 20000 in
theorem gL_law_X12_rules : GoodIn wsL_law (wsV RL 102 RX12 yX12_rules wsX12_rules) := goodIn_app (goodIn_of _ (by decide +kernel)) ggL_law_X12_rules
set_option maxRecDepth 20000 in
theorem ggL_law_X11_fault : GoodIn wsL_law wsX11_fault := goodIn_r _ [993, 27, 994, 1083, 1084, 1085, 1086, 1087, 1088, 1089, 1090, 1091, 1092, 1093, 1094, 1169, 1170, 1171, 1172, 1173, 1174] (by decide +kernel) (by decide +kernel)
set_option maxRecDepth 20000 in
theorem gL_law_X11_fault : GoodIn wsL_law (wsV RL 103 RX11 yX11_fault wsX11_fault) := goodIn_app (goodIn_of _ (by decide +kernel)) ggL_law_X11_fault
