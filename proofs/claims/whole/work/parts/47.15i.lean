set_option maxRecDepth 20000 in
theorem gL_law_X12_given : GoodIn wsL_law (wsV RL 115 RX12 yX12_given wsX12_given) := goodIn_app (goodIn_of _ (by decide +kernel)) ggL_law_X12_given
set_option maxRecDepth 20000 in
theorem ggL_law_X11_led : GoodIn wsL_law wsX11_led := goodIn_r _ [1043, 1024, 1044, 381, 382, 383, 2, 384, 22, 385, 329, 198, 199, 20, 200, 201, 156, 157, 158, 354, 295, 296, 297, 298, 299, 300, 301, 302, 303, 304, 305, 306, 307, 308, 309, 51, 1204, 1205, 1206, 1207, 1083, 1084, 1085, 1086, 1087, 1088, 1089, 1090, 1091, 1092, 1093, 1094, 1166, 1167, 1168] (by decide +kernel) (by decide +kernel)
set_option maxRecDepth 20000 in
theorem gL_law_X11_led : GoodIn wsL_law (wsV RL 116 RX11 yX11_led wsX11_led) := goodIn_app (goodIn_of _ (by decide +kernel)) ggL_law_X11_led
