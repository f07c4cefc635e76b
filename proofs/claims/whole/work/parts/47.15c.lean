theorem ggR_0 : GoodIn wsL_law [.code yX12_rules cX12_rules 2 (some .int)] := goodIn_r _ [948] (by decide +kernel) (by decide +kernel)
set_option maxRecDepth 20000 in
theorem ggR_1 : GoodIn wsL_law wsX12_rules_r1 := goodIn_r _ [171, 949, 950, 145, 951, 952, 953, 954, 812, 447, 119, 123, 120, 121, 122, 955, 956, 957, 5, 958, 959, 144, 960, 961] (by decide +kernel) (by decide +kernel)
set_option maxRecDepth 20000 in
theorem ggR_2 : GoodIn wsL_law wsX12_rules_r2 := goodIn_r _ [962, 280, 580, 963, 964, 965, 966, 967, 968, 969, 970, 971, 972, 973, 176, 974, 367, 282, 975, 976, 977, 978, 979, 980] (by decide +kernel) (by decide +kernel)
