set_option maxRecDepth 20000 in
theorem ggX0_parcelsLeftOn_X4_holds : GoodIn wsX0_parcelsLeftOn wsX4_holds := goodIn_r _ [8, 9, 10, 11, 12, 13, 18, 19, 20, 21] (by decide +kernel) (by decide +kernel)
set_option maxRecDepth 20000 in
theorem gX0_parcelsLeftOn_X4_holds : GoodIn wsX0_parcelsLeftOn (wsV RX0 26 RX4 yX4_holds wsX4_holds) := goodIn_app (goodIn_of _ (by decide +kernel)) ggX0_parcelsLeftOn_X4_holds
set_option maxRecDepth 20000 in
theorem ggX0_referralFor_X4_holds : GoodIn wsX0_referralFor wsX4_holds := goodIn_r _ [9, 10, 11, 12, 13, 14, 19, 20, 21, 22] (by decide +kernel) (by decide +kernel)
set_option maxRecDepth 20000 in
theorem gX0_referralFor_X4_holds : GoodIn wsX0_referralFor (wsV RX0 26 RX4 yX4_holds wsX4_holds) := goodIn_app (goodIn_of _ (by decide +kernel)) ggX0_referralFor_X4_holds
set_option maxRecDepth 20000 in
theorem ggX0_noteHad_X11_isWithin : GoodIn wsX0_noteHad wsX11_isWithin := goodIn_r _ [4] (by decide +kernel) (by decide +kernel)
set_option maxRecDepth 20000 in
theorem gX0_noteHad_X11_isWithin_n41 : GoodIn wsX0_noteHad (wsX11_isWithin) := ggX0_noteHad_X11_isWithin
set_option maxRecDepth 20000 in
theorem ggX3_init_Jx4a65c_init_da8c8 : GoodIn wsX3_init wsJx4a65c_init_da8c8 := goodIn_r _ [14, 15, 16, 17, 18, 19, 20, 21, 22, 23, 24, 25, 26, 2, 3, 27, 28, 29] (by decide +kernel) (by decide +kernel)
set_option maxRecDepth 20000 in
theorem gX3_init_Jx4a65c_init_da8c8 : GoodIn wsX3_init (wsJx4a65c_init_da8c8) := ggX3_init_Jx4a65c_init_da8c8
set_option maxRecDepth 20000 in
theorem ggX3_addLine_X1_init : GoodIn wsX3_addLine wsX1_init := goodIn_r _ [8, 9, 10, 11, 12, 13, 75, 76] (by decide +kernel) (by decide +kernel)
set_option maxRecDepth 20000 in
theorem gX3_addLine_X1_init : GoodIn wsX3_addLine (wsX1_init) := ggX3_addLine_X1_init
set_option maxRecDepth 20000 in
theorem ggX3_addLine_Jx4a65c_add_9ea2d : GoodIn wsX3_addLine wsJx4a65c_add_9ea2d := goodIn_r _ [18, 19, 20, 21, 22, 23, 24, 25, 17, 26, 27, 28, 29, 30, 31, 32, 33, 34, 35, 36, 37, 38, 39, 40, 41, 42, 43, 44, 45, 46, 47, 48, 49, 50, 51, 52, 53, 54, 55, 56, 57, 58, 59, 60, 61, 62, 63, 64, 65, 66, 67, 68, 69, 77, 78, 79] (by decide +kernel) (by decide +kernel)
set_option maxRecDepth 20000 in
theorem gX3_addLine_Jx4a65c_add_9ea2d : GoodIn wsX3_addLine (wsV RX3 36 RJx4a65c yJx4a65c_add_9ea2d wsJx4a65c_add_9ea2d) := goodIn_app (goodIn_of _ (by decide +kernel)) ggX3_addLine_Jx4a65c_add_9ea2d
set_option maxRecDepth 20000 in
theorem ggX3_tell_Jx4a65c_size_8abf5 : GoodIn wsX3_tell wsJx4a65c_size_8abf5 := goodIn_r _ [13, 14, 42, 43, 44] (by decide +kernel) (by decide +kernel)
set_option maxRecDepth 20000 in
theorem gX3_tell_Jx4a65c_size_8abf5 : GoodIn wsX3_tell (wsV RX3 40 RJx4a65c yJx4a65c_size_8abf5 wsJx4a65c_size_8abf5) := goodIn_app (goodIn_of _ (by decide +kernel)) ggX3_tell_Jx4a65c_size_8abf5
set_option maxRecDepth 20000 in
theorem ggX3_tell_X11_isWithin : GoodIn wsX3_tell wsX11_isWithin := goodIn_r _ [17] (by decide +kernel) (by decide +kernel)
set_option maxRecDepth 20000 in
theorem gX3_tell_X11_isWithin_n44 : GoodIn wsX3_tell (wsX11_isWithin) := ggX3_tell_X11_isWithin
set_option maxRecDepth 20000 in
theorem ggX3_tell_Jx4a65c_get_915e3 : GoodIn wsX3_tell wsJx4a65c_get_915e3 := goodIn_r _ [21, 14, 22, 23, 24, 25, 26, 27, 28, 29, 30, 31, 32, 12, 33, 34, 42, 43, 44] (by decide +kernel) (by decide +kernel)
set_option maxRecDepth 20000 in
theorem gX3_tell_Jx4a65c_get_915e3 : GoodIn wsX3_tell (wsV RX3 48 RJx4a65c yJx4a65c_get_915e3 wsJx4a65c_get_915e3) := goodIn_app (goodIn_of _ (by decide +kernel)) ggX3_tell_Jx4a65c_get_915e3
set_option maxRecDepth 20000 in
theorem ggX4_holds_X11_isWithin : GoodIn wsX4_holds wsX11_isWithin := goodIn_r _ [5] (by decide +kernel) (by decide +kernel)
set_option maxRecDepth 20000 in
theorem gX4_holds_X11_isWithin_n23 : GoodIn wsX4_holds (wsX11_isWithin) := ggX4_holds_X11_isWithin
set_option maxRecDepth 20000 in
theorem ggX5_init_X6_init : GoodIn wsX5_init wsX6_init := goodIn_r _ [15, 16, 2, 3, 17, 18, 19, 20, 21, 22, 29, 30, 31, 32, 33] (by decide +kernel) (by decide +kernel)
set_option maxRecDepth 20000 in
theorem gX5_init_X6_init_n17 : GoodIn wsX5_init (wsX6_init) := ggX5_init_X6_init
set_option maxRecDepth 20000 in
theorem ggX5_readText_X5_nextToken : GoodIn wsX5_readText wsX5_nextToken := goodIn_r _ [8, 3, 9, 10, 11, 12, 13, 14, 15, 16, 17, 7, 18, 19, 20, 21, 22, 123, 124, 125, 126, 127, 128] (by decide +kernel) (by decide +kernel)
set_option maxRecDepth 20000 in
theorem gX5_readText_X5_nextToken : GoodIn wsX5_readText (wsV RX5 38 RX5 yX5_nextToken wsX5_nextToken) := goodIn_app (goodIn_of _ (by decide +kernel)) ggX5_readText_X5_nextToken
set_option maxRecDepth 20000 in
theorem ggX5_readText_X5_isBehindText : GoodIn wsX5_readText wsX5_isBehindText := goodIn_r _ [26, 9, 10, 123, 124, 125, 126, 127, 128] (by decide +kernel) (by decide +kernel)
set_option maxRecDepth 20000 in
theorem gX5_readText_X5_isBehindText : GoodIn wsX5_readText (wsV RX5 41 RX5 yX5_isBehindText wsX5_isBehindText) := goodIn_app (goodIn_of _ (by decide +kernel)) ggX5_readText_X5_isBehindText
set_option maxRecDepth 20000 in
theorem ggX5_readText_X5_readRule : GoodIn wsX5_readText wsX5_readRule := goodIn_r _ [30, 31, 32, 33, 7, 34, 3, 9, 35, 36, 37, 38, 39, 40, 41, 42, 43, 44, 45, 46, 15, 16, 17, 18, 10, 19, 47, 48, 49, 50, 51, 52, 53, 54, 55, 56, 57, 58, 59, 60, 61, 62, 63, 64, 65, 66, 67, 68, 69, 70, 71, 72, 73, 74, 75, 76, 77, 78, 79, 80, 81, 82, 83, 84, 85, 86, 87, 88, 1, 89, 90, 91, 92, 4, 5, 6, 8, 11, 12, 13, 14, 20, 21, 22, 93, 94, 95, 96, 97, 98, 99, 100, 101, 102, 103, 104, 105, 106, 107, 108, 109, 110, 111, 112, 113, 114, 115, 116, 117, 118, 119, 120, 121, 122, 123, 124, 125, 126, 127, 128, 129, 130, 131, 132, 133] (by decide +kernel) (by decide +kernel)
set_option maxRecDepth 20000 in
theorem gX5_readText_X5_readRule : GoodIn wsX5_readText (wsV RX5 45 RX5 yX5_readRule wsX5_readRule) := goodIn_app (goodIn_of _ (by decide +kernel)) ggX5_readText_X5_readRule
set_option maxRecDepth 20000 in
theorem ggX5_readText_X5_isToken : GoodIn wsX5_readText wsX5_isToken := goodIn_r _ [34, 3, 9, 35, 36, 37, 38, 39, 40, 41, 42, 43, 44, 45, 46, 15, 16, 17, 7, 18, 10, 19, 47, 48, 49, 50, 51, 52, 53, 54, 55, 56, 57, 58, 59, 60, 61, 62, 63, 64, 65, 66, 67, 68, 69, 70, 71, 72, 73, 74, 75, 76, 77, 78, 79, 80, 81, 82, 83, 123, 124, 125, 126, 127, 128] (by decide +kernel) (by decide +kernel)
set_option maxRecDepth 20000 in
theorem gX5_readText_X5_isToken : GoodIn wsX5_readText (wsV RX5 50 RX5 yX5_isToken wsX5_isToken) := goodIn_app (goodIn_of _ (by decide +kernel)) ggX5_readText_X5_isToken
set_option maxRecDepth 20000 in
theorem ggX5_readRule_X5_isToken : GoodIn wsX5_readRule wsX5_isToken := goodIn_r _ [5, 6, 7, 8, 9, 10, 11, 12, 13, 14, 15, 16, 17, 18, 19, 20, 21, 22, 4, 23, 24, 25, 26, 27, 28, 29, 30, 31, 32, 33, 34, 35, 36, 37, 38, 39, 40, 41, 42, 43, 44, 45, 46, 47, 48, 49, 50, 51, 52, 53, 54, 55, 56, 57, 58, 59, 60, 61, 62, 114, 115, 116, 117, 118, 119] (by decide +kernel) (by decide +kernel)
set_option maxRecDepth 20000 in
theorem gX5_readRule_X5_isToken : GoodIn wsX5_readRule (wsV RX5 50 RX5 yX5_isToken wsX5_isToken) := goodIn_app (goodIn_of _ (by decide +kernel)) ggX5_readRule_X5_isToken
set_option maxRecDepth 20000 in
theorem ggX5_readRule_X5_readNeed : GoodIn wsX5_readRule wsX5_readNeed := goodIn_r _ [66, 67, 68, 69, 70, 71, 4, 72, 7, 6, 73, 74, 75, 76, 24, 77, 78, 79, 80, 20, 21, 22, 23, 25, 81, 82, 83, 1, 2, 3, 5, 8, 9, 10, 11, 12, 13, 14, 15, 16, 17, 18, 19, 26, 27, 28, 29, 30, 31, 32, 33, 34, 35, 36, 37, 38, 39, 40, 41, 42, 43, 44, 45, 46, 47, 48, 49, 50, 51, 52, 53, 54, 55, 56, 57, 58, 59, 60, 61, 62, 84, 85, 86, 87, 88, 89, 90, 91, 92, 93, 94, 95, 96, 97, 114, 115, 116, 117, 118, 119, 120, 121, 122, 123, 124] (by decide +kernel) (by decide +kernel)
set_option maxRecDepth 20000 in
theorem gX5_readRule_X5_readNeed : GoodIn wsX5_readRule (wsV RX5 56 RX5 yX5_readNeed wsX5_readNeed) := goodIn_app (goodIn_of _ (by decide +kernel)) ggX5_readRule_X5_readNeed
set_option maxRecDepth 20000 in
theorem ggX5_readRule_X5_readSpare : GoodIn wsX5_readRule wsX5_readSpare := goodIn_r _ [101, 68, 69, 70, 71, 4, 72, 7, 6, 73, 74, 75, 76, 24, 77, 78, 79, 80, 20, 21, 22, 23, 25, 81, 82, 83, 102, 103, 104, 87, 105, 89, 90, 91, 92, 93, 94, 95, 96, 97, 114, 115, 116, 117, 118, 119, 120, 121, 122, 123, 124] (by decide +kernel) (by decide +kernel)
set_option maxRecDepth 20000 in
theorem gX5_readRule_X5_readSpare : GoodIn wsX5_readRule (wsV RX5 61 RX5 yX5_readSpare wsX5_readSpare) := goodIn_app (goodIn_of _ (by decide +kernel)) ggX5_readRule_X5_readSpare
set_option maxRecDepth 20000 in
theorem ggX5_readRule_X5_readSwap : GoodIn wsX5_readRule wsX5_readSwap := goodIn_r _ [109, 68, 69, 70, 71, 4, 72, 7, 6, 73, 74, 75, 76, 24, 77, 78, 79, 80, 20, 21, 22, 23, 25, 81, 82, 83, 1, 2, 3, 5, 8, 9, 10, 11, 12, 13, 14, 15, 16, 17, 18, 19, 26, 27, 28, 29, 30, 31, 32, 33, 34, 35, 36, 37, 38, 39, 40, 41, 42, 43, 44, 45, 46, 47, 48, 49, 50, 51, 52, 53, 54, 55, 56, 57, 58, 59, 60, 61, 62, 110, 111, 112, 87, 113, 89, 90, 91, 92, 93, 94, 95, 96, 97, 114, 115, 116, 117, 118, 119, 120, 121, 122, 123, 124] (by decide +kernel) (by decide +kernel)
set_option maxRecDepth 20000 in
theorem gX5_readRule_X5_readSwap : GoodIn wsX5_readRule (wsV RX5 66 RX5 yX5_readSwap wsX5_readSwap) := goodIn_app (goodIn_of _ (by decide +kernel)) ggX5_readRule_X5_readSwap
set_option maxRecDepth 20000 in
theorem ggX5_readNeed_X5_nextNumber : GoodIn wsX5_readNeed wsX5_nextNumber := goodIn_r _ [7, 8, 9, 10, 11, 12, 6, 13, 14, 15, 16, 17, 18, 19, 20, 21, 22, 23, 24, 25, 26, 94, 95, 96, 97, 98, 99] (by decide +kernel) (by decide +kernel)
set_option maxRecDepth 20000 in
theorem gX5_readNeed_X5_nextNumber : GoodIn wsX5_readNeed (wsV RX5 69 RX5 yX5_nextNumber wsX5_nextNumber) := goodIn_app (goodIn_of _ (by decide +kernel)) ggX5_readNeed_X5_nextNumber
set_option maxRecDepth 20000 in
theorem ggX5_readNeed_X5_nextToken : GoodIn wsX5_readNeed wsX5_nextToken := goodIn_r _ [13, 9, 8, 14, 15, 16, 17, 18, 19, 20, 21, 6, 22, 23, 24, 25, 26, 94, 95, 96, 97, 98, 99] (by decide +kernel) (by decide +kernel)
set_option maxRecDepth 20000 in
theorem gX5_readNeed_X5_nextToken : GoodIn wsX5_readNeed (wsV RX5 38 RX5 yX5_nextToken wsX5_nextToken) := goodIn_app (goodIn_of _ (by decide +kernel)) ggX5_readNeed_X5_nextToken
set_option maxRecDepth 20000 in
theorem ggX5_readNeed_X5_isToken : GoodIn wsX5_readNeed wsX5_isToken := goodIn_r _ [30, 9, 8, 31, 32, 33, 34, 35, 36, 37, 38, 39, 40, 41, 42, 19, 20, 21, 6, 22, 14, 23, 43, 44, 45, 46, 47, 48, 49, 50, 51, 52, 53, 54, 55, 56, 57, 58, 59, 60, 61, 62, 63, 64, 65, 66, 67, 68, 69, 70, 71, 72, 73, 74, 75, 76, 77, 78, 79, 94, 95, 96, 97, 98, 99] (by decide +kernel) (by decide +kernel)
set_option maxRecDepth 20000 in
theorem gX5_readNeed_X5_isToken : GoodIn wsX5_readNeed (wsV RX5 50 RX5 yX5_isToken wsX5_isToken) := goodIn_app (goodIn_of _ (by decide +kernel)) ggX5_readNeed_X5_isToken
set_option maxRecDepth 20000 in
theorem ggX5_readNeed_X6_addNeed : GoodIn wsX5_readNeed wsX6_addNeed := goodIn_r _ [84, 85, 86, 87, 83, 88, 89, 90, 91, 92, 93, 100, 101, 102, 103, 104] (by decide +kernel) (by decide +kernel)
set_option maxRecDepth 20000 in
theorem gX5_readNeed_X6_addNeed : GoodIn wsX5_readNeed (wsV RX5 76 RX6 yX6_addNeed wsX6_addNeed) := goodIn_app (goodIn_of _ (by decide +kernel)) ggX5_readNeed_X6_addNeed
set_option maxRecDepth 20000 in
theorem ggX5_readSpare_X5_nextNumber : GoodIn wsX5_readSpare wsX5_nextNumber := goodIn_r _ [6, 7, 8, 9, 10, 11, 5, 12, 13, 14, 15, 16, 17, 18, 19, 20, 21, 22, 23, 24, 25, 40, 41, 42, 43, 44, 45] (by decide +kernel) (by decide +kernel)
set_option maxRecDepth 20000 in
theorem gX5_readSpare_X5_nextNumber : GoodIn wsX5_readSpare (wsV RX5 69 RX5 yX5_nextNumber wsX5_nextNumber) := goodIn_app (goodIn_of _ (by decide +kernel)) ggX5_readSpare_X5_nextNumber
set_option maxRecDepth 20000 in
theorem ggX5_readSpare_X5_nextToken : GoodIn wsX5_readSpare wsX5_nextToken := goodIn_r _ [12, 8, 7, 13, 14, 15, 16, 17, 18, 19, 20, 5, 21, 22, 23, 24, 25, 40, 41, 42, 43, 44, 45] (by decide +kernel) (by decide +kernel)
set_option maxRecDepth 20000 in
theorem gX5_readSpare_X5_nextToken : GoodIn wsX5_readSpare (wsV RX5 38 RX5 yX5_nextToken wsX5_nextToken) := goodIn_app (goodIn_of _ (by decide +kernel)) ggX5_readSpare_X5_nextToken
set_option maxRecDepth 20000 in
theorem ggX5_readSpare_X6_addSpare : GoodIn wsX5_readSpare wsX6_addSpare := goodIn_r _ [30, 31, 32, 33, 29, 34, 35, 36, 37, 38, 39, 46, 47, 48, 49, 50] (by decide +kernel) (by decide +kernel)
set_option maxRecDepth 20000 in
theorem gX5_readSpare_X6_addSpare : GoodIn wsX5_readSpare (wsV RX5 80 RX6 yX6_addSpare wsX6_addSpare) := goodIn_app (goodIn_of _ (by decide +kernel)) ggX5_readSpare_X6_addSpare
set_option maxRecDepth 20000 in
theorem ggX5_readSwap_X5_nextNumber : GoodIn wsX5_readSwap wsX5_nextNumber := goodIn_r _ [6, 7, 8, 9, 10, 11, 5, 12, 13, 14, 15, 16, 17, 18, 19, 20, 21, 22, 23, 24, 25, 93, 94, 95, 96, 97, 98] (by decide +kernel) (by decide +kernel)
set_option maxRecDepth 20000 in
theorem gX5_readSwap_X5_nextNumber : GoodIn wsX5_readSwap (wsV RX5 69 RX5 yX5_nextNumber wsX5_nextNumber) := goodIn_app (goodIn_of _ (by decide +kernel)) ggX5_readSwap_X5_nextNumber
set_option maxRecDepth 20000 in
theorem ggX5_readSwap_X5_nextToken : GoodIn wsX5_readSwap wsX5_nextToken := goodIn_r _ [12, 8, 7, 13, 14, 15, 16, 17, 18, 19, 20, 5, 21, 22, 23, 24, 25, 93, 94, 95, 96, 97, 98] (by decide +kernel) (by decide +kernel)
set_option maxRecDepth 20000 in
theorem gX5_readSwap_X5_nextToken : GoodIn wsX5_readSwap (wsV RX5 38 RX5 yX5_nextToken wsX5_nextToken) := goodIn_app (goodIn_of _ (by decide +kernel)) ggX5_readSwap_X5_nextToken
set_option maxRecDepth 20000 in
theorem ggX5_readSwap_X5_isToken : GoodIn wsX5_readSwap wsX5_isToken := goodIn_r _ [29, 8, 7, 30, 31, 32, 33, 34, 35, 36, 37, 38, 39, 40, 41, 18, 19, 20, 5, 21, 13, 22, 42, 43, 44, 45, 46, 47, 48, 49, 50, 51, 52, 53, 54, 55, 56, 57, 58, 59, 60, 61, 62, 63, 64, 65, 66, 67, 68, 69, 70, 71, 72, 73, 74, 75, 76, 77, 78, 93, 94, 95, 96, 97, 98] (by decide +kernel) (by decide +kernel)
set_option maxRecDepth 20000 in
theorem gX5_readSwap_X5_isToken : GoodIn wsX5_readSwap (wsV RX5 50 RX5 yX5_isToken wsX5_isToken) := goodIn_app (goodIn_of _ (by decide +kernel)) ggX5_readSwap_X5_isToken
set_option maxRecDepth 20000 in
theorem ggX5_readSwap_X6_addSwap : GoodIn wsX5_readSwap wsX6_addSwap := goodIn_r _ [83, 84, 85, 86, 82, 87, 88, 89, 90, 91, 92, 99, 100, 101, 102, 103] (by decide +kernel) (by decide +kernel)
set_option maxRecDepth 20000 in
theorem gX5_readSwap_X6_addSwap : GoodIn wsX5_readSwap (wsV RX5 86 RX6 yX6_addSwap wsX6_addSwap) := goodIn_app (goodIn_of _ (by decide +kernel)) ggX5_readSwap_X6_addSwap
set_option maxRecDepth 20000 in
theorem ggX5_nextToken_X5_byteAt : GoodIn wsX5_nextToken wsX5_byteAt := goodIn_r _ [12, 3, 13, 17, 18, 19, 20, 21, 22] (by decide +kernel) (by decide +kernel)
set_option maxRecDepth 20000 in
theorem gX5_nextToken_X5_byteAt : GoodIn wsX5_nextToken (wsV RX5 89 RX5 yX5_byteAt wsX5_byteAt) := goodIn_app (goodIn_of _ (by decide +kernel)) ggX5_nextToken_X5_byteAt
set_option maxRecDepth 20000 in
theorem ggX5_nextToken_X5_sortOf : GoodIn wsX5_nextToken wsX5_sortOf := goodIn_r _ [16] (by decide +kernel) (by decide +kernel)
set_option maxRecDepth 20000 in
theorem gX5_nextToken_X5_sortOf : GoodIn wsX5_nextToken (va_wsS RX5 92 yX5_sortOf wsX5_sortOf) := goodIn_app (goodIn_of _ (by decide +kernel)) ggX5_nextToken_X5_sortOf
set_option maxRecDepth 20000 in
theorem ggX5_isToken_J0_length_8abf5 : GoodIn wsX5_isToken wsJ0_length_8abf5 := goodIn_r _ [7, 8, 9, 10, 11, 6, 12, 13, 14] (by decide +kernel) (by decide +kernel)
set_option maxRecDepth 20000 in
theorem gX5_isToken_J0_length_8abf5 : GoodIn wsX5_isToken (wsV RX5 101 RJ0 yJ0_length_8abf5 wsJ0_length_8abf5) := goodIn_app (goodIn_of _ (by decide +kernel)) ggX5_isToken_J0_length_8abf5
set_option maxRecDepth 20000 in
theorem ggX5_isToken_X5_byteAt : GoodIn wsX5_isToken wsX5_byteAt := goodIn_r _ [19, 20, 21, 59, 60, 61, 62, 63, 64] (by decide +kernel) (by decide +kernel)
set_option maxRecDepth 20000 in
theorem gX5_isToken_X5_byteAt : GoodIn wsX5_isToken (wsV RX5 89 RX5 yX5_byteAt wsX5_byteAt) := goodIn_app (goodIn_of _ (by decide +kernel)) ggX5_isToken_X5_byteAt
set_option maxRecDepth 20000 in
theorem ggX5_isToken_J0_charAt_5068e : GoodIn wsX5_isToken wsJ0_charAt_5068e := goodIn_r _ [25, 8, 26, 27, 28, 6, 29, 13, 14, 30, 31, 32, 33, 34, 35, 36, 37, 38, 39, 40, 41, 42, 43, 44, 45, 46, 47, 48, 49, 50, 51, 52, 53, 54, 55, 56, 57, 58] (by decide +kernel) (by decide +kernel)
set_option maxRecDepth 20000 in
theorem gX5_isToken_J0_charAt_5068e : GoodIn wsX5_isToken (wsV RX5 106 RJ0 yJ0_charAt_5068e wsJ0_charAt_5068e) := goodIn_app (goodIn_of _ (by decide +kernel)) ggX5_isToken_J0_charAt_5068e
set_option maxRecDepth 20000 in
theorem ggX5_nextNumber_X5_nextToken : GoodIn wsX5_nextNumber wsX5_nextToken := goodIn_r _ [7, 2, 1, 8, 9, 10, 11, 12, 13, 14, 15, 6, 16, 17, 18, 19, 20, 21, 22, 23, 24, 25, 26] (by decide +kernel) (by decide +kernel)
set_option maxRecDepth 20000 in
theorem gX5_nextNumber_X5_nextToken : GoodIn wsX5_nextNumber (wsV RX5 38 RX5 yX5_nextToken wsX5_nextToken) := goodIn_app (goodIn_of _ (by decide +kernel)) ggX5_nextNumber_X5_nextToken
set_option maxRecDepth 20000 in
theorem ggX5_nextNumber_X5_byteAt : GoodIn wsX5_nextNumber wsX5_byteAt := goodIn_r _ [16, 8, 17, 21, 22, 23, 24, 25, 26] (by decide +kernel) (by decide +kernel)
set_option maxRecDepth 20000 in
theorem gX5_nextNumber_X5_byteAt : GoodIn wsX5_nextNumber (wsV RX5 89 RX5 yX5_byteAt wsX5_byteAt) := goodIn_app (goodIn_of _ (by decide +kernel)) ggX5_nextNumber_X5_byteAt
set_option maxRecDepth 20000 in
theorem ggX5_nextNumber_X5_sortOf : GoodIn wsX5_nextNumber wsX5_sortOf := goodIn_r _ [20] (by decide +kernel) (by decide +kernel)
set_option maxRecDepth 20000 in
theorem gX5_nextNumber_X5_sortOf : GoodIn wsX5_nextNumber (va_wsS RX5 92 yX5_sortOf wsX5_sortOf) := goodIn_app (goodIn_of _ (by decide +kernel)) ggX5_nextNumber_X5_sortOf
set_option maxRecDepth 20000 in
theorem ggX6_addNeed_X6_add : GoodIn wsX6_addNeed wsX6_add := goodIn_r _ [5, 6, 7, 8, 9, 10, 11, 12, 13, 14, 15] (by decide +kernel) (by decide +kernel)
set_option maxRecDepth 20000 in
theorem gX6_addNeed_X6_add : GoodIn wsX6_addNeed (wsV RX6 28 RX6 yX6_add wsX6_add) := goodIn_app (goodIn_of _ (by decide +kernel)) ggX6_addNeed_X6_add
set_option maxRecDepth 20000 in
theorem ggX6_addSpare_X6_add : GoodIn wsX6_addSpare wsX6_add := goodIn_r _ [5, 6, 7, 8, 9, 10, 11, 12, 13, 14, 15] (by decide +kernel) (by decide +kernel)
set_option maxRecDepth 20000 in
theorem gX6_addSpare_X6_add : GoodIn wsX6_addSpare (wsV RX6 28 RX6 yX6_add wsX6_add) := goodIn_app (goodIn_of _ (by decide +kernel)) ggX6_addSpare_X6_add
set_option maxRecDepth 20000 in
theorem ggX6_addSwap_X6_add : GoodIn wsX6_addSwap wsX6_add := goodIn_r _ [5, 6, 7, 8, 9, 10, 11, 12, 13, 14, 15] (by decide +kernel) (by decide +kernel)
set_option maxRecDepth 20000 in
theorem gX6_addSwap_X6_add : GoodIn wsX6_addSwap (wsV RX6 28 RX6 yX6_add wsX6_add) := goodIn_app (goodIn_of _ (by decide +kernel)) ggX6_addSwap_X6_add
set_option maxRecDepth 20000 in
theorem ggX6_isRule_X11_isWithin : GoodIn wsX6_isRule wsX11_isWithin := goodIn_r _ [5] (by decide +kernel) (by decide +kernel)
set_option maxRecDepth 20000 in
theorem gX6_isRule_X11_isWithin_n32 : GoodIn wsX6_isRule (wsX11_isWithin) := ggX6_isRule_X11_isWithin
set_option maxRecDepth 20000 in
theorem ggX6_gramsNeeded_X6_isRule : GoodIn wsX6_gramsNeeded wsX6_isRule := goodIn_r _ [8, 9, 10, 11, 12, 13, 14, 15, 16, 17, 18] (by decide +kernel) (by decide +kernel)
set_option maxRecDepth 20000 in
theorem gX6_gramsNeeded_X6_isRule : GoodIn wsX6_gramsNeeded (wsV RX6 36 RX6 yX6_isRule wsX6_isRule) := goodIn_app (goodIn_of _ (by decide +kernel)) ggX6_gramsNeeded_X6_isRule
set_option maxRecDepth 20000 in
theorem ggX6_daysSpared_X6_isRule : GoodIn wsX6_daysSpared wsX6_isRule := goodIn_r _ [11, 12, 13, 14, 15, 16, 17, 18, 19, 20, 21] (by decide +kernel) (by decide +kernel)
set_option maxRecDepth 20000 in
theorem gX6_daysSpared_X6_isRule : GoodIn wsX6_daysSpared (wsV RX6 36 RX6 yX6_isRule wsX6_isRule) := goodIn_app (goodIn_of _ (by decide +kernel)) ggX6_daysSpared_X6_isRule
set_option maxRecDepth 20000 in
theorem ggX6_kindSwapped_X6_isRule : GoodIn wsX6_kindSwapped wsX6_isRule := goodIn_r _ [6, 7, 8, 9, 10, 11, 12, 13, 14, 15, 16] (by decide +kernel) (by decide +kernel)
set_option maxRecDepth 20000 in
theorem gX6_kindSwapped_X6_isRule : GoodIn wsX6_kindSwapped (wsV RX6 36 RX6 yX6_isRule wsX6_isRule) := goodIn_app (goodIn_of _ (by decide +kernel)) ggX6_kindSwapped_X6_isRule
set_option maxRecDepth 20000 in
theorem ggX7_init_Jx4a65c_init_da8c8 : GoodIn wsX7_init wsJx4a65c_init_da8c8 := goodIn_r _ [12, 13, 14, 15, 16, 17, 18, 19, 20, 21, 22, 23, 24, 2, 3, 25, 26, 27] (by decide +kernel) (by decide +kernel)
set_option maxRecDepth 20000 in
theorem gX7_init_Jx4a65c_init_da8c8 : GoodIn wsX7_init (wsJx4a65c_init_da8c8) := ggX7_init_Jx4a65c_init_da8c8
set_option maxRecDepth 20000 in
theorem ggX7_size_Jx4a65c_size_8abf5 : GoodIn wsX7_size wsJx4a65c_size_8abf5 := goodIn_r _ [6, 7, 10, 11, 12] (by decide +kernel) (by decide +kernel)
set_option maxRecDepth 20000 in
theorem gX7_size_Jx4a65c_size_8abf5 : GoodIn wsX7_size (wsV RX7 24 RJx4a65c yJx4a65c_size_8abf5 wsJx4a65c_size_8abf5) := goodIn_app (goodIn_of _ (by decide +kernel)) ggX7_size_Jx4a65c_size_8abf5
set_option maxRecDepth 20000 in
theorem ggX7_find_Jx4a65c_size_8abf5 : GoodIn wsX7_find wsJx4a65c_size_8abf5 := goodIn_r _ [7, 8, 31, 32, 33] (by decide +kernel) (by decide +kernel)
set_option maxRecDepth 20000 in
theorem gX7_find_Jx4a65c_size_8abf5 : GoodIn wsX7_find (wsV RX7 24 RJx4a65c yJx4a65c_size_8abf5 wsJx4a65c_size_8abf5) := goodIn_app (goodIn_of _ (by decide +kernel)) ggX7_find_Jx4a65c_size_8abf5
set_option maxRecDepth 20000 in
theorem ggX7_find_X11_isWithin : GoodIn wsX7_find wsX11_isWithin := goodIn_r _ [11] (by decide +kernel) (by decide +kernel)
set_option maxRecDepth 20000 in
theorem gX7_find_X11_isWithin_n28 : GoodIn wsX7_find (wsX11_isWithin) := ggX7_find_X11_isWithin
set_option maxRecDepth 20000 in
theorem ggX7_find_Jx4a65c_get_915e3 : GoodIn wsX7_find wsJx4a65c_get_915e3 := goodIn_r _ [15, 8, 16, 17, 18, 19, 20, 21, 22, 23, 24, 25, 26, 6, 27, 28, 31, 32, 33] (by decide +kernel) (by decide +kernel)
set_option maxRecDepth 20000 in
theorem gX7_find_Jx4a65c_get_915e3 : GoodIn wsX7_find (wsV RX7 32 RJx4a65c yJx4a65c_get_915e3 wsJx4a65c_get_915e3) := goodIn_app (goodIn_of _ (by decide +kernel)) ggX7_find_Jx4a65c_get_915e3
set_option maxRecDepth 20000 in
theorem ggX7_soonestOf_X11_isKind : GoodIn wsX7_soonestOf wsX11_isKind := goodIn_r _ [4, 5, 6, 3, 7] (by decide +kernel) (by decide +kernel)
set_option maxRecDepth 20000 in
theorem gX7_soonestOf_X11_isKind_n36 : GoodIn wsX7_soonestOf (wsX11_isKind) := ggX7_soonestOf_X11_isKind
set_option maxRecDepth 20000 in
theorem ggX7_add_X11_isKind : GoodIn wsX7_add wsX11_isKind := goodIn_r _ [8, 9, 10, 7, 11] (by decide +kernel) (by decide +kernel)
set_option maxRecDepth 20000 in
theorem gX7_add_X11_isKind_n36 : GoodIn wsX7_add (wsX11_isKind) := ggX7_add_X11_isKind
set_option maxRecDepth 20000 in
theorem ggX7_add_Jx4a65c_add_9ea2d : GoodIn wsX7_add wsJx4a65c_add_9ea2d := goodIn_r _ [16, 17, 18, 19, 20, 21, 22, 23, 15, 24, 25, 26, 27, 28, 29, 30, 31, 32, 33, 34, 35, 36, 37, 38, 39, 40, 41, 42, 43, 44, 45, 46, 47, 48, 49, 50, 51, 52, 53, 54, 55, 56, 57, 58, 59, 60, 61, 62, 63, 64, 65, 66, 67, 81, 82, 83] (by decide +kernel) (by decide +kernel)
set_option maxRecDepth 20000 in
theorem gX7_add_Jx4a65c_add_9ea2d : GoodIn wsX7_add (wsV RX7 44 RJx4a65c yJx4a65c_add_9ea2d wsJx4a65c_add_9ea2d) := goodIn_app (goodIn_of _ (by decide +kernel)) ggX7_add_Jx4a65c_add_9ea2d
set_option maxRecDepth 20000 in
theorem ggX7_spoilBefore_Jx4a65c_size_8abf5 : GoodIn wsX7_spoilBefore wsJx4a65c_size_8abf5 := goodIn_r _ [10, 11, 52, 53, 54] (by decide +kernel) (by decide +kernel)
set_option maxRecDepth 20000 in
theorem gX7_spoilBefore_Jx4a65c_size_8abf5 : GoodIn wsX7_spoilBefore (wsV RX7 24 RJx4a65c yJx4a65c_size_8abf5 wsJx4a65c_size_8abf5) := goodIn_app (goodIn_of _ (by decide +kernel)) ggX7_spoilBefore_Jx4a65c_size_8abf5
set_option maxRecDepth 20000 in
theorem ggX7_spoilBefore_Jx4a65c_get_915e3 : GoodIn wsX7_spoilBefore wsJx4a65c_get_915e3 := goodIn_r _ [15, 11, 16, 17, 18, 19, 20, 21, 22, 23, 24, 25, 26, 9, 27, 28, 52, 53, 54] (by decide +kernel) (by decide +kernel)
set_option maxRecDepth 20000 in
theorem gX7_spoilBefore_Jx4a65c_get_915e3 : GoodIn wsX7_spoilBefore (wsV RX7 32 RJx4a65c yJx4a65c_get_915e3 wsJx4a65c_get_915e3) := goodIn_app (goodIn_of _ (by decide +kernel)) ggX7_spoilBefore_Jx4a65c_get_915e3
set_option maxRecDepth 20000 in
theorem ggX7_spoilBefore_X2_lose : GoodIn wsX7_spoilBefore wsX2_lose := goodIn_r _ [33, 34, 35, 36, 37, 38, 41, 42, 43, 44, 45, 46, 47, 48, 49, 50, 51] (by decide +kernel) (by decide +kernel)
set_option maxRecDepth 20000 in
theorem gX7_spoilBefore_X2_lose : GoodIn wsX7_spoilBefore (wsV RX7 61 RX2 yX2_lose wsX2_lose) := goodIn_app (goodIn_of _ (by decide +kernel)) ggX7_spoilBefore_X2_lose
set_option maxRecDepth 20000 in
theorem ggX7_gramsThatMayGo_X7_soonestOf : GoodIn wsX7_gramsThatMayGo wsX7_soonestOf := goodIn_r _ [7, 8, 9, 10, 11, 12, 13, 14, 33, 34] (by decide +kernel) (by decide +kernel)
set_option maxRecDepth 20000 in
theorem gX7_gramsThatMayGo_X7_soonestOf : GoodIn wsX7_gramsThatMayGo (wsV RX7 65 RX7 yX7_soonestOf wsX7_soonestOf) := goodIn_app (goodIn_of _ (by decide +kernel)) ggX7_gramsThatMayGo_X7_soonestOf
set_option maxRecDepth 20000 in
theorem ggX7_gramsThatMayGo_X2_mayGo : GoodIn wsX7_gramsThatMayGo wsX2_mayGo := goodIn_r _ [19, 20, 21, 22, 23, 24, 25, 26, 27, 28, 29, 30, 31, 32] (by decide +kernel) (by decide +kernel)
set_option maxRecDepth 20000 in
theorem gX7_gramsThatMayGo_X2_mayGo : GoodIn wsX7_gramsThatMayGo (wsV RX7 69 RX2 yX2_mayGo wsX2_mayGo) := goodIn_app (goodIn_of _ (by decide +kernel)) ggX7_gramsThatMayGo_X2_mayGo
set_option maxRecDepth 20000 in
theorem ggX7_partOut_X7_soonestOf : GoodIn wsX7_partOut wsX7_soonestOf := goodIn_r _ [7, 8, 9, 10, 11, 12, 13, 14, 41, 42] (by decide +kernel) (by decide +kernel)
set_option maxRecDepth 20000 in
theorem gX7_partOut_X7_soonestOf : GoodIn wsX7_partOut (wsV RX7 65 RX7 yX7_soonestOf wsX7_soonestOf) := goodIn_app (goodIn_of _ (by decide +kernel)) ggX7_partOut_X7_soonestOf
set_option maxRecDepth 20000 in
theorem ggX7_partOut_X2_mayGo : GoodIn wsX7_partOut wsX2_mayGo := goodIn_r _ [19, 20, 21, 30, 31, 32, 33, 34, 35, 36, 37, 38, 39, 40] (by decide +kernel) (by decide +kernel)
set_option maxRecDepth 20000 in
theorem gX7_partOut_X2_mayGo : GoodIn wsX7_partOut (wsV RX7 69 RX2 yX2_mayGo wsX2_mayGo) := goodIn_app (goodIn_of _ (by decide +kernel)) ggX7_partOut_X2_mayGo
set_option maxRecDepth 20000 in
theorem ggX7_partOut_X2_lose : GoodIn wsX7_partOut wsX2_lose := goodIn_r _ [25, 20, 26, 27, 28, 29, 30, 31, 32, 33, 34, 35, 36, 37, 38, 39, 40] (by decide +kernel) (by decide +kernel)
set_option maxRecDepth 20000 in
theorem gX7_partOut_X2_lose : GoodIn wsX7_partOut (wsV RX7 61 RX2 yX2_lose wsX2_lose) := goodIn_app (goodIn_of _ (by decide +kernel)) ggX7_partOut_X2_lose
set_option maxRecDepth 20000 in
theorem ggX7_handOut_X7_soonestOf : GoodIn wsX7_handOut wsX7_soonestOf := goodIn_r _ [9, 10, 11, 12, 13, 14, 15, 16, 120, 121] (by decide +kernel) (by decide +kernel)
set_option maxRecDepth 20000 in
theorem gX7_handOut_X7_soonestOf : GoodIn wsX7_handOut (wsV RX7 65 RX7 yX7_soonestOf wsX7_soonestOf) := goodIn_app (goodIn_of _ (by decide +kernel)) ggX7_handOut_X7_soonestOf
set_option maxRecDepth 20000 in
theorem ggX7_handOut_X2_mayGo : GoodIn wsX7_handOut wsX2_mayGo := goodIn_r _ [21, 22, 23, 109, 110, 111, 112, 113, 114, 115, 116, 117, 118, 119] (by decide +kernel) (by decide +kernel)
set_option maxRecDepth 20000 in
theorem gX7_handOut_X2_mayGo : GoodIn wsX7_handOut (wsV RX7 69 RX2 yX2_mayGo wsX2_mayGo) := goodIn_app (goodIn_of _ (by decide +kernel)) ggX7_handOut_X2_mayGo
set_option maxRecDepth 20000 in
theorem ggX7_handOut_X2_lose : GoodIn wsX7_handOut wsX2_lose := goodIn_r _ [27, 22, 28, 29, 30, 31, 109, 110, 111, 112, 113, 114, 115, 116, 117, 118, 119] (by decide +kernel) (by decide +kernel)
set_option maxRecDepth 20000 in
theorem gX7_handOut_X2_lose : GoodIn wsX7_handOut (wsV RX7 61 RX2 yX2_lose wsX2_lose) := goodIn_app (goodIn_of _ (by decide +kernel)) ggX7_handOut_X2_lose
set_option maxRecDepth 20000 in
theorem ggX7_handOut_X3_addLine : GoodIn wsX7_handOut wsX3_addLine := goodIn_r _ [36, 37, 38, 39, 40, 41, 42, 43, 44, 45, 46, 47, 48, 49, 50, 51, 52, 53, 54, 55, 56, 57, 58, 59, 60, 61, 62, 63, 64, 65, 66, 67, 68, 69, 70, 71, 72, 73, 30, 74, 75, 76, 77, 78, 79, 80, 81, 82, 83, 84, 85, 86, 87, 88, 89, 90, 91, 92, 93, 94, 95, 96, 97, 98, 29, 31, 99, 100, 101, 102, 122, 123, 124, 125, 126, 127, 128, 129, 130, 131] (by decide +kernel) (by decide +kernel)
set_option maxRecDepth 20000 in
theorem gX7_handOut_X3_addLine : GoodIn wsX7_handOut (wsV RX7 81 RX3 yX3_addLine wsX3_addLine) := goodIn_app (goodIn_of _ (by decide +kernel)) ggX7_handOut_X3_addLine
set_option maxRecDepth 20000 in
theorem ggX7_handOut_X0_noteHad : GoodIn wsX7_handOut wsX0_noteHad := goodIn_r _ [107, 108, 15, 12, 16, 132, 133, 134, 135] (by decide +kernel) (by decide +kernel)
set_option maxRecDepth 20000 in
theorem gX7_handOut_X0_noteHad : GoodIn wsX7_handOut (wsV RX7 90 RX0 yX0_noteHad wsX0_noteHad) := goodIn_app (goodIn_of _ (by decide +kernel)) ggX7_handOut_X0_noteHad
set_option maxRecDepth 20000 in
theorem ggX7_givenBy_Jx4a65c_size_8abf5 : GoodIn wsX7_givenBy wsJx4a65c_size_8abf5 := goodIn_r _ [8, 9, 50, 51, 52] (by decide +kernel) (by decide +kernel)
set_option maxRecDepth 20000 in
theorem gX7_givenBy_Jx4a65c_size_8abf5 : GoodIn wsX7_givenBy (wsV RX7 24 RJx4a65c yJx4a65c_size_8abf5 wsJx4a65c_size_8abf5) := goodIn_app (goodIn_of _ (by decide +kernel)) ggX7_givenBy_Jx4a65c_size_8abf5
set_option maxRecDepth 20000 in
theorem ggX7_givenBy_Jx4a65c_get_915e3 : GoodIn wsX7_givenBy wsJx4a65c_get_915e3 := goodIn_r _ [13, 9, 14, 15, 16, 17, 18, 19, 20, 21, 22, 23, 24, 7, 25, 26, 50, 51, 52] (by decide +kernel) (by decide +kernel)
set_option maxRecDepth 20000 in
theorem gX7_givenBy_Jx4a65c_get_915e3 : GoodIn wsX7_givenBy (wsV RX7 32 RJx4a65c yJx4a65c_get_915e3 wsJx4a65c_get_915e3) := goodIn_app (goodIn_of _ (by decide +kernel)) ggX7_givenBy_Jx4a65c_get_915e3
set_option maxRecDepth 20000 in
theorem ggX7_givenBy_X2_gramsAsKnown : GoodIn wsX7_givenBy wsX2_gramsAsKnown := goodIn_r _ [31, 32, 33, 34, 35, 36, 39, 40, 41, 42, 43, 44, 45, 46, 47, 48, 49, 53, 54, 55] (by decide +kernel) (by decide +kernel)
set_option maxRecDepth 20000 in
theorem gX7_givenBy_X2_gramsAsKnown : GoodIn wsX7_givenBy (wsV RX7 95 RX2 yX2_gramsAsKnown wsX2_gramsAsKnown) := goodIn_app (goodIn_of _ (by decide +kernel)) ggX7_givenBy_X2_gramsAsKnown
set_option maxRecDepth 20000 in
theorem ggX7_sumOver_Jx4a65c_size_8abf5 : GoodIn wsX7_sumOver wsJx4a65c_size_8abf5 := goodIn_r _ [7, 8, 41, 42, 43] (by decide +kernel) (by decide +kernel)
set_option maxRecDepth 20000 in
theorem gX7_sumOver_Jx4a65c_size_8abf5 : GoodIn wsX7_sumOver (wsV RX7 24 RJx4a65c yJx4a65c_size_8abf5 wsJx4a65c_size_8abf5) := goodIn_app (goodIn_of _ (by decide +kernel)) ggX7_sumOver_Jx4a65c_size_8abf5
set_option maxRecDepth 20000 in
theorem ggX7_sumOver_Jx4a65c_get_915e3 : GoodIn wsX7_sumOver wsJx4a65c_get_915e3 := goodIn_r _ [12, 8, 13, 14, 15, 16, 17, 18, 19, 20, 21, 22, 23, 6, 24, 25, 41, 42, 43] (by decide +kernel) (by decide +kernel)
set_option maxRecDepth 20000 in
theorem gX7_sumOver_Jx4a65c_get_915e3 : GoodIn wsX7_sumOver (wsV RX7 32 RJx4a65c yJx4a65c_get_915e3 wsJx4a65c_get_915e3) := goodIn_app (goodIn_of _ (by decide +kernel)) ggX7_sumOver_Jx4a65c_get_915e3
set_option maxRecDepth 20000 in
theorem ggX7_sumOver_X2_tell : GoodIn wsX7_sumOver wsX2_tell := goodIn_r _ [30, 31, 32, 33, 34, 35, 36, 37, 38, 44, 45, 46, 47, 48, 49, 50, 51, 52, 53, 54] (by decide +kernel) (by decide +kernel)
set_option maxRecDepth 20000 in
theorem gX7_sumOver_X2_tell : GoodIn wsX7_sumOver (wsV RX7 98 RX2 yX2_tell wsX2_tell) := goodIn_app (goodIn_of _ (by decide +kernel)) ggX7_sumOver_X2_tell
set_option maxRecDepth 20000 in
theorem ggX7_leftOfKind_X7_soonestOf : GoodIn wsX7_leftOfKind wsX7_soonestOf := goodIn_r _ [7, 8, 9, 10, 11, 12, 13, 14, 26, 27] (by decide +kernel) (by decide +kernel)
set_option maxRecDepth 20000 in
theorem gX7_leftOfKind_X7_soonestOf : GoodIn wsX7_leftOfKind (wsV RX7 65 RX7 yX7_soonestOf wsX7_soonestOf) := goodIn_app (goodIn_of _ (by decide +kernel)) ggX7_leftOfKind_X7_soonestOf
set_option maxRecDepth 20000 in
theorem ggX9_tellStop_X11_isWithin : GoodIn wsX9_tellStop wsX11_isWithin := goodIn_r _ [5] (by decide +kernel) (by decide +kernel)
set_option maxRecDepth 20000 in
theorem gX9_tellStop_X11_isWithin_n45 : GoodIn wsX9_tellStop (wsX11_isWithin) := ggX9_tellStop_X11_isWithin
set_option maxRecDepth 20000 in
theorem ggX9_plan_X9_gather : GoodIn wsX9_plan wsX9_gather := goodIn_r _ [10, 1, 11, 12, 13, 14, 15, 16, 17, 18, 19, 20, 21, 22, 23, 24, 25, 26, 27, 28, 29, 30, 31, 32, 33, 34, 35, 36, 37, 102, 103, 104, 105, 106, 107, 108, 109, 110, 111, 112, 113, 114, 115, 116, 117] (by decide +kernel) (by decide +kernel)
set_option maxRecDepth 20000 in
theorem gX9_plan_X9_gather : GoodIn wsX9_plan (wsV RX9 49 RX9 yX9_gather wsX9_gather) := goodIn_app (goodIn_of _ (by decide +kernel)) ggX9_plan_X9_gather
set_option maxRecDepth 20000 in
theorem ggX9_plan_X9_weighSets : GoodIn wsX9_plan wsX9_weighSets := goodIn_r _ [41, 1, 3, 14, 102, 103, 104, 105, 106, 107, 108, 109, 110, 111] (by decide +kernel) (by decide +kernel)
set_option maxRecDepth 20000 in
theorem gX9_plan_X9_weighSets : GoodIn wsX9_plan (wsV RX9 53 RX9 yX9_weighSets wsX9_weighSets) := goodIn_app (goodIn_of _ (by decide +kernel)) ggX9_plan_X9_weighSets
set_option maxRecDepth 20000 in
theorem ggX9_plan_X9_shortestRound : GoodIn wsX9_plan wsX9_shortestRound := goodIn_r _ [45, 4, 1, 46, 47, 48, 49, 50, 51, 52, 9, 53, 54, 55, 56, 57, 58, 59, 60, 61, 62, 13, 63, 64, 65, 66, 102, 103, 104, 105, 106, 107, 108, 109, 110, 111] (by decide +kernel) (by decide +kernel)
set_option maxRecDepth 20000 in
theorem gX9_plan_X9_shortestRound : GoodIn wsX9_plan (wsV RX9 57 RX9 yX9_shortestRound wsX9_shortestRound) := goodIn_app (goodIn_of _ (by decide +kernel)) ggX9_plan_X9_shortestRound
set_option maxRecDepth 20000 in
theorem ggX9_plan_X9_cheapestParting : GoodIn wsX9_plan wsX9_cheapestParting := goodIn_r _ [70, 47, 48, 49, 50, 71, 72, 73, 9, 74, 5, 2, 102, 103, 104, 105, 106, 107, 108, 109, 110, 111] (by decide +kernel) (by decide +kernel)
set_option maxRecDepth 20000 in
theorem gX9_plan_X9_cheapestParting : GoodIn wsX9_plan (wsV RX9 61 RX9 yX9_cheapestParting wsX9_cheapestParting) := goodIn_app (goodIn_of _ (by decide +kernel)) ggX9_plan_X9_cheapestParting
set_option maxRecDepth 20000 in
theorem ggX9_plan_X9_writeRow : GoodIn wsX9_plan wsX9_writeRow := goodIn_r _ [78, 79, 80, 81, 82, 9, 83, 84, 85, 86, 87, 88, 89, 5, 71, 72, 73, 74, 2, 90, 91, 92, 93, 13, 46, 94, 95, 96, 97, 1, 51, 52, 53, 58, 59, 60, 61, 62, 63, 64, 65, 66, 98, 99, 100, 101, 102, 103, 104, 105, 106, 107, 108, 109, 110, 111] (by decide +kernel) (by decide +kernel)
set_option maxRecDepth 20000 in
theorem gX9_plan_X9_writeRow : GoodIn wsX9_plan (wsV RX9 64 RX9 yX9_writeRow wsX9_writeRow) := goodIn_app (goodIn_of _ (by decide +kernel)) ggX9_plan_X9_writeRow
set_option maxRecDepth 20000 in
theorem ggX9_gather_Jx4a65c_size_8abf5 : GoodIn wsX9_gather wsJx4a65c_size_8abf5 := goodIn_r _ [10, 11, 42, 43, 44] (by decide +kernel) (by decide +kernel)
set_option maxRecDepth 20000 in
theorem gX9_gather_Jx4a65c_size_8abf5 : GoodIn wsX9_gather (wsV RX9 68 RJx4a65c yJx4a65c_size_8abf5 wsJx4a65c_size_8abf5) := goodIn_app (goodIn_of _ (by decide +kernel)) ggX9_gather_Jx4a65c_size_8abf5
set_option maxRecDepth 20000 in
theorem ggX9_gather_Jx4a65c_get_915e3 : GoodIn wsX9_gather wsJx4a65c_get_915e3 := goodIn_r _ [15, 11, 16, 17, 18, 19, 20, 21, 22, 23, 24, 25, 26, 9, 27, 28, 42, 43, 44] (by decide +kernel) (by decide +kernel)
set_option maxRecDepth 20000 in
theorem gX9_gather_Jx4a65c_get_915e3 : GoodIn wsX9_gather (wsV RX9 74 RJx4a65c yJx4a65c_get_915e3 wsJx4a65c_get_915e3) := goodIn_app (goodIn_of _ (by decide +kernel)) ggX9_gather_Jx4a65c_get_915e3
set_option maxRecDepth 20000 in
theorem ggX9_shortestRound_X9_isIn : GoodIn wsX9_shortestRound wsX9_isIn := goodIn_r _ [11] (by decide +kernel) (by decide +kernel)
set_option maxRecDepth 20000 in
theorem gX9_shortestRound_X9_isIn : GoodIn wsX9_shortestRound (va_wsS RX9 83 yX9_isIn wsX9_isIn) := goodIn_app (goodIn_of _ (by decide +kernel)) ggX9_shortestRound_X9_isIn
set_option maxRecDepth 20000 in
theorem ggX9_shortestRound_X9_shortestWay : GoodIn wsX9_shortestRound wsX9_shortestWay := goodIn_r _ [15, 1, 2, 3, 4, 5, 6, 7, 16, 17, 18, 10, 19, 20, 21, 8, 9, 11, 22, 23, 24, 25, 26, 27, 28, 29, 30, 31, 32, 33, 34, 35] (by decide +kernel) (by decide +kernel)
set_option maxRecDepth 20000 in
theorem gX9_shortestRound_X9_shortestWay : GoodIn wsX9_shortestRound (wsV RX9 87 RX9 yX9_shortestWay wsX9_shortestWay) := goodIn_app (goodIn_of _ (by decide +kernel)) ggX9_shortestRound_X9_shortestWay
set_option maxRecDepth 20000 in
theorem ggX9_shortestRound_X9_fromHouse : GoodIn wsX9_shortestRound wsX9_fromHouse := goodIn_r _ [19, 20, 21, 26, 27, 28, 29, 30, 31, 32, 33, 34, 35] (by decide +kernel) (by decide +kernel)
set_option maxRecDepth 20000 in
theorem gX9_shortestRound_X9_fromHouse : GoodIn wsX9_shortestRound (wsV RX9 91 RX9 yX9_fromHouse wsX9_fromHouse) := goodIn_app (goodIn_of _ (by decide +kernel)) ggX9_shortestRound_X9_fromHouse
set_option maxRecDepth 20000 in
theorem ggX9_shortestWay_X9_fromHouse : GoodIn wsX9_shortestWay wsX9_fromHouse := goodIn_r _ [12, 13, 14, 22, 23, 24, 25, 26, 27, 28, 29, 30, 31] (by decide +kernel) (by decide +kernel)
set_option maxRecDepth 20000 in
theorem gX9_shortestWay_X9_fromHouse : GoodIn wsX9_shortestWay (wsV RX9 91 RX9 yX9_fromHouse wsX9_fromHouse) := goodIn_app (goodIn_of _ (by decide +kernel)) ggX9_shortestWay_X9_fromHouse
set_option maxRecDepth 20000 in
theorem ggX9_shortestWay_X9_isIn : GoodIn wsX9_shortestWay wsX9_isIn := goodIn_r _ [17] (by decide +kernel) (by decide +kernel)
set_option maxRecDepth 20000 in
theorem gX9_shortestWay_X9_isIn : GoodIn wsX9_shortestWay (va_wsS RX9 83 yX9_isIn wsX9_isIn) := goodIn_app (goodIn_of _ (by decide +kernel)) ggX9_shortestWay_X9_isIn
set_option maxRecDepth 20000 in
theorem ggX9_shortestWay_X9_between : GoodIn wsX9_shortestWay wsX9_between := goodIn_r _ [21, 13, 14, 22, 23, 24, 25, 26, 27, 28, 29, 30, 31] (by decide +kernel) (by decide +kernel)
set_option maxRecDepth 20000 in
theorem gX9_shortestWay_X9_between : GoodIn wsX9_shortestWay (wsV RX9 99 RX9 yX9_between wsX9_between) := goodIn_app (goodIn_of _ (by decide +kernel)) ggX9_shortestWay_X9_between
set_option maxRecDepth 20000 in
theorem ggX9_cheapestParting_X9_costWithRest : GoodIn wsX9_cheapestParting wsX9_costWithRest := goodIn_r _ [9, 10, 11, 12, 13, 14, 15, 16, 17, 18, 19, 20, 21] (by decide +kernel) (by decide +kernel)
set_option maxRecDepth 20000 in
theorem gX9_cheapestParting_X9_costWithRest : GoodIn wsX9_cheapestParting (wsV RX9 102 RX9 yX9_costWithRest wsX9_costWithRest) := goodIn_app (goodIn_of _ (by decide +kernel)) ggX9_cheapestParting_X9_costWithRest
set_option maxRecDepth 20000 in
theorem ggX9_writeRow_X9_addStop : GoodIn wsX9_writeRow wsX9_addStop := goodIn_r _ [6, 1, 7, 46, 47, 48, 49, 50, 51, 52, 53, 54, 55] (by decide +kernel) (by decide +kernel)
set_option maxRecDepth 20000 in
theorem gX9_writeRow_X9_addStop : GoodIn wsX9_writeRow (wsV RX9 105 RX9 yX9_addStop wsX9_addStop) := goodIn_app (goodIn_of _ (by decide +kernel)) ggX9_writeRow_X9_addStop
set_option maxRecDepth 20000 in
theorem ggX9_writeRow_X9_firstRound : GoodIn wsX9_writeRow wsX9_firstRound := goodIn_r _ [11, 12, 13, 14, 15, 16, 5, 17, 18, 19, 20, 21, 22, 23, 24, 25, 26, 27, 28, 29, 30, 31, 32, 33, 34, 35, 36, 37, 38, 39, 40, 41, 46, 47, 48, 49, 50, 51, 52, 53, 54, 55] (by decide +kernel) (by decide +kernel)
set_option maxRecDepth 20000 in
theorem gX9_writeRow_X9_firstRound : GoodIn wsX9_writeRow (wsV RX9 108 RX9 yX9_firstRound wsX9_firstRound) := goodIn_app (goodIn_of _ (by decide +kernel)) ggX9_writeRow_X9_firstRound
set_option maxRecDepth 20000 in
theorem ggX9_writeRow_X9_roundAsNumber : GoodIn wsX9_writeRow wsX9_roundAsNumber := goodIn_r _ [22, 18, 23, 24, 25, 26, 27, 5, 28, 29, 30, 31, 32, 33, 34, 35, 36, 37, 38, 39, 40, 41, 46, 47, 48, 49, 50, 51, 52, 53, 54, 55] (by decide +kernel) (by decide +kernel)
set_option maxRecDepth 20000 in
theorem gX9_writeRow_X9_roundAsNumber : GoodIn wsX9_writeRow (wsV RX9 111 RX9 yX9_roundAsNumber wsX9_roundAsNumber) := goodIn_app (goodIn_of _ (by decide +kernel)) ggX9_writeRow_X9_roundAsNumber
set_option maxRecDepth 20000 in
theorem ggX9_writeRow_X9_addRound : GoodIn wsX9_writeRow wsX9_addRound := goodIn_r _ [45, 2, 3, 4, 5, 6, 1, 7, 46, 47, 48, 49, 50, 51, 52, 53, 54, 55] (by decide +kernel) (by decide +kernel)
set_option maxRecDepth 20000 in
theorem gX9_writeRow_X9_addRound : GoodIn wsX9_writeRow (wsV RX9 115 RX9 yX9_addRound wsX9_addRound) := goodIn_app (goodIn_of _ (by decide +kernel)) ggX9_writeRow_X9_addRound
set_option maxRecDepth 20000 in
theorem ggX9_addRound_X9_addStop : GoodIn wsX9_addRound wsX9_addStop := goodIn_r _ [5, 6, 7, 8, 9, 10, 11, 12, 13, 14, 15, 16, 17] (by decide +kernel) (by decide +kernel)
set_option maxRecDepth 20000 in
theorem gX9_addRound_X9_addStop : GoodIn wsX9_addRound (wsV RX9 105 RX9 yX9_addStop wsX9_addStop) := goodIn_app (goodIn_of _ (by decide +kernel)) ggX9_addRound_X9_addStop
set_option maxRecDepth 20000 in
theorem ggX9_firstRound_X9_costWithRest : GoodIn wsX9_firstRound wsX9_costWithRest := goodIn_r _ [7, 2, 8, 32, 33, 34, 35, 36, 37, 38, 39, 40, 41] (by decide +kernel) (by decide +kernel)
set_option maxRecDepth 20000 in
theorem gX9_firstRound_X9_costWithRest : GoodIn wsX9_firstRound (wsV RX9 102 RX9 yX9_costWithRest wsX9_costWithRest) := goodIn_app (goodIn_of _ (by decide +kernel)) ggX9_firstRound_X9_costWithRest
set_option maxRecDepth 20000 in
theorem ggX9_firstRound_X9_roundAsNumber : GoodIn wsX9_firstRound wsX9_roundAsNumber := goodIn_r _ [12, 8, 13, 14, 15, 16, 17, 6, 18, 19, 20, 21, 22, 23, 24, 25, 26, 27, 28, 29, 30, 31, 32, 33, 34, 35, 36, 37, 38, 39, 40, 41] (by decide +kernel) (by decide +kernel)
set_option maxRecDepth 20000 in
theorem gX9_firstRound_X9_roundAsNumber : GoodIn wsX9_firstRound (wsV RX9 111 RX9 yX9_roundAsNumber wsX9_roundAsNumber) := goodIn_app (goodIn_of _ (by decide +kernel)) ggX9_firstRound_X9_roundAsNumber
set_option maxRecDepth 20000 in
theorem ggX9_roundAsNumber_X9_nextMember : GoodIn wsX9_roundAsNumber wsX9_nextMember := goodIn_r _ [8, 9, 3, 10, 11, 7, 12, 13, 14, 15, 16, 17, 2, 18, 19, 20, 21, 22, 23, 24, 25, 26, 27, 28, 29, 30, 31] (by decide +kernel) (by decide +kernel)
set_option maxRecDepth 20000 in
theorem gX9_roundAsNumber_X9_nextMember : GoodIn wsX9_roundAsNumber (wsV RX9 121 RX9 yX9_nextMember wsX9_nextMember) := goodIn_app (goodIn_of _ (by decide +kernel)) ggX9_roundAsNumber_X9_nextMember
set_option maxRecDepth 20000 in
theorem ggX9_nextMember_X9_isIn : GoodIn wsX9_nextMember wsX9_isIn := goodIn_r _ [6] (by decide +kernel) (by decide +kernel)
set_option maxRecDepth 20000 in
theorem gX9_nextMember_X9_isIn : GoodIn wsX9_nextMember (va_wsS RX9 83 yX9_isIn wsX9_isIn) := goodIn_app (goodIn_of _ (by decide +kernel)) ggX9_nextMember_X9_isIn
set_option maxRecDepth 20000 in
theorem ggX9_nextMember_X9_fromHouse : GoodIn wsX9_nextMember wsX9_fromHouse := goodIn_r _ [10, 11, 12, 17, 18, 19, 20, 21, 22, 23, 24, 25, 26] (by decide +kernel) (by decide +kernel)
set_option maxRecDepth 20000 in
theorem gX9_nextMember_X9_fromHouse : GoodIn wsX9_nextMember (wsV RX9 91 RX9 yX9_fromHouse wsX9_fromHouse) := goodIn_app (goodIn_of _ (by decide +kernel)) ggX9_nextMember_X9_fromHouse
set_option maxRecDepth 20000 in
theorem ggX9_nextMember_X9_between : GoodIn wsX9_nextMember wsX9_between := goodIn_r _ [16, 11, 12, 17, 18, 19, 20, 21, 22, 23, 24, 25, 26] (by decide +kernel) (by decide +kernel)
set_option maxRecDepth 20000 in
theorem gX9_nextMember_X9_between : GoodIn wsX9_nextMember (wsV RX9 99 RX9 yX9_between wsX9_between) := goodIn_app (goodIn_of _ (by decide +kernel)) ggX9_nextMember_X9_between
set_option maxRecDepth 20000 in
theorem ggX11_init_X7_init : GoodIn wsX11_init wsX7_init := goodIn_r _ [33, 34, 2, 3, 35, 11, 12, 36, 37, 38, 39, 40, 41, 42, 43, 44, 45, 46, 47, 48, 49, 50, 51, 52, 53, 102, 103, 104, 100, 101] (by decide +kernel) (by decide +kernel)
set_option maxRecDepth 20000 in
theorem gX11_init_X7_init_n15 : GoodIn wsX11_init (wsX7_init) := ggX11_init_X7_init
set_option maxRecDepth 20000 in
theorem ggX11_init_Jx4a65c_init_da8c8 : GoodIn wsX11_init wsJx4a65c_init_da8c8 := goodIn_r _ [41, 42, 43, 44, 45, 46, 47, 48, 49, 50, 51, 52, 53, 2, 3, 102, 103, 104] (by decide +kernel) (by decide +kernel)
set_option maxRecDepth 20000 in
theorem gX11_init_Jx4a65c_init_da8c8 : GoodIn wsX11_init (wsJx4a65c_init_da8c8) := ggX11_init_Jx4a65c_init_da8c8
set_option maxRecDepth 20000 in
theorem ggX11_init_X5_init : GoodIn wsX11_init wsX5_init := goodIn_r _ [56, 57, 2, 3, 58, 59, 60, 25, 26, 61, 62, 63, 64, 65, 66, 67, 68, 4, 69, 70, 71, 72, 73, 105, 106, 107, 108, 109, 110, 121, 122, 123, 124, 125] (by decide +kernel) (by decide +kernel)
set_option maxRecDepth 20000 in
theorem gX11_init_X5_init_n35 : GoodIn wsX11_init (wsX5_init) := ggX11_init_X5_init
set_option maxRecDepth 20000 in
theorem ggX11_init_X9_init : GoodIn wsX11_init wsX9_init := goodIn_r _ [75, 76, 2, 3, 77, 4, 78, 79, 80, 81, 82, 83, 84, 85, 86, 87, 111, 112, 113, 114, 115, 116, 117, 118, 119, 120] (by decide +kernel) (by decide +kernel)
set_option maxRecDepth 20000 in
theorem gX11_init_X9_init_n42 : GoodIn wsX11_init (wsX9_init) := ggX11_init_X9_init
set_option maxRecDepth 20000 in
theorem ggX11_init_X6_init : GoodIn wsX11_init wsX6_init := goodIn_r _ [67, 68, 2, 3, 4, 69, 70, 71, 72, 73, 121, 122, 123, 124, 125] (by decide +kernel) (by decide +kernel)
set_option maxRecDepth 20000 in
theorem gX11_init_X6_init_n49 : GoodIn wsX11_init (wsX6_init) := ggX11_init_X6_init
set_option maxRecDepth 20000 in
theorem ggX11_contents_X11_isKind : GoodIn wsX11_contents wsX11_isKind := goodIn_r _ [5, 6, 7, 4, 8] (by decide +kernel) (by decide +kernel)
set_option maxRecDepth 20000 in
theorem gX11_contents_X11_isKind : GoodIn wsX11_contents (va_wsS RX11 67 yX11_isKind wsX11_isKind) := goodIn_app (goodIn_of _ (by decide +kernel)) ggX11_contents_X11_isKind
set_option maxRecDepth 20000 in
theorem ggX11_contents_X11_isWithin : GoodIn wsX11_contents wsX11_isWithin := goodIn_r _ [8] (by decide +kernel) (by decide +kernel)
set_option maxRecDepth 20000 in
theorem gX11_contents_X11_isWithin : GoodIn wsX11_contents (va_wsS RX11 71 yX11_isWithin wsX11_isWithin) := goodIn_app (goodIn_of _ (by decide +kernel)) ggX11_contents_X11_isWithin
set_option maxRecDepth 20000 in
theorem ggX11_contents_X11_refuse : GoodIn wsX11_contents wsX11_refuse := goodIn_r _ [12, 13, 18, 19, 20, 21, 22, 23, 24, 25, 26, 27, 28, 29] (by decide +kernel) (by decide +kernel)
set_option maxRecDepth 20000 in
theorem gX11_contents_X11_refuse : GoodIn wsX11_contents (wsV RX11 75 RX11 yX11_refuse wsX11_refuse) := goodIn_app (goodIn_of _ (by decide +kernel)) ggX11_contents_X11_refuse
set_option maxRecDepth 20000 in
theorem ggX11_contents_X11_accept : GoodIn wsX11_contents wsX11_accept := goodIn_r _ [17, 13, 18, 19, 20, 21, 22, 23, 24, 25, 26, 27, 28, 29] (by decide +kernel) (by decide +kernel)
set_option maxRecDepth 20000 in
theorem gX11_contents_X11_accept : GoodIn wsX11_contents (wsV RX11 79 RX11 yX11_accept wsX11_accept) := goodIn_app (goodIn_of _ (by decide +kernel)) ggX11_contents_X11_accept
set_option maxRecDepth 20000 in
theorem ggX11_gift_X11_isKind : GoodIn wsX11_gift wsX11_isKind := goodIn_r _ [10, 11, 12, 9, 13] (by decide +kernel) (by decide +kernel)
set_option maxRecDepth 20000 in
theorem gX11_gift_X11_isKind : GoodIn wsX11_gift (va_wsS RX11 67 yX11_isKind wsX11_isKind) := goodIn_app (goodIn_of _ (by decide +kernel)) ggX11_gift_X11_isKind
set_option maxRecDepth 20000 in
theorem ggX11_gift_X11_isWithin : GoodIn wsX11_gift wsX11_isWithin := goodIn_r _ [13] (by decide +kernel) (by decide +kernel)
set_option maxRecDepth 20000 in
theorem gX11_gift_X11_isWithin : GoodIn wsX11_gift (va_wsS RX11 71 yX11_isWithin wsX11_isWithin) := goodIn_app (goodIn_of _ (by decide +kernel)) ggX11_gift_X11_isWithin
set_option maxRecDepth 20000 in
theorem ggX11_gift_X11_refuse : GoodIn wsX11_gift wsX11_refuse := goodIn_r _ [17, 18, 114, 115, 116, 117, 118, 119, 120, 121, 122, 123, 124, 125] (by decide +kernel) (by decide +kernel)
set_option maxRecDepth 20000 in
theorem gX11_gift_X11_refuse : GoodIn wsX11_gift (wsV RX11 75 RX11 yX11_refuse wsX11_refuse) := goodIn_app (goodIn_of _ (by decide +kernel)) ggX11_gift_X11_refuse
set_option maxRecDepth 20000 in
theorem ggX11_gift_X7_size : GoodIn wsX11_gift wsX7_size := goodIn_r _ [23, 24, 25, 26, 27, 28, 29, 30, 137, 138, 139, 140, 141] (by decide +kernel) (by decide +kernel)
set_option maxRecDepth 20000 in
theorem gX11_gift_X7_size : GoodIn wsX11_gift (wsV RX11 83 RX7 yX7_size wsX7_size) := goodIn_app (goodIn_of _ (by decide +kernel)) ggX11_gift_X7_size
set_option maxRecDepth 20000 in
theorem ggX11_gift_X2_init : GoodIn wsX11_gift wsX2_init := goodIn_r _ [33, 34, 35, 36, 37, 38, 39, 40, 41, 42, 43, 44, 45, 46, 47, 126, 127, 128, 129, 130, 131, 132, 133, 134, 135, 136] (by decide +kernel) (by decide +kernel)
set_option maxRecDepth 20000 in
theorem gX11_gift_X2_init : GoodIn wsX11_gift (wsX2_init) := ggX11_gift_X2_init
set_option maxRecDepth 20000 in
theorem ggX11_gift_X7_add : GoodIn wsX11_gift wsX7_add := goodIn_r _ [51, 52, 24, 53, 54, 55, 8, 9, 10, 11, 12, 13, 56, 57, 58, 28, 59, 60, 61, 62, 30, 63, 64, 65, 66, 67, 68, 69, 70, 71, 72, 73, 74, 75, 76, 77, 78, 79, 80, 81, 82, 83, 84, 85, 86, 87, 88, 89, 90, 91, 92, 93, 94, 95, 96, 97, 98, 99, 100, 101, 102, 103, 104, 105, 106, 107, 108, 109, 126, 127, 128, 129, 130, 131, 132, 133, 134, 135, 136, 137, 138, 139, 140, 141] (by decide +kernel) (by decide +kernel)
set_option maxRecDepth 20000 in
theorem gX11_gift_X7_add : GoodIn wsX11_gift (wsV RX11 92 RX7 yX7_add wsX7_add) := goodIn_app (goodIn_of _ (by decide +kernel)) ggX11_gift_X7_add
set_option maxRecDepth 20000 in
theorem ggX11_gift_X11_accept : GoodIn wsX11_gift wsX11_accept := goodIn_r _ [113, 18, 114, 115, 116, 117, 118, 119, 120, 121, 122, 123, 124, 125] (by decide +kernel) (by decide +kernel)
set_option maxRecDepth 20000 in
theorem gX11_gift_X11_accept : GoodIn wsX11_gift (wsV RX11 79 RX11 yX11_accept wsX11_accept) := goodIn_app (goodIn_of _ (by decide +kernel)) ggX11_gift_X11_accept
set_option maxRecDepth 20000 in
theorem ggX11_lot_X7_find : GoodIn wsX11_lot wsX7_find := goodIn_r _ [6, 7, 8, 9, 10, 11, 12, 13, 14, 15, 16, 17, 18, 19, 20, 21, 22, 23, 24, 25, 26, 27, 28, 29, 30, 31, 32, 33, 34, 60, 61, 62, 63, 64] (by decide +kernel) (by decide +kernel)
set_option maxRecDepth 20000 in
theorem gX11_lot_X7_find : GoodIn wsX11_lot (wsV RX11 96 RX7 yX7_find wsX7_find) := goodIn_app (goodIn_of _ (by decide +kernel)) ggX11_lot_X7_find
set_option maxRecDepth 20000 in
theorem ggX11_lot_X2_tell : GoodIn wsX11_lot wsX2_tell := goodIn_r _ [39, 40, 41, 42, 43, 44, 45, 46, 47, 65, 66, 67, 68, 69, 70, 71, 72, 73, 74, 75] (by decide +kernel) (by decide +kernel)
set_option maxRecDepth 20000 in
theorem gX11_lot_X2_tell : GoodIn wsX11_lot (wsV RX11 100 RX2 yX2_tell wsX2_tell) := goodIn_app (goodIn_of _ (by decide +kernel)) ggX11_lot_X2_tell
set_option maxRecDepth 20000 in
theorem ggX11_table_Jx4a65c_size_8abf5 : GoodIn wsX11_table wsJx4a65c_size_8abf5 := goodIn_r _ [9, 10, 99, 100, 101] (by decide +kernel) (by decide +kernel)
set_option maxRecDepth 20000 in
theorem gX11_table_Jx4a65c_size_8abf5 : GoodIn wsX11_table (wsV RX11 103 RJx4a65c yJx4a65c_size_8abf5 wsJx4a65c_size_8abf5) := goodIn_app (goodIn_of _ (by decide +kernel)) ggX11_table_Jx4a65c_size_8abf5
set_option maxRecDepth 20000 in
theorem ggX11_table_X11_refuse : GoodIn wsX11_table wsX11_refuse := goodIn_r _ [15, 16, 84, 85, 86, 87, 88, 89, 90, 91, 92, 93, 94, 95] (by decide +kernel) (by decide +kernel)
set_option maxRecDepth 20000 in
theorem gX11_table_X11_refuse : GoodIn wsX11_table (wsV RX11 75 RX11 yX11_refuse wsX11_refuse) := goodIn_app (goodIn_of _ (by decide +kernel)) ggX11_table_X11_refuse
set_option maxRecDepth 20000 in
theorem ggX11_table_X8_init : GoodIn wsX11_table wsX8_init := goodIn_r _ [18, 19, 20, 21, 22, 23, 24, 25, 96, 97, 98] (by decide +kernel) (by decide +kernel)
set_option maxRecDepth 20000 in
theorem gX11_table_X8_init_n106 : GoodIn wsX11_table (wsX8_init) := ggX11_table_X8_init
set_option maxRecDepth 20000 in
theorem ggX11_table_Jx4a65c_add_9ea2d : GoodIn wsX11_table wsJx4a65c_add_9ea2d := goodIn_r _ [29, 30, 31, 32, 10, 33, 34, 35, 8, 36, 37, 38, 39, 40, 41, 42, 43, 44, 45, 46, 47, 48, 49, 50, 51, 52, 53, 54, 55, 56, 57, 58, 59, 60, 61, 62, 63, 64, 65, 66, 67, 68, 69, 70, 71, 72, 73, 74, 75, 76, 77, 78, 79, 99, 100, 101] (by decide +kernel) (by decide +kernel)
set_option maxRecDepth 20000 in
theorem gX11_table_Jx4a65c_add_9ea2d : GoodIn wsX11_table (wsV RX11 107 RJx4a65c yJx4a65c_add_9ea2d wsJx4a65c_add_9ea2d) := goodIn_app (goodIn_of _ (by decide +kernel)) ggX11_table_Jx4a65c_add_9ea2d
set_option maxRecDepth 20000 in
theorem ggX11_table_X11_accept : GoodIn wsX11_table wsX11_accept := goodIn_r _ [83, 16, 84, 85, 86, 87, 88, 89, 90, 91, 92, 93, 94, 95] (by decide +kernel) (by decide +kernel)
set_option maxRecDepth 20000 in
theorem gX11_table_X11_accept : GoodIn wsX11_table (wsV RX11 79 RX11 yX11_accept wsX11_accept) := goodIn_app (goodIn_of _ (by decide +kernel)) ggX11_table_X11_accept
set_option maxRecDepth 20000 in
theorem ggX11_family_X11_isWithin : GoodIn wsX11_family wsX11_isWithin := goodIn_r _ [8] (by decide +kernel) (by decide +kernel)
set_option maxRecDepth 20000 in
theorem gX11_family_X11_isWithin : GoodIn wsX11_family (va_wsS RX11 71 yX11_isWithin wsX11_isWithin) := goodIn_app (goodIn_of _ (by decide +kernel)) ggX11_family_X11_isWithin
set_option maxRecDepth 20000 in
theorem ggX11_family_X11_refuse : GoodIn wsX11_family wsX11_refuse := goodIn_r _ [12, 13, 111, 112, 113, 114, 115, 116, 117, 118, 119, 120, 121, 122] (by decide +kernel) (by decide +kernel)
set_option maxRecDepth 20000 in
theorem gX11_family_X11_refuse : GoodIn wsX11_family (wsV RX11 75 RX11 yX11_refuse wsX11_refuse) := goodIn_app (goodIn_of _ (by decide +kernel)) ggX11_family_X11_refuse
set_option maxRecDepth 20000 in
theorem ggX11_family_X11_findTable : GoodIn wsX11_family wsX11_findTable := goodIn_r _ [17, 18, 19, 20, 21, 22, 23, 24, 25, 5, 6, 7, 8, 26, 27, 28, 29, 30, 31, 32, 33, 34, 35, 36, 37, 38, 39, 40, 41, 42, 111, 112, 113, 114, 115, 116, 117, 118, 119, 120, 121, 122, 127, 128, 129] (by decide +kernel) (by decide +kernel)
set_option maxRecDepth 20000 in
theorem gX11_family_X11_findTable : GoodIn wsX11_family (wsV RX11 110 RX11 yX11_findTable wsX11_findTable) := goodIn_app (goodIn_of _ (by decide +kernel)) ggX11_family_X11_findTable
set_option maxRecDepth 20000 in
theorem ggX11_family_Jx4a65c_size_8abf5 : GoodIn wsX11_family wsJx4a65c_size_8abf5 := goodIn_r _ [24, 25, 127, 128, 129] (by decide +kernel) (by decide +kernel)
set_option maxRecDepth 20000 in
theorem gX11_family_Jx4a65c_size_8abf5 : GoodIn wsX11_family (wsV RX11 103 RJx4a65c yJx4a65c_size_8abf5 wsJx4a65c_size_8abf5) := goodIn_app (goodIn_of _ (by decide +kernel)) ggX11_family_Jx4a65c_size_8abf5
set_option maxRecDepth 20000 in
theorem ggX11_family_X0_init : GoodIn wsX11_family wsX0_init := goodIn_r _ [45, 46, 47, 48, 49, 50, 51, 52, 53, 123, 124, 125, 126] (by decide +kernel) (by decide +kernel)
set_option maxRecDepth 20000 in
theorem gX11_family_X0_init : GoodIn wsX11_family (wsX0_init) := ggX11_family_X0_init
set_option maxRecDepth 20000 in
theorem ggX11_family_Jx4a65c_add_9ea2d : GoodIn wsX11_family wsJx4a65c_add_9ea2d := goodIn_r _ [57, 58, 59, 42, 25, 60, 61, 62, 23, 63, 64, 65, 66, 67, 68, 69, 70, 71, 72, 73, 74, 75, 76, 77, 78, 79, 80, 81, 82, 83, 84, 85, 86, 87, 88, 89, 90, 91, 92, 93, 94, 95, 96, 97, 98, 99, 100, 101, 102, 103, 104, 105, 106, 127, 128, 129] (by decide +kernel) (by decide +kernel)
set_option maxRecDepth 20000 in
theorem gX11_family_Jx4a65c_add_9ea2d : GoodIn wsX11_family (wsV RX11 107 RJx4a65c yJx4a65c_add_9ea2d wsJx4a65c_add_9ea2d) := goodIn_app (goodIn_of _ (by decide +kernel)) ggX11_family_Jx4a65c_add_9ea2d
set_option maxRecDepth 20000 in
theorem ggX11_family_X11_accept : GoodIn wsX11_family wsX11_accept := goodIn_r _ [110, 13, 111, 112, 113, 114, 115, 116, 117, 118, 119, 120, 121, 122] (by decide +kernel) (by decide +kernel)
set_option maxRecDepth 20000 in
theorem gX11_family_X11_accept : GoodIn wsX11_family (wsV RX11 79 RX11 yX11_accept wsX11_accept) := goodIn_app (goodIn_of _ (by decide +kernel)) ggX11_family_X11_accept
set_option maxRecDepth 20000 in
theorem ggX11_refer_X11_isWithin : GoodIn wsX11_refer wsX11_isWithin := goodIn_r _ [9] (by decide +kernel) (by decide +kernel)
set_option maxRecDepth 20000 in
theorem gX11_refer_X11_isWithin : GoodIn wsX11_refer (va_wsS RX11 71 yX11_isWithin wsX11_isWithin) := goodIn_app (goodIn_of _ (by decide +kernel)) ggX11_refer_X11_isWithin
set_option maxRecDepth 20000 in
theorem ggX11_refer_X11_refuse : GoodIn wsX11_refer wsX11_refuse := goodIn_r _ [13, 14, 58, 59, 60, 61, 62, 63, 64, 65, 66, 67, 68, 69] (by decide +kernel) (by decide +kernel)
set_option maxRecDepth 20000 in
theorem gX11_refer_X11_refuse : GoodIn wsX11_refer (wsV RX11 75 RX11 yX11_refuse wsX11_refuse) := goodIn_app (goodIn_of _ (by decide +kernel)) ggX11_refer_X11_refuse
set_option maxRecDepth 20000 in
theorem ggX11_refer_X11_findFamily : GoodIn wsX11_refer wsX11_findFamily := goodIn_r _ [18, 19, 20, 21, 22, 23, 24, 25, 26, 6, 7, 8, 9, 27, 28, 29, 30, 31, 32, 33, 34, 35, 36, 37, 38, 39, 40, 41, 42, 43, 58, 59, 60, 61, 62, 63, 64, 65, 66, 67, 68, 69, 78, 79, 80] (by decide +kernel) (by decide +kernel)
set_option maxRecDepth 20000 in
theorem gX11_refer_X11_findFamily : GoodIn wsX11_refer (wsV RX11 119 RX11 yX11_findFamily wsX11_findFamily) := goodIn_app (goodIn_of _ (by decide +kernel)) ggX11_refer_X11_findFamily
set_option maxRecDepth 20000 in
theorem ggX11_refer_X4_init : GoodIn wsX11_refer wsX4_init := goodIn_r _ [46, 47, 48, 49, 50, 51, 52, 53, 70, 71, 72, 73] (by decide +kernel) (by decide +kernel)
set_option maxRecDepth 20000 in
theorem gX11_refer_X4_init : GoodIn wsX11_refer (wsX4_init) := ggX11_refer_X4_init
set_option maxRecDepth 20000 in
theorem ggX11_refer_X11_accept : GoodIn wsX11_refer wsX11_accept := goodIn_r _ [57, 14, 58, 59, 60, 61, 62, 63, 64, 65, 66, 67, 68, 69] (by decide +kernel) (by decide +kernel)
set_option maxRecDepth 20000 in
theorem gX11_refer_X11_accept : GoodIn wsX11_refer (wsV RX11 79 RX11 yX11_accept wsX11_accept) := goodIn_app (goodIn_of _ (by decide +kernel)) ggX11_refer_X11_accept
set_option maxRecDepth 20000 in
theorem ggX11_allowed_X11_findFamily : GoodIn wsX11_allowed wsX11_findFamily := goodIn_r _ [5, 6, 7, 8, 9, 10, 11, 12, 13, 14, 15, 4, 16, 17, 18, 19, 20, 21, 22, 23, 24, 25, 26, 27, 28, 29, 30, 31, 32, 33, 49, 50, 51, 52, 53, 54, 55, 56, 57, 58, 59, 60, 61, 62, 63] (by decide +kernel) (by decide +kernel)
set_option maxRecDepth 20000 in
theorem gX11_allowed_X11_findFamily : GoodIn wsX11_allowed (wsV RX11 119 RX11 yX11_findFamily wsX11_findFamily) := goodIn_app (goodIn_of _ (by decide +kernel)) ggX11_allowed_X11_findFamily
set_option maxRecDepth 20000 in
theorem ggX11_allowed_X11_isWithin : GoodIn wsX11_allowed wsX11_isWithin := goodIn_r _ [16] (by decide +kernel) (by decide +kernel)
set_option maxRecDepth 20000 in
theorem gX11_allowed_X11_isWithin : GoodIn wsX11_allowed (va_wsS RX11 71 yX11_isWithin wsX11_isWithin) := goodIn_app (goodIn_of _ (by decide +kernel)) ggX11_allowed_X11_isWithin
set_option maxRecDepth 20000 in
theorem ggX11_allowed_X0_parcelsLeftOn : GoodIn wsX11_allowed wsX0_parcelsLeftOn := goodIn_r _ [38, 39, 40, 41, 42, 43, 44, 45, 46, 47, 48, 15, 4, 16, 64, 65, 66, 67, 68, 69, 70, 71] (by decide +kernel) (by decide +kernel)
set_option maxRecDepth 20000 in
theorem gX11_allowed_X0_parcelsLeftOn : GoodIn wsX11_allowed (wsV RX11 132 RX0 yX0_parcelsLeftOn wsX0_parcelsLeftOn) := goodIn_app (goodIn_of _ (by decide +kernel)) ggX11_allowed_X0_parcelsLeftOn
set_option maxRecDepth 20000 in
theorem ggX11_need_X11_findFamily : GoodIn wsX11_need wsX11_findFamily := goodIn_r _ [7, 8, 9, 10, 11, 12, 13, 14, 15, 16, 17, 6, 18, 19, 20, 21, 22, 23, 24, 25, 26, 27, 28, 29, 30, 31, 32, 33, 34, 35, 53, 54, 55, 56, 57, 58, 59, 60, 61, 62, 63, 64, 69, 70, 71] (by decide +kernel) (by decide +kernel)
set_option maxRecDepth 20000 in
theorem gX11_need_X11_findFamily : GoodIn wsX11_need (wsV RX11 119 RX11 yX11_findFamily wsX11_findFamily) := goodIn_app (goodIn_of _ (by decide +kernel)) ggX11_need_X11_findFamily
set_option maxRecDepth 20000 in
theorem ggX11_need_X11_isKind : GoodIn wsX11_need wsX11_isKind := goodIn_r _ [38, 16, 17, 6, 18] (by decide +kernel) (by decide +kernel)
set_option maxRecDepth 20000 in
theorem gX11_need_X11_isKind : GoodIn wsX11_need (va_wsS RX11 67 yX11_isKind wsX11_isKind) := goodIn_app (goodIn_of _ (by decide +kernel)) ggX11_need_X11_isKind
set_option maxRecDepth 20000 in
theorem ggX11_need_X6_gramsNeeded : GoodIn wsX11_need wsX6_gramsNeeded := goodIn_r _ [43, 44, 45, 46, 47, 48, 49, 42, 50, 51, 52, 17, 6, 18, 72, 73, 74, 75, 76] (by decide +kernel) (by decide +kernel)
set_option maxRecDepth 20000 in
theorem gX11_need_X6_gramsNeeded : GoodIn wsX11_need (wsV RX11 138 RX6 yX6_gramsNeeded wsX6_gramsNeeded) := goodIn_app (goodIn_of _ (by decide +kernel)) ggX11_need_X6_gramsNeeded
set_option maxRecDepth 20000 in
theorem ggX11_parcel_X11_findFamily : GoodIn wsX11_parcel wsX11_findFamily := goodIn_r _ [12, 13, 14, 15, 16, 17, 18, 19, 20, 21, 22, 11, 23, 24, 25, 26, 27, 28, 29, 30, 31, 32, 33, 34, 35, 36, 37, 38, 39, 40, 239, 240, 241, 242, 243, 244, 245, 246, 247, 248, 249, 250, 260, 261, 262] (by decide +kernel) (by decide +kernel)
set_option maxRecDepth 20000 in
theorem gX11_parcel_X11_findFamily : GoodIn wsX11_parcel (wsV RX11 119 RX11 yX11_findFamily wsX11_findFamily) := goodIn_app (goodIn_of _ (by decide +kernel)) ggX11_parcel_X11_findFamily
set_option maxRecDepth 20000 in
theorem ggX11_parcel_X11_refuse : GoodIn wsX11_parcel wsX11_refuse := goodIn_r _ [44, 45, 239, 240, 241, 242, 243, 244, 245, 246, 247, 248, 249, 250] (by decide +kernel) (by decide +kernel)
set_option maxRecDepth 20000 in
theorem gX11_parcel_X11_refuse : GoodIn wsX11_parcel (wsV RX11 75 RX11 yX11_refuse wsX11_refuse) := goodIn_app (goodIn_of _ (by decide +kernel)) ggX11_parcel_X11_refuse
set_option maxRecDepth 20000 in
theorem ggX11_parcel_X0_referralFor : GoodIn wsX11_parcel wsX0_referralFor := goodIn_r _ [50, 51, 52, 53, 54, 55, 56, 57, 58, 59, 60, 61, 22, 11, 23, 263, 264, 265, 266, 256, 257, 258, 259] (by decide +kernel) (by decide +kernel)
set_option maxRecDepth 20000 in
theorem gX11_parcel_X0_referralFor : GoodIn wsX11_parcel (wsV RX11 142 RX0 yX0_referralFor wsX0_referralFor) := goodIn_app (goodIn_of _ (by decide +kernel)) ggX11_parcel_X0_referralFor
set_option maxRecDepth 20000 in
theorem ggX11_parcel_X3_init : GoodIn wsX11_parcel wsX3_init := goodIn_r _ [64, 65, 66, 67, 68, 69, 18, 70, 71, 72, 73, 74, 75, 76, 77, 78, 40, 79, 80, 81, 82, 83, 84, 85, 86, 87, 88, 260, 261, 262, 251, 252, 253, 254, 255] (by decide +kernel) (by decide +kernel)
set_option maxRecDepth 20000 in
theorem gX11_parcel_X3_init : GoodIn wsX11_parcel (wsX3_init) := ggX11_parcel_X3_init
set_option maxRecDepth 20000 in
theorem ggX11_parcel_X11_pack : GoodIn wsX11_parcel wsX11_pack := goodIn_r _ [92, 93, 94, 95, 96, 97, 98, 99, 100, 101, 102, 103, 104, 105, 106, 107, 108, 109, 110, 22, 11, 23, 111, 112, 113, 114, 115, 116, 117, 118, 119, 120, 21, 121, 122, 123, 124, 1, 125, 126, 127, 128, 129, 130, 131, 132, 133, 134, 135, 136, 137, 138, 139, 140, 141, 142, 143, 144, 145, 146, 147, 148, 149, 150, 151, 152, 153, 154, 155, 156, 157, 158, 159, 160, 161, 162, 163, 4, 164, 70, 165, 166, 167, 71, 168, 169, 170, 171, 66, 67, 172, 173, 174, 175, 176, 18, 177, 178, 179, 40, 20, 180, 181, 182, 183, 184, 185, 186, 187, 188, 189, 190, 191, 78, 192, 193, 194, 195, 196, 197, 198, 199, 200, 201, 202, 203, 204, 205, 206, 207, 208, 209, 210, 211, 212, 213, 214, 215, 216, 217, 218, 219, 220, 221, 222, 223, 49, 224, 225, 226, 227, 228, 229, 239, 240, 241, 242, 243, 244, 245, 246, 247, 248, 249, 250, 263, 264, 265, 266, 267, 268, 269, 270, 271, 251, 252, 253, 254, 255, 272, 273, 274, 275, 276, 277, 278, 279, 280, 281, 282, 283, 284, 285, 286, 260, 261, 262] (by decide +kernel) (by decide +kernel)
set_option maxRecDepth 20000 in
theorem gX11_parcel_X11_pack : GoodIn wsX11_parcel (wsV RX11 149 RX11 yX11_pack wsX11_pack) := goodIn_app (goodIn_of _ (by decide +kernel)) ggX11_parcel_X11_pack
set_option maxRecDepth 20000 in
theorem ggX11_parcel_Jx4a65c_isEmpty_aae02 : GoodIn wsX11_parcel wsJx4a65c_isEmpty_aae02 := goodIn_r _ [233, 20, 260, 261, 262] (by decide +kernel) (by decide +kernel)
set_option maxRecDepth 20000 in
theorem gX11_parcel_Jx4a65c_isEmpty_aae02 : GoodIn wsX11_parcel (wsV RX11 156 RJx4a65c yJx4a65c_isEmpty_aae02 wsJx4a65c_isEmpty_aae02) := goodIn_app (goodIn_of _ (by decide +kernel)) ggX11_parcel_Jx4a65c_isEmpty_aae02
set_option maxRecDepth 20000 in
theorem ggX11_parcel_Jx4a65c_add_9ea2d : GoodIn wsX11_parcel wsJx4a65c_add_9ea2d := goodIn_r _ [177, 178, 179, 40, 20, 180, 181, 182, 18, 183, 184, 185, 186, 187, 188, 189, 190, 191, 78, 192, 130, 131, 132, 193, 194, 195, 196, 197, 198, 199, 200, 201, 202, 203, 204, 205, 206, 207, 208, 209, 210, 211, 212, 213, 214, 215, 216, 159, 160, 217, 218, 219, 220, 260, 261, 262] (by decide +kernel) (by decide +kernel)
set_option maxRecDepth 20000 in
theorem gX11_parcel_Jx4a65c_add_9ea2d : GoodIn wsX11_parcel (wsV RX11 107 RJx4a65c yJx4a65c_add_9ea2d wsJx4a65c_add_9ea2d) := goodIn_app (goodIn_of _ (by decide +kernel)) ggX11_parcel_Jx4a65c_add_9ea2d
set_option maxRecDepth 20000 in
theorem ggX11_parcel_Jx4a65c_size_8abf5 : GoodIn wsX11_parcel wsJx4a65c_size_8abf5 := goodIn_r _ [19, 20, 260, 261, 262] (by decide +kernel) (by decide +kernel)
set_option maxRecDepth 20000 in
theorem gX11_parcel_Jx4a65c_size_8abf5 : GoodIn wsX11_parcel (wsV RX11 103 RJx4a65c yJx4a65c_size_8abf5 wsJx4a65c_size_8abf5) := goodIn_app (goodIn_of _ (by decide +kernel)) ggX11_parcel_Jx4a65c_size_8abf5
set_option maxRecDepth 20000 in
theorem ggX11_parcel_X11_accept : GoodIn wsX11_parcel wsX11_accept := goodIn_r _ [238, 45, 239, 240, 241, 242, 243, 244, 245, 246, 247, 248, 249, 250] (by decide +kernel) (by decide +kernel)
set_option maxRecDepth 20000 in
theorem gX11_parcel_X11_accept : GoodIn wsX11_parcel (wsV RX11 79 RX11 yX11_accept wsX11_accept) := goodIn_app (goodIn_of _ (by decide +kernel)) ggX11_parcel_X11_accept
set_option maxRecDepth 20000 in
theorem ggX11_of_Jx4a65c_size_8abf5 : GoodIn wsX11_of wsJx4a65c_size_8abf5 := goodIn_r _ [7, 8, 57, 58, 59] (by decide +kernel) (by decide +kernel)
set_option maxRecDepth 20000 in
theorem gX11_of_Jx4a65c_size_8abf5 : GoodIn wsX11_of (wsV RX11 103 RJx4a65c yJx4a65c_size_8abf5 wsJx4a65c_size_8abf5) := goodIn_app (goodIn_of _ (by decide +kernel)) ggX11_of_Jx4a65c_size_8abf5
set_option maxRecDepth 20000 in
theorem ggX11_of_X11_isWithin : GoodIn wsX11_of wsX11_isWithin := goodIn_r _ [12] (by decide +kernel) (by decide +kernel)
set_option maxRecDepth 20000 in
theorem gX11_of_X11_isWithin : GoodIn wsX11_of (va_wsS RX11 71 yX11_isWithin wsX11_isWithin) := goodIn_app (goodIn_of _ (by decide +kernel)) ggX11_of_X11_isWithin
set_option maxRecDepth 20000 in
theorem ggX11_of_Jx4a65c_get_915e3 : GoodIn wsX11_of wsJx4a65c_get_915e3 := goodIn_r _ [16, 8, 17, 18, 19, 20, 21, 22, 23, 24, 25, 26, 27, 6, 28, 29, 57, 58, 59] (by decide +kernel) (by decide +kernel)
set_option maxRecDepth 20000 in
theorem gX11_of_Jx4a65c_get_915e3 : GoodIn wsX11_of (wsV RX11 163 RJx4a65c yJx4a65c_get_915e3 wsJx4a65c_get_915e3) := goodIn_app (goodIn_of _ (by decide +kernel)) ggX11_of_Jx4a65c_get_915e3
set_option maxRecDepth 20000 in
theorem ggX11_of_X3_tell : GoodIn wsX11_of wsX3_tell := goodIn_r _ [34, 35, 36, 37, 38, 39, 40, 41, 42, 43, 4, 5, 6, 7, 8, 10, 11, 12, 44, 14, 15, 16, 17, 18, 19, 20, 21, 22, 23, 24, 25, 26, 27, 28, 29, 60, 61, 62, 63, 64, 65, 66, 57, 58, 59] (by decide +kernel) (by decide +kernel)
set_option maxRecDepth 20000 in
theorem gX11_of_X3_tell : GoodIn wsX11_of (wsV RX11 167 RX3 yX3_tell wsX3_tell) := goodIn_app (goodIn_of _ (by decide +kernel)) ggX11_of_X3_tell
set_option maxRecDepth 20000 in
theorem ggX11_go_X11_isWithin : GoodIn wsX11_go wsX11_isWithin := goodIn_r _ [6] (by decide +kernel) (by decide +kernel)
set_option maxRecDepth 20000 in
theorem gX11_go_X11_isWithin : GoodIn wsX11_go (va_wsS RX11 71 yX11_isWithin wsX11_isWithin) := goodIn_app (goodIn_of _ (by decide +kernel)) ggX11_go_X11_isWithin
set_option maxRecDepth 20000 in
theorem ggX11_go_X11_refuse : GoodIn wsX11_go wsX11_refuse := goodIn_r _ [10, 11, 59, 60, 61, 62, 63, 64, 65, 66, 67, 68, 69, 70] (by decide +kernel) (by decide +kernel)
set_option maxRecDepth 20000 in
theorem gX11_go_X11_refuse : GoodIn wsX11_go (wsV RX11 75 RX11 yX11_refuse wsX11_refuse) := goodIn_app (goodIn_of _ (by decide +kernel)) ggX11_go_X11_refuse
set_option maxRecDepth 20000 in
theorem ggX11_go_X7_spoilBefore : GoodIn wsX11_go wsX7_spoilBefore := goodIn_r _ [16, 17, 18, 19, 20, 21, 22, 23, 24, 25, 26, 27, 28, 29, 30, 31, 32, 33, 34, 35, 36, 37, 38, 39, 40, 41, 42, 43, 44, 45, 46, 47, 48, 49, 50, 51, 52, 53, 54, 71, 72, 73, 74, 75, 76, 77, 78, 79, 80, 81, 82, 83, 84, 85, 86] (by decide +kernel) (by decide +kernel)
set_option maxRecDepth 20000 in
theorem gX11_go_X7_spoilBefore : GoodIn wsX11_go (wsV RX11 168 RX7 yX7_spoilBefore wsX7_spoilBefore) := goodIn_app (goodIn_of _ (by decide +kernel)) ggX11_go_X7_spoilBefore
set_option maxRecDepth 20000 in
theorem ggX11_go_X11_accept : GoodIn wsX11_go wsX11_accept := goodIn_r _ [58, 11, 59, 60, 61, 62, 63, 64, 65, 66, 67, 68, 69, 70] (by decide +kernel) (by decide +kernel)
set_option maxRecDepth 20000 in
theorem gX11_go_X11_accept : GoodIn wsX11_go (wsV RX11 79 RX11 yX11_accept wsX11_accept) := goodIn_app (goodIn_of _ (by decide +kernel)) ggX11_go_X11_accept
set_option maxRecDepth 20000 in
theorem ggX11_want_X11_isKind : GoodIn wsX11_want wsX11_isKind := goodIn_r _ [6, 7, 8, 5, 9] (by decide +kernel) (by decide +kernel)
set_option maxRecDepth 20000 in
theorem gX11_want_X11_isKind : GoodIn wsX11_want (va_wsS RX11 67 yX11_isKind wsX11_isKind) := goodIn_app (goodIn_of _ (by decide +kernel)) ggX11_want_X11_isKind
set_option maxRecDepth 20000 in
theorem ggX11_want_X11_isWithin : GoodIn wsX11_want wsX11_isWithin := goodIn_r _ [9] (by decide +kernel) (by decide +kernel)
set_option maxRecDepth 20000 in
theorem gX11_want_X11_isWithin : GoodIn wsX11_want (va_wsS RX11 71 yX11_isWithin wsX11_isWithin) := goodIn_app (goodIn_of _ (by decide +kernel)) ggX11_want_X11_isWithin
set_option maxRecDepth 20000 in
theorem ggX11_want_X11_refuse : GoodIn wsX11_want wsX11_refuse := goodIn_r _ [13, 14, 51, 52, 53, 54, 55, 56, 57, 58, 59, 60, 61, 62] (by decide +kernel) (by decide +kernel)
set_option maxRecDepth 20000 in
theorem gX11_want_X11_refuse : GoodIn wsX11_want (wsV RX11 75 RX11 yX11_refuse wsX11_refuse) := goodIn_app (goodIn_of _ (by decide +kernel)) ggX11_want_X11_refuse
set_option maxRecDepth 20000 in
theorem ggX11_want_X11_findTable : GoodIn wsX11_want wsX11_findTable := goodIn_r _ [18, 19, 20, 21, 22, 23, 24, 25, 26, 7, 8, 5, 9, 27, 28, 29, 30, 31, 32, 33, 34, 35, 36, 37, 38, 39, 40, 41, 42, 43, 51, 52, 53, 54, 55, 56, 57, 58, 59, 60, 61, 62, 63, 64, 65] (by decide +kernel) (by decide +kernel)
set_option maxRecDepth 20000 in
theorem gX11_want_X11_findTable : GoodIn wsX11_want (wsV RX11 110 RX11 yX11_findTable wsX11_findTable) := goodIn_app (goodIn_of _ (by decide +kernel)) ggX11_want_X11_findTable
set_option maxRecDepth 20000 in
theorem ggX11_want_X11_accept : GoodIn wsX11_want wsX11_accept := goodIn_r _ [47, 14, 51, 52, 53, 54, 55, 56, 57, 58, 59, 60, 61, 62] (by decide +kernel) (by decide +kernel)
set_option maxRecDepth 20000 in
theorem gX11_want_X11_accept : GoodIn wsX11_want (wsV RX11 79 RX11 yX11_accept wsX11_accept) := goodIn_app (goodIn_of _ (by decide +kernel)) ggX11_want_X11_accept
set_option maxRecDepth 20000 in
theorem ggX11_part_X11_isKind : GoodIn wsX11_part wsX11_isKind := goodIn_r _ [5, 6, 7, 4, 8] (by decide +kernel) (by decide +kernel)
set_option maxRecDepth 20000 in
theorem gX11_part_X11_isKind : GoodIn wsX11_part (va_wsS RX11 67 yX11_isKind wsX11_isKind) := goodIn_app (goodIn_of _ (by decide +kernel)) ggX11_part_X11_isKind
set_option maxRecDepth 20000 in
theorem ggX11_part_X11_refuse : GoodIn wsX11_part wsX11_refuse := goodIn_r _ [12, 13, 113, 114, 115, 116, 117, 118, 119, 120, 121, 122, 123, 124] (by decide +kernel) (by decide +kernel)
set_option maxRecDepth 20000 in
theorem gX11_part_X11_refuse : GoodIn wsX11_part (wsV RX11 75 RX11 yX11_refuse wsX11_refuse) := goodIn_app (goodIn_of _ (by decide +kernel)) ggX11_part_X11_refuse
set_option maxRecDepth 20000 in
theorem ggX11_part_X11_earliestLastDay : GoodIn wsX11_part wsX11_earliestLastDay := goodIn_r _ [17, 18, 19, 20, 21, 22, 23, 24, 25, 26, 27, 28, 29, 30, 31, 32, 33, 34, 35, 36, 7, 4, 8, 113, 114, 115, 116, 117, 118, 119, 120, 121, 122, 123, 124, 125, 126, 127, 128, 129] (by decide +kernel) (by decide +kernel)
set_option maxRecDepth 20000 in
theorem gX11_part_X11_earliestLastDay : GoodIn wsX11_part (wsV RX11 175 RX11 yX11_earliestLastDay wsX11_earliestLastDay) := goodIn_app (goodIn_of _ (by decide +kernel)) ggX11_part_X11_earliestLastDay
set_option maxRecDepth 20000 in
theorem ggX11_part_X7_gramsThatMayGo : GoodIn wsX11_part wsX7_gramsThatMayGo := goodIn_r _ [41, 42, 43, 44, 45, 46, 40, 47, 48, 3, 4, 5, 6, 7, 8, 49, 50, 51, 52, 53, 54, 55, 130, 131, 132, 133, 134, 135, 136, 137, 138, 139, 140, 141, 142] (by decide +kernel) (by decide +kernel)
set_option maxRecDepth 20000 in
theorem gX11_part_X7_gramsThatMayGo : GoodIn wsX11_part (wsV RX11 178 RX7 yX7_gramsThatMayGo wsX7_gramsThatMayGo) := goodIn_app (goodIn_of _ (by decide +kernel)) ggX11_part_X7_gramsThatMayGo
set_option maxRecDepth 20000 in
theorem ggX11_part_X11_levelFor : GoodIn wsX11_part wsX11_levelFor := goodIn_r _ [59, 60, 61, 62, 63, 4, 64, 65, 66, 67, 68, 69, 29, 70, 71, 72, 73, 74, 75, 76, 77, 78, 79, 80, 81, 82, 83, 84, 85, 86, 87, 88, 89, 90, 91, 92, 93, 113, 114, 115, 116, 117, 118, 119, 120, 121, 122, 123, 124, 143, 144, 145, 146, 147, 148] (by decide +kernel) (by decide +kernel)
set_option maxRecDepth 20000 in
theorem gX11_part_X11_levelFor : GoodIn wsX11_part (wsV RX11 181 RX11 yX11_levelFor wsX11_levelFor) := goodIn_app (goodIn_of _ (by decide +kernel)) ggX11_part_X11_levelFor
set_option maxRecDepth 20000 in
theorem ggX11_part_X11_wantedUpTo : GoodIn wsX11_part wsX11_wantedUpTo := goodIn_r _ [64, 65, 66, 67, 68, 69, 29, 70, 71, 72, 73, 74, 75, 76, 77, 78, 79, 80, 81, 82, 83, 84, 85, 86, 87, 88, 89, 90, 91, 92, 93, 113, 114, 115, 116, 117, 118, 119, 120, 121, 122, 123, 124, 143, 144, 145, 146, 147, 148] (by decide +kernel) (by decide +kernel)
set_option maxRecDepth 20000 in
theorem gX11_part_X11_wantedUpTo : GoodIn wsX11_part (wsV RX11 184 RX11 yX11_wantedUpTo wsX11_wantedUpTo) := goodIn_app (goodIn_of _ (by decide +kernel)) ggX11_part_X11_wantedUpTo
set_option maxRecDepth 20000 in
theorem ggX11_part_X11_partAtLevel : GoodIn wsX11_part wsX11_partAtLevel := goodIn_r _ [97, 65, 66, 67, 68, 69, 29, 70, 98, 71, 72, 73, 74, 75, 76, 77, 78, 79, 80, 81, 82, 83, 84, 85, 86, 87, 88, 89, 90, 91, 92, 93, 113, 114, 115, 116, 117, 118, 119, 120, 121, 122, 123, 124, 143, 144, 145, 146, 147, 148] (by decide +kernel) (by decide +kernel)
set_option maxRecDepth 20000 in
theorem gX11_part_X11_partAtLevel : GoodIn wsX11_part (wsV RX11 187 RX11 yX11_partAtLevel wsX11_partAtLevel) := goodIn_app (goodIn_of _ (by decide +kernel)) ggX11_part_X11_partAtLevel
set_option maxRecDepth 20000 in
theorem ggX11_part_X7_partOut : GoodIn wsX11_part wsX7_partOut := goodIn_r _ [102, 103, 43, 44, 45, 46, 40, 47, 48, 3, 4, 5, 6, 7, 8, 49, 50, 51, 52, 53, 54, 55, 104, 105, 106, 107, 108, 69, 29, 70, 130, 131, 132, 133, 134, 135, 136, 137, 138, 139, 140, 141, 142] (by decide +kernel) (by decide +kernel)
set_option maxRecDepth 20000 in
theorem gX11_part_X7_partOut : GoodIn wsX11_part (wsV RX11 191 RX7 yX7_partOut wsX7_partOut) := goodIn_app (goodIn_of _ (by decide +kernel)) ggX11_part_X7_partOut
set_option maxRecDepth 20000 in
theorem ggX11_part_X11_accept : GoodIn wsX11_part wsX11_accept := goodIn_r _ [112, 13, 113, 114, 115, 116, 117, 118, 119, 120, 121, 122, 123, 124] (by decide +kernel) (by decide +kernel)
set_option maxRecDepth 20000 in
theorem gX11_part_X11_accept : GoodIn wsX11_part (wsV RX11 79 RX11 yX11_accept wsX11_accept) := goodIn_app (goodIn_of _ (by decide +kernel)) ggX11_part_X11_accept
set_option maxRecDepth 20000 in
theorem ggX11_got_X11_findTable : GoodIn wsX11_got wsX11_findTable := goodIn_r _ [6, 7, 8, 9, 10, 11, 12, 13, 14, 15, 16, 5, 17, 18, 19, 20, 21, 22, 23, 24, 25, 26, 27, 28, 29, 30, 31, 32, 33, 34, 41, 42, 43, 44, 45, 46, 47, 48, 49, 50, 51, 52, 53, 54, 55] (by decide +kernel) (by decide +kernel)
set_option maxRecDepth 20000 in
theorem gX11_got_X11_findTable : GoodIn wsX11_got (wsV RX11 110 RX11 yX11_findTable wsX11_findTable) := goodIn_app (goodIn_of _ (by decide +kernel)) ggX11_got_X11_findTable
set_option maxRecDepth 20000 in
theorem ggX11_got_X11_isKind : GoodIn wsX11_got wsX11_isKind := goodIn_r _ [37, 15, 16, 5, 17] (by decide +kernel) (by decide +kernel)
set_option maxRecDepth 20000 in
theorem gX11_got_X11_isKind : GoodIn wsX11_got (va_wsS RX11 67 yX11_isKind wsX11_isKind) := goodIn_app (goodIn_of _ (by decide +kernel)) ggX11_got_X11_isKind
set_option maxRecDepth 20000 in
theorem ggX11_road_X11_isWithin : GoodIn wsX11_road wsX11_isWithin := goodIn_r _ [6] (by decide +kernel) (by decide +kernel)
set_option maxRecDepth 20000 in
theorem gX11_road_X11_isWithin : GoodIn wsX11_road (va_wsS RX11 71 yX11_isWithin wsX11_isWithin) := goodIn_app (goodIn_of _ (by decide +kernel)) ggX11_road_X11_isWithin
set_option maxRecDepth 20000 in
theorem ggX11_road_X11_refuse : GoodIn wsX11_road wsX11_refuse := goodIn_r _ [10, 11, 16, 17, 18, 19, 20, 21, 22, 23, 24, 25, 26, 27] (by decide +kernel) (by decide +kernel)
set_option maxRecDepth 20000 in
theorem gX11_road_X11_refuse : GoodIn wsX11_road (wsV RX11 75 RX11 yX11_refuse wsX11_refuse) := goodIn_app (goodIn_of _ (by decide +kernel)) ggX11_road_X11_refuse
set_option maxRecDepth 20000 in
theorem ggX11_road_X11_accept : GoodIn wsX11_road wsX11_accept := goodIn_r _ [15, 11, 16, 17, 18, 19, 20, 21, 22, 23, 24, 25, 26, 27] (by decide +kernel) (by decide +kernel)
set_option maxRecDepth 20000 in
theorem gX11_road_X11_accept : GoodIn wsX11_road (wsV RX11 79 RX11 yX11_accept wsX11_accept) := goodIn_app (goodIn_of _ (by decide +kernel)) ggX11_road_X11_accept
set_option maxRecDepth 20000 in
theorem ggX11_load_X11_isWithin : GoodIn wsX11_load wsX11_isWithin := goodIn_r _ [6] (by decide +kernel) (by decide +kernel)
set_option maxRecDepth 20000 in
theorem gX11_load_X11_isWithin : GoodIn wsX11_load (va_wsS RX11 71 yX11_isWithin wsX11_isWithin) := goodIn_app (goodIn_of _ (by decide +kernel)) ggX11_load_X11_isWithin
set_option maxRecDepth 20000 in
theorem ggX11_load_X11_refuse : GoodIn wsX11_load wsX11_refuse := goodIn_r _ [10, 11, 52, 53, 54, 55, 56, 57, 58, 59, 60, 61, 62, 63] (by decide +kernel) (by decide +kernel)
set_option maxRecDepth 20000 in
theorem gX11_load_X11_refuse : GoodIn wsX11_load (wsV RX11 75 RX11 yX11_refuse wsX11_refuse) := goodIn_app (goodIn_of _ (by decide +kernel)) ggX11_load_X11_refuse
set_option maxRecDepth 20000 in
theorem ggX11_load_X11_findTable : GoodIn wsX11_load wsX11_findTable := goodIn_r _ [15, 16, 17, 18, 19, 20, 21, 22, 23, 3, 4, 5, 6, 24, 25, 26, 27, 28, 29, 30, 31, 32, 33, 34, 35, 36, 37, 38, 39, 40, 52, 53, 54, 55, 56, 57, 58, 59, 60, 61, 62, 63, 64, 65, 66] (by decide +kernel) (by decide +kernel)
set_option maxRecDepth 20000 in
theorem gX11_load_X11_findTable : GoodIn wsX11_load (wsV RX11 110 RX11 yX11_findTable wsX11_findTable) := goodIn_app (goodIn_of _ (by decide +kernel)) ggX11_load_X11_findTable
set_option maxRecDepth 20000 in
theorem ggX11_load_X11_loads : GoodIn wsX11_load wsX11_loads := goodIn_r _ [44, 16, 17, 2, 18, 19, 20, 21, 22, 23, 24, 25, 26, 27, 28, 29, 30, 31, 32, 33, 34, 35, 36, 37, 38, 39, 40, 52, 53, 54, 55, 56, 57, 58, 59, 60, 61, 62, 63, 49, 50, 51, 64, 65, 66] (by decide +kernel) (by decide +kernel)
set_option maxRecDepth 20000 in
theorem gX11_load_X11_loads : GoodIn wsX11_load (wsV RX11 205 RX11 yX11_loads wsX11_loads) := goodIn_app (goodIn_of _ (by decide +kernel)) ggX11_load_X11_loads
set_option maxRecDepth 20000 in
theorem ggX11_load_X11_accept : GoodIn wsX11_load wsX11_accept := goodIn_r _ [48, 11, 52, 53, 54, 55, 56, 57, 58, 59, 60, 61, 62, 63] (by decide +kernel) (by decide +kernel)
set_option maxRecDepth 20000 in
theorem gX11_load_X11_accept : GoodIn wsX11_load (wsV RX11 79 RX11 yX11_accept wsX11_accept) := goodIn_app (goodIn_of _ (by decide +kernel)) ggX11_load_X11_accept
set_option maxRecDepth 20000 in
theorem ggX11_rounds_X11_isWithin : GoodIn wsX11_rounds wsX11_isWithin := goodIn_r _ [7] (by decide +kernel) (by decide +kernel)
set_option maxRecDepth 20000 in
theorem gX11_rounds_X11_isWithin : GoodIn wsX11_rounds (va_wsS RX11 71 yX11_isWithin wsX11_isWithin) := goodIn_app (goodIn_of _ (by decide +kernel)) ggX11_rounds_X11_isWithin
set_option maxRecDepth 20000 in
theorem ggX11_rounds_X11_refuse : GoodIn wsX11_rounds wsX11_refuse := goodIn_r _ [11, 12, 133, 134, 135, 136, 137, 138, 139, 140, 141, 142, 143, 144] (by decide +kernel) (by decide +kernel)
set_option maxRecDepth 20000 in
theorem gX11_rounds_X11_refuse : GoodIn wsX11_rounds (wsV RX11 75 RX11 yX11_refuse wsX11_refuse) := goodIn_app (goodIn_of _ (by decide +kernel)) ggX11_rounds_X11_refuse
set_option maxRecDepth 20000 in
theorem ggX11_rounds_X11_heaviestLoad : GoodIn wsX11_rounds wsX11_heaviestLoad := goodIn_r _ [16, 3, 17, 18, 19, 20, 21, 22, 23, 24, 25, 26, 27, 28, 29, 30, 31, 32, 33, 34, 35, 36, 37, 38, 39, 40, 41, 42, 43, 44, 45, 133, 134, 135, 136, 137, 138, 139, 140, 141, 142, 143, 144, 145, 146, 147, 148, 149, 150] (by decide +kernel) (by decide +kernel)
set_option maxRecDepth 20000 in
theorem gX11_rounds_X11_heaviestLoad : GoodIn wsX11_rounds (wsV RX11 209 RX11 yX11_heaviestLoad wsX11_heaviestLoad) := goodIn_app (goodIn_of _ (by decide +kernel)) ggX11_rounds_X11_heaviestLoad
set_option maxRecDepth 20000 in
theorem ggX11_rounds_X9_plan : GoodIn wsX11_rounds wsX9_plan := goodIn_r _ [50, 51, 52, 53, 54, 55, 56, 57, 58, 49, 59, 60, 61, 62, 63, 64, 24, 25, 26, 27, 28, 65, 30, 31, 32, 33, 34, 35, 36, 37, 38, 39, 40, 41, 42, 43, 44, 45, 66, 67, 68, 69, 70, 71, 72, 73, 74, 75, 76, 21, 77, 78, 79, 80, 81, 82, 83, 84, 85, 86, 87, 88, 89, 90, 91, 92, 93, 94, 95, 96, 97, 98, 99, 100, 101, 102, 103, 104, 105, 106, 107, 108, 109, 110, 111, 112, 113, 114, 115, 116, 117, 118, 119, 120, 121, 122, 123, 124, 125, 126, 127, 128, 151, 152, 153, 154, 155, 156, 157, 158, 159, 160, 145, 146, 147, 148, 149, 150] (by decide +kernel) (by decide +kernel)
set_option maxRecDepth 20000 in
theorem gX11_rounds_X9_plan : GoodIn wsX11_rounds (wsV RX11 212 RX9 yX9_plan wsX9_plan) := goodIn_app (goodIn_of _ (by decide +kernel)) ggX11_rounds_X9_plan
set_option maxRecDepth 20000 in
theorem ggX11_rounds_X11_accept : GoodIn wsX11_rounds wsX11_accept := goodIn_r _ [132, 12, 133, 134, 135, 136, 137, 138, 139, 140, 141, 142, 143, 144] (by decide +kernel) (by decide +kernel)
set_option maxRecDepth 20000 in
theorem gX11_rounds_X11_accept : GoodIn wsX11_rounds (wsV RX11 79 RX11 yX11_accept wsX11_accept) := goodIn_app (goodIn_of _ (by decide +kernel)) ggX11_rounds_X11_accept
set_option maxRecDepth 20000 in
theorem ggX11_stop_X9_tellStop : GoodIn wsX11_stop wsX9_tellStop := goodIn_r _ [6, 7, 8, 9, 10, 11, 24, 25, 26, 27, 28, 29, 30, 31, 32, 33] (by decide +kernel) (by decide +kernel)
set_option maxRecDepth 20000 in
theorem gX11_stop_X9_tellStop : GoodIn wsX11_stop (wsV RX11 216 RX9 yX9_tellStop wsX9_tellStop) := goodIn_app (goodIn_of _ (by decide +kernel)) ggX11_stop_X9_tellStop
set_option maxRecDepth 20000 in
theorem ggX11_feed_X5_append : GoodIn wsX11_feed wsX5_append := goodIn_r _ [7, 8, 9, 22, 23, 24, 25, 26, 27] (by decide +kernel) (by decide +kernel)
set_option maxRecDepth 20000 in
theorem gX11_feed_X5_append : GoodIn wsX11_feed (wsV RX11 222 RX5 yX5_append wsX5_append) := goodIn_app (goodIn_of _ (by decide +kernel)) ggX11_feed_X5_append
set_option maxRecDepth 20000 in
theorem ggX11_end_X11_isWithin : GoodIn wsX11_end wsX11_isWithin := goodIn_r _ [6] (by decide +kernel) (by decide +kernel)
set_option maxRecDepth 20000 in
theorem gX11_end_X11_isWithin : GoodIn wsX11_end (va_wsS RX11 71 yX11_isWithin wsX11_isWithin) := goodIn_app (goodIn_of _ (by decide +kernel)) ggX11_end_X11_isWithin
set_option maxRecDepth 20000 in
theorem ggX11_rules_X5_readText : GoodIn wsX11_rules wsX5_readText := goodIn_r _ [8, 9, 10, 11, 12, 13, 14, 7, 15, 16, 17, 18, 19, 20, 21, 22, 23, 24, 25, 26, 27, 28, 29, 30, 31, 32, 33, 34, 35, 36, 37, 38, 39, 40, 41, 42, 43, 44, 45, 46, 47, 48, 49, 50, 51, 52, 53, 54, 55, 56, 57, 58, 59, 60, 61, 62, 63, 64, 65, 66, 67, 68, 69, 70, 71, 72, 73, 74, 75, 76, 77, 78, 79, 80, 81, 82, 83, 84, 85, 86, 87, 88, 89, 90, 91, 92, 93, 94, 95, 96, 97, 98, 99, 100, 101, 102, 103, 104, 105, 106, 107, 108, 109, 110, 111, 112, 113, 114, 115, 116, 117, 118, 119, 120, 121, 122, 123, 124, 125, 126, 127, 128, 129, 166, 167, 168, 169, 170, 171, 161, 162, 163, 164, 165] (by decide +kernel) (by decide +kernel)
set_option maxRecDepth 20000 in
theorem gX11_rules_X5_readText : GoodIn wsX11_rules (wsV RX11 225 RX5 yX5_readText wsX5_readText) := goodIn_app (goodIn_of _ (by decide +kernel)) ggX11_rules_X5_readText
set_option maxRecDepth 20000 in
theorem ggX11_rules_X5_emptyTape : GoodIn wsX11_rules wsX5_emptyTape := goodIn_r _ [133, 16, 134, 17, 166, 167, 168, 169, 170, 171] (by decide +kernel) (by decide +kernel)
set_option maxRecDepth 20000 in
theorem gX11_rules_X5_emptyTape : GoodIn wsX11_rules (wsV RX11 228 RX5 yX5_emptyTape wsX5_emptyTape) := goodIn_app (goodIn_of _ (by decide +kernel)) ggX11_rules_X5_emptyTape
set_option maxRecDepth 20000 in
theorem ggX11_rules_X11_refuse : GoodIn wsX11_rules wsX11_refuse := goodIn_r _ [139, 140, 149, 150, 151, 152, 153, 154, 155, 156, 157, 158, 159, 160] (by decide +kernel) (by decide +kernel)
set_option maxRecDepth 20000 in
theorem gX11_rules_X11_refuse : GoodIn wsX11_rules (wsV RX11 75 RX11 yX11_refuse wsX11_refuse) := goodIn_app (goodIn_of _ (by decide +kernel)) ggX11_rules_X11_refuse
set_option maxRecDepth 20000 in
theorem ggX11_rules_X5_exchangeDraft : GoodIn wsX11_rules wsX5_exchangeDraft := goodIn_r _ [144, 9, 166, 167, 168, 169, 170, 171] (by decide +kernel) (by decide +kernel)
set_option maxRecDepth 20000 in
theorem gX11_rules_X5_exchangeDraft : GoodIn wsX11_rules (wsV RX11 232 RX5 yX5_exchangeDraft wsX5_exchangeDraft) := goodIn_app (goodIn_of _ (by decide +kernel)) ggX11_rules_X5_exchangeDraft
set_option maxRecDepth 20000 in
theorem ggX11_rules_X11_accept : GoodIn wsX11_rules wsX11_accept := goodIn_r _ [148, 140, 149, 150, 151, 152, 153, 154, 155, 156, 157, 158, 159, 160] (by decide +kernel) (by decide +kernel)
set_option maxRecDepth 20000 in
theorem gX11_rules_X11_accept : GoodIn wsX11_rules (wsV RX11 79 RX11 yX11_accept wsX11_accept) := goodIn_app (goodIn_of _ (by decide +kernel)) ggX11_rules_X11_accept
set_option maxRecDepth 20000 in
theorem ggX11_weigh_X11_isWithin : GoodIn wsX11_weigh wsX11_isWithin := goodIn_r _ [12] (by decide +kernel) (by decide +kernel)
set_option maxRecDepth 20000 in
theorem gX11_weigh_X11_isWithin : GoodIn wsX11_weigh (va_wsS RX11 71 yX11_isWithin wsX11_isWithin) := goodIn_app (goodIn_of _ (by decide +kernel)) ggX11_weigh_X11_isWithin
set_option maxRecDepth 20000 in
theorem ggX11_weigh_X11_refuse : GoodIn wsX11_weigh wsX11_refuse := goodIn_r _ [16, 17, 61, 62, 63, 64, 65, 66, 67, 68, 69, 70, 71, 72] (by decide +kernel) (by decide +kernel)
set_option maxRecDepth 20000 in
theorem gX11_weigh_X11_refuse : GoodIn wsX11_weigh (wsV RX11 75 RX11 yX11_refuse wsX11_refuse) := goodIn_app (goodIn_of _ (by decide +kernel)) ggX11_weigh_X11_refuse
set_option maxRecDepth 20000 in
theorem ggX11_weigh_X7_find : GoodIn wsX11_weigh wsX7_find := goodIn_r _ [22, 23, 24, 25, 26, 27, 28, 29, 30, 10, 11, 12, 31, 32, 33, 34, 35, 36, 37, 38, 39, 40, 41, 42, 43, 44, 45, 46, 47, 87, 88, 89, 90, 91] (by decide +kernel) (by decide +kernel)
set_option maxRecDepth 20000 in
theorem gX11_weigh_X7_find : GoodIn wsX11_weigh (wsV RX11 96 RX7 yX7_find wsX7_find) := goodIn_app (goodIn_of _ (by decide +kernel)) ggX11_weigh_X7_find
set_option maxRecDepth 20000 in
theorem ggX11_weigh_X10_init : GoodIn wsX11_weigh wsX10_init := goodIn_r _ [50, 51, 52, 53, 54, 55, 56, 73, 74, 75] (by decide +kernel) (by decide +kernel)
set_option maxRecDepth 20000 in
theorem gX11_weigh_X10_init : GoodIn wsX11_weigh (wsX10_init) := ggX11_weigh_X10_init
set_option maxRecDepth 20000 in
theorem ggX11_weigh_X11_accept : GoodIn wsX11_weigh wsX11_accept := goodIn_r _ [60, 17, 61, 62, 63, 64, 65, 66, 67, 68, 69, 70, 71, 72] (by decide +kernel) (by decide +kernel)
set_option maxRecDepth 20000 in
theorem gX11_weigh_X11_accept : GoodIn wsX11_weigh (wsV RX11 79 RX11 yX11_accept wsX11_accept) := goodIn_app (goodIn_of _ (by decide +kernel)) ggX11_weigh_X11_accept
set_option maxRecDepth 20000 in
theorem ggX11_given_X11_isWithin : GoodIn wsX11_given wsX11_isWithin := goodIn_r _ [7] (by decide +kernel) (by decide +kernel)
set_option maxRecDepth 20000 in
theorem gX11_given_X11_isWithin : GoodIn wsX11_given (va_wsS RX11 71 yX11_isWithin wsX11_isWithin) := goodIn_app (goodIn_of _ (by decide +kernel)) ggX11_given_X11_isWithin
set_option maxRecDepth 20000 in
theorem ggX11_given_X7_givenBy : GoodIn wsX11_given wsX7_givenBy := goodIn_r _ [12, 13, 14, 15, 16, 17, 18, 19, 20, 21, 22, 23, 24, 25, 26, 27, 28, 29, 30, 31, 32, 33, 34, 35, 36, 37, 38, 39, 40, 41, 42, 43, 44, 45, 46, 47, 48, 61, 62, 63, 64, 65, 66, 67, 68, 69, 70, 71, 72, 73, 74, 75, 76, 77, 78, 79] (by decide +kernel) (by decide +kernel)
set_option maxRecDepth 20000 in
theorem gX11_given_X7_givenBy : GoodIn wsX11_given (wsV RX11 252 RX7 yX7_givenBy wsX7_givenBy) := goodIn_app (goodIn_of _ (by decide +kernel)) ggX11_given_X7_givenBy
set_option maxRecDepth 20000 in
theorem ggX11_led_X11_findFamily : GoodIn wsX11_led wsX11_findFamily := goodIn_r _ [7, 8, 9, 10, 11, 12, 13, 14, 15, 16, 17, 6, 18, 19, 20, 21, 22, 23, 24, 25, 26, 27, 28, 29, 30, 31, 32, 33, 34, 35, 40, 41, 42, 43, 44, 45, 46, 47, 48, 49, 50, 51, 52, 53, 54] (by decide +kernel) (by decide +kernel)
set_option maxRecDepth 20000 in
theorem gX11_led_X11_findFamily : GoodIn wsX11_led (wsV RX11 119 RX11 yX11_findFamily wsX11_findFamily) := goodIn_app (goodIn_of _ (by decide +kernel)) ggX11_led_X11_findFamily
set_option maxRecDepth 20000 in
theorem ggX11_led_X11_isWithin : GoodIn wsX11_led wsX11_isWithin := goodIn_r _ [18] (by decide +kernel) (by decide +kernel)
set_option maxRecDepth 20000 in
theorem gX11_led_X11_isWithin : GoodIn wsX11_led (va_wsS RX11 71 yX11_isWithin wsX11_isWithin) := goodIn_app (goodIn_of _ (by decide +kernel)) ggX11_led_X11_isWithin
set_option maxRecDepth 20000 in
theorem ggX11_count_X11_isWithin : GoodIn wsX11_count wsX11_isWithin := goodIn_r _ [16] (by decide +kernel) (by decide +kernel)
set_option maxRecDepth 20000 in
theorem gX11_count_X11_isWithin : GoodIn wsX11_count (va_wsS RX11 71 yX11_isWithin wsX11_isWithin) := goodIn_app (goodIn_of _ (by decide +kernel)) ggX11_count_X11_isWithin
set_option maxRecDepth 20000 in
theorem ggX11_count_X7_leftOfKind : GoodIn wsX11_count wsX7_leftOfKind := goodIn_r _ [21, 22, 23, 24, 25, 26, 20, 27, 28, 29, 15, 30, 13, 14, 16, 108, 109, 110, 111, 112, 113, 114, 115, 116, 117, 118, 119, 120] (by decide +kernel) (by decide +kernel)
set_option maxRecDepth 20000 in
theorem gX11_count_X7_leftOfKind : GoodIn wsX11_count (wsV RX11 259 RX7 yX7_leftOfKind wsX7_leftOfKind) := goodIn_app (goodIn_of _ (by decide +kernel)) ggX11_count_X7_leftOfKind
set_option maxRecDepth 20000 in
theorem ggX11_count_X7_size : GoodIn wsX11_count wsX7_size := goodIn_r _ [34, 35, 36, 37, 38, 39, 40, 41, 119, 120, 121, 122, 123] (by decide +kernel) (by decide +kernel)
set_option maxRecDepth 20000 in
theorem gX11_count_X7_size : GoodIn wsX11_count (wsV RX11 83 RX7 yX7_size wsX7_size) := goodIn_app (goodIn_of _ (by decide +kernel)) ggX11_count_X7_size
set_option maxRecDepth 20000 in
theorem ggX11_count_Jx4a65c_size_8abf5 : GoodIn wsX11_count wsJx4a65c_size_8abf5 := goodIn_r _ [40, 41, 121, 122, 123] (by decide +kernel) (by decide +kernel)
set_option maxRecDepth 20000 in
theorem gX11_count_Jx4a65c_size_8abf5 : GoodIn wsX11_count (wsV RX11 103 RJx4a65c yJx4a65c_size_8abf5 wsJx4a65c_size_8abf5) := goodIn_app (goodIn_of _ (by decide +kernel)) ggX11_count_Jx4a65c_size_8abf5
set_option maxRecDepth 20000 in
theorem ggX11_count_X7_sumOver : GoodIn wsX11_count wsX7_sumOver := goodIn_r _ [46, 35, 47, 36, 37, 38, 39, 40, 41, 48, 49, 50, 51, 52, 53, 54, 55, 56, 57, 58, 59, 60, 61, 62, 63, 64, 65, 66, 67, 68, 69, 70, 71, 72, 73, 74, 75, 76, 77, 119, 120, 121, 122, 123, 108, 109, 110, 111, 112, 113, 114, 115, 116, 117, 118] (by decide +kernel) (by decide +kernel)
set_option maxRecDepth 20000 in
theorem gX11_count_X7_sumOver : GoodIn wsX11_count (wsV RX11 263 RX7 yX7_sumOver wsX7_sumOver) := goodIn_app (goodIn_of _ (by decide +kernel)) ggX11_count_X7_sumOver
set_option maxRecDepth 20000 in
theorem ggX11_count_X11_shortInAllParcels : GoodIn wsX11_count wsX11_shortInAllParcels := goodIn_r _ [81, 6, 82, 83, 42, 37, 38, 39, 40, 41, 84, 49, 50, 51, 52, 53, 54, 55, 56, 57, 58, 59, 60, 61, 62, 63, 64, 85, 86, 87, 88, 89, 90, 91, 92, 93, 94, 95, 96, 124, 125, 126, 127, 128, 121, 122, 123] (by decide +kernel) (by decide +kernel)
set_option maxRecDepth 20000 in
theorem gX11_count_X11_shortInAllParcels : GoodIn wsX11_count (wsV RX11 266 RX11 yX11_shortInAllParcels wsX11_shortInAllParcels) := goodIn_app (goodIn_of _ (by decide +kernel)) ggX11_count_X11_shortInAllParcels
set_option maxRecDepth 20000 in
theorem ggX11_isKind_X11_isWithin : GoodIn wsX11_isKind wsX11_isWithin := goodIn_r _ [4] (by decide +kernel) (by decide +kernel)
set_option maxRecDepth 20000 in
theorem gX11_isKind_X11_isWithin : GoodIn wsX11_isKind (va_wsS RX11 71 yX11_isWithin wsX11_isWithin) := goodIn_app (goodIn_of _ (by decide +kernel)) ggX11_isKind_X11_isWithin
set_option maxRecDepth 20000 in
theorem ggX11_findTable_Jx4a65c_size_8abf5 : GoodIn wsX11_findTable wsJx4a65c_size_8abf5 := goodIn_r _ [7, 8, 42, 43, 44] (by decide +kernel) (by decide +kernel)
set_option maxRecDepth 20000 in
theorem gX11_findTable_Jx4a65c_size_8abf5 : GoodIn wsX11_findTable (wsV RX11 103 RJx4a65c yJx4a65c_size_8abf5 wsJx4a65c_size_8abf5) := goodIn_app (goodIn_of _ (by decide +kernel)) ggX11_findTable_Jx4a65c_size_8abf5
set_option maxRecDepth 20000 in
theorem ggX11_findTable_X11_isWithin : GoodIn wsX11_findTable wsX11_isWithin := goodIn_r _ [12] (by decide +kernel) (by decide +kernel)
set_option maxRecDepth 20000 in
theorem gX11_findTable_X11_isWithin : GoodIn wsX11_findTable (va_wsS RX11 71 yX11_isWithin wsX11_isWithin) := goodIn_app (goodIn_of _ (by decide +kernel)) ggX11_findTable_X11_isWithin
set_option maxRecDepth 20000 in
theorem ggX11_findTable_Jx4a65c_get_915e3 : GoodIn wsX11_findTable wsJx4a65c_get_915e3 := goodIn_r _ [16, 8, 17, 18, 19, 20, 21, 22, 23, 24, 25, 26, 27, 6, 28, 29, 42, 43, 44] (by decide +kernel) (by decide +kernel)
set_option maxRecDepth 20000 in
theorem gX11_findTable_Jx4a65c_get_915e3 : GoodIn wsX11_findTable (wsV RX11 163 RJx4a65c yJx4a65c_get_915e3 wsJx4a65c_get_915e3) := goodIn_app (goodIn_of _ (by decide +kernel)) ggX11_findTable_Jx4a65c_get_915e3
set_option maxRecDepth 20000 in
theorem ggX11_findFamily_Jx4a65c_size_8abf5 : GoodIn wsX11_findFamily wsJx4a65c_size_8abf5 := goodIn_r _ [7, 8, 42, 43, 44] (by decide +kernel) (by decide +kernel)
set_option maxRecDepth 20000 in
theorem gX11_findFamily_Jx4a65c_size_8abf5 : GoodIn wsX11_findFamily (wsV RX11 103 RJx4a65c yJx4a65c_size_8abf5 wsJx4a65c_size_8abf5) := goodIn_app (goodIn_of _ (by decide +kernel)) ggX11_findFamily_Jx4a65c_size_8abf5
set_option maxRecDepth 20000 in
theorem ggX11_findFamily_X11_isWithin : GoodIn wsX11_findFamily wsX11_isWithin := goodIn_r _ [12] (by decide +kernel) (by decide +kernel)
set_option maxRecDepth 20000 in
theorem gX11_findFamily_X11_isWithin : GoodIn wsX11_findFamily (va_wsS RX11 71 yX11_isWithin wsX11_isWithin) := goodIn_app (goodIn_of _ (by decide +kernel)) ggX11_findFamily_X11_isWithin
set_option maxRecDepth 20000 in
theorem ggX11_findFamily_Jx4a65c_get_915e3 : GoodIn wsX11_findFamily wsJx4a65c_get_915e3 := goodIn_r _ [16, 8, 17, 18, 19, 20, 21, 22, 23, 24, 25, 26, 27, 6, 28, 29, 42, 43, 44] (by decide +kernel) (by decide +kernel)
set_option maxRecDepth 20000 in
theorem gX11_findFamily_Jx4a65c_get_915e3 : GoodIn wsX11_findFamily (wsV RX11 163 RJx4a65c yJx4a65c_get_915e3 wsJx4a65c_get_915e3) := goodIn_app (goodIn_of _ (by decide +kernel)) ggX11_findFamily_Jx4a65c_get_915e3
set_option maxRecDepth 20000 in
theorem ggX11_earliestLastDay_X6_daysSpared : GoodIn wsX11_earliestLastDay wsX6_daysSpared := goodIn_r _ [7, 8, 9, 10, 11, 12, 13, 14, 15, 16, 6, 17, 18, 19, 20, 21, 22, 35, 36, 37, 38, 39] (by decide +kernel) (by decide +kernel)
set_option maxRecDepth 20000 in
theorem gX11_earliestLastDay_X6_daysSpared : GoodIn wsX11_earliestLastDay (wsV RX11 270 RX6 yX6_daysSpared wsX6_daysSpared) := goodIn_app (goodIn_of _ (by decide +kernel)) ggX11_earliestLastDay_X6_daysSpared
set_option maxRecDepth 20000 in
theorem ggX11_pack_X6_gramsNeeded : GoodIn wsX11_pack wsX6_gramsNeeded := goodIn_r _ [9, 10, 11, 12, 13, 14, 15, 8, 16, 17, 18, 19, 20, 21, 169, 170, 171, 172, 173] (by decide +kernel) (by decide +kernel)
set_option maxRecDepth 20000 in
theorem gX11_pack_X6_gramsNeeded : GoodIn wsX11_pack (wsV RX11 138 RX6 yX6_gramsNeeded wsX6_gramsNeeded) := goodIn_app (goodIn_of _ (by decide +kernel)) ggX11_pack_X6_gramsNeeded
set_option maxRecDepth 20000 in
theorem ggX11_pack_X11_packFrom : GoodIn wsX11_pack wsX11_packFrom := goodIn_r _ [25, 26, 27, 28, 29, 30, 20, 31, 32, 19, 21, 33, 34, 35, 36, 37, 1, 38, 39, 40, 8, 41, 10, 12, 42, 43, 44, 45, 13, 14, 15, 16, 17, 18, 46, 47, 48, 49, 50, 51, 52, 53, 54, 55, 56, 57, 58, 59, 60, 61, 62, 63, 64, 65, 66, 67, 68, 69, 70, 71, 72, 73, 74, 75, 76, 77, 78, 79, 80, 81, 82, 83, 84, 85, 86, 87, 88, 89, 90, 91, 92, 93, 94, 95, 96, 97, 98, 99, 100, 101, 102, 103, 104, 105, 106, 107, 108, 109, 110, 111, 112, 113, 114, 115, 116, 117, 118, 119, 120, 121, 122, 123, 124, 125, 126, 127, 128, 129, 130, 131, 132, 133, 134, 135, 136, 137, 138, 139, 140, 141, 142, 143, 144, 145, 146, 147, 148, 153, 154, 155, 156, 157, 158, 159, 160, 161, 162, 163, 164, 165, 166, 167, 168, 169, 170, 171, 172, 173, 179, 180, 181, 182, 183, 184, 185, 186, 187, 188, 189, 190, 191, 174, 175, 176, 177, 178, 192, 193, 194, 195, 196] (by decide +kernel) (by decide +kernel)
set_option maxRecDepth 20000 in
theorem gX11_pack_X11_packFrom : GoodIn wsX11_pack (wsV RX11 273 RX11 yX11_packFrom wsX11_packFrom) := goodIn_app (goodIn_of _ (by decide +kernel)) ggX11_pack_X11_packFrom
set_option maxRecDepth 20000 in
theorem ggX11_pack_X6_kindSwapped : GoodIn wsX11_pack wsX6_kindSwapped := goodIn_r _ [152, 12, 13, 14, 15, 8, 16, 17, 18, 19, 20, 21, 169, 170, 171, 172, 173] (by decide +kernel) (by decide +kernel)
set_option maxRecDepth 20000 in
theorem gX11_pack_X6_kindSwapped : GoodIn wsX11_pack (wsV RX11 277 RX6 yX6_kindSwapped wsX6_kindSwapped) := goodIn_app (goodIn_of _ (by decide +kernel)) ggX11_pack_X6_kindSwapped
set_option maxRecDepth 20000 in
theorem ggX11_packFrom_X11_isKind : GoodIn wsX11_packFrom wsX11_isKind := goodIn_r _ [7, 8, 9, 6, 10] (by decide +kernel) (by decide +kernel)
set_option maxRecDepth 20000 in
theorem gX11_packFrom_X11_isKind : GoodIn wsX11_packFrom (va_wsS RX11 67 yX11_isKind wsX11_isKind) := goodIn_app (goodIn_of _ (by decide +kernel)) ggX11_packFrom_X11_isKind
set_option maxRecDepth 20000 in
theorem ggX11_packFrom_X11_earliestLastDay : GoodIn wsX11_packFrom wsX11_earliestLastDay := goodIn_r _ [14, 15, 16, 17, 18, 19, 20, 21, 22, 23, 24, 25, 26, 27, 28, 29, 30, 31, 32, 33, 9, 6, 10, 137, 138, 139, 140, 141, 142, 143, 144, 145, 146, 147, 148, 153, 154, 155, 156, 157] (by decide +kernel) (by decide +kernel)
set_option maxRecDepth 20000 in
theorem gX11_packFrom_X11_earliestLastDay : GoodIn wsX11_packFrom (wsV RX11 175 RX11 yX11_earliestLastDay wsX11_earliestLastDay) := goodIn_app (goodIn_of _ (by decide +kernel)) ggX11_packFrom_X11_earliestLastDay
set_option maxRecDepth 20000 in
theorem ggX11_packFrom_X7_handOut : GoodIn wsX11_packFrom wsX7_handOut := goodIn_r _ [38, 39, 40, 41, 42, 43, 44, 45, 37, 46, 47, 5, 6, 7, 8, 9, 10, 48, 49, 50, 51, 52, 53, 54, 55, 56, 57, 58, 59, 60, 26, 61, 62, 63, 64, 65, 66, 67, 68, 69, 70, 71, 72, 73, 74, 75, 76, 77, 78, 79, 80, 81, 82, 83, 84, 85, 86, 87, 88, 89, 90, 91, 92, 93, 94, 95, 96, 97, 98, 99, 100, 101, 102, 25, 27, 103, 104, 105, 106, 107, 108, 109, 110, 111, 112, 113, 114, 115, 116, 117, 118, 119, 120, 121, 122, 123, 124, 125, 126, 127, 128, 129, 130, 131, 132, 133, 134, 135, 136, 158, 159, 160, 161, 162, 163, 164, 165, 166, 167, 168, 169, 170, 171, 172, 173, 174, 175, 176, 177, 178, 179, 180, 149, 150, 151, 152] (by decide +kernel) (by decide +kernel)
set_option maxRecDepth 20000 in
theorem gX11_packFrom_X7_handOut : GoodIn wsX11_packFrom (wsV RX11 286 RX7 yX7_handOut wsX7_handOut) := goodIn_app (goodIn_of _ (by decide +kernel)) ggX11_packFrom_X7_handOut
set_option maxRecDepth 20000 in
theorem ggX11_shortInAllParcels_Jx4a65c_size_8abf5 : GoodIn wsX11_shortInAllParcels wsJx4a65c_size_8abf5 := goodIn_r _ [8, 9, 44, 45, 46] (by decide +kernel) (by decide +kernel)
set_option maxRecDepth 20000 in
theorem gX11_shortInAllParcels_Jx4a65c_size_8abf5 : GoodIn wsX11_shortInAllParcels (wsV RX11 103 RJx4a65c yJx4a65c_size_8abf5 wsJx4a65c_size_8abf5) := goodIn_app (goodIn_of _ (by decide +kernel)) ggX11_shortInAllParcels_Jx4a65c_size_8abf5
set_option maxRecDepth 20000 in
theorem ggX11_shortInAllParcels_Jx4a65c_get_915e3 : GoodIn wsX11_shortInAllParcels wsJx4a65c_get_915e3 := goodIn_r _ [13, 9, 14, 15, 16, 17, 18, 19, 20, 21, 22, 23, 24, 7, 25, 26, 44, 45, 46] (by decide +kernel) (by decide +kernel)
set_option maxRecDepth 20000 in
theorem gX11_shortInAllParcels_Jx4a65c_get_915e3 : GoodIn wsX11_shortInAllParcels (wsV RX11 163 RJx4a65c yJx4a65c_get_915e3 wsJx4a65c_get_915e3) := goodIn_app (goodIn_of _ (by decide +kernel)) ggX11_shortInAllParcels_Jx4a65c_get_915e3
set_option maxRecDepth 20000 in
theorem ggX11_levelFor_X11_wantedUpTo : GoodIn wsX11_levelFor wsX11_wantedUpTo := goodIn_r _ [6, 7, 8, 9, 10, 11, 12, 13, 14, 15, 16, 17, 18, 19, 20, 21, 22, 23, 24, 25, 26, 27, 28, 29, 30, 31, 32, 33, 34, 35, 36, 37, 38, 39, 40, 41, 42, 43, 44, 45, 46, 47, 48, 49, 50, 51, 52, 53, 54] (by decide +kernel) (by decide +kernel)
set_option maxRecDepth 20000 in
theorem gX11_levelFor_X11_wantedUpTo : GoodIn wsX11_levelFor (wsV RX11 184 RX11 yX11_wantedUpTo wsX11_wantedUpTo) := goodIn_app (goodIn_of _ (by decide +kernel)) ggX11_levelFor_X11_wantedUpTo
set_option maxRecDepth 20000 in
theorem ggX11_wantedUpTo_Jx4a65c_size_8abf5 : GoodIn wsX11_wantedUpTo wsJx4a65c_size_8abf5 := goodIn_r _ [12, 13, 46, 47, 48] (by decide +kernel) (by decide +kernel)
set_option maxRecDepth 20000 in
theorem gX11_wantedUpTo_Jx4a65c_size_8abf5 : GoodIn wsX11_wantedUpTo (wsV RX11 103 RJx4a65c yJx4a65c_size_8abf5 wsJx4a65c_size_8abf5) := goodIn_app (goodIn_of _ (by decide +kernel)) ggX11_wantedUpTo_Jx4a65c_size_8abf5
set_option maxRecDepth 20000 in
theorem ggX11_wantedUpTo_Jx4a65c_get_915e3 : GoodIn wsX11_wantedUpTo wsJx4a65c_get_915e3 := goodIn_r _ [17, 13, 18, 19, 20, 21, 22, 23, 24, 25, 26, 27, 28, 11, 29, 30, 46, 47, 48] (by decide +kernel) (by decide +kernel)
set_option maxRecDepth 20000 in
theorem gX11_wantedUpTo_Jx4a65c_get_915e3 : GoodIn wsX11_wantedUpTo (wsV RX11 163 RJx4a65c yJx4a65c_get_915e3 wsJx4a65c_get_915e3) := goodIn_app (goodIn_of _ (by decide +kernel)) ggX11_wantedUpTo_Jx4a65c_get_915e3
set_option maxRecDepth 20000 in
theorem ggX11_partAtLevel_Jx4a65c_size_8abf5 : GoodIn wsX11_partAtLevel wsJx4a65c_size_8abf5 := goodIn_r _ [13, 14, 47, 48, 49] (by decide +kernel) (by decide +kernel)
set_option maxRecDepth 20000 in
theorem gX11_partAtLevel_Jx4a65c_size_8abf5 : GoodIn wsX11_partAtLevel (wsV RX11 103 RJx4a65c yJx4a65c_size_8abf5 wsJx4a65c_size_8abf5) := goodIn_app (goodIn_of _ (by decide +kernel)) ggX11_partAtLevel_Jx4a65c_size_8abf5
set_option maxRecDepth 20000 in
theorem ggX11_partAtLevel_Jx4a65c_get_915e3 : GoodIn wsX11_partAtLevel wsJx4a65c_get_915e3 := goodIn_r _ [18, 14, 19, 20, 21, 22, 23, 24, 25, 26, 27, 28, 29, 12, 30, 31, 47, 48, 49] (by decide +kernel) (by decide +kernel)
set_option maxRecDepth 20000 in
theorem gX11_partAtLevel_Jx4a65c_get_915e3 : GoodIn wsX11_partAtLevel (wsV RX11 163 RJx4a65c yJx4a65c_get_915e3 wsJx4a65c_get_915e3) := goodIn_app (goodIn_of _ (by decide +kernel)) ggX11_partAtLevel_Jx4a65c_get_915e3
set_option maxRecDepth 20000 in
theorem ggX11_loads_Jx4a65c_size_8abf5 : GoodIn wsX11_loads wsJx4a65c_size_8abf5 := goodIn_r _ [8, 9, 42, 43, 44] (by decide +kernel) (by decide +kernel)
set_option maxRecDepth 20000 in
theorem gX11_loads_Jx4a65c_size_8abf5 : GoodIn wsX11_loads (wsV RX11 103 RJx4a65c yJx4a65c_size_8abf5 wsJx4a65c_size_8abf5) := goodIn_app (goodIn_of _ (by decide +kernel)) ggX11_loads_Jx4a65c_size_8abf5
set_option maxRecDepth 20000 in
theorem ggX11_loads_Jx4a65c_get_915e3 : GoodIn wsX11_loads wsJx4a65c_get_915e3 := goodIn_r _ [13, 9, 14, 15, 16, 17, 18, 19, 20, 21, 22, 23, 24, 7, 25, 26, 42, 43, 44] (by decide +kernel) (by decide +kernel)
set_option maxRecDepth 20000 in
theorem gX11_loads_Jx4a65c_get_915e3 : GoodIn wsX11_loads (wsV RX11 163 RJx4a65c yJx4a65c_get_915e3 wsJx4a65c_get_915e3) := goodIn_app (goodIn_of _ (by decide +kernel)) ggX11_loads_Jx4a65c_get_915e3
set_option maxRecDepth 20000 in
theorem ggX11_heaviestLoad_Jx4a65c_size_8abf5 : GoodIn wsX11_heaviestLoad wsJx4a65c_size_8abf5 := goodIn_r _ [12, 13, 46, 47, 48] (by decide +kernel) (by decide +kernel)
set_option maxRecDepth 20000 in
theorem gX11_heaviestLoad_Jx4a65c_size_8abf5 : GoodIn wsX11_heaviestLoad (wsV RX11 103 RJx4a65c yJx4a65c_size_8abf5 wsJx4a65c_size_8abf5) := goodIn_app (goodIn_of _ (by decide +kernel)) ggX11_heaviestLoad_Jx4a65c_size_8abf5
set_option maxRecDepth 20000 in
theorem ggX11_heaviestLoad_Jx4a65c_get_915e3 : GoodIn wsX11_heaviestLoad wsJx4a65c_get_915e3 := goodIn_r _ [17, 13, 18, 19, 20, 21, 22, 23, 24, 25, 26, 27, 28, 11, 29, 30, 46, 47, 48] (by decide +kernel) (by decide +kernel)
set_option maxRecDepth 20000 in
theorem gX11_heaviestLoad_Jx4a65c_get_915e3 : GoodIn wsX11_heaviestLoad (wsV RX11 163 RJx4a65c yJx4a65c_get_915e3 wsJx4a65c_get_915e3) := goodIn_app (goodIn_of _ (by decide +kernel)) ggX11_heaviestLoad_Jx4a65c_get_915e3
set_option maxRecDepth 20000 in
theorem ggJ0_length_8abf5_J0_coder_7d493 : GoodIn wsJ0_length_8abf5 wsJ0_coder_7d493 := goodIn_r _ [6, 7, 8] (by decide +kernel) (by decide +kernel)
set_option maxRecDepth 20000 in
theorem gJ0_length_8abf5_J0_coder_7d493 : GoodIn wsJ0_length_8abf5 (wsV RJ0 335 RJ0 yJ0_coder_7d493 wsJ0_coder_7d493) := goodIn_app (goodIn_of _ (by decide +kernel)) ggJ0_length_8abf5_J0_coder_7d493
set_option maxRecDepth 20000 in
theorem ggJ0_charAt_5068e_J0_isLatin1_aae02 : GoodIn wsJ0_charAt_5068e wsJ0_isLatin1_aae02 := goodIn_r _ [6, 7, 8] (by decide +kernel) (by decide +kernel)
set_option maxRecDepth 20000 in
theorem gJ0_charAt_5068e_J0_isLatin1_aae02 : GoodIn wsJ0_charAt_5068e (wsV RJ0 492 RJ0 yJ0_isLatin1_aae02 wsJ0_isLatin1_aae02) := goodIn_app (goodIn_of _ (by decide +kernel)) ggJ0_charAt_5068e_J0_isLatin1_aae02
set_option maxRecDepth 20000 in
theorem ggJ0_charAt_5068e_J1_charAt_3b067 : GoodIn wsJ0_charAt_5068e wsJ1_charAt_3b067 := goodIn_r _ [12, 13, 14, 5, 15, 16, 17, 18, 19, 20] (by decide +kernel) (by decide +kernel)
set_option maxRecDepth 20000 in
theorem gJ0_charAt_5068e_J1_charAt_3b067 : GoodIn wsJ0_charAt_5068e (va_wsS RJ0 495 yJ1_charAt_3b067 wsJ1_charAt_3b067) := goodIn_app (goodIn_of _ (by decide +kernel)) ggJ0_charAt_5068e_J1_charAt_3b067
set_option maxRecDepth 20000 in
theorem ggJ0_charAt_5068e_J2_charAt_3b067 : GoodIn wsJ0_charAt_5068e wsJ2_charAt_3b067 := goodIn_r _ [24, 25, 26, 23, 27, 28, 29, 30, 31, 14, 5, 15, 16, 17, 18, 19, 20, 32, 33, 34, 35, 36, 37] (by decide +kernel) (by decide +kernel)
set_option maxRecDepth 20000 in
theorem gJ0_charAt_5068e_J2_charAt_3b067 : GoodIn wsJ0_charAt_5068e (va_wsS RJ0 498 yJ2_charAt_3b067 wsJ2_charAt_3b067) := goodIn_app (goodIn_of _ (by decide +kernel)) ggJ0_charAt_5068e_J2_charAt_3b067
set_option maxRecDepth 20000 in
theorem ggJ0_checkIndex_df160_J3_checkIndex_8e157 : GoodIn wsJ0_checkIndex_df160 wsJ3_checkIndex_8e157 := goodIn_r _ [5] (by decide +kernel) (by decide +kernel)
set_option maxRecDepth 20000 in
theorem gJ0_checkIndex_df160_J3_checkIndex_8e157 : GoodIn wsJ0_checkIndex_df160 (va_wsS RJ0 1059 yJ3_checkIndex_8e157 wsJ3_checkIndex_8e157) := goodIn_app (goodIn_of _ (by decide +kernel)) ggJ0_checkIndex_df160_J3_checkIndex_8e157
set_option maxRecDepth 20000 in
theorem ggJ1_charAt_3b067_J0_checkIndex_df160 : GoodIn wsJ1_charAt_3b067 wsJ0_checkIndex_df160 := goodIn_r _ [4, 5, 6, 7, 8, 9] (by decide +kernel) (by decide +kernel)
set_option maxRecDepth 20000 in
theorem gJ1_charAt_3b067_J0_checkIndex_df160 : GoodIn wsJ1_charAt_3b067 (va_wsS RJ1 9 yJ0_checkIndex_df160 wsJ0_checkIndex_df160) := goodIn_app (goodIn_of _ (by decide +kernel)) ggJ1_charAt_3b067_J0_checkIndex_df160
set_option maxRecDepth 20000 in
theorem ggJ2_getChar_3b067_J2_length_9d52b : GoodIn wsJ2_getChar_3b067 wsJ2_length_9d52b := goodIn_r _ [7] (by decide +kernel) (by decide +kernel)
set_option maxRecDepth 20000 in
theorem gJ2_getChar_3b067_J2_length_9d52b : GoodIn wsJ2_getChar_3b067 (va_wsS RJ2 48 yJ2_length_9d52b wsJ2_length_9d52b) := goodIn_app (goodIn_of _ (by decide +kernel)) ggJ2_getChar_3b067_J2_length_9d52b
set_option maxRecDepth 20000 in
theorem ggJ2_charAt_3b067_J2_checkIndex_2214a : GoodIn wsJ2_charAt_3b067 wsJ2_checkIndex_2214a := goodIn_r _ [4, 5, 6, 3, 7, 8, 9, 10, 11, 12, 13, 14, 15, 16] (by decide +kernel) (by decide +kernel)
set_option maxRecDepth 20000 in
theorem gJ2_charAt_3b067_J2_checkIndex_2214a : GoodIn wsJ2_charAt_3b067 (va_wsS RJ2 67 yJ2_checkIndex_2214a wsJ2_checkIndex_2214a) := goodIn_app (goodIn_of _ (by decide +kernel)) ggJ2_charAt_3b067_J2_checkIndex_2214a
set_option maxRecDepth 20000 in
theorem ggJ2_charAt_3b067_J2_getChar_3b067 : GoodIn wsJ2_charAt_3b067 wsJ2_getChar_3b067 := goodIn_r _ [19, 20, 21, 22, 5, 6, 3, 7] (by decide +kernel) (by decide +kernel)
set_option maxRecDepth 20000 in
theorem gJ2_charAt_3b067_J2_getChar_3b067 : GoodIn wsJ2_charAt_3b067 (va_wsS RJ2 71 yJ2_getChar_3b067 wsJ2_getChar_3b067) := goodIn_app (goodIn_of _ (by decide +kernel)) ggJ2_charAt_3b067_J2_getChar_3b067
set_option maxRecDepth 20000 in
theorem ggJ2_checkIndex_2214a_J2_length_9d52b : GoodIn wsJ2_checkIndex_2214a wsJ2_length_9d52b := goodIn_r _ [4] (by decide +kernel) (by decide +kernel)
set_option maxRecDepth 20000 in
theorem gJ2_checkIndex_2214a_J2_length_9d52b : GoodIn wsJ2_checkIndex_2214a (va_wsS RJ2 48 yJ2_length_9d52b wsJ2_length_9d52b) := goodIn_app (goodIn_of _ (by decide +kernel)) ggJ2_checkIndex_2214a_J2_length_9d52b
set_option maxRecDepth 20000 in
theorem ggJ2_checkIndex_2214a_J0_checkIndex_df160 : GoodIn wsJ2_checkIndex_2214a wsJ0_checkIndex_df160 := goodIn_r _ [8, 9, 10, 11, 12, 13] (by decide +kernel) (by decide +kernel)
set_option maxRecDepth 20000 in
theorem gJ2_checkIndex_2214a_J0_checkIndex_df160 : GoodIn wsJ2_checkIndex_2214a (va_wsS RJ2 414 yJ0_checkIndex_df160 wsJ0_checkIndex_df160) := goodIn_app (goodIn_of _ (by decide +kernel)) ggJ2_checkIndex_2214a_J0_checkIndex_df160
set_option maxRecDepth 20000 in
theorem ggJxc12de_init_da8c8_Jxa1e45_init_da8c8 : GoodIn wsJxc12de_init_da8c8 wsJxa1e45_init_da8c8 := goodIn_r _ [5, 6, 7, 8] (by decide +kernel) (by decide +kernel)
set_option maxRecDepth 20000 in
theorem gJxc12de_init_da8c8_Jxa1e45_init_da8c8 : GoodIn wsJxc12de_init_da8c8 (wsJxa1e45_init_da8c8) := ggJxc12de_init_da8c8_Jxa1e45_init_da8c8
set_option maxRecDepth 20000 in
theorem ggJx4a65c_init_da8c8_Jxc12de_init_da8c8 : GoodIn wsJx4a65c_init_da8c8 wsJxc12de_init_da8c8 := goodIn_r _ [6, 7, 8, 9, 10, 11, 12, 13, 14, 15, 16, 17] (by decide +kernel) (by decide +kernel)
set_option maxRecDepth 20000 in
theorem gJx4a65c_init_da8c8_Jxc12de_init_da8c8 : GoodIn wsJx4a65c_init_da8c8 (wsJxc12de_init_da8c8) := ggJx4a65c_init_da8c8_Jxc12de_init_da8c8
set_option maxRecDepth 20000 in
theorem ggJx4a65c_grow_92f84_J8_newLength_cabcc : GoodIn wsJx4a65c_grow_92f84 wsJ8_newLength_cabcc := goodIn_r _ [11, 12, 4, 5, 6, 13, 14, 15, 10, 16] (by decide +kernel) (by decide +kernel)
set_option maxRecDepth 20000 in
theorem gJx4a65c_grow_92f84_J8_newLength_cabcc : GoodIn wsJx4a65c_grow_92f84 (va_wsS RJx4a65c 73 yJ8_newLength_cabcc wsJ8_newLength_cabcc) := goodIn_app (goodIn_of _ (by decide +kernel)) ggJx4a65c_grow_92f84_J8_newLength_cabcc
set_option maxRecDepth 20000 in
theorem ggJx4a65c_grow_92f84_J7_copyOf_1904c : GoodIn wsJx4a65c_grow_92f84 wsJ7_copyOf_1904c := goodIn_r _ [20, 21, 22, 23, 24, 25, 26, 19, 27, 28, 29, 30, 31, 5, 32, 33, 34, 35, 36] (by decide +kernel) (by decide +kernel)
set_option maxRecDepth 20000 in
theorem gJx4a65c_grow_92f84_J7_copyOf_1904c : GoodIn wsJx4a65c_grow_92f84 (va_wsS RJx4a65c 66 yJ7_copyOf_1904c wsJ7_copyOf_1904c) := goodIn_app (goodIn_of _ (by decide +kernel)) ggJx4a65c_grow_92f84_J7_copyOf_1904c
set_option maxRecDepth 20000 in
theorem ggJx4a65c_grow_d5877_Jx4a65c_grow_92f84 : GoodIn wsJx4a65c_grow_d5877 wsJx4a65c_grow_92f84 := goodIn_r _ [6, 7, 8, 9, 10, 11, 12, 13, 14, 15, 16, 17, 18, 19, 20, 21, 22, 23, 24, 25, 26, 27, 28, 29, 30, 31, 32, 33, 34, 35, 36, 37, 38, 39, 40, 41, 42, 43, 44, 45] (by decide +kernel) (by decide +kernel)
set_option maxRecDepth 20000 in
theorem gJx4a65c_grow_d5877_Jx4a65c_grow_92f84 : GoodIn wsJx4a65c_grow_d5877 (wsV RJx4a65c 69 RJx4a65c yJx4a65c_grow_92f84 wsJx4a65c_grow_92f84) := goodIn_app (goodIn_of _ (by decide +kernel)) ggJx4a65c_grow_d5877_Jx4a65c_grow_92f84
set_option maxRecDepth 20000 in
theorem ggJx4a65c_get_915e3_J15_checkIndex_7cf53 : GoodIn wsJx4a65c_get_915e3 wsJ15_checkIndex_7cf53 := goodIn_r _ [5, 6, 7, 8, 9] (by decide +kernel) (by decide +kernel)
set_option maxRecDepth 20000 in
theorem gJx4a65c_get_915e3_J15_checkIndex_7cf53 : GoodIn wsJx4a65c_get_915e3 (va_wsS RJx4a65c 118 yJ15_checkIndex_7cf53 wsJ15_checkIndex_7cf53) := goodIn_app (goodIn_of _ (by decide +kernel)) ggJx4a65c_get_915e3_J15_checkIndex_7cf53
set_option maxRecDepth 20000 in
theorem ggJx4a65c_get_915e3_Jx4a65c_elementData_915e3 : GoodIn wsJx4a65c_get_915e3 wsJx4a65c_elementData_915e3 := goodIn_r _ [14, 15, 16, 17, 18] (by decide +kernel) (by decide +kernel)
set_option maxRecDepth 20000 in
theorem gJx4a65c_get_915e3_Jx4a65c_elementData_915e3 : GoodIn wsJx4a65c_get_915e3 (wsV RJx4a65c 123 RJx4a65c yJx4a65c_elementData_915e3 wsJx4a65c_elementData_915e3) := goodIn_app (goodIn_of _ (by decide +kernel)) ggJx4a65c_get_915e3_Jx4a65c_elementData_915e3
set_option maxRecDepth 20000 in
theorem ggJx4a65c_add_72be8_Jx4a65c_grow_d5877 : GoodIn wsJx4a65c_add_72be8 wsJx4a65c_grow_d5877 := goodIn_r _ [6, 1, 7, 8, 9, 5, 10, 11, 12, 13, 14, 15, 16, 17, 18, 19, 20, 21, 22, 23, 24, 25, 26, 27, 28, 29, 30, 31, 32, 33, 34, 35, 36, 37, 38, 39, 40, 41, 42, 43, 44, 45, 46, 47, 48, 49] (by decide +kernel) (by decide +kernel)
set_option maxRecDepth 20000 in
theorem gJx4a65c_add_72be8_Jx4a65c_grow_d5877 : GoodIn wsJx4a65c_add_72be8 (wsV RJx4a65c 129 RJx4a65c yJx4a65c_grow_d5877 wsJx4a65c_grow_d5877) := goodIn_app (goodIn_of _ (by decide +kernel)) ggJx4a65c_add_72be8_Jx4a65c_grow_d5877
set_option maxRecDepth 20000 in
theorem ggJx4a65c_add_9ea2d_Jx4a65c_add_72be8 : GoodIn wsJx4a65c_add_9ea2d wsJx4a65c_add_72be8 := goodIn_r _ [9, 4, 10, 11, 12, 8, 13, 14, 15, 16, 17, 3, 18, 19, 20, 21, 22, 23, 24, 25, 26, 27, 28, 29, 30, 31, 32, 33, 34, 35, 36, 37, 38, 39, 40, 41, 42, 43, 44, 45, 46, 47, 48, 49, 50, 51, 52, 53, 54, 55] (by decide +kernel) (by decide +kernel)
set_option maxRecDepth 20000 in
theorem gJx4a65c_add_9ea2d_Jx4a65c_add_72be8 : GoodIn wsJx4a65c_add_9ea2d (wsV RJx4a65c 131 RJx4a65c yJx4a65c_add_72be8 wsJx4a65c_add_72be8) := goodIn_app (goodIn_of _ (by decide +kernel)) ggJx4a65c_add_9ea2d_Jx4a65c_add_72be8
set_option maxRecDepth 20000 in
theorem ggJ7_copyOf_1904c_J7_copyOf_6403c : GoodIn wsJ7_copyOf_1904c wsJ7_copyOf_6403c := goodIn_r _ [8, 9, 10, 11, 12, 13, 14, 15, 16, 17, 18] (by decide +kernel) (by decide +kernel)
set_option maxRecDepth 20000 in
theorem gJ7_copyOf_1904c_J7_copyOf_6403c : GoodIn wsJ7_copyOf_1904c (va_wsS RJ7 300 yJ7_copyOf_6403c wsJ7_copyOf_6403c) := goodIn_app (goodIn_of _ (by decide +kernel)) ggJ7_copyOf_1904c_J7_copyOf_6403c
set_option maxRecDepth 20000 in
theorem ggJ15_checkIndex_7cf53_J3_checkIndex_8e157 : GoodIn wsJ15_checkIndex_7cf53 wsJ3_checkIndex_8e157 := goodIn_r _ [4] (by decide +kernel) (by decide +kernel)
set_option maxRecDepth 20000 in
theorem gJ15_checkIndex_7cf53_J3_checkIndex_8e157 : GoodIn wsJ15_checkIndex_7cf53 (va_wsS RJ15 105 yJ3_checkIndex_8e157 wsJ3_checkIndex_8e157) := goodIn_app (goodIn_of _ (by decide +kernel)) ggJ15_checkIndex_7cf53_J3_checkIndex_8e157
set_option maxRecDepth 20000 in
theorem ggJ8_newLength_cabcc_J8_hugeLength_7cf53 : GoodIn wsJ8_newLength_cabcc wsJ8_hugeLength_7cf53 := goodIn_r _ [9, 5] (by decide +kernel) (by decide +kernel)
set_option maxRecDepth 20000 in
theorem gJ8_newLength_cabcc_J8_hugeLength_7cf53 : GoodIn wsJ8_newLength_cabcc (va_wsS RJ8 201 yJ8_hugeLength_7cf53 wsJ8_hugeLength_7cf53) := goodIn_app (goodIn_of _ (by decide +kernel)) ggJ8_newLength_cabcc_J8_hugeLength_7cf53
