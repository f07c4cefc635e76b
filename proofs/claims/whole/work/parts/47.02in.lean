set_option maxRecDepth 20000 in
theorem lin_16 : ∀ w ∈ wsL_law_r17, w ∈ lw_tbl := fun w h => (goodIn_p wsL_law_r17 [514, 519, 1283, 1288, 541] (by decide +kernel) (by decide +kernel) w h).1
set_option maxRecDepth 20000 in
theorem lin_17 : ∀ w ∈ wsL_law_r18, w ∈ lw_tbl := fun w h => (goodIn_p wsL_law_r18 [545, 549, 1292, 1296, 554] (by decide +kernel) (by decide +kernel) w h).1
set_option maxRecDepth 20000 in
theorem lin_18 : ∀ w ∈ wsL_law_r19, w ∈ lw_tbl := fun w h => (goodIn_p wsL_law_r19 [558, 562, 1300, 1304, 567] (by decide +kernel) (by decide +kernel) w h).1
set_option maxRecDepth 20000 in
theorem lin_19 : ∀ w ∈ wsL_law_r20, w ∈ lw_tbl := fun w h => (goodIn_p wsL_law_r20 [571, 576, 601] (by decide +kernel) (by decide +kernel) w h).1
set_option maxRecDepth 20000 in
theorem lin_20 : ∀ w ∈ wsL_law_r21, w ∈ lw_tbl := fun w h => (goodIn_p wsL_law_r21 [605, 609, 613, 618, 622] (by decide +kernel) (by decide +kernel) w h).1
set_option maxRecDepth 20000 in
theorem lin_21 : ∀ w ∈ wsL_law_r22, w ∈ lw_tbl := fun w h => (goodIn_p wsL_law_r22 [626, 630, 635, 640] (by decide +kernel) (by decide +kernel) w h).1
set_option maxRecDepth 20000 in
theorem lin_22 : ∀ w ∈ wsL_law_r23, w ∈ lw_tbl := fun w h => (goodIn_p wsL_law_r23 [655, 660, 664, 1308, 1312] (by decide +kernel) (by decide +kernel) w h).1
set_option maxRecDepth 20000 in
theorem lin_23 : ∀ w ∈ wsL_law_r24, w ∈ lw_tbl := fun w h => (goodIn_p wsL_law_r24 [1316, 1320, 1324, 668, 672] (by decide +kernel) (by decide +kernel) w h).1
set_option maxRecDepth 20000 in
theorem lin_24 : ∀ w ∈ wsL_law_r25, w ∈ lw_tbl := fun w h => (goodIn_p wsL_law_r25 [1328, 679, 683, 1334] (by decide +kernel) (by decide +kernel) w h).1
set_option maxRecDepth 20000 in
theorem lin_25 : ∀ w ∈ wsL_law_r26, w ∈ lw_tbl := fun w h => (goodIn_p wsL_law_r26 [687, 1339, 691, 695, 699, 704] (by decide +kernel) (by decide +kernel) w h).1
set_option maxRecDepth 20000 in
theorem lin_26 : ∀ w ∈ wsL_law_r27, w ∈ lw_tbl := fun w h => (goodIn_p wsL_law_r27 [709, 713, 1343, 1347, 1352] (by decide +kernel) (by decide +kernel) w h).1
set_option maxRecDepth 20000 in
theorem lin_27 : ∀ w ∈ wsL_law_r28, w ∈ lw_tbl := fun w h => (goodIn_p wsL_law_r28 [717, 1356, 721, 1360, 725] (by decide +kernel) (by decide +kernel) w h).1
set_option maxRecDepth 20000 in
theorem lin_28 : ∀ w ∈ wsL_law_r29, w ∈ lw_tbl := fun w h => (goodIn_p wsL_law_r29 [729, 1365, 733, 738, 743] (by decide +kernel) (by decide +kernel) w h).1
set_option maxRecDepth 20000 in
theorem lin_29 : ∀ w ∈ wsL_law_r30, w ∈ lw_tbl := fun w h => (goodIn_p wsL_law_r30 [747, 754, 759, 762, 766] (by decide +kernel) (by decide +kernel) w h).1
set_option maxRecDepth 20000 in
theorem lin_30 : ∀ w ∈ wsL_law_r31, w ∈ lw_tbl := fun w h => (goodIn_p wsL_law_r31 [770, 774, 779, 783, 787, 791] (by decide +kernel) (by decide +kernel) w h).1
set_option maxRecDepth 20000 in
theorem lin_31 : ∀ w ∈ wsL_law_r32, w ∈ lw_tbl := fun w h => (goodIn_p wsL_law_r32 [795, 800, 804, 808, 1369, 1374] (by decide +kernel) (by decide +kernel) w h).1
