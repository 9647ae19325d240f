set_option maxRecDepth 20000 in
theorem ggX0_addStreet_X0_hasCorner : GoodIn wsX0_addStreet wsX0_hasCorner := goodIn_r _ [9, 10, 11, 12, 13, 14, 15, 16, 17, 18, 19] rfl (by decide +kernel)
set_option maxRecDepth 20000 in
theorem gX0_addStreet_X0_hasCorner : GoodIn wsX0_addStreet (wsV RX0 42 RX0 yX0_hasCorner wsX0_hasCorner) := goodIn_app (goodIn_r _ [5, 6, 7, 8] rfl (by decide +kernel)) ggX0_addStreet_X0_hasCorner
set_option maxRecDepth 20000 in
theorem ggX0_addLeader_X0_hasCorner : GoodIn wsX0_addLeader wsX0_hasCorner := goodIn_r _ [8, 9, 10, 11, 12, 13, 14, 15, 16, 17, 18] rfl (by decide +kernel)
set_option maxRecDepth 20000 in
theorem gX0_addLeader_X0_hasCorner : GoodIn wsX0_addLeader (wsV RX0 42 RX0 yX0_hasCorner wsX0_hasCorner) := goodIn_app (goodIn_r _ [4, 5, 6, 7] rfl (by decide +kernel)) ggX0_addLeader_X0_hasCorner
set_option maxRecDepth 20000 in
theorem ggX0_wantedWay_X0_wayFrom : GoodIn wsX0_wantedWay wsX0_wayFrom := goodIn_r _ [8, 9, 10, 15, 16, 17, 18, 19, 20, 21, 22, 23] rfl (by decide +kernel)
set_option maxRecDepth 20000 in
theorem gX0_wantedWay_X0_wayFrom : GoodIn wsX0_wantedWay (wsV RX0 52 RX0 yX0_wayFrom wsX0_wayFrom) := goodIn_app (goodIn_r _ [4, 5, 6, 7] rfl (by decide +kernel)) ggX0_wantedWay_X0_wayFrom
set_option maxRecDepth 20000 in
theorem ggX0_wantedWay_X0_otherEnd : GoodIn wsX0_wantedWay wsX0_otherEnd := goodIn_r _ [14, 10, 9, 15, 16, 17, 18, 19, 20, 21, 22, 23] rfl (by decide +kernel)
set_option maxRecDepth 20000 in
theorem gX0_wantedWay_X0_otherEnd : GoodIn wsX0_wantedWay (wsV RX0 55 RX0 yX0_otherEnd wsX0_otherEnd) := goodIn_app (goodIn_r _ [11, 12, 13, 7] rfl (by decide +kernel)) ggX0_wantedWay_X0_otherEnd
set_option maxRecDepth 20000 in
theorem ggX1_init_X3_init : GoodIn wsX1_init wsX3_init := goodIn_r _ [9, 10, 2, 3] rfl (by decide +kernel)
set_option maxRecDepth 20000 in
theorem gX1_init_X3_init_n17 : GoodIn wsX1_init (wsX3_init) := ggX1_init_X3_init
set_option maxRecDepth 20000 in
theorem ggX1_remember_X1_loseOldest : GoodIn wsX1_remember wsX1_loseOldest := goodIn_r _ [7, 1, 2, 8, 9, 10, 11, 12, 13, 14, 15, 16, 17, 18, 19, 20, 21, 22, 23, 24, 25, 26] rfl (by decide +kernel)
set_option maxRecDepth 20000 in
theorem gX1_remember_X1_loseOldest : GoodIn wsX1_remember (wsV RX1 22 RX1 yX1_loseOldest wsX1_loseOldest) := goodIn_app (goodIn_r _ [3, 4, 5, 6] rfl (by decide +kernel)) ggX1_remember_X1_loseOldest
set_option maxRecDepth 20000 in
theorem ggX1_remember_X3_become : GoodIn wsX1_remember wsX3_become := goodIn_r _ [12, 13, 14, 15, 16, 17, 18, 21, 22, 23, 24, 25, 26] rfl (by decide +kernel)
set_option maxRecDepth 20000 in
theorem gX1_remember_X3_become : GoodIn wsX1_remember (wsV RX1 25 RX3 yX3_become wsX3_become) := goodIn_app (goodIn_r _ [8, 9, 10, 11] rfl (by decide +kernel)) ggX1_remember_X3_become
set_option maxRecDepth 20000 in
theorem ggX1_loseOldest_X3_become : GoodIn wsX1_loseOldest wsX3_become := goodIn_r _ [7, 8, 9, 10, 11, 12, 13, 16, 17, 18, 19, 20, 21] rfl (by decide +kernel)
set_option maxRecDepth 20000 in
theorem gX1_loseOldest_X3_become : GoodIn wsX1_loseOldest (wsV RX1 25 RX3 yX3_become wsX3_become) := goodIn_app (goodIn_r _ [3, 4, 5, 6] rfl (by decide +kernel)) ggX1_loseOldest_X3_become
set_option maxRecDepth 20000 in
theorem ggX1_restore_X3_become : GoodIn wsX1_restore wsX3_become := goodIn_r _ [7, 8, 9, 10, 11, 12, 13, 16, 17, 18, 19, 20, 21] rfl (by decide +kernel)
set_option maxRecDepth 20000 in
theorem gX1_restore_X3_become : GoodIn wsX1_restore (wsV RX1 25 RX3 yX3_become wsX3_become) := goodIn_app (goodIn_r _ [3, 4, 5, 6] rfl (by decide +kernel)) ggX1_restore_X3_become
set_option maxRecDepth 20000 in
theorem ggX1_become_X3_become : GoodIn wsX1_become wsX3_become := goodIn_r _ [7, 8, 9, 10, 11, 12, 13, 16, 17, 18, 19, 20, 21] rfl (by decide +kernel)
set_option maxRecDepth 20000 in
theorem gX1_become_X3_become : GoodIn wsX1_become (wsV RX1 25 RX3 yX3_become wsX3_become) := goodIn_app (goodIn_r _ [3, 4, 5, 6] rfl (by decide +kernel)) ggX1_become_X3_become
set_option maxRecDepth 20000 in
theorem ggX2_init_X3_init : GoodIn wsX2_init wsX3_init := goodIn_r _ [13, 14, 2, 3] rfl (by decide +kernel)
set_option maxRecDepth 20000 in
theorem gX2_init_X3_init_n9 : GoodIn wsX2_init (wsX3_init) := ggX2_init_X3_init
set_option maxRecDepth 20000 in
theorem ggX2_init_X1_init : GoodIn wsX2_init wsX1_init := goodIn_r _ [17, 18, 2, 3, 19, 20, 5, 6, 12, 13, 14, 30, 31, 21, 22, 23, 24, 25, 26] rfl (by decide +kernel)
set_option maxRecDepth 20000 in
theorem gX2_init_X1_init : GoodIn wsX2_init (wsX1_init) := ggX2_init_X1_init
set_option maxRecDepth 20000 in
theorem ggX2_take_X3_become : GoodIn wsX2_take wsX3_become := goodIn_r _ [8, 9, 10, 11, 12, 13, 14, 26, 27, 28, 29, 30, 31] rfl (by decide +kernel)
set_option maxRecDepth 20000 in
theorem gX2_take_X3_become : GoodIn wsX2_take (wsV RX2 23 RX3 yX3_become wsX3_become) := goodIn_app (goodIn_r _ [4, 5, 6, 7] rfl (by decide +kernel)) ggX2_take_X3_become
set_option maxRecDepth 20000 in
theorem ggX2_take_X1_become : GoodIn wsX2_take wsX1_become := goodIn_r _ [19, 20, 21, 22, 5, 6, 7, 8, 9, 10, 11, 12, 13, 14, 32, 33, 26, 27, 28, 29, 30, 31] rfl (by decide +kernel)
set_option maxRecDepth 20000 in
theorem gX2_take_X1_become : GoodIn wsX2_take (wsV RX2 27 RX1 yX1_become wsX1_become) := goodIn_app (goodIn_r _ [15, 16, 17, 18] rfl (by decide +kernel)) ggX2_take_X1_become
set_option maxRecDepth 20000 in
theorem ggX2_give_X3_become : GoodIn wsX2_give wsX3_become := goodIn_r _ [7, 8, 9, 10, 11, 12, 13, 25, 26, 27, 28, 29, 30] rfl (by decide +kernel)
set_option maxRecDepth 20000 in
theorem gX2_give_X3_become : GoodIn wsX2_give (wsV RX2 23 RX3 yX3_become wsX3_become) := goodIn_app (goodIn_r _ [3, 4, 5, 6] rfl (by decide +kernel)) ggX2_give_X3_become
set_option maxRecDepth 20000 in
theorem ggX2_give_X1_become : GoodIn wsX2_give wsX1_become := goodIn_r _ [18, 19, 20, 21, 4, 5, 6, 7, 8, 9, 10, 11, 12, 13, 31, 32, 25, 26, 27, 28, 29, 30] rfl (by decide +kernel)
set_option maxRecDepth 20000 in
theorem gX2_give_X1_become : GoodIn wsX2_give (wsV RX2 27 RX1 yX1_become wsX1_become) := goodIn_app (goodIn_r _ [14, 15, 16, 17] rfl (by decide +kernel)) ggX2_give_X1_become
set_option maxRecDepth 20000 in
theorem ggX3_goBy_X0_hasLeader : GoodIn wsX3_goBy wsX0_hasLeader := goodIn_r _ [13, 14, 37, 38, 39, 40, 41, 42, 43, 44, 45] rfl (by decide +kernel)
set_option maxRecDepth 20000 in
theorem gX3_goBy_X0_hasLeader : GoodIn wsX3_goBy (wsV RX3 30 RX0 yX0_hasLeader wsX0_hasLeader) := goodIn_app (goodIn_r _ [9, 10, 11, 12] rfl (by decide +kernel)) ggX3_goBy_X0_hasLeader
set_option maxRecDepth 20000 in
theorem ggX3_goBy_X0_wantedWay : GoodIn wsX3_goBy wsX0_wantedWay := goodIn_r _ [18, 19, 20, 21, 22, 23, 24, 12, 25, 26, 27, 28, 29, 30, 31, 37, 38, 39, 40, 41, 42, 43, 44, 45] rfl (by decide +kernel)
set_option maxRecDepth 20000 in
theorem gX3_goBy_X0_wantedWay : GoodIn wsX3_goBy (wsV RX3 43 RX0 yX0_wantedWay wsX0_wantedWay) := goodIn_app (goodIn_r _ [15, 16, 17, 12] rfl (by decide +kernel)) ggX3_goBy_X0_wantedWay
set_option maxRecDepth 20000 in
theorem ggX3_goBy_X0_hoursOf : GoodIn wsX3_goBy wsX0_hoursOf := goodIn_r _ [35, 21, 37, 38, 39, 40, 41, 42, 43, 44, 45] rfl (by decide +kernel)
set_option maxRecDepth 20000 in
theorem gX3_goBy_X0_hoursOf : GoodIn wsX3_goBy (wsV RX3 47 RX0 yX0_hoursOf wsX0_hoursOf) := goodIn_app (goodIn_r _ [32, 33, 34, 12] rfl (by decide +kernel)) ggX3_goBy_X0_hoursOf
set_option maxRecDepth 20000 in
theorem ggX3_goBy_X0_otherEnd : GoodIn wsX3_goBy wsX0_otherEnd := goodIn_r _ [31, 27, 26, 37, 38, 39, 40, 41, 42, 43, 44, 45] rfl (by decide +kernel)
set_option maxRecDepth 20000 in
theorem gX3_goBy_X0_otherEnd : GoodIn wsX3_goBy (wsV RX3 51 RX0 yX0_otherEnd wsX0_otherEnd) := goodIn_app (goodIn_r _ [36, 29, 30, 12] rfl (by decide +kernel)) ggX3_goBy_X0_otherEnd
set_option maxRecDepth 20000 in
theorem ggX4_begin_X3_walked : GoodIn wsX4_begin wsX3_walked := goodIn_r _ [14, 15, 30, 31, 32, 33, 34, 35] rfl (by decide +kernel)
set_option maxRecDepth 20000 in
theorem gX4_begin_X3_walked : GoodIn wsX4_begin (wsV RX4 28 RX3 yX3_walked wsX3_walked) := goodIn_app (goodIn_r _ [10, 11, 12, 13] rfl (by decide +kernel)) ggX4_begin_X3_walked
set_option maxRecDepth 20000 in
theorem ggX4_take_X4_takeBest : GoodIn wsX4_take wsX4_takeBest := goodIn_r _ [26, 27, 28, 29, 30, 31, 3, 32, 33, 34, 35, 61, 62, 63, 64, 65, 66, 67, 68, 69, 70, 71, 72, 73, 74, 55, 56, 57, 58, 59, 60] rfl (by decide +kernel)
set_option maxRecDepth 20000 in
theorem gX4_take_X4_takeBest : GoodIn wsX4_take (wsV RX4 64 RX4 yX4_takeBest wsX4_takeBest) := goodIn_app (goodIn_r _ [22, 23, 24, 25] rfl (by decide +kernel)) ggX4_take_X4_takeBest
set_option maxRecDepth 20000 in
theorem ggX4_take_X4_takeLongest : GoodIn wsX4_take wsX4_takeLongest := goodIn_r _ [39, 1, 40, 30, 41, 3, 32, 33, 34, 35, 42, 43, 44, 45, 46, 47, 48, 49, 50, 51, 52, 53, 54, 55, 56, 57, 58, 59, 60, 61, 62, 63, 64, 65, 66, 67, 68, 69, 70, 71, 72, 73, 74, 75, 76, 77, 78, 79, 80] rfl (by decide +kernel)
set_option maxRecDepth 20000 in
theorem gX4_take_X4_takeLongest : GoodIn wsX4_take (wsV RX4 68 RX4 yX4_takeLongest wsX4_takeLongest) := goodIn_app (goodIn_r _ [36, 37, 38, 25] rfl (by decide +kernel)) ggX4_take_X4_takeLongest
set_option maxRecDepth 20000 in
theorem ggX4_take_X3_walked : GoodIn wsX4_take wsX3_walked := goodIn_r _ [46, 47, 75, 76, 77, 78, 79, 80] rfl (by decide +kernel)
set_option maxRecDepth 20000 in
theorem gX4_take_X3_walked : GoodIn wsX4_take (wsV RX4 28 RX3 yX3_walked wsX3_walked) := goodIn_app (goodIn_r _ [42, 43, 44, 45] rfl (by decide +kernel)) ggX4_take_X3_walked
set_option maxRecDepth 20000 in
theorem ggX4_takeLongest_X3_walked : GoodIn wsX4_takeLongest wsX3_walked := goodIn_r _ [14, 15, 43, 44, 45, 46, 47, 48] rfl (by decide +kernel)
set_option maxRecDepth 20000 in
theorem gX4_takeLongest_X3_walked : GoodIn wsX4_takeLongest (wsV RX4 28 RX3 yX3_walked wsX3_walked) := goodIn_app (goodIn_r _ [10, 11, 12, 13] rfl (by decide +kernel)) ggX4_takeLongest_X3_walked
set_option maxRecDepth 20000 in
theorem ggX4_takeLongest_J6_bitCount_0f7a4 : GoodIn wsX4_takeLongest wsJ6_bitCount_0f7a4 := goodIn_r _ [19, 20, 21, 22] rfl (by decide +kernel)
set_option maxRecDepth 20000 in
theorem gX4_takeLongest_J6_bitCount_0f7a4 : GoodIn wsX4_takeLongest (va_wsS RX4 103 yJ6_bitCount_0f7a4 wsJ6_bitCount_0f7a4) := goodIn_app (goodIn_r _ [16, 17, 18] rfl (by decide +kernel)) ggX4_takeLongest_J6_bitCount_0f7a4
set_option maxRecDepth 20000 in
theorem ggX5_init_X3_init : GoodIn wsX5_init wsX3_init := goodIn_r _ [12, 13, 2, 3] rfl (by decide +kernel)
set_option maxRecDepth 20000 in
theorem gX5_init_X3_init_n20 : GoodIn wsX5_init (wsX3_init) := ggX5_init_X3_init
set_option maxRecDepth 20000 in
theorem ggX5_walk_X3_become : GoodIn wsX5_walk wsX3_become := goodIn_r _ [8, 9, 10, 11, 12, 13, 14, 54, 55, 56, 57, 58, 59] rfl (by decide +kernel)
set_option maxRecDepth 20000 in
theorem gX5_walk_X3_become : GoodIn wsX5_walk (wsV RX5 35 RX3 yX3_become wsX3_become) := goodIn_app (goodIn_r _ [4, 5, 6, 7] rfl (by decide +kernel)) ggX5_walk_X3_become
set_option maxRecDepth 20000 in
theorem ggX5_walk_X3_goBy : GoodIn wsX5_walk wsX3_goBy := goodIn_r _ [18, 19, 20, 12, 9, 13, 14, 11, 10, 21, 22, 23, 24, 25, 26, 27, 28, 29, 30, 31, 32, 33, 34, 35, 36, 37, 38, 39, 40, 41, 42, 43, 44, 45, 46, 47, 48, 60, 61, 62, 63, 64, 65, 66, 67, 68, 54, 55, 56, 57, 58, 59] rfl (by decide +kernel)
set_option maxRecDepth 20000 in
theorem gX5_walk_X3_goBy : GoodIn wsX5_walk (wsV RX5 39 RX3 yX3_goBy wsX3_goBy) := goodIn_app (goodIn_r _ [15, 16, 17, 7] rfl (by decide +kernel)) ggX5_walk_X3_goBy
set_option maxRecDepth 20000 in
theorem ggX6_init_X3_init : GoodIn wsX6_init wsX3_init := goodIn_r _ [13, 14, 2, 3] rfl (by decide +kernel)
set_option maxRecDepth 20000 in
theorem gX6_init_X3_init_n23 : GoodIn wsX6_init (wsX3_init) := ggX6_init_X3_init
set_option maxRecDepth 20000 in
theorem ggX6_begin_X3_hasLed : GoodIn wsX6_begin wsX3_hasLed := goodIn_r _ [8, 9, 25, 26, 27, 28, 29, 30] rfl (by decide +kernel)
set_option maxRecDepth 20000 in
theorem gX6_begin_X3_hasLed : GoodIn wsX6_begin (wsV RX6 37 RX3 yX3_hasLed wsX3_hasLed) := goodIn_app (goodIn_r _ [4, 5, 6, 7] rfl (by decide +kernel)) ggX6_begin_X3_hasLed
set_option maxRecDepth 20000 in
theorem ggX6_next_X6_swap : GoodIn wsX6_next wsX6_swap := goodIn_r _ [7, 2, 8, 9, 10, 11, 12, 13] rfl (by decide +kernel)
set_option maxRecDepth 20000 in
theorem gX6_next_X6_swap : GoodIn wsX6_next (wsV RX6 41 RX6 yX6_swap wsX6_swap) := goodIn_app (goodIn_r _ [3, 4, 5, 6] rfl (by decide +kernel)) ggX6_next_X6_swap
set_option maxRecDepth 20000 in
theorem ggX6_walk_X3_become : GoodIn wsX6_walk wsX3_become := goodIn_r _ [13, 14, 15, 16, 17, 18, 19, 60, 61, 62, 63, 64, 65] rfl (by decide +kernel)
set_option maxRecDepth 20000 in
theorem gX6_walk_X3_become : GoodIn wsX6_walk (wsV RX6 45 RX3 yX3_become wsX3_become) := goodIn_app (goodIn_r _ [9, 10, 11, 12] rfl (by decide +kernel)) ggX6_walk_X3_become
set_option maxRecDepth 20000 in
theorem ggX6_walk_X3_goBy : GoodIn wsX6_walk wsX3_goBy := goodIn_r _ [23, 24, 25, 17, 14, 18, 19, 16, 15, 26, 27, 28, 29, 30, 31, 32, 33, 34, 35, 36, 37, 38, 39, 40, 41, 42, 43, 44, 45, 46, 47, 48, 49, 50, 51, 52, 53, 66, 67, 68, 69, 70, 71, 72, 73, 74, 60, 61, 62, 63, 64, 65] rfl (by decide +kernel)
set_option maxRecDepth 20000 in
theorem gX6_walk_X3_goBy : GoodIn wsX6_walk (wsV RX6 52 RX3 yX3_goBy wsX3_goBy) := goodIn_app (goodIn_r _ [20, 21, 22, 12] rfl (by decide +kernel)) ggX6_walk_X3_goBy
set_option maxRecDepth 20000 in
theorem ggX8_read_X0_empty : GoodIn wsX8_read wsX0_empty := goodIn_r _ [8, 9, 10, 11, 74, 75, 76, 77, 78, 79, 80, 81, 82] rfl (by decide +kernel)
set_option maxRecDepth 20000 in
theorem gX8_read_X0_empty : GoodIn wsX8_read (wsV RX8 19 RX0 yX0_empty wsX0_empty) := goodIn_app (goodIn_r _ [4, 5, 6, 7] rfl (by decide +kernel)) ggX8_read_X0_empty
set_option maxRecDepth 20000 in
theorem ggX8_read_X8_advance : GoodIn wsX8_read wsX8_advance := goodIn_r _ [16, 1, 3, 2, 17, 18, 19, 20, 21, 22, 15, 23, 68, 69, 70, 71, 72, 73] rfl (by decide +kernel)
set_option maxRecDepth 20000 in
theorem gX8_read_X8_advance : GoodIn wsX8_read (wsV RX8 27 RX8 yX8_advance wsX8_advance) := goodIn_app (goodIn_r _ [12, 13, 14, 15] rfl (by decide +kernel)) ggX8_read_X8_advance
set_option maxRecDepth 20000 in
theorem ggX8_read_X8_readItem : GoodIn wsX8_read wsX8_readItem := goodIn_r _ [27, 2, 18, 28, 29, 30, 31, 32, 15, 33, 34, 35, 36, 37, 38, 12, 13, 14, 16, 1, 3, 17, 19, 20, 21, 22, 23, 39, 40, 41, 42, 43, 44, 45, 46, 47, 48, 49, 7, 50, 10, 51, 52, 53, 54, 55, 56, 57, 9, 58, 59, 60, 61, 62, 63, 64, 65, 11, 66, 67, 68, 69, 70, 71, 72, 73, 74, 75, 76, 77, 78, 79, 80, 81, 82] rfl (by decide +kernel)
set_option maxRecDepth 20000 in
theorem gX8_read_X8_readItem : GoodIn wsX8_read (wsV RX8 33 RX8 yX8_readItem wsX8_readItem) := goodIn_app (goodIn_r _ [24, 25, 26, 15] rfl (by decide +kernel)) ggX8_read_X8_readItem
set_option maxRecDepth 20000 in
theorem ggX8_readItem_X8_readCorners : GoodIn wsX8_readItem wsX8_readCorners := goodIn_r _ [9, 2, 10, 11, 12, 13, 8, 14, 1, 15, 16, 17, 18, 19, 20, 21, 22, 23, 24, 25, 26, 27, 28, 29, 30, 60, 61, 62, 63, 64, 65, 66, 67, 68, 69, 70, 71, 72, 73, 74] rfl (by decide +kernel)
set_option maxRecDepth 20000 in
theorem gX8_readItem_X8_readCorners : GoodIn wsX8_readItem (wsV RX8 43 RX8 yX8_readCorners wsX8_readCorners) := goodIn_app (goodIn_r _ [5, 6, 7, 8] rfl (by decide +kernel)) ggX8_readItem_X8_readCorners
set_option maxRecDepth 20000 in
theorem ggX8_readItem_X8_readStreet : GoodIn wsX8_readItem wsX8_readStreet := goodIn_r _ [34, 10, 2, 11, 12, 13, 8, 14, 1, 15, 16, 17, 18, 19, 20, 21, 22, 23, 24, 25, 26, 35, 36, 37, 38, 39, 40, 41, 42, 43, 44, 45, 46, 47, 48, 27, 28, 29, 30, 66, 67, 68, 69, 70, 71, 72, 73, 74, 60, 61, 62, 63, 64, 65] rfl (by decide +kernel)
set_option maxRecDepth 20000 in
theorem gX8_readItem_X8_readStreet : GoodIn wsX8_readItem (wsV RX8 50 RX8 yX8_readStreet wsX8_readStreet) := goodIn_app (goodIn_r _ [31, 32, 33, 8] rfl (by decide +kernel)) ggX8_readItem_X8_readStreet
set_option maxRecDepth 20000 in
theorem ggX8_readItem_X8_readLeader : GoodIn wsX8_readItem wsX8_readLeader := goodIn_r _ [52, 10, 2, 11, 12, 13, 8, 14, 1, 15, 16, 17, 18, 19, 20, 21, 22, 23, 24, 25, 26, 53, 54, 55, 38, 56, 57, 58, 59, 44, 45, 46, 47, 48, 27, 28, 29, 30, 66, 67, 68, 69, 70, 71, 72, 73, 74, 60, 61, 62, 63, 64, 65] rfl (by decide +kernel)
set_option maxRecDepth 20000 in
theorem gX8_readItem_X8_readLeader : GoodIn wsX8_readItem (wsV RX8 56 RX8 yX8_readLeader wsX8_readLeader) := goodIn_app (goodIn_r _ [49, 50, 51, 8] rfl (by decide +kernel)) ggX8_readItem_X8_readLeader
set_option maxRecDepth 20000 in
theorem ggX8_readCorners_X8_readNumber : GoodIn wsX8_readCorners wsX8_readNumber := goodIn_r _ [7, 8, 1, 9, 10, 11, 6, 12, 13, 14, 15, 16, 17, 18, 19, 20, 25, 26, 27, 28, 29, 30] rfl (by decide +kernel)
set_option maxRecDepth 20000 in
theorem gX8_readCorners_X8_readNumber : GoodIn wsX8_readCorners (wsV RX8 59 RX8 yX8_readNumber wsX8_readNumber) := goodIn_app (goodIn_r _ [3, 4, 5, 6] rfl (by decide +kernel)) ggX8_readCorners_X8_readNumber
set_option maxRecDepth 20000 in
theorem ggX8_readCorners_X8_readStop : GoodIn wsX8_readCorners wsX8_readStop := goodIn_r _ [24, 8, 9, 10, 11, 6, 12, 13, 14, 15, 1, 16, 17, 18, 19, 20, 25, 26, 27, 28, 29, 30] rfl (by decide +kernel)
set_option maxRecDepth 20000 in
theorem gX8_readCorners_X8_readStop : GoodIn wsX8_readCorners (wsV RX8 66 RX8 yX8_readStop wsX8_readStop) := goodIn_app (goodIn_r _ [21, 22, 23, 6] rfl (by decide +kernel)) ggX8_readCorners_X8_readStop
set_option maxRecDepth 20000 in
theorem ggX8_readStreet_X8_readNumber : GoodIn wsX8_readStreet wsX8_readNumber := goodIn_r _ [7, 8, 2, 9, 10, 11, 6, 12, 13, 14, 15, 16, 17, 18, 19, 20, 48, 49, 50, 51, 52, 53] rfl (by decide +kernel)
set_option maxRecDepth 20000 in
theorem gX8_readStreet_X8_readNumber : GoodIn wsX8_readStreet (wsV RX8 59 RX8 yX8_readNumber wsX8_readNumber) := goodIn_app (goodIn_r _ [3, 4, 5, 6] rfl (by decide +kernel)) ggX8_readStreet_X8_readNumber
set_option maxRecDepth 20000 in
theorem ggX8_readStreet_X0_addStreet : GoodIn wsX8_readStreet wsX0_addStreet := goodIn_r _ [25, 26, 27, 28, 29, 30, 31, 32, 24, 33, 34, 39, 40, 41, 42, 43, 44, 45, 46, 47] rfl (by decide +kernel)
set_option maxRecDepth 20000 in
theorem gX8_readStreet_X0_addStreet : GoodIn wsX8_readStreet (wsV RX8 70 RX0 yX0_addStreet wsX0_addStreet) := goodIn_app (goodIn_r _ [21, 22, 23, 24] rfl (by decide +kernel)) ggX8_readStreet_X0_addStreet
set_option maxRecDepth 20000 in
theorem ggX8_readStreet_X8_readStop : GoodIn wsX8_readStreet wsX8_readStop := goodIn_r _ [38, 8, 9, 10, 11, 6, 12, 13, 14, 15, 2, 16, 17, 18, 19, 20, 48, 49, 50, 51, 52, 53] rfl (by decide +kernel)
set_option maxRecDepth 20000 in
theorem gX8_readStreet_X8_readStop : GoodIn wsX8_readStreet (wsV RX8 66 RX8 yX8_readStop wsX8_readStop) := goodIn_app (goodIn_r _ [35, 36, 37, 6] rfl (by decide +kernel)) ggX8_readStreet_X8_readStop
set_option maxRecDepth 20000 in
theorem ggX8_readLeader_X8_readNumber : GoodIn wsX8_readLeader wsX8_readNumber := goodIn_r _ [7, 8, 2, 9, 10, 11, 6, 12, 13, 14, 15, 16, 17, 18, 19, 20, 47, 48, 49, 50, 51, 52] rfl (by decide +kernel)
set_option maxRecDepth 20000 in
theorem gX8_readLeader_X8_readNumber : GoodIn wsX8_readLeader (wsV RX8 59 RX8 yX8_readNumber wsX8_readNumber) := goodIn_app (goodIn_r _ [3, 4, 5, 6] rfl (by decide +kernel)) ggX8_readLeader_X8_readNumber
set_option maxRecDepth 20000 in
theorem ggX8_readLeader_X0_addLeader : GoodIn wsX8_readLeader wsX0_addLeader := goodIn_r _ [25, 26, 27, 28, 29, 30, 31, 24, 32, 33, 38, 39, 40, 41, 42, 43, 44, 45, 46] rfl (by decide +kernel)
set_option maxRecDepth 20000 in
theorem gX8_readLeader_X0_addLeader : GoodIn wsX8_readLeader (wsV RX8 74 RX0 yX0_addLeader wsX0_addLeader) := goodIn_app (goodIn_r _ [21, 22, 23, 24] rfl (by decide +kernel)) ggX8_readLeader_X0_addLeader
set_option maxRecDepth 20000 in
theorem ggX8_readLeader_X8_readStop : GoodIn wsX8_readLeader wsX8_readStop := goodIn_r _ [37, 8, 9, 10, 11, 6, 12, 13, 14, 15, 2, 16, 17, 18, 19, 20, 47, 48, 49, 50, 51, 52] rfl (by decide +kernel)
set_option maxRecDepth 20000 in
theorem gX8_readLeader_X8_readStop : GoodIn wsX8_readLeader (wsV RX8 66 RX8 yX8_readStop wsX8_readStop) := goodIn_app (goodIn_r _ [34, 35, 36, 6] rfl (by decide +kernel)) ggX8_readLeader_X8_readStop
set_option maxRecDepth 20000 in
theorem ggX8_readNumber_X8_advance : GoodIn wsX8_readNumber wsX8_advance := goodIn_r _ [7, 8, 9, 1, 10, 2, 11, 12, 13, 14, 6, 15, 16, 17, 18, 19, 20, 21] rfl (by decide +kernel)
set_option maxRecDepth 20000 in
theorem gX8_readNumber_X8_advance : GoodIn wsX8_readNumber (wsV RX8 27 RX8 yX8_advance wsX8_advance) := goodIn_app (goodIn_r _ [3, 4, 5, 6] rfl (by decide +kernel)) ggX8_readNumber_X8_advance
set_option maxRecDepth 20000 in
theorem ggX8_readStop_X8_advance : GoodIn wsX8_readStop wsX8_advance := goodIn_r _ [6, 7, 8, 1, 9, 10, 11, 12, 13, 14, 5, 15, 16, 17, 18, 19, 20, 21] rfl (by decide +kernel)
set_option maxRecDepth 20000 in
theorem gX8_readStop_X8_advance : GoodIn wsX8_readStop (wsV RX8 27 RX8 yX8_advance wsX8_advance) := goodIn_app (goodIn_r _ [2, 3, 4, 5] rfl (by decide +kernel)) ggX8_readStop_X8_advance
set_option maxRecDepth 20000 in
theorem ggX8_advance_X8_skip : GoodIn wsX8_advance wsX8_skip := goodIn_r _ [11, 1, 6, 4, 12, 13, 14, 15, 16, 17] rfl (by decide +kernel)
set_option maxRecDepth 20000 in
theorem gX8_advance_X8_skip : GoodIn wsX8_advance (wsV RX8 78 RX8 yX8_skip wsX8_skip) := goodIn_app (goodIn_r _ [7, 8, 9, 10] rfl (by decide +kernel)) ggX8_advance_X8_skip
set_option maxRecDepth 20000 in
theorem ggX9_init_X8_init : GoodIn wsX9_init wsX8_init := goodIn_r _ [42, 43, 2, 3, 44, 45, 98, 99, 100, 101, 102, 103] rfl (by decide +kernel)
set_option maxRecDepth 20000 in
theorem gX9_init_X8_init_n11 : GoodIn wsX9_init (wsX8_init) := ggX9_init_X8_init
set_option maxRecDepth 20000 in
theorem ggX9_init_X0_init : GoodIn wsX9_init wsX0_init := goodIn_r _ [47, 48, 2, 3, 44, 49, 50, 51, 52, 53, 54, 55, 115, 116, 117, 118, 119, 120, 121, 122, 123] rfl (by decide +kernel)
set_option maxRecDepth 20000 in
theorem gX9_init_X0_init_n18 : GoodIn wsX9_init (wsX0_init) := ggX9_init_X0_init
set_option maxRecDepth 20000 in
theorem ggX9_init_X3_init : GoodIn wsX9_init wsX3_init := goodIn_r _ [57, 58, 2, 3] rfl (by decide +kernel)
set_option maxRecDepth 20000 in
theorem gX9_init_X3_init_n28 : GoodIn wsX9_init (wsX3_init) := ggX9_init_X3_init
set_option maxRecDepth 20000 in
theorem ggX9_init_X1_init : GoodIn wsX9_init wsX1_init := goodIn_r _ [61, 62, 2, 3, 63, 64, 14, 15, 56, 57, 58, 130, 131, 124, 125, 126, 127, 128, 129] rfl (by decide +kernel)
set_option maxRecDepth 20000 in
theorem gX9_init_X1_init : GoodIn wsX9_init (wsX1_init) := ggX9_init_X1_init
set_option maxRecDepth 20000 in
theorem ggX9_init_X6_init : GoodIn wsX9_init wsX6_init := goodIn_r _ [66, 67, 2, 3, 44, 68, 69, 70, 71, 14, 15, 72, 56, 57, 58, 132, 133, 134, 135, 136, 137, 124, 125, 126, 127, 128, 129] rfl (by decide +kernel)
set_option maxRecDepth 20000 in
theorem gX9_init_X6_init_n48 : GoodIn wsX9_init (wsX6_init) := ggX9_init_X6_init
set_option maxRecDepth 20000 in
theorem ggX9_init_X4_init : GoodIn wsX9_init wsX4_init := goodIn_r _ [74, 75, 2, 3, 44, 76, 77, 138, 139, 140, 141, 142, 143, 144, 145, 146, 147, 148, 149, 150, 151] rfl (by decide +kernel)
set_option maxRecDepth 20000 in
theorem gX9_init_X4_init_n55 : GoodIn wsX9_init (wsX4_init) := ggX9_init_X4_init
set_option maxRecDepth 20000 in
theorem ggX9_init_X7_init : GoodIn wsX9_init wsX7_init := goodIn_r _ [79, 80, 2, 3, 44, 81, 82, 152, 153, 154] rfl (by decide +kernel)
set_option maxRecDepth 20000 in
theorem gX9_init_X7_init_n62 : GoodIn wsX9_init (wsX7_init) := ggX9_init_X7_init
set_option maxRecDepth 20000 in
theorem ggX9_init_X5_init : GoodIn wsX9_init wsX5_init := goodIn_r _ [84, 85, 2, 3, 44, 86, 87, 88, 14, 15, 89, 56, 57, 58, 155, 156, 157, 158, 159, 124, 125, 126, 127, 128, 129] rfl (by decide +kernel)
set_option maxRecDepth 20000 in
theorem gX9_init_X5_init_n69 : GoodIn wsX9_init (wsX5_init) := ggX9_init_X5_init
set_option maxRecDepth 20000 in
theorem ggX9_init_X2_init : GoodIn wsX9_init wsX2_init := goodIn_r _ [91, 92, 2, 3, 93, 14, 15, 94, 95, 18, 19, 96, 56, 57, 58, 97, 60, 61, 62, 63, 64, 124, 125, 126, 127, 128, 129, 160, 161, 162, 130, 131] rfl (by decide +kernel)
set_option maxRecDepth 20000 in
theorem gX9_init_X2_init_n74 : GoodIn wsX9_init (wsX2_init) := ggX9_init_X2_init
set_option maxRecDepth 20000 in
theorem ggX9_type_X8_append : GoodIn wsX9_type wsX8_append := goodIn_r _ [7, 8, 9, 21, 22, 23, 24, 25, 26] rfl (by decide +kernel)
set_option maxRecDepth 20000 in
theorem gX9_type_X8_append : GoodIn wsX9_type (wsV RX9 75 RX8 yX8_append wsX8_append) := goodIn_app (goodIn_r _ [3, 4, 5, 6] rfl (by decide +kernel)) ggX9_type_X8_append
set_option maxRecDepth 20000 in
theorem ggX9_city_X8_read : GoodIn wsX9_city wsX8_read := goodIn_r _ [9, 10, 11, 12, 13, 14, 15, 16, 17, 18, 19, 20, 21, 22, 23, 8, 24, 25, 26, 27, 28, 29, 30, 31, 32, 33, 34, 35, 36, 37, 38, 39, 40, 41, 42, 43, 44, 45, 46, 47, 48, 49, 50, 51, 52, 53, 54, 55, 56, 57, 58, 59, 60, 61, 62, 63, 64, 65, 66, 67, 68, 69, 70, 71, 72, 73, 74, 75, 123, 124, 125, 126, 127, 128, 129, 130, 131, 132, 133, 134, 135, 136, 137] rfl (by decide +kernel)
set_option maxRecDepth 20000 in
theorem gX9_city_X8_read : GoodIn wsX9_city (wsV RX9 83 RX8 yX8_read wsX8_read) := goodIn_app (goodIn_r _ [5, 6, 7, 8] rfl (by decide +kernel)) ggX9_city_X8_read
set_option maxRecDepth 20000 in
theorem ggX9_city_X0_measure : GoodIn wsX9_city wsX0_measure := goodIn_r _ [79, 18, 80, 19, 61, 59, 60, 81, 82, 83, 84, 129, 130, 131, 132, 133, 134, 135, 136, 137] rfl (by decide +kernel)
set_option maxRecDepth 20000 in
theorem gX9_city_X0_measure : GoodIn wsX9_city (wsV RX9 87 RX0 yX0_measure wsX0_measure) := goodIn_app (goodIn_r _ [76, 77, 78, 16] rfl (by decide +kernel)) ggX9_city_X0_measure
set_option maxRecDepth 20000 in
theorem ggX9_city_X9_begin : GoodIn wsX9_city wsX9_begin := goodIn_r _ [89, 90, 91, 92, 93, 94, 95, 96, 97, 98, 99, 100, 101, 102, 103, 104, 105, 106, 107, 108, 109, 110, 111, 112, 113, 114, 115, 116, 117, 118, 119, 120, 121, 122, 138, 139, 140, 141, 142, 143, 144, 145, 146, 147, 148, 149, 150, 151, 152, 153, 154, 155, 156, 157, 158, 159, 160, 161, 162, 163, 164, 165, 166, 167, 168, 169, 170] rfl (by decide +kernel)
set_option maxRecDepth 20000 in
theorem gX9_city_X9_begin : GoodIn wsX9_city (wsV RX9 90 RX9 yX9_begin wsX9_begin) := goodIn_app (goodIn_r _ [85, 86, 87, 88] rfl (by decide +kernel)) ggX9_city_X9_begin
set_option maxRecDepth 20000 in
theorem ggX9_street_X0_hasStreet : GoodIn wsX9_street wsX0_hasStreet := goodIn_r _ [11, 12, 30, 31, 32, 33, 34, 35, 36, 37, 38] rfl (by decide +kernel)
set_option maxRecDepth 20000 in
theorem gX9_street_X0_hasStreet : GoodIn wsX9_street (wsV RX9 93 RX0 yX0_hasStreet wsX0_hasStreet) := goodIn_app (goodIn_r _ [7, 8, 9, 10] rfl (by decide +kernel)) ggX9_street_X0_hasStreet
set_option maxRecDepth 20000 in
theorem ggX9_street_X3_waysTaken : GoodIn wsX9_street wsX3_waysTaken := goodIn_r _ [17, 18, 39, 40, 41, 42, 43, 44] rfl (by decide +kernel)
set_option maxRecDepth 20000 in
theorem gX9_street_X3_waysTaken : GoodIn wsX9_street (wsV RX9 106 RX3 yX3_waysTaken wsX3_waysTaken) := goodIn_app (goodIn_r _ [13, 14, 15, 16] rfl (by decide +kernel)) ggX9_street_X3_waysTaken
set_option maxRecDepth 20000 in
theorem ggX9_leader_X0_hasLeader : GoodIn wsX9_leader wsX0_hasLeader := goodIn_r _ [10, 11, 23, 24, 25, 26, 27, 28, 29, 30, 31] rfl (by decide +kernel)
set_option maxRecDepth 20000 in
theorem gX9_leader_X0_hasLeader : GoodIn wsX9_leader (wsV RX9 113 RX0 yX0_hasLeader wsX0_hasLeader) := goodIn_app (goodIn_r _ [6, 7, 8, 9] rfl (by decide +kernel)) ggX9_leader_X0_hasLeader
set_option maxRecDepth 20000 in
theorem ggX9_far_X0_hasCorner : GoodIn wsX9_far wsX0_hasCorner := goodIn_r _ [7, 8, 20, 21, 22, 23, 24, 25, 26, 27, 28] rfl (by decide +kernel)
set_option maxRecDepth 20000 in
theorem gX9_far_X0_hasCorner : GoodIn wsX9_far (wsV RX9 125 RX0 yX0_hasCorner wsX0_hasCorner) := goodIn_app (goodIn_r _ [3, 4, 5, 6] rfl (by decide +kernel)) ggX9_far_X0_hasCorner
set_option maxRecDepth 20000 in
theorem ggX9_leads_X0_hasLeader : GoodIn wsX9_leads wsX0_hasLeader := goodIn_r _ [11, 12, 99, 100, 101, 102, 103, 104, 105, 106, 107] rfl (by decide +kernel)
set_option maxRecDepth 20000 in
theorem gX9_leads_X0_hasLeader : GoodIn wsX9_leads (wsV RX9 113 RX0 yX0_hasLeader wsX0_hasLeader) := goodIn_app (goodIn_r _ [7, 8, 9, 10] rfl (by decide +kernel)) ggX9_leads_X0_hasLeader
set_option maxRecDepth 20000 in
theorem ggX9_leads_X3_hasLed : GoodIn wsX9_leads wsX3_hasLed := goodIn_r _ [17, 18, 93, 94, 95, 96, 97, 98] rfl (by decide +kernel)
set_option maxRecDepth 20000 in
theorem gX9_leads_X3_hasLed : GoodIn wsX9_leads (wsV RX9 132 RX3 yX3_hasLed wsX3_hasLed) := goodIn_app (goodIn_r _ [13, 14, 15, 16] rfl (by decide +kernel)) ggX9_leads_X3_hasLed
set_option maxRecDepth 20000 in
theorem ggX9_leads_X1_remember : GoodIn wsX9_leads wsX1_remember := goodIn_r _ [23, 24, 25, 26, 27, 28, 22, 29, 30, 31, 32, 16, 33, 34, 35, 36, 18, 37, 38, 108, 109, 93, 94, 95, 96, 97, 98] rfl (by decide +kernel)
set_option maxRecDepth 20000 in
theorem gX9_leads_X1_remember : GoodIn wsX9_leads (wsV RX9 135 RX1 yX1_remember wsX1_remember) := goodIn_app (goodIn_r _ [19, 20, 21, 22] rfl (by decide +kernel)) ggX9_leads_X1_remember
set_option maxRecDepth 20000 in
theorem ggX9_leads_X3_goBy : GoodIn wsX9_leads wsX3_goBy := goodIn_r _ [42, 43, 44, 18, 34, 37, 38, 36, 35, 45, 8, 9, 10, 11, 12, 46, 47, 48, 49, 50, 51, 52, 53, 54, 55, 56, 57, 58, 59, 60, 61, 62, 63, 64, 65, 66, 67, 99, 100, 101, 102, 103, 104, 105, 106, 107, 93, 94, 95, 96, 97, 98] rfl (by decide +kernel)
set_option maxRecDepth 20000 in
theorem gX9_leads_X3_goBy : GoodIn wsX9_leads (wsV RX9 139 RX3 yX3_goBy wsX3_goBy) := goodIn_app (goodIn_r _ [39, 40, 41, 16] rfl (by decide +kernel)) ggX9_leads_X3_goBy
set_option maxRecDepth 20000 in
theorem ggX9_shuts_X0_hasStreet : GoodIn wsX9_shuts wsX0_hasStreet := goodIn_r _ [11, 12, 73, 74, 75, 76, 77, 78, 79, 80, 81] rfl (by decide +kernel)
set_option maxRecDepth 20000 in
theorem gX9_shuts_X0_hasStreet : GoodIn wsX9_shuts (wsV RX9 93 RX0 yX0_hasStreet wsX0_hasStreet) := goodIn_app (goodIn_r _ [7, 8, 9, 10] rfl (by decide +kernel)) ggX9_shuts_X0_hasStreet
set_option maxRecDepth 20000 in
theorem ggX9_shuts_X1_remember : GoodIn wsX9_shuts wsX1_remember := goodIn_r _ [17, 18, 19, 20, 21, 22, 16, 23, 24, 25, 26, 27, 28, 29, 30, 31, 32, 33, 34, 82, 83, 53, 54, 55, 56, 57, 58] rfl (by decide +kernel)
set_option maxRecDepth 20000 in
theorem gX9_shuts_X1_remember : GoodIn wsX9_shuts (wsV RX9 135 RX1 yX1_remember wsX1_remember) := goodIn_app (goodIn_r _ [13, 14, 15, 16] rfl (by decide +kernel)) ggX9_shuts_X1_remember
set_option maxRecDepth 20000 in
theorem ggX9_shuts_J6_bitCount_0f7a4 : GoodIn wsX9_shuts wsJ6_bitCount_0f7a4 := goodIn_r _ [38, 39, 40, 41] rfl (by decide +kernel)
set_option maxRecDepth 20000 in
theorem gX9_shuts_J6_bitCount_0f7a4 : GoodIn wsX9_shuts (va_wsS RX9 150 yJ6_bitCount_0f7a4 wsJ6_bitCount_0f7a4) := goodIn_app (goodIn_r _ [35, 36, 37] rfl (by decide +kernel)) ggX9_shuts_J6_bitCount_0f7a4
set_option maxRecDepth 20000 in
theorem ggX9_undo_X1_restore : GoodIn wsX9_undo wsX1_restore := goodIn_r _ [10, 11, 12, 13, 14, 15, 16, 17, 18, 19, 20, 21, 22, 23, 35, 36, 51, 52, 53, 54, 55, 56] rfl (by decide +kernel)
set_option maxRecDepth 20000 in
theorem gX9_undo_X1_restore : GoodIn wsX9_undo (wsV RX9 158 RX1 yX1_restore wsX1_restore) := goodIn_app (goodIn_r _ [6, 7, 8, 9] rfl (by decide +kernel)) ggX9_undo_X1_restore
set_option maxRecDepth 20000 in
theorem ggX9_now_X9_whereabouts : GoodIn wsX9_now wsX9_whereabouts := goodIn_r _ [10, 11, 12, 13, 20, 21, 22, 23, 24, 25, 26, 27, 28, 29, 30, 37, 38, 39, 40, 41, 42, 43, 44, 45, 31, 32, 33, 34, 35, 36] rfl (by decide +kernel)
set_option maxRecDepth 20000 in
theorem gX9_now_X9_whereabouts : GoodIn wsX9_now (wsV RX9 161 RX9 yX9_whereabouts wsX9_whereabouts) := goodIn_app (goodIn_r _ [6, 7, 8, 9] rfl (by decide +kernel)) ggX9_now_X9_whereabouts
set_option maxRecDepth 20000 in
theorem ggX9_now_X3_walked : GoodIn wsX9_now wsX3_walked := goodIn_r _ [18, 19, 31, 32, 33, 34, 35, 36] rfl (by decide +kernel)
set_option maxRecDepth 20000 in
theorem gX9_now_X3_walked : GoodIn wsX9_now (wsV RX9 171 RX3 yX3_walked wsX3_walked) := goodIn_app (goodIn_r _ [14, 15, 16, 17] rfl (by decide +kernel)) ggX9_now_X3_walked
set_option maxRecDepth 20000 in
theorem ggX9_order_X9_lookOut : GoodIn wsX9_order wsX9_lookOut := goodIn_r _ [11, 1, 12, 13, 14, 15, 16, 17, 18, 19, 20, 21, 22, 23, 24, 25, 26, 27, 28, 29, 30, 31, 32, 33, 34, 35, 36, 37, 38, 39, 40, 41, 42, 43, 44, 45, 46, 47, 48, 49, 50, 51, 52, 53, 54, 55, 56, 57, 58, 59, 60, 61, 62, 63, 64, 65, 66, 67, 68, 69, 70, 71, 72, 73, 74, 75, 76, 77, 78, 79, 80, 81, 82, 83, 84, 85, 86, 87, 88, 89, 90, 91, 92, 93, 94, 95, 96, 97, 98, 99, 100, 101, 102, 103, 104, 105, 106, 10, 107, 108, 109, 110, 111, 112, 113, 114, 115, 116, 117, 118, 119, 120, 121, 122, 123, 124, 125, 126, 127, 128, 129, 130, 131, 132, 133, 134, 135, 136, 137, 138, 139, 140, 141, 142, 143, 144, 145, 146, 147, 148, 149, 150, 151, 152, 153, 154, 155, 156, 157, 158, 159, 160, 161, 162, 163, 164, 165, 166, 167, 168, 169, 170, 171, 172, 173, 174, 175, 176, 177, 178, 179, 180, 181, 182, 183, 184, 185, 186, 187, 188, 189, 190, 191, 192, 193, 194, 195, 196, 197, 198, 199, 200, 201, 202, 203, 204] rfl (by decide +kernel)
set_option maxRecDepth 20000 in
theorem gX9_order_X9_lookOut : GoodIn wsX9_order (wsV RX9 175 RX9 yX9_lookOut wsX9_lookOut) := goodIn_app (goodIn_r _ [7, 8, 9, 10] rfl (by decide +kernel)) ggX9_order_X9_lookOut
set_option maxRecDepth 20000 in
theorem ggX9_most_X9_lookOut : GoodIn wsX9_most wsX9_lookOut := goodIn_r _ [9, 1, 10, 11, 12, 13, 14, 15, 16, 17, 18, 19, 20, 21, 22, 23, 24, 25, 26, 27, 28, 29, 30, 31, 32, 33, 34, 35, 36, 37, 38, 39, 40, 41, 42, 43, 44, 45, 46, 47, 48, 49, 50, 51, 52, 53, 54, 55, 56, 57, 58, 59, 60, 61, 62, 63, 64, 65, 66, 67, 68, 69, 70, 71, 72, 73, 74, 75, 76, 77, 78, 79, 80, 81, 82, 83, 84, 85, 86, 87, 88, 89, 90, 91, 92, 93, 94, 95, 96, 97, 98, 99, 100, 101, 102, 103, 104, 8, 105, 106, 107, 108, 109, 110, 111, 112, 113, 114, 115, 116, 117, 118, 119, 120, 121, 122, 123, 124, 125, 126, 127, 128, 129, 130, 131, 132, 133, 134, 135, 136, 137, 138, 139, 140, 141, 142, 143, 144, 145, 146, 147, 148, 149, 150, 151, 152, 153, 154, 155, 156, 157, 158, 159, 160, 161, 162, 163, 164, 165, 166, 167, 168, 169, 170, 171, 172, 173, 174, 175, 176, 177, 178, 179, 180, 181, 182, 183, 184, 185, 186, 187, 188, 189, 190, 191, 192, 193, 194, 195, 196, 197, 198, 199, 200, 201, 202] rfl (by decide +kernel)
set_option maxRecDepth 20000 in
theorem gX9_most_X9_lookOut : GoodIn wsX9_most (wsV RX9 175 RX9 yX9_lookOut wsX9_lookOut) := goodIn_app (goodIn_r _ [5, 6, 7, 8] rfl (by decide +kernel)) ggX9_most_X9_lookOut
set_option maxRecDepth 20000 in
theorem ggX9_rows_X9_lookOut : GoodIn wsX9_rows wsX9_lookOut := goodIn_r _ [13, 2, 14, 15, 16, 1, 17, 18, 4, 19, 20, 21, 22, 23, 24, 25, 26, 27, 28, 29, 30, 31, 32, 33, 34, 35, 36, 37, 38, 39, 40, 41, 42, 43, 44, 45, 46, 47, 48, 49, 50, 51, 52, 53, 54, 55, 56, 57, 58, 59, 60, 61, 62, 63, 64, 65, 66, 67, 68, 69, 70, 71, 72, 73, 74, 75, 76, 77, 78, 79, 80, 81, 82, 83, 84, 85, 86, 87, 88, 89, 90, 91, 92, 93, 94, 95, 96, 97, 98, 99, 100, 101, 102, 103, 104, 105, 106, 12, 107, 108, 109, 110, 111, 112, 113, 114, 115, 116, 117, 118, 119, 120, 121, 122, 123, 124, 125, 126, 127, 128, 129, 130, 131, 132, 133, 134, 135, 136, 137, 138, 139, 140, 141, 142, 143, 144, 145, 146, 147, 148, 149, 150, 151, 152, 153, 154, 155, 156, 157, 158, 163, 164, 165, 166, 167, 168, 169, 170, 171, 172, 173, 174, 175, 176, 177, 178, 179, 180, 181, 182, 183, 184, 185, 186, 187, 188, 189, 190, 191, 192, 193, 194, 195, 196, 197, 198, 199, 200, 201, 202, 203, 204, 205, 206, 207, 208] rfl (by decide +kernel)
set_option maxRecDepth 20000 in
theorem gX9_rows_X9_lookOut : GoodIn wsX9_rows (wsV RX9 175 RX9 yX9_lookOut wsX9_lookOut) := goodIn_app (goodIn_r _ [9, 10, 11, 12] rfl (by decide +kernel)) ggX9_rows_X9_lookOut
set_option maxRecDepth 20000 in
theorem ggX9_rows_X0_streetBits : GoodIn wsX9_rows wsX0_streetBits := goodIn_r _ [162, 86, 194, 195, 196, 197, 198, 199, 200, 201, 202] rfl (by decide +kernel)
set_option maxRecDepth 20000 in
theorem gX9_rows_X0_streetBits : GoodIn wsX9_rows (wsV RX9 194 RX0 yX0_streetBits wsX0_streetBits) := goodIn_app (goodIn_r _ [159, 160, 161, 79] rfl (by decide +kernel)) ggX9_rows_X0_streetBits
set_option maxRecDepth 20000 in
theorem ggX9_saw_X0_hasCorner : GoodIn wsX9_saw wsX0_hasCorner := goodIn_r _ [8, 9, 32, 33, 34, 35, 36, 37, 38, 39, 40] rfl (by decide +kernel)
set_option maxRecDepth 20000 in
theorem gX9_saw_X0_hasCorner : GoodIn wsX9_saw (wsV RX9 125 RX0 yX0_hasCorner wsX0_hasCorner) := goodIn_app (goodIn_r _ [4, 5, 6, 7] rfl (by decide +kernel)) ggX9_saw_X0_hasCorner
set_option maxRecDepth 20000 in
theorem ggX9_saw_X7_add : GoodIn wsX9_saw wsX7_add := goodIn_r _ [14, 15, 16, 17, 29, 30, 31] rfl (by decide +kernel)
set_option maxRecDepth 20000 in
theorem gX9_saw_X7_add : GoodIn wsX9_saw (wsV RX9 214 RX7 yX7_add wsX7_add) := goodIn_app (goodIn_r _ [10, 11, 12, 13] rfl (by decide +kernel)) ggX9_saw_X7_add
set_option maxRecDepth 20000 in
theorem ggX9_fits_X6_begin : GoodIn wsX9_fits wsX6_begin := goodIn_r _ [9, 10, 11, 12, 13, 14, 15, 16, 17, 18, 109, 110, 111, 112, 113, 114, 115, 116, 117, 118, 119, 120, 121, 122, 123, 124, 125, 126, 127, 128, 129] rfl (by decide +kernel)
set_option maxRecDepth 20000 in
theorem gX9_fits_X6_begin : GoodIn wsX9_fits (wsV RX9 219 RX6 yX6_begin wsX6_begin) := goodIn_app (goodIn_r _ [5, 6, 7, 8] rfl (by decide +kernel)) ggX9_fits_X6_begin
set_option maxRecDepth 20000 in
theorem ggX9_fits_X6_walk : GoodIn wsX9_fits wsX6_walk := goodIn_r _ [22, 23, 24, 10, 12, 25, 26, 27, 28, 29, 30, 31, 16, 32, 33, 34, 35, 18, 36, 37, 38, 39, 40, 41, 42, 43, 44, 45, 46, 47, 48, 49, 50, 51, 52, 53, 54, 55, 56, 57, 58, 59, 60, 61, 62, 63, 64, 65, 66, 67, 68, 69, 70, 71, 109, 110, 111, 112, 113, 114, 124, 125, 126, 127, 128, 129, 115, 116, 117, 118, 119, 120, 121, 122, 123] rfl (by decide +kernel)
set_option maxRecDepth 20000 in
theorem gX9_fits_X6_walk : GoodIn wsX9_fits (wsV RX9 222 RX6 yX6_walk wsX6_walk) := goodIn_app (goodIn_r _ [19, 20, 21, 8] rfl (by decide +kernel)) ggX9_fits_X6_walk
set_option maxRecDepth 20000 in
theorem ggX9_fits_X7_agreeWith : GoodIn wsX9_fits wsX7_agreeWith := goodIn_r _ [76, 77, 78, 79, 80, 81, 130, 131, 132, 109, 110, 111, 112, 113, 114] rfl (by decide +kernel)
set_option maxRecDepth 20000 in
theorem gX9_fits_X7_agreeWith : GoodIn wsX9_fits (wsV RX9 225 RX7 yX7_agreeWith wsX7_agreeWith) := goodIn_app (goodIn_r _ [72, 73, 74, 75] rfl (by decide +kernel)) ggX9_fits_X7_agreeWith
set_option maxRecDepth 20000 in
theorem ggX9_fits_X6_leaderAt : GoodIn wsX9_fits wsX6_leaderAt := goodIn_r _ [85, 10, 25, 109, 110, 111, 112, 113, 114] rfl (by decide +kernel)
set_option maxRecDepth 20000 in
theorem gX9_fits_X6_leaderAt : GoodIn wsX9_fits (wsV RX9 229 RX6 yX6_leaderAt wsX6_leaderAt) := goodIn_app (goodIn_r _ [82, 83, 84, 8] rfl (by decide +kernel)) ggX9_fits_X6_leaderAt
set_option maxRecDepth 20000 in
theorem ggX9_fits_X9_agreed : GoodIn wsX9_fits wsX9_agreed := goodIn_r _ [89] rfl (by decide +kernel)
set_option maxRecDepth 20000 in
theorem gX9_fits_X9_agreed : GoodIn wsX9_fits (va_wsS RX9 232 yX9_agreed wsX9_agreed) := goodIn_app (goodIn_r _ [86, 87, 88] rfl (by decide +kernel)) ggX9_fits_X9_agreed
set_option maxRecDepth 20000 in
theorem ggX9_fits_X6_next : GoodIn wsX9_fits wsX6_next := goodIn_r _ [93, 10, 12, 94, 95, 96, 8, 97, 109, 110, 111, 112, 113, 114] rfl (by decide +kernel)
set_option maxRecDepth 20000 in
theorem gX9_fits_X6_next : GoodIn wsX9_fits (wsV RX9 236 RX6 yX6_next wsX6_next) := goodIn_app (goodIn_r _ [90, 91, 92, 8] rfl (by decide +kernel)) ggX9_fits_X6_next
set_option maxRecDepth 20000 in
theorem ggX9_plans_X0_hasLeader : GoodIn wsX9_plans wsX0_hasLeader := goodIn_r _ [8, 9, 33, 34, 35, 36, 37, 38, 39, 40, 41] rfl (by decide +kernel)
set_option maxRecDepth 20000 in
theorem gX9_plans_X0_hasLeader : GoodIn wsX9_plans (wsV RX9 113 RX0 yX0_hasLeader wsX0_hasLeader) := goodIn_app (goodIn_r _ [4, 5, 6, 7] rfl (by decide +kernel)) ggX9_plans_X0_hasLeader
set_option maxRecDepth 20000 in
theorem ggX9_plans_X5_add : GoodIn wsX9_plans wsX5_add := goodIn_r _ [14, 15, 16, 28, 29, 30, 31, 32] rfl (by decide +kernel)
set_option maxRecDepth 20000 in
theorem gX9_plans_X5_add : GoodIn wsX9_plans (wsV RX9 240 RX5 yX5_add wsX5_add) := goodIn_app (goodIn_r _ [10, 11, 12, 13] rfl (by decide +kernel)) ggX9_plans_X5_add
set_option maxRecDepth 20000 in
theorem ggX9_planned_X5_choose : GoodIn wsX9_planned wsX5_choose := goodIn_r _ [12, 13, 14, 15, 16, 17, 95, 96, 97, 98, 99, 100, 90, 91, 92, 93, 94] rfl (by decide +kernel)
set_option maxRecDepth 20000 in
theorem gX9_planned_X5_choose : GoodIn wsX9_planned (wsV RX9 243 RX5 yX5_choose wsX5_choose) := goodIn_app (goodIn_r _ [8, 9, 10, 11] rfl (by decide +kernel)) ggX9_planned_X5_choose
set_option maxRecDepth 20000 in
theorem ggX9_planned_X5_everybody : GoodIn wsX9_planned wsX5_everybody := goodIn_r _ [21, 14, 90, 91, 92, 93, 94] rfl (by decide +kernel)
set_option maxRecDepth 20000 in
theorem gX9_planned_X5_everybody : GoodIn wsX9_planned (wsV RX9 246 RX5 yX5_everybody wsX5_everybody) := goodIn_app (goodIn_r _ [18, 19, 20, 11] rfl (by decide +kernel)) ggX9_planned_X5_everybody
set_option maxRecDepth 20000 in
theorem ggX9_planned_X5_walk : GoodIn wsX9_planned wsX5_walk := goodIn_r _ [25, 26, 14, 17, 27, 28, 29, 30, 31, 32, 33, 34, 35, 36, 37, 38, 39, 40, 41, 42, 43, 44, 45, 46, 47, 48, 49, 50, 51, 52, 53, 54, 55, 56, 57, 58, 59, 60, 61, 62, 63, 64, 65, 66, 67, 68, 69, 70, 71, 90, 91, 92, 93, 94, 95, 96, 97, 98, 99, 100, 101, 102, 103, 104, 105, 106, 107, 108, 109] rfl (by decide +kernel)
set_option maxRecDepth 20000 in
theorem gX9_planned_X5_walk : GoodIn wsX9_planned (wsV RX9 249 RX5 yX5_walk wsX5_walk) := goodIn_app (goodIn_r _ [22, 23, 24, 11] rfl (by decide +kernel)) ggX9_planned_X5_walk
set_option maxRecDepth 20000 in
theorem ggX9_planned_X9_whereabouts : GoodIn wsX9_planned wsX9_whereabouts := goodIn_r _ [76, 3, 77, 78, 79, 80, 81, 82, 83, 84, 85, 86, 87, 88, 89, 101, 102, 103, 104, 105, 106, 107, 108, 109, 95, 96, 97, 98, 99, 100] rfl (by decide +kernel)
set_option maxRecDepth 20000 in
theorem gX9_planned_X9_whereabouts : GoodIn wsX9_planned (wsV RX9 161 RX9 yX9_whereabouts wsX9_whereabouts) := goodIn_app (goodIn_r _ [72, 73, 74, 75] rfl (by decide +kernel)) ggX9_planned_X9_whereabouts
set_option maxRecDepth 20000 in
theorem ggX9_odds_X5_choose : GoodIn wsX9_odds wsX5_choose := goodIn_r _ [9, 10, 11, 12, 13, 14, 103, 104, 105, 106, 107, 108, 98, 99, 100, 101, 102] rfl (by decide +kernel)
set_option maxRecDepth 20000 in
theorem gX9_odds_X5_choose : GoodIn wsX9_odds (wsV RX9 243 RX5 yX5_choose wsX5_choose) := goodIn_app (goodIn_r _ [5, 6, 7, 8] rfl (by decide +kernel)) ggX9_odds_X5_choose
set_option maxRecDepth 20000 in
theorem ggX9_odds_X5_wholeOfOdds : GoodIn wsX9_odds wsX5_wholeOfOdds := goodIn_r _ [18, 11, 98, 99, 100, 101, 102] rfl (by decide +kernel)
set_option maxRecDepth 20000 in
theorem gX9_odds_X5_wholeOfOdds : GoodIn wsX9_odds (wsV RX9 256 RX5 yX5_wholeOfOdds wsX5_wholeOfOdds) := goodIn_app (goodIn_r _ [15, 16, 17, 8] rfl (by decide +kernel)) ggX9_odds_X5_wholeOfOdds
set_option maxRecDepth 20000 in
theorem ggX9_odds_X5_everybody : GoodIn wsX9_odds wsX5_everybody := goodIn_r _ [22, 11, 98, 99, 100, 101, 102] rfl (by decide +kernel)
set_option maxRecDepth 20000 in
theorem gX9_odds_X5_everybody : GoodIn wsX9_odds (wsV RX9 246 RX5 yX5_everybody wsX5_everybody) := goodIn_app (goodIn_r _ [19, 20, 21, 8] rfl (by decide +kernel)) ggX9_odds_X5_everybody
set_option maxRecDepth 20000 in
theorem ggX9_odds_X5_walk : GoodIn wsX9_odds wsX5_walk := goodIn_r _ [26, 27, 11, 14, 28, 29, 30, 31, 32, 33, 34, 35, 36, 37, 38, 39, 40, 41, 42, 43, 44, 45, 46, 47, 48, 49, 50, 51, 52, 53, 54, 55, 56, 57, 58, 59, 60, 61, 62, 63, 64, 65, 66, 67, 68, 69, 70, 71, 72, 98, 99, 100, 101, 102, 103, 104, 105, 106, 107, 108, 109, 110, 111, 112, 113, 114, 115, 116, 117] rfl (by decide +kernel)
set_option maxRecDepth 20000 in
theorem gX9_odds_X5_walk : GoodIn wsX9_odds (wsV RX9 249 RX5 yX5_walk wsX5_walk) := goodIn_app (goodIn_r _ [23, 24, 25, 8] rfl (by decide +kernel)) ggX9_odds_X5_walk
set_option maxRecDepth 20000 in
theorem ggX9_odds_X9_isHome : GoodIn wsX9_odds wsX9_isHome := goodIn_r _ [77, 3, 78, 79, 87, 88, 89, 90, 91, 92, 93, 94, 95, 96, 97, 109, 110, 111, 112, 113, 114, 115, 116, 117, 103, 104, 105, 106, 107, 108] rfl (by decide +kernel)
set_option maxRecDepth 20000 in
theorem gX9_odds_X9_isHome : GoodIn wsX9_odds (wsV RX9 259 RX9 yX9_isHome wsX9_isHome) := goodIn_app (goodIn_r _ [73, 74, 75, 76] rfl (by decide +kernel)) ggX9_odds_X9_isHome
set_option maxRecDepth 20000 in
theorem ggX9_odds_X5_oddsOf : GoodIn wsX9_odds wsX5_oddsOf := goodIn_r _ [83, 11, 98, 99, 100, 101, 102] rfl (by decide +kernel)
set_option maxRecDepth 20000 in
theorem gX9_odds_X5_oddsOf : GoodIn wsX9_odds (wsV RX9 263 RX5 yX5_oddsOf wsX5_oddsOf) := goodIn_app (goodIn_r _ [80, 81, 82, 8] rfl (by decide +kernel)) ggX9_odds_X5_oddsOf
set_option maxRecDepth 20000 in
theorem ggX9_odds_X9_commonDivisor : GoodIn wsX9_odds wsX9_commonDivisor := goodIn_r _ [86] rfl (by decide +kernel)
set_option maxRecDepth 20000 in
theorem gX9_odds_X9_commonDivisor : GoodIn wsX9_odds (va_wsS RX9 266 yX9_commonDivisor wsX9_commonDivisor) := goodIn_app (goodIn_r _ [84, 85, 76] rfl (by decide +kernel)) ggX9_odds_X9_commonDivisor
set_option maxRecDepth 20000 in
theorem ggX9_mark_X0_hasStreet : GoodIn wsX9_mark wsX0_hasStreet := goodIn_r _ [7, 8, 69, 70, 71, 72, 73, 74, 75, 76, 77] rfl (by decide +kernel)
set_option maxRecDepth 20000 in
theorem gX9_mark_X0_hasStreet : GoodIn wsX9_mark (wsV RX9 93 RX0 yX0_hasStreet wsX0_hasStreet) := goodIn_app (goodIn_r _ [3, 4, 5, 6] rfl (by decide +kernel)) ggX9_mark_X0_hasStreet
set_option maxRecDepth 20000 in
theorem ggX9_mark_X9_askStreet : GoodIn wsX9_mark wsX9_askStreet := goodIn_r _ [13, 14, 1, 15, 58, 59, 60, 61, 62, 63, 64, 65, 66, 67, 68, 69, 70, 71, 72, 73, 74, 75, 76, 77] rfl (by decide +kernel)
set_option maxRecDepth 20000 in
theorem gX9_mark_X9_askStreet : GoodIn wsX9_mark (wsV RX9 270 RX9 yX9_askStreet wsX9_askStreet) := goodIn_app (goodIn_r _ [9, 10, 11, 12] rfl (by decide +kernel)) ggX9_mark_X9_askStreet
set_option maxRecDepth 20000 in
theorem ggX9_mark_X9_askAlley : GoodIn wsX9_mark wsX9_askAlley := goodIn_r _ [19, 14, 20, 21, 9, 10, 11, 12, 13, 1, 15, 22, 23, 24, 25, 26, 27, 28, 29, 30, 31, 32, 33, 34, 58, 59, 60, 61, 62, 63, 64, 65, 66, 67, 68, 69, 70, 71, 72, 73, 74, 75, 76, 77, 78, 79, 80, 81, 82, 83] rfl (by decide +kernel)
set_option maxRecDepth 20000 in
theorem gX9_mark_X9_askAlley : GoodIn wsX9_mark (wsV RX9 273 RX9 yX9_askAlley wsX9_askAlley) := goodIn_app (goodIn_r _ [16, 17, 18, 12] rfl (by decide +kernel)) ggX9_mark_X9_askAlley
set_option maxRecDepth 20000 in
theorem ggX9_mark_X9_askBridge : GoodIn wsX9_mark wsX9_askBridge := goodIn_r _ [38, 14, 39, 1, 40, 9, 10, 11, 12, 13, 15, 58, 59, 60, 61, 62, 63, 64, 65, 66, 67, 68, 69, 70, 71, 72, 73, 74, 75, 76, 77] rfl (by decide +kernel)
set_option maxRecDepth 20000 in
theorem gX9_mark_X9_askBridge : GoodIn wsX9_mark (wsV RX9 276 RX9 yX9_askBridge wsX9_askBridge) := goodIn_app (goodIn_r _ [35, 36, 37, 12] rfl (by decide +kernel)) ggX9_mark_X9_askBridge
set_option maxRecDepth 20000 in
theorem ggX9_mark_X9_askCourt : GoodIn wsX9_mark wsX9_askCourt := goodIn_r _ [44, 14, 45, 16, 17, 18, 12, 19, 20, 21, 9, 10, 11, 13, 1, 15, 22, 23, 24, 25, 26, 27, 28, 29, 30, 31, 32, 33, 34, 58, 59, 60, 61, 62, 63, 64, 65, 66, 67, 68, 69, 70, 71, 72, 73, 74, 75, 76, 77, 78, 79, 80, 81, 82, 83] rfl (by decide +kernel)
set_option maxRecDepth 20000 in
theorem gX9_mark_X9_askCourt : GoodIn wsX9_mark (wsV RX9 279 RX9 yX9_askCourt wsX9_askCourt) := goodIn_app (goodIn_r _ [41, 42, 43, 12] rfl (by decide +kernel)) ggX9_mark_X9_askCourt
set_option maxRecDepth 20000 in
theorem ggX9_mark_X9_askQuay : GoodIn wsX9_mark wsX9_askQuay := goodIn_r _ [49, 14, 50, 21, 51, 35, 36, 37, 12, 38, 39, 1, 40, 9, 10, 11, 13, 15, 58, 59, 60, 61, 62, 63, 64, 65, 66, 67, 68, 78, 79, 80, 81, 82, 83, 69, 70, 71, 72, 73, 74, 75, 76, 77] rfl (by decide +kernel)
set_option maxRecDepth 20000 in
theorem gX9_mark_X9_askQuay : GoodIn wsX9_mark (wsV RX9 282 RX9 yX9_askQuay wsX9_askQuay) := goodIn_app (goodIn_r _ [46, 47, 48, 12] rfl (by decide +kernel)) ggX9_mark_X9_askQuay
set_option maxRecDepth 20000 in
theorem ggX9_mark_X9_askLane : GoodIn wsX9_mark wsX9_askLane := goodIn_r _ [55, 14, 56, 21, 57, 9, 10, 11, 12, 13, 1, 15, 58, 59, 60, 61, 62, 63, 64, 65, 66, 67, 68, 78, 79, 80, 81, 82, 83, 69, 70, 71, 72, 73, 74, 75, 76, 77] rfl (by decide +kernel)
set_option maxRecDepth 20000 in
theorem gX9_mark_X9_askLane : GoodIn wsX9_mark (wsV RX9 285 RX9 yX9_askLane wsX9_askLane) := goodIn_app (goodIn_r _ [52, 53, 54, 12] rfl (by decide +kernel)) ggX9_mark_X9_askLane
set_option maxRecDepth 20000 in
theorem ggX9_keep_X2_take : GoodIn wsX9_keep wsX2_take := goodIn_r _ [9, 10, 11, 12, 13, 14, 15, 16, 17, 18, 19, 20, 21, 22, 23, 24, 25, 26, 27, 28, 29, 30, 31, 49, 50, 51, 43, 44, 45, 46, 47, 48, 52, 53] rfl (by decide +kernel)
set_option maxRecDepth 20000 in
theorem gX9_keep_X2_take : GoodIn wsX9_keep (wsV RX9 288 RX2 yX2_take wsX2_take) := goodIn_app (goodIn_r _ [5, 6, 7, 8] rfl (by decide +kernel)) ggX9_keep_X2_take
set_option maxRecDepth 20000 in
theorem ggX9_back_X2_give : GoodIn wsX9_back wsX2_give := goodIn_r _ [12, 13, 14, 15, 16, 17, 18, 19, 20, 21, 22, 23, 24, 25, 26, 27, 28, 29, 30, 31, 32, 33, 45, 46, 47, 62, 63, 64, 65, 66, 67, 68, 69] rfl (by decide +kernel)
set_option maxRecDepth 20000 in
theorem gX9_back_X2_give : GoodIn wsX9_back (wsV RX9 295 RX2 yX2_give wsX2_give) := goodIn_app (goodIn_r _ [8, 9, 10, 11] rfl (by decide +kernel)) ggX9_back_X2_give
set_option maxRecDepth 20000 in
theorem ggX9_begin_X3_begin : GoodIn wsX9_begin wsX3_begin := goodIn_r _ [16, 17, 18, 19, 20, 21, 22, 61, 62, 63, 64, 65, 66] rfl (by decide +kernel)
set_option maxRecDepth 20000 in
theorem gX9_begin_X3_begin : GoodIn wsX9_begin (wsV RX9 311 RX3 yX3_begin wsX3_begin) := goodIn_app (goodIn_r _ [12, 13, 14, 15] rfl (by decide +kernel)) ggX9_begin_X3_begin
set_option maxRecDepth 20000 in
theorem ggX9_lookOut_X4_begin : GoodIn wsX9_lookOut wsX4_begin := goodIn_r _ [13, 14, 15, 16, 17, 18, 19, 20, 21, 22, 23, 24, 25, 26, 27, 28, 161, 162, 163, 164, 165, 166, 167, 168, 169, 170, 171, 172, 173, 174, 190, 191, 192, 193, 194, 195] rfl (by decide +kernel)
set_option maxRecDepth 20000 in
theorem gX9_lookOut_X4_begin : GoodIn wsX9_lookOut (wsV RX9 312 RX4 yX4_begin wsX4_begin) := goodIn_app (goodIn_r _ [9, 10, 11, 12] rfl (by decide +kernel)) ggX9_lookOut_X4_begin
set_option maxRecDepth 20000 in
theorem ggX9_lookOut_X6_begin : GoodIn wsX9_lookOut wsX6_begin := goodIn_r _ [33, 34, 35, 36, 37, 38, 39, 26, 40, 41, 175, 176, 177, 178, 179, 180, 181, 182, 183, 184, 185, 186, 187, 188, 189, 190, 191, 192, 193, 194, 195] rfl (by decide +kernel)
set_option maxRecDepth 20000 in
theorem gX9_lookOut_X6_begin : GoodIn wsX9_lookOut (wsV RX9 219 RX6 yX6_begin wsX6_begin) := goodIn_app (goodIn_r _ [29, 30, 31, 32] rfl (by decide +kernel)) ggX9_lookOut_X6_begin
set_option maxRecDepth 20000 in
theorem ggX9_lookOut_X6_walk : GoodIn wsX9_lookOut wsX6_walk := goodIn_r _ [45, 46, 47, 34, 36, 48, 49, 50, 51, 52, 53, 54, 26, 55, 56, 57, 58, 41, 28, 59, 60, 61, 62, 63, 64, 65, 66, 67, 68, 69, 70, 71, 72, 73, 74, 75, 76, 77, 78, 79, 80, 81, 82, 83, 84, 85, 86, 87, 88, 89, 90, 91, 92, 93, 175, 176, 177, 178, 179, 180, 190, 191, 192, 193, 194, 195, 181, 182, 183, 184, 185, 186, 187, 188, 189] rfl (by decide +kernel)
set_option maxRecDepth 20000 in
theorem gX9_lookOut_X6_walk : GoodIn wsX9_lookOut (wsV RX9 222 RX6 yX6_walk wsX6_walk) := goodIn_app (goodIn_r _ [42, 43, 44, 32] rfl (by decide +kernel)) ggX9_lookOut_X6_walk
set_option maxRecDepth 20000 in
theorem ggX9_lookOut_X9_isHome : GoodIn wsX9_lookOut wsX9_isHome := goodIn_r _ [98, 5, 7, 99, 150, 151, 152, 153, 154, 155, 156, 157, 158, 159, 160, 181, 182, 183, 184, 185, 186, 187, 188, 189, 190, 191, 192, 193, 194, 195] rfl (by decide +kernel)
set_option maxRecDepth 20000 in
theorem gX9_lookOut_X9_isHome : GoodIn wsX9_lookOut (wsV RX9 259 RX9 yX9_isHome wsX9_isHome) := goodIn_app (goodIn_r _ [94, 95, 96, 97] rfl (by decide +kernel)) ggX9_lookOut_X9_isHome
set_option maxRecDepth 20000 in
theorem ggX9_lookOut_X4_take : GoodIn wsX9_lookOut wsX4_take := goodIn_r _ [103, 104, 105, 14, 106, 107, 17, 18, 108, 19, 109, 110, 111, 112, 113, 20, 114, 115, 116, 21, 22, 117, 118, 119, 120, 12, 121, 15, 122, 123, 124, 125, 126, 127, 128, 129, 130, 131, 132, 133, 16, 134, 23, 24, 25, 26, 27, 28, 135, 136, 137, 138, 139, 140, 141, 175, 176, 177, 178, 179, 180, 161, 162, 163, 164, 165, 166, 167, 168, 169, 170, 171, 172, 173, 174, 190, 191, 192, 193, 194, 195] rfl (by decide +kernel)
set_option maxRecDepth 20000 in
theorem gX9_lookOut_X4_take : GoodIn wsX9_lookOut (wsV RX9 315 RX4 yX4_take wsX4_take) := goodIn_app (goodIn_r _ [100, 101, 102, 12] rfl (by decide +kernel)) ggX9_lookOut_X4_take
set_option maxRecDepth 20000 in
theorem ggX9_lookOut_X6_next : GoodIn wsX9_lookOut wsX6_next := goodIn_r _ [145, 34, 36, 146, 147, 148, 32, 149, 175, 176, 177, 178, 179, 180] rfl (by decide +kernel)
set_option maxRecDepth 20000 in
theorem gX9_lookOut_X6_next : GoodIn wsX9_lookOut (wsV RX9 236 RX6 yX6_next wsX6_next) := goodIn_app (goodIn_r _ [142, 143, 144, 32] rfl (by decide +kernel)) ggX9_lookOut_X6_next
set_option maxRecDepth 20000 in
theorem ggX9_askAlley_X9_askStreet : GoodIn wsX9_askAlley wsX9_askStreet := goodIn_r _ [8, 1, 9, 10, 24, 25, 26, 27, 28, 29, 30, 31, 32, 33, 34, 35, 36, 37, 38, 39, 40, 41, 42, 43] rfl (by decide +kernel)
set_option maxRecDepth 20000 in
theorem gX9_askAlley_X9_askStreet : GoodIn wsX9_askAlley (wsV RX9 270 RX9 yX9_askStreet wsX9_askStreet) := goodIn_app (goodIn_r _ [4, 5, 6, 7] rfl (by decide +kernel)) ggX9_askAlley_X9_askStreet
set_option maxRecDepth 20000 in
theorem ggX9_askAlley_X3_waysTaken : GoodIn wsX9_askAlley wsX3_waysTaken := goodIn_r _ [15, 16, 44, 45, 46, 47, 48, 49] rfl (by decide +kernel)
set_option maxRecDepth 20000 in
theorem gX9_askAlley_X3_waysTaken : GoodIn wsX9_askAlley (wsV RX9 106 RX3 yX3_waysTaken wsX3_waysTaken) := goodIn_app (goodIn_r _ [11, 12, 13, 14] rfl (by decide +kernel)) ggX9_askAlley_X3_waysTaken
set_option maxRecDepth 20000 in
theorem ggX9_askAlley_J6_bitCount_0f7a4 : GoodIn wsX9_askAlley wsJ6_bitCount_0f7a4 := goodIn_r _ [20, 21, 22, 23] rfl (by decide +kernel)
set_option maxRecDepth 20000 in
theorem gX9_askAlley_J6_bitCount_0f7a4 : GoodIn wsX9_askAlley (va_wsS RX9 150 yJ6_bitCount_0f7a4 wsJ6_bitCount_0f7a4) := goodIn_app (goodIn_r _ [17, 18, 19] rfl (by decide +kernel)) ggX9_askAlley_J6_bitCount_0f7a4
set_option maxRecDepth 20000 in
theorem ggX9_askBridge_X9_askStreet : GoodIn wsX9_askBridge wsX9_askStreet := goodIn_r _ [9, 1, 3, 10, 11, 12, 13, 14, 15, 16, 17, 18, 19, 20, 21, 22, 23, 24, 25, 26, 27, 28, 29, 30] rfl (by decide +kernel)
set_option maxRecDepth 20000 in
theorem gX9_askBridge_X9_askStreet : GoodIn wsX9_askBridge (wsV RX9 270 RX9 yX9_askStreet wsX9_askStreet) := goodIn_app (goodIn_r _ [5, 6, 7, 8] rfl (by decide +kernel)) ggX9_askBridge_X9_askStreet
set_option maxRecDepth 20000 in
theorem ggX9_askCourt_X9_askAlley : GoodIn wsX9_askCourt wsX9_askAlley := goodIn_r _ [7, 1, 8, 9, 10, 11, 12, 6, 13, 14, 15, 16, 17, 18, 19, 20, 21, 22, 23, 24, 25, 26, 27, 28, 29, 30, 31, 32, 33, 34, 35, 36, 37, 38, 39, 40, 41, 42, 43, 44, 45, 46, 47, 48, 49, 50, 51, 52, 53, 54] rfl (by decide +kernel)
set_option maxRecDepth 20000 in
theorem gX9_askCourt_X9_askAlley : GoodIn wsX9_askCourt (wsV RX9 273 RX9 yX9_askAlley wsX9_askAlley) := goodIn_app (goodIn_r _ [3, 4, 5, 6] rfl (by decide +kernel)) ggX9_askCourt_X9_askAlley
set_option maxRecDepth 20000 in
theorem ggX9_askQuay_X9_askBridge : GoodIn wsX9_askQuay wsX9_askBridge := goodIn_r _ [9, 1, 10, 11, 12, 13, 14, 15, 8, 16, 17, 18, 19, 20, 21, 22, 23, 24, 25, 26, 27, 28, 35, 36, 37, 38, 39, 40, 41, 42, 43] rfl (by decide +kernel)
set_option maxRecDepth 20000 in
theorem gX9_askQuay_X9_askBridge : GoodIn wsX9_askQuay (wsV RX9 276 RX9 yX9_askBridge wsX9_askBridge) := goodIn_app (goodIn_r _ [5, 6, 7, 8] rfl (by decide +kernel)) ggX9_askQuay_X9_askBridge
set_option maxRecDepth 20000 in
theorem ggX9_askLane_X9_askStreet : GoodIn wsX9_askLane wsX9_askStreet := goodIn_r _ [9, 1, 10, 11, 12, 13, 14, 15, 16, 17, 18, 19, 20, 21, 22, 29, 30, 31, 32, 33, 34, 35, 36, 37] rfl (by decide +kernel)
set_option maxRecDepth 20000 in
theorem gX9_askLane_X9_askStreet : GoodIn wsX9_askLane (wsV RX9 270 RX9 yX9_askStreet wsX9_askStreet) := goodIn_app (goodIn_r _ [5, 6, 7, 8] rfl (by decide +kernel)) ggX9_askLane_X9_askStreet
set_option maxRecDepth 20000 in
theorem ggX10_init_X10_plain : GoodIn wsX10_init wsX10_plain := goodIn_r _ [30, 7, 8, 11, 41, 42, 43, 44, 45, 46, 47, 48, 49, 50, 51, 52, 53, 54, 55, 56, 57, 58, 59, 60, 61, 62, 63, 64, 65, 66, 67, 68, 69, 70, 71] rfl (by decide +kernel)
set_option maxRecDepth 20000 in
theorem gX10_init_X10_plain : GoodIn wsX10_init (wsV RX10 69 RX10 yX10_plain wsX10_plain) := goodIn_app (goodIn_r _ [26, 27, 28, 29] rfl (by decide +kernel)) ggX10_init_X10_plain
set_option maxRecDepth 20000 in
theorem ggX10_init_X10_takeDraft : GoodIn wsX10_init wsX10_takeDraft := goodIn_r _ [34, 7, 8, 11, 9, 10, 12, 13, 15, 35, 36, 17, 37, 38, 39, 29, 40, 14, 41, 42, 43, 44, 45, 46, 47, 48, 49, 50, 51, 52, 53, 54, 55, 56, 57, 58, 59, 60, 61, 62, 63, 64, 65, 66, 67, 68, 69, 70, 71] rfl (by decide +kernel)
set_option maxRecDepth 20000 in
theorem gX10_init_X10_takeDraft : GoodIn wsX10_init (wsV RX10 72 RX10 yX10_takeDraft wsX10_takeDraft) := goodIn_app (goodIn_r _ [31, 32, 33, 29] rfl (by decide +kernel)) ggX10_init_X10_takeDraft
set_option maxRecDepth 20000 in
theorem ggX10_type_X10_in : GoodIn wsX10_type wsX10_in := goodIn_r _ [6] rfl (by decide +kernel)
set_option maxRecDepth 20000 in
theorem gX10_type_X10_in : GoodIn wsX10_type (va_wsS RX10 75 yX10_in wsX10_in) := goodIn_app (goodIn_r _ [3, 4, 5] rfl (by decide +kernel)) ggX10_type_X10_in
set_option maxRecDepth 20000 in
theorem ggX10_step_X10_here : GoodIn wsX10_step wsX10_here := goodIn_r _ [9, 1, 10, 11, 15, 16, 17, 18, 19, 20, 21, 22, 23, 24, 25, 26, 27, 28, 29, 30, 31, 32, 33, 34, 35, 36, 37, 38, 39, 40, 41, 42, 43, 44, 45] rfl (by decide +kernel)
set_option maxRecDepth 20000 in
theorem gX10_step_X10_here : GoodIn wsX10_step (wsV RX10 86 RX10 yX10_here wsX10_here) := goodIn_app (goodIn_r _ [5, 6, 7, 8] rfl (by decide +kernel)) ggX10_step_X10_here
set_option maxRecDepth 20000 in
theorem ggX10_step_X10_in : GoodIn wsX10_step wsX10_in := goodIn_r _ [14] rfl (by decide +kernel)
set_option maxRecDepth 20000 in
theorem gX10_step_X10_in : GoodIn wsX10_step (va_wsS RX10 75 yX10_in wsX10_in) := goodIn_app (goodIn_r _ [12, 13, 8] rfl (by decide +kernel)) ggX10_step_X10_in
set_option maxRecDepth 20000 in
theorem ggX10_due_X10_step : GoodIn wsX10_due wsX10_step := goodIn_r _ [8, 9, 3, 1, 10, 11, 12, 13, 7, 14, 15, 16, 17, 18, 19, 20, 21, 22, 23, 24, 25, 26, 27, 28, 29, 30, 31, 32, 33, 34, 35, 36, 37, 38, 39, 40, 41, 42, 43, 44, 45, 46, 47, 48, 49, 50] rfl (by decide +kernel)
set_option maxRecDepth 20000 in
theorem gX10_due_X10_step : GoodIn wsX10_due (wsV RX10 102 RX10 yX10_step wsX10_step) := goodIn_app (goodIn_r _ [4, 5, 6, 7] rfl (by decide +kernel)) ggX10_due_X10_step
set_option maxRecDepth 20000 in
theorem ggX10_number_X10_in : GoodIn wsX10_number wsX10_in := goodIn_r _ [6] rfl (by decide +kernel)
set_option maxRecDepth 20000 in
theorem gX10_number_X10_in : GoodIn wsX10_number (va_wsS RX10 75 yX10_in wsX10_in) := goodIn_app (goodIn_r _ [3, 4, 5] rfl (by decide +kernel)) ggX10_number_X10_in
set_option maxRecDepth 20000 in
theorem ggX10_number_X10_due : GoodIn wsX10_number wsX10_due := goodIn_r _ [10, 2, 11, 12, 13, 14, 15, 5, 16, 17, 1, 18, 19, 20, 21, 22, 23, 3, 4, 6, 24, 25, 26, 27, 28, 29, 30, 31, 32, 33, 34, 35, 36, 37, 38, 39, 40, 41, 42, 43, 44, 45, 46, 47, 48, 49, 50, 51, 52, 53, 54] rfl (by decide +kernel)
set_option maxRecDepth 20000 in
theorem gX10_number_X10_due : GoodIn wsX10_number (wsV RX10 105 RX10 yX10_due wsX10_due) := goodIn_app (goodIn_r _ [7, 8, 9, 5] rfl (by decide +kernel)) ggX10_number_X10_due
set_option maxRecDepth 20000 in
theorem ggX10_readRow_X10_number : GoodIn wsX10_readRow wsX10_number := goodIn_r _ [14, 4, 5, 15, 16, 13, 17, 18, 19, 20, 21, 22, 23, 24, 25, 26, 27, 28, 29, 30, 31, 32, 33, 34, 35, 36, 37, 38, 39, 40, 41, 42, 43, 44, 45, 46, 47, 48, 49, 50, 51, 52, 53, 54, 55, 56, 57, 58, 59, 60, 61, 62, 63, 64, 65] rfl (by decide +kernel)
set_option maxRecDepth 20000 in
theorem gX10_readRow_X10_number : GoodIn wsX10_readRow (wsV RX10 109 RX10 yX10_number wsX10_number) := goodIn_app (goodIn_r _ [10, 11, 12, 13] rfl (by decide +kernel)) ggX10_readRow_X10_number
set_option maxRecDepth 20000 in
theorem ggX10_readRow_X10_due : GoodIn wsX10_readRow wsX10_due := goodIn_r _ [21, 5, 22, 23, 24, 25, 26, 13, 27, 28, 4, 29, 30, 31, 32, 33, 34, 15, 16, 17, 35, 36, 37, 38, 39, 40, 41, 42, 43, 44, 45, 46, 47, 48, 49, 50, 51, 52, 53, 54, 55, 56, 57, 58, 59, 60, 61, 62, 63, 64, 65] rfl (by decide +kernel)
set_option maxRecDepth 20000 in
theorem gX10_readRow_X10_due : GoodIn wsX10_readRow (wsV RX10 105 RX10 yX10_due wsX10_due) := goodIn_app (goodIn_r _ [18, 19, 20, 13] rfl (by decide +kernel)) ggX10_readRow_X10_due
set_option maxRecDepth 20000 in
theorem ggX10_takeDraft_X10_measure : GoodIn wsX10_takeDraft wsX10_measure := goodIn_r _ [16, 17, 2, 4, 5, 18, 19, 20, 21, 22, 23, 24, 25, 26, 27, 28, 29, 30, 31, 32, 33, 34, 35, 36, 37, 38, 39, 40, 41, 42, 43, 44, 45, 46, 47, 48] rfl (by decide +kernel)
set_option maxRecDepth 20000 in
theorem gX10_takeDraft_X10_measure : GoodIn wsX10_takeDraft (wsV RX10 113 RX10 yX10_measure wsX10_measure) := goodIn_app (goodIn_r _ [12, 13, 14, 15] rfl (by decide +kernel)) ggX10_takeDraft_X10_measure
set_option maxRecDepth 20000 in
theorem ggX10_city_X10_plain : GoodIn wsX10_city wsX10_plain := goodIn_r _ [9, 10, 11, 12, 60, 61, 62, 63, 64, 65, 66, 67, 68, 69, 70, 71, 72, 73, 74, 75, 76, 77, 78, 79, 80, 81, 82, 83, 84, 85, 86, 87, 88, 89, 90] rfl (by decide +kernel)
set_option maxRecDepth 20000 in
theorem gX10_city_X10_plain : GoodIn wsX10_city (wsV RX10 69 RX10 yX10_plain wsX10_plain) := goodIn_app (goodIn_r _ [5, 6, 7, 8] rfl (by decide +kernel)) ggX10_city_X10_plain
set_option maxRecDepth 20000 in
theorem ggX10_city_X10_step : GoodIn wsX10_city wsX10_step := goodIn_r _ [16, 1, 17, 18, 3, 19, 20, 21, 8, 22, 4, 23, 24, 25, 26, 60, 61, 62, 63, 64, 65, 66, 67, 68, 69, 70, 71, 72, 73, 74, 75, 76, 77, 78, 79, 80, 81, 82, 83, 84, 85, 86, 87, 88, 89, 90] rfl (by decide +kernel)
set_option maxRecDepth 20000 in
theorem gX10_city_X10_step : GoodIn wsX10_city (wsV RX10 102 RX10 yX10_step wsX10_step) := goodIn_app (goodIn_r _ [13, 14, 15, 8] rfl (by decide +kernel)) ggX10_city_X10_step
set_option maxRecDepth 20000 in
theorem ggX10_city_X10_mayBe : GoodIn wsX10_city wsX10_mayBe := goodIn_r _ [30, 10, 11, 12, 60, 61, 62, 63, 64, 65, 66, 67, 68, 69, 70, 71, 72, 73, 74, 75, 76, 77, 78, 79, 80, 81, 82, 83, 84, 85, 86, 87, 88, 89, 90] rfl (by decide +kernel)
set_option maxRecDepth 20000 in
theorem gX10_city_X10_mayBe : GoodIn wsX10_city (wsV RX10 122 RX10 yX10_mayBe wsX10_mayBe) := goodIn_app (goodIn_r _ [27, 28, 29, 8] rfl (by decide +kernel)) ggX10_city_X10_mayBe
set_option maxRecDepth 20000 in
theorem ggX10_city_X10_due : GoodIn wsX10_city wsX10_due := goodIn_r _ [34, 18, 2, 17, 13, 14, 15, 8, 16, 1, 3, 19, 20, 21, 22, 4, 23, 24, 25, 26, 60, 61, 62, 63, 64, 65, 66, 67, 68, 69, 70, 71, 72, 73, 74, 75, 76, 77, 78, 79, 80, 81, 82, 83, 84, 85, 86, 87, 88, 89, 90] rfl (by decide +kernel)
set_option maxRecDepth 20000 in
theorem gX10_city_X10_due : GoodIn wsX10_city (wsV RX10 105 RX10 yX10_due wsX10_due) := goodIn_app (goodIn_r _ [31, 32, 33, 8] rfl (by decide +kernel)) ggX10_city_X10_due
set_option maxRecDepth 20000 in
theorem ggX10_city_X10_readRow : GoodIn wsX10_city wsX10_readRow := goodIn_r _ [38, 10, 11, 39, 3, 18, 40, 12, 41, 42, 43, 44, 45, 8, 46, 24, 25, 26, 31, 32, 33, 34, 2, 17, 13, 14, 15, 16, 1, 19, 20, 21, 22, 4, 23, 60, 61, 62, 63, 64, 65, 66, 67, 68, 69, 70, 71, 72, 73, 74, 75, 76, 77, 78, 79, 80, 81, 82, 83, 84, 85, 86, 87, 88, 89, 90] rfl (by decide +kernel)
set_option maxRecDepth 20000 in
theorem gX10_city_X10_readRow : GoodIn wsX10_city (wsV RX10 126 RX10 yX10_readRow wsX10_readRow) := goodIn_app (goodIn_r _ [35, 36, 37, 8] rfl (by decide +kernel)) ggX10_city_X10_readRow
set_option maxRecDepth 20000 in
theorem ggX10_city_X10_takeDraft : GoodIn wsX10_city wsX10_takeDraft := goodIn_r _ [50, 10, 11, 12, 39, 40, 41, 42, 51, 52, 53, 54, 55, 56, 57, 8, 58, 59, 60, 61, 62, 63, 64, 65, 66, 67, 68, 69, 70, 71, 72, 73, 74, 75, 76, 77, 78, 79, 80, 81, 82, 83, 84, 85, 86, 87, 88, 89, 90] rfl (by decide +kernel)
set_option maxRecDepth 20000 in
theorem gX10_city_X10_takeDraft : GoodIn wsX10_city (wsV RX10 72 RX10 yX10_takeDraft wsX10_takeDraft) := goodIn_app (goodIn_r _ [47, 48, 49, 8] rfl (by decide +kernel)) ggX10_city_X10_takeDraft
set_option maxRecDepth 20000 in
theorem ggX10_isStreet_X10_in : GoodIn wsX10_isStreet wsX10_in := goodIn_r _ [5] rfl (by decide +kernel)
set_option maxRecDepth 20000 in
theorem gX10_isStreet_X10_in : GoodIn wsX10_isStreet (va_wsS RX10 75 yX10_in wsX10_in) := goodIn_app (goodIn_r _ [2, 3, 4] rfl (by decide +kernel)) ggX10_isStreet_X10_in
set_option maxRecDepth 20000 in
theorem ggX10_isLeader_X10_in : GoodIn wsX10_isLeader wsX10_in := goodIn_r _ [5] rfl (by decide +kernel)
set_option maxRecDepth 20000 in
theorem gX10_isLeader_X10_in : GoodIn wsX10_isLeader (va_wsS RX10 75 yX10_in wsX10_in) := goodIn_app (goodIn_r _ [2, 3, 4] rfl (by decide +kernel)) ggX10_isLeader_X10_in
set_option maxRecDepth 20000 in
theorem ggX10_isCorner_X10_in : GoodIn wsX10_isCorner wsX10_in := goodIn_r _ [5] rfl (by decide +kernel)
set_option maxRecDepth 20000 in
theorem gX10_isCorner_X10_in : GoodIn wsX10_isCorner (va_wsS RX10 75 yX10_in wsX10_in) := goodIn_app (goodIn_r _ [2, 3, 4] rfl (by decide +kernel)) ggX10_isCorner_X10_in
set_option maxRecDepth 20000 in
theorem ggX10_street_X10_isStreet : GoodIn wsX10_street wsX10_isStreet := goodIn_r _ [8, 9, 10, 11, 7, 12, 13, 14, 15, 16, 17, 18, 19, 20, 21, 22, 23, 24, 25, 26, 27, 28, 29, 30, 31, 32, 33, 34, 35, 36, 37, 38, 39, 40, 41, 42, 43] rfl (by decide +kernel)
set_option maxRecDepth 20000 in
theorem gX10_street_X10_isStreet : GoodIn wsX10_street (wsV RX10 130 RX10 yX10_isStreet wsX10_isStreet) := goodIn_app (goodIn_r _ [4, 5, 6, 7] rfl (by decide +kernel)) ggX10_street_X10_isStreet
set_option maxRecDepth 20000 in
theorem ggX10_leader_X10_isLeader : GoodIn wsX10_leader wsX10_isLeader := goodIn_r _ [8, 9, 10, 11, 7, 12, 13, 14, 15, 16, 17, 18, 19, 20, 21, 22, 23, 24, 25, 26, 27, 28, 29, 30, 31, 32, 33, 34, 35, 36, 37, 38, 39, 40, 41, 42, 43] rfl (by decide +kernel)
set_option maxRecDepth 20000 in
theorem gX10_leader_X10_isLeader : GoodIn wsX10_leader (wsV RX10 133 RX10 yX10_isLeader wsX10_isLeader) := goodIn_app (goodIn_r _ [4, 5, 6, 7] rfl (by decide +kernel)) ggX10_leader_X10_isLeader
set_option maxRecDepth 20000 in
theorem ggX10_leader_X10_in : GoodIn wsX10_leader wsX10_in := goodIn_r _ [12] rfl (by decide +kernel)
set_option maxRecDepth 20000 in
theorem gX10_leader_X10_in : GoodIn wsX10_leader (va_wsS RX10 75 yX10_in wsX10_in) := goodIn_app (goodIn_r _ [10, 11, 7] rfl (by decide +kernel)) ggX10_leader_X10_in
set_option maxRecDepth 20000 in
theorem ggX10_far_X10_isCorner : GoodIn wsX10_far wsX10_isCorner := goodIn_r _ [6, 7, 8, 9, 5, 10, 11, 12, 13, 14, 15, 16, 17, 18, 19, 20, 21, 22, 23, 24, 25, 26, 27, 28, 29, 30, 31, 32, 33, 34, 35, 36, 37, 38, 39, 40, 41] rfl (by decide +kernel)
set_option maxRecDepth 20000 in
theorem gX10_far_X10_isCorner : GoodIn wsX10_far (wsV RX10 136 RX10 yX10_isCorner wsX10_isCorner) := goodIn_app (goodIn_r _ [2, 3, 4, 5] rfl (by decide +kernel)) ggX10_far_X10_isCorner
set_option maxRecDepth 20000 in
theorem ggX10_lead_X10_way : GoodIn wsX10_lead wsX10_way := goodIn_r _ [9, 10, 2, 11, 4, 3, 12, 13, 14, 15, 16, 17, 18, 19, 20, 21, 22, 23, 24, 25, 26, 27, 28, 29, 30, 31, 32, 33, 34, 35, 36, 37, 38, 39, 40, 41, 42] rfl (by decide +kernel)
set_option maxRecDepth 20000 in
theorem gX10_lead_X10_way : GoodIn wsX10_lead (wsV RX10 139 RX10 yX10_way wsX10_way) := goodIn_app (goodIn_r _ [5, 6, 7, 8] rfl (by decide +kernel)) ggX10_lead_X10_way
set_option maxRecDepth 20000 in
theorem ggX10_leads_X10_isLeader : GoodIn wsX10_leads wsX10_isLeader := goodIn_r _ [6, 7, 8, 9, 5, 10, 29, 30, 31, 32, 33, 34, 35, 36, 37, 38, 39, 40, 41, 42, 43, 44, 45, 46, 47, 48, 49, 50, 51, 52, 53, 54, 55, 56, 57, 58, 59] rfl (by decide +kernel)
set_option maxRecDepth 20000 in
theorem gX10_leads_X10_isLeader : GoodIn wsX10_leads (wsV RX10 133 RX10 yX10_isLeader wsX10_isLeader) := goodIn_app (goodIn_r _ [2, 3, 4, 5] rfl (by decide +kernel)) ggX10_leads_X10_isLeader
set_option maxRecDepth 20000 in
theorem ggX10_leads_X10_know : GoodIn wsX10_leads wsX10_know := goodIn_r _ [14, 1, 29, 30, 31, 32, 33, 34, 35, 36, 37, 38, 39, 40, 41, 42, 43, 44, 45, 46, 47, 48, 49, 50, 51, 52, 53, 54, 55, 56, 57, 58, 59] rfl (by decide +kernel)
set_option maxRecDepth 20000 in
theorem gX10_leads_X10_know : GoodIn wsX10_leads (wsV RX10 143 RX10 yX10_know wsX10_know) := goodIn_app (goodIn_r _ [11, 12, 13, 5] rfl (by decide +kernel)) ggX10_leads_X10_know
set_option maxRecDepth 20000 in
theorem ggX10_leads_X10_lead : GoodIn wsX10_leads wsX10_lead := goodIn_r _ [18, 19, 20, 21, 22, 23, 24, 25, 5, 26, 27, 28, 29, 30, 31, 32, 33, 34, 35, 36, 37, 38, 39, 40, 41, 42, 43, 44, 45, 46, 47, 48, 49, 50, 51, 52, 53, 54, 55, 56, 57, 58, 59] rfl (by decide +kernel)
set_option maxRecDepth 20000 in
theorem gX10_leads_X10_lead : GoodIn wsX10_leads (wsV RX10 146 RX10 yX10_lead wsX10_lead) := goodIn_app (goodIn_r _ [15, 16, 17, 5] rfl (by decide +kernel)) ggX10_leads_X10_lead
set_option maxRecDepth 20000 in
theorem ggX10_shuts_X10_isStreet : GoodIn wsX10_shuts wsX10_isStreet := goodIn_r _ [6, 7, 8, 9, 5, 10, 18, 19, 20, 21, 22, 23, 24, 25, 26, 27, 28, 29, 30, 31, 32, 33, 34, 35, 36, 37, 38, 39, 40, 41, 42, 43, 44, 45, 46, 47, 48] rfl (by decide +kernel)
set_option maxRecDepth 20000 in
theorem gX10_shuts_X10_isStreet : GoodIn wsX10_shuts (wsV RX10 130 RX10 yX10_isStreet wsX10_isStreet) := goodIn_app (goodIn_r _ [2, 3, 4, 5] rfl (by decide +kernel)) ggX10_shuts_X10_isStreet
set_option maxRecDepth 20000 in
theorem ggX10_shuts_X10_in : GoodIn wsX10_shuts wsX10_in := goodIn_r _ [10] rfl (by decide +kernel)
set_option maxRecDepth 20000 in
theorem gX10_shuts_X10_in : GoodIn wsX10_shuts (va_wsS RX10 75 yX10_in wsX10_in) := goodIn_app (goodIn_r _ [8, 9, 5] rfl (by decide +kernel)) ggX10_shuts_X10_in
set_option maxRecDepth 20000 in
theorem ggX10_shuts_X10_know : GoodIn wsX10_shuts wsX10_know := goodIn_r _ [14, 1, 18, 19, 20, 21, 22, 23, 24, 25, 26, 27, 28, 29, 30, 31, 32, 33, 34, 35, 36, 37, 38, 39, 40, 41, 42, 43, 44, 45, 46, 47, 48] rfl (by decide +kernel)
set_option maxRecDepth 20000 in
theorem gX10_shuts_X10_know : GoodIn wsX10_shuts (wsV RX10 143 RX10 yX10_know wsX10_know) := goodIn_app (goodIn_r _ [11, 12, 13, 5] rfl (by decide +kernel)) ggX10_shuts_X10_know
set_option maxRecDepth 20000 in
theorem ggX10_shuts_X10_manyOf : GoodIn wsX10_shuts wsX10_manyOf := goodIn_r _ [17] rfl (by decide +kernel)
set_option maxRecDepth 20000 in
theorem gX10_shuts_X10_manyOf : GoodIn wsX10_shuts (va_wsS RX10 150 yX10_manyOf wsX10_manyOf) := goodIn_app (goodIn_r _ [15, 16, 5] rfl (by decide +kernel)) ggX10_shuts_X10_manyOf
set_option maxRecDepth 20000 in
theorem ggX10_now_X10_walked : GoodIn wsX10_now wsX10_walked := goodIn_r _ [7, 8, 9, 10, 11, 12, 13, 14, 15, 16, 17, 18, 19, 20, 21, 22, 23, 24, 25, 26, 27, 28, 29, 30, 31, 32, 33, 34, 35, 36, 37, 38, 39] rfl (by decide +kernel)
set_option maxRecDepth 20000 in
theorem gX10_now_X10_walked : GoodIn wsX10_now (wsV RX10 154 RX10 yX10_walked wsX10_walked) := goodIn_app (goodIn_r _ [3, 4, 5, 6] rfl (by decide +kernel)) ggX10_now_X10_walked
set_option maxRecDepth 20000 in
theorem ggX10_nextRow_X10_turnFrom : GoodIn wsX10_nextRow wsX10_turnFrom := goodIn_r _ [7] rfl (by decide +kernel)
set_option maxRecDepth 20000 in
theorem gX10_nextRow_X10_turnFrom : GoodIn wsX10_nextRow (wsV RX10 161 RX10 yX10_turnFrom wsX10_turnFrom) := goodIn_app (goodIn_r _ [3, 4, 5, 6] rfl (by decide +kernel)) ggX10_nextRow_X10_turnFrom
set_option maxRecDepth 20000 in
theorem ggX10_run_X10_take : GoodIn wsX10_run wsX10_take := goodIn_r _ [12, 5, 13, 31, 32, 33, 34, 35, 36, 37, 38, 39, 40, 41, 42, 43, 44, 45, 46, 47, 48, 49, 50, 51, 52, 53, 54, 55, 56, 57, 58, 59, 60, 61] rfl (by decide +kernel)
set_option maxRecDepth 20000 in
theorem gX10_run_X10_take : GoodIn wsX10_run (wsV RX10 165 RX10 yX10_take wsX10_take) := goodIn_app (goodIn_r _ [8, 9, 10, 11] rfl (by decide +kernel)) ggX10_run_X10_take
set_option maxRecDepth 20000 in
theorem ggX10_run_X10_lead : GoodIn wsX10_run wsX10_lead := goodIn_r _ [17, 18, 19, 20, 7, 21, 22, 23, 11, 24, 25, 26, 31, 32, 33, 34, 35, 36, 37, 38, 39, 40, 41, 42, 43, 44, 45, 46, 47, 48, 49, 50, 51, 52, 53, 54, 55, 56, 57, 58, 59, 60, 61] rfl (by decide +kernel)
set_option maxRecDepth 20000 in
theorem gX10_run_X10_lead : GoodIn wsX10_run (wsV RX10 146 RX10 yX10_lead wsX10_lead) := goodIn_app (goodIn_r _ [14, 15, 16, 11] rfl (by decide +kernel)) ggX10_run_X10_lead
set_option maxRecDepth 20000 in
theorem ggX10_run_X10_turnFrom : GoodIn wsX10_run wsX10_turnFrom := goodIn_r _ [30] rfl (by decide +kernel)
set_option maxRecDepth 20000 in
theorem gX10_run_X10_turnFrom : GoodIn wsX10_run (wsV RX10 161 RX10 yX10_turnFrom wsX10_turnFrom) := goodIn_app (goodIn_r _ [27, 28, 29, 11] rfl (by decide +kernel)) ggX10_run_X10_turnFrom
set_option maxRecDepth 20000 in
theorem ggX10_findOrder_X10_firstRow : GoodIn wsX10_findOrder wsX10_firstRow := goodIn_r _ [12, 5, 13, 4, 7, 52, 53, 54, 55, 56, 57, 58, 59, 60, 61, 62, 63, 64, 65, 66, 67, 68, 69, 70, 71, 72, 73, 74, 75, 76, 77, 78, 79, 80, 81, 82] rfl (by decide +kernel)
set_option maxRecDepth 20000 in
theorem gX10_findOrder_X10_firstRow : GoodIn wsX10_findOrder (wsV RX10 171 RX10 yX10_firstRow wsX10_firstRow) := goodIn_app (goodIn_r _ [8, 9, 10, 11] rfl (by decide +kernel)) ggX10_findOrder_X10_firstRow
set_option maxRecDepth 20000 in
theorem ggX10_findOrder_X10_run : GoodIn wsX10_findOrder wsX10_run := goodIn_r _ [17, 18, 5, 19, 7, 3, 20, 21, 22, 23, 24, 11, 25, 4, 26, 27, 28, 29, 30, 31, 32, 33, 34, 35, 36, 37, 38, 39, 40, 41, 42, 52, 53, 54, 55, 56, 57, 58, 59, 60, 61, 62, 63, 64, 65, 66, 67, 68, 69, 70, 71, 72, 73, 74, 75, 76, 77, 78, 79, 80, 81, 82] rfl (by decide +kernel)
set_option maxRecDepth 20000 in
theorem gX10_findOrder_X10_run : GoodIn wsX10_findOrder (wsV RX10 177 RX10 yX10_run wsX10_run) := goodIn_app (goodIn_r _ [14, 15, 16, 11] rfl (by decide +kernel)) ggX10_findOrder_X10_run
set_option maxRecDepth 20000 in
theorem ggX10_findOrder_X10_isAtDoor : GoodIn wsX10_findOrder wsX10_isAtDoor := goodIn_r _ [46, 47, 3, 52, 53, 54, 55, 56, 57, 58, 59, 60, 61, 62, 63, 64, 65, 66, 67, 68, 69, 70, 71, 72, 73, 74, 75, 76, 77, 78, 79, 80, 81, 82] rfl (by decide +kernel)
set_option maxRecDepth 20000 in
theorem gX10_findOrder_X10_isAtDoor : GoodIn wsX10_findOrder (wsV RX10 180 RX10 yX10_isAtDoor wsX10_isAtDoor) := goodIn_app (goodIn_r _ [43, 44, 45, 11] rfl (by decide +kernel)) ggX10_findOrder_X10_isAtDoor
set_option maxRecDepth 20000 in
theorem ggX10_findOrder_X10_nextRow : GoodIn wsX10_findOrder wsX10_nextRow := goodIn_r _ [51, 5, 7, 39, 40, 41, 11, 42, 52, 53, 54, 55, 56, 57, 58, 59, 60, 61, 62, 63, 64, 65, 66, 67, 68, 69, 70, 71, 72, 73, 74, 75, 76, 77, 78, 79, 80, 81, 82] rfl (by decide +kernel)
set_option maxRecDepth 20000 in
theorem gX10_findOrder_X10_nextRow : GoodIn wsX10_findOrder (wsV RX10 185 RX10 yX10_nextRow wsX10_nextRow) := goodIn_app (goodIn_r _ [48, 49, 50, 11] rfl (by decide +kernel)) ggX10_findOrder_X10_nextRow
set_option maxRecDepth 20000 in
theorem ggX10_order_X10_in : GoodIn wsX10_order wsX10_in := goodIn_r _ [8] rfl (by decide +kernel)
set_option maxRecDepth 20000 in
theorem gX10_order_X10_in : GoodIn wsX10_order (va_wsS RX10 75 yX10_in wsX10_in) := goodIn_app (goodIn_r _ [5, 6, 7] rfl (by decide +kernel)) ggX10_order_X10_in
set_option maxRecDepth 20000 in
theorem ggX10_order_X10_findOrder : GoodIn wsX10_order wsX10_findOrder := goodIn_r _ [12, 1, 2, 13, 14, 3, 4, 15, 16, 17, 18, 7, 19, 20, 21, 22, 23, 24, 25, 26, 27, 28, 29, 30, 31, 32, 33, 34, 35, 36, 37, 38, 39, 40, 41, 42, 43, 44, 45, 46, 47, 48, 49, 50, 51, 52, 53, 54, 55, 56, 57, 58, 59, 60, 61, 62, 63, 64, 65, 66, 67, 68, 69, 70, 71, 72, 73, 74, 75, 76, 77, 78, 79, 80, 81, 82, 83, 84, 85, 86, 87, 88, 89] rfl (by decide +kernel)
set_option maxRecDepth 20000 in
theorem gX10_order_X10_findOrder : GoodIn wsX10_order (wsV RX10 188 RX10 yX10_findOrder wsX10_findOrder) := goodIn_app (goodIn_r _ [9, 10, 11, 7] rfl (by decide +kernel)) ggX10_order_X10_findOrder
set_option maxRecDepth 20000 in
theorem ggX10_most_X10_in : GoodIn wsX10_most wsX10_in := goodIn_r _ [8] rfl (by decide +kernel)
set_option maxRecDepth 20000 in
theorem gX10_most_X10_in : GoodIn wsX10_most (va_wsS RX10 75 yX10_in wsX10_in) := goodIn_app (goodIn_r _ [5, 6, 7] rfl (by decide +kernel)) ggX10_most_X10_in
set_option maxRecDepth 20000 in
theorem ggX10_most_X10_firstRow : GoodIn wsX10_most wsX10_firstRow := goodIn_r _ [12, 2, 13, 14, 4, 55, 56, 57, 58, 59, 60, 61, 62, 63, 64, 65, 66, 67, 68, 69, 70, 71, 72, 73, 74, 75, 76, 77, 78, 79, 80, 81, 82, 83, 84, 85] rfl (by decide +kernel)
set_option maxRecDepth 20000 in
theorem gX10_most_X10_firstRow : GoodIn wsX10_most (wsV RX10 171 RX10 yX10_firstRow wsX10_firstRow) := goodIn_app (goodIn_r _ [9, 10, 11, 7] rfl (by decide +kernel)) ggX10_most_X10_firstRow
set_option maxRecDepth 20000 in
theorem ggX10_most_X10_run : GoodIn wsX10_most wsX10_run := goodIn_r _ [18, 19, 2, 20, 4, 1, 21, 22, 23, 24, 25, 7, 26, 14, 27, 28, 29, 30, 31, 32, 33, 34, 35, 36, 37, 38, 39, 40, 41, 42, 43, 55, 56, 57, 58, 59, 60, 61, 62, 63, 64, 65, 66, 67, 68, 69, 70, 71, 72, 73, 74, 75, 76, 77, 78, 79, 80, 81, 82, 83, 84, 85] rfl (by decide +kernel)
set_option maxRecDepth 20000 in
theorem gX10_most_X10_run : GoodIn wsX10_most (wsV RX10 177 RX10 yX10_run wsX10_run) := goodIn_app (goodIn_r _ [15, 16, 17, 7] rfl (by decide +kernel)) ggX10_most_X10_run
set_option maxRecDepth 20000 in
theorem ggX10_most_X10_walked : GoodIn wsX10_most wsX10_walked := goodIn_r _ [47, 38, 55, 56, 57, 58, 59, 60, 61, 62, 63, 64, 65, 66, 67, 68, 69, 70, 71, 72, 73, 74, 75, 76, 77, 78, 79, 80, 81, 82, 83, 84, 85] rfl (by decide +kernel)
set_option maxRecDepth 20000 in
theorem gX10_most_X10_walked : GoodIn wsX10_most (wsV RX10 154 RX10 yX10_walked wsX10_walked) := goodIn_app (goodIn_r _ [44, 45, 46, 7] rfl (by decide +kernel)) ggX10_most_X10_walked
set_option maxRecDepth 20000 in
theorem ggX10_most_X10_manyOf : GoodIn wsX10_most wsX10_manyOf := goodIn_r _ [50] rfl (by decide +kernel)
set_option maxRecDepth 20000 in
theorem gX10_most_X10_manyOf : GoodIn wsX10_most (va_wsS RX10 150 yX10_manyOf wsX10_manyOf) := goodIn_app (goodIn_r _ [48, 49, 7] rfl (by decide +kernel)) ggX10_most_X10_manyOf
set_option maxRecDepth 20000 in
theorem ggX10_most_X10_nextRow : GoodIn wsX10_most wsX10_nextRow := goodIn_r _ [54, 2, 4, 40, 41, 42, 7, 43, 55, 56, 57, 58, 59, 60, 61, 62, 63, 64, 65, 66, 67, 68, 69, 70, 71, 72, 73, 74, 75, 76, 77, 78, 79, 80, 81, 82, 83, 84, 85] rfl (by decide +kernel)
set_option maxRecDepth 20000 in
theorem gX10_most_X10_nextRow : GoodIn wsX10_most (wsV RX10 185 RX10 yX10_nextRow wsX10_nextRow) := goodIn_app (goodIn_r _ [51, 52, 53, 7] rfl (by decide +kernel)) ggX10_most_X10_nextRow
set_option maxRecDepth 20000 in
theorem ggX10_rows_X10_in : GoodIn wsX10_rows wsX10_in := goodIn_r _ [11] rfl (by decide +kernel)
set_option maxRecDepth 20000 in
theorem gX10_rows_X10_in : GoodIn wsX10_rows (va_wsS RX10 75 yX10_in wsX10_in) := goodIn_app (goodIn_r _ [8, 9, 10] rfl (by decide +kernel)) ggX10_rows_X10_in
set_option maxRecDepth 20000 in
theorem ggX10_rows_X10_firstRow : GoodIn wsX10_rows wsX10_firstRow := goodIn_r _ [15, 6, 16, 3, 17, 56, 57, 58, 59, 60, 61, 62, 63, 64, 65, 66, 67, 68, 69, 70, 71, 72, 73, 74, 75, 76, 77, 78, 79, 80, 81, 82, 83, 84, 85, 86] rfl (by decide +kernel)
set_option maxRecDepth 20000 in
theorem gX10_rows_X10_firstRow : GoodIn wsX10_rows (wsV RX10 171 RX10 yX10_firstRow wsX10_firstRow) := goodIn_app (goodIn_r _ [12, 13, 14, 10] rfl (by decide +kernel)) ggX10_rows_X10_firstRow
set_option maxRecDepth 20000 in
theorem ggX10_rows_X10_run : GoodIn wsX10_rows wsX10_run := goodIn_r _ [21, 5, 6, 7, 17, 2, 22, 23, 24, 25, 26, 10, 27, 3, 28, 29, 30, 31, 32, 33, 34, 35, 36, 37, 38, 1, 39, 40, 41, 42, 43, 56, 57, 58, 59, 60, 61, 62, 63, 64, 65, 66, 67, 68, 69, 70, 71, 72, 73, 74, 75, 76, 77, 78, 79, 80, 81, 82, 83, 84, 85, 86] rfl (by decide +kernel)
set_option maxRecDepth 20000 in
theorem gX10_rows_X10_run : GoodIn wsX10_rows (wsV RX10 177 RX10 yX10_run wsX10_run) := goodIn_app (goodIn_r _ [18, 19, 20, 10] rfl (by decide +kernel)) ggX10_rows_X10_run
set_option maxRecDepth 20000 in
theorem ggX10_rows_X10_walked : GoodIn wsX10_rows wsX10_walked := goodIn_r _ [47, 1, 56, 57, 58, 59, 60, 61, 62, 63, 64, 65, 66, 67, 68, 69, 70, 71, 72, 73, 74, 75, 76, 77, 78, 79, 80, 81, 82, 83, 84, 85, 86] rfl (by decide +kernel)
set_option maxRecDepth 20000 in
theorem gX10_rows_X10_walked : GoodIn wsX10_rows (wsV RX10 154 RX10 yX10_walked wsX10_walked) := goodIn_app (goodIn_r _ [44, 45, 46, 10] rfl (by decide +kernel)) ggX10_rows_X10_walked
set_option maxRecDepth 20000 in
theorem ggX10_rows_X10_isAtDoor : GoodIn wsX10_rows wsX10_isAtDoor := goodIn_r _ [51, 4, 2, 56, 57, 58, 59, 60, 61, 62, 63, 64, 65, 66, 67, 68, 69, 70, 71, 72, 73, 74, 75, 76, 77, 78, 79, 80, 81, 82, 83, 84, 85, 86] rfl (by decide +kernel)
set_option maxRecDepth 20000 in
theorem gX10_rows_X10_isAtDoor : GoodIn wsX10_rows (wsV RX10 180 RX10 yX10_isAtDoor wsX10_isAtDoor) := goodIn_app (goodIn_r _ [48, 49, 50, 10] rfl (by decide +kernel)) ggX10_rows_X10_isAtDoor
set_option maxRecDepth 20000 in
theorem ggX10_rows_X10_nextRow : GoodIn wsX10_rows wsX10_nextRow := goodIn_r _ [55, 6, 17, 40, 41, 42, 10, 43, 56, 57, 58, 59, 60, 61, 62, 63, 64, 65, 66, 67, 68, 69, 70, 71, 72, 73, 74, 75, 76, 77, 78, 79, 80, 81, 82, 83, 84, 85, 86] rfl (by decide +kernel)
set_option maxRecDepth 20000 in
theorem gX10_rows_X10_nextRow : GoodIn wsX10_rows (wsV RX10 185 RX10 yX10_nextRow wsX10_nextRow) := goodIn_app (goodIn_r _ [52, 53, 54, 10] rfl (by decide +kernel)) ggX10_rows_X10_nextRow
set_option maxRecDepth 20000 in
theorem ggX10_saw_X10_in : GoodIn wsX10_saw wsX10_in := goodIn_r _ [7] rfl (by decide +kernel)
set_option maxRecDepth 20000 in
theorem gX10_saw_X10_in : GoodIn wsX10_saw (va_wsS RX10 75 yX10_in wsX10_in) := goodIn_app (goodIn_r _ [4, 5, 6] rfl (by decide +kernel)) ggX10_saw_X10_in
set_option maxRecDepth 20000 in
theorem ggX10_saw_X10_isCorner : GoodIn wsX10_saw wsX10_isCorner := goodIn_r _ [11, 12, 4, 5, 6, 7, 13, 14, 15, 16, 17, 18, 19, 20, 21, 22, 23, 24, 25, 26, 27, 28, 29, 30, 31, 32, 33, 34, 35, 36, 37, 38, 39, 40, 41, 42, 43] rfl (by decide +kernel)
set_option maxRecDepth 20000 in
theorem gX10_saw_X10_isCorner : GoodIn wsX10_saw (wsV RX10 136 RX10 yX10_isCorner wsX10_isCorner) := goodIn_app (goodIn_r _ [8, 9, 10, 6] rfl (by decide +kernel)) ggX10_saw_X10_isCorner
set_option maxRecDepth 20000 in
theorem ggX10_fits_X10_in : GoodIn wsX10_fits wsX10_in := goodIn_r _ [6] rfl (by decide +kernel)
set_option maxRecDepth 20000 in
theorem gX10_fits_X10_in : GoodIn wsX10_fits (va_wsS RX10 75 yX10_in wsX10_in) := goodIn_app (goodIn_r _ [3, 4, 5] rfl (by decide +kernel)) ggX10_fits_X10_in
set_option maxRecDepth 20000 in
theorem ggX10_fits_X10_firstRow : GoodIn wsX10_fits wsX10_firstRow := goodIn_r _ [10, 1, 11, 12, 13, 54, 55, 56, 57, 58, 59, 60, 61, 62, 63, 64, 65, 66, 67, 68, 69, 70, 71, 72, 73, 74, 75, 76, 77, 78, 79, 80, 81, 82, 83, 84] rfl (by decide +kernel)
set_option maxRecDepth 20000 in
theorem gX10_fits_X10_firstRow : GoodIn wsX10_fits (wsV RX10 171 RX10 yX10_firstRow wsX10_firstRow) := goodIn_app (goodIn_r _ [7, 8, 9, 5] rfl (by decide +kernel)) ggX10_fits_X10_firstRow
set_option maxRecDepth 20000 in
theorem ggX10_fits_X10_run : GoodIn wsX10_fits wsX10_run := goodIn_r _ [17, 18, 1, 2, 13, 19, 20, 21, 22, 23, 24, 5, 25, 12, 26, 27, 28, 29, 30, 31, 32, 33, 34, 35, 36, 37, 38, 39, 40, 41, 42, 54, 55, 56, 57, 58, 59, 60, 61, 62, 63, 64, 65, 66, 67, 68, 69, 70, 71, 72, 73, 74, 75, 76, 77, 78, 79, 80, 81, 82, 83, 84] rfl (by decide +kernel)
set_option maxRecDepth 20000 in
theorem gX10_fits_X10_run : GoodIn wsX10_fits (wsV RX10 177 RX10 yX10_run wsX10_run) := goodIn_app (goodIn_r _ [14, 15, 16, 5] rfl (by decide +kernel)) ggX10_fits_X10_run
set_option maxRecDepth 20000 in
theorem ggX10_fits_X10_isSo : GoodIn wsX10_fits wsX10_isSo := goodIn_r _ [46, 47, 48, 1, 20, 49, 54, 55, 56, 57, 58, 59, 60, 61, 62, 63, 64, 65, 66, 67, 68, 69, 70, 71, 72, 73, 74, 75, 76, 77, 78, 79, 80, 81, 82, 83, 84] rfl (by decide +kernel)
set_option maxRecDepth 20000 in
theorem gX10_fits_X10_isSo : GoodIn wsX10_fits (wsV RX10 191 RX10 yX10_isSo wsX10_isSo) := goodIn_app (goodIn_r _ [43, 44, 45, 5] rfl (by decide +kernel)) ggX10_fits_X10_isSo
set_option maxRecDepth 20000 in
theorem ggX10_fits_X10_nextRow : GoodIn wsX10_fits wsX10_nextRow := goodIn_r _ [53, 1, 13, 39, 40, 41, 5, 42, 54, 55, 56, 57, 58, 59, 60, 61, 62, 63, 64, 65, 66, 67, 68, 69, 70, 71, 72, 73, 74, 75, 76, 77, 78, 79, 80, 81, 82, 83, 84] rfl (by decide +kernel)
set_option maxRecDepth 20000 in
theorem gX10_fits_X10_nextRow : GoodIn wsX10_fits (wsV RX10 185 RX10 yX10_nextRow wsX10_nextRow) := goodIn_app (goodIn_r _ [50, 51, 52, 5] rfl (by decide +kernel)) ggX10_fits_X10_nextRow
set_option maxRecDepth 20000 in
theorem ggX10_plans_X10_isLeader : GoodIn wsX10_plans wsX10_isLeader := goodIn_r _ [7, 8, 9, 10, 6, 11, 12, 13, 14, 15, 16, 17, 18, 19, 20, 21, 22, 23, 24, 25, 26, 27, 28, 29, 30, 31, 32, 33, 34, 35, 36, 37, 38, 39, 40, 41, 42] rfl (by decide +kernel)
set_option maxRecDepth 20000 in
theorem gX10_plans_X10_isLeader : GoodIn wsX10_plans (wsV RX10 133 RX10 yX10_isLeader wsX10_isLeader) := goodIn_app (goodIn_r _ [3, 4, 5, 6] rfl (by decide +kernel)) ggX10_plans_X10_isLeader
set_option maxRecDepth 20000 in
theorem ggX10_goPlan_X10_take : GoodIn wsX10_goPlan wsX10_take := goodIn_r _ [9, 4, 1, 24, 25, 26, 27, 28, 29, 30, 31, 32, 33, 34, 35, 36, 37, 38, 39, 40, 41, 42, 43, 44, 45, 46, 47, 48, 49, 50, 51, 52, 53, 54] rfl (by decide +kernel)
set_option maxRecDepth 20000 in
theorem gX10_goPlan_X10_take : GoodIn wsX10_goPlan (wsV RX10 165 RX10 yX10_take wsX10_take) := goodIn_app (goodIn_r _ [5, 6, 7, 8] rfl (by decide +kernel)) ggX10_goPlan_X10_take
set_option maxRecDepth 20000 in
theorem ggX10_goPlan_X10_lead : GoodIn wsX10_goPlan wsX10_lead := goodIn_r _ [13, 14, 15, 16, 17, 18, 19, 20, 8, 21, 22, 23, 24, 25, 26, 27, 28, 29, 30, 31, 32, 33, 34, 35, 36, 37, 38, 39, 40, 41, 42, 43, 44, 45, 46, 47, 48, 49, 50, 51, 52, 53, 54] rfl (by decide +kernel)
set_option maxRecDepth 20000 in
theorem gX10_goPlan_X10_lead : GoodIn wsX10_goPlan (wsV RX10 146 RX10 yX10_lead wsX10_lead) := goodIn_app (goodIn_r _ [10, 11, 12, 8] rfl (by decide +kernel)) ggX10_goPlan_X10_lead
set_option maxRecDepth 20000 in
theorem ggX10_planned_X10_in : GoodIn wsX10_planned wsX10_in := goodIn_r _ [7] rfl (by decide +kernel)
set_option maxRecDepth 20000 in
theorem gX10_planned_X10_in : GoodIn wsX10_planned (va_wsS RX10 75 yX10_in wsX10_in) := goodIn_app (goodIn_r _ [4, 5, 6] rfl (by decide +kernel)) ggX10_planned_X10_in
set_option maxRecDepth 20000 in
theorem ggX10_planned_X10_goPlan : GoodIn wsX10_planned wsX10_goPlan := goodIn_r _ [11, 3, 12, 13, 2, 14, 15, 16, 6, 17, 18, 19, 20, 21, 22, 23, 24, 25, 26, 27, 28, 29, 30, 31, 32, 33, 34, 35, 36, 37, 38, 39, 40, 41, 42, 43, 44, 45, 46, 47, 48, 49, 50, 51, 52, 53, 54, 55, 56, 57, 58, 59, 60, 61, 62] rfl (by decide +kernel)
set_option maxRecDepth 20000 in
theorem gX10_planned_X10_goPlan : GoodIn wsX10_planned (wsV RX10 194 RX10 yX10_goPlan wsX10_goPlan) := goodIn_app (goodIn_r _ [8, 9, 10, 6] rfl (by decide +kernel)) ggX10_planned_X10_goPlan
set_option maxRecDepth 20000 in
theorem ggX10_odds_X10_in : GoodIn wsX10_odds wsX10_in := goodIn_r _ [4] rfl (by decide +kernel)
set_option maxRecDepth 20000 in
theorem gX10_odds_X10_in : GoodIn wsX10_odds (va_wsS RX10 75 yX10_in wsX10_in) := goodIn_app (goodIn_r _ [1, 2, 3] rfl (by decide +kernel)) ggX10_odds_X10_in
set_option maxRecDepth 20000 in
theorem ggX10_odds_X10_goPlan : GoodIn wsX10_odds wsX10_goPlan := goodIn_r _ [8, 9, 10, 11, 12, 13, 14, 15, 3, 16, 17, 18, 19, 20, 21, 22, 23, 24, 25, 26, 27, 28, 29, 30, 36, 37, 38, 39, 40, 41, 42, 43, 44, 45, 46, 47, 48, 49, 50, 51, 52, 53, 54, 55, 56, 57, 58, 59, 60, 61, 62, 63, 64, 65, 66] rfl (by decide +kernel)
set_option maxRecDepth 20000 in
theorem gX10_odds_X10_goPlan : GoodIn wsX10_odds (wsV RX10 194 RX10 yX10_goPlan wsX10_goPlan) := goodIn_app (goodIn_r _ [5, 6, 7, 3] rfl (by decide +kernel)) ggX10_odds_X10_goPlan
set_option maxRecDepth 20000 in
theorem ggX10_odds_X10_isAtDoor : GoodIn wsX10_odds wsX10_isAtDoor := goodIn_r _ [34, 35, 12, 36, 37, 38, 39, 40, 41, 42, 43, 44, 45, 46, 47, 48, 49, 50, 51, 52, 53, 54, 55, 56, 57, 58, 59, 60, 61, 62, 63, 64, 65, 66] rfl (by decide +kernel)
set_option maxRecDepth 20000 in
theorem gX10_odds_X10_isAtDoor : GoodIn wsX10_odds (wsV RX10 180 RX10 yX10_isAtDoor wsX10_isAtDoor) := goodIn_app (goodIn_r _ [31, 32, 33, 3] rfl (by decide +kernel)) ggX10_odds_X10_isAtDoor
set_option maxRecDepth 20000 in
theorem ggX10_mark_X10_in : GoodIn wsX10_mark wsX10_in := goodIn_r _ [14] rfl (by decide +kernel)
set_option maxRecDepth 20000 in
theorem gX10_mark_X10_in : GoodIn wsX10_mark (va_wsS RX10 75 yX10_in wsX10_in) := goodIn_app (goodIn_r _ [11, 12, 13] rfl (by decide +kernel)) ggX10_mark_X10_in
set_option maxRecDepth 20000 in
theorem ggX10_mark_X10_isStreet : GoodIn wsX10_mark wsX10_isStreet := goodIn_r _ [18, 19, 11, 12, 13, 14, 23, 24, 25, 26, 27, 28, 29, 30, 31, 32, 33, 34, 35, 36, 37, 38, 39, 40, 41, 42, 43, 44, 45, 46, 47, 48, 49, 50, 51, 52, 53] rfl (by decide +kernel)
set_option maxRecDepth 20000 in
theorem gX10_mark_X10_isStreet : GoodIn wsX10_mark (wsV RX10 130 RX10 yX10_isStreet wsX10_isStreet) := goodIn_app (goodIn_r _ [15, 16, 17, 13] rfl (by decide +kernel)) ggX10_mark_X10_isStreet
set_option maxRecDepth 20000 in
theorem ggX10_mark_X10_manyOf : GoodIn wsX10_mark wsX10_manyOf := goodIn_r _ [22] rfl (by decide +kernel)
set_option maxRecDepth 20000 in
theorem gX10_mark_X10_manyOf : GoodIn wsX10_mark (va_wsS RX10 150 yX10_manyOf wsX10_manyOf) := goodIn_app (goodIn_r _ [20, 21, 13] rfl (by decide +kernel)) ggX10_mark_X10_manyOf
set_option maxRecDepth 20000 in
theorem ggX10_keep_X10_in : GoodIn wsX10_keep wsX10_in := goodIn_r _ [6] rfl (by decide +kernel)
set_option maxRecDepth 20000 in
theorem gX10_keep_X10_in : GoodIn wsX10_keep (va_wsS RX10 75 yX10_in wsX10_in) := goodIn_app (goodIn_r _ [3, 4, 5] rfl (by decide +kernel)) ggX10_keep_X10_in
set_option maxRecDepth 20000 in
theorem ggX10_back_X10_in : GoodIn wsX10_back wsX10_in := goodIn_r _ [6] rfl (by decide +kernel)
set_option maxRecDepth 20000 in
theorem gX10_back_X10_in : GoodIn wsX10_back (va_wsS RX10 75 yX10_in wsX10_in) := goodIn_app (goodIn_r _ [3, 4, 5] rfl (by decide +kernel)) ggX10_back_X10_in
