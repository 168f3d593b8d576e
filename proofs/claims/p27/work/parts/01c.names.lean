set_option maxRecDepth 20000 in
theorem ggX0_addClaim_X5_isIn : GoodIn wsX0_addClaim wsX5_isIn := goodIn_r _ [6] (by decide +kernel) (by decide +kernel)
set_option maxRecDepth 20000 in
theorem gX0_addClaim_X5_isIn_n22 : GoodIn wsX0_addClaim (wsX5_isIn) := ggX0_addClaim_X5_isIn
set_option maxRecDepth 20000 in
theorem ggX0_addClaim_X5_at : GoodIn wsX0_addClaim wsX5_at := goodIn_r _ [8] (by decide +kernel) (by decide +kernel)
set_option maxRecDepth 20000 in
theorem gX0_addClaim_X5_at_n26 : GoodIn wsX0_addClaim (wsX5_at) := ggX0_addClaim_X5_at
set_option maxRecDepth 20000 in
theorem ggX0_addClaim_X5_put : GoodIn wsX0_addClaim wsX5_put := goodIn_r _ [10] (by decide +kernel) (by decide +kernel)
set_option maxRecDepth 20000 in
theorem gX0_addClaim_X5_put_n30 : GoodIn wsX0_addClaim (wsX5_put) := ggX0_addClaim_X5_put
set_option maxRecDepth 20000 in
theorem ggX0_hangsOn_X5_at : GoodIn wsX0_hangsOn wsX5_at := goodIn_r _ [4] (by decide +kernel) (by decide +kernel)
set_option maxRecDepth 20000 in
theorem gX0_hangsOn_X5_at_n26 : GoodIn wsX0_hangsOn (wsX5_at) := ggX0_hangsOn_X5_at
set_option maxRecDepth 20000 in
theorem ggX0_isWithdrawn_X5_isIn : GoodIn wsX0_isWithdrawn wsX5_isIn := goodIn_r _ [4] (by decide +kernel) (by decide +kernel)
set_option maxRecDepth 20000 in
theorem gX0_isWithdrawn_X5_isIn_n22 : GoodIn wsX0_isWithdrawn (wsX5_isIn) := ggX0_isWithdrawn_X5_isIn
set_option maxRecDepth 20000 in
theorem ggX0_isStanding_X0_standingWithout : GoodIn wsX0_isStanding wsX0_standingWithout := goodIn_r _ [6, 7, 8, 9, 10, 11, 12, 13, 14, 15, 16, 17] (by decide +kernel) (by decide +kernel)
set_option maxRecDepth 20000 in
theorem gX0_isStanding_X0_standingWithout : GoodIn wsX0_isStanding (wsV RX0 37 RX0 yX0_standingWithout wsX0_standingWithout) := goodIn_app (goodIn_of _ (by decide +kernel)) ggX0_isStanding_X0_standingWithout
set_option maxRecDepth 20000 in
theorem ggX0_isStanding_X5_isIn : GoodIn wsX0_isStanding wsX5_isIn := goodIn_r _ [11] (by decide +kernel) (by decide +kernel)
set_option maxRecDepth 20000 in
theorem gX0_isStanding_X5_isIn_n22 : GoodIn wsX0_isStanding (wsX5_isIn) := ggX0_isStanding_X5_isIn
set_option maxRecDepth 20000 in
theorem ggX0_countStanding_X0_standingWithout : GoodIn wsX0_countStanding wsX0_standingWithout := goodIn_r _ [6, 7, 8, 9, 10, 11, 12, 13, 21, 22, 23, 24] (by decide +kernel) (by decide +kernel)
set_option maxRecDepth 20000 in
theorem gX0_countStanding_X0_standingWithout : GoodIn wsX0_countStanding (wsV RX0 37 RX0 yX0_standingWithout wsX0_standingWithout) := goodIn_app (goodIn_of _ (by decide +kernel)) ggX0_countStanding_X0_standingWithout
set_option maxRecDepth 20000 in
theorem ggX0_countStanding_J6_bitCount_0f7a4 : GoodIn wsX0_countStanding wsJ6_bitCount_0f7a4 := goodIn_r _ [17, 18, 19, 20] (by decide +kernel) (by decide +kernel)
set_option maxRecDepth 20000 in
theorem gX0_countStanding_J6_bitCount_0f7a4 : GoodIn wsX0_countStanding (va_wsS RX0 41 yJ6_bitCount_0f7a4 wsJ6_bitCount_0f7a4) := goodIn_app (goodIn_of _ (by decide +kernel)) ggX0_countStanding_J6_bitCount_0f7a4
set_option maxRecDepth 20000 in
theorem ggX0_fallingWith_X0_countStanding : GoodIn wsX0_fallingWith wsX0_countStanding := goodIn_r _ [6, 1, 7, 8, 9, 5, 10, 11, 12, 13, 14, 15, 16, 17, 18, 19, 20, 21, 22, 23, 24, 25, 26, 27, 28] (by decide +kernel) (by decide +kernel)
set_option maxRecDepth 20000 in
theorem gX0_fallingWith_X0_countStanding : GoodIn wsX0_fallingWith (wsV RX0 46 RX0 yX0_countStanding wsX0_countStanding) := goodIn_app (goodIn_of _ (by decide +kernel)) ggX0_fallingWith_X0_countStanding
set_option maxRecDepth 20000 in
theorem ggX0_fallingWith_X0_standingWithout : GoodIn wsX0_fallingWith wsX0_standingWithout := goodIn_r _ [10, 11, 12, 13, 14, 15, 16, 17, 25, 26, 27, 28] (by decide +kernel) (by decide +kernel)
set_option maxRecDepth 20000 in
theorem gX0_fallingWith_X0_standingWithout : GoodIn wsX0_fallingWith (wsV RX0 37 RX0 yX0_standingWithout wsX0_standingWithout) := goodIn_app (goodIn_of _ (by decide +kernel)) ggX0_fallingWith_X0_standingWithout
set_option maxRecDepth 20000 in
theorem ggX0_fallingWith_J6_bitCount_0f7a4 : GoodIn wsX0_fallingWith wsJ6_bitCount_0f7a4 := goodIn_r _ [21, 22, 23, 24] (by decide +kernel) (by decide +kernel)
set_option maxRecDepth 20000 in
theorem gX0_fallingWith_J6_bitCount_0f7a4 : GoodIn wsX0_fallingWith (va_wsS RX0 41 yJ6_bitCount_0f7a4 wsJ6_bitCount_0f7a4) := goodIn_app (goodIn_of _ (by decide +kernel)) ggX0_fallingWith_J6_bitCount_0f7a4
set_option maxRecDepth 20000 in
theorem ggX0_areConsistent_X0_standingWithout : GoodIn wsX0_areConsistent wsX0_standingWithout := goodIn_r _ [8, 2, 9, 10, 11, 12, 13, 14, 15, 16, 17, 18] (by decide +kernel) (by decide +kernel)
set_option maxRecDepth 20000 in
theorem gX0_areConsistent_X0_standingWithout : GoodIn wsX0_areConsistent (wsV RX0 37 RX0 yX0_standingWithout wsX0_standingWithout) := goodIn_app (goodIn_of _ (by decide +kernel)) ggX0_areConsistent_X0_standingWithout
set_option maxRecDepth 20000 in
theorem ggX0_areConsistent_X5_at : GoodIn wsX0_areConsistent wsX5_at := goodIn_r _ [14] (by decide +kernel) (by decide +kernel)
set_option maxRecDepth 20000 in
theorem gX0_areConsistent_X5_at_n26 : GoodIn wsX0_areConsistent (wsX5_at) := ggX0_areConsistent_X5_at
set_option maxRecDepth 20000 in
theorem ggX0_areConsistent_X5_isIn : GoodIn wsX0_areConsistent wsX5_isIn := goodIn_r _ [12] (by decide +kernel) (by decide +kernel)
set_option maxRecDepth 20000 in
theorem gX0_areConsistent_X5_isIn_n22 : GoodIn wsX0_areConsistent (wsX5_isIn) := ggX0_areConsistent_X5_isIn
set_option maxRecDepth 20000 in
theorem ggX0_standingWithout_X5_isIn : GoodIn wsX0_standingWithout wsX5_isIn := goodIn_r _ [5] (by decide +kernel) (by decide +kernel)
set_option maxRecDepth 20000 in
theorem gX0_standingWithout_X5_isIn_n22 : GoodIn wsX0_standingWithout (wsX5_isIn) := ggX0_standingWithout_X5_isIn
set_option maxRecDepth 20000 in
theorem ggX0_standingWithout_X5_at : GoodIn wsX0_standingWithout wsX5_at := goodIn_r _ [7] (by decide +kernel) (by decide +kernel)
set_option maxRecDepth 20000 in
theorem gX0_standingWithout_X5_at_n26 : GoodIn wsX0_standingWithout (wsX5_at) := ggX0_standingWithout_X5_at
set_option maxRecDepth 20000 in
theorem ggX1_init_X5_commonDivisor : GoodIn wsX1_init wsX5_commonDivisor := goodIn_r _ [8] (by decide +kernel) (by decide +kernel)
set_option maxRecDepth 20000 in
theorem gX1_init_X5_commonDivisor_n7 : GoodIn wsX1_init (wsX5_commonDivisor) := ggX1_init_X5_commonDivisor
set_option maxRecDepth 20000 in
theorem ggX1_times_X1_init : GoodIn wsX1_times wsX1_init := goodIn_r _ [8, 9, 10, 11, 4, 5, 12, 13, 14, 15, 16] (by decide +kernel) (by decide +kernel)
set_option maxRecDepth 20000 in
theorem gX1_times_X1_init : GoodIn wsX1_times (wsX1_init) := ggX1_times_X1_init
set_option maxRecDepth 20000 in
theorem ggX1_withoutWhole_J9_floorMod_f86c9 : GoodIn wsX1_withoutWhole wsJ9_floorMod_f86c9 := goodIn_r _ [9] (by decide +kernel) (by decide +kernel)
set_option maxRecDepth 20000 in
theorem gX1_withoutWhole_J9_floorMod_f86c9 : GoodIn wsX1_withoutWhole (va_wsS RX1 25 yJ9_floorMod_f86c9 wsJ9_floorMod_f86c9) := goodIn_app (goodIn_of _ (by decide +kernel)) ggX1_withoutWhole_J9_floorMod_f86c9
set_option maxRecDepth 20000 in
theorem ggX1_withoutWhole_X1_init : GoodIn wsX1_withoutWhole wsX1_init := goodIn_r _ [12, 13, 14, 15, 5, 1, 16, 17, 18, 19, 20] (by decide +kernel) (by decide +kernel)
set_option maxRecDepth 20000 in
theorem gX1_withoutWhole_X1_init : GoodIn wsX1_withoutWhole (wsX1_init) := ggX1_withoutWhole_X1_init
set_option maxRecDepth 20000 in
theorem ggX2_init_X1_init : GoodIn wsX2_init wsX1_init := goodIn_r _ [17, 18, 2, 3, 19, 20, 21, 22, 23, 71, 72] (by decide +kernel) (by decide +kernel)
set_option maxRecDepth 20000 in
theorem gX2_init_X1_init : GoodIn wsX2_init (wsX1_init) := ggX2_init_X1_init
set_option maxRecDepth 20000 in
theorem ggX2_init_X2_spreadRates : GoodIn wsX2_init wsX2_spreadRates := goodIn_r _ [28, 11, 29, 30, 31, 32, 27, 33, 7, 34, 22, 35, 36, 37, 38, 39, 40, 41, 42, 43, 5, 44, 45, 46, 47, 48, 49, 50, 51, 52, 53, 54, 55, 56, 6, 57, 58, 59, 10, 60, 61, 9, 19, 20, 62, 16, 17, 18, 2, 3, 21, 23, 63, 64, 65, 66, 67, 68, 69, 70, 71, 72] (by decide +kernel) (by decide +kernel)
set_option maxRecDepth 20000 in
theorem gX2_init_X2_spreadRates : GoodIn wsX2_init (wsV RX2 40 RX2 yX2_spreadRates wsX2_spreadRates) := goodIn_app (goodIn_of _ (by decide +kernel)) ggX2_init_X2_spreadRates
set_option maxRecDepth 20000 in
theorem ggX2_addWheel_X5_put : GoodIn wsX2_addWheel wsX5_put := goodIn_r _ [6] (by decide +kernel) (by decide +kernel)
set_option maxRecDepth 20000 in
theorem gX2_addWheel_X5_put_n48 : GoodIn wsX2_addWheel (wsX5_put) := ggX2_addWheel_X5_put
set_option maxRecDepth 20000 in
theorem ggX2_axleOf_X5_at : GoodIn wsX2_axleOf wsX5_at := goodIn_r _ [4] (by decide +kernel) (by decide +kernel)
set_option maxRecDepth 20000 in
theorem gX2_axleOf_X5_at_n52 : GoodIn wsX2_axleOf (wsX5_at) := ggX2_axleOf_X5_at
set_option maxRecDepth 20000 in
theorem ggX2_teethOf_X5_at : GoodIn wsX2_teethOf wsX5_at := goodIn_r _ [4] (by decide +kernel) (by decide +kernel)
set_option maxRecDepth 20000 in
theorem gX2_teethOf_X5_at_n52 : GoodIn wsX2_teethOf (wsX5_at) := ggX2_teethOf_X5_at
set_option maxRecDepth 20000 in
theorem ggX2_meshedWith_X5_at : GoodIn wsX2_meshedWith wsX5_at := goodIn_r _ [4] (by decide +kernel) (by decide +kernel)
set_option maxRecDepth 20000 in
theorem gX2_meshedWith_X5_at_n52 : GoodIn wsX2_meshedWith (wsX5_at) := ggX2_meshedWith_X5_at
set_option maxRecDepth 20000 in
theorem ggX2_areOnOneAxle_X2_axleOf : GoodIn wsX2_areOnOneAxle wsX2_axleOf := goodIn_r _ [5, 6, 7, 8, 9, 10, 11, 12, 13, 14, 15, 16, 17] (by decide +kernel) (by decide +kernel)
set_option maxRecDepth 20000 in
theorem gX2_areOnOneAxle_X2_axleOf : GoodIn wsX2_areOnOneAxle (wsV RX2 56 RX2 yX2_axleOf wsX2_axleOf) := goodIn_app (goodIn_of _ (by decide +kernel)) ggX2_areOnOneAxle_X2_axleOf
set_option maxRecDepth 20000 in
theorem ggX2_areMeshed_X2_meshedWith : GoodIn wsX2_areMeshed wsX2_meshedWith := goodIn_r _ [5, 6, 7, 8, 9, 12, 13, 14, 15, 16, 17, 18, 19] (by decide +kernel) (by decide +kernel)
set_option maxRecDepth 20000 in
theorem gX2_areMeshed_X2_meshedWith : GoodIn wsX2_areMeshed (wsV RX2 60 RX2 yX2_meshedWith wsX2_meshedWith) := goodIn_app (goodIn_of _ (by decide +kernel)) ggX2_areMeshed_X2_meshedWith
set_option maxRecDepth 20000 in
theorem ggX2_areMeshed_X5_isIn : GoodIn wsX2_areMeshed wsX5_isIn := goodIn_r _ [11] (by decide +kernel) (by decide +kernel)
set_option maxRecDepth 20000 in
theorem gX2_areMeshed_X5_isIn_n63 : GoodIn wsX2_areMeshed (wsX5_isIn) := ggX2_areMeshed_X5_isIn
set_option maxRecDepth 20000 in
theorem ggX2_join_X2_meshedWith : GoodIn wsX2_join wsX2_meshedWith := goodIn_r _ [7, 1, 8, 9, 10, 59, 60, 61, 62, 63, 64, 65, 66] (by decide +kernel) (by decide +kernel)
set_option maxRecDepth 20000 in
theorem gX2_join_X2_meshedWith : GoodIn wsX2_join (wsV RX2 60 RX2 yX2_meshedWith wsX2_meshedWith) := goodIn_app (goodIn_of _ (by decide +kernel)) ggX2_join_X2_meshedWith
set_option maxRecDepth 20000 in
theorem ggX2_join_X5_put : GoodIn wsX2_join wsX5_put := goodIn_r _ [12] (by decide +kernel) (by decide +kernel)
set_option maxRecDepth 20000 in
theorem gX2_join_X5_put_n48 : GoodIn wsX2_join (wsX5_put) := ggX2_join_X5_put
set_option maxRecDepth 20000 in
theorem ggX2_join_X2_spreadRates : GoodIn wsX2_join wsX2_spreadRates := goodIn_r _ [16, 17, 18, 3, 4, 5, 6, 7, 1, 8, 9, 10, 19, 20, 21, 22, 23, 24, 25, 26, 27, 28, 29, 30, 31, 32, 33, 34, 35, 36, 37, 38, 39, 40, 41, 42, 43, 44, 45, 46, 47, 48, 49, 50, 51, 52, 53, 54, 55, 56, 57, 58, 59, 60, 61, 62, 63, 64, 65, 66, 67, 68] (by decide +kernel) (by decide +kernel)
set_option maxRecDepth 20000 in
theorem gX2_join_X2_spreadRates : GoodIn wsX2_join (wsV RX2 40 RX2 yX2_spreadRates wsX2_spreadRates) := goodIn_app (goodIn_of _ (by decide +kernel)) ggX2_join_X2_spreadRates
set_option maxRecDepth 20000 in
theorem ggX2_separate_X2_meshedWith : GoodIn wsX2_separate wsX2_meshedWith := goodIn_r _ [7, 1, 8, 9, 10, 59, 60, 61, 62, 63, 64, 65, 66] (by decide +kernel) (by decide +kernel)
set_option maxRecDepth 20000 in
theorem gX2_separate_X2_meshedWith : GoodIn wsX2_separate (wsV RX2 60 RX2 yX2_meshedWith wsX2_meshedWith) := goodIn_app (goodIn_of _ (by decide +kernel)) ggX2_separate_X2_meshedWith
set_option maxRecDepth 20000 in
theorem ggX2_separate_X5_put : GoodIn wsX2_separate wsX5_put := goodIn_r _ [12] (by decide +kernel) (by decide +kernel)
set_option maxRecDepth 20000 in
theorem gX2_separate_X5_put_n48 : GoodIn wsX2_separate (wsX5_put) := ggX2_separate_X5_put
set_option maxRecDepth 20000 in
theorem ggX2_separate_X2_spreadRates : GoodIn wsX2_separate wsX2_spreadRates := goodIn_r _ [16, 17, 18, 3, 4, 5, 6, 7, 1, 8, 9, 10, 19, 20, 21, 22, 23, 24, 25, 26, 27, 28, 29, 30, 31, 32, 33, 34, 35, 36, 37, 38, 39, 40, 41, 42, 43, 44, 45, 46, 47, 48, 49, 50, 51, 52, 53, 54, 55, 56, 57, 58, 59, 60, 61, 62, 63, 64, 65, 66, 67, 68] (by decide +kernel) (by decide +kernel)
set_option maxRecDepth 20000 in
theorem gX2_separate_X2_spreadRates : GoodIn wsX2_separate (wsV RX2 40 RX2 yX2_spreadRates wsX2_spreadRates) := goodIn_app (goodIn_of _ (by decide +kernel)) ggX2_separate_X2_spreadRates
set_option maxRecDepth 20000 in
theorem ggX2_wouldJam_X2_axleOf : GoodIn wsX2_wouldJam wsX2_axleOf := goodIn_r _ [9, 10, 11, 12, 13, 63, 64, 65, 66, 67, 68, 69, 70] (by decide +kernel) (by decide +kernel)
set_option maxRecDepth 20000 in
theorem gX2_wouldJam_X2_axleOf : GoodIn wsX2_wouldJam (wsV RX2 56 RX2 yX2_axleOf wsX2_axleOf) := goodIn_app (goodIn_of _ (by decide +kernel)) ggX2_wouldJam_X2_axleOf
set_option maxRecDepth 20000 in
theorem ggX2_wouldJam_X2_spreadRates : GoodIn wsX2_wouldJam wsX2_spreadRates := goodIn_r _ [17, 18, 19, 20, 21, 22, 8, 23, 24, 11, 12, 13, 25, 26, 27, 28, 5, 6, 7, 9, 10, 29, 30, 31, 32, 33, 34, 35, 36, 37, 38, 39, 40, 41, 42, 43, 44, 45, 4, 46, 47, 3, 48, 49, 50, 51, 52, 53, 54, 55, 56, 57, 63, 64, 65, 66, 67, 68, 69, 70, 71, 72] (by decide +kernel) (by decide +kernel)
set_option maxRecDepth 20000 in
theorem gX2_wouldJam_X2_spreadRates : GoodIn wsX2_wouldJam (wsV RX2 40 RX2 yX2_spreadRates wsX2_spreadRates) := goodIn_app (goodIn_of _ (by decide +kernel)) ggX2_wouldJam_X2_spreadRates
set_option maxRecDepth 20000 in
theorem ggX2_wouldJam_X2_rateIn : GoodIn wsX2_wouldJam wsX2_rateIn := goodIn_r _ [31] (by decide +kernel) (by decide +kernel)
set_option maxRecDepth 20000 in
theorem gX2_wouldJam_X2_rateIn : GoodIn wsX2_wouldJam (va_wsS RX2 67 yX2_rateIn wsX2_rateIn) := goodIn_app (goodIn_of _ (by decide +kernel)) ggX2_wouldJam_X2_rateIn
set_option maxRecDepth 20000 in
theorem ggX2_wouldJam_X2_teethOf : GoodIn wsX2_wouldJam wsX2_teethOf := goodIn_r _ [41, 42, 11, 12, 13, 63, 64, 65, 66, 67, 68, 69, 70] (by decide +kernel) (by decide +kernel)
set_option maxRecDepth 20000 in
theorem gX2_wouldJam_X2_teethOf : GoodIn wsX2_wouldJam (wsV RX2 71 RX2 yX2_teethOf wsX2_teethOf) := goodIn_app (goodIn_of _ (by decide +kernel)) ggX2_wouldJam_X2_teethOf
set_option maxRecDepth 20000 in
theorem ggX2_wouldJam_X1_init : GoodIn wsX2_wouldJam wsX1_init := goodIn_r _ [52, 53, 54, 55, 48, 49, 56, 12, 57, 71, 72] (by decide +kernel) (by decide +kernel)
set_option maxRecDepth 20000 in
theorem gX2_wouldJam_X1_init : GoodIn wsX2_wouldJam (wsX1_init) := ggX2_wouldJam_X1_init
set_option maxRecDepth 20000 in
theorem ggX2_wouldJam_X1_isSameAs : GoodIn wsX2_wouldJam wsX1_isSameAs := goodIn_r _ [62, 48, 49, 71, 72] (by decide +kernel) (by decide +kernel)
set_option maxRecDepth 20000 in
theorem gX2_wouldJam_X1_isSameAs : GoodIn wsX2_wouldJam (wsV RX2 74 RX1 yX1_isSameAs wsX1_isSameAs) := goodIn_app (goodIn_of _ (by decide +kernel)) ggX2_wouldJam_X1_isSameAs
set_option maxRecDepth 20000 in
theorem ggX2_isMoved_X2_rateIn : GoodIn wsX2_isMoved wsX2_rateIn := goodIn_r _ [5] (by decide +kernel) (by decide +kernel)
set_option maxRecDepth 20000 in
theorem gX2_isMoved_X2_rateIn : GoodIn wsX2_isMoved (va_wsS RX2 67 yX2_rateIn wsX2_rateIn) := goodIn_app (goodIn_of _ (by decide +kernel)) ggX2_isMoved_X2_rateIn
set_option maxRecDepth 20000 in
theorem ggX2_rateOf_X2_rateIn : GoodIn wsX2_rateOf wsX2_rateIn := goodIn_r _ [6] (by decide +kernel) (by decide +kernel)
set_option maxRecDepth 20000 in
theorem gX2_rateOf_X2_rateIn : GoodIn wsX2_rateOf (va_wsS RX2 67 yX2_rateIn wsX2_rateIn) := goodIn_app (goodIn_of _ (by decide +kernel)) ggX2_rateOf_X2_rateIn
set_option maxRecDepth 20000 in
theorem ggX2_turnedAt_X2_rateOf : GoodIn wsX2_turnedAt wsX2_rateOf := goodIn_r _ [5, 6, 7, 8, 9, 4, 10, 29, 30, 31, 32, 33, 34, 35, 36] (by decide +kernel) (by decide +kernel)
set_option maxRecDepth 20000 in
theorem gX2_turnedAt_X2_rateOf : GoodIn wsX2_turnedAt (wsV RX2 78 RX2 yX2_rateOf wsX2_rateOf) := goodIn_app (goodIn_of _ (by decide +kernel)) ggX2_turnedAt_X2_rateOf
set_option maxRecDepth 20000 in
theorem ggX2_turnedAt_X1_times : GoodIn wsX2_turnedAt wsX1_times := goodIn_r _ [15, 16, 17, 14, 18, 19, 20, 21, 22, 23, 24, 25, 26, 27, 28, 37, 38] (by decide +kernel) (by decide +kernel)
set_option maxRecDepth 20000 in
theorem gX2_turnedAt_X1_times : GoodIn wsX2_turnedAt (wsV RX2 82 RX1 yX1_times wsX1_times) := goodIn_app (goodIn_of _ (by decide +kernel)) ggX2_turnedAt_X1_times
set_option maxRecDepth 20000 in
theorem ggX2_countMeshes_X2_meshedWith : GoodIn wsX2_countMeshes wsX2_meshedWith := goodIn_r _ [6, 7, 8, 9, 10, 18, 19, 20, 21, 22, 23, 24, 25] (by decide +kernel) (by decide +kernel)
set_option maxRecDepth 20000 in
theorem gX2_countMeshes_X2_meshedWith : GoodIn wsX2_countMeshes (wsV RX2 60 RX2 yX2_meshedWith wsX2_meshedWith) := goodIn_app (goodIn_of _ (by decide +kernel)) ggX2_countMeshes_X2_meshedWith
set_option maxRecDepth 20000 in
theorem ggX2_countMeshes_J6_bitCount_0f7a4 : GoodIn wsX2_countMeshes wsJ6_bitCount_0f7a4 := goodIn_r _ [14, 15, 16, 17] (by decide +kernel) (by decide +kernel)
set_option maxRecDepth 20000 in
theorem gX2_countMeshes_J6_bitCount_0f7a4 : GoodIn wsX2_countMeshes (va_wsS RX2 86 yJ6_bitCount_0f7a4 wsJ6_bitCount_0f7a4) := goodIn_app (goodIn_of _ (by decide +kernel)) ggX2_countMeshes_J6_bitCount_0f7a4
set_option maxRecDepth 20000 in
theorem ggX2_countMoved_X2_isMoved : GoodIn wsX2_countMoved wsX2_isMoved := goodIn_r _ [5, 6, 7, 8, 4, 9, 10, 11, 12, 13, 14, 15, 16, 17] (by decide +kernel) (by decide +kernel)
set_option maxRecDepth 20000 in
theorem gX2_countMoved_X2_isMoved : GoodIn wsX2_countMoved (wsV RX2 91 RX2 yX2_isMoved wsX2_isMoved) := goodIn_app (goodIn_of _ (by decide +kernel)) ggX2_countMoved_X2_isMoved
set_option maxRecDepth 20000 in
theorem ggX2_turnsToReturn_X2_rateOf : GoodIn wsX2_turnsToReturn wsX2_rateOf := goodIn_r _ [6, 7, 8, 9, 10, 5, 11, 17, 18, 19, 20, 21, 22, 23, 24] (by decide +kernel) (by decide +kernel)
set_option maxRecDepth 20000 in
theorem gX2_turnsToReturn_X2_rateOf : GoodIn wsX2_turnsToReturn (wsV RX2 78 RX2 yX2_rateOf wsX2_rateOf) := goodIn_app (goodIn_of _ (by decide +kernel)) ggX2_turnsToReturn_X2_rateOf
set_option maxRecDepth 20000 in
theorem ggX2_turnsToReturn_X5_commonDivisor : GoodIn wsX2_turnsToReturn wsX5_commonDivisor := goodIn_r _ [14] (by decide +kernel) (by decide +kernel)
set_option maxRecDepth 20000 in
theorem gX2_turnsToReturn_X5_commonDivisor_n99 : GoodIn wsX2_turnsToReturn (wsX5_commonDivisor) := ggX2_turnsToReturn_X5_commonDivisor
set_option maxRecDepth 20000 in
theorem ggX2_isPeriodRight_X2_turnsToReturn : GoodIn wsX2_isPeriodRight wsX2_turnsToReturn := goodIn_r _ [6, 1, 7, 8, 9, 5, 10, 11, 12, 13, 14, 15, 16, 17, 18, 19, 20, 21, 22, 23, 24, 25, 26, 27, 28] (by decide +kernel) (by decide +kernel)
set_option maxRecDepth 20000 in
theorem gX2_isPeriodRight_X2_turnsToReturn : GoodIn wsX2_isPeriodRight (wsV RX2 103 RX2 yX2_turnsToReturn wsX2_turnsToReturn) := goodIn_app (goodIn_of _ (by decide +kernel)) ggX2_isPeriodRight_X2_turnsToReturn
set_option maxRecDepth 20000 in
theorem ggX2_isPeriodRight_X2_rateOf : GoodIn wsX2_isPeriodRight wsX2_rateOf := goodIn_r _ [10, 11, 12, 13, 14, 5, 15, 21, 22, 23, 24, 25, 26, 27, 28] (by decide +kernel) (by decide +kernel)
set_option maxRecDepth 20000 in
theorem gX2_isPeriodRight_X2_rateOf : GoodIn wsX2_isPeriodRight (wsV RX2 78 RX2 yX2_rateOf wsX2_rateOf) := goodIn_app (goodIn_of _ (by decide +kernel)) ggX2_isPeriodRight_X2_rateOf
set_option maxRecDepth 20000 in
theorem ggX2_spreadRates_X2_meshedWith : GoodIn wsX2_spreadRates wsX2_meshedWith := goodIn_r _ [7, 8, 9, 10, 11, 52, 53, 54, 55, 56, 57, 58, 59] (by decide +kernel) (by decide +kernel)
set_option maxRecDepth 20000 in
theorem gX2_spreadRates_X2_meshedWith : GoodIn wsX2_spreadRates (wsV RX2 60 RX2 yX2_meshedWith wsX2_meshedWith) := goodIn_app (goodIn_of _ (by decide +kernel)) ggX2_spreadRates_X2_meshedWith
set_option maxRecDepth 20000 in
theorem ggX2_spreadRates_X2_spreadFromWheel : GoodIn wsX2_spreadRates wsX2_spreadFromWheel := goodIn_r _ [15, 2, 16, 17, 18, 6, 19, 20, 9, 10, 11, 21, 22, 23, 24, 25, 26, 27, 3, 4, 5, 7, 8, 28, 29, 30, 31, 32, 33, 34, 35, 36, 37, 38, 39, 40, 41, 42, 43, 44, 45, 46, 47, 48, 49, 50, 51, 52, 53, 54, 55, 56, 57, 58, 59, 60, 61] (by decide +kernel) (by decide +kernel)
set_option maxRecDepth 20000 in
theorem gX2_spreadRates_X2_spreadFromWheel : GoodIn wsX2_spreadRates (wsV RX2 107 RX2 yX2_spreadFromWheel wsX2_spreadFromWheel) := goodIn_app (goodIn_of _ (by decide +kernel)) ggX2_spreadRates_X2_spreadFromWheel
set_option maxRecDepth 20000 in
theorem ggX2_spreadFromWheel_X2_axleOf : GoodIn wsX2_spreadFromWheel wsX2_axleOf := goodIn_r _ [6, 7, 8, 9, 10, 47, 48, 49, 50, 51, 52, 53, 54] (by decide +kernel) (by decide +kernel)
set_option maxRecDepth 20000 in
theorem gX2_spreadFromWheel_X2_axleOf : GoodIn wsX2_spreadFromWheel (wsV RX2 56 RX2 yX2_axleOf wsX2_axleOf) := goodIn_app (goodIn_of _ (by decide +kernel)) ggX2_spreadFromWheel_X2_axleOf
set_option maxRecDepth 20000 in
theorem ggX2_spreadFromWheel_X2_rateIn : GoodIn wsX2_spreadFromWheel wsX2_rateIn := goodIn_r _ [13] (by decide +kernel) (by decide +kernel)
set_option maxRecDepth 20000 in
theorem gX2_spreadFromWheel_X2_rateIn : GoodIn wsX2_spreadFromWheel (va_wsS RX2 67 yX2_rateIn wsX2_rateIn) := goodIn_app (goodIn_of _ (by decide +kernel)) ggX2_spreadFromWheel_X2_rateIn
set_option maxRecDepth 20000 in
theorem ggX2_spreadFromWheel_X2_areMeshed : GoodIn wsX2_spreadFromWheel wsX2_areMeshed := goodIn_r _ [17, 18, 19, 20, 5, 21, 22, 8, 9, 10, 23, 24, 47, 48, 49, 50, 51, 52, 53, 54] (by decide +kernel) (by decide +kernel)
set_option maxRecDepth 20000 in
theorem gX2_spreadFromWheel_X2_areMeshed : GoodIn wsX2_spreadFromWheel (wsV RX2 111 RX2 yX2_areMeshed wsX2_areMeshed) := goodIn_app (goodIn_of _ (by decide +kernel)) ggX2_spreadFromWheel_X2_areMeshed
set_option maxRecDepth 20000 in
theorem ggX2_spreadFromWheel_X2_teethOf : GoodIn wsX2_spreadFromWheel wsX2_teethOf := goodIn_r _ [28, 29, 8, 9, 10, 47, 48, 49, 50, 51, 52, 53, 54] (by decide +kernel) (by decide +kernel)
set_option maxRecDepth 20000 in
theorem gX2_spreadFromWheel_X2_teethOf : GoodIn wsX2_spreadFromWheel (wsV RX2 71 RX2 yX2_teethOf wsX2_teethOf) := goodIn_app (goodIn_of _ (by decide +kernel)) ggX2_spreadFromWheel_X2_teethOf
set_option maxRecDepth 20000 in
theorem ggX2_spreadFromWheel_X1_times : GoodIn wsX2_spreadFromWheel wsX1_times := goodIn_r _ [34, 35, 36, 33, 37, 38, 39, 40, 41, 42, 43, 44, 45, 9, 46, 55, 56] (by decide +kernel) (by decide +kernel)
set_option maxRecDepth 20000 in
theorem gX2_spreadFromWheel_X1_times : GoodIn wsX2_spreadFromWheel (wsV RX2 82 RX1 yX1_times wsX1_times) := goodIn_app (goodIn_of _ (by decide +kernel)) ggX2_spreadFromWheel_X1_times
set_option maxRecDepth 20000 in
theorem ggX3_init_X3_weigh : GoodIn wsX3_init wsX3_weigh := goodIn_r _ [16, 9, 10, 11, 17, 18, 19, 15, 20, 7, 6, 21, 22, 23, 24, 8, 25, 26, 27, 28, 5, 29, 30, 31, 32, 33, 34, 35, 36, 37, 38, 39, 40] (by decide +kernel) (by decide +kernel)
set_option maxRecDepth 20000 in
theorem gX3_init_X3_weigh : GoodIn wsX3_init (wsV RX3 33 RX3 yX3_weigh wsX3_weigh) := goodIn_app (goodIn_of _ (by decide +kernel)) ggX3_init_X3_weigh
set_option maxRecDepth 20000 in
theorem ggX3_piecesOf_X5_at : GoodIn wsX3_piecesOf wsX5_at := goodIn_r _ [4] (by decide +kernel) (by decide +kernel)
set_option maxRecDepth 20000 in
theorem gX3_piecesOf_X5_at_n37 : GoodIn wsX3_piecesOf (wsX5_at) := ggX3_piecesOf_X5_at
set_option maxRecDepth 20000 in
theorem ggX3_agreeingOf_X5_at : GoodIn wsX3_agreeingOf wsX5_at := goodIn_r _ [4] (by decide +kernel) (by decide +kernel)
set_option maxRecDepth 20000 in
theorem gX3_agreeingOf_X5_at_n37 : GoodIn wsX3_agreeingOf (wsX5_at) := ggX3_agreeingOf_X5_at
set_option maxRecDepth 20000 in
theorem ggX3_leastOf_X5_at : GoodIn wsX3_leastOf wsX5_at := goodIn_r _ [4] (by decide +kernel) (by decide +kernel)
set_option maxRecDepth 20000 in
theorem gX3_leastOf_X5_at_n37 : GoodIn wsX3_leastOf (wsX5_at) := ggX3_leastOf_X5_at
set_option maxRecDepth 20000 in
theorem ggX3_greatestOf_X5_at : GoodIn wsX3_greatestOf wsX5_at := goodIn_r _ [4] (by decide +kernel) (by decide +kernel)
set_option maxRecDepth 20000 in
theorem gX3_greatestOf_X5_at_n37 : GoodIn wsX3_greatestOf (wsX5_at) := ggX3_greatestOf_X5_at
set_option maxRecDepth 20000 in
theorem ggX3_countPieces_X3_piecesOf : GoodIn wsX3_countPieces wsX3_piecesOf := goodIn_r _ [5, 6, 7, 8, 9, 10, 11, 12, 13, 14, 15, 16] (by decide +kernel) (by decide +kernel)
set_option maxRecDepth 20000 in
theorem gX3_countPieces_X3_piecesOf : GoodIn wsX3_countPieces (wsV RX3 41 RX3 yX3_piecesOf wsX3_piecesOf) := goodIn_app (goodIn_of _ (by decide +kernel)) ggX3_countPieces_X3_piecesOf
set_option maxRecDepth 20000 in
theorem ggX3_weigh_X3_agreesWithAll : GoodIn wsX3_weigh wsX3_agreesWithAll := goodIn_r _ [8, 9, 10, 11, 12, 13, 14, 15, 16, 17, 18, 7, 19, 20, 21, 22, 23, 26, 27, 28, 29, 30, 31, 32] (by decide +kernel) (by decide +kernel)
set_option maxRecDepth 20000 in
theorem gX3_weigh_X3_agreesWithAll : GoodIn wsX3_weigh (wsV RX3 49 RX3 yX3_agreesWithAll wsX3_agreesWithAll) := goodIn_app (goodIn_of _ (by decide +kernel)) ggX3_weigh_X3_agreesWithAll
set_option maxRecDepth 20000 in
theorem ggX3_weigh_X5_put : GoodIn wsX3_weigh wsX5_put := goodIn_r _ [25] (by decide +kernel) (by decide +kernel)
set_option maxRecDepth 20000 in
theorem gX3_weigh_X5_put_n45 : GoodIn wsX3_weigh (wsX5_put) := ggX3_weigh_X5_put
set_option maxRecDepth 20000 in
theorem ggX3_agreesWithAll_X3_piecesOf : GoodIn wsX3_agreesWithAll wsX3_piecesOf := goodIn_r _ [12, 13, 14, 15, 16, 17, 18, 19, 20, 21, 22, 23] (by decide +kernel) (by decide +kernel)
set_option maxRecDepth 20000 in
theorem gX3_agreesWithAll_X3_piecesOf : GoodIn wsX3_agreesWithAll (wsV RX3 41 RX3 yX3_piecesOf wsX3_piecesOf) := goodIn_app (goodIn_of _ (by decide +kernel)) ggX3_agreesWithAll_X3_piecesOf
set_option maxRecDepth 20000 in
theorem ggX3_agreesWithAll_X5_at : GoodIn wsX3_agreesWithAll wsX5_at := goodIn_r _ [16] (by decide +kernel) (by decide +kernel)
set_option maxRecDepth 20000 in
theorem gX3_agreesWithAll_X5_at_n37 : GoodIn wsX3_agreesWithAll (wsX5_at) := ggX3_agreesWithAll_X5_at
set_option maxRecDepth 20000 in
theorem ggX4_init_X4_forget : GoodIn wsX4_init wsX4_forget := goodIn_r _ [8, 9, 10, 11, 12, 13, 14, 15, 16, 17, 18] (by decide +kernel) (by decide +kernel)
set_option maxRecDepth 20000 in
theorem gX4_init_X4_forget : GoodIn wsX4_init (wsV RX4 9 RX4 yX4_forget wsX4_forget) := goodIn_app (goodIn_of _ (by decide +kernel)) ggX4_init_X4_forget
set_option maxRecDepth 20000 in
theorem ggX5_init_X2_init : GoodIn wsX5_init wsX2_init := goodIn_r _ [24, 25, 2, 3, 8, 26, 27, 28, 29, 30, 31, 32, 33, 34, 35, 36, 37, 38, 39, 40, 41, 42, 43, 44, 45, 46, 47, 6, 48, 49, 50, 51, 52, 53, 54, 55, 56, 57, 58, 59, 60, 61, 62, 63, 64, 65, 66, 67, 68, 69, 70, 71, 72, 73, 74, 75, 76, 77, 78, 79, 80, 81, 82, 131, 132, 133, 134, 135, 136, 137, 138, 163, 164] (by decide +kernel) (by decide +kernel)
set_option maxRecDepth 20000 in
theorem gX5_init_X2_init : GoodIn wsX5_init (wsX2_init) := ggX5_init_X2_init
set_option maxRecDepth 20000 in
theorem ggX5_init_X3_init : GoodIn wsX5_init wsX3_init := goodIn_r _ [85, 86, 2, 3, 8, 87, 88, 89, 90, 91, 92, 93, 94, 95, 96, 12, 97, 98, 99, 100, 101, 102, 103, 104, 105, 106, 107, 108, 109, 54, 43, 55, 110, 111, 147, 148, 149, 150, 151, 152, 153] (by decide +kernel) (by decide +kernel)
set_option maxRecDepth 20000 in
theorem gX5_init_X3_init : GoodIn wsX5_init (wsX3_init) := ggX5_init_X3_init
set_option maxRecDepth 20000 in
theorem ggX5_init_X0_init : GoodIn wsX5_init wsX0_init := goodIn_r _ [114, 115, 2, 3, 8, 116, 117, 154, 155, 156, 157] (by decide +kernel) (by decide +kernel)
set_option maxRecDepth 20000 in
theorem gX5_init_X0_init : GoodIn wsX5_init (wsX0_init) := ggX5_init_X0_init
set_option maxRecDepth 20000 in
theorem ggX5_init_X4_init : GoodIn wsX5_init wsX4_init := goodIn_r _ [120, 121, 2, 3, 122, 123, 124, 20, 125, 126, 127, 128, 129, 130, 158, 159, 160, 161, 162] (by decide +kernel) (by decide +kernel)
set_option maxRecDepth 20000 in
theorem gX5_init_X4_init : GoodIn wsX5_init (wsX4_init) := ggX5_init_X4_init
set_option maxRecDepth 20000 in
theorem ggX5_wheel_X5_demandAxle : GoodIn wsX5_wheel wsX5_demandAxle := goodIn_ca (goodIn_r _ [6, 7, 8, 5, 9, 10, 11, 12, 13, 14] (by decide +kernel) (by decide +kernel)) (goodIn_sub (fun _ h => List.mem_cons_of_mem _ (List.mem_append_left _ (List.mem_append_left _ (List.mem_append_right _ h)))) (by decide +kernel))
set_option maxRecDepth 20000 in
theorem gX5_wheel_X5_demandAxle : GoodIn wsX5_wheel (va_wsS RX5 41 yX5_demandAxle wsX5_demandAxle) := goodIn_app (goodIn_of _ (by decide +kernel)) ggX5_wheel_X5_demandAxle
set_option maxRecDepth 20000 in
theorem ggX5_wheel_X5_isWithin : GoodIn wsX5_wheel wsX5_isWithin := goodIn_r _ [9] (by decide +kernel) (by decide +kernel)
set_option maxRecDepth 20000 in
theorem gX5_wheel_X5_isWithin : GoodIn wsX5_wheel (va_wsS RX5 45 yX5_isWithin wsX5_isWithin) := goodIn_app (goodIn_of _ (by decide +kernel)) ggX5_wheel_X5_isWithin
set_option maxRecDepth 20000 in
theorem ggX5_wheel_X5_demandArgument : GoodIn wsX5_wheel wsX5_demandArgument := goodIn_ca (goodIn_r _ [17, 18, 19] (by decide +kernel) (by decide +kernel)) (goodIn_sub (fun _ h => List.mem_cons_of_mem _ (List.mem_append_left _ (List.mem_append_right _ h))) (by decide +kernel))
set_option maxRecDepth 20000 in
theorem gX5_wheel_X5_demandArgument : GoodIn wsX5_wheel (va_wsS RX5 49 yX5_demandArgument wsX5_demandArgument) := goodIn_app (goodIn_of _ (by decide +kernel)) ggX5_wheel_X5_demandArgument
set_option maxRecDepth 20000 in
theorem ggX5_wheel_X5_demandState : GoodIn wsX5_wheel wsX5_demandState := goodIn_ca (goodIn_r _ [22, 23, 24] (by decide +kernel) (by decide +kernel)) (goodIn_sub (fun _ h => List.mem_cons_of_mem _ (List.mem_append_right _ h)) (by decide +kernel))
set_option maxRecDepth 20000 in
theorem gX5_wheel_X5_demandState : GoodIn wsX5_wheel (va_wsS RX5 57 yX5_demandState wsX5_demandState) := goodIn_app (goodIn_of _ (by decide +kernel)) ggX5_wheel_X5_demandState
set_option maxRecDepth 20000 in
theorem ggX5_wheel_X2_addWheel : GoodIn wsX5_wheel wsX2_addWheel := goodIn_r _ [29, 30, 31, 32, 33, 5, 34, 43, 44, 45, 46, 47, 48, 49, 50] (by decide +kernel) (by decide +kernel)
set_option maxRecDepth 20000 in
theorem gX5_wheel_X2_addWheel : GoodIn wsX5_wheel (wsV RX5 60 RX2 yX2_addWheel wsX2_addWheel) := goodIn_app (goodIn_of _ (by decide +kernel)) ggX5_wheel_X2_addWheel
set_option maxRecDepth 20000 in
theorem ggX5_mesh_X5_demandWheel : GoodIn wsX5_mesh wsX5_demandWheel := goodIn_ca (goodIn_r _ [7, 1, 8, 9, 10, 6, 11, 12, 13, 14, 15, 16, 98, 99, 100, 101, 102, 103, 104, 105, 106, 107, 108, 109, 110, 111, 112, 113] (by decide +kernel) (by decide +kernel)) (goodIn_sub (fun _ h => List.mem_cons_of_mem _ (List.mem_append_left _ (List.mem_append_right _ h))) (by decide +kernel))
set_option maxRecDepth 20000 in
theorem gX5_mesh_X5_demandWheel : GoodIn wsX5_mesh (wsV RX5 64 RX5 yX5_demandWheel wsX5_demandWheel) := goodIn_app (goodIn_of _ (by decide +kernel)) ggX5_mesh_X5_demandWheel
set_option maxRecDepth 20000 in
theorem ggX5_mesh_X2_areOnOneAxle : GoodIn wsX5_mesh wsX2_areOnOneAxle := goodIn_r _ [21, 22, 23, 24, 20, 25, 26, 27, 6, 28, 106, 107, 108, 109, 110, 111, 112, 113] (by decide +kernel) (by decide +kernel)
set_option maxRecDepth 20000 in
theorem gX5_mesh_X2_areOnOneAxle : GoodIn wsX5_mesh (wsV RX5 67 RX2 yX2_areOnOneAxle wsX2_areOnOneAxle) := goodIn_app (goodIn_of _ (by decide +kernel)) ggX5_mesh_X2_areOnOneAxle
set_option maxRecDepth 20000 in
theorem ggX5_mesh_X5_demandArgument : GoodIn wsX5_mesh wsX5_demandArgument := goodIn_ca (goodIn_r _ [31, 32, 33] (by decide +kernel) (by decide +kernel)) (goodIn_sub (fun _ h => List.mem_cons_of_mem _ (List.mem_append_right _ h)) (by decide +kernel))
set_option maxRecDepth 20000 in
theorem gX5_mesh_X5_demandArgument : GoodIn wsX5_mesh (va_wsS RX5 49 yX5_demandArgument wsX5_demandArgument) := goodIn_app (goodIn_of _ (by decide +kernel)) ggX5_mesh_X5_demandArgument
set_option maxRecDepth 20000 in
theorem ggX5_mesh_X2_wouldJam : GoodIn wsX5_mesh wsX2_wouldJam := goodIn_r _ [37, 38, 39, 40, 41, 22, 23, 24, 20, 25, 26, 27, 6, 28, 42, 43, 44, 45, 46, 47, 48, 49, 50, 51, 52, 53, 54, 55, 56, 57, 58, 59, 60, 61, 62, 63, 64, 65, 66, 67, 68, 69, 70, 71, 72, 73, 74, 75, 76, 77, 78, 79, 80, 81, 82, 83, 84, 85, 86, 87, 88, 89, 90, 106, 107, 108, 109, 110, 111, 112, 113, 114, 115] (by decide +kernel) (by decide +kernel)
set_option maxRecDepth 20000 in
theorem gX5_mesh_X2_wouldJam : GoodIn wsX5_mesh (wsV RX5 71 RX2 yX2_wouldJam wsX2_wouldJam) := goodIn_app (goodIn_of _ (by decide +kernel)) ggX5_mesh_X2_wouldJam
set_option maxRecDepth 20000 in
theorem ggX5_mesh_X2_join : GoodIn wsX5_mesh wsX2_join := goodIn_r _ [94, 52, 95, 48, 49, 50, 20, 51, 27, 6, 28, 96, 97, 42, 43, 44, 45, 46, 47, 53, 54, 55, 56, 22, 23, 24, 25, 26, 57, 58, 59, 60, 61, 62, 63, 64, 65, 66, 67, 68, 69, 70, 71, 72, 73, 41, 74, 75, 40, 76, 77, 78, 79, 80, 81, 82, 83, 84, 85, 106, 107, 108, 109, 110, 111, 112, 113, 114, 115] (by decide +kernel) (by decide +kernel)
set_option maxRecDepth 20000 in
theorem gX5_mesh_X2_join : GoodIn wsX5_mesh (wsV RX5 77 RX2 yX2_join wsX2_join) := goodIn_app (goodIn_of _ (by decide +kernel)) ggX5_mesh_X2_join
set_option maxRecDepth 20000 in
theorem ggX5_part_X5_demandWheel : GoodIn wsX5_part wsX5_demandWheel := goodIn_ca (goodIn_r _ [6, 1, 7, 8, 9, 5, 10, 11, 12, 13, 14, 15, 78, 79, 80, 81, 82, 83, 84, 85, 86, 87, 88, 89, 90, 91, 92, 93] (by decide +kernel) (by decide +kernel)) (goodIn_sub (fun _ h => List.mem_cons_of_mem _ (List.mem_append_right _ h)) (by decide +kernel))
set_option maxRecDepth 20000 in
theorem gX5_part_X5_demandWheel : GoodIn wsX5_part (wsV RX5 64 RX5 yX5_demandWheel wsX5_demandWheel) := goodIn_app (goodIn_of _ (by decide +kernel)) ggX5_part_X5_demandWheel
set_option maxRecDepth 20000 in
theorem ggX5_part_X2_areMeshed : GoodIn wsX5_part wsX2_areMeshed := goodIn_r _ [20, 21, 22, 23, 19, 24, 25, 26, 5, 27, 28, 29, 86, 87, 88, 89, 90, 91, 92, 93] (by decide +kernel) (by decide +kernel)
set_option maxRecDepth 20000 in
theorem gX5_part_X2_areMeshed : GoodIn wsX5_part (wsV RX5 81 RX2 yX2_areMeshed wsX2_areMeshed) := goodIn_app (goodIn_of _ (by decide +kernel)) ggX5_part_X2_areMeshed
set_option maxRecDepth 20000 in
theorem ggX5_part_X2_separate : GoodIn wsX5_part wsX2_separate := goodIn_r _ [33, 25, 34, 21, 22, 23, 19, 24, 26, 5, 27, 35, 36, 37, 38, 39, 40, 41, 42, 43, 44, 45, 46, 47, 48, 49, 50, 51, 52, 53, 54, 55, 17, 18, 20, 28, 29, 56, 57, 58, 59, 60, 61, 62, 63, 64, 65, 66, 67, 68, 69, 70, 71, 72, 73, 74, 75, 76, 77, 86, 87, 88, 89, 90, 91, 92, 93, 94, 95] (by decide +kernel) (by decide +kernel)
set_option maxRecDepth 20000 in
theorem gX5_part_X2_separate : GoodIn wsX5_part (wsV RX5 84 RX2 yX2_separate wsX2_separate) := goodIn_app (goodIn_of _ (by decide +kernel)) ggX5_part_X2_separate
set_option maxRecDepth 20000 in
theorem ggX5_turn_X5_isWithin : GoodIn wsX5_turn wsX5_isWithin := goodIn_r _ [5] (by decide +kernel) (by decide +kernel)
set_option maxRecDepth 20000 in
theorem gX5_turn_X5_isWithin : GoodIn wsX5_turn (va_wsS RX5 45 yX5_isWithin wsX5_isWithin) := goodIn_app (goodIn_of _ (by decide +kernel)) ggX5_turn_X5_isWithin
set_option maxRecDepth 20000 in
theorem ggX5_turn_X5_demandArgument : GoodIn wsX5_turn wsX5_demandArgument := goodIn_ca (goodIn_r _ [8, 9, 10] (by decide +kernel) (by decide +kernel)) (goodIn_sub (fun _ h => List.mem_cons_of_mem _ (List.mem_append_left _ (List.mem_append_right _ h))) (by decide +kernel))
set_option maxRecDepth 20000 in
theorem gX5_turn_X5_demandArgument : GoodIn wsX5_turn (va_wsS RX5 49 yX5_demandArgument wsX5_demandArgument) := goodIn_app (goodIn_of _ (by decide +kernel)) ggX5_turn_X5_demandArgument
set_option maxRecDepth 20000 in
theorem ggX5_turn_X5_demandState : GoodIn wsX5_turn wsX5_demandState := goodIn_ca (goodIn_r _ [13, 14, 15] (by decide +kernel) (by decide +kernel)) (goodIn_sub (fun _ h => List.mem_cons_of_mem _ (List.mem_append_right _ h)) (by decide +kernel))
set_option maxRecDepth 20000 in
theorem gX5_turn_X5_demandState : GoodIn wsX5_turn (va_wsS RX5 57 yX5_demandState wsX5_demandState) := goodIn_app (goodIn_of _ (by decide +kernel)) ggX5_turn_X5_demandState
set_option maxRecDepth 20000 in
theorem ggX5_dial_X5_demandAxle : GoodIn wsX5_dial wsX5_demandAxle := goodIn_ca (goodIn_r _ [5, 6, 7, 4, 8, 9, 10, 11, 12, 13] (by decide +kernel) (by decide +kernel)) (goodIn_sub (fun _ h => List.mem_cons_of_mem _ (List.mem_append_left _ (List.mem_append_right _ h))) (by decide +kernel))
set_option maxRecDepth 20000 in
theorem gX5_dial_X5_demandAxle : GoodIn wsX5_dial (va_wsS RX5 41 yX5_demandAxle wsX5_demandAxle) := goodIn_app (goodIn_of _ (by decide +kernel)) ggX5_dial_X5_demandAxle
set_option maxRecDepth 20000 in
theorem ggX5_dial_X5_isWithin : GoodIn wsX5_dial wsX5_isWithin := goodIn_r _ [8] (by decide +kernel) (by decide +kernel)
set_option maxRecDepth 20000 in
theorem gX5_dial_X5_isWithin : GoodIn wsX5_dial (va_wsS RX5 45 yX5_isWithin wsX5_isWithin) := goodIn_app (goodIn_of _ (by decide +kernel)) ggX5_dial_X5_isWithin
set_option maxRecDepth 20000 in
theorem ggX5_dial_X5_demandArgument : GoodIn wsX5_dial wsX5_demandArgument := goodIn_ca (goodIn_r _ [16, 17, 18] (by decide +kernel) (by decide +kernel)) (goodIn_sub (fun _ h => List.mem_cons_of_mem _ (List.mem_append_right _ h)) (by decide +kernel))
set_option maxRecDepth 20000 in
theorem gX5_dial_X5_demandArgument : GoodIn wsX5_dial (va_wsS RX5 49 yX5_demandArgument wsX5_demandArgument) := goodIn_app (goodIn_of _ (by decide +kernel)) ggX5_dial_X5_demandArgument
set_option maxRecDepth 20000 in
theorem ggX5_dial_X5_at : GoodIn wsX5_dial wsX5_at := goodIn_r _ [21] (by decide +kernel) (by decide +kernel)
set_option maxRecDepth 20000 in
theorem gX5_dial_X5_at : GoodIn wsX5_dial (va_wsS RX5 90 yX5_at wsX5_at) := goodIn_app (goodIn_of _ (by decide +kernel)) ggX5_dial_X5_at
set_option maxRecDepth 20000 in
theorem ggX5_dial_X5_put : GoodIn wsX5_dial wsX5_put := goodIn_r _ [24] (by decide +kernel) (by decide +kernel)
set_option maxRecDepth 20000 in
theorem gX5_dial_X5_put : GoodIn wsX5_dial (va_wsS RX5 94 yX5_put wsX5_put) := goodIn_app (goodIn_of _ (by decide +kernel)) ggX5_dial_X5_put
set_option maxRecDepth 20000 in
theorem ggX5_claim_X0_isSetOfThem : GoodIn wsX5_claim wsX0_isSetOfThem := goodIn_r _ [7, 8, 40, 41, 42, 43] (by decide +kernel) (by decide +kernel)
set_option maxRecDepth 20000 in
theorem gX5_claim_X0_isSetOfThem : GoodIn wsX5_claim (wsV RX5 109 RX0 yX0_isSetOfThem wsX0_isSetOfThem) := goodIn_app (goodIn_of _ (by decide +kernel)) ggX5_claim_X0_isSetOfThem
set_option maxRecDepth 20000 in
theorem ggX5_claim_X5_demandArgument : GoodIn wsX5_claim wsX5_demandArgument := goodIn_ca (goodIn_r _ [12, 13, 14] (by decide +kernel) (by decide +kernel)) (goodIn_sub (fun _ h => List.mem_cons_of_mem _ (List.mem_append_left _ (List.mem_append_right _ h))) (by decide +kernel))
set_option maxRecDepth 20000 in
theorem gX5_claim_X5_demandArgument : GoodIn wsX5_claim (va_wsS RX5 49 yX5_demandArgument wsX5_demandArgument) := goodIn_app (goodIn_of _ (by decide +kernel)) ggX5_claim_X5_demandArgument
set_option maxRecDepth 20000 in
theorem ggX5_claim_X5_demandState : GoodIn wsX5_claim wsX5_demandState := goodIn_ca (goodIn_r _ [17, 18, 19] (by decide +kernel) (by decide +kernel)) (goodIn_sub (fun _ h => List.mem_cons_of_mem _ (List.mem_append_right _ h)) (by decide +kernel))
set_option maxRecDepth 20000 in
theorem gX5_claim_X5_demandState : GoodIn wsX5_claim (va_wsS RX5 57 yX5_demandState wsX5_demandState) := goodIn_app (goodIn_of _ (by decide +kernel)) ggX5_claim_X5_demandState
set_option maxRecDepth 20000 in
theorem ggX5_claim_X0_addClaim : GoodIn wsX5_claim wsX0_addClaim := goodIn_r _ [23, 8, 24, 25, 26, 11, 27, 28, 29, 30, 31, 40, 41, 42, 43] (by decide +kernel) (by decide +kernel)
set_option maxRecDepth 20000 in
theorem gX5_claim_X0_addClaim : GoodIn wsX5_claim (wsV RX5 116 RX0 yX0_addClaim wsX0_addClaim) := goodIn_app (goodIn_of _ (by decide +kernel)) ggX5_claim_X0_addClaim
set_option maxRecDepth 20000 in
theorem ggX5_withdraw_X5_demandClaim : GoodIn wsX5_withdraw wsX5_demandClaim := goodIn_ca (goodIn_r _ [6, 1, 7, 8, 9, 5, 10, 11, 12, 13, 14, 15, 43, 44, 45, 46, 47, 48, 49, 50, 51, 52, 53, 54] (by decide +kernel) (by decide +kernel)) (goodIn_sub (fun _ h => List.mem_cons_of_mem _ (List.mem_append_right _ h)) (by decide +kernel))
set_option maxRecDepth 20000 in
theorem gX5_withdraw_X5_demandClaim : GoodIn wsX5_withdraw (wsV RX5 119 RX5 yX5_demandClaim wsX5_demandClaim) := goodIn_app (goodIn_of _ (by decide +kernel)) ggX5_withdraw_X5_demandClaim
set_option maxRecDepth 20000 in
theorem ggX5_withdraw_X0_setWithdrawn : GoodIn wsX5_withdraw wsX0_setWithdrawn := goodIn_r _ [20, 21, 51, 52, 53, 54] (by decide +kernel) (by decide +kernel)
set_option maxRecDepth 20000 in
theorem gX5_withdraw_X0_setWithdrawn : GoodIn wsX5_withdraw (wsV RX5 122 RX0 yX0_setWithdrawn wsX0_setWithdrawn) := goodIn_app (goodIn_of _ (by decide +kernel)) ggX5_withdraw_X0_setWithdrawn
set_option maxRecDepth 20000 in
theorem ggX5_withdraw_X0_countStanding : GoodIn wsX5_withdraw wsX0_countStanding := goodIn_r _ [25, 21, 26, 27, 28, 19, 29, 30, 31, 32, 5, 33, 34, 35, 36, 37, 38, 39, 40, 41, 42, 51, 52, 53, 54] (by decide +kernel) (by decide +kernel)
set_option maxRecDepth 20000 in
theorem gX5_withdraw_X0_countStanding : GoodIn wsX5_withdraw (wsV RX5 126 RX0 yX0_countStanding wsX0_countStanding) := goodIn_app (goodIn_of _ (by decide +kernel)) ggX5_withdraw_X0_countStanding
set_option maxRecDepth 20000 in
theorem ggX5_ofAxle_X5_demandAxle : GoodIn wsX5_ofAxle wsX5_demandAxle := goodIn_ca (goodIn_r _ [4, 5, 6, 3, 7, 8, 9, 10, 11, 12] (by decide +kernel) (by decide +kernel)) (goodIn_sub (fun _ h => List.mem_cons_of_mem _ (List.mem_append_left _ (List.mem_append_right _ h))) (by decide +kernel))
set_option maxRecDepth 20000 in
theorem gX5_ofAxle_X5_demandAxle : GoodIn wsX5_ofAxle (va_wsS RX5 41 yX5_demandAxle wsX5_demandAxle) := goodIn_app (goodIn_of _ (by decide +kernel)) ggX5_ofAxle_X5_demandAxle
set_option maxRecDepth 20000 in
theorem ggX5_ofAxle_X5_isWithin : GoodIn wsX5_ofAxle wsX5_isWithin := goodIn_r _ [7] (by decide +kernel) (by decide +kernel)
set_option maxRecDepth 20000 in
theorem gX5_ofAxle_X5_isWithin : GoodIn wsX5_ofAxle (va_wsS RX5 45 yX5_isWithin wsX5_isWithin) := goodIn_app (goodIn_of _ (by decide +kernel)) ggX5_ofAxle_X5_isWithin
set_option maxRecDepth 20000 in
theorem ggX5_ofAxle_X5_demandArgument : GoodIn wsX5_ofAxle wsX5_demandArgument := goodIn_ca (goodIn_r _ [15, 16, 17] (by decide +kernel) (by decide +kernel)) (goodIn_sub (fun _ h => List.mem_cons_of_mem _ (List.mem_append_right _ h)) (by decide +kernel))
set_option maxRecDepth 20000 in
theorem gX5_ofAxle_X5_demandArgument : GoodIn wsX5_ofAxle (va_wsS RX5 49 yX5_demandArgument wsX5_demandArgument) := goodIn_app (goodIn_of _ (by decide +kernel)) ggX5_ofAxle_X5_demandArgument
set_option maxRecDepth 20000 in
theorem ggX5_ofAxle_X5_axleFraction : GoodIn wsX5_ofAxle wsX5_axleFraction := goodIn_r _ [21, 22, 23, 24, 25, 26, 27, 28, 29, 30, 31, 32, 33, 34, 35, 36, 37, 38, 39, 40, 41, 42, 43, 44, 45, 46, 47, 48, 49, 50, 51, 52, 53, 54, 3, 55, 56, 57, 58, 59, 60, 61, 62, 63, 68, 69, 70, 71, 72, 73, 74, 75, 76, 77, 78, 79, 80, 81, 82, 83, 84, 85] (by decide +kernel) (by decide +kernel)
set_option maxRecDepth 20000 in
theorem gX5_ofAxle_X5_axleFraction : GoodIn wsX5_ofAxle (wsV RX5 130 RX5 yX5_axleFraction wsX5_axleFraction) := goodIn_app (goodIn_of _ (by decide +kernel)) ggX5_ofAxle_X5_axleFraction
set_option maxRecDepth 20000 in
theorem ggX5_ofAxle_X1_told : GoodIn wsX5_ofAxle wsX1_told := goodIn_r _ [67, 46, 47, 84, 85] (by decide +kernel) (by decide +kernel)
set_option maxRecDepth 20000 in
theorem gX5_ofAxle_X1_told : GoodIn wsX5_ofAxle (wsV RX5 134 RX1 yX1_told wsX1_told) := goodIn_app (goodIn_of _ (by decide +kernel)) ggX5_ofAxle_X1_told
set_option maxRecDepth 20000 in
theorem ggX5_ofWheel_X5_demandWheel : GoodIn wsX5_ofWheel wsX5_demandWheel := goodIn_ca (goodIn_r _ [6, 1, 7, 8, 9, 5, 10, 11, 12, 13, 14, 15, 47, 48, 49, 50, 51, 52, 53, 54, 55, 56, 57, 58, 59, 60, 61, 62] (by decide +kernel) (by decide +kernel)) (goodIn_sub (fun _ h => List.mem_cons_of_mem _ (List.mem_append_left _ (List.mem_append_right _ h))) (by decide +kernel))
set_option maxRecDepth 20000 in
theorem gX5_ofWheel_X5_demandWheel : GoodIn wsX5_ofWheel (wsV RX5 64 RX5 yX5_demandWheel wsX5_demandWheel) := goodIn_app (goodIn_of _ (by decide +kernel)) ggX5_ofWheel_X5_demandWheel
set_option maxRecDepth 20000 in
theorem ggX5_ofWheel_X5_isWithin : GoodIn wsX5_ofWheel wsX5_isWithin := goodIn_r _ [10] (by decide +kernel) (by decide +kernel)
set_option maxRecDepth 20000 in
theorem gX5_ofWheel_X5_isWithin : GoodIn wsX5_ofWheel (va_wsS RX5 45 yX5_isWithin wsX5_isWithin) := goodIn_app (goodIn_of _ (by decide +kernel)) ggX5_ofWheel_X5_isWithin
set_option maxRecDepth 20000 in
theorem ggX5_ofWheel_X5_demandArgument : GoodIn wsX5_ofWheel wsX5_demandArgument := goodIn_ca (goodIn_r _ [18, 19, 20] (by decide +kernel) (by decide +kernel)) (goodIn_sub (fun _ h => List.mem_cons_of_mem _ (List.mem_append_right _ h)) (by decide +kernel))
set_option maxRecDepth 20000 in
theorem gX5_ofWheel_X5_demandArgument : GoodIn wsX5_ofWheel (va_wsS RX5 49 yX5_demandArgument wsX5_demandArgument) := goodIn_app (goodIn_of _ (by decide +kernel)) ggX5_ofWheel_X5_demandArgument
set_option maxRecDepth 20000 in
theorem ggX5_ofWheel_X2_axleOf : GoodIn wsX5_ofWheel wsX2_axleOf := goodIn_r _ [25, 26, 27, 5, 28, 55, 56, 57, 58, 59, 60, 61, 62] (by decide +kernel) (by decide +kernel)
set_option maxRecDepth 20000 in
theorem gX5_ofWheel_X2_axleOf : GoodIn wsX5_ofWheel (wsV RX5 140 RX2 yX2_axleOf wsX2_axleOf) := goodIn_app (goodIn_of _ (by decide +kernel)) ggX5_ofWheel_X2_axleOf
set_option maxRecDepth 20000 in
theorem ggX5_ofWheel_X2_teethOf : GoodIn wsX5_ofWheel wsX2_teethOf := goodIn_r _ [32, 33, 27, 5, 28, 55, 56, 57, 58, 59, 60, 61, 62] (by decide +kernel) (by decide +kernel)
set_option maxRecDepth 20000 in
theorem gX5_ofWheel_X2_teethOf : GoodIn wsX5_ofWheel (wsV RX5 143 RX2 yX2_teethOf wsX2_teethOf) := goodIn_app (goodIn_of _ (by decide +kernel)) ggX5_ofWheel_X2_teethOf
set_option maxRecDepth 20000 in
theorem ggX5_ofWheel_X2_meshedWith : GoodIn wsX5_ofWheel wsX2_meshedWith := goodIn_r _ [37, 38, 27, 5, 28, 55, 56, 57, 58, 59, 60, 61, 62] (by decide +kernel) (by decide +kernel)
set_option maxRecDepth 20000 in
theorem gX5_ofWheel_X2_meshedWith : GoodIn wsX5_ofWheel (wsV RX5 146 RX2 yX2_meshedWith wsX2_meshedWith) := goodIn_app (goodIn_of _ (by decide +kernel)) ggX5_ofWheel_X2_meshedWith
set_option maxRecDepth 20000 in
theorem ggX5_ofWheel_X2_isMoved : GoodIn wsX5_ofWheel wsX2_isMoved := goodIn_r _ [42, 43, 44, 45, 24, 46, 55, 56, 57, 58, 59, 60, 61, 62] (by decide +kernel) (by decide +kernel)
set_option maxRecDepth 20000 in
theorem gX5_ofWheel_X2_isMoved : GoodIn wsX5_ofWheel (wsV RX5 149 RX2 yX2_isMoved wsX2_isMoved) := goodIn_app (goodIn_of _ (by decide +kernel)) ggX5_ofWheel_X2_isMoved
set_option maxRecDepth 20000 in
theorem ggX5_passed_X5_demandWheel : GoodIn wsX5_passed wsX5_demandWheel := goodIn_ca (goodIn_r _ [5, 6, 7, 8, 9, 4, 10, 11, 12, 13, 14, 15, 64, 65, 66, 67, 68, 69, 70, 71, 72, 73, 74, 75, 76, 77, 78, 79] (by decide +kernel) (by decide +kernel)) (goodIn_sub (fun _ h => List.mem_cons_of_mem _ (List.mem_append_right _ h)) (by decide +kernel))
set_option maxRecDepth 20000 in
theorem gX5_passed_X5_demandWheel : GoodIn wsX5_passed (wsV RX5 64 RX5 yX5_demandWheel wsX5_demandWheel) := goodIn_app (goodIn_of _ (by decide +kernel)) ggX5_passed_X5_demandWheel
set_option maxRecDepth 20000 in
theorem ggX5_passed_X5_passedBy : GoodIn wsX5_passed wsX5_passedBy := goodIn_r _ [19, 6, 20, 21, 22, 23, 24, 25, 26, 27, 4, 28, 29, 30, 31, 32, 33, 34, 35, 36, 37, 38, 39, 40, 41, 42, 43, 44, 45, 46, 47, 48, 49, 50, 51, 52, 53, 54, 55, 56, 57, 58, 59, 64, 65, 66, 67, 68, 69, 70, 71, 72, 73, 74, 75, 76, 77, 78, 79, 80, 81] (by decide +kernel) (by decide +kernel)
set_option maxRecDepth 20000 in
theorem gX5_passed_X5_passedBy : GoodIn wsX5_passed (wsV RX5 152 RX5 yX5_passedBy wsX5_passedBy) := goodIn_app (goodIn_of _ (by decide +kernel)) ggX5_passed_X5_passedBy
set_option maxRecDepth 20000 in
theorem ggX5_passed_X1_told : GoodIn wsX5_passed wsX1_told := goodIn_r _ [63, 50, 51, 80, 81] (by decide +kernel) (by decide +kernel)
set_option maxRecDepth 20000 in
theorem gX5_passed_X1_told : GoodIn wsX5_passed (wsV RX5 134 RX1 yX1_told wsX1_told) := goodIn_app (goodIn_of _ (by decide +kernel)) ggX5_passed_X1_told
set_option maxRecDepth 20000 in
theorem ggX5_period_X2_turnsToReturn : GoodIn wsX5_period wsX2_turnsToReturn := goodIn_r _ [6, 7, 8, 9, 10, 5, 11, 12, 13, 14, 15, 16, 17, 18, 19, 28, 29, 30, 31, 32, 33, 34, 35, 36, 37] (by decide +kernel) (by decide +kernel)
set_option maxRecDepth 20000 in
theorem gX5_period_X2_turnsToReturn : GoodIn wsX5_period (wsV RX5 156 RX2 yX2_turnsToReturn wsX2_turnsToReturn) := goodIn_app (goodIn_of _ (by decide +kernel)) ggX5_period_X2_turnsToReturn
set_option maxRecDepth 20000 in
theorem ggX5_ofLump_X5_isWithin : GoodIn wsX5_ofLump wsX5_isWithin := goodIn_r _ [5] (by decide +kernel) (by decide +kernel)
set_option maxRecDepth 20000 in
theorem gX5_ofLump_X5_isWithin : GoodIn wsX5_ofLump (va_wsS RX5 45 yX5_isWithin wsX5_isWithin) := goodIn_app (goodIn_of _ (by decide +kernel)) ggX5_ofLump_X5_isWithin
set_option maxRecDepth 20000 in
theorem ggX5_ofLump_X5_demandIndex : GoodIn wsX5_ofLump wsX5_demandIndex := goodIn_ca (goodIn_r _ [8, 9, 10] (by decide +kernel) (by decide +kernel)) (goodIn_sub (fun _ h => List.mem_cons_of_mem _ (List.mem_append_left _ (List.mem_append_right _ h))) (by decide +kernel))
set_option maxRecDepth 20000 in
theorem gX5_ofLump_X5_demandIndex : GoodIn wsX5_ofLump (va_wsS RX5 98 yX5_demandIndex wsX5_demandIndex) := goodIn_app (goodIn_of _ (by decide +kernel)) ggX5_ofLump_X5_demandIndex
set_option maxRecDepth 20000 in
theorem ggX5_ofLump_X5_demandArgument : GoodIn wsX5_ofLump wsX5_demandArgument := goodIn_ca (goodIn_r _ [13, 14, 15] (by decide +kernel) (by decide +kernel)) (goodIn_sub (fun _ h => List.mem_cons_of_mem _ (List.mem_append_right _ h)) (by decide +kernel))
set_option maxRecDepth 20000 in
theorem gX5_ofLump_X5_demandArgument : GoodIn wsX5_ofLump (va_wsS RX5 49 yX5_demandArgument wsX5_demandArgument) := goodIn_app (goodIn_of _ (by decide +kernel)) ggX5_ofLump_X5_demandArgument
set_option maxRecDepth 20000 in
theorem ggX5_ofLump_X3_piecesOf : GoodIn wsX5_ofLump wsX3_piecesOf := goodIn_r _ [20, 21, 22, 4, 23, 47, 48, 49, 50, 51, 52, 53] (by decide +kernel) (by decide +kernel)
set_option maxRecDepth 20000 in
theorem gX5_ofLump_X3_piecesOf : GoodIn wsX5_ofLump (wsV RX5 101 RX3 yX3_piecesOf wsX3_piecesOf) := goodIn_app (goodIn_of _ (by decide +kernel)) ggX5_ofLump_X3_piecesOf
set_option maxRecDepth 20000 in
theorem ggX5_ofLump_X3_agreeingOf : GoodIn wsX5_ofLump wsX3_agreeingOf := goodIn_r _ [27, 28, 22, 4, 23, 47, 48, 49, 50, 51, 52, 53] (by decide +kernel) (by decide +kernel)
set_option maxRecDepth 20000 in
theorem gX5_ofLump_X3_agreeingOf : GoodIn wsX5_ofLump (wsV RX5 163 RX3 yX3_agreeingOf wsX3_agreeingOf) := goodIn_app (goodIn_of _ (by decide +kernel)) ggX5_ofLump_X3_agreeingOf
set_option maxRecDepth 20000 in
theorem ggX5_ofLump_X3_leastOf : GoodIn wsX5_ofLump wsX3_leastOf := goodIn_r _ [32, 33, 22, 4, 23, 47, 48, 49, 50, 51, 52, 53] (by decide +kernel) (by decide +kernel)
set_option maxRecDepth 20000 in
theorem gX5_ofLump_X3_leastOf : GoodIn wsX5_ofLump (wsV RX5 166 RX3 yX3_leastOf wsX3_leastOf) := goodIn_app (goodIn_of _ (by decide +kernel)) ggX5_ofLump_X3_leastOf
set_option maxRecDepth 20000 in
theorem ggX5_ofLump_X3_greatestOf : GoodIn wsX5_ofLump wsX3_greatestOf := goodIn_r _ [37, 38, 22, 4, 23, 47, 48, 49, 50, 51, 52, 53] (by decide +kernel) (by decide +kernel)
set_option maxRecDepth 20000 in
theorem gX5_ofLump_X3_greatestOf : GoodIn wsX5_ofLump (wsV RX5 169 RX3 yX3_greatestOf wsX3_greatestOf) := goodIn_app (goodIn_of _ (by decide +kernel)) ggX5_ofLump_X3_greatestOf
set_option maxRecDepth 20000 in
theorem ggX5_ofClaim_X5_demandClaim : GoodIn wsX5_ofClaim wsX5_demandClaim := goodIn_ca (goodIn_r _ [6, 1, 7, 8, 9, 5, 10, 11, 12, 13, 14, 15, 60, 61, 62, 63, 64, 65, 66, 67, 68, 69, 70, 71] (by decide +kernel) (by decide +kernel)) (goodIn_sub (fun _ h => List.mem_cons_of_mem _ (List.mem_append_left _ (List.mem_append_right _ h))) (by decide +kernel))
set_option maxRecDepth 20000 in
theorem gX5_ofClaim_X5_demandClaim : GoodIn wsX5_ofClaim (wsV RX5 119 RX5 yX5_demandClaim wsX5_demandClaim) := goodIn_app (goodIn_of _ (by decide +kernel)) ggX5_ofClaim_X5_demandClaim
set_option maxRecDepth 20000 in
theorem ggX5_ofClaim_X5_isWithin : GoodIn wsX5_ofClaim wsX5_isWithin := goodIn_r _ [10] (by decide +kernel) (by decide +kernel)
set_option maxRecDepth 20000 in
theorem gX5_ofClaim_X5_isWithin : GoodIn wsX5_ofClaim (va_wsS RX5 45 yX5_isWithin wsX5_isWithin) := goodIn_app (goodIn_of _ (by decide +kernel)) ggX5_ofClaim_X5_isWithin
set_option maxRecDepth 20000 in
theorem ggX5_ofClaim_X5_demandArgument : GoodIn wsX5_ofClaim wsX5_demandArgument := goodIn_ca (goodIn_r _ [18, 19, 20] (by decide +kernel) (by decide +kernel)) (goodIn_sub (fun _ h => List.mem_cons_of_mem _ (List.mem_append_right _ h)) (by decide +kernel))
set_option maxRecDepth 20000 in
theorem gX5_ofClaim_X5_demandArgument : GoodIn wsX5_ofClaim (va_wsS RX5 49 yX5_demandArgument wsX5_demandArgument) := goodIn_app (goodIn_of _ (by decide +kernel)) ggX5_ofClaim_X5_demandArgument
set_option maxRecDepth 20000 in
theorem ggX5_ofClaim_X0_hangsOn : GoodIn wsX5_ofClaim wsX0_hangsOn := goodIn_r _ [25, 26, 27, 5, 28, 68, 69, 70, 71] (by decide +kernel) (by decide +kernel)
set_option maxRecDepth 20000 in
theorem gX5_ofClaim_X0_hangsOn : GoodIn wsX5_ofClaim (wsV RX5 172 RX0 yX0_hangsOn wsX0_hangsOn) := goodIn_app (goodIn_of _ (by decide +kernel)) ggX5_ofClaim_X0_hangsOn
set_option maxRecDepth 20000 in
theorem ggX5_ofClaim_X0_isWithdrawn : GoodIn wsX5_ofClaim wsX0_isWithdrawn := goodIn_r _ [32, 33, 34, 5, 35, 68, 69, 70, 71] (by decide +kernel) (by decide +kernel)
set_option maxRecDepth 20000 in
theorem gX5_ofClaim_X0_isWithdrawn : GoodIn wsX5_ofClaim (wsV RX5 175 RX0 yX0_isWithdrawn wsX0_isWithdrawn) := goodIn_app (goodIn_of _ (by decide +kernel)) ggX5_ofClaim_X0_isWithdrawn
set_option maxRecDepth 20000 in
theorem ggX5_ofClaim_X0_isStanding : GoodIn wsX5_ofClaim wsX0_isStanding := goodIn_r _ [39, 33, 40, 41, 42, 24, 43, 44, 26, 34, 5, 35, 27, 28, 68, 69, 70, 71] (by decide +kernel) (by decide +kernel)
set_option maxRecDepth 20000 in
theorem gX5_ofClaim_X0_isStanding : GoodIn wsX5_ofClaim (wsV RX5 178 RX0 yX0_isStanding wsX0_isStanding) := goodIn_app (goodIn_of _ (by decide +kernel)) ggX5_ofClaim_X0_isStanding
set_option maxRecDepth 20000 in
theorem ggX5_ofClaim_X0_fallingWith : GoodIn wsX5_ofClaim wsX0_fallingWith := goodIn_r _ [48, 33, 49, 50, 51, 24, 52, 40, 41, 42, 43, 44, 26, 34, 5, 35, 27, 28, 53, 54, 55, 56, 57, 58, 59, 68, 69, 70, 71] (by decide +kernel) (by decide +kernel)
set_option maxRecDepth 20000 in
theorem gX5_ofClaim_X0_fallingWith : GoodIn wsX5_ofClaim (wsV RX5 181 RX0 yX0_fallingWith wsX0_fallingWith) := goodIn_app (goodIn_of _ (by decide +kernel)) ggX5_ofClaim_X0_fallingWith
set_option maxRecDepth 20000 in
theorem ggX5_house_X5_isWithin : GoodIn wsX5_house wsX5_isWithin := goodIn_r _ [12] (by decide +kernel) (by decide +kernel)
set_option maxRecDepth 20000 in
theorem gX5_house_X5_isWithin : GoodIn wsX5_house (va_wsS RX5 45 yX5_isWithin wsX5_isWithin) := goodIn_app (goodIn_of _ (by decide +kernel)) ggX5_house_X5_isWithin
set_option maxRecDepth 20000 in
theorem ggX5_house_X5_demandArgument : GoodIn wsX5_house wsX5_demandArgument := goodIn_ca (goodIn_r _ [15, 16, 17] (by decide +kernel) (by decide +kernel)) (goodIn_sub (fun _ h => List.mem_cons_of_mem _ (List.mem_append_right _ h)) (by decide +kernel))
set_option maxRecDepth 20000 in
theorem gX5_house_X5_demandArgument : GoodIn wsX5_house (va_wsS RX5 49 yX5_demandArgument wsX5_demandArgument) := goodIn_app (goodIn_of _ (by decide +kernel)) ggX5_house_X5_demandArgument
set_option maxRecDepth 20000 in
theorem ggX5_house_X2_countMeshes : GoodIn wsX5_house wsX2_countMeshes := goodIn_r _ [22, 23, 24, 25, 26, 21, 27, 28, 29, 11, 30, 31, 32, 33, 34, 35, 36, 37, 83, 84, 85, 86, 87, 88, 89, 90] (by decide +kernel) (by decide +kernel)
set_option maxRecDepth 20000 in
theorem gX5_house_X2_countMeshes : GoodIn wsX5_house (wsV RX5 184 RX2 yX2_countMeshes wsX2_countMeshes) := goodIn_app (goodIn_of _ (by decide +kernel)) ggX5_house_X2_countMeshes
set_option maxRecDepth 20000 in
theorem ggX5_house_X2_countMoved : GoodIn wsX5_house wsX2_countMoved := goodIn_r _ [41, 42, 43, 44, 21, 45, 46, 47, 48, 49, 83, 84, 85, 86, 87, 88, 89, 90] (by decide +kernel) (by decide +kernel)
set_option maxRecDepth 20000 in
theorem gX5_house_X2_countMoved : GoodIn wsX5_house (wsV RX5 187 RX2 yX2_countMoved wsX2_countMoved) := goodIn_app (goodIn_of _ (by decide +kernel)) ggX5_house_X2_countMoved
set_option maxRecDepth 20000 in
theorem ggX5_house_X0_countStanding : GoodIn wsX5_house wsX0_countStanding := goodIn_r _ [54, 55, 56, 57, 58, 53, 59, 60, 61, 62, 11, 63, 29, 30, 64, 32, 33, 34, 35, 36, 37, 91, 92, 93, 94] (by decide +kernel) (by decide +kernel)
set_option maxRecDepth 20000 in
theorem gX5_house_X0_countStanding : GoodIn wsX5_house (wsV RX5 126 RX0 yX0_countStanding wsX0_countStanding) := goodIn_app (goodIn_of _ (by decide +kernel)) ggX5_house_X0_countStanding
set_option maxRecDepth 20000 in
theorem ggX5_house_X3_countPieces : GoodIn wsX5_house wsX3_countPieces := goodIn_r _ [69, 70, 71, 72, 68, 73, 74, 29, 11, 30, 95, 96, 97, 98, 99, 100, 101] (by decide +kernel) (by decide +kernel)
set_option maxRecDepth 20000 in
theorem gX5_house_X3_countPieces : GoodIn wsX5_house (wsV RX5 190 RX3 yX3_countPieces wsX3_countPieces) := goodIn_app (goodIn_of _ (by decide +kernel)) ggX5_house_X3_countPieces
set_option maxRecDepth 20000 in
theorem ggX5_isSound_X5_doMeshesPassAlike : GoodIn wsX5_isSound wsX5_doMeshesPassAlike := goodIn_r _ [7, 1, 8, 9, 10, 11, 6, 12, 13, 14, 15, 16, 17, 18, 19, 20, 21, 22, 23, 24, 25, 26, 27, 28, 29, 30, 31, 32, 33, 34, 35, 36, 37, 38, 39, 40, 41, 42, 43, 44, 45, 46, 47, 48, 49, 50, 51, 52, 53, 54, 55, 56, 57, 58, 59, 60, 61, 62, 63, 64, 65, 66, 67, 91, 92, 93, 94, 95, 96, 97, 98, 99, 100, 101, 102, 103, 104, 105, 106, 107, 108] (by decide +kernel) (by decide +kernel)
set_option maxRecDepth 20000 in
theorem gX5_isSound_X5_doMeshesPassAlike : GoodIn wsX5_isSound (wsV RX5 238 RX5 yX5_doMeshesPassAlike wsX5_doMeshesPassAlike) := goodIn_app (goodIn_of _ (by decide +kernel)) ggX5_isSound_X5_doMeshesPassAlike
set_option maxRecDepth 20000 in
theorem ggX5_isSound_X2_isPeriodRight : GoodIn wsX5_isSound wsX2_isPeriodRight := goodIn_r _ [71, 72, 73, 74, 75, 17, 76, 77, 23, 24, 25, 26, 27, 28, 29, 30, 51, 6, 52, 107, 108, 99, 100, 101, 102, 103, 104, 105, 106] (by decide +kernel) (by decide +kernel)
set_option maxRecDepth 20000 in
theorem gX5_isSound_X2_isPeriodRight : GoodIn wsX5_isSound (wsV RX5 242 RX2 yX2_isPeriodRight wsX2_isPeriodRight) := goodIn_app (goodIn_of _ (by decide +kernel)) ggX5_isSound_X2_isPeriodRight
set_option maxRecDepth 20000 in
theorem ggX5_isSound_X0_areConsistent : GoodIn wsX5_isSound wsX0_areConsistent := goodIn_r _ [82, 83, 84, 85, 86, 87, 88, 81, 89, 90, 62, 6, 63, 20, 21, 109, 110, 111, 112] (by decide +kernel) (by decide +kernel)
set_option maxRecDepth 20000 in
theorem gX5_isSound_X0_areConsistent : GoodIn wsX5_isSound (wsV RX5 245 RX0 yX0_areConsistent wsX0_areConsistent) := goodIn_app (goodIn_of _ (by decide +kernel)) ggX5_isSound_X0_areConsistent
set_option maxRecDepth 20000 in
theorem ggX5_digest_X5_house : GoodIn wsX5_digest wsX5_house := goodIn_ca (goodIn_r _ [8, 9, 10, 11, 2, 3, 12, 13, 14, 15, 16, 7, 17, 18, 19, 20, 21, 22, 23, 24, 25, 26, 27, 28, 29, 30, 31, 32, 33, 34, 35, 36, 37, 38, 39, 40, 41, 42, 43, 44, 45, 46, 47, 48, 49, 50, 51, 52, 53, 54, 55, 56, 57, 58, 59, 60, 61, 62, 63, 64, 65, 66, 67, 68, 69, 70, 71, 72, 73, 74, 75, 76, 77, 78, 79, 256, 257, 258, 259, 260, 261, 262, 263, 268, 269, 270, 271, 272, 273, 274, 275, 264, 265, 266, 267, 276, 277, 278, 279, 280, 281, 282] (by decide +kernel) (by decide +kernel)) (goodIn_sub (fun _ h => List.mem_cons_of_mem _ (List.mem_append_left _ (List.mem_append_right _ h))) (by decide +kernel))
set_option maxRecDepth 20000 in
theorem gX5_digest_X5_house : GoodIn wsX5_digest (wsV RX5 250 RX5 yX5_house wsX5_house) := goodIn_app (goodIn_of _ (by decide +kernel)) ggX5_digest_X5_house
set_option maxRecDepth 20000 in
theorem ggX5_digest_X5_mixed : GoodIn wsX5_digest wsX5_mixed := goodIn_r _ [82, 83] (by decide +kernel) (by decide +kernel)
set_option maxRecDepth 20000 in
theorem gX5_digest_X5_mixed : GoodIn wsX5_digest (va_wsS RX5 253 yX5_mixed wsX5_mixed) := goodIn_app (goodIn_of _ (by decide +kernel)) ggX5_digest_X5_mixed
set_option maxRecDepth 20000 in
theorem ggX5_digest_X5_mixedAxles : GoodIn wsX5_digest wsX5_mixedAxles := goodIn_r _ [87, 11, 88, 89, 90, 7, 91, 9, 92, 93, 94, 26, 95, 51, 96, 52, 53, 54, 97, 98, 99, 100, 101, 102, 103, 104, 105, 106, 107, 108, 109, 110, 111, 112, 113, 114, 115, 116, 117, 118, 119, 120, 121, 122, 123, 124, 125, 126, 127, 128, 129, 130, 131, 80, 81, 82, 83, 132, 133, 134, 135, 136, 137, 34, 35, 138, 139, 140, 141, 256, 257, 258, 259, 260, 261, 262, 263, 268, 269, 270, 271, 272, 273, 274, 275, 283, 284] (by decide +kernel) (by decide +kernel)
set_option maxRecDepth 20000 in
theorem gX5_digest_X5_mixedAxles : GoodIn wsX5_digest (wsV RX5 257 RX5 yX5_mixedAxles wsX5_mixedAxles) := goodIn_app (goodIn_of _ (by decide +kernel)) ggX5_digest_X5_mixedAxles
set_option maxRecDepth 20000 in
theorem ggX5_digest_X5_mixedWheels : GoodIn wsX5_digest wsX5_mixedWheels := goodIn_ca (goodIn_ca (goodIn_r _ [145, 9, 10, 146, 147, 148, 7, 149, 150, 151, 152, 153, 15, 16, 17, 154, 155, 156, 157, 158, 18, 19, 20, 21, 22, 159, 160, 161, 26, 162, 163, 34, 35, 164, 165, 166, 167, 168, 169, 30, 31, 32, 33, 170, 48, 49, 50, 51, 52, 53, 54, 80, 81, 82, 83, 171, 172, 173, 174, 11, 92, 93, 94, 95, 96, 175, 103, 104, 105, 106, 107, 108, 109, 110, 111, 112, 113, 114, 115, 116, 117, 118, 127, 128, 129, 130, 131, 256, 257, 258, 259, 260, 261, 262, 263, 268, 269, 270, 271, 272, 273, 274, 275, 283, 284] (by decide +kernel) (by decide +kernel)) (goodIn_sub (fun _ h => List.mem_cons_of_mem _ (List.mem_append_right _ h)) (by decide +kernel))) (goodIn_sub (fun _ h => List.mem_cons_of_mem _ (List.mem_append_left _ (List.mem_append_right _ h))) (by decide +kernel))
set_option maxRecDepth 20000 in
theorem gX5_digest_X5_mixedWheels : GoodIn wsX5_digest (wsV RX5 261 RX5 yX5_mixedWheels wsX5_mixedWheels) := goodIn_app (goodIn_of _ (by decide +kernel)) ggX5_digest_X5_mixedWheels
set_option maxRecDepth 20000 in
theorem ggX5_digest_X5_period : GoodIn wsX5_digest wsX5_period := goodIn_r _ [179, 9, 180, 181, 182, 26, 183, 184, 101, 93, 94, 95, 51, 96, 52, 53, 54, 117, 7, 118, 256, 257, 258, 259, 260, 261, 262, 263, 283, 284, 268, 269, 270, 271, 272, 273, 274, 275] (by decide +kernel) (by decide +kernel)
set_option maxRecDepth 20000 in
theorem gX5_digest_X5_period : GoodIn wsX5_digest (wsV RX5 264 RX5 yX5_period wsX5_period) := goodIn_app (goodIn_of _ (by decide +kernel)) ggX5_digest_X5_period
set_option maxRecDepth 20000 in
theorem ggX5_digest_X5_ofLump : GoodIn wsX5_digest wsX5_ofLump := goodIn_ca (goodIn_ca (goodIn_r _ [188, 12, 15, 16, 7, 17, 154, 155, 156, 157, 158, 18, 19, 20, 21, 22, 189, 76, 77, 73, 78, 79, 34, 35, 190, 191, 192, 193, 194, 195, 196, 197, 198, 199, 200, 201, 202, 203, 204, 256, 257, 258, 259, 260, 261, 262, 263, 276, 277, 278, 279, 280, 281, 282] (by decide +kernel) (by decide +kernel)) (goodIn_sub (fun _ h => List.mem_cons_of_mem _ (List.mem_append_right _ h)) (by decide +kernel))) (goodIn_sub (fun _ h => List.mem_cons_of_mem _ (List.mem_append_left _ (List.mem_append_right _ h))) (by decide +kernel))
set_option maxRecDepth 20000 in
theorem gX5_digest_X5_ofLump : GoodIn wsX5_digest (wsV RX5 267 RX5 yX5_ofLump wsX5_ofLump) := goodIn_app (goodIn_of _ (by decide +kernel)) ggX5_digest_X5_ofLump
set_option maxRecDepth 20000 in
theorem ggX5_digest_X5_ofClaim : GoodIn wsX5_digest wsX5_ofClaim := goodIn_ca (goodIn_ca (goodIn_r _ [208, 2, 209, 210, 211, 7, 212, 3, 15, 16, 17, 154, 155, 156, 157, 158, 18, 19, 20, 21, 22, 213, 214, 215, 58, 216, 66, 34, 35, 217, 218, 219, 220, 60, 67, 68, 221, 222, 223, 224, 61, 62, 63, 64, 65, 225, 226, 227, 228, 229, 56, 57, 59, 69, 37, 38, 39, 40, 41, 42, 256, 257, 258, 259, 260, 261, 262, 263, 264, 265, 266, 267] (by decide +kernel) (by decide +kernel)) (goodIn_sub (fun _ h => List.mem_cons_of_mem _ (List.mem_append_right _ h)) (by decide +kernel))) (goodIn_sub (fun _ h => List.mem_cons_of_mem _ (List.mem_append_left _ (List.mem_append_right _ h))) (by decide +kernel))
set_option maxRecDepth 20000 in
theorem gX5_digest_X5_ofClaim : GoodIn wsX5_digest (wsV RX5 270 RX5 yX5_ofClaim wsX5_ofClaim) := goodIn_app (goodIn_of _ (by decide +kernel)) ggX5_digest_X5_ofClaim
set_option maxRecDepth 20000 in
theorem ggX5_digest_X5_isSound : GoodIn wsX5_digest wsX5_isSound := goodIn_r _ [233, 9, 2, 234, 235, 236, 7, 237, 10, 171, 172, 173, 174, 11, 159, 160, 161, 26, 162, 163, 34, 35, 92, 93, 94, 95, 51, 96, 52, 53, 54, 164, 165, 166, 167, 168, 175, 103, 104, 105, 106, 107, 108, 109, 110, 111, 112, 113, 114, 115, 116, 117, 118, 238, 239, 240, 241, 29, 30, 31, 32, 33, 67, 68, 242, 243, 244, 245, 246, 247, 248, 249, 184, 250, 181, 182, 183, 101, 251, 252, 253, 58, 254, 60, 65, 255, 61, 62, 63, 64, 66, 256, 257, 258, 259, 260, 261, 262, 263, 268, 269, 270, 271, 272, 273, 274, 275, 283, 284, 264, 265, 266, 267] (by decide +kernel) (by decide +kernel)
set_option maxRecDepth 20000 in
theorem gX5_digest_X5_isSound : GoodIn wsX5_digest (wsV RX5 273 RX5 yX5_isSound wsX5_isSound) := goodIn_app (goodIn_of _ (by decide +kernel)) ggX5_digest_X5_isSound
set_option maxRecDepth 20000 in
theorem ggX5_demandAxle_X5_isWithin : GoodIn wsX5_demandAxle wsX5_isWithin := goodIn_r _ [4] (by decide +kernel) (by decide +kernel)
set_option maxRecDepth 20000 in
theorem gX5_demandAxle_X5_isWithin : GoodIn wsX5_demandAxle (va_wsS RX5 45 yX5_isWithin wsX5_isWithin) := goodIn_app (goodIn_of _ (by decide +kernel)) ggX5_demandAxle_X5_isWithin
set_option maxRecDepth 20000 in
theorem ggX5_demandAxle_X5_demandIndex : GoodIn wsX5_demandAxle wsX5_demandIndex := goodIn_ca (goodIn_r _ [7, 8, 9] (by decide +kernel) (by decide +kernel)) (goodIn_sub (fun _ h => List.mem_cons_of_mem _ (List.mem_append_right _ h)) (by decide +kernel))
set_option maxRecDepth 20000 in
theorem gX5_demandAxle_X5_demandIndex : GoodIn wsX5_demandAxle (va_wsS RX5 98 yX5_demandIndex wsX5_demandIndex) := goodIn_app (goodIn_of _ (by decide +kernel)) ggX5_demandAxle_X5_demandIndex
set_option maxRecDepth 20000 in
theorem ggX5_demandWheel_X5_isWithin : GoodIn wsX5_demandWheel wsX5_isWithin := goodIn_r _ [6] (by decide +kernel) (by decide +kernel)
set_option maxRecDepth 20000 in
theorem gX5_demandWheel_X5_isWithin : GoodIn wsX5_demandWheel (va_wsS RX5 45 yX5_isWithin wsX5_isWithin) := goodIn_app (goodIn_of _ (by decide +kernel)) ggX5_demandWheel_X5_isWithin
set_option maxRecDepth 20000 in
theorem ggX5_demandWheel_X5_demandIndex : GoodIn wsX5_demandWheel wsX5_demandIndex := goodIn_ca (goodIn_r _ [9, 10, 11] (by decide +kernel) (by decide +kernel)) (goodIn_sub (fun _ h => List.mem_cons_of_mem _ (List.mem_append_right _ h)) (by decide +kernel))
set_option maxRecDepth 20000 in
theorem gX5_demandWheel_X5_demandIndex : GoodIn wsX5_demandWheel (va_wsS RX5 98 yX5_demandIndex wsX5_demandIndex) := goodIn_app (goodIn_of _ (by decide +kernel)) ggX5_demandWheel_X5_demandIndex
set_option maxRecDepth 20000 in
theorem ggX5_demandClaim_X5_isWithin : GoodIn wsX5_demandClaim wsX5_isWithin := goodIn_r _ [6] (by decide +kernel) (by decide +kernel)
set_option maxRecDepth 20000 in
theorem gX5_demandClaim_X5_isWithin : GoodIn wsX5_demandClaim (va_wsS RX5 45 yX5_isWithin wsX5_isWithin) := goodIn_app (goodIn_of _ (by decide +kernel)) ggX5_demandClaim_X5_isWithin
set_option maxRecDepth 20000 in
theorem ggX5_demandClaim_X5_demandIndex : GoodIn wsX5_demandClaim wsX5_demandIndex := goodIn_ca (goodIn_r _ [9, 10, 11] (by decide +kernel) (by decide +kernel)) (goodIn_sub (fun _ h => List.mem_cons_of_mem _ (List.mem_append_right _ h)) (by decide +kernel))
set_option maxRecDepth 20000 in
theorem gX5_demandClaim_X5_demandIndex : GoodIn wsX5_demandClaim (va_wsS RX5 98 yX5_demandIndex wsX5_demandIndex) := goodIn_app (goodIn_of _ (by decide +kernel)) ggX5_demandClaim_X5_demandIndex
set_option maxRecDepth 20000 in
theorem ggX5_axleFraction_X2_rateOf : GoodIn wsX5_axleFraction wsX2_rateOf := goodIn_r _ [7, 8, 9, 10, 11, 6, 12, 52, 53, 54, 55, 56, 57, 58, 59] (by decide +kernel) (by decide +kernel)
set_option maxRecDepth 20000 in
theorem gX5_axleFraction_X2_rateOf : GoodIn wsX5_axleFraction (wsV RX5 293 RX2 yX2_rateOf wsX2_rateOf) := goodIn_app (goodIn_of _ (by decide +kernel)) ggX5_axleFraction_X2_rateOf
set_option maxRecDepth 20000 in
theorem ggX5_axleFraction_X2_turnedAt : GoodIn wsX5_axleFraction wsX2_turnedAt := goodIn_r _ [16, 17, 4, 5, 6, 7, 8, 9, 10, 11, 12, 18, 19, 20, 21, 22, 23, 24, 25, 26, 27, 28, 29, 30, 31, 32, 33, 34, 35, 52, 53, 54, 55, 56, 57, 58, 59, 60, 61] (by decide +kernel) (by decide +kernel)
set_option maxRecDepth 20000 in
theorem gX5_axleFraction_X2_turnedAt : GoodIn wsX5_axleFraction (wsV RX5 296 RX2 yX2_turnedAt wsX2_turnedAt) := goodIn_app (goodIn_of _ (by decide +kernel)) ggX5_axleFraction_X2_turnedAt
set_option maxRecDepth 20000 in
theorem ggX5_axleFraction_X1_withoutWhole : GoodIn wsX5_axleFraction wsX1_withoutWhole := goodIn_r _ [39, 26, 23, 24, 21, 25, 40, 41, 42, 43, 27, 28, 29, 30, 31, 32, 33, 34, 35, 60, 61] (by decide +kernel) (by decide +kernel)
set_option maxRecDepth 20000 in
theorem gX5_axleFraction_X1_withoutWhole : GoodIn wsX5_axleFraction (wsV RX5 299 RX1 yX1_withoutWhole wsX1_withoutWhole) := goodIn_app (goodIn_of _ (by decide +kernel)) ggX5_axleFraction_X1_withoutWhole
set_option maxRecDepth 20000 in
theorem ggX5_passedBy_X2_axleOf : GoodIn wsX5_passedBy wsX2_axleOf := goodIn_r _ [7, 8, 9, 10, 11, 51, 52, 53, 54, 55, 56, 57, 58] (by decide +kernel) (by decide +kernel)
set_option maxRecDepth 20000 in
theorem gX5_passedBy_X2_axleOf : GoodIn wsX5_passedBy (wsV RX5 140 RX2 yX2_axleOf wsX2_axleOf) := goodIn_app (goodIn_of _ (by decide +kernel)) ggX5_passedBy_X2_axleOf
set_option maxRecDepth 20000 in
theorem ggX5_passedBy_X2_rateOf : GoodIn wsX5_passedBy wsX2_rateOf := goodIn_r _ [15, 16, 17, 18, 19, 6, 20, 51, 52, 53, 54, 55, 56, 57, 58] (by decide +kernel) (by decide +kernel)
set_option maxRecDepth 20000 in
theorem gX5_passedBy_X2_rateOf : GoodIn wsX5_passedBy (wsV RX5 293 RX2 yX2_rateOf wsX2_rateOf) := goodIn_app (goodIn_of _ (by decide +kernel)) ggX5_passedBy_X2_rateOf
set_option maxRecDepth 20000 in
theorem ggX5_passedBy_X2_teethOf : GoodIn wsX5_passedBy wsX2_teethOf := goodIn_r _ [24, 25, 9, 10, 11, 51, 52, 53, 54, 55, 56, 57, 58] (by decide +kernel) (by decide +kernel)
set_option maxRecDepth 20000 in
theorem gX5_passedBy_X2_teethOf : GoodIn wsX5_passedBy (wsV RX5 143 RX2 yX2_teethOf wsX2_teethOf) := goodIn_app (goodIn_of _ (by decide +kernel)) ggX5_passedBy_X2_teethOf
set_option maxRecDepth 20000 in
theorem ggX5_passedBy_X1_times : GoodIn wsX5_passedBy wsX1_times := goodIn_r _ [30, 31, 32, 29, 33, 34, 35, 36, 37, 38, 39, 40, 41, 10, 42, 59, 60] (by decide +kernel) (by decide +kernel)
set_option maxRecDepth 20000 in
theorem gX5_passedBy_X1_times : GoodIn wsX5_passedBy (wsV RX5 303 RX1 yX1_times wsX1_times) := goodIn_app (goodIn_of _ (by decide +kernel)) ggX5_passedBy_X1_times
set_option maxRecDepth 20000 in
theorem ggX5_cellAt_X2_turnedAt : GoodIn wsX5_cellAt wsX2_turnedAt := goodIn_r _ [7, 8, 9, 10, 6, 11, 12, 13, 14, 15, 16, 17, 18, 19, 20, 21, 22, 23, 24, 25, 26, 27, 28, 29, 30, 31, 32, 33, 34, 58, 59, 60, 61, 62, 63, 64, 65, 66, 67] (by decide +kernel) (by decide +kernel)
set_option maxRecDepth 20000 in
theorem gX5_cellAt_X2_turnedAt : GoodIn wsX5_cellAt (wsV RX5 296 RX2 yX2_turnedAt wsX2_turnedAt) := goodIn_app (goodIn_of _ (by decide +kernel)) ggX5_cellAt_X2_turnedAt
set_option maxRecDepth 20000 in
theorem ggX5_cellAt_X1_withoutWhole : GoodIn wsX5_cellAt wsX1_withoutWhole := goodIn_r _ [38, 25, 22, 23, 20, 24, 39, 40, 41, 42, 26, 27, 28, 29, 30, 31, 32, 33, 34, 66, 67] (by decide +kernel) (by decide +kernel)
set_option maxRecDepth 20000 in
theorem gX5_cellAt_X1_withoutWhole : GoodIn wsX5_cellAt (wsV RX5 299 RX1 yX1_withoutWhole wsX1_withoutWhole) := goodIn_app (goodIn_of _ (by decide +kernel)) ggX5_cellAt_X1_withoutWhole
set_option maxRecDepth 20000 in
theorem ggX5_cellAt_X5_at : GoodIn wsX5_cellAt wsX5_at := goodIn_r _ [45] (by decide +kernel) (by decide +kernel)
set_option maxRecDepth 20000 in
theorem gX5_cellAt_X5_at : GoodIn wsX5_cellAt (va_wsS RX5 90 yX5_at wsX5_at) := goodIn_app (goodIn_of _ (by decide +kernel)) ggX5_cellAt_X5_at
set_option maxRecDepth 20000 in
theorem ggX5_cellAt_X1_cellOf : GoodIn wsX5_cellAt wsX1_cellOf := goodIn_r _ [49, 25, 24, 66, 67] (by decide +kernel) (by decide +kernel)
set_option maxRecDepth 20000 in
theorem gX5_cellAt_X1_cellOf : GoodIn wsX5_cellAt (wsV RX5 307 RX1 yX1_cellOf wsX1_cellOf) := goodIn_app (goodIn_of _ (by decide +kernel)) ggX5_cellAt_X1_cellOf
set_option maxRecDepth 20000 in
theorem ggX5_doMeshesPassAlike_X5_passedBy : GoodIn wsX5_doMeshesPassAlike wsX5_passedBy := goodIn_r _ [7, 1, 8, 9, 10, 11, 12, 13, 14, 15, 6, 16, 17, 18, 19, 20, 21, 22, 23, 24, 25, 26, 27, 28, 29, 30, 31, 32, 33, 34, 35, 36, 37, 38, 39, 40, 41, 42, 43, 44, 45, 46, 47, 63, 64, 65, 66, 67, 68, 69, 70, 71, 72, 73, 74, 75, 76, 77, 78, 79, 80] (by decide +kernel) (by decide +kernel)
set_option maxRecDepth 20000 in
theorem gX5_doMeshesPassAlike_X5_passedBy : GoodIn wsX5_doMeshesPassAlike (wsV RX5 152 RX5 yX5_passedBy wsX5_passedBy) := goodIn_app (goodIn_of _ (by decide +kernel)) ggX5_doMeshesPassAlike_X5_passedBy
set_option maxRecDepth 20000 in
theorem ggX5_doMeshesPassAlike_X2_areMeshed : GoodIn wsX5_doMeshesPassAlike wsX2_areMeshed := goodIn_r _ [51, 52, 53, 54, 12, 55, 56, 15, 6, 16, 57, 58, 71, 72, 73, 74, 75, 76, 77, 78] (by decide +kernel) (by decide +kernel)
set_option maxRecDepth 20000 in
theorem gX5_doMeshesPassAlike_X2_areMeshed : GoodIn wsX5_doMeshesPassAlike (wsV RX5 81 RX2 yX2_areMeshed wsX2_areMeshed) := goodIn_app (goodIn_of _ (by decide +kernel)) ggX5_doMeshesPassAlike_X2_areMeshed
set_option maxRecDepth 20000 in
theorem ggX5_doMeshesPassAlike_X1_isOppositeOf : GoodIn wsX5_doMeshesPassAlike wsX1_isOppositeOf := goodIn_r _ [62, 38, 39, 79, 80] (by decide +kernel) (by decide +kernel)
set_option maxRecDepth 20000 in
theorem gX5_doMeshesPassAlike_X1_isOppositeOf : GoodIn wsX5_doMeshesPassAlike (wsV RX5 322 RX1 yX1_isOppositeOf wsX1_isOppositeOf) := goodIn_app (goodIn_of _ (by decide +kernel)) ggX5_doMeshesPassAlike_X1_isOppositeOf
set_option maxRecDepth 20000 in
theorem ggX5_mixedAxles_X5_axleFraction : GoodIn wsX5_mixedAxles wsX5_axleFraction := goodIn_r _ [6, 7, 1, 8, 9, 10, 11, 12, 13, 14, 15, 16, 17, 18, 19, 20, 21, 22, 23, 24, 25, 26, 27, 28, 29, 30, 31, 32, 33, 34, 35, 36, 37, 38, 5, 39, 40, 41, 42, 43, 44, 45, 46, 47, 69, 70, 71, 72, 73, 74, 75, 76, 77, 78, 79, 80, 81, 82, 83, 84, 85, 86] (by decide +kernel) (by decide +kernel)
set_option maxRecDepth 20000 in
theorem gX5_mixedAxles_X5_axleFraction : GoodIn wsX5_mixedAxles (wsV RX5 130 RX5 yX5_axleFraction wsX5_axleFraction) := goodIn_app (goodIn_of _ (by decide +kernel)) ggX5_mixedAxles_X5_axleFraction
set_option maxRecDepth 20000 in
theorem ggX5_mixedAxles_X5_mixedFraction : GoodIn wsX5_mixedAxles wsX5_mixedFraction := goodIn_r _ [50, 51, 52, 53, 54, 5, 55, 56, 85, 86] (by decide +kernel) (by decide +kernel)
set_option maxRecDepth 20000 in
theorem gX5_mixedAxles_X5_mixedFraction : GoodIn wsX5_mixedAxles (va_wsS RX5 326 yX5_mixedFraction wsX5_mixedFraction) := goodIn_app (goodIn_of _ (by decide +kernel)) ggX5_mixedAxles_X5_mixedFraction
set_option maxRecDepth 20000 in
theorem ggX5_mixedAxles_X5_cellAt : GoodIn wsX5_mixedAxles wsX5_cellAt := goodIn_r _ [60, 7, 61, 18, 19, 20, 11, 21, 22, 9, 10, 12, 13, 14, 15, 16, 17, 23, 24, 25, 26, 27, 28, 29, 30, 31, 32, 33, 34, 35, 36, 37, 38, 5, 39, 40, 41, 42, 43, 44, 45, 46, 47, 62, 63, 64, 65, 66, 67, 68, 69, 70, 71, 72, 73, 74, 75, 76, 77, 78, 79, 80, 81, 82, 83, 84, 85, 86] (by decide +kernel) (by decide +kernel)
set_option maxRecDepth 20000 in
theorem gX5_mixedAxles_X5_cellAt : GoodIn wsX5_mixedAxles (wsV RX5 160 RX5 yX5_cellAt wsX5_cellAt) := goodIn_app (goodIn_of _ (by decide +kernel)) ggX5_mixedAxles_X5_cellAt
set_option maxRecDepth 20000 in
theorem ggX5_mixedAxles_X5_mixed : GoodIn wsX5_mixedAxles wsX5_mixed := goodIn_r _ [55, 56] (by decide +kernel) (by decide +kernel)
set_option maxRecDepth 20000 in
theorem gX5_mixedAxles_X5_mixed : GoodIn wsX5_mixedAxles (va_wsS RX5 253 yX5_mixed wsX5_mixed) := goodIn_app (goodIn_of _ (by decide +kernel)) ggX5_mixedAxles_X5_mixed
set_option maxRecDepth 20000 in
theorem ggX5_mixedWheels_X5_ofWheel : GoodIn wsX5_mixedWheels wsX5_ofWheel := goodIn_ca (goodIn_ca (goodIn_r _ [7, 1, 8, 9, 10, 6, 11, 2, 12, 13, 14, 15, 16, 17, 18, 19, 20, 21, 22, 23, 24, 25, 26, 27, 28, 29, 30, 31, 32, 33, 34, 35, 36, 37, 38, 39, 40, 41, 42, 43, 44, 45, 46, 47, 48, 49, 50, 87, 88, 89, 90, 91, 92, 93, 94, 95, 96, 97, 98, 99, 100, 101, 102] (by decide +kernel) (by decide +kernel)) (goodIn_sub (fun _ h => List.mem_cons_of_mem _ (List.mem_append_left _ (List.mem_append_right _ h))) (by decide +kernel))) (goodIn_sub (fun _ h => List.mem_cons_of_mem _ (List.mem_append_right _ h)) (by decide +kernel))
set_option maxRecDepth 20000 in
theorem gX5_mixedWheels_X5_ofWheel : GoodIn wsX5_mixedWheels (wsV RX5 330 RX5 yX5_ofWheel wsX5_ofWheel) := goodIn_app (goodIn_of _ (by decide +kernel)) ggX5_mixedWheels_X5_ofWheel
set_option maxRecDepth 20000 in
theorem ggX5_mixedWheels_X5_mixed : GoodIn wsX5_mixedWheels wsX5_mixed := goodIn_r _ [53, 54] (by decide +kernel) (by decide +kernel)
set_option maxRecDepth 20000 in
theorem gX5_mixedWheels_X5_mixed : GoodIn wsX5_mixedWheels (va_wsS RX5 253 yX5_mixed wsX5_mixed) := goodIn_app (goodIn_of _ (by decide +kernel)) ggX5_mixedWheels_X5_mixed
set_option maxRecDepth 20000 in
theorem ggX5_mixedWheels_X5_passedBy : GoodIn wsX5_mixedWheels wsX5_passedBy := goodIn_r _ [58, 1, 59, 25, 26, 27, 28, 29, 30, 31, 6, 32, 60, 61, 62, 63, 47, 64, 48, 49, 50, 33, 34, 35, 36, 37, 65, 66, 67, 68, 69, 70, 71, 72, 73, 74, 75, 76, 77, 78, 79, 80, 81, 87, 88, 89, 90, 91, 92, 93, 94, 95, 96, 97, 98, 99, 100, 101, 102, 103, 104] (by decide +kernel) (by decide +kernel)
set_option maxRecDepth 20000 in
theorem gX5_mixedWheels_X5_passedBy : GoodIn wsX5_mixedWheels (wsV RX5 152 RX5 yX5_passedBy wsX5_passedBy) := goodIn_app (goodIn_of _ (by decide +kernel)) ggX5_mixedWheels_X5_passedBy
set_option maxRecDepth 20000 in
theorem ggX5_mixedWheels_X5_mixedFraction : GoodIn wsX5_mixedWheels wsX5_mixedFraction := goodIn_r _ [84, 85, 86, 51, 52, 6, 53, 54, 103, 104] (by decide +kernel) (by decide +kernel)
set_option maxRecDepth 20000 in
theorem gX5_mixedWheels_X5_mixedFraction : GoodIn wsX5_mixedWheels (va_wsS RX5 326 yX5_mixedFraction wsX5_mixedFraction) := goodIn_app (goodIn_of _ (by decide +kernel)) ggX5_mixedWheels_X5_mixedFraction
set_option maxRecDepth 20000 in
theorem ggX5_mixedFraction_X5_mixed : GoodIn wsX5_mixedFraction wsX5_mixed := goodIn_r _ [6, 7] (by decide +kernel) (by decide +kernel)
set_option maxRecDepth 20000 in
theorem gX5_mixedFraction_X5_mixed : GoodIn wsX5_mixedFraction (va_wsS RX5 253 yX5_mixed wsX5_mixed) := goodIn_app (goodIn_of _ (by decide +kernel)) ggX5_mixedFraction_X5_mixed
