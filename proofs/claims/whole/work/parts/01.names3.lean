theorem dX10_wide_25 : decode cX10_wide 25 = .ok (.aload_n 0, 1) := by decide +kernel
theorem dX10_wide_26 : decode cX10_wide 26 = .ok (.getfield 10, 3) := by decide +kernel
theorem dX10_wide_29 : decode cX10_wide 29 = .ok (.getfield 97, 3) := by decide +kernel
theorem dX10_wide_32 : decode cX10_wide 32 = .ok (.iload_n 1, 1) := by decide +kernel
theorem dX10_wide_33 : decode cX10_wide 33 = .ok (.invokestatic 86, 3) := by decide +kernel
theorem dX10_wide_36 : decode cX10_wide 36 = .ok (.istore_n 3, 1) := by decide +kernel
theorem dX10_wide_37 : decode cX10_wide 37 = .ok (.aload_n 0, 1) := by decide +kernel
theorem dX10_wide_38 : decode cX10_wide 38 = .ok (.getfield 10, 3) := by decide +kernel
theorem dX10_wide_41 : decode cX10_wide 41 = .ok (.getfield 97, 3) := by decide +kernel
theorem dX10_wide_44 : decode cX10_wide 44 = .ok (.iload_n 1, 1) := by decide +kernel
theorem dX10_wide_45 : decode cX10_wide 45 = .ok (.iload_n 2, 1) := by decide +kernel
theorem dX10_wide_46 : decode cX10_wide 46 = .ok (.invokestatic 90, 3) := by decide +kernel
theorem dX10_wide_49 : decode cX10_wide 49 = .ok (.iload_n 3, 1) := by decide +kernel
theorem dX10_wide_50 : decode cX10_wide 50 = .ok (.ireturn, 1) := by decide +kernel
set_option maxRecDepth 20000 in
theorem ggX10_delay_X10_isRow : GoodIn wsX10_delay wsX10_isRow := goodIn_r _ [5] (by decide +kernel) (by decide +kernel)
set_option maxRecDepth 20000 in
theorem gX10_delay_X10_isRow : GoodIn wsX10_delay (va_wsS RX10 100 yX10_isRow wsX10_isRow) := goodIn_app (goodIn_of _ (by decide +kernel)) ggX10_delay_X10_isRow
set_option maxRecDepth 20000 in
theorem ggX10_delay_X10_within : GoodIn wsX10_delay wsX10_within := goodIn_r _ [8] (by decide +kernel) (by decide +kernel)
set_option maxRecDepth 20000 in
theorem gX10_delay_X10_within : GoodIn wsX10_delay (va_wsS RX10 78 yX10_within wsX10_within) := goodIn_app (goodIn_of _ (by decide +kernel)) ggX10_delay_X10_within
set_option maxRecDepth 20000 in
theorem ggX10_delay_X10_at : GoodIn wsX10_delay wsX10_at := goodIn_r _ [11] (by decide +kernel) (by decide +kernel)
set_option maxRecDepth 20000 in
theorem gX10_delay_X10_at : GoodIn wsX10_delay (va_wsS RX10 86 yX10_at wsX10_at) := goodIn_app (goodIn_of _ (by decide +kernel)) ggX10_delay_X10_at
set_option maxRecDepth 20000 in
theorem ggX10_delay_X10_put : GoodIn wsX10_delay wsX10_put := goodIn_r _ [14] (by decide +kernel) (by decide +kernel)
set_option maxRecDepth 20000 in
theorem gX10_delay_X10_put : GoodIn wsX10_delay (va_wsS RX10 90 yX10_put wsX10_put) := goodIn_app (goodIn_of _ (by decide +kernel)) ggX10_delay_X10_put
theorem dX10_delay_0 : decode cX10_delay 0 = .ok (.iload_n 1, 1) := by decide +kernel
theorem dX10_delay_1 : decode cX10_delay 1 = .ok (.invokestatic 100, 3) := by decide +kernel
theorem dX10_delay_4 : decode cX10_delay 4 = .ok (.ifCond .eq 13, 3) := by decide +kernel
theorem dX10_delay_7 : decode cX10_delay 7 = .ok (.iload_n 2, 1) := by decide +kernel
theorem dX10_delay_8 : decode cX10_delay 8 = .ok (.iconst 0, 1) := by decide +kernel
theorem dX10_delay_9 : decode cX10_delay 9 = .ok (.bipush 20, 2) := by decide +kernel
theorem dX10_delay_11 : decode cX10_delay 11 = .ok (.invokestatic 78, 3) := by decide +kernel
theorem dX10_delay_14 : decode cX10_delay 14 = .ok (.ifCond .ne 6, 3) := by decide +kernel
theorem dX10_delay_17 : decode cX10_delay 17 = .ok (.bipush (-2), 2) := by decide +kernel
theorem dX10_delay_19 : decode cX10_delay 19 = .ok (.ireturn, 1) := by decide +kernel
theorem dX10_delay_20 : decode cX10_delay 20 = .ok (.aload_n 0, 1) := by decide +kernel
theorem dX10_delay_21 : decode cX10_delay 21 = .ok (.getfield 10, 3) := by decide +kernel
theorem dX10_delay_24 : decode cX10_delay 24 = .ok (.getfield 104, 3) := by decide +kernel
theorem dX10_delay_27 : decode cX10_delay 27 = .ok (.iload_n 1, 1) := by decide +kernel
theorem dX10_delay_28 : decode cX10_delay 28 = .ok (.invokestatic 86, 3) := by decide +kernel
theorem dX10_delay_31 : decode cX10_delay 31 = .ok (.istore_n 3, 1) := by decide +kernel
theorem dX10_delay_32 : decode cX10_delay 32 = .ok (.aload_n 0, 1) := by decide +kernel
theorem dX10_delay_33 : decode cX10_delay 33 = .ok (.getfield 10, 3) := by decide +kernel
theorem dX10_delay_36 : decode cX10_delay 36 = .ok (.getfield 104, 3) := by decide +kernel
theorem dX10_delay_39 : decode cX10_delay 39 = .ok (.iload_n 1, 1) := by decide +kernel
theorem dX10_delay_40 : decode cX10_delay 40 = .ok (.iload_n 2, 1) := by decide +kernel
theorem dX10_delay_41 : decode cX10_delay 41 = .ok (.invokestatic 90, 3) := by decide +kernel
theorem dX10_delay_44 : decode cX10_delay 44 = .ok (.iload_n 3, 1) := by decide +kernel
theorem dX10_delay_45 : decode cX10_delay 45 = .ok (.ireturn, 1) := by decide +kernel
set_option maxRecDepth 20000 in
theorem ggX10_say_X10_within : GoodIn wsX10_say wsX10_within := goodIn_r _ [5] (by decide +kernel) (by decide +kernel)
set_option maxRecDepth 20000 in
theorem gX10_say_X10_within : GoodIn wsX10_say (va_wsS RX10 78 yX10_within wsX10_within) := goodIn_app (goodIn_of _ (by decide +kernel)) ggX10_say_X10_within
set_option maxRecDepth 20000 in
theorem ggX10_say_X4_write : GoodIn wsX10_say wsX4_write := goodIn_r _ [10, 11, 12, 13, 4, 14, 27, 28] (by decide +kernel) (by decide +kernel)
set_option maxRecDepth 20000 in
theorem gX10_say_X4_write : GoodIn wsX10_say (wsV RX10 110 RX4 yX4_write wsX4_write) := goodIn_app (goodIn_of _ (by decide +kernel)) ggX10_say_X4_write
theorem dX10_say_0 : decode cX10_say 0 = .ok (.iload_n 1, 1) := by decide +kernel
theorem dX10_say_1 : decode cX10_say 1 = .ok (.bipush 33, 2) := by decide +kernel
theorem dX10_say_3 : decode cX10_say 3 = .ok (.bipush 126, 2) := by decide +kernel
theorem dX10_say_5 : decode cX10_say 5 = .ok (.invokestatic 78, 3) := by decide +kernel
theorem dX10_say_8 : decode cX10_say 8 = .ok (.ifCond .ne 6, 3) := by decide +kernel
theorem dX10_say_11 : decode cX10_say 11 = .ok (.bipush (-2), 2) := by decide +kernel
theorem dX10_say_13 : decode cX10_say 13 = .ok (.ireturn, 1) := by decide +kernel
theorem dX10_say_14 : decode cX10_say 14 = .ok (.aload_n 0, 1) := by decide +kernel
theorem dX10_say_15 : decode cX10_say 15 = .ok (.getfield 32, 3) := by decide +kernel
theorem dX10_say_18 : decode cX10_say 18 = .ok (.getfield 107, 3) := by decide +kernel
theorem dX10_say_21 : decode cX10_say 21 = .ok (.bipush 60, 2) := by decide +kernel
theorem dX10_say_23 : decode cX10_say 23 = .ok (.if_icmp .lt 6, 3) := by decide +kernel
theorem dX10_say_26 : decode cX10_say 26 = .ok (.bipush (-4), 2) := by decide +kernel
theorem dX10_say_28 : decode cX10_say 28 = .ok (.ireturn, 1) := by decide +kernel
theorem dX10_say_29 : decode cX10_say 29 = .ok (.aload_n 0, 1) := by decide +kernel
theorem dX10_say_30 : decode cX10_say 30 = .ok (.getfield 32, 3) := by decide +kernel
theorem dX10_say_33 : decode cX10_say 33 = .ok (.iload_n 1, 1) := by decide +kernel
theorem dX10_say_34 : decode cX10_say 34 = .ok (.invokevirtual 110, 3) := by decide +kernel
theorem dX10_say_37 : decode cX10_say 37 = .ok (.aload_n 0, 1) := by decide +kernel
theorem dX10_say_38 : decode cX10_say 38 = .ok (.getfield 32, 3) := by decide +kernel
theorem dX10_say_41 : decode cX10_say 41 = .ok (.getfield 107, 3) := by decide +kernel
theorem dX10_say_44 : decode cX10_say 44 = .ok (.ireturn, 1) := by decide +kernel
set_option maxRecDepth 20000 in
theorem ggX10_wipe_X4_empty : GoodIn wsX10_wipe wsX4_empty := goodIn_r _ [6, 7, 20, 21] (by decide +kernel) (by decide +kernel)
set_option maxRecDepth 20000 in
theorem gX10_wipe_X4_empty : GoodIn wsX10_wipe (wsV RX10 114 RX4 yX4_empty wsX4_empty) := goodIn_app (goodIn_of _ (by decide +kernel)) ggX10_wipe_X4_empty
theorem dX10_wipe_0 : decode cX10_wipe 0 = .ok (.aload_n 0, 1) := by decide +kernel
theorem dX10_wipe_1 : decode cX10_wipe 1 = .ok (.getfield 32, 3) := by decide +kernel
theorem dX10_wipe_4 : decode cX10_wipe 4 = .ok (.invokevirtual 114, 3) := by decide +kernel
theorem dX10_wipe_7 : decode cX10_wipe 7 = .ok (.ireturn, 1) := by decide +kernel
set_option maxRecDepth 20000 in
theorem ggX10_fault_X4_firstFault : GoodIn wsX10_fault wsX4_firstFault := goodIn_r _ [6, 7, 8, 9, 10, 11, 12, 13, 5, 14, 15, 16, 17, 18, 19, 20, 33, 34] (by decide +kernel) (by decide +kernel)
set_option maxRecDepth 20000 in
theorem gX10_fault_X4_firstFault : GoodIn wsX10_fault (wsV RX10 118 RX4 yX4_firstFault wsX4_firstFault) := goodIn_app (goodIn_of _ (by decide +kernel)) ggX10_fault_X4_firstFault
theorem dX10_fault_0 : decode cX10_fault 0 = .ok (.aload_n 0, 1) := by decide +kernel
theorem dX10_fault_1 : decode cX10_fault 1 = .ok (.getfield 32, 3) := by decide +kernel
theorem dX10_fault_4 : decode cX10_fault 4 = .ok (.invokevirtual 118, 3) := by decide +kernel
theorem dX10_fault_7 : decode cX10_fault 7 = .ok (.ireturn, 1) := by decide +kernel
set_option maxRecDepth 20000 in
theorem ggX10_judge_X10_within : GoodIn wsX10_judge wsX10_within := goodIn_r _ [8] (by decide +kernel) (by decide +kernel)
set_option maxRecDepth 20000 in
theorem gX10_judge_X10_within : GoodIn wsX10_judge (va_wsS RX10 78 yX10_within wsX10_within) := goodIn_app (goodIn_of _ (by decide +kernel)) ggX10_judge_X10_within
set_option maxRecDepth 20000 in
theorem ggX10_judge_X4_firstFault : GoodIn wsX10_judge wsX4_firstFault := goodIn_r _ [13, 14, 15, 16, 7, 17, 18, 19, 12, 20, 21, 22, 23, 24, 25, 26, 119, 120] (by decide +kernel) (by decide +kernel)
set_option maxRecDepth 20000 in
theorem gX10_judge_X4_firstFault : GoodIn wsX10_judge (wsV RX10 118 RX4 yX4_firstFault wsX4_firstFault) := goodIn_app (goodIn_of _ (by decide +kernel)) ggX10_judge_X4_firstFault
set_option maxRecDepth 20000 in
theorem ggX10_judge_X6_play : GoodIn wsX10_judge wsX6_play := goodIn_r _ [31, 32, 33, 34, 35, 36, 37, 38, 39, 40, 41, 42, 43, 44, 45, 46, 7, 47, 48, 49, 50, 51, 52, 53, 54, 55, 56, 57, 58, 59, 60, 61, 62, 63, 64, 65, 66, 12, 67, 15, 16, 17, 21, 22, 23, 68, 69, 70, 71, 72, 73, 74, 75, 76, 77, 78, 79, 80, 81, 82, 83, 84, 85, 86, 87, 88, 89, 90, 91, 92, 93, 94, 95, 96, 97, 98, 99, 100, 101, 102, 103, 104, 117, 118, 119, 120, 121, 122, 123, 124, 125, 126, 127, 128, 129, 130, 131, 132, 133] (by decide +kernel) (by decide +kernel)
set_option maxRecDepth 20000 in
theorem gX10_judge_X6_play : GoodIn wsX10_judge (wsV RX10 121 RX6 yX6_play wsX6_play) := goodIn_app (goodIn_of _ (by decide +kernel)) ggX10_judge_X6_play
theorem dX10_judge_0 : decode cX10_judge 0 = .ok (.iload_n 1, 1) := by decide +kernel
theorem dX10_judge_1 : decode cX10_judge 1 = .ok (.iconst 0, 1) := by decide +kernel
theorem dX10_judge_2 : decode cX10_judge 2 = .ok (.iconst 1, 1) := by decide +kernel
theorem dX10_judge_3 : decode cX10_judge 3 = .ok (.invokestatic 78, 3) := by decide +kernel
theorem dX10_judge_6 : decode cX10_judge 6 = .ok (.ifCond .ne 6, 3) := by decide +kernel
theorem dX10_judge_9 : decode cX10_judge 9 = .ok (.bipush (-2), 2) := by decide +kernel
theorem dX10_judge_11 : decode cX10_judge 11 = .ok (.ireturn, 1) := by decide +kernel
theorem dX10_judge_12 : decode cX10_judge 12 = .ok (.aload_n 0, 1) := by decide +kernel
theorem dX10_judge_13 : decode cX10_judge 13 = .ok (.getfield 32, 3) := by decide +kernel
theorem dX10_judge_16 : decode cX10_judge 16 = .ok (.invokevirtual 118, 3) := by decide +kernel
theorem dX10_judge_19 : decode cX10_judge 19 = .ok (.bipush (-6), 2) := by decide +kernel
theorem dX10_judge_21 : decode cX10_judge 21 = .ok (.if_icmp .eq 6, 3) := by decide +kernel
theorem dX10_judge_24 : decode cX10_judge 24 = .ok (.bipush (-5), 2) := by decide +kernel
theorem dX10_judge_26 : decode cX10_judge 26 = .ok (.ireturn, 1) := by decide +kernel
theorem dX10_judge_27 : decode cX10_judge 27 = .ok (.aload_n 0, 1) := by decide +kernel
theorem dX10_judge_28 : decode cX10_judge 28 = .ok (.getfield 39, 3) := by decide +kernel
theorem dX10_judge_31 : decode cX10_judge 31 = .ok (.aload_n 0, 1) := by decide +kernel
theorem dX10_judge_32 : decode cX10_judge 32 = .ok (.getfield 32, 3) := by decide +kernel
theorem dX10_judge_35 : decode cX10_judge 35 = .ok (.aload_n 0, 1) := by decide +kernel
theorem dX10_judge_36 : decode cX10_judge 36 = .ok (.getfield 10, 3) := by decide +kernel
theorem dX10_judge_39 : decode cX10_judge 39 = .ok (.aload_n 0, 1) := by decide +kernel
theorem dX10_judge_40 : decode cX10_judge 40 = .ok (.getfield 16, 3) := by decide +kernel
theorem dX10_judge_43 : decode cX10_judge 43 = .ok (.invokevirtual 121, 3) := by decide +kernel
theorem dX10_judge_46 : decode cX10_judge 46 = .ok (.aload_n 0, 1) := by decide +kernel
theorem dX10_judge_47 : decode cX10_judge 47 = .ok (.getfield 39, 3) := by decide +kernel
theorem dX10_judge_50 : decode cX10_judge 50 = .ok (.getfield 125, 3) := by decide +kernel
theorem dX10_judge_53 : decode cX10_judge 53 = .ok (.ifCond .ne 6, 3) := by decide +kernel
theorem dX10_judge_56 : decode cX10_judge 56 = .ok (.bipush (-6), 2) := by decide +kernel
theorem dX10_judge_58 : decode cX10_judge 58 = .ok (.ireturn, 1) := by decide +kernel
theorem dX10_judge_59 : decode cX10_judge 59 = .ok (.iload_n 1, 1) := by decide +kernel
theorem dX10_judge_60 : decode cX10_judge 60 = .ok (.ifCond .ne 13, 3) := by decide +kernel
theorem dX10_judge_63 : decode cX10_judge 63 = .ok (.aload_n 0, 1) := by decide +kernel
theorem dX10_judge_64 : decode cX10_judge 64 = .ok (.getfield 39, 3) := by decide +kernel
theorem dX10_judge_67 : decode cX10_judge 67 = .ok (.getfield 128, 3) := by decide +kernel
theorem dX10_judge_70 : decode cX10_judge 70 = .ok (.goto 10, 3) := by decide +kernel
theorem dX10_judge_73 : decode cX10_judge 73 = .ok (.aload_n 0, 1) := by decide +kernel
theorem dX10_judge_74 : decode cX10_judge 74 = .ok (.getfield 39, 3) := by decide +kernel
theorem dX10_judge_77 : decode cX10_judge 77 = .ok (.getfield 125, 3) := by decide +kernel
theorem dX10_judge_80 : decode cX10_judge 80 = .ok (.ireturn, 1) := by decide +kernel
set_option maxRecDepth 20000 in
theorem ggX10_done_X10_daysCanBe : GoodIn wsX10_done wsX10_daysCanBe := goodIn_r _ [9, 3, 4, 1, 2, 10, 11, 12, 13, 14, 15, 16, 17, 8, 18, 19, 20, 21, 22, 23, 24, 25, 26, 27, 28, 29, 30, 31, 32, 33, 34, 35, 36, 37, 38, 39, 40, 41, 42, 43, 44, 45, 46, 47, 48, 49, 50, 51, 52, 53, 54, 55, 56, 57, 58, 59, 60, 61, 62, 63, 64, 65, 66, 67, 68, 69, 70, 71, 72, 73, 74, 75, 76, 77, 78, 79, 80, 81, 82, 83, 84, 85, 86, 87, 88, 89, 90, 91, 92, 93, 94, 95, 96, 97, 98, 99, 100, 101, 102, 103, 104, 105, 111, 112, 113, 114, 115, 116, 117, 118, 119, 120, 121, 122, 130, 131, 132, 133, 123, 124, 125, 126, 127, 128, 129, 134, 135, 136, 137, 138, 139] (by decide +kernel) (by decide +kernel)
set_option maxRecDepth 20000 in
theorem gX10_done_X10_daysCanBe : GoodIn wsX10_done (wsV RX10 131 RX10 yX10_daysCanBe wsX10_daysCanBe) := goodIn_app (goodIn_of _ (by decide +kernel)) ggX10_done_X10_daysCanBe
set_option maxRecDepth 20000 in
theorem ggX10_done_X7_takeFrom : GoodIn wsX10_done wsX7_takeFrom := goodIn_r _ [53, 54, 55, 56, 47, 8, 48, 134, 135, 136] (by decide +kernel) (by decide +kernel)
set_option maxRecDepth 20000 in
theorem gX10_done_X7_takeFrom : GoodIn wsX10_done (wsV RX10 139 RX7 yX7_takeFrom wsX7_takeFrom) := goodIn_app (goodIn_of _ (by decide +kernel)) ggX10_done_X7_takeFrom
set_option maxRecDepth 20000 in
theorem ggX10_done_X4_empty : GoodIn wsX10_done wsX4_empty := goodIn_r _ [110, 15, 132, 133] (by decide +kernel) (by decide +kernel)
set_option maxRecDepth 20000 in
theorem gX10_done_X4_empty : GoodIn wsX10_done (wsV RX10 114 RX4 yX4_empty wsX4_empty) := goodIn_app (goodIn_of _ (by decide +kernel)) ggX10_done_X4_empty
theorem dX10_done_0 : decode cX10_done 0 = .ok (.aload_n 0, 1) := by decide +kernel
theorem dX10_done_1 : decode cX10_done 1 = .ok (.invokevirtual 131, 3) := by decide +kernel
theorem dX10_done_4 : decode cX10_done 4 = .ok (.ifCond .ne 6, 3) := by decide +kernel
theorem dX10_done_7 : decode cX10_done 7 = .ok (.bipush (-5), 2) := by decide +kernel
theorem dX10_done_9 : decode cX10_done 9 = .ok (.ireturn, 1) := by decide +kernel
theorem dX10_done_10 : decode cX10_done 10 = .ok (.aload_n 0, 1) := by decide +kernel
theorem dX10_done_11 : decode cX10_done 11 = .ok (.getfield 10, 3) := by decide +kernel
theorem dX10_done_14 : decode cX10_done 14 = .ok (.getfield 135, 3) := by decide +kernel
theorem dX10_done_17 : decode cX10_done 17 = .ok (.aload_n 0, 1) := by decide +kernel
theorem dX10_done_18 : decode cX10_done 18 = .ok (.getfield 16, 3) := by decide +kernel
theorem dX10_done_21 : decode cX10_done 21 = .ok (.getfield 135, 3) := by decide +kernel
theorem dX10_done_24 : decode cX10_done 24 = .ok (.invokevirtual 139, 3) := by decide +kernel
theorem dX10_done_27 : decode cX10_done 27 = .ok (.aload_n 0, 1) := by decide +kernel
theorem dX10_done_28 : decode cX10_done 28 = .ok (.getfield 32, 3) := by decide +kernel
theorem dX10_done_31 : decode cX10_done 31 = .ok (.invokevirtual 114, 3) := by decide +kernel
theorem dX10_done_34 : decode cX10_done 34 = .ok (.pop, 1) := by decide +kernel
theorem dX10_done_35 : decode cX10_done 35 = .ok (.aload_n 0, 1) := by decide +kernel
theorem dX10_done_36 : decode cX10_done 36 = .ok (.getfield 39, 3) := by decide +kernel
theorem dX10_done_39 : decode cX10_done 39 = .ok (.getfield 128, 3) := by decide +kernel
theorem dX10_done_42 : decode cX10_done 42 = .ok (.ireturn, 1) := by decide +kernel
set_option maxRecDepth 20000 in
theorem ggX10_place_X10_isRow : GoodIn wsX10_place wsX10_isRow := goodIn_r _ [5] (by decide +kernel) (by decide +kernel)
set_option maxRecDepth 20000 in
theorem gX10_place_X10_isRow : GoodIn wsX10_place (va_wsS RX10 100 yX10_isRow wsX10_isRow) := goodIn_app (goodIn_of _ (by decide +kernel)) ggX10_place_X10_isRow
set_option maxRecDepth 20000 in
theorem ggX10_place_X10_within : GoodIn wsX10_place wsX10_within := goodIn_r _ [8] (by decide +kernel) (by decide +kernel)
set_option maxRecDepth 20000 in
theorem gX10_place_X10_within : GoodIn wsX10_place (va_wsS RX10 78 yX10_within wsX10_within) := goodIn_app (goodIn_of _ (by decide +kernel)) ggX10_place_X10_within
set_option maxRecDepth 20000 in
theorem ggX10_place_X10_daysCanBe : GoodIn wsX10_place wsX10_daysCanBe := goodIn_r _ [12, 13, 14, 15, 1, 16, 17, 18, 19, 20, 21, 22, 23, 4, 24, 25, 26, 27, 28, 29, 30, 31, 32, 33, 34, 35, 36, 37, 38, 39, 40, 41, 42, 43, 44, 45, 46, 47, 48, 49, 50, 51, 52, 53, 54, 55, 56, 57, 58, 59, 60, 61, 62, 63, 64, 65, 66, 67, 68, 69, 70, 71, 72, 73, 74, 75, 76, 77, 78, 79, 80, 81, 82, 83, 84, 85, 86, 87, 88, 89, 90, 91, 92, 93, 94, 95, 96, 97, 98, 99, 100, 101, 102, 103, 104, 105, 106, 107, 108, 109, 110, 111, 116, 117, 118, 119, 120, 121, 122, 123, 124, 125, 126, 127, 135, 136, 137, 138, 128, 129, 130, 131, 132, 133, 134, 139, 140, 141, 142, 143, 144] (by decide +kernel) (by decide +kernel)
set_option maxRecDepth 20000 in
theorem gX10_place_X10_daysCanBe : GoodIn wsX10_place (wsV RX10 131 RX10 yX10_daysCanBe wsX10_daysCanBe) := goodIn_app (goodIn_of _ (by decide +kernel)) ggX10_place_X10_daysCanBe
set_option maxRecDepth 20000 in
theorem ggX10_place_X7_whoIsAt : GoodIn wsX10_place wsX7_whoIsAt := goodIn_r _ [115, 60, 61, 23, 4, 24, 139, 140, 141] (by decide +kernel) (by decide +kernel)
set_option maxRecDepth 20000 in
theorem gX10_place_X7_whoIsAt : GoodIn wsX10_place (wsV RX10 145 RX7 yX7_whoIsAt wsX7_whoIsAt) := goodIn_app (goodIn_of _ (by decide +kernel)) ggX10_place_X7_whoIsAt
theorem dX10_place_0 : decode cX10_place 0 = .ok (.iload_n 1, 1) := by decide +kernel
theorem dX10_place_1 : decode cX10_place 1 = .ok (.invokestatic 100, 3) := by decide +kernel
theorem dX10_place_4 : decode cX10_place 4 = .ok (.ifCond .eq 12, 3) := by decide +kernel
theorem dX10_place_7 : decode cX10_place 7 = .ok (.iload_n 2, 1) := by decide +kernel
theorem dX10_place_8 : decode cX10_place 8 = .ok (.iconst 0, 1) := by decide +kernel
theorem dX10_place_9 : decode cX10_place 9 = .ok (.iconst 5, 1) := by decide +kernel
theorem dX10_place_10 : decode cX10_place 10 = .ok (.invokestatic 78, 3) := by decide +kernel
theorem dX10_place_13 : decode cX10_place 13 = .ok (.ifCond .ne 6, 3) := by decide +kernel
theorem dX10_place_16 : decode cX10_place 16 = .ok (.bipush (-2), 2) := by decide +kernel
theorem dX10_place_18 : decode cX10_place 18 = .ok (.ireturn, 1) := by decide +kernel
theorem dX10_place_19 : decode cX10_place 19 = .ok (.aload_n 0, 1) := by decide +kernel
theorem dX10_place_20 : decode cX10_place 20 = .ok (.invokevirtual 131, 3) := by decide +kernel
theorem dX10_place_23 : decode cX10_place 23 = .ok (.ifCond .eq 18, 3) := by decide +kernel
theorem dX10_place_26 : decode cX10_place 26 = .ok (.aload_n 0, 1) := by decide +kernel
theorem dX10_place_27 : decode cX10_place 27 = .ok (.getfield 16, 3) := by decide +kernel
theorem dX10_place_30 : decode cX10_place 30 = .ok (.getfield 135, 3) := by decide +kernel
theorem dX10_place_33 : decode cX10_place 33 = .ok (.iload_n 1, 1) := by decide +kernel
theorem dX10_place_34 : decode cX10_place 34 = .ok (.iload_n 2, 1) := by decide +kernel
theorem dX10_place_35 : decode cX10_place 35 = .ok (.invokevirtual 145, 3) := by decide +kernel
theorem dX10_place_38 : decode cX10_place 38 = .ok (.goto 5, 3) := by decide +kernel
theorem dX10_place_41 : decode cX10_place 41 = .ok (.bipush (-5), 2) := by decide +kernel
theorem dX10_place_43 : decode cX10_place 43 = .ok (.ireturn, 1) := by decide +kernel
set_option maxRecDepth 20000 in
theorem ggX10_of_X10_within : GoodIn wsX10_of wsX10_within := goodIn_r _ [5] (by decide +kernel) (by decide +kernel)
set_option maxRecDepth 20000 in
theorem gX10_of_X10_within : GoodIn wsX10_of (va_wsS RX10 78 yX10_within wsX10_within) := goodIn_app (goodIn_of _ (by decide +kernel)) ggX10_of_X10_within
set_option maxRecDepth 20000 in
theorem ggX10_of_X10_daysCanBe : GoodIn wsX10_of wsX10_daysCanBe := goodIn_r _ [9, 10, 11, 12, 1, 13, 14, 15, 16, 17, 18, 19, 20, 4, 21, 22, 23, 24, 25, 26, 27, 28, 29, 30, 31, 32, 33, 34, 35, 36, 37, 38, 39, 40, 41, 42, 43, 44, 45, 46, 47, 48, 49, 50, 51, 52, 53, 54, 55, 56, 57, 58, 59, 60, 61, 62, 63, 64, 65, 66, 67, 68, 69, 70, 71, 72, 73, 74, 75, 76, 77, 78, 79, 80, 81, 82, 83, 84, 85, 86, 87, 88, 89, 90, 91, 92, 93, 94, 95, 96, 97, 98, 99, 100, 101, 102, 103, 104, 105, 106, 107, 108, 110, 111, 112, 113, 114, 115, 116, 117, 118, 119, 120, 121, 132, 133, 134, 135, 122, 123, 124, 125, 126, 127, 128, 129, 130, 131, 136, 137, 138] (by decide +kernel) (by decide +kernel)
set_option maxRecDepth 20000 in
theorem gX10_of_X10_daysCanBe : GoodIn wsX10_of (wsV RX10 131 RX10 yX10_daysCanBe wsX10_daysCanBe) := goodIn_app (goodIn_of _ (by decide +kernel)) ggX10_of_X10_daysCanBe
set_option maxRecDepth 20000 in
theorem ggX10_of_X10_at : GoodIn wsX10_of wsX10_at := goodIn_r _ [21] (by decide +kernel) (by decide +kernel)
set_option maxRecDepth 20000 in
theorem gX10_of_X10_at : GoodIn wsX10_of (va_wsS RX10 86 yX10_at wsX10_at) := goodIn_app (goodIn_of _ (by decide +kernel)) ggX10_of_X10_at
theorem dX10_of_0 : decode cX10_of 0 = .ok (.iload_n 1, 1) := by decide +kernel
theorem dX10_of_1 : decode cX10_of 1 = .ok (.iconst 0, 1) := by decide +kernel
theorem dX10_of_2 : decode cX10_of 2 = .ok (.bipush 9, 2) := by decide +kernel
theorem dX10_of_4 : decode cX10_of 4 = .ok (.invokestatic 78, 3) := by decide +kernel
theorem dX10_of_7 : decode cX10_of 7 = .ok (.ifCond .ne 5, 3) := by decide +kernel
theorem dX10_of_10 : decode cX10_of 10 = .ok (.iconst (-1), 1) := by decide +kernel
theorem dX10_of_11 : decode cX10_of 11 = .ok (.ireturn, 1) := by decide +kernel
theorem dX10_of_12 : decode cX10_of 12 = .ok (.iload_n 2, 1) := by decide +kernel
theorem dX10_of_13 : decode cX10_of 13 = .ok (.iconst 0, 1) := by decide +kernel
theorem dX10_of_14 : decode cX10_of 14 = .ok (.iconst 1, 1) := by decide +kernel
theorem dX10_of_15 : decode cX10_of 15 = .ok (.invokestatic 78, 3) := by decide +kernel
theorem dX10_of_18 : decode cX10_of 18 = .ok (.ifCond .ne 6, 3) := by decide +kernel
theorem dX10_of_21 : decode cX10_of 21 = .ok (.bipush (-2), 2) := by decide +kernel
theorem dX10_of_23 : decode cX10_of 23 = .ok (.ireturn, 1) := by decide +kernel
theorem dX10_of_24 : decode cX10_of 24 = .ok (.aload_n 0, 1) := by decide +kernel
theorem dX10_of_25 : decode cX10_of 25 = .ok (.invokevirtual 131, 3) := by decide +kernel
theorem dX10_of_28 : decode cX10_of 28 = .ok (.ifCond .ne 6, 3) := by decide +kernel
theorem dX10_of_31 : decode cX10_of 31 = .ok (.bipush (-5), 2) := by decide +kernel
theorem dX10_of_33 : decode cX10_of 33 = .ok (.ireturn, 1) := by decide +kernel
theorem dX10_of_34 : decode cX10_of 34 = .ok (.iload_n 2, 1) := by decide +kernel
theorem dX10_of_35 : decode cX10_of 35 = .ok (.ifCond .ne 20, 3) := by decide +kernel
theorem dX10_of_38 : decode cX10_of 38 = .ok (.aload_n 0, 1) := by decide +kernel
theorem dX10_of_39 : decode cX10_of 39 = .ok (.getfield 16, 3) := by decide +kernel
theorem dX10_of_42 : decode cX10_of 42 = .ok (.getfield 135, 3) := by decide +kernel
theorem dX10_of_45 : decode cX10_of 45 = .ok (.getfield 149, 3) := by decide +kernel
theorem dX10_of_48 : decode cX10_of 48 = .ok (.iload_n 1, 1) := by decide +kernel
theorem dX10_of_49 : decode cX10_of 49 = .ok (.invokestatic 86, 3) := by decide +kernel
theorem dX10_of_52 : decode cX10_of 52 = .ok (.goto 17, 3) := by decide +kernel
theorem dX10_of_55 : decode cX10_of 55 = .ok (.aload_n 0, 1) := by decide +kernel
theorem dX10_of_56 : decode cX10_of 56 = .ok (.getfield 16, 3) := by decide +kernel
theorem dX10_of_59 : decode cX10_of 59 = .ok (.getfield 135, 3) := by decide +kernel
theorem dX10_of_62 : decode cX10_of 62 = .ok (.getfield 152, 3) := by decide +kernel
theorem dX10_of_65 : decode cX10_of 65 = .ok (.iload_n 1, 1) := by decide +kernel
theorem dX10_of_66 : decode cX10_of 66 = .ok (.invokestatic 86, 3) := by decide +kernel
theorem dX10_of_69 : decode cX10_of 69 = .ok (.ireturn, 1) := by decide +kernel
set_option maxRecDepth 20000 in
theorem ggX10_bells_X10_daysCanBe : GoodIn wsX10_bells wsX10_daysCanBe := goodIn_r _ [6, 7, 8, 9, 1, 10, 11, 12, 13, 14, 15, 16, 17, 5, 18, 19, 20, 21, 22, 23, 24, 25, 26, 27, 28, 29, 30, 31, 32, 33, 34, 35, 36, 37, 38, 39, 40, 41, 42, 43, 44, 45, 46, 47, 48, 49, 50, 51, 52, 53, 54, 55, 56, 57, 58, 59, 60, 61, 62, 63, 64, 65, 66, 67, 68, 69, 70, 71, 72, 73, 74, 75, 76, 77, 78, 79, 80, 81, 82, 83, 84, 85, 86, 87, 88, 89, 90, 91, 92, 93, 94, 95, 96, 97, 98, 99, 100, 101, 102, 103, 104, 105, 106, 107, 108, 109, 110, 111, 112, 113, 114, 115, 116, 117, 128, 129, 130, 131, 118, 119, 120, 121, 122, 123, 124, 125, 126, 127, 132, 133, 134] (by decide +kernel) (by decide +kernel)
set_option maxRecDepth 20000 in
theorem gX10_bells_X10_daysCanBe : GoodIn wsX10_bells (wsV RX10 131 RX10 yX10_daysCanBe wsX10_daysCanBe) := goodIn_app (goodIn_of _ (by decide +kernel)) ggX10_bells_X10_daysCanBe
theorem dX10_bells_0 : decode cX10_bells 0 = .ok (.aload_n 0, 1) := by decide +kernel
theorem dX10_bells_1 : decode cX10_bells 1 = .ok (.invokevirtual 131, 3) := by decide +kernel
theorem dX10_bells_4 : decode cX10_bells 4 = .ok (.ifCond .eq 16, 3) := by decide +kernel
theorem dX10_bells_7 : decode cX10_bells 7 = .ok (.aload_n 0, 1) := by decide +kernel
theorem dX10_bells_8 : decode cX10_bells 8 = .ok (.getfield 16, 3) := by decide +kernel
theorem dX10_bells_11 : decode cX10_bells 11 = .ok (.getfield 135, 3) := by decide +kernel
theorem dX10_bells_14 : decode cX10_bells 14 = .ok (.getfield 155, 3) := by decide +kernel
theorem dX10_bells_17 : decode cX10_bells 17 = .ok (.goto 5, 3) := by decide +kernel
theorem dX10_bells_20 : decode cX10_bells 20 = .ok (.bipush (-5), 2) := by decide +kernel
theorem dX10_bells_22 : decode cX10_bells 22 = .ok (.ireturn, 1) := by decide +kernel
set_option maxRecDepth 20000 in
theorem ggX10_meets_X10_within : GoodIn wsX10_meets wsX10_within := goodIn_r _ [6] (by decide +kernel) (by decide +kernel)
set_option maxRecDepth 20000 in
theorem gX10_meets_X10_within : GoodIn wsX10_meets (va_wsS RX10 78 yX10_within wsX10_within) := goodIn_app (goodIn_of _ (by decide +kernel)) ggX10_meets_X10_within
set_option maxRecDepth 20000 in
theorem ggX10_meets_X1_count : GoodIn wsX10_meets wsX1_count := goodIn_r _ [11, 12, 13, 14, 15, 16, 5, 17, 18, 19, 20, 10, 21, 22, 23, 24, 25, 26, 27, 28, 29, 30, 31, 4, 6, 32, 33, 34, 35, 36, 37, 38, 39, 40, 41, 42, 43, 44, 45, 46, 59, 60, 61, 62, 63, 64, 65, 66, 67, 68, 69, 70, 71, 72, 73] (by decide +kernel) (by decide +kernel)
set_option maxRecDepth 20000 in
theorem gX10_meets_X1_count : GoodIn wsX10_meets (wsV RX10 158 RX1 yX1_count wsX1_count) := goodIn_app (goodIn_of _ (by decide +kernel)) ggX10_meets_X1_count
theorem dX10_meets_0 : decode cX10_meets 0 = .ok (.iload_n 1, 1) := by decide +kernel
theorem dX10_meets_1 : decode cX10_meets 1 = .ok (.iconst 0, 1) := by decide +kernel
theorem dX10_meets_2 : decode cX10_meets 2 = .ok (.iconst 3, 1) := by decide +kernel
theorem dX10_meets_3 : decode cX10_meets 3 = .ok (.invokestatic 78, 3) := by decide +kernel
theorem dX10_meets_6 : decode cX10_meets 6 = .ok (.ifCond .ne 6, 3) := by decide +kernel
theorem dX10_meets_9 : decode cX10_meets 9 = .ok (.bipush (-2), 2) := by decide +kernel
theorem dX10_meets_11 : decode cX10_meets 11 = .ok (.ireturn, 1) := by decide +kernel
theorem dX10_meets_12 : decode cX10_meets 12 = .ok (.aload_n 0, 1) := by decide +kernel
theorem dX10_meets_13 : decode cX10_meets 13 = .ok (.getfield 46, 3) := by decide +kernel
theorem dX10_meets_16 : decode cX10_meets 16 = .ok (.aload_n 0, 1) := by decide +kernel
theorem dX10_meets_17 : decode cX10_meets 17 = .ok (.getfield 10, 3) := by decide +kernel
theorem dX10_meets_20 : decode cX10_meets 20 = .ok (.invokevirtual 158, 3) := by decide +kernel
theorem dX10_meets_23 : decode cX10_meets 23 = .ok (.iload_n 1, 1) := by decide +kernel
theorem dX10_meets_24 : decode cX10_meets 24 = .ok (.tableswitch 52 0 2 #[28, 36, 44], 28) := by decide +kernel
theorem dX10_meets_52 : decode cX10_meets 52 = .ok (.aload_n 0, 1) := by decide +kernel
theorem dX10_meets_53 : decode cX10_meets 53 = .ok (.getfield 46, 3) := by decide +kernel
theorem dX10_meets_56 : decode cX10_meets 56 = .ok (.getfield 161, 3) := by decide +kernel
theorem dX10_meets_59 : decode cX10_meets 59 = .ok (.ireturn, 1) := by decide +kernel
theorem dX10_meets_60 : decode cX10_meets 60 = .ok (.aload_n 0, 1) := by decide +kernel
theorem dX10_meets_61 : decode cX10_meets 61 = .ok (.getfield 46, 3) := by decide +kernel
theorem dX10_meets_64 : decode cX10_meets 64 = .ok (.getfield 164, 3) := by decide +kernel
theorem dX10_meets_67 : decode cX10_meets 67 = .ok (.ireturn, 1) := by decide +kernel
theorem dX10_meets_68 : decode cX10_meets 68 = .ok (.aload_n 0, 1) := by decide +kernel
theorem dX10_meets_69 : decode cX10_meets 69 = .ok (.getfield 46, 3) := by decide +kernel
theorem dX10_meets_72 : decode cX10_meets 72 = .ok (.getfield 167, 3) := by decide +kernel
theorem dX10_meets_75 : decode cX10_meets 75 = .ok (.ireturn, 1) := by decide +kernel
theorem dX10_meets_76 : decode cX10_meets 76 = .ok (.aload_n 0, 1) := by decide +kernel
theorem dX10_meets_77 : decode cX10_meets 77 = .ok (.getfield 46, 3) := by decide +kernel
theorem dX10_meets_80 : decode cX10_meets 80 = .ok (.getfield 170, 3) := by decide +kernel
theorem dX10_meets_83 : decode cX10_meets 83 = .ok (.ireturn, 1) := by decide +kernel
set_option maxRecDepth 20000 in
theorem ggX10_runs_X8_emptyFrom : GoodIn wsX10_runs wsX8_emptyFrom := goodIn_r _ [10, 11, 12, 13, 14, 15, 16, 17, 18, 19, 20, 21, 34, 35, 36, 37, 38, 39, 40, 41, 42, 43] (by decide +kernel) (by decide +kernel)
set_option maxRecDepth 20000 in
theorem gX10_runs_X8_emptyFrom : GoodIn wsX10_runs (wsV RX10 173 RX8 yX8_emptyFrom wsX8_emptyFrom) := goodIn_app (goodIn_of _ (by decide +kernel)) ggX10_runs_X8_emptyFrom
theorem dX10_runs_0 : decode cX10_runs 0 = .ok (.aload_n 0, 1) := by decide +kernel
theorem dX10_runs_1 : decode cX10_runs 1 = .ok (.getfield 10, 3) := by decide +kernel
theorem dX10_runs_4 : decode cX10_runs 4 = .ok (.iconst 0, 1) := by decide +kernel
theorem dX10_runs_5 : decode cX10_runs 5 = .ok (.invokevirtual 173, 3) := by decide +kernel
theorem dX10_runs_8 : decode cX10_runs 8 = .ok (.aload_n 0, 1) := by decide +kernel
theorem dX10_runs_9 : decode cX10_runs 9 = .ok (.getfield 10, 3) := by decide +kernel
theorem dX10_runs_12 : decode cX10_runs 12 = .ok (.iconst 1, 1) := by decide +kernel
theorem dX10_runs_13 : decode cX10_runs 13 = .ok (.invokevirtual 173, 3) := by decide +kernel
theorem dX10_runs_16 : decode cX10_runs 16 = .ok (.invokestatic 177, 3) := by decide +kernel
theorem dX10_runs_19 : decode cX10_runs 19 = .ok (.ireturn, 1) := by decide +kernel
set_option maxRecDepth 20000 in
theorem ggX10_order_X10_isRow : GoodIn wsX10_order wsX10_isRow := goodIn_r _ [6] (by decide +kernel) (by decide +kernel)
set_option maxRecDepth 20000 in
theorem gX10_order_X10_isRow : GoodIn wsX10_order (va_wsS RX10 100 yX10_isRow wsX10_isRow) := goodIn_app (goodIn_of _ (by decide +kernel)) ggX10_order_X10_isRow
set_option maxRecDepth 20000 in
theorem ggX10_order_X10_within : GoodIn wsX10_order wsX10_within := goodIn_r _ [9] (by decide +kernel) (by decide +kernel)
set_option maxRecDepth 20000 in
theorem gX10_order_X10_within : GoodIn wsX10_order (va_wsS RX10 78 yX10_within wsX10_within) := goodIn_app (goodIn_of _ (by decide +kernel)) ggX10_order_X10_within
set_option maxRecDepth 20000 in
theorem ggX10_order_X3_gather : GoodIn wsX10_order wsX3_gather := goodIn_r _ [14, 15, 16, 17, 5, 18, 19, 20, 104, 105, 106, 107, 108, 109, 110] (by decide +kernel) (by decide +kernel)
set_option maxRecDepth 20000 in
theorem gX10_order_X3_gather : GoodIn wsX10_order (wsV RX10 182 RX3 yX3_gather wsX3_gather) := goodIn_app (goodIn_of _ (by decide +kernel)) ggX10_order_X3_gather
set_option maxRecDepth 20000 in
theorem ggX10_order_X3_countClashes : GoodIn wsX10_order wsX3_countClashes := goodIn_r _ [24, 15, 25, 16, 26, 17, 5, 18, 27, 28, 29, 30, 31, 32, 33, 34, 35, 36, 37, 38, 39, 40, 8, 9, 41, 42, 43, 44, 45, 46, 47, 48, 49, 50, 19, 20, 51, 52, 53, 13, 54, 55, 56, 57, 58, 59, 60, 61, 62, 63, 64, 65, 66, 67, 68, 69, 70, 71, 72, 73, 74, 75, 76, 104, 105, 106, 107, 97, 98, 99, 100, 101, 102, 103, 108, 109, 110] (by decide +kernel) (by decide +kernel)
set_option maxRecDepth 20000 in
theorem gX10_order_X3_countClashes : GoodIn wsX10_order (wsV RX10 186 RX3 yX3_countClashes wsX3_countClashes) := goodIn_app (goodIn_of _ (by decide +kernel)) ggX10_order_X3_countClashes
set_option maxRecDepth 20000 in
theorem ggX10_order_X3_answerForAll : GoodIn wsX10_order wsX3_answerForAll := goodIn_r _ [80, 26, 51, 52, 53, 13, 54, 15, 17, 5, 18, 104, 105, 106, 107] (by decide +kernel) (by decide +kernel)
set_option maxRecDepth 20000 in
theorem gX10_order_X3_answerForAll : GoodIn wsX10_order (wsV RX10 190 RX3 yX3_answerForAll wsX3_answerForAll) := goodIn_app (goodIn_of _ (by decide +kernel)) ggX10_order_X3_answerForAll
set_option maxRecDepth 20000 in
theorem ggX10_order_X3_firstOfFewest : GoodIn wsX10_order wsX3_firstOfFewest := goodIn_r _ [84, 15, 26, 16, 51, 52, 53, 13, 54, 60, 61, 62, 63, 64, 65, 66, 25, 67, 68, 69, 70, 71, 72, 73, 17, 5, 18, 74, 75, 76, 104, 105, 106, 107] (by decide +kernel) (by decide +kernel)
set_option maxRecDepth 20000 in
theorem gX10_order_X3_firstOfFewest : GoodIn wsX10_order (wsV RX10 193 RX3 yX3_firstOfFewest wsX3_firstOfFewest) := goodIn_app (goodIn_of _ (by decide +kernel)) ggX10_order_X3_firstOfFewest
theorem dX10_order_0 : decode cX10_order 0 = .ok (.iload_n 1, 1) := by decide +kernel
theorem dX10_order_1 : decode cX10_order 1 = .ok (.invokestatic 100, 3) := by decide +kernel
theorem dX10_order_4 : decode cX10_order 4 = .ok (.ifCond .eq 12, 3) := by decide +kernel
theorem dX10_order_7 : decode cX10_order 7 = .ok (.iload_n 2, 1) := by decide +kernel
theorem dX10_order_8 : decode cX10_order 8 = .ok (.iconst 0, 1) := by decide +kernel
theorem dX10_order_9 : decode cX10_order 9 = .ok (.iconst 1, 1) := by decide +kernel
theorem dX10_order_10 : decode cX10_order 10 = .ok (.invokestatic 78, 3) := by decide +kernel
theorem dX10_order_13 : decode cX10_order 13 = .ok (.ifCond .ne 6, 3) := by decide +kernel
theorem dX10_order_16 : decode cX10_order 16 = .ok (.bipush (-2), 2) := by decide +kernel
theorem dX10_order_18 : decode cX10_order 18 = .ok (.ireturn, 1) := by decide +kernel
theorem dX10_order_19 : decode cX10_order 19 = .ok (.aload_n 0, 1) := by decide +kernel
theorem dX10_order_20 : decode cX10_order 20 = .ok (.getfield 53, 3) := by decide +kernel
theorem dX10_order_23 : decode cX10_order 23 = .ok (.aload_n 0, 1) := by decide +kernel
theorem dX10_order_24 : decode cX10_order 24 = .ok (.getfield 10, 3) := by decide +kernel
theorem dX10_order_27 : decode cX10_order 27 = .ok (.getfield 135, 3) := by decide +kernel
theorem dX10_order_30 : decode cX10_order 30 = .ok (.iload_n 1, 1) := by decide +kernel
theorem dX10_order_31 : decode cX10_order 31 = .ok (.invokevirtual 182, 3) := by decide +kernel
theorem dX10_order_34 : decode cX10_order 34 = .ok (.aload_n 0, 1) := by decide +kernel
theorem dX10_order_35 : decode cX10_order 35 = .ok (.getfield 53, 3) := by decide +kernel
theorem dX10_order_38 : decode cX10_order 38 = .ok (.aload_n 0, 1) := by decide +kernel
theorem dX10_order_39 : decode cX10_order 39 = .ok (.getfield 10, 3) := by decide +kernel
theorem dX10_order_42 : decode cX10_order 42 = .ok (.iload_n 1, 1) := by decide +kernel
theorem dX10_order_43 : decode cX10_order 43 = .ok (.invokevirtual 186, 3) := by decide +kernel
theorem dX10_order_46 : decode cX10_order 46 = .ok (.iload_n 2, 1) := by decide +kernel
theorem dX10_order_47 : decode cX10_order 47 = .ok (.ifCond .ne 13, 3) := by decide +kernel
theorem dX10_order_50 : decode cX10_order 50 = .ok (.aload_n 0, 1) := by decide +kernel
theorem dX10_order_51 : decode cX10_order 51 = .ok (.getfield 53, 3) := by decide +kernel
theorem dX10_order_54 : decode cX10_order 54 = .ok (.invokevirtual 190, 3) := by decide +kernel
theorem dX10_order_57 : decode cX10_order 57 = .ok (.goto 10, 3) := by decide +kernel
theorem dX10_order_60 : decode cX10_order 60 = .ok (.aload_n 0, 1) := by decide +kernel
theorem dX10_order_61 : decode cX10_order 61 = .ok (.getfield 53, 3) := by decide +kernel
theorem dX10_order_64 : decode cX10_order 64 = .ok (.invokevirtual 193, 3) := by decide +kernel
theorem dX10_order_67 : decode cX10_order 67 = .ok (.ireturn, 1) := by decide +kernel
set_option maxRecDepth 20000 in
theorem ggX10_start_X10_within : GoodIn wsX10_start wsX10_within := goodIn_r _ [8] (by decide +kernel) (by decide +kernel)
set_option maxRecDepth 20000 in
theorem gX10_start_X10_within : GoodIn wsX10_start (va_wsS RX10 78 yX10_within wsX10_within) := goodIn_app (goodIn_of _ (by decide +kernel)) ggX10_start_X10_within
set_option maxRecDepth 20000 in
theorem ggX10_start_X8_takeFrom : GoodIn wsX10_start wsX8_takeFrom := goodIn_r _ [13, 14, 15, 16, 17, 18, 19, 20, 21, 7, 22, 23, 24, 25, 26, 27, 28, 29, 30, 31, 32, 33, 34, 35, 36, 37, 38, 100, 101, 102, 103, 104, 105, 106, 114, 115, 116, 117, 118, 119] (by decide +kernel) (by decide +kernel)
set_option maxRecDepth 20000 in
theorem gX10_start_X8_takeFrom : GoodIn wsX10_start (wsV RX10 196 RX8 yX8_takeFrom wsX8_takeFrom) := goodIn_app (goodIn_of _ (by decide +kernel)) ggX10_start_X8_takeFrom
set_option maxRecDepth 20000 in
theorem ggX10_start_X0_begin : GoodIn wsX10_start wsX0_begin := goodIn_r _ [43, 44, 45, 112, 113] (by decide +kernel) (by decide +kernel)
set_option maxRecDepth 20000 in
theorem gX10_start_X0_begin : GoodIn wsX10_start (wsV RX10 198 RX0 yX0_begin wsX0_begin) := goodIn_app (goodIn_of _ (by decide +kernel)) ggX10_start_X0_begin
set_option maxRecDepth 20000 in
theorem ggX10_start_X10_put : GoodIn wsX10_start wsX10_put := goodIn_r _ [48] (by decide +kernel) (by decide +kernel)
set_option maxRecDepth 20000 in
theorem gX10_start_X10_put : GoodIn wsX10_start (va_wsS RX10 90 yX10_put wsX10_put) := goodIn_app (goodIn_of _ (by decide +kernel)) ggX10_start_X10_put
set_option maxRecDepth 20000 in
theorem ggX10_start_X1_count : GoodIn wsX10_start wsX1_count := goodIn_r _ [53, 54, 55, 56, 57, 58, 7, 59, 60, 61, 62, 52, 63, 64, 65, 66, 12, 67, 17, 18, 68, 69, 70, 6, 8, 71, 72, 73, 74, 16, 75, 76, 77, 78, 14, 79, 80, 81, 82, 83, 107, 108, 109, 110, 111, 100, 101, 102, 103, 104, 105, 106, 114, 115, 116] (by decide +kernel) (by decide +kernel)
set_option maxRecDepth 20000 in
theorem gX10_start_X1_count : GoodIn wsX10_start (wsV RX10 158 RX1 yX1_count wsX1_count) := goodIn_app (goodIn_of _ (by decide +kernel)) ggX10_start_X1_count
set_option maxRecDepth 20000 in
theorem ggX10_start_X0_offer : GoodIn wsX10_start wsX0_offer := goodIn_r _ [87, 44, 45, 112, 113] (by decide +kernel) (by decide +kernel)
set_option maxRecDepth 20000 in
theorem gX10_start_X0_offer : GoodIn wsX10_start (wsV RX10 201 RX0 yX0_offer wsX0_offer) := goodIn_app (goodIn_of _ (by decide +kernel)) ggX10_start_X0_offer
theorem dX10_start_0 : decode cX10_start 0 = .ok (.iload_n 1, 1) := by decide +kernel
theorem dX10_start_1 : decode cX10_start 1 = .ok (.iconst 0, 1) := by decide +kernel
theorem dX10_start_2 : decode cX10_start 2 = .ok (.iconst 1, 1) := by decide +kernel
theorem dX10_start_3 : decode cX10_start 3 = .ok (.invokestatic 78, 3) := by decide +kernel
theorem dX10_start_6 : decode cX10_start 6 = .ok (.ifCond .ne 6, 3) := by decide +kernel
theorem dX10_start_9 : decode cX10_start 9 = .ok (.bipush (-2), 2) := by decide +kernel
theorem dX10_start_11 : decode cX10_start 11 = .ok (.ireturn, 1) := by decide +kernel
theorem dX10_start_12 : decode cX10_start 12 = .ok (.aload_n 0, 1) := by decide +kernel
theorem dX10_start_13 : decode cX10_start 13 = .ok (.getfield 16, 3) := by decide +kernel
theorem dX10_start_16 : decode cX10_start 16 = .ok (.aload_n 0, 1) := by decide +kernel
theorem dX10_start_17 : decode cX10_start 17 = .ok (.getfield 10, 3) := by decide +kernel
theorem dX10_start_20 : decode cX10_start 20 = .ok (.invokevirtual 196, 3) := by decide +kernel
theorem dX10_start_23 : decode cX10_start 23 = .ok (.aload_n 0, 1) := by decide +kernel
theorem dX10_start_24 : decode cX10_start 24 = .ok (.getfield 67, 3) := by decide +kernel
theorem dX10_start_27 : decode cX10_start 27 = .ok (.invokevirtual 198, 3) := by decide +kernel
theorem dX10_start_30 : decode cX10_start 30 = .ok (.iconst 0, 1) := by decide +kernel
theorem dX10_start_31 : decode cX10_start 31 = .ok (.istore_n 2, 1) := by decide +kernel
theorem dX10_start_32 : decode cX10_start 32 = .ok (.iload_n 2, 1) := by decide +kernel
theorem dX10_start_33 : decode cX10_start 33 = .ok (.bipush 20, 2) := by decide +kernel
theorem dX10_start_35 : decode cX10_start 35 = .ok (.if_icmp .gt 47, 3) := by decide +kernel
theorem dX10_start_38 : decode cX10_start 38 = .ok (.aload_n 0, 1) := by decide +kernel
theorem dX10_start_39 : decode cX10_start 39 = .ok (.getfield 16, 3) := by decide +kernel
theorem dX10_start_42 : decode cX10_start 42 = .ok (.getfield 104, 3) := by decide +kernel
theorem dX10_start_45 : decode cX10_start 45 = .ok (.iconst 0, 1) := by decide +kernel
theorem dX10_start_46 : decode cX10_start 46 = .ok (.iload_n 2, 1) := by decide +kernel
theorem dX10_start_47 : decode cX10_start 47 = .ok (.invokestatic 90, 3) := by decide +kernel
theorem dX10_start_50 : decode cX10_start 50 = .ok (.aload_n 0, 1) := by decide +kernel
theorem dX10_start_51 : decode cX10_start 51 = .ok (.getfield 46, 3) := by decide +kernel
theorem dX10_start_54 : decode cX10_start 54 = .ok (.aload_n 0, 1) := by decide +kernel
theorem dX10_start_55 : decode cX10_start 55 = .ok (.getfield 16, 3) := by decide +kernel
theorem dX10_start_58 : decode cX10_start 58 = .ok (.invokevirtual 158, 3) := by decide +kernel
theorem dX10_start_61 : decode cX10_start 61 = .ok (.aload_n 0, 1) := by decide +kernel
theorem dX10_start_62 : decode cX10_start 62 = .ok (.getfield 67, 3) := by decide +kernel
theorem dX10_start_65 : decode cX10_start 65 = .ok (.iload_n 2, 1) := by decide +kernel
theorem dX10_start_66 : decode cX10_start 66 = .ok (.aload_n 0, 1) := by decide +kernel
theorem dX10_start_67 : decode cX10_start 67 = .ok (.getfield 46, 3) := by decide +kernel
theorem dX10_start_70 : decode cX10_start 70 = .ok (.getfield 164, 3) := by decide +kernel
theorem dX10_start_73 : decode cX10_start 73 = .ok (.invokevirtual 201, 3) := by decide +kernel
theorem dX10_start_76 : decode cX10_start 76 = .ok (.iinc 2 1, 3) := by decide +kernel
theorem dX10_start_79 : decode cX10_start 79 = .ok (.goto (-47), 3) := by decide +kernel
theorem dX10_start_82 : decode cX10_start 82 = .ok (.iload_n 1, 1) := by decide +kernel
theorem dX10_start_83 : decode cX10_start 83 = .ok (.ifCond .ne 13, 3) := by decide +kernel
theorem dX10_start_86 : decode cX10_start 86 = .ok (.aload_n 0, 1) := by decide +kernel
theorem dX10_start_87 : decode cX10_start 87 = .ok (.getfield 67, 3) := by decide +kernel
theorem dX10_start_90 : decode cX10_start 90 = .ok (.getfield 205, 3) := by decide +kernel
theorem dX10_start_93 : decode cX10_start 93 = .ok (.goto 10, 3) := by decide +kernel
theorem dX10_start_96 : decode cX10_start 96 = .ok (.aload_n 0, 1) := by decide +kernel
theorem dX10_start_97 : decode cX10_start 97 = .ok (.getfield 67, 3) := by decide +kernel
theorem dX10_start_100 : decode cX10_start 100 = .ok (.getfield 206, 3) := by decide +kernel
theorem dX10_start_103 : decode cX10_start 103 = .ok (.ireturn, 1) := by decide +kernel
set_option maxRecDepth 20000 in
theorem ggX10_door_X10_within : GoodIn wsX10_door wsX10_within := goodIn_r _ [8] (by decide +kernel) (by decide +kernel)
set_option maxRecDepth 20000 in
theorem gX10_door_X10_within : GoodIn wsX10_door (va_wsS RX10 78 yX10_within wsX10_within) := goodIn_app (goodIn_of _ (by decide +kernel)) ggX10_door_X10_within
set_option maxRecDepth 20000 in
theorem ggX10_door_X8_takeFrom : GoodIn wsX10_door wsX8_takeFrom := goodIn_r _ [13, 14, 15, 16, 17, 18, 19, 20, 21, 7, 22, 23, 24, 25, 26, 27, 28, 29, 30, 31, 32, 33, 34, 35, 36, 37, 38, 101, 102, 103, 104, 105, 106, 107, 115, 116, 117, 118, 119, 120] (by decide +kernel) (by decide +kernel)
set_option maxRecDepth 20000 in
theorem gX10_door_X8_takeFrom : GoodIn wsX10_door (wsV RX10 196 RX8 yX8_takeFrom wsX8_takeFrom) := goodIn_app (goodIn_of _ (by decide +kernel)) ggX10_door_X8_takeFrom
set_option maxRecDepth 20000 in
theorem ggX10_door_X0_begin : GoodIn wsX10_door wsX0_begin := goodIn_r _ [43, 44, 45, 113, 114] (by decide +kernel) (by decide +kernel)
set_option maxRecDepth 20000 in
theorem gX10_door_X0_begin : GoodIn wsX10_door (wsV RX10 198 RX0 yX0_begin wsX0_begin) := goodIn_app (goodIn_of _ (by decide +kernel)) ggX10_door_X0_begin
set_option maxRecDepth 20000 in
theorem ggX10_door_X10_at : GoodIn wsX10_door wsX10_at := goodIn_r _ [48] (by decide +kernel) (by decide +kernel)
set_option maxRecDepth 20000 in
theorem gX10_door_X10_at : GoodIn wsX10_door (va_wsS RX10 86 yX10_at wsX10_at) := goodIn_app (goodIn_of _ (by decide +kernel)) ggX10_door_X10_at
set_option maxRecDepth 20000 in
theorem ggX10_door_X10_put : GoodIn wsX10_door wsX10_put := goodIn_r _ [51] (by decide +kernel) (by decide +kernel)
set_option maxRecDepth 20000 in
theorem gX10_door_X10_put : GoodIn wsX10_door (va_wsS RX10 90 yX10_put wsX10_put) := goodIn_app (goodIn_of _ (by decide +kernel)) ggX10_door_X10_put
set_option maxRecDepth 20000 in
theorem ggX10_door_X1_count : GoodIn wsX10_door wsX1_count := goodIn_r _ [56, 57, 58, 59, 60, 47, 7, 48, 61, 62, 63, 55, 64, 65, 66, 67, 12, 68, 17, 18, 69, 70, 71, 6, 8, 72, 73, 74, 75, 16, 76, 77, 78, 79, 14, 80, 81, 82, 83, 84, 108, 109, 110, 111, 112, 101, 102, 103, 104, 105, 106, 107, 115, 116, 117] (by decide +kernel) (by decide +kernel)
set_option maxRecDepth 20000 in
theorem gX10_door_X1_count : GoodIn wsX10_door (wsV RX10 158 RX1 yX1_count wsX1_count) := goodIn_app (goodIn_of _ (by decide +kernel)) ggX10_door_X1_count
set_option maxRecDepth 20000 in
theorem ggX10_door_X0_offer : GoodIn wsX10_door wsX0_offer := goodIn_r _ [88, 44, 45, 113, 114] (by decide +kernel) (by decide +kernel)
set_option maxRecDepth 20000 in
theorem gX10_door_X0_offer : GoodIn wsX10_door (wsV RX10 201 RX0 yX0_offer wsX0_offer) := goodIn_app (goodIn_of _ (by decide +kernel)) ggX10_door_X0_offer
theorem dX10_door_0 : decode cX10_door 0 = .ok (.iload_n 1, 1) := by decide +kernel
theorem dX10_door_1 : decode cX10_door 1 = .ok (.iconst 0, 1) := by decide +kernel
theorem dX10_door_2 : decode cX10_door 2 = .ok (.bipush 30, 2) := by decide +kernel
theorem dX10_door_4 : decode cX10_door 4 = .ok (.invokestatic 78, 3) := by decide +kernel
theorem dX10_door_7 : decode cX10_door 7 = .ok (.ifCond .eq 12, 3) := by decide +kernel
theorem dX10_door_10 : decode cX10_door 10 = .ok (.iload_n 2, 1) := by decide +kernel
theorem dX10_door_11 : decode cX10_door 11 = .ok (.iconst 0, 1) := by decide +kernel
theorem dX10_door_12 : decode cX10_door 12 = .ok (.iconst 1, 1) := by decide +kernel
theorem dX10_door_13 : decode cX10_door 13 = .ok (.invokestatic 78, 3) := by decide +kernel
theorem dX10_door_16 : decode cX10_door 16 = .ok (.ifCond .ne 6, 3) := by decide +kernel
theorem dX10_door_19 : decode cX10_door 19 = .ok (.bipush (-2), 2) := by decide +kernel
theorem dX10_door_21 : decode cX10_door 21 = .ok (.ireturn, 1) := by decide +kernel
theorem dX10_door_22 : decode cX10_door 22 = .ok (.aload_n 0, 1) := by decide +kernel
theorem dX10_door_23 : decode cX10_door 23 = .ok (.getfield 16, 3) := by decide +kernel
theorem dX10_door_26 : decode cX10_door 26 = .ok (.aload_n 0, 1) := by decide +kernel
theorem dX10_door_27 : decode cX10_door 27 = .ok (.getfield 10, 3) := by decide +kernel
theorem dX10_door_30 : decode cX10_door 30 = .ok (.invokevirtual 196, 3) := by decide +kernel
theorem dX10_door_33 : decode cX10_door 33 = .ok (.aload_n 0, 1) := by decide +kernel
theorem dX10_door_34 : decode cX10_door 34 = .ok (.getfield 67, 3) := by decide +kernel
theorem dX10_door_37 : decode cX10_door 37 = .ok (.invokevirtual 198, 3) := by decide +kernel
theorem dX10_door_40 : decode cX10_door 40 = .ok (.iconst 0, 1) := by decide +kernel
theorem dX10_door_41 : decode cX10_door 41 = .ok (.istore_n 3, 1) := by decide +kernel
theorem dX10_door_42 : decode cX10_door 42 = .ok (.iload_n 3, 1) := by decide +kernel
theorem dX10_door_43 : decode cX10_door 43 = .ok (.bipush 17, 2) := by decide +kernel
theorem dX10_door_45 : decode cX10_door 45 = .ok (.if_icmp .ge 76, 3) := by decide +kernel
theorem dX10_door_48 : decode cX10_door 48 = .ok (.aload_n 0, 1) := by decide +kernel
theorem dX10_door_49 : decode cX10_door 49 = .ok (.getfield 16, 3) := by decide +kernel
theorem dX10_door_52 : decode cX10_door 52 = .ok (.getfield 97, 3) := by decide +kernel
theorem dX10_door_55 : decode cX10_door 55 = .ok (.iload_n 3, 1) := by decide +kernel
theorem dX10_door_56 : decode cX10_door 56 = .ok (.invokestatic 86, 3) := by decide +kernel
theorem dX10_door_59 : decode cX10_door 59 = .ok (.istore 4, 2) := by decide +kernel
theorem dX10_door_61 : decode cX10_door 61 = .ok (.aload_n 0, 1) := by decide +kernel
theorem dX10_door_62 : decode cX10_door 62 = .ok (.getfield 16, 3) := by decide +kernel
theorem dX10_door_65 : decode cX10_door 65 = .ok (.getfield 97, 3) := by decide +kernel
theorem dX10_door_68 : decode cX10_door 68 = .ok (.iload_n 3, 1) := by decide +kernel
theorem dX10_door_69 : decode cX10_door 69 = .ok (.iload 4, 2) := by decide +kernel
theorem dX10_door_71 : decode cX10_door 71 = .ok (.iload_n 1, 1) := by decide +kernel
theorem dX10_door_72 : decode cX10_door 72 = .ok (.iadd, 1) := by decide +kernel
theorem dX10_door_73 : decode cX10_door 73 = .ok (.invokestatic 90, 3) := by decide +kernel
theorem dX10_door_76 : decode cX10_door 76 = .ok (.aload_n 0, 1) := by decide +kernel
theorem dX10_door_77 : decode cX10_door 77 = .ok (.getfield 46, 3) := by decide +kernel
theorem dX10_door_80 : decode cX10_door 80 = .ok (.aload_n 0, 1) := by decide +kernel
theorem dX10_door_81 : decode cX10_door 81 = .ok (.getfield 16, 3) := by decide +kernel
theorem dX10_door_84 : decode cX10_door 84 = .ok (.invokevirtual 158, 3) := by decide +kernel
theorem dX10_door_87 : decode cX10_door 87 = .ok (.aload_n 0, 1) := by decide +kernel
theorem dX10_door_88 : decode cX10_door 88 = .ok (.getfield 16, 3) := by decide +kernel
theorem dX10_door_91 : decode cX10_door 91 = .ok (.getfield 97, 3) := by decide +kernel
theorem dX10_door_94 : decode cX10_door 94 = .ok (.iload_n 3, 1) := by decide +kernel
theorem dX10_door_95 : decode cX10_door 95 = .ok (.iload 4, 2) := by decide +kernel
theorem dX10_door_97 : decode cX10_door 97 = .ok (.invokestatic 90, 3) := by decide +kernel
theorem dX10_door_100 : decode cX10_door 100 = .ok (.aload_n 0, 1) := by decide +kernel
theorem dX10_door_101 : decode cX10_door 101 = .ok (.getfield 67, 3) := by decide +kernel
theorem dX10_door_104 : decode cX10_door 104 = .ok (.iload_n 3, 1) := by decide +kernel
theorem dX10_door_105 : decode cX10_door 105 = .ok (.aload_n 0, 1) := by decide +kernel
theorem dX10_door_106 : decode cX10_door 106 = .ok (.getfield 46, 3) := by decide +kernel
theorem dX10_door_109 : decode cX10_door 109 = .ok (.getfield 164, 3) := by decide +kernel
theorem dX10_door_112 : decode cX10_door 112 = .ok (.invokevirtual 201, 3) := by decide +kernel
theorem dX10_door_115 : decode cX10_door 115 = .ok (.iinc 3 1, 3) := by decide +kernel
theorem dX10_door_118 : decode cX10_door 118 = .ok (.goto (-76), 3) := by decide +kernel
theorem dX10_door_121 : decode cX10_door 121 = .ok (.iload_n 2, 1) := by decide +kernel
theorem dX10_door_122 : decode cX10_door 122 = .ok (.ifCond .ne 13, 3) := by decide +kernel
theorem dX10_door_125 : decode cX10_door 125 = .ok (.aload_n 0, 1) := by decide +kernel
theorem dX10_door_126 : decode cX10_door 126 = .ok (.getfield 67, 3) := by decide +kernel
theorem dX10_door_129 : decode cX10_door 129 = .ok (.getfield 205, 3) := by decide +kernel
theorem dX10_door_132 : decode cX10_door 132 = .ok (.goto 10, 3) := by decide +kernel
theorem dX10_door_135 : decode cX10_door 135 = .ok (.aload_n 0, 1) := by decide +kernel
theorem dX10_door_136 : decode cX10_door 136 = .ok (.getfield 67, 3) := by decide +kernel
theorem dX10_door_139 : decode cX10_door 139 = .ok (.getfield 206, 3) := by decide +kernel
theorem dX10_door_142 : decode cX10_door 142 = .ok (.ireturn, 1) := by decide +kernel
set_option maxRecDepth 20000 in
theorem ggX10_grate_X10_within : GoodIn wsX10_grate wsX10_within := goodIn_r _ [7] (by decide +kernel) (by decide +kernel)
set_option maxRecDepth 20000 in
theorem gX10_grate_X10_within : GoodIn wsX10_grate (va_wsS RX10 78 yX10_within wsX10_within) := goodIn_app (goodIn_of _ (by decide +kernel)) ggX10_grate_X10_within
set_option maxRecDepth 20000 in
theorem ggX10_grate_X1_grating : GoodIn wsX10_grate wsX1_grating := goodIn_r _ [12, 13, 6, 14, 15, 16, 11, 17, 18, 19, 20, 21, 22, 23, 24, 25, 26, 27, 28, 29, 30, 31, 5, 7, 57, 58, 59, 60, 61, 62, 63, 64, 65, 66] (by decide +kernel) (by decide +kernel)
set_option maxRecDepth 20000 in
theorem gX10_grate_X1_grating : GoodIn wsX10_grate (wsV RX10 209 RX1 yX1_grating wsX1_grating) := goodIn_app (goodIn_of _ (by decide +kernel)) ggX10_grate_X1_grating
set_option maxRecDepth 20000 in
theorem ggX10_grate_X0_begin : GoodIn wsX10_grate wsX0_begin := goodIn_r _ [36, 37, 38, 55, 56] (by decide +kernel) (by decide +kernel)
set_option maxRecDepth 20000 in
theorem gX10_grate_X0_begin : GoodIn wsX10_grate (wsV RX10 198 RX0 yX0_begin wsX0_begin) := goodIn_app (goodIn_of _ (by decide +kernel)) ggX10_grate_X0_begin
set_option maxRecDepth 20000 in
theorem ggX10_grate_X0_offer : GoodIn wsX10_grate wsX0_offer := goodIn_r _ [42, 37, 38, 55, 56] (by decide +kernel) (by decide +kernel)
set_option maxRecDepth 20000 in
theorem gX10_grate_X0_offer : GoodIn wsX10_grate (wsV RX10 201 RX0 yX0_offer wsX0_offer) := goodIn_app (goodIn_of _ (by decide +kernel)) ggX10_grate_X0_offer
theorem dX10_grate_0 : decode cX10_grate 0 = .ok (.iload_n 1, 1) := by decide +kernel
theorem dX10_grate_1 : decode cX10_grate 1 = .ok (.iconst 0, 1) := by decide +kernel
theorem dX10_grate_2 : decode cX10_grate 2 = .ok (.iconst 2, 1) := by decide +kernel
theorem dX10_grate_3 : decode cX10_grate 3 = .ok (.invokestatic 78, 3) := by decide +kernel
theorem dX10_grate_6 : decode cX10_grate 6 = .ok (.ifCond .ne 6, 3) := by decide +kernel
theorem dX10_grate_9 : decode cX10_grate 9 = .ok (.bipush (-2), 2) := by decide +kernel
theorem dX10_grate_11 : decode cX10_grate 11 = .ok (.ireturn, 1) := by decide +kernel
theorem dX10_grate_12 : decode cX10_grate 12 = .ok (.iload_n 1, 1) := by decide +kernel
theorem dX10_grate_13 : decode cX10_grate 13 = .ok (.ifCond .ne 16, 3) := by decide +kernel
theorem dX10_grate_16 : decode cX10_grate 16 = .ok (.aload_n 0, 1) := by decide +kernel
theorem dX10_grate_17 : decode cX10_grate 17 = .ok (.getfield 46, 3) := by decide +kernel
theorem dX10_grate_20 : decode cX10_grate 20 = .ok (.aload_n 0, 1) := by decide +kernel
theorem dX10_grate_21 : decode cX10_grate 21 = .ok (.getfield 10, 3) := by decide +kernel
theorem dX10_grate_24 : decode cX10_grate 24 = .ok (.iconst 0, 1) := by decide +kernel
theorem dX10_grate_25 : decode cX10_grate 25 = .ok (.invokevirtual 209, 3) := by decide +kernel
theorem dX10_grate_28 : decode cX10_grate 28 = .ok (.ireturn, 1) := by decide +kernel
theorem dX10_grate_29 : decode cX10_grate 29 = .ok (.aload_n 0, 1) := by decide +kernel
theorem dX10_grate_30 : decode cX10_grate 30 = .ok (.getfield 67, 3) := by decide +kernel
theorem dX10_grate_33 : decode cX10_grate 33 = .ok (.invokevirtual 198, 3) := by decide +kernel
theorem dX10_grate_36 : decode cX10_grate 36 = .ok (.iconst 0, 1) := by decide +kernel
theorem dX10_grate_37 : decode cX10_grate 37 = .ok (.istore_n 2, 1) := by decide +kernel
theorem dX10_grate_38 : decode cX10_grate 38 = .ok (.iload_n 2, 1) := by decide +kernel
theorem dX10_grate_39 : decode cX10_grate 39 = .ok (.bipush 12, 2) := by decide +kernel
theorem dX10_grate_41 : decode cX10_grate 41 = .ok (.if_icmp .ge 29, 3) := by decide +kernel
theorem dX10_grate_44 : decode cX10_grate 44 = .ok (.aload_n 0, 1) := by decide +kernel
theorem dX10_grate_45 : decode cX10_grate 45 = .ok (.getfield 67, 3) := by decide +kernel
theorem dX10_grate_48 : decode cX10_grate 48 = .ok (.iload_n 2, 1) := by decide +kernel
theorem dX10_grate_49 : decode cX10_grate 49 = .ok (.aload_n 0, 1) := by decide +kernel
theorem dX10_grate_50 : decode cX10_grate 50 = .ok (.getfield 46, 3) := by decide +kernel
theorem dX10_grate_53 : decode cX10_grate 53 = .ok (.aload_n 0, 1) := by decide +kernel
theorem dX10_grate_54 : decode cX10_grate 54 = .ok (.getfield 10, 3) := by decide +kernel
theorem dX10_grate_57 : decode cX10_grate 57 = .ok (.iload_n 2, 1) := by decide +kernel
theorem dX10_grate_58 : decode cX10_grate 58 = .ok (.invokevirtual 209, 3) := by decide +kernel
theorem dX10_grate_61 : decode cX10_grate 61 = .ok (.invokevirtual 201, 3) := by decide +kernel
theorem dX10_grate_64 : decode cX10_grate 64 = .ok (.iinc 2 1, 3) := by decide +kernel
theorem dX10_grate_67 : decode cX10_grate 67 = .ok (.goto (-29), 3) := by decide +kernel
theorem dX10_grate_70 : decode cX10_grate 70 = .ok (.iload_n 1, 1) := by decide +kernel
theorem dX10_grate_71 : decode cX10_grate 71 = .ok (.iconst 1, 1) := by decide +kernel
theorem dX10_grate_72 : decode cX10_grate 72 = .ok (.if_icmp .ne 13, 3) := by decide +kernel
theorem dX10_grate_75 : decode cX10_grate 75 = .ok (.aload_n 0, 1) := by decide +kernel
theorem dX10_grate_76 : decode cX10_grate 76 = .ok (.getfield 67, 3) := by decide +kernel
theorem dX10_grate_79 : decode cX10_grate 79 = .ok (.getfield 206, 3) := by decide +kernel
theorem dX10_grate_82 : decode cX10_grate 82 = .ok (.goto 10, 3) := by decide +kernel
theorem dX10_grate_85 : decode cX10_grate 85 = .ok (.aload_n 0, 1) := by decide +kernel
theorem dX10_grate_86 : decode cX10_grate 86 = .ok (.getfield 67, 3) := by decide +kernel
theorem dX10_grate_89 : decode cX10_grate 89 = .ok (.getfield 205, 3) := by decide +kernel
theorem dX10_grate_92 : decode cX10_grate 92 = .ok (.ireturn, 1) := by decide +kernel
set_option maxRecDepth 20000 in
theorem ggX10_rule_X10_within : GoodIn wsX10_rule wsX10_within := goodIn_r _ [5] (by decide +kernel) (by decide +kernel)
set_option maxRecDepth 20000 in
theorem gX10_rule_X10_within : GoodIn wsX10_rule (va_wsS RX10 78 yX10_within wsX10_within) := goodIn_app (goodIn_of _ (by decide +kernel)) ggX10_rule_X10_within
set_option maxRecDepth 20000 in
theorem ggX10_rule_X5_append : GoodIn wsX10_rule wsX5_append := goodIn_r _ [10, 11, 12, 13, 14, 4, 15, 35, 36, 37] (by decide +kernel) (by decide +kernel)
set_option maxRecDepth 20000 in
theorem gX10_rule_X5_append : GoodIn wsX10_rule (wsV RX10 220 RX5 yX5_append wsX5_append) := goodIn_app (goodIn_of _ (by decide +kernel)) ggX10_rule_X5_append
theorem dX10_rule_0 : decode cX10_rule 0 = .ok (.iload_n 1, 1) := by decide +kernel
theorem dX10_rule_1 : decode cX10_rule 1 = .ok (.iconst 0, 1) := by decide +kernel
theorem dX10_rule_2 : decode cX10_rule 2 = .ok (.bipush 9, 2) := by decide +kernel
theorem dX10_rule_4 : decode cX10_rule 4 = .ok (.invokestatic 78, 3) := by decide +kernel
theorem dX10_rule_7 : decode cX10_rule 7 = .ok (.ifCond .eq 18, 3) := by decide +kernel
theorem dX10_rule_10 : decode cX10_rule 10 = .ok (.iload_n 2, 1) := by decide +kernel
theorem dX10_rule_11 : decode cX10_rule 11 = .ok (.iconst 0, 1) := by decide +kernel
theorem dX10_rule_12 : decode cX10_rule 12 = .ok (.bipush 9, 2) := by decide +kernel
theorem dX10_rule_14 : decode cX10_rule 14 = .ok (.invokestatic 78, 3) := by decide +kernel
theorem dX10_rule_17 : decode cX10_rule 17 = .ok (.ifCond .eq 8, 3) := by decide +kernel
theorem dX10_rule_20 : decode cX10_rule 20 = .ok (.iload_n 1, 1) := by decide +kernel
theorem dX10_rule_21 : decode cX10_rule 21 = .ok (.iload_n 2, 1) := by decide +kernel
theorem dX10_rule_22 : decode cX10_rule 22 = .ok (.if_icmp .ne 5, 3) := by decide +kernel
theorem dX10_rule_25 : decode cX10_rule 25 = .ok (.iconst (-1), 1) := by decide +kernel
theorem dX10_rule_26 : decode cX10_rule 26 = .ok (.ireturn, 1) := by decide +kernel
theorem dX10_rule_27 : decode cX10_rule 27 = .ok (.aload_n 0, 1) := by decide +kernel
theorem dX10_rule_28 : decode cX10_rule 28 = .ok (.getfield 10, 3) := by decide +kernel
theorem dX10_rule_31 : decode cX10_rule 31 = .ok (.getfield 213, 3) := by decide +kernel
theorem dX10_rule_34 : decode cX10_rule 34 = .ok (.getfield 217, 3) := by decide +kernel
theorem dX10_rule_37 : decode cX10_rule 37 = .ok (.bipush 10, 2) := by decide +kernel
theorem dX10_rule_39 : decode cX10_rule 39 = .ok (.if_icmp .lt 6, 3) := by decide +kernel
theorem dX10_rule_42 : decode cX10_rule 42 = .ok (.bipush (-4), 2) := by decide +kernel
theorem dX10_rule_44 : decode cX10_rule 44 = .ok (.ireturn, 1) := by decide +kernel
theorem dX10_rule_45 : decode cX10_rule 45 = .ok (.aload_n 0, 1) := by decide +kernel
theorem dX10_rule_46 : decode cX10_rule 46 = .ok (.getfield 10, 3) := by decide +kernel
theorem dX10_rule_49 : decode cX10_rule 49 = .ok (.getfield 213, 3) := by decide +kernel
theorem dX10_rule_52 : decode cX10_rule 52 = .ok (.iload_n 1, 1) := by decide +kernel
theorem dX10_rule_53 : decode cX10_rule 53 = .ok (.iload_n 2, 1) := by decide +kernel
theorem dX10_rule_54 : decode cX10_rule 54 = .ok (.invokevirtual 220, 3) := by decide +kernel
theorem dX10_rule_57 : decode cX10_rule 57 = .ok (.aload_n 0, 1) := by decide +kernel
theorem dX10_rule_58 : decode cX10_rule 58 = .ok (.getfield 10, 3) := by decide +kernel
theorem dX10_rule_61 : decode cX10_rule 61 = .ok (.getfield 213, 3) := by decide +kernel
theorem dX10_rule_64 : decode cX10_rule 64 = .ok (.getfield 217, 3) := by decide +kernel
theorem dX10_rule_67 : decode cX10_rule 67 = .ok (.ireturn, 1) := by decide +kernel
set_option maxRecDepth 20000 in
theorem ggX10_unrule_X5_empty : GoodIn wsX10_unrule wsX5_empty := goodIn_r _ [6, 7, 27, 28, 29] (by decide +kernel) (by decide +kernel)
set_option maxRecDepth 20000 in
theorem gX10_unrule_X5_empty : GoodIn wsX10_unrule (wsV RX10 223 RX5 yX5_empty wsX5_empty) := goodIn_app (goodIn_of _ (by decide +kernel)) ggX10_unrule_X5_empty
theorem dX10_unrule_0 : decode cX10_unrule 0 = .ok (.aload_n 0, 1) := by decide +kernel
theorem dX10_unrule_1 : decode cX10_unrule 1 = .ok (.getfield 10, 3) := by decide +kernel
theorem dX10_unrule_4 : decode cX10_unrule 4 = .ok (.getfield 213, 3) := by decide +kernel
theorem dX10_unrule_7 : decode cX10_unrule 7 = .ok (.invokevirtual 223, 3) := by decide +kernel
theorem dX10_unrule_10 : decode cX10_unrule 10 = .ok (.ireturn, 1) := by decide +kernel
set_option maxRecDepth 20000 in
theorem ggX10_orders_X10_isRow : GoodIn wsX10_orders wsX10_isRow := goodIn_r _ [6] (by decide +kernel) (by decide +kernel)
set_option maxRecDepth 20000 in
theorem gX10_orders_X10_isRow : GoodIn wsX10_orders (va_wsS RX10 100 yX10_isRow wsX10_isRow) := goodIn_app (goodIn_of _ (by decide +kernel)) ggX10_orders_X10_isRow
set_option maxRecDepth 20000 in
theorem ggX10_orders_X10_within : GoodIn wsX10_orders wsX10_within := goodIn_r _ [9] (by decide +kernel) (by decide +kernel)
set_option maxRecDepth 20000 in
theorem gX10_orders_X10_within : GoodIn wsX10_orders (va_wsS RX10 78 yX10_within wsX10_within) := goodIn_app (goodIn_of _ (by decide +kernel)) ggX10_orders_X10_within
set_option maxRecDepth 20000 in
theorem ggX10_orders_X3_gather : GoodIn wsX10_orders wsX3_gather := goodIn_r _ [14, 15, 16, 17, 5, 18, 19, 20, 72, 73, 74, 75, 76, 77, 78] (by decide +kernel) (by decide +kernel)
set_option maxRecDepth 20000 in
theorem gX10_orders_X3_gather : GoodIn wsX10_orders (wsV RX10 182 RX3 yX3_gather wsX3_gather) := goodIn_app (goodIn_of _ (by decide +kernel)) ggX10_orders_X3_gather
set_option maxRecDepth 20000 in
theorem ggX10_orders_X3_countOrders : GoodIn wsX10_orders wsX3_countOrders := goodIn_r _ [24, 25, 15, 26, 27, 28, 13, 29, 19, 5, 20, 30, 31, 32, 33, 34, 35, 36, 16, 17, 18, 37, 38, 39, 40, 41, 42, 43, 72, 73, 74, 75, 79, 80, 81] (by decide +kernel) (by decide +kernel)
set_option maxRecDepth 20000 in
theorem gX10_orders_X3_countOrders : GoodIn wsX10_orders (wsV RX10 224 RX3 yX3_countOrders wsX3_countOrders) := goodIn_app (goodIn_of _ (by decide +kernel)) ggX10_orders_X3_countOrders
set_option maxRecDepth 20000 in
theorem ggX10_orders_X3_answerForAll : GoodIn wsX10_orders wsX3_answerForAll := goodIn_r _ [47, 25, 26, 27, 28, 13, 29, 15, 17, 5, 18, 72, 73, 74, 75] (by decide +kernel) (by decide +kernel)
set_option maxRecDepth 20000 in
theorem gX10_orders_X3_answerForAll : GoodIn wsX10_orders (wsV RX10 190 RX3 yX3_answerForAll wsX3_answerForAll) := goodIn_app (goodIn_of _ (by decide +kernel)) ggX10_orders_X3_answerForAll
set_option maxRecDepth 20000 in
theorem ggX10_orders_X3_firstByRules : GoodIn wsX10_orders wsX3_firstByRules := goodIn_r _ [51, 15, 16, 52, 45, 46, 13, 47, 25, 26, 27, 28, 29, 17, 5, 18, 30, 31, 32, 33, 34, 35, 36, 37, 38, 39, 40, 41, 42, 43, 72, 73, 74, 75, 79, 80, 81] (by decide +kernel) (by decide +kernel)
set_option maxRecDepth 20000 in
theorem gX10_orders_X3_firstByRules : GoodIn wsX10_orders (wsV RX10 228 RX3 yX3_firstByRules wsX3_firstByRules) := goodIn_app (goodIn_of _ (by decide +kernel)) ggX10_orders_X3_firstByRules
theorem dX10_orders_0 : decode cX10_orders 0 = .ok (.iload_n 1, 1) := by decide +kernel
theorem dX10_orders_1 : decode cX10_orders 1 = .ok (.invokestatic 100, 3) := by decide +kernel
theorem dX10_orders_4 : decode cX10_orders 4 = .ok (.ifCond .eq 12, 3) := by decide +kernel
theorem dX10_orders_7 : decode cX10_orders 7 = .ok (.iload_n 2, 1) := by decide +kernel
theorem dX10_orders_8 : decode cX10_orders 8 = .ok (.iconst 0, 1) := by decide +kernel
theorem dX10_orders_9 : decode cX10_orders 9 = .ok (.iconst 1, 1) := by decide +kernel
theorem dX10_orders_10 : decode cX10_orders 10 = .ok (.invokestatic 78, 3) := by decide +kernel
theorem dX10_orders_13 : decode cX10_orders 13 = .ok (.ifCond .ne 6, 3) := by decide +kernel
theorem dX10_orders_16 : decode cX10_orders 16 = .ok (.bipush (-2), 2) := by decide +kernel
theorem dX10_orders_18 : decode cX10_orders 18 = .ok (.ireturn, 1) := by decide +kernel
theorem dX10_orders_19 : decode cX10_orders 19 = .ok (.aload_n 0, 1) := by decide +kernel
theorem dX10_orders_20 : decode cX10_orders 20 = .ok (.getfield 53, 3) := by decide +kernel
theorem dX10_orders_23 : decode cX10_orders 23 = .ok (.aload_n 0, 1) := by decide +kernel
theorem dX10_orders_24 : decode cX10_orders 24 = .ok (.getfield 10, 3) := by decide +kernel
theorem dX10_orders_27 : decode cX10_orders 27 = .ok (.getfield 135, 3) := by decide +kernel
theorem dX10_orders_30 : decode cX10_orders 30 = .ok (.iload_n 1, 1) := by decide +kernel
theorem dX10_orders_31 : decode cX10_orders 31 = .ok (.invokevirtual 182, 3) := by decide +kernel
theorem dX10_orders_34 : decode cX10_orders 34 = .ok (.aload_n 0, 1) := by decide +kernel
theorem dX10_orders_35 : decode cX10_orders 35 = .ok (.getfield 53, 3) := by decide +kernel
theorem dX10_orders_38 : decode cX10_orders 38 = .ok (.aload_n 0, 1) := by decide +kernel
theorem dX10_orders_39 : decode cX10_orders 39 = .ok (.getfield 10, 3) := by decide +kernel
theorem dX10_orders_42 : decode cX10_orders 42 = .ok (.getfield 213, 3) := by decide +kernel
theorem dX10_orders_45 : decode cX10_orders 45 = .ok (.invokevirtual 224, 3) := by decide +kernel
theorem dX10_orders_48 : decode cX10_orders 48 = .ok (.iload_n 2, 1) := by decide +kernel
theorem dX10_orders_49 : decode cX10_orders 49 = .ok (.ifCond .ne 13, 3) := by decide +kernel
theorem dX10_orders_52 : decode cX10_orders 52 = .ok (.aload_n 0, 1) := by decide +kernel
theorem dX10_orders_53 : decode cX10_orders 53 = .ok (.getfield 53, 3) := by decide +kernel
theorem dX10_orders_56 : decode cX10_orders 56 = .ok (.invokevirtual 190, 3) := by decide +kernel
theorem dX10_orders_59 : decode cX10_orders 59 = .ok (.goto 17, 3) := by decide +kernel
theorem dX10_orders_62 : decode cX10_orders 62 = .ok (.aload_n 0, 1) := by decide +kernel
theorem dX10_orders_63 : decode cX10_orders 63 = .ok (.getfield 53, 3) := by decide +kernel
theorem dX10_orders_66 : decode cX10_orders 66 = .ok (.aload_n 0, 1) := by decide +kernel
theorem dX10_orders_67 : decode cX10_orders 67 = .ok (.getfield 10, 3) := by decide +kernel
theorem dX10_orders_70 : decode cX10_orders 70 = .ok (.getfield 213, 3) := by decide +kernel
theorem dX10_orders_73 : decode cX10_orders 73 = .ok (.invokevirtual 228, 3) := by decide +kernel
theorem dX10_orders_76 : decode cX10_orders 76 = .ok (.ireturn, 1) := by decide +kernel
set_option maxRecDepth 20000 in
theorem ggX10_seen_X10_within : GoodIn wsX10_seen wsX10_within := goodIn_r _ [5] (by decide +kernel) (by decide +kernel)
set_option maxRecDepth 20000 in
theorem gX10_seen_X10_within : GoodIn wsX10_seen (va_wsS RX10 78 yX10_within wsX10_within) := goodIn_app (goodIn_of _ (by decide +kernel)) ggX10_seen_X10_within
set_option maxRecDepth 20000 in
theorem ggX10_seen_X5_append : GoodIn wsX10_seen wsX5_append := goodIn_r _ [10, 11, 12, 13, 14, 4, 15, 35, 36, 37] (by decide +kernel) (by decide +kernel)
set_option maxRecDepth 20000 in
theorem gX10_seen_X5_append : GoodIn wsX10_seen (wsV RX10 220 RX5 yX5_append wsX5_append) := goodIn_app (goodIn_of _ (by decide +kernel)) ggX10_seen_X5_append
theorem dX10_seen_0 : decode cX10_seen 0 = .ok (.iload_n 1, 1) := by decide +kernel
theorem dX10_seen_1 : decode cX10_seen 1 = .ok (.iconst 0, 1) := by decide +kernel
theorem dX10_seen_2 : decode cX10_seen 2 = .ok (.bipush 16, 2) := by decide +kernel
theorem dX10_seen_4 : decode cX10_seen 4 = .ok (.invokestatic 78, 3) := by decide +kernel
theorem dX10_seen_7 : decode cX10_seen 7 = .ok (.ifCond .ne 5, 3) := by decide +kernel
theorem dX10_seen_10 : decode cX10_seen 10 = .ok (.iconst (-1), 1) := by decide +kernel
theorem dX10_seen_11 : decode cX10_seen 11 = .ok (.ireturn, 1) := by decide +kernel
theorem dX10_seen_12 : decode cX10_seen 12 = .ok (.iload_n 2, 1) := by decide +kernel
theorem dX10_seen_13 : decode cX10_seen 13 = .ok (.iconst 0, 1) := by decide +kernel
theorem dX10_seen_14 : decode cX10_seen 14 = .ok (.bipush 60, 2) := by decide +kernel
theorem dX10_seen_16 : decode cX10_seen 16 = .ok (.invokestatic 78, 3) := by decide +kernel
theorem dX10_seen_19 : decode cX10_seen 19 = .ok (.ifCond .ne 6, 3) := by decide +kernel
theorem dX10_seen_22 : decode cX10_seen 22 = .ok (.bipush (-2), 2) := by decide +kernel
theorem dX10_seen_24 : decode cX10_seen 24 = .ok (.ireturn, 1) := by decide +kernel
theorem dX10_seen_25 : decode cX10_seen 25 = .ok (.aload_n 0, 1) := by decide +kernel
theorem dX10_seen_26 : decode cX10_seen 26 = .ok (.getfield 10, 3) := by decide +kernel
theorem dX10_seen_29 : decode cX10_seen 29 = .ok (.getfield 232, 3) := by decide +kernel
theorem dX10_seen_32 : decode cX10_seen 32 = .ok (.getfield 217, 3) := by decide +kernel
theorem dX10_seen_35 : decode cX10_seen 35 = .ok (.bipush 8, 2) := by decide +kernel
theorem dX10_seen_37 : decode cX10_seen 37 = .ok (.if_icmp .lt 6, 3) := by decide +kernel
theorem dX10_seen_40 : decode cX10_seen 40 = .ok (.bipush (-4), 2) := by decide +kernel
theorem dX10_seen_42 : decode cX10_seen 42 = .ok (.ireturn, 1) := by decide +kernel
theorem dX10_seen_43 : decode cX10_seen 43 = .ok (.aload_n 0, 1) := by decide +kernel
theorem dX10_seen_44 : decode cX10_seen 44 = .ok (.getfield 10, 3) := by decide +kernel
theorem dX10_seen_47 : decode cX10_seen 47 = .ok (.getfield 232, 3) := by decide +kernel
theorem dX10_seen_50 : decode cX10_seen 50 = .ok (.iload_n 1, 1) := by decide +kernel
theorem dX10_seen_51 : decode cX10_seen 51 = .ok (.iload_n 2, 1) := by decide +kernel
theorem dX10_seen_52 : decode cX10_seen 52 = .ok (.invokevirtual 220, 3) := by decide +kernel
theorem dX10_seen_55 : decode cX10_seen 55 = .ok (.aload_n 0, 1) := by decide +kernel
theorem dX10_seen_56 : decode cX10_seen 56 = .ok (.getfield 10, 3) := by decide +kernel
theorem dX10_seen_59 : decode cX10_seen 59 = .ok (.getfield 232, 3) := by decide +kernel
theorem dX10_seen_62 : decode cX10_seen 62 = .ok (.getfield 217, 3) := by decide +kernel
theorem dX10_seen_65 : decode cX10_seen 65 = .ok (.ireturn, 1) := by decide +kernel
set_option maxRecDepth 20000 in
theorem ggX10_forget_X5_empty : GoodIn wsX10_forget wsX5_empty := goodIn_r _ [6, 7, 27, 28, 29] (by decide +kernel) (by decide +kernel)
set_option maxRecDepth 20000 in
theorem gX10_forget_X5_empty : GoodIn wsX10_forget (wsV RX10 223 RX5 yX5_empty wsX5_empty) := goodIn_app (goodIn_of _ (by decide +kernel)) ggX10_forget_X5_empty
theorem dX10_forget_0 : decode cX10_forget 0 = .ok (.aload_n 0, 1) := by decide +kernel
theorem dX10_forget_1 : decode cX10_forget 1 = .ok (.getfield 10, 3) := by decide +kernel
theorem dX10_forget_4 : decode cX10_forget 4 = .ok (.getfield 232, 3) := by decide +kernel
theorem dX10_forget_7 : decode cX10_forget 7 = .ok (.invokevirtual 223, 3) := by decide +kernel
theorem dX10_forget_10 : decode cX10_forget 10 = .ok (.ireturn, 1) := by decide +kernel
set_option maxRecDepth 20000 in
theorem ggX10_who_X10_within : GoodIn wsX10_who wsX10_within := goodIn_r _ [6] (by decide +kernel) (by decide +kernel)
set_option maxRecDepth 20000 in
theorem gX10_who_X10_within : GoodIn wsX10_who (va_wsS RX10 78 yX10_within wsX10_within) := goodIn_app (goodIn_of _ (by decide +kernel)) ggX10_who_X10_within
set_option maxRecDepth 20000 in
theorem ggX10_who_X9_fit : GoodIn wsX10_who wsX9_fit := goodIn_r _ [11, 12, 13, 14, 15, 16, 17, 5, 18, 19, 20, 21, 22, 23, 24, 25, 26, 27, 10, 28, 29, 30, 31, 4, 6, 32, 33, 46, 47, 48, 49, 50, 51, 52, 53, 54, 55, 56, 57, 58, 59, 60, 61, 62, 63, 64] (by decide +kernel) (by decide +kernel)
set_option maxRecDepth 20000 in
theorem gX10_who_X9_fit : GoodIn wsX10_who (wsV RX10 235 RX9 yX9_fit wsX9_fit) := goodIn_app (goodIn_of _ (by decide +kernel)) ggX10_who_X9_fit
theorem dX10_who_0 : decode cX10_who 0 = .ok (.iload_n 1, 1) := by decide +kernel
theorem dX10_who_1 : decode cX10_who 1 = .ok (.iconst 0, 1) := by decide +kernel
theorem dX10_who_2 : decode cX10_who 2 = .ok (.iconst 2, 1) := by decide +kernel
theorem dX10_who_3 : decode cX10_who 3 = .ok (.invokestatic 78, 3) := by decide +kernel
theorem dX10_who_6 : decode cX10_who 6 = .ok (.ifCond .ne 6, 3) := by decide +kernel
theorem dX10_who_9 : decode cX10_who 9 = .ok (.bipush (-2), 2) := by decide +kernel
theorem dX10_who_11 : decode cX10_who 11 = .ok (.ireturn, 1) := by decide +kernel
theorem dX10_who_12 : decode cX10_who 12 = .ok (.aload_n 0, 1) := by decide +kernel
theorem dX10_who_13 : decode cX10_who 13 = .ok (.getfield 60, 3) := by decide +kernel
theorem dX10_who_16 : decode cX10_who 16 = .ok (.aload_n 0, 1) := by decide +kernel
theorem dX10_who_17 : decode cX10_who 17 = .ok (.getfield 10, 3) := by decide +kernel
theorem dX10_who_20 : decode cX10_who 20 = .ok (.invokevirtual 235, 3) := by decide +kernel
theorem dX10_who_23 : decode cX10_who 23 = .ok (.iload_n 1, 1) := by decide +kernel
theorem dX10_who_24 : decode cX10_who 24 = .ok (.lookupswitch 44 #[(0, 28), (1, 36)], 28) := by decide +kernel
theorem dX10_who_52 : decode cX10_who 52 = .ok (.aload_n 0, 1) := by decide +kernel
theorem dX10_who_53 : decode cX10_who 53 = .ok (.getfield 60, 3) := by decide +kernel
theorem dX10_who_56 : decode cX10_who 56 = .ok (.getfield 238, 3) := by decide +kernel
theorem dX10_who_59 : decode cX10_who 59 = .ok (.ireturn, 1) := by decide +kernel
theorem dX10_who_60 : decode cX10_who 60 = .ok (.aload_n 0, 1) := by decide +kernel
theorem dX10_who_61 : decode cX10_who 61 = .ok (.getfield 60, 3) := by decide +kernel
theorem dX10_who_64 : decode cX10_who 64 = .ok (.getfield 239, 3) := by decide +kernel
theorem dX10_who_67 : decode cX10_who 67 = .ok (.ireturn, 1) := by decide +kernel
theorem dX10_who_68 : decode cX10_who 68 = .ok (.aload_n 0, 1) := by decide +kernel
theorem dX10_who_69 : decode cX10_who 69 = .ok (.getfield 60, 3) := by decide +kernel
theorem dX10_who_72 : decode cX10_who 72 = .ok (.getfield 242, 3) := by decide +kernel
theorem dX10_who_75 : decode cX10_who 75 = .ok (.ireturn, 1) := by decide +kernel
set_option maxRecDepth 20000 in
theorem ggX10_look_X10_within : GoodIn wsX10_look wsX10_within := goodIn_r _ [7] (by decide +kernel) (by decide +kernel)
set_option maxRecDepth 20000 in
theorem gX10_look_X10_within : GoodIn wsX10_look (va_wsS RX10 78 yX10_within wsX10_within) := goodIn_app (goodIn_of _ (by decide +kernel)) ggX10_look_X10_within
set_option maxRecDepth 20000 in
theorem ggX10_look_X9_fit : GoodIn wsX10_look wsX9_fit := goodIn_r _ [12, 13, 14, 15, 16, 17, 18, 6, 19, 20, 21, 22, 23, 24, 25, 26, 27, 28, 11, 29, 30, 31, 32, 5, 7, 33, 34, 69, 70, 71, 72, 73, 74, 77, 78, 79, 80, 81, 82, 83, 84, 85, 86, 87, 88, 89] (by decide +kernel) (by decide +kernel)
set_option maxRecDepth 20000 in
theorem gX10_look_X9_fit : GoodIn wsX10_look (wsV RX10 235 RX9 yX9_fit wsX9_fit) := goodIn_app (goodIn_of _ (by decide +kernel)) ggX10_look_X9_fit
set_option maxRecDepth 20000 in
theorem ggX10_look_X0_begin : GoodIn wsX10_look wsX0_begin := goodIn_r _ [39, 40, 41, 75, 76] (by decide +kernel) (by decide +kernel)
set_option maxRecDepth 20000 in
theorem gX10_look_X0_begin : GoodIn wsX10_look (wsV RX10 198 RX0 yX0_begin wsX0_begin) := goodIn_app (goodIn_of _ (by decide +kernel)) ggX10_look_X0_begin
set_option maxRecDepth 20000 in
theorem ggX10_look_X9_mostLeftAt : GoodIn wsX10_look wsX9_mostLeftAt := goodIn_r _ [45, 46, 13, 16, 17, 47, 48, 49, 50, 51, 6, 52, 18, 19, 30, 31, 11, 32, 5, 7, 33, 34, 69, 70, 71, 72, 73, 74] (by decide +kernel) (by decide +kernel)
set_option maxRecDepth 20000 in
theorem gX10_look_X9_mostLeftAt : GoodIn wsX10_look (wsV RX10 245 RX9 yX9_mostLeftAt wsX9_mostLeftAt) := goodIn_app (goodIn_of _ (by decide +kernel)) ggX10_look_X9_mostLeftAt
set_option maxRecDepth 20000 in
theorem ggX10_look_X0_offer : GoodIn wsX10_look wsX0_offer := goodIn_r _ [56, 40, 41, 75, 76] (by decide +kernel) (by decide +kernel)
set_option maxRecDepth 20000 in
theorem gX10_look_X0_offer : GoodIn wsX10_look (wsV RX10 201 RX0 yX0_offer wsX0_offer) := goodIn_app (goodIn_of _ (by decide +kernel)) ggX10_look_X0_offer
theorem dX10_look_0 : decode cX10_look 0 = .ok (.iload_n 1, 1) := by decide +kernel
theorem dX10_look_1 : decode cX10_look 1 = .ok (.iconst 0, 1) := by decide +kernel
theorem dX10_look_2 : decode cX10_look 2 = .ok (.iconst 1, 1) := by decide +kernel
theorem dX10_look_3 : decode cX10_look 3 = .ok (.invokestatic 78, 3) := by decide +kernel
theorem dX10_look_6 : decode cX10_look 6 = .ok (.ifCond .ne 6, 3) := by decide +kernel
theorem dX10_look_9 : decode cX10_look 9 = .ok (.bipush (-2), 2) := by decide +kernel
theorem dX10_look_11 : decode cX10_look 11 = .ok (.ireturn, 1) := by decide +kernel
theorem dX10_look_12 : decode cX10_look 12 = .ok (.aload_n 0, 1) := by decide +kernel
theorem dX10_look_13 : decode cX10_look 13 = .ok (.getfield 60, 3) := by decide +kernel
theorem dX10_look_16 : decode cX10_look 16 = .ok (.aload_n 0, 1) := by decide +kernel
theorem dX10_look_17 : decode cX10_look 17 = .ok (.getfield 10, 3) := by decide +kernel
theorem dX10_look_20 : decode cX10_look 20 = .ok (.invokevirtual 235, 3) := by decide +kernel
theorem dX10_look_23 : decode cX10_look 23 = .ok (.aload_n 0, 1) := by decide +kernel
theorem dX10_look_24 : decode cX10_look 24 = .ok (.getfield 60, 3) := by decide +kernel
theorem dX10_look_27 : decode cX10_look 27 = .ok (.getfield 238, 3) := by decide +kernel
theorem dX10_look_30 : decode cX10_look 30 = .ok (.ifCond .ne 6, 3) := by decide +kernel
theorem dX10_look_33 : decode cX10_look 33 = .ok (.bipush (-6), 2) := by decide +kernel
theorem dX10_look_35 : decode cX10_look 35 = .ok (.ireturn, 1) := by decide +kernel
theorem dX10_look_36 : decode cX10_look 36 = .ok (.aload_n 0, 1) := by decide +kernel
theorem dX10_look_37 : decode cX10_look 37 = .ok (.getfield 67, 3) := by decide +kernel
theorem dX10_look_40 : decode cX10_look 40 = .ok (.invokevirtual 198, 3) := by decide +kernel
theorem dX10_look_43 : decode cX10_look 43 = .ok (.iconst 0, 1) := by decide +kernel
theorem dX10_look_44 : decode cX10_look 44 = .ok (.istore_n 2, 1) := by decide +kernel
theorem dX10_look_45 : decode cX10_look 45 = .ok (.iload_n 2, 1) := by decide +kernel
theorem dX10_look_46 : decode cX10_look 46 = .ok (.bipush 60, 2) := by decide +kernel
theorem dX10_look_48 : decode cX10_look 48 = .ok (.if_icmp .gt 25, 3) := by decide +kernel
theorem dX10_look_51 : decode cX10_look 51 = .ok (.aload_n 0, 1) := by decide +kernel
theorem dX10_look_52 : decode cX10_look 52 = .ok (.getfield 67, 3) := by decide +kernel
theorem dX10_look_55 : decode cX10_look 55 = .ok (.iload_n 2, 1) := by decide +kernel
theorem dX10_look_56 : decode cX10_look 56 = .ok (.aload_n 0, 1) := by decide +kernel
theorem dX10_look_57 : decode cX10_look 57 = .ok (.getfield 60, 3) := by decide +kernel
theorem dX10_look_60 : decode cX10_look 60 = .ok (.iload_n 2, 1) := by decide +kernel
theorem dX10_look_61 : decode cX10_look 61 = .ok (.invokevirtual 245, 3) := by decide +kernel
theorem dX10_look_64 : decode cX10_look 64 = .ok (.invokevirtual 201, 3) := by decide +kernel
theorem dX10_look_67 : decode cX10_look 67 = .ok (.iinc 2 1, 3) := by decide +kernel
theorem dX10_look_70 : decode cX10_look 70 = .ok (.goto (-25), 3) := by decide +kernel
theorem dX10_look_73 : decode cX10_look 73 = .ok (.iload_n 1, 1) := by decide +kernel
theorem dX10_look_74 : decode cX10_look 74 = .ok (.ifCond .ne 13, 3) := by decide +kernel
theorem dX10_look_77 : decode cX10_look 77 = .ok (.aload_n 0, 1) := by decide +kernel
theorem dX10_look_78 : decode cX10_look 78 = .ok (.getfield 67, 3) := by decide +kernel
theorem dX10_look_81 : decode cX10_look 81 = .ok (.getfield 206, 3) := by decide +kernel
theorem dX10_look_84 : decode cX10_look 84 = .ok (.goto 10, 3) := by decide +kernel
theorem dX10_look_87 : decode cX10_look 87 = .ok (.aload_n 0, 1) := by decide +kernel
theorem dX10_look_88 : decode cX10_look 88 = .ok (.getfield 67, 3) := by decide +kernel
theorem dX10_look_91 : decode cX10_look 91 = .ok (.getfield 205, 3) := by decide +kernel
theorem dX10_look_94 : decode cX10_look 94 = .ok (.ireturn, 1) := by decide +kernel
set_option maxRecDepth 20000 in
theorem ggX10_chance_X10_within : GoodIn wsX10_chance wsX10_within := goodIn_r _ [9] (by decide +kernel) (by decide +kernel)
set_option maxRecDepth 20000 in
theorem gX10_chance_X10_within : GoodIn wsX10_chance (va_wsS RX10 78 yX10_within wsX10_within) := goodIn_app (goodIn_of _ (by decide +kernel)) ggX10_chance_X10_within
set_option maxRecDepth 20000 in
theorem ggX10_chance_X1_count : GoodIn wsX10_chance wsX1_count := goodIn_r _ [14, 15, 16, 17, 18, 19, 8, 20, 21, 22, 23, 13, 24, 25, 26, 27, 28, 29, 30, 31, 32, 33, 34, 7, 9, 35, 36, 37, 38, 39, 40, 41, 42, 43, 44, 45, 46, 47, 48, 49, 78, 79, 80, 81, 82, 86, 87, 88, 89, 90, 91, 92, 93, 94, 95] (by decide +kernel) (by decide +kernel)
set_option maxRecDepth 20000 in
theorem gX10_chance_X1_count : GoodIn wsX10_chance (wsV RX10 158 RX1 yX1_count wsX1_count) := goodIn_app (goodIn_of _ (by decide +kernel)) ggX10_chance_X1_count
set_option maxRecDepth 20000 in
theorem ggX10_chance_X2_reckon : GoodIn wsX10_chance wsX2_reckon := goodIn_r _ [54, 55, 56, 57, 58, 59, 60, 61, 53, 62, 63, 64, 65, 83, 84, 85] (by decide +kernel) (by decide +kernel)
set_option maxRecDepth 20000 in
theorem gX10_chance_X2_reckon : GoodIn wsX10_chance (wsV RX10 252 RX2 yX2_reckon wsX2_reckon) := goodIn_app (goodIn_of _ (by decide +kernel)) ggX10_chance_X2_reckon
theorem dX10_chance_0 : decode cX10_chance 0 = .ok (.iload_n 1, 1) := by decide +kernel
theorem dX10_chance_1 : decode cX10_chance 1 = .ok (.iconst 0, 1) := by decide +kernel
theorem dX10_chance_2 : decode cX10_chance 2 = .ok (.bipush 10, 2) := by decide +kernel
theorem dX10_chance_4 : decode cX10_chance 4 = .ok (.invokestatic 78, 3) := by decide +kernel
theorem dX10_chance_7 : decode cX10_chance 7 = .ok (.ifCond .eq 22, 3) := by decide +kernel
theorem dX10_chance_10 : decode cX10_chance 10 = .ok (.iload_n 2, 1) := by decide +kernel
theorem dX10_chance_11 : decode cX10_chance 11 = .ok (.iconst 0, 1) := by decide +kernel
theorem dX10_chance_12 : decode cX10_chance 12 = .ok (.bipush 12, 2) := by decide +kernel
theorem dX10_chance_14 : decode cX10_chance 14 = .ok (.invokestatic 78, 3) := by decide +kernel
theorem dX10_chance_17 : decode cX10_chance 17 = .ok (.ifCond .eq 12, 3) := by decide +kernel
theorem dX10_chance_20 : decode cX10_chance 20 = .ok (.iload_n 3, 1) := by decide +kernel
theorem dX10_chance_21 : decode cX10_chance 21 = .ok (.iconst 0, 1) := by decide +kernel
theorem dX10_chance_22 : decode cX10_chance 22 = .ok (.iconst 1, 1) := by decide +kernel
theorem dX10_chance_23 : decode cX10_chance 23 = .ok (.invokestatic 78, 3) := by decide +kernel
theorem dX10_chance_26 : decode cX10_chance 26 = .ok (.ifCond .ne 7, 3) := by decide +kernel
theorem dX10_chance_29 : decode cX10_chance 29 = .ok (.ldc2_w 248, 3) := by decide +kernel
theorem dX10_chance_32 : decode cX10_chance 32 = .ok (.lreturn, 1) := by decide +kernel
theorem dX10_chance_33 : decode cX10_chance 33 = .ok (.aload_n 0, 1) := by decide +kernel
theorem dX10_chance_34 : decode cX10_chance 34 = .ok (.getfield 46, 3) := by decide +kernel
theorem dX10_chance_37 : decode cX10_chance 37 = .ok (.aload_n 0, 1) := by decide +kernel
theorem dX10_chance_38 : decode cX10_chance 38 = .ok (.getfield 10, 3) := by decide +kernel
theorem dX10_chance_41 : decode cX10_chance 41 = .ok (.invokevirtual 158, 3) := by decide +kernel
theorem dX10_chance_44 : decode cX10_chance 44 = .ok (.aload_n 0, 1) := by decide +kernel
theorem dX10_chance_45 : decode cX10_chance 45 = .ok (.getfield 46, 3) := by decide +kernel
theorem dX10_chance_48 : decode cX10_chance 48 = .ok (.getfield 164, 3) := by decide +kernel
theorem dX10_chance_51 : decode cX10_chance 51 = .ok (.bipush 12, 2) := by decide +kernel
theorem dX10_chance_53 : decode cX10_chance 53 = .ok (.if_icmp .le 7, 3) := by decide +kernel
theorem dX10_chance_56 : decode cX10_chance 56 = .ok (.ldc2_w 250, 3) := by decide +kernel
theorem dX10_chance_59 : decode cX10_chance 59 = .ok (.lreturn, 1) := by decide +kernel
theorem dX10_chance_60 : decode cX10_chance 60 = .ok (.aload_n 0, 1) := by decide +kernel
theorem dX10_chance_61 : decode cX10_chance 61 = .ok (.getfield 74, 3) := by decide +kernel
theorem dX10_chance_64 : decode cX10_chance 64 = .ok (.aload_n 0, 1) := by decide +kernel
theorem dX10_chance_65 : decode cX10_chance 65 = .ok (.getfield 46, 3) := by decide +kernel
theorem dX10_chance_68 : decode cX10_chance 68 = .ok (.getfield 164, 3) := by decide +kernel
theorem dX10_chance_71 : decode cX10_chance 71 = .ok (.iload_n 1, 1) := by decide +kernel
theorem dX10_chance_72 : decode cX10_chance 72 = .ok (.iload_n 2, 1) := by decide +kernel
theorem dX10_chance_73 : decode cX10_chance 73 = .ok (.invokevirtual 252, 3) := by decide +kernel
theorem dX10_chance_76 : decode cX10_chance 76 = .ok (.iload_n 3, 1) := by decide +kernel
theorem dX10_chance_77 : decode cX10_chance 77 = .ok (.ifCond .ne 13, 3) := by decide +kernel
theorem dX10_chance_80 : decode cX10_chance 80 = .ok (.aload_n 0, 1) := by decide +kernel
theorem dX10_chance_81 : decode cX10_chance 81 = .ok (.getfield 74, 3) := by decide +kernel
theorem dX10_chance_84 : decode cX10_chance 84 = .ok (.getfield 256, 3) := by decide +kernel
theorem dX10_chance_87 : decode cX10_chance 87 = .ok (.goto 10, 3) := by decide +kernel
theorem dX10_chance_90 : decode cX10_chance 90 = .ok (.aload_n 0, 1) := by decide +kernel
theorem dX10_chance_91 : decode cX10_chance 91 = .ok (.getfield 74, 3) := by decide +kernel
theorem dX10_chance_94 : decode cX10_chance 94 = .ok (.getfield 260, 3) := by decide +kernel
theorem dX10_chance_97 : decode cX10_chance 97 = .ok (.lreturn, 1) := by decide +kernel
set_option maxRecDepth 20000 in
theorem ggX10_year_X10_within : GoodIn wsX10_year wsX10_within := goodIn_r _ [7] (by decide +kernel) (by decide +kernel)
set_option maxRecDepth 20000 in
theorem gX10_year_X10_within : GoodIn wsX10_year (va_wsS RX10 78 yX10_within wsX10_within) := goodIn_app (goodIn_of _ (by decide +kernel)) ggX10_year_X10_within
set_option maxRecDepth 20000 in
theorem ggX10_year_X8_takeFrom : GoodIn wsX10_year wsX8_takeFrom := goodIn_r _ [12, 13, 14, 15, 16, 17, 18, 19, 20, 6, 21, 22, 23, 24, 25, 26, 27, 28, 29, 30, 31, 32, 33, 34, 35, 36, 37, 128, 129, 130, 131, 132, 133, 134, 135, 136, 137, 143, 144, 145] (by decide +kernel) (by decide +kernel)
set_option maxRecDepth 20000 in
theorem gX10_year_X8_takeFrom : GoodIn wsX10_year (wsV RX10 196 RX8 yX8_takeFrom wsX8_takeFrom) := goodIn_app (goodIn_of _ (by decide +kernel)) ggX10_year_X8_takeFrom
set_option maxRecDepth 20000 in
theorem ggX10_year_X7_drawYear : GoodIn wsX10_year wsX7_drawYear := goodIn_r _ [41, 42, 43, 44, 25, 45, 46, 47, 48, 49, 50, 51, 52, 53, 54, 27, 29, 55, 56, 57, 58, 59, 6, 60, 61, 62, 63, 64, 65, 66, 67, 68, 28, 69, 70, 71, 72, 73, 74, 75, 76, 77, 78, 79, 80, 81, 135, 136, 137] (by decide +kernel) (by decide +kernel)
set_option maxRecDepth 20000 in
theorem gX10_year_X7_drawYear : GoodIn wsX10_year (wsV RX10 263 RX7 yX7_drawYear wsX7_drawYear) := goodIn_app (goodIn_of _ (by decide +kernel)) ggX10_year_X7_drawYear
set_option maxRecDepth 20000 in
theorem ggX10_year_X7_lengthOf : GoodIn wsX10_year wsX7_lengthOf := goodIn_r _ [64, 27, 135, 136, 137] (by decide +kernel) (by decide +kernel)
set_option maxRecDepth 20000 in
theorem gX10_year_X7_lengthOf : GoodIn wsX10_year (wsV RX10 266 RX7 yX7_lengthOf wsX7_lengthOf) := goodIn_app (goodIn_of _ (by decide +kernel)) ggX10_year_X7_lengthOf
set_option maxRecDepth 20000 in
theorem ggX10_year_X1_count : GoodIn wsX10_year wsX1_count := goodIn_r _ [87, 88, 89, 90, 91, 59, 6, 60, 92, 93, 94, 86, 95, 96, 97, 98, 11, 99, 16, 17, 100, 101, 102, 5, 7, 103, 104, 105, 106, 15, 107, 108, 109, 110, 13, 111, 112, 113, 114, 115, 138, 139, 140, 141, 142, 128, 129, 130, 131, 132, 133, 134, 135, 136, 137] (by decide +kernel) (by decide +kernel)
set_option maxRecDepth 20000 in
theorem gX10_year_X1_count : GoodIn wsX10_year (wsV RX10 158 RX1 yX1_count wsX1_count) := goodIn_app (goodIn_of _ (by decide +kernel)) ggX10_year_X1_count
theorem dX10_year_0 : decode cX10_year 0 = .ok (.iload_n 1, 1) := by decide +kernel
theorem dX10_year_1 : decode cX10_year 1 = .ok (.iconst 0, 1) := by decide +kernel
theorem dX10_year_2 : decode cX10_year 2 = .ok (.sipush 9999, 3) := by decide +kernel
theorem dX10_year_5 : decode cX10_year 5 = .ok (.invokestatic 78, 3) := by decide +kernel
theorem dX10_year_8 : decode cX10_year 8 = .ok (.ifCond .eq 22, 3) := by decide +kernel
theorem dX10_year_11 : decode cX10_year 11 = .ok (.iload_n 2, 1) := by decide +kernel
theorem dX10_year_12 : decode cX10_year 12 = .ok (.iconst 1, 1) := by decide +kernel
theorem dX10_year_13 : decode cX10_year 13 = .ok (.bipush 99, 2) := by decide +kernel
theorem dX10_year_15 : decode cX10_year 15 = .ok (.invokestatic 78, 3) := by decide +kernel
theorem dX10_year_18 : decode cX10_year 18 = .ok (.ifCond .eq 12, 3) := by decide +kernel
theorem dX10_year_21 : decode cX10_year 21 = .ok (.iload_n 3, 1) := by decide +kernel
theorem dX10_year_22 : decode cX10_year 22 = .ok (.iconst 0, 1) := by decide +kernel
theorem dX10_year_23 : decode cX10_year 23 = .ok (.iconst 2, 1) := by decide +kernel
theorem dX10_year_24 : decode cX10_year 24 = .ok (.invokestatic 78, 3) := by decide +kernel
theorem dX10_year_27 : decode cX10_year 27 = .ok (.ifCond .ne 6, 3) := by decide +kernel
theorem dX10_year_30 : decode cX10_year 30 = .ok (.bipush (-2), 2) := by decide +kernel
theorem dX10_year_32 : decode cX10_year 32 = .ok (.ireturn, 1) := by decide +kernel
theorem dX10_year_33 : decode cX10_year 33 = .ok (.aload_n 0, 1) := by decide +kernel
theorem dX10_year_34 : decode cX10_year 34 = .ok (.getfield 16, 3) := by decide +kernel
theorem dX10_year_37 : decode cX10_year 37 = .ok (.aload_n 0, 1) := by decide +kernel
theorem dX10_year_38 : decode cX10_year 38 = .ok (.getfield 10, 3) := by decide +kernel
theorem dX10_year_41 : decode cX10_year 41 = .ok (.invokevirtual 196, 3) := by decide +kernel
theorem dX10_year_44 : decode cX10_year 44 = .ok (.aload_n 0, 1) := by decide +kernel
theorem dX10_year_45 : decode cX10_year 45 = .ok (.getfield 16, 3) := by decide +kernel
theorem dX10_year_48 : decode cX10_year 48 = .ok (.getfield 135, 3) := by decide +kernel
theorem dX10_year_51 : decode cX10_year 51 = .ok (.iload_n 1, 1) := by decide +kernel
theorem dX10_year_52 : decode cX10_year 52 = .ok (.iload_n 2, 1) := by decide +kernel
theorem dX10_year_53 : decode cX10_year 53 = .ok (.invokevirtual 263, 3) := by decide +kernel
theorem dX10_year_56 : decode cX10_year 56 = .ok (.iload_n 3, 1) := by decide +kernel
theorem dX10_year_57 : decode cX10_year 57 = .ok (.ifCond .ne 27, 3) := by decide +kernel
theorem dX10_year_60 : decode cX10_year 60 = .ok (.aload_n 0, 1) := by decide +kernel
theorem dX10_year_61 : decode cX10_year 61 = .ok (.getfield 16, 3) := by decide +kernel
theorem dX10_year_64 : decode cX10_year 64 = .ok (.getfield 135, 3) := by decide +kernel
theorem dX10_year_67 : decode cX10_year 67 = .ok (.iconst 0, 1) := by decide +kernel
theorem dX10_year_68 : decode cX10_year 68 = .ok (.invokevirtual 266, 3) := by decide +kernel
theorem dX10_year_71 : decode cX10_year 71 = .ok (.aload_n 0, 1) := by decide +kernel
theorem dX10_year_72 : decode cX10_year 72 = .ok (.getfield 16, 3) := by decide +kernel
theorem dX10_year_75 : decode cX10_year 75 = .ok (.getfield 135, 3) := by decide +kernel
theorem dX10_year_78 : decode cX10_year 78 = .ok (.iconst 1, 1) := by decide +kernel
theorem dX10_year_79 : decode cX10_year 79 = .ok (.invokevirtual 266, 3) := by decide +kernel
theorem dX10_year_82 : decode cX10_year 82 = .ok (.iadd, 1) := by decide +kernel
theorem dX10_year_83 : decode cX10_year 83 = .ok (.ireturn, 1) := by decide +kernel
theorem dX10_year_84 : decode cX10_year 84 = .ok (.iload_n 3, 1) := by decide +kernel
theorem dX10_year_85 : decode cX10_year 85 = .ok (.iconst 2, 1) := by decide +kernel
theorem dX10_year_86 : decode cX10_year 86 = .ok (.if_icmp .ne 14, 3) := by decide +kernel
theorem dX10_year_89 : decode cX10_year 89 = .ok (.aload_n 0, 1) := by decide +kernel
theorem dX10_year_90 : decode cX10_year 90 = .ok (.getfield 16, 3) := by decide +kernel
theorem dX10_year_93 : decode cX10_year 93 = .ok (.getfield 135, 3) := by decide +kernel
theorem dX10_year_96 : decode cX10_year 96 = .ok (.getfield 155, 3) := by decide +kernel
theorem dX10_year_99 : decode cX10_year 99 = .ok (.ireturn, 1) := by decide +kernel
theorem dX10_year_100 : decode cX10_year 100 = .ok (.aload_n 0, 1) := by decide +kernel
theorem dX10_year_101 : decode cX10_year 101 = .ok (.getfield 46, 3) := by decide +kernel
theorem dX10_year_104 : decode cX10_year 104 = .ok (.aload_n 0, 1) := by decide +kernel
theorem dX10_year_105 : decode cX10_year 105 = .ok (.getfield 16, 3) := by decide +kernel
theorem dX10_year_108 : decode cX10_year 108 = .ok (.invokevirtual 158, 3) := by decide +kernel
theorem dX10_year_111 : decode cX10_year 111 = .ok (.aload_n 0, 1) := by decide +kernel
theorem dX10_year_112 : decode cX10_year 112 = .ok (.getfield 46, 3) := by decide +kernel
theorem dX10_year_115 : decode cX10_year 115 = .ok (.getfield 164, 3) := by decide +kernel
theorem dX10_year_118 : decode cX10_year 118 = .ok (.ireturn, 1) := by decide +kernel
set_option maxRecDepth 20000 in
theorem ggX10_image_X10_within : GoodIn wsX10_image wsX10_within := goodIn_r _ [6] (by decide +kernel) (by decide +kernel)
set_option maxRecDepth 20000 in
theorem gX10_image_X10_within : GoodIn wsX10_image (va_wsS RX10 78 yX10_within wsX10_within) := goodIn_app (goodIn_of _ (by decide +kernel)) ggX10_image_X10_within
set_option maxRecDepth 20000 in
theorem ggX10_image_X10_imageOf : GoodIn wsX10_image wsX10_imageOf := goodIn_r _ [10, 11, 12, 43, 44, 45, 46, 47, 48, 49, 50, 51, 52, 53, 54] (by decide +kernel) (by decide +kernel)
set_option maxRecDepth 20000 in
theorem gX10_image_X10_imageOf : GoodIn wsX10_image (wsV RX10 269 RX10 yX10_imageOf wsX10_imageOf) := goodIn_app (goodIn_of _ (by decide +kernel)) ggX10_image_X10_imageOf
set_option maxRecDepth 20000 in
theorem ggX10_image_X8_takeFrom : GoodIn wsX10_image wsX8_takeFrom := goodIn_r _ [17, 18, 19, 20, 21, 22, 23, 24, 25, 5, 26, 27, 28, 29, 30, 31, 32, 33, 34, 35, 36, 37, 38, 39, 40, 41, 42, 55, 56, 57, 58, 59, 60, 61, 62, 63, 64, 65, 66, 67] (by decide +kernel) (by decide +kernel)
set_option maxRecDepth 20000 in
theorem gX10_image_X8_takeFrom : GoodIn wsX10_image (wsV RX10 196 RX8 yX8_takeFrom wsX8_takeFrom) := goodIn_app (goodIn_of _ (by decide +kernel)) ggX10_image_X8_takeFrom
theorem dX10_image_0 : decode cX10_image 0 = .ok (.iload_n 1, 1) := by decide +kernel
theorem dX10_image_1 : decode cX10_image 1 = .ok (.iconst 0, 1) := by decide +kernel
theorem dX10_image_2 : decode cX10_image 2 = .ok (.iconst 1, 1) := by decide +kernel
theorem dX10_image_3 : decode cX10_image 3 = .ok (.invokestatic 78, 3) := by decide +kernel
theorem dX10_image_6 : decode cX10_image 6 = .ok (.ifCond .ne 6, 3) := by decide +kernel
theorem dX10_image_9 : decode cX10_image 9 = .ok (.bipush (-2), 2) := by decide +kernel
theorem dX10_image_11 : decode cX10_image 11 = .ok (.ireturn, 1) := by decide +kernel
theorem dX10_image_12 : decode cX10_image 12 = .ok (.aload_n 0, 1) := by decide +kernel
theorem dX10_image_13 : decode cX10_image 13 = .ok (.iload_n 1, 1) := by decide +kernel
theorem dX10_image_14 : decode cX10_image 14 = .ok (.invokevirtual 269, 3) := by decide +kernel
theorem dX10_image_17 : decode cX10_image 17 = .ok (.aload_n 0, 1) := by decide +kernel
theorem dX10_image_18 : decode cX10_image 18 = .ok (.getfield 10, 3) := by decide +kernel
theorem dX10_image_21 : decode cX10_image 21 = .ok (.invokevirtual 196, 3) := by decide +kernel
theorem dX10_image_24 : decode cX10_image 24 = .ok (.aload_n 0, 1) := by decide +kernel
theorem dX10_image_25 : decode cX10_image 25 = .ok (.dup, 1) := by decide +kernel
theorem dX10_image_26 : decode cX10_image 26 = .ok (.getfield 25, 3) := by decide +kernel
theorem dX10_image_29 : decode cX10_image 29 = .ok (.iconst 1, 1) := by decide +kernel
theorem dX10_image_30 : decode cX10_image 30 = .ok (.iload_n 1, 1) := by decide +kernel
theorem dX10_image_31 : decode cX10_image 31 = .ok (.ishl, 1) := by decide +kernel
theorem dX10_image_32 : decode cX10_image 32 = .ok (.ior, 1) := by decide +kernel
theorem dX10_image_33 : decode cX10_image 33 = .ok (.putfield 25, 3) := by decide +kernel
theorem dX10_image_36 : decode cX10_image 36 = .ok (.iconst 1, 1) := by decide +kernel
theorem dX10_image_37 : decode cX10_image 37 = .ok (.ireturn, 1) := by decide +kernel
set_option maxRecDepth 20000 in
theorem ggX10_restore_X10_within : GoodIn wsX10_restore wsX10_within := goodIn_r _ [6] (by decide +kernel) (by decide +kernel)
set_option maxRecDepth 20000 in
theorem gX10_restore_X10_within : GoodIn wsX10_restore (va_wsS RX10 78 yX10_within wsX10_within) := goodIn_app (goodIn_of _ (by decide +kernel)) ggX10_restore_X10_within
set_option maxRecDepth 20000 in
theorem ggX10_restore_X10_imageOf : GoodIn wsX10_restore wsX10_imageOf := goodIn_r _ [10, 11, 12, 43, 44, 45, 46, 47, 48, 49, 50, 51, 52, 53, 54] (by decide +kernel) (by decide +kernel)
set_option maxRecDepth 20000 in
theorem gX10_restore_X10_imageOf : GoodIn wsX10_restore (wsV RX10 269 RX10 yX10_imageOf wsX10_imageOf) := goodIn_app (goodIn_of _ (by decide +kernel)) ggX10_restore_X10_imageOf
set_option maxRecDepth 20000 in
theorem ggX10_restore_X8_takeFrom : GoodIn wsX10_restore wsX8_takeFrom := goodIn_r _ [17, 18, 19, 20, 21, 22, 23, 24, 25, 5, 26, 27, 28, 29, 30, 31, 32, 33, 34, 35, 36, 37, 38, 39, 40, 41, 42, 55, 56, 57, 58, 59, 60, 61, 62, 63, 64, 65, 66, 67] (by decide +kernel) (by decide +kernel)
set_option maxRecDepth 20000 in
theorem gX10_restore_X8_takeFrom : GoodIn wsX10_restore (wsV RX10 196 RX8 yX8_takeFrom wsX8_takeFrom) := goodIn_app (goodIn_of _ (by decide +kernel)) ggX10_restore_X8_takeFrom
theorem dX10_restore_0 : decode cX10_restore 0 = .ok (.iload_n 1, 1) := by decide +kernel
theorem dX10_restore_1 : decode cX10_restore 1 = .ok (.iconst 0, 1) := by decide +kernel
theorem dX10_restore_2 : decode cX10_restore 2 = .ok (.iconst 1, 1) := by decide +kernel
theorem dX10_restore_3 : decode cX10_restore 3 = .ok (.invokestatic 78, 3) := by decide +kernel
theorem dX10_restore_6 : decode cX10_restore 6 = .ok (.ifCond .ne 6, 3) := by decide +kernel
theorem dX10_restore_9 : decode cX10_restore 9 = .ok (.bipush (-2), 2) := by decide +kernel
theorem dX10_restore_11 : decode cX10_restore 11 = .ok (.ireturn, 1) := by decide +kernel
theorem dX10_restore_12 : decode cX10_restore 12 = .ok (.aload_n 0, 1) := by decide +kernel
theorem dX10_restore_13 : decode cX10_restore 13 = .ok (.getfield 25, 3) := by decide +kernel
theorem dX10_restore_16 : decode cX10_restore 16 = .ok (.iconst 1, 1) := by decide +kernel
theorem dX10_restore_17 : decode cX10_restore 17 = .ok (.iload_n 1, 1) := by decide +kernel
theorem dX10_restore_18 : decode cX10_restore 18 = .ok (.ishl, 1) := by decide +kernel
theorem dX10_restore_19 : decode cX10_restore 19 = .ok (.iand, 1) := by decide +kernel
theorem dX10_restore_20 : decode cX10_restore 20 = .ok (.ifCond .ne 6, 3) := by decide +kernel
theorem dX10_restore_23 : decode cX10_restore 23 = .ok (.bipush (-3), 2) := by decide +kernel
theorem dX10_restore_25 : decode cX10_restore 25 = .ok (.ireturn, 1) := by decide +kernel
theorem dX10_restore_26 : decode cX10_restore 26 = .ok (.aload_n 0, 1) := by decide +kernel
theorem dX10_restore_27 : decode cX10_restore 27 = .ok (.getfield 10, 3) := by decide +kernel
theorem dX10_restore_30 : decode cX10_restore 30 = .ok (.aload_n 0, 1) := by decide +kernel
theorem dX10_restore_31 : decode cX10_restore 31 = .ok (.iload_n 1, 1) := by decide +kernel
theorem dX10_restore_32 : decode cX10_restore 32 = .ok (.invokevirtual 269, 3) := by decide +kernel
theorem dX10_restore_35 : decode cX10_restore 35 = .ok (.invokevirtual 196, 3) := by decide +kernel
theorem dX10_restore_38 : decode cX10_restore 38 = .ok (.iconst 1, 1) := by decide +kernel
theorem dX10_restore_39 : decode cX10_restore 39 = .ok (.ireturn, 1) := by decide +kernel
set_option maxRecDepth 20000 in
theorem ggX10_told_X10_within : GoodIn wsX10_told wsX10_within := goodIn_r _ [5] (by decide +kernel) (by decide +kernel)
set_option maxRecDepth 20000 in
theorem gX10_told_X10_within : GoodIn wsX10_told (va_wsS RX10 78 yX10_within wsX10_within) := goodIn_app (goodIn_of _ (by decide +kernel)) ggX10_told_X10_within
set_option maxRecDepth 20000 in
theorem ggX10_told_X10_toldCount : GoodIn wsX10_told wsX10_toldCount := goodIn_r _ [9, 10, 1, 11, 12, 13, 14, 15, 16, 25, 26, 27, 28, 29, 30, 31, 32, 33, 34, 35, 36, 44, 45, 37, 38, 39, 40, 41, 42, 43, 46, 47, 48, 49, 50, 51] (by decide +kernel) (by decide +kernel)
set_option maxRecDepth 20000 in
theorem gX10_told_X10_toldCount : GoodIn wsX10_told (wsV RX10 273 RX10 yX10_toldCount wsX10_toldCount) := goodIn_app (goodIn_of _ (by decide +kernel)) ggX10_told_X10_toldCount
set_option maxRecDepth 20000 in
theorem ggX10_told_X10_at : GoodIn wsX10_told wsX10_at := goodIn_r _ [19] (by decide +kernel) (by decide +kernel)
set_option maxRecDepth 20000 in
theorem gX10_told_X10_at : GoodIn wsX10_told (va_wsS RX10 86 yX10_at wsX10_at) := goodIn_app (goodIn_of _ (by decide +kernel)) ggX10_told_X10_at
set_option maxRecDepth 20000 in
theorem ggX10_told_X7_whoIsAt : GoodIn wsX10_told wsX7_whoIsAt := goodIn_r _ [23, 16, 24, 18, 4, 19, 46, 47, 48] (by decide +kernel) (by decide +kernel)
set_option maxRecDepth 20000 in
theorem gX10_told_X7_whoIsAt : GoodIn wsX10_told (wsV RX10 145 RX7 yX7_whoIsAt wsX7_whoIsAt) := goodIn_app (goodIn_of _ (by decide +kernel)) ggX10_told_X7_whoIsAt
theorem dX10_told_0 : decode cX10_told 0 = .ok (.iload_n 1, 1) := by decide +kernel
theorem dX10_told_1 : decode cX10_told 1 = .ok (.iconst 0, 1) := by decide +kernel
theorem dX10_told_2 : decode cX10_told 2 = .ok (.iconst 5, 1) := by decide +kernel
theorem dX10_told_3 : decode cX10_told 3 = .ok (.invokestatic 78, 3) := by decide +kernel
theorem dX10_told_6 : decode cX10_told 6 = .ok (.ifCond .eq 9, 3) := by decide +kernel
theorem dX10_told_9 : decode cX10_told 9 = .ok (.aload_n 0, 1) := by decide +kernel
theorem dX10_told_10 : decode cX10_told 10 = .ok (.iload_n 1, 1) := by decide +kernel
theorem dX10_told_11 : decode cX10_told 11 = .ok (.invokevirtual 273, 3) := by decide +kernel
theorem dX10_told_14 : decode cX10_told 14 = .ok (.ireturn, 1) := by decide +kernel
theorem dX10_told_15 : decode cX10_told 15 = .ok (.iload_n 1, 1) := by decide +kernel
theorem dX10_told_16 : decode cX10_told 16 = .ok (.bipush 6, 2) := by decide +kernel
theorem dX10_told_18 : decode cX10_told 18 = .ok (.bipush 7, 2) := by decide +kernel
theorem dX10_told_20 : decode cX10_told 20 = .ok (.invokestatic 78, 3) := by decide +kernel
theorem dX10_told_23 : decode cX10_told 23 = .ok (.ifCond .eq 18, 3) := by decide +kernel
theorem dX10_told_26 : decode cX10_told 26 = .ok (.aload_n 0, 1) := by decide +kernel
theorem dX10_told_27 : decode cX10_told 27 = .ok (.getfield 10, 3) := by decide +kernel
theorem dX10_told_30 : decode cX10_told 30 = .ok (.getfield 104, 3) := by decide +kernel
theorem dX10_told_33 : decode cX10_told 33 = .ok (.iload_n 1, 1) := by decide +kernel
theorem dX10_told_34 : decode cX10_told 34 = .ok (.bipush 6, 2) := by decide +kernel
theorem dX10_told_36 : decode cX10_told 36 = .ok (.isub, 1) := by decide +kernel
theorem dX10_told_37 : decode cX10_told 37 = .ok (.invokestatic 86, 3) := by decide +kernel
theorem dX10_told_40 : decode cX10_told 40 = .ok (.ireturn, 1) := by decide +kernel
theorem dX10_told_41 : decode cX10_told 41 = .ok (.iload_n 1, 1) := by decide +kernel
theorem dX10_told_42 : decode cX10_told 42 = .ok (.bipush 20, 2) := by decide +kernel
theorem dX10_told_44 : decode cX10_told 44 = .ok (.bipush 36, 2) := by decide +kernel
theorem dX10_told_46 : decode cX10_told 46 = .ok (.invokestatic 78, 3) := by decide +kernel
theorem dX10_told_49 : decode cX10_told 49 = .ok (.ifCond .eq 18, 3) := by decide +kernel
theorem dX10_told_52 : decode cX10_told 52 = .ok (.aload_n 0, 1) := by decide +kernel
theorem dX10_told_53 : decode cX10_told 53 = .ok (.getfield 10, 3) := by decide +kernel
theorem dX10_told_56 : decode cX10_told 56 = .ok (.getfield 97, 3) := by decide +kernel
theorem dX10_told_59 : decode cX10_told 59 = .ok (.iload_n 1, 1) := by decide +kernel
theorem dX10_told_60 : decode cX10_told 60 = .ok (.bipush 20, 2) := by decide +kernel
theorem dX10_told_62 : decode cX10_told 62 = .ok (.isub, 1) := by decide +kernel
theorem dX10_told_63 : decode cX10_told 63 = .ok (.invokestatic 86, 3) := by decide +kernel
theorem dX10_told_66 : decode cX10_told 66 = .ok (.ireturn, 1) := by decide +kernel
theorem dX10_told_67 : decode cX10_told 67 = .ok (.iload_n 1, 1) := by decide +kernel
theorem dX10_told_68 : decode cX10_told 68 = .ok (.bipush 40, 2) := by decide +kernel
theorem dX10_told_70 : decode cX10_told 70 = .ok (.bipush 49, 2) := by decide +kernel
theorem dX10_told_72 : decode cX10_told 72 = .ok (.invokestatic 78, 3) := by decide +kernel
theorem dX10_told_75 : decode cX10_told 75 = .ok (.ifCond .eq 18, 3) := by decide +kernel
theorem dX10_told_78 : decode cX10_told 78 = .ok (.aload_n 0, 1) := by decide +kernel
theorem dX10_told_79 : decode cX10_told 79 = .ok (.getfield 10, 3) := by decide +kernel
theorem dX10_told_82 : decode cX10_told 82 = .ok (.getfield 82, 3) := by decide +kernel
theorem dX10_told_85 : decode cX10_told 85 = .ok (.iload_n 1, 1) := by decide +kernel
theorem dX10_told_86 : decode cX10_told 86 = .ok (.bipush 40, 2) := by decide +kernel
theorem dX10_told_88 : decode cX10_told 88 = .ok (.isub, 1) := by decide +kernel
theorem dX10_told_89 : decode cX10_told 89 = .ok (.invokestatic 86, 3) := by decide +kernel
theorem dX10_told_92 : decode cX10_told 92 = .ok (.ireturn, 1) := by decide +kernel
theorem dX10_told_93 : decode cX10_told 93 = .ok (.iload_n 1, 1) := by decide +kernel
theorem dX10_told_94 : decode cX10_told 94 = .ok (.bipush 60, 2) := by decide +kernel
theorem dX10_told_96 : decode cX10_told 96 = .ok (.bipush 69, 2) := by decide +kernel
theorem dX10_told_98 : decode cX10_told 98 = .ok (.invokestatic 78, 3) := by decide +kernel
theorem dX10_told_101 : decode cX10_told 101 = .ok (.ifCond .eq 18, 3) := by decide +kernel
theorem dX10_told_104 : decode cX10_told 104 = .ok (.aload_n 0, 1) := by decide +kernel
theorem dX10_told_105 : decode cX10_told 105 = .ok (.getfield 10, 3) := by decide +kernel
theorem dX10_told_108 : decode cX10_told 108 = .ok (.getfield 94, 3) := by decide +kernel
theorem dX10_told_111 : decode cX10_told 111 = .ok (.iload_n 1, 1) := by decide +kernel
theorem dX10_told_112 : decode cX10_told 112 = .ok (.bipush 60, 2) := by decide +kernel
theorem dX10_told_114 : decode cX10_told 114 = .ok (.isub, 1) := by decide +kernel
theorem dX10_told_115 : decode cX10_told 115 = .ok (.invokestatic 86, 3) := by decide +kernel
theorem dX10_told_118 : decode cX10_told 118 = .ok (.ireturn, 1) := by decide +kernel
theorem dX10_told_119 : decode cX10_told 119 = .ok (.iload_n 1, 1) := by decide +kernel
theorem dX10_told_120 : decode cX10_told 120 = .ok (.bipush 80, 2) := by decide +kernel
theorem dX10_told_122 : decode cX10_told 122 = .ok (.bipush 85, 2) := by decide +kernel
theorem dX10_told_124 : decode cX10_told 124 = .ok (.invokestatic 78, 3) := by decide +kernel
theorem dX10_told_127 : decode cX10_told 127 = .ok (.ifCond .eq 19, 3) := by decide +kernel
theorem dX10_told_130 : decode cX10_told 130 = .ok (.aload_n 0, 1) := by decide +kernel
theorem dX10_told_131 : decode cX10_told 131 = .ok (.getfield 10, 3) := by decide +kernel
theorem dX10_told_134 : decode cX10_told 134 = .ok (.getfield 135, 3) := by decide +kernel
theorem dX10_told_137 : decode cX10_told 137 = .ok (.iconst 0, 1) := by decide +kernel
theorem dX10_told_138 : decode cX10_told 138 = .ok (.iload_n 1, 1) := by decide +kernel
theorem dX10_told_139 : decode cX10_told 139 = .ok (.bipush 80, 2) := by decide +kernel
theorem dX10_told_141 : decode cX10_told 141 = .ok (.isub, 1) := by decide +kernel
theorem dX10_told_142 : decode cX10_told 142 = .ok (.invokevirtual 145, 3) := by decide +kernel
theorem dX10_told_145 : decode cX10_told 145 = .ok (.ireturn, 1) := by decide +kernel
theorem dX10_told_146 : decode cX10_told 146 = .ok (.iload_n 1, 1) := by decide +kernel
theorem dX10_told_147 : decode cX10_told 147 = .ok (.bipush 90, 2) := by decide +kernel
theorem dX10_told_149 : decode cX10_told 149 = .ok (.bipush 95, 2) := by decide +kernel
theorem dX10_told_151 : decode cX10_told 151 = .ok (.invokestatic 78, 3) := by decide +kernel
theorem dX10_told_154 : decode cX10_told 154 = .ok (.ifCond .eq 19, 3) := by decide +kernel
theorem dX10_told_157 : decode cX10_told 157 = .ok (.aload_n 0, 1) := by decide +kernel
theorem dX10_told_158 : decode cX10_told 158 = .ok (.getfield 10, 3) := by decide +kernel
theorem dX10_told_161 : decode cX10_told 161 = .ok (.getfield 135, 3) := by decide +kernel
theorem dX10_told_164 : decode cX10_told 164 = .ok (.iconst 1, 1) := by decide +kernel
theorem dX10_told_165 : decode cX10_told 165 = .ok (.iload_n 1, 1) := by decide +kernel
theorem dX10_told_166 : decode cX10_told 166 = .ok (.bipush 90, 2) := by decide +kernel
theorem dX10_told_168 : decode cX10_told 168 = .ok (.isub, 1) := by decide +kernel
theorem dX10_told_169 : decode cX10_told 169 = .ok (.invokevirtual 145, 3) := by decide +kernel
theorem dX10_told_172 : decode cX10_told 172 = .ok (.ireturn, 1) := by decide +kernel
theorem dX10_told_173 : decode cX10_told 173 = .ok (.bipush (-2), 2) := by decide +kernel
theorem dX10_told_175 : decode cX10_told 175 = .ok (.ireturn, 1) := by decide +kernel
set_option maxRecDepth 20000 in
theorem ggX10_toldCount_X7_lengthOf : GoodIn wsX10_toldCount wsX7_lengthOf := goodIn_r _ [7, 8, 30, 31, 32] (by decide +kernel) (by decide +kernel)
set_option maxRecDepth 20000 in
theorem gX10_toldCount_X7_lengthOf : GoodIn wsX10_toldCount (wsV RX10 266 RX7 yX7_lengthOf wsX7_lengthOf) := goodIn_app (goodIn_of _ (by decide +kernel)) ggX10_toldCount_X7_lengthOf
theorem dX10_toldCount_0 : decode cX10_toldCount 0 = .ok (.iload_n 1, 1) := by decide +kernel
theorem dX10_toldCount_1 : decode cX10_toldCount 1 = .ok (.tableswitch 89 0 4 #[35, 43, 55, 67, 78], 35) := by decide +kernel
theorem dX10_toldCount_36 : decode cX10_toldCount 36 = .ok (.aload_n 0, 1) := by decide +kernel
theorem dX10_toldCount_37 : decode cX10_toldCount 37 = .ok (.getfield 32, 3) := by decide +kernel
theorem dX10_toldCount_40 : decode cX10_toldCount 40 = .ok (.getfield 107, 3) := by decide +kernel
theorem dX10_toldCount_43 : decode cX10_toldCount 43 = .ok (.ireturn, 1) := by decide +kernel
theorem dX10_toldCount_44 : decode cX10_toldCount 44 = .ok (.aload_n 0, 1) := by decide +kernel
theorem dX10_toldCount_45 : decode cX10_toldCount 45 = .ok (.getfield 10, 3) := by decide +kernel
theorem dX10_toldCount_48 : decode cX10_toldCount 48 = .ok (.getfield 135, 3) := by decide +kernel
theorem dX10_toldCount_51 : decode cX10_toldCount 51 = .ok (.iconst 0, 1) := by decide +kernel
theorem dX10_toldCount_52 : decode cX10_toldCount 52 = .ok (.invokevirtual 266, 3) := by decide +kernel
theorem dX10_toldCount_55 : decode cX10_toldCount 55 = .ok (.ireturn, 1) := by decide +kernel
theorem dX10_toldCount_56 : decode cX10_toldCount 56 = .ok (.aload_n 0, 1) := by decide +kernel
theorem dX10_toldCount_57 : decode cX10_toldCount 57 = .ok (.getfield 10, 3) := by decide +kernel
theorem dX10_toldCount_60 : decode cX10_toldCount 60 = .ok (.getfield 135, 3) := by decide +kernel
theorem dX10_toldCount_63 : decode cX10_toldCount 63 = .ok (.iconst 1, 1) := by decide +kernel
theorem dX10_toldCount_64 : decode cX10_toldCount 64 = .ok (.invokevirtual 266, 3) := by decide +kernel
theorem dX10_toldCount_67 : decode cX10_toldCount 67 = .ok (.ireturn, 1) := by decide +kernel
theorem dX10_toldCount_68 : decode cX10_toldCount 68 = .ok (.aload_n 0, 1) := by decide +kernel
theorem dX10_toldCount_69 : decode cX10_toldCount 69 = .ok (.getfield 10, 3) := by decide +kernel
theorem dX10_toldCount_72 : decode cX10_toldCount 72 = .ok (.getfield 135, 3) := by decide +kernel
theorem dX10_toldCount_75 : decode cX10_toldCount 75 = .ok (.getfield 155, 3) := by decide +kernel
theorem dX10_toldCount_78 : decode cX10_toldCount 78 = .ok (.ireturn, 1) := by decide +kernel
theorem dX10_toldCount_79 : decode cX10_toldCount 79 = .ok (.aload_n 0, 1) := by decide +kernel
theorem dX10_toldCount_80 : decode cX10_toldCount 80 = .ok (.getfield 10, 3) := by decide +kernel
theorem dX10_toldCount_83 : decode cX10_toldCount 83 = .ok (.getfield 213, 3) := by decide +kernel
theorem dX10_toldCount_86 : decode cX10_toldCount 86 = .ok (.getfield 217, 3) := by decide +kernel
theorem dX10_toldCount_89 : decode cX10_toldCount 89 = .ok (.ireturn, 1) := by decide +kernel
theorem dX10_toldCount_90 : decode cX10_toldCount 90 = .ok (.aload_n 0, 1) := by decide +kernel
theorem dX10_toldCount_91 : decode cX10_toldCount 91 = .ok (.getfield 10, 3) := by decide +kernel
theorem dX10_toldCount_94 : decode cX10_toldCount 94 = .ok (.getfield 232, 3) := by decide +kernel
theorem dX10_toldCount_97 : decode cX10_toldCount 97 = .ok (.getfield 217, 3) := by decide +kernel
theorem dX10_toldCount_100 : decode cX10_toldCount 100 = .ok (.ireturn, 1) := by decide +kernel
theorem dX10_imageOf_0 : decode cX10_imageOf 0 = .ok (.iload_n 1, 1) := by decide +kernel
theorem dX10_imageOf_1 : decode cX10_imageOf 1 = .ok (.ifCond .ne 10, 3) := by decide +kernel
theorem dX10_imageOf_4 : decode cX10_imageOf 4 = .ok (.aload_n 0, 1) := by decide +kernel
theorem dX10_imageOf_5 : decode cX10_imageOf 5 = .ok (.getfield 19, 3) := by decide +kernel
theorem dX10_imageOf_8 : decode cX10_imageOf 8 = .ok (.goto 7, 3) := by decide +kernel
theorem dX10_imageOf_11 : decode cX10_imageOf 11 = .ok (.aload_n 0, 1) := by decide +kernel
theorem dX10_imageOf_12 : decode cX10_imageOf 12 = .ok (.getfield 22, 3) := by decide +kernel
theorem dX10_imageOf_15 : decode cX10_imageOf 15 = .ok (.areturn, 1) := by decide +kernel
set_option maxRecDepth 20000 in
theorem ggX10_daysCanBe_X4_firstFault : GoodIn wsX10_daysCanBe wsX4_firstFault := goodIn_r _ [9, 10, 11, 12, 13, 14, 15, 16, 8, 17, 18, 19, 20, 21, 22, 23, 116, 117] (by decide +kernel) (by decide +kernel)
set_option maxRecDepth 20000 in
theorem gX10_daysCanBe_X4_firstFault : GoodIn wsX10_daysCanBe (wsV RX10 118 RX4 yX4_firstFault wsX4_firstFault) := goodIn_app (goodIn_of _ (by decide +kernel)) ggX10_daysCanBe_X4_firstFault
set_option maxRecDepth 20000 in
theorem ggX10_daysCanBe_X6_play : GoodIn wsX10_daysCanBe wsX6_play := goodIn_r _ [28, 29, 30, 31, 32, 33, 34, 35, 36, 37, 38, 39, 40, 41, 42, 43, 13, 44, 45, 46, 47, 48, 49, 50, 51, 52, 53, 54, 55, 56, 57, 58, 59, 60, 61, 62, 63, 8, 64, 11, 12, 14, 18, 19, 20, 65, 66, 67, 68, 69, 70, 71, 72, 73, 74, 75, 76, 77, 78, 79, 80, 81, 82, 83, 84, 85, 86, 87, 88, 89, 90, 91, 92, 93, 94, 95, 96, 97, 98, 99, 100, 101, 114, 115, 116, 117, 118, 119, 120, 121, 122, 123, 124, 125, 126, 127, 128, 129, 130] (by decide +kernel) (by decide +kernel)
set_option maxRecDepth 20000 in
theorem gX10_daysCanBe_X6_play : GoodIn wsX10_daysCanBe (wsV RX10 121 RX6 yX6_play wsX6_play) := goodIn_app (goodIn_of _ (by decide +kernel)) ggX10_daysCanBe_X6_play
theorem dX10_daysCanBe_0 : decode cX10_daysCanBe 0 = .ok (.aload_n 0, 1) := by decide +kernel
theorem dX10_daysCanBe_1 : decode cX10_daysCanBe 1 = .ok (.getfield 32, 3) := by decide +kernel
theorem dX10_daysCanBe_4 : decode cX10_daysCanBe 4 = .ok (.invokevirtual 118, 3) := by decide +kernel
theorem dX10_daysCanBe_7 : decode cX10_daysCanBe 7 = .ok (.bipush (-6), 2) := by decide +kernel
theorem dX10_daysCanBe_9 : decode cX10_daysCanBe 9 = .ok (.if_icmp .eq 5, 3) := by decide +kernel
theorem dX10_daysCanBe_12 : decode cX10_daysCanBe 12 = .ok (.iconst 0, 1) := by decide +kernel
theorem dX10_daysCanBe_13 : decode cX10_daysCanBe 13 = .ok (.ireturn, 1) := by decide +kernel
theorem dX10_daysCanBe_14 : decode cX10_daysCanBe 14 = .ok (.aload_n 0, 1) := by decide +kernel
theorem dX10_daysCanBe_15 : decode cX10_daysCanBe 15 = .ok (.getfield 39, 3) := by decide +kernel
theorem dX10_daysCanBe_18 : decode cX10_daysCanBe 18 = .ok (.aload_n 0, 1) := by decide +kernel
theorem dX10_daysCanBe_19 : decode cX10_daysCanBe 19 = .ok (.getfield 32, 3) := by decide +kernel
theorem dX10_daysCanBe_22 : decode cX10_daysCanBe 22 = .ok (.aload_n 0, 1) := by decide +kernel
theorem dX10_daysCanBe_23 : decode cX10_daysCanBe 23 = .ok (.getfield 10, 3) := by decide +kernel
theorem dX10_daysCanBe_26 : decode cX10_daysCanBe 26 = .ok (.aload_n 0, 1) := by decide +kernel
theorem dX10_daysCanBe_27 : decode cX10_daysCanBe 27 = .ok (.getfield 16, 3) := by decide +kernel
theorem dX10_daysCanBe_30 : decode cX10_daysCanBe 30 = .ok (.invokevirtual 121, 3) := by decide +kernel
theorem dX10_daysCanBe_33 : decode cX10_daysCanBe 33 = .ok (.aload_n 0, 1) := by decide +kernel
theorem dX10_daysCanBe_34 : decode cX10_daysCanBe 34 = .ok (.getfield 39, 3) := by decide +kernel
theorem dX10_daysCanBe_37 : decode cX10_daysCanBe 37 = .ok (.getfield 125, 3) := by decide +kernel
theorem dX10_daysCanBe_40 : decode cX10_daysCanBe 40 = .ok (.ifCond .ne 7, 3) := by decide +kernel
theorem dX10_daysCanBe_43 : decode cX10_daysCanBe 43 = .ok (.iconst 1, 1) := by decide +kernel
theorem dX10_daysCanBe_44 : decode cX10_daysCanBe 44 = .ok (.goto 4, 3) := by decide +kernel
theorem dX10_daysCanBe_47 : decode cX10_daysCanBe 47 = .ok (.iconst 0, 1) := by decide +kernel
theorem dX10_daysCanBe_48 : decode cX10_daysCanBe 48 = .ok (.ireturn, 1) := by decide +kernel
theorem dX10_within_0 : decode cX10_within 0 = .ok (.iload_n 0, 1) := by decide +kernel
theorem dX10_within_1 : decode cX10_within 1 = .ok (.iload_n 1, 1) := by decide +kernel
theorem dX10_within_2 : decode cX10_within 2 = .ok (.if_icmp .lt 12, 3) := by decide +kernel
theorem dX10_within_5 : decode cX10_within 5 = .ok (.iload_n 0, 1) := by decide +kernel
theorem dX10_within_6 : decode cX10_within 6 = .ok (.iload_n 2, 1) := by decide +kernel
theorem dX10_within_7 : decode cX10_within 7 = .ok (.if_icmp .gt 7, 3) := by decide +kernel
theorem dX10_within_10 : decode cX10_within 10 = .ok (.iconst 1, 1) := by decide +kernel
theorem dX10_within_11 : decode cX10_within 11 = .ok (.goto 4, 3) := by decide +kernel
theorem dX10_within_14 : decode cX10_within 14 = .ok (.iconst 0, 1) := by decide +kernel
theorem dX10_within_15 : decode cX10_within 15 = .ok (.ireturn, 1) := by decide +kernel
theorem dX10_isRow_0 : decode cX10_isRow 0 = .ok (.iload_n 0, 1) := by decide +kernel
theorem dX10_isRow_1 : decode cX10_isRow 1 = .ok (.ifCond .eq 8, 3) := by decide +kernel
theorem dX10_isRow_4 : decode cX10_isRow 4 = .ok (.iload_n 0, 1) := by decide +kernel
theorem dX10_isRow_5 : decode cX10_isRow 5 = .ok (.iconst 1, 1) := by decide +kernel
theorem dX10_isRow_6 : decode cX10_isRow 6 = .ok (.if_icmp .ne 7, 3) := by decide +kernel
theorem dX10_isRow_9 : decode cX10_isRow 9 = .ok (.iconst 1, 1) := by decide +kernel
theorem dX10_isRow_10 : decode cX10_isRow 10 = .ok (.goto 4, 3) := by decide +kernel
theorem dX10_isRow_13 : decode cX10_isRow 13 = .ok (.iconst 0, 1) := by decide +kernel
theorem dX10_isRow_14 : decode cX10_isRow 14 = .ok (.ireturn, 1) := by decide +kernel
theorem dX10_at_0 : decode cX10_at 0 = .ok (.aload_n 0, 1) := by decide +kernel
theorem dX10_at_1 : decode cX10_at 1 = .ok (.ifnull 19, 3) := by decide +kernel
theorem dX10_at_4 : decode cX10_at 4 = .ok (.iload_n 1, 1) := by decide +kernel
theorem dX10_at_5 : decode cX10_at 5 = .ok (.ifCond .lt 15, 3) := by decide +kernel
theorem dX10_at_8 : decode cX10_at 8 = .ok (.iload_n 1, 1) := by decide +kernel
theorem dX10_at_9 : decode cX10_at 9 = .ok (.aload_n 0, 1) := by decide +kernel
theorem dX10_at_10 : decode cX10_at 10 = .ok (.arraylength, 1) := by decide +kernel
theorem dX10_at_11 : decode cX10_at 11 = .ok (.if_icmp .ge 9, 3) := by decide +kernel
theorem dX10_at_14 : decode cX10_at 14 = .ok (.aload_n 0, 1) := by decide +kernel
theorem dX10_at_15 : decode cX10_at 15 = .ok (.iload_n 1, 1) := by decide +kernel
theorem dX10_at_16 : decode cX10_at 16 = .ok (.iaload, 1) := by decide +kernel
theorem dX10_at_17 : decode cX10_at 17 = .ok (.goto 4, 3) := by decide +kernel
theorem dX10_at_20 : decode cX10_at 20 = .ok (.iconst 0, 1) := by decide +kernel
theorem dX10_at_21 : decode cX10_at 21 = .ok (.ireturn, 1) := by decide +kernel
theorem dX10_put_0 : decode cX10_put 0 = .ok (.aload_n 0, 1) := by decide +kernel
theorem dX10_put_1 : decode cX10_put 1 = .ok (.ifnull 17, 3) := by decide +kernel
theorem dX10_put_4 : decode cX10_put 4 = .ok (.iload_n 1, 1) := by decide +kernel
theorem dX10_put_5 : decode cX10_put 5 = .ok (.ifCond .lt 13, 3) := by decide +kernel
theorem dX10_put_8 : decode cX10_put 8 = .ok (.iload_n 1, 1) := by decide +kernel
theorem dX10_put_9 : decode cX10_put 9 = .ok (.aload_n 0, 1) := by decide +kernel
theorem dX10_put_10 : decode cX10_put 10 = .ok (.arraylength, 1) := by decide +kernel
theorem dX10_put_11 : decode cX10_put 11 = .ok (.if_icmp .ge 7, 3) := by decide +kernel
theorem dX10_put_14 : decode cX10_put 14 = .ok (.aload_n 0, 1) := by decide +kernel
theorem dX10_put_15 : decode cX10_put 15 = .ok (.iload_n 1, 1) := by decide +kernel
theorem dX10_put_16 : decode cX10_put 16 = .ok (.iload_n 2, 1) := by decide +kernel
theorem dX10_put_17 : decode cX10_put 17 = .ok (.iastore, 1) := by decide +kernel
theorem dX10_put_18 : decode cX10_put 18 = .ok (.return_, 1) := by decide +kernel
theorem dX10_fill_0 : decode cX10_fill 0 = .ok (.aload_n 0, 1) := by decide +kernel
theorem dX10_fill_1 : decode cX10_fill 1 = .ok (.ifnonnull 4, 3) := by decide +kernel
theorem dX10_fill_4 : decode cX10_fill 4 = .ok (.return_, 1) := by decide +kernel
theorem dX10_fill_5 : decode cX10_fill 5 = .ok (.iconst 0, 1) := by decide +kernel
theorem dX10_fill_6 : decode cX10_fill 6 = .ok (.istore_n 2, 1) := by decide +kernel
theorem dX10_fill_7 : decode cX10_fill 7 = .ok (.iload_n 2, 1) := by decide +kernel
theorem dX10_fill_8 : decode cX10_fill 8 = .ok (.aload_n 0, 1) := by decide +kernel
theorem dX10_fill_9 : decode cX10_fill 9 = .ok (.arraylength, 1) := by decide +kernel
theorem dX10_fill_10 : decode cX10_fill 10 = .ok (.if_icmp .ge 13, 3) := by decide +kernel
theorem dX10_fill_13 : decode cX10_fill 13 = .ok (.aload_n 0, 1) := by decide +kernel
theorem dX10_fill_14 : decode cX10_fill 14 = .ok (.iload_n 2, 1) := by decide +kernel
theorem dX10_fill_15 : decode cX10_fill 15 = .ok (.iload_n 1, 1) := by decide +kernel
theorem dX10_fill_16 : decode cX10_fill 16 = .ok (.iastore, 1) := by decide +kernel
theorem dX10_fill_17 : decode cX10_fill 17 = .ok (.iinc 2 1, 3) := by decide +kernel
theorem dX10_fill_20 : decode cX10_fill 20 = .ok (.goto (-13), 3) := by decide +kernel
theorem dX10_fill_23 : decode cX10_fill 23 = .ok (.return_, 1) := by decide +kernel
theorem dX10_copy_0 : decode cX10_copy 0 = .ok (.aload_n 0, 1) := by decide +kernel
theorem dX10_copy_1 : decode cX10_copy 1 = .ok (.ifnull 7, 3) := by decide +kernel
theorem dX10_copy_4 : decode cX10_copy 4 = .ok (.aload_n 1, 1) := by decide +kernel
theorem dX10_copy_5 : decode cX10_copy 5 = .ok (.ifnonnull 4, 3) := by decide +kernel
theorem dX10_copy_8 : decode cX10_copy 8 = .ok (.return_, 1) := by decide +kernel
theorem dX10_copy_9 : decode cX10_copy 9 = .ok (.iconst 0, 1) := by decide +kernel
theorem dX10_copy_10 : decode cX10_copy 10 = .ok (.istore_n 2, 1) := by decide +kernel
theorem dX10_copy_11 : decode cX10_copy 11 = .ok (.iload_n 2, 1) := by decide +kernel
theorem dX10_copy_12 : decode cX10_copy 12 = .ok (.aload_n 0, 1) := by decide +kernel
theorem dX10_copy_13 : decode cX10_copy 13 = .ok (.arraylength, 1) := by decide +kernel
theorem dX10_copy_14 : decode cX10_copy 14 = .ok (.if_icmp .ge 21, 3) := by decide +kernel
theorem dX10_copy_17 : decode cX10_copy 17 = .ok (.iload_n 2, 1) := by decide +kernel
theorem dX10_copy_18 : decode cX10_copy 18 = .ok (.aload_n 1, 1) := by decide +kernel
theorem dX10_copy_19 : decode cX10_copy 19 = .ok (.arraylength, 1) := by decide +kernel
theorem dX10_copy_20 : decode cX10_copy 20 = .ok (.if_icmp .ge 15, 3) := by decide +kernel
theorem dX10_copy_23 : decode cX10_copy 23 = .ok (.aload_n 1, 1) := by decide +kernel
theorem dX10_copy_24 : decode cX10_copy 24 = .ok (.iload_n 2, 1) := by decide +kernel
theorem dX10_copy_25 : decode cX10_copy 25 = .ok (.aload_n 0, 1) := by decide +kernel
theorem dX10_copy_26 : decode cX10_copy 26 = .ok (.iload_n 2, 1) := by decide +kernel
theorem dX10_copy_27 : decode cX10_copy 27 = .ok (.iaload, 1) := by decide +kernel
theorem dX10_copy_28 : decode cX10_copy 28 = .ok (.iastore, 1) := by decide +kernel
theorem dX10_copy_29 : decode cX10_copy 29 = .ok (.iinc 2 1, 3) := by decide +kernel
theorem dX10_copy_32 : decode cX10_copy 32 = .ok (.goto (-21), 3) := by decide +kernel
theorem dX10_copy_35 : decode cX10_copy 35 = .ok (.return_, 1) := by decide +kernel
theorem dX11_init_0 : decode cX11_init 0 = .ok (.aload_n 0, 1) := by decide +kernel
theorem dX11_init_1 : decode cX11_init 1 = .ok (.invokespecial 1, 3) := by decide +kernel
theorem dX11_init_4 : decode cX11_init 4 = .ok (.aload_n 0, 1) := by decide +kernel
theorem dX11_init_5 : decode cX11_init 5 = .ok (.bipush 15, 2) := by decide +kernel
theorem dX11_init_7 : decode cX11_init 7 = .ok (.newarray .int, 2) := by decide +kernel
theorem dX11_init_9 : decode cX11_init 9 = .ok (.putfield 7, 3) := by decide +kernel
theorem dX11_init_12 : decode cX11_init 12 = .ok (.aload_n 0, 1) := by decide +kernel
theorem dX11_init_13 : decode cX11_init 13 = .ok (.bipush 15, 2) := by decide +kernel
theorem dX11_init_15 : decode cX11_init 15 = .ok (.newarray .int, 2) := by decide +kernel
theorem dX11_init_17 : decode cX11_init 17 = .ok (.putfield 13, 3) := by decide +kernel
theorem dX11_init_20 : decode cX11_init 20 = .ok (.aload_n 0, 1) := by decide +kernel
theorem dX11_init_21 : decode cX11_init 21 = .ok (.bipush 10, 2) := by decide +kernel
theorem dX11_init_23 : decode cX11_init 23 = .ok (.newarray .int, 2) := by decide +kernel
theorem dX11_init_25 : decode cX11_init 25 = .ok (.putfield 16, 3) := by decide +kernel
theorem dX11_init_28 : decode cX11_init 28 = .ok (.aload_n 0, 1) := by decide +kernel
theorem dX11_init_29 : decode cX11_init 29 = .ok (.bipush 10, 2) := by decide +kernel
theorem dX11_init_31 : decode cX11_init 31 = .ok (.newarray .int, 2) := by decide +kernel
theorem dX11_init_33 : decode cX11_init 33 = .ok (.putfield 19, 3) := by decide +kernel
theorem dX11_init_36 : decode cX11_init 36 = .ok (.aload_n 0, 1) := by decide +kernel
theorem dX11_init_37 : decode cX11_init 37 = .ok (.bipush 17, 2) := by decide +kernel
theorem dX11_init_39 : decode cX11_init 39 = .ok (.newarray .int, 2) := by decide +kernel
theorem dX11_init_41 : decode cX11_init 41 = .ok (.putfield 22, 3) := by decide +kernel
theorem dX11_init_44 : decode cX11_init 44 = .ok (.aload_n 0, 1) := by decide +kernel
theorem dX11_init_45 : decode cX11_init 45 = .ok (.iconst 2, 1) := by decide +kernel
theorem dX11_init_46 : decode cX11_init 46 = .ok (.newarray .int, 2) := by decide +kernel
theorem dX11_init_48 : decode cX11_init 48 = .ok (.putfield 25, 3) := by decide +kernel
theorem dX11_init_51 : decode cX11_init 51 = .ok (.aload_n 0, 1) := by decide +kernel
theorem dX11_init_52 : decode cX11_init 52 = .ok (.bipush 10, 2) := by decide +kernel
theorem dX11_init_54 : decode cX11_init 54 = .ok (.newarray .int, 2) := by decide +kernel
theorem dX11_init_56 : decode cX11_init 56 = .ok (.putfield 28, 3) := by decide +kernel
theorem dX11_init_59 : decode cX11_init 59 = .ok (.aload_n 0, 1) := by decide +kernel
theorem dX11_init_60 : decode cX11_init 60 = .ok (.bipush 10, 2) := by decide +kernel
theorem dX11_init_62 : decode cX11_init 62 = .ok (.newarray .int, 2) := by decide +kernel
theorem dX11_init_64 : decode cX11_init 64 = .ok (.putfield 31, 3) := by decide +kernel
theorem dX11_init_67 : decode cX11_init 67 = .ok (.aload_n 0, 1) := by decide +kernel
theorem dX11_init_68 : decode cX11_init 68 = .ok (.bipush 16, 2) := by decide +kernel
theorem dX11_init_70 : decode cX11_init 70 = .ok (.newarray .int, 2) := by decide +kernel
theorem dX11_init_72 : decode cX11_init 72 = .ok (.putfield 34, 3) := by decide +kernel
theorem dX11_init_75 : decode cX11_init 75 = .ok (.aload_n 0, 1) := by decide +kernel
theorem dX11_init_76 : decode cX11_init 76 = .ok (.bipush 60, 2) := by decide +kernel
theorem dX11_init_78 : decode cX11_init 78 = .ok (.newarray .int, 2) := by decide +kernel
theorem dX11_init_80 : decode cX11_init 80 = .ok (.putfield 37, 3) := by decide +kernel
theorem dX11_init_83 : decode cX11_init 83 = .ok (.aload_n 0, 1) := by decide +kernel
theorem dX11_init_84 : decode cX11_init 84 = .ok (.bipush 18, 2) := by decide +kernel
theorem dX11_init_86 : decode cX11_init 86 = .ok (.newarray .int, 2) := by decide +kernel
theorem dX11_init_88 : decode cX11_init 88 = .ok (.putfield 40, 3) := by decide +kernel
theorem dX11_init_91 : decode cX11_init 91 = .ok (.aload_n 0, 1) := by decide +kernel
theorem dX11_init_92 : decode cX11_init 92 = .ok (.bipush 120, 2) := by decide +kernel
theorem dX11_init_94 : decode cX11_init 94 = .ok (.newarray .boolean, 2) := by decide +kernel
theorem dX11_init_96 : decode cX11_init 96 = .ok (.putfield 43, 3) := by decide +kernel
theorem dX11_init_99 : decode cX11_init 99 = .ok (.aload_n 0, 1) := by decide +kernel
theorem dX11_init_100 : decode cX11_init 100 = .ok (.bipush 14, 2) := by decide +kernel
theorem dX11_init_102 : decode cX11_init 102 = .ok (.newarray .long, 2) := by decide +kernel
theorem dX11_init_104 : decode cX11_init 104 = .ok (.putfield 47, 3) := by decide +kernel
theorem dX11_init_107 : decode cX11_init 107 = .ok (.aload_n 0, 1) := by decide +kernel
theorem dX11_init_108 : decode cX11_init 108 = .ok (.sipush 200, 3) := by decide +kernel
theorem dX11_init_111 : decode cX11_init 111 = .ok (.newarray .int, 2) := by decide +kernel
theorem dX11_init_113 : decode cX11_init 113 = .ok (.putfield 51, 3) := by decide +kernel
theorem dX11_init_116 : decode cX11_init 116 = .ok (.aload_n 0, 1) := by decide +kernel
theorem dX11_init_117 : decode cX11_init 117 = .ok (.iconst 2, 1) := by decide +kernel
theorem dX11_init_118 : decode cX11_init 118 = .ok (.newarray .boolean, 2) := by decide +kernel
theorem dX11_init_120 : decode cX11_init 120 = .ok (.putfield 54, 3) := by decide +kernel
theorem dX11_init_123 : decode cX11_init 123 = .ok (.iconst 0, 1) := by decide +kernel
theorem dX11_init_124 : decode cX11_init 124 = .ok (.istore_n 1, 1) := by decide +kernel
theorem dX11_init_125 : decode cX11_init 125 = .ok (.iload_n 1, 1) := by decide +kernel
theorem dX11_init_126 : decode cX11_init 126 = .ok (.bipush 10, 2) := by decide +kernel
theorem dX11_init_128 : decode cX11_init 128 = .ok (.if_icmp .ge 24, 3) := by decide +kernel
theorem dX11_init_131 : decode cX11_init 131 = .ok (.aload_n 0, 1) := by decide +kernel
theorem dX11_init_132 : decode cX11_init 132 = .ok (.getfield 16, 3) := by decide +kernel
theorem dX11_init_135 : decode cX11_init 135 = .ok (.iload_n 1, 1) := by decide +kernel
theorem dX11_init_136 : decode cX11_init 136 = .ok (.iconst 5, 1) := by decide +kernel
theorem dX11_init_137 : decode cX11_init 137 = .ok (.iastore, 1) := by decide +kernel
theorem dX11_init_138 : decode cX11_init 138 = .ok (.aload_n 0, 1) := by decide +kernel
theorem dX11_init_139 : decode cX11_init 139 = .ok (.getfield 19, 3) := by decide +kernel
theorem dX11_init_142 : decode cX11_init 142 = .ok (.iload_n 1, 1) := by decide +kernel
theorem dX11_init_143 : decode cX11_init 143 = .ok (.bipush 12, 2) := by decide +kernel
theorem dX11_init_145 : decode cX11_init 145 = .ok (.iastore, 1) := by decide +kernel
theorem dX11_init_146 : decode cX11_init 146 = .ok (.iinc 1 1, 3) := by decide +kernel
theorem dX11_init_149 : decode cX11_init 149 = .ok (.goto (-24), 3) := by decide +kernel
theorem dX11_init_152 : decode cX11_init 152 = .ok (.iconst 0, 1) := by decide +kernel
theorem dX11_init_153 : decode cX11_init 153 = .ok (.istore_n 1, 1) := by decide +kernel
theorem dX11_init_154 : decode cX11_init 154 = .ok (.iload_n 1, 1) := by decide +kernel
theorem dX11_init_155 : decode cX11_init 155 = .ok (.bipush 17, 2) := by decide +kernel
theorem dX11_init_157 : decode cX11_init 157 = .ok (.if_icmp .ge 17, 3) := by decide +kernel
theorem dX11_init_160 : decode cX11_init 160 = .ok (.aload_n 0, 1) := by decide +kernel
theorem dX11_init_161 : decode cX11_init 161 = .ok (.getfield 22, 3) := by decide +kernel
theorem dX11_init_164 : decode cX11_init 164 = .ok (.iload_n 1, 1) := by decide +kernel
theorem dX11_init_165 : decode cX11_init 165 = .ok (.bipush 12, 2) := by decide +kernel
theorem dX11_init_167 : decode cX11_init 167 = .ok (.iastore, 1) := by decide +kernel
theorem dX11_init_168 : decode cX11_init 168 = .ok (.iinc 1 1, 3) := by decide +kernel
theorem dX11_init_171 : decode cX11_init 171 = .ok (.goto (-17), 3) := by decide +kernel
theorem dX11_init_174 : decode cX11_init 174 = .ok (.return_, 1) := by decide +kernel
theorem dX11_in_0 : decode cX11_in 0 = .ok (.iload_n 0, 1) := by decide +kernel
theorem dX11_in_1 : decode cX11_in 1 = .ok (.iload_n 1, 1) := by decide +kernel
theorem dX11_in_2 : decode cX11_in 2 = .ok (.if_icmp .lt 12, 3) := by decide +kernel
theorem dX11_in_5 : decode cX11_in 5 = .ok (.iload_n 0, 1) := by decide +kernel
theorem dX11_in_6 : decode cX11_in 6 = .ok (.iload_n 2, 1) := by decide +kernel
theorem dX11_in_7 : decode cX11_in 7 = .ok (.if_icmp .gt 7, 3) := by decide +kernel
theorem dX11_in_10 : decode cX11_in 10 = .ok (.iconst 1, 1) := by decide +kernel
theorem dX11_in_11 : decode cX11_in 11 = .ok (.goto 4, 3) := by decide +kernel
theorem dX11_in_14 : decode cX11_in 14 = .ok (.iconst 0, 1) := by decide +kernel
theorem dX11_in_15 : decode cX11_in 15 = .ok (.ireturn, 1) := by decide +kernel
theorem dX11_bits_0 : decode cX11_bits 0 = .ok (.iconst 0, 1) := by decide +kernel
theorem dX11_bits_1 : decode cX11_bits 1 = .ok (.istore_n 1, 1) := by decide +kernel
theorem dX11_bits_2 : decode cX11_bits 2 = .ok (.iconst 0, 1) := by decide +kernel
theorem dX11_bits_3 : decode cX11_bits 3 = .ok (.istore_n 2, 1) := by decide +kernel
theorem dX11_bits_4 : decode cX11_bits 4 = .ok (.iload_n 2, 1) := by decide +kernel
theorem dX11_bits_5 : decode cX11_bits 5 = .ok (.bipush 10, 2) := by decide +kernel
theorem dX11_bits_7 : decode cX11_bits 7 = .ok (.if_icmp .ge 17, 3) := by decide +kernel
theorem dX11_bits_10 : decode cX11_bits 10 = .ok (.iload_n 1, 1) := by decide +kernel
theorem dX11_bits_11 : decode cX11_bits 11 = .ok (.iload_n 0, 1) := by decide +kernel
theorem dX11_bits_12 : decode cX11_bits 12 = .ok (.iload_n 2, 1) := by decide +kernel
theorem dX11_bits_13 : decode cX11_bits 13 = .ok (.ishr, 1) := by decide +kernel
theorem dX11_bits_14 : decode cX11_bits 14 = .ok (.iconst 1, 1) := by decide +kernel
theorem dX11_bits_15 : decode cX11_bits 15 = .ok (.iand, 1) := by decide +kernel
theorem dX11_bits_16 : decode cX11_bits 16 = .ok (.iadd, 1) := by decide +kernel
theorem dX11_bits_17 : decode cX11_bits 17 = .ok (.istore_n 1, 1) := by decide +kernel
theorem dX11_bits_18 : decode cX11_bits 18 = .ok (.iinc 2 1, 3) := by decide +kernel
theorem dX11_bits_21 : decode cX11_bits 21 = .ok (.goto (-17), 3) := by decide +kernel
theorem dX11_bits_24 : decode cX11_bits 24 = .ok (.iload_n 1, 1) := by decide +kernel
theorem dX11_bits_25 : decode cX11_bits 25 = .ok (.ireturn, 1) := by decide +kernel
set_option maxRecDepth 20000 in
theorem ggX11_isMember_X11_in : GoodIn wsX11_isMember wsX11_in := goodIn_r _ [4] (by decide +kernel) (by decide +kernel)
set_option maxRecDepth 20000 in
theorem gX11_isMember_X11_in : GoodIn wsX11_isMember (va_wsS RX11 57 yX11_in wsX11_in) := goodIn_app (goodIn_of _ (by decide +kernel)) ggX11_isMember_X11_in
theorem dX11_isMember_0 : decode cX11_isMember 0 = .ok (.iload_n 0, 1) := by decide +kernel
theorem dX11_isMember_1 : decode cX11_isMember 1 = .ok (.iconst 0, 1) := by decide +kernel
theorem dX11_isMember_2 : decode cX11_isMember 2 = .ok (.bipush 9, 2) := by decide +kernel
theorem dX11_isMember_4 : decode cX11_isMember 4 = .ok (.invokestatic 57, 3) := by decide +kernel
theorem dX11_isMember_7 : decode cX11_isMember 7 = .ok (.ireturn, 1) := by decide +kernel
theorem dX11_isRow_0 : decode cX11_isRow 0 = .ok (.iload_n 0, 1) := by decide +kernel
theorem dX11_isRow_1 : decode cX11_isRow 1 = .ok (.ifCond .eq 8, 3) := by decide +kernel
theorem dX11_isRow_4 : decode cX11_isRow 4 = .ok (.iload_n 0, 1) := by decide +kernel
theorem dX11_isRow_5 : decode cX11_isRow 5 = .ok (.iconst 1, 1) := by decide +kernel
theorem dX11_isRow_6 : decode cX11_isRow 6 = .ok (.if_icmp .ne 7, 3) := by decide +kernel
theorem dX11_isRow_9 : decode cX11_isRow 9 = .ok (.iconst 1, 1) := by decide +kernel
theorem dX11_isRow_10 : decode cX11_isRow 10 = .ok (.goto 4, 3) := by decide +kernel
theorem dX11_isRow_13 : decode cX11_isRow 13 = .ok (.iconst 0, 1) := by decide +kernel
theorem dX11_isRow_14 : decode cX11_isRow 14 = .ok (.ireturn, 1) := by decide +kernel
set_option maxRecDepth 20000 in
theorem ggX11_member_X11_isMember : GoodIn wsX11_member wsX11_isMember := goodIn_r _ [6, 7, 8, 5, 9] (by decide +kernel) (by decide +kernel)
set_option maxRecDepth 20000 in
theorem gX11_member_X11_isMember : GoodIn wsX11_member (va_wsS RX11 61 yX11_isMember wsX11_isMember) := goodIn_app (goodIn_of _ (by decide +kernel)) ggX11_member_X11_isMember
set_option maxRecDepth 20000 in
theorem ggX11_member_X11_in : GoodIn wsX11_member wsX11_in := goodIn_r _ [9] (by decide +kernel) (by decide +kernel)
set_option maxRecDepth 20000 in
theorem gX11_member_X11_in : GoodIn wsX11_member (va_wsS RX11 57 yX11_in wsX11_in) := goodIn_app (goodIn_of _ (by decide +kernel)) ggX11_member_X11_in
theorem dX11_member_0 : decode cX11_member 0 = .ok (.iload_n 1, 1) := by decide +kernel
theorem dX11_member_1 : decode cX11_member 1 = .ok (.invokestatic 61, 3) := by decide +kernel
theorem dX11_member_4 : decode cX11_member 4 = .ok (.ifCond .ne 5, 3) := by decide +kernel
theorem dX11_member_7 : decode cX11_member 7 = .ok (.iconst (-1), 1) := by decide +kernel
theorem dX11_member_8 : decode cX11_member 8 = .ok (.ireturn, 1) := by decide +kernel
theorem dX11_member_9 : decode cX11_member 9 = .ok (.iload_n 2, 1) := by decide +kernel
theorem dX11_member_10 : decode cX11_member 10 = .ok (.iconst 1, 1) := by decide +kernel
theorem dX11_member_11 : decode cX11_member 11 = .ok (.bipush 15, 2) := by decide +kernel
theorem dX11_member_13 : decode cX11_member 13 = .ok (.invokestatic 57, 3) := by decide +kernel
theorem dX11_member_16 : decode cX11_member 16 = .ok (.ifCond .eq 13, 3) := by decide +kernel
theorem dX11_member_19 : decode cX11_member 19 = .ok (.iload_n 3, 1) := by decide +kernel
theorem dX11_member_20 : decode cX11_member 20 = .ok (.iconst 0, 1) := by decide +kernel
theorem dX11_member_21 : decode cX11_member 21 = .ok (.bipush 12, 2) := by decide +kernel
theorem dX11_member_23 : decode cX11_member 23 = .ok (.invokestatic 57, 3) := by decide +kernel
theorem dX11_member_26 : decode cX11_member 26 = .ok (.ifCond .ne 6, 3) := by decide +kernel
theorem dX11_member_29 : decode cX11_member 29 = .ok (.bipush (-2), 2) := by decide +kernel
theorem dX11_member_31 : decode cX11_member 31 = .ok (.ireturn, 1) := by decide +kernel
theorem dX11_member_32 : decode cX11_member 32 = .ok (.aload_n 0, 1) := by decide +kernel
theorem dX11_member_33 : decode cX11_member 33 = .ok (.getfield 16, 3) := by decide +kernel
theorem dX11_member_36 : decode cX11_member 36 = .ok (.iload_n 1, 1) := by decide +kernel
theorem dX11_member_37 : decode cX11_member 37 = .ok (.iaload, 1) := by decide +kernel
theorem dX11_member_38 : decode cX11_member 38 = .ok (.istore 4, 2) := by decide +kernel
theorem dX11_member_40 : decode cX11_member 40 = .ok (.aload_n 0, 1) := by decide +kernel
theorem dX11_member_41 : decode cX11_member 41 = .ok (.getfield 16, 3) := by decide +kernel
theorem dX11_member_44 : decode cX11_member 44 = .ok (.iload_n 1, 1) := by decide +kernel
theorem dX11_member_45 : decode cX11_member 45 = .ok (.iload_n 2, 1) := by decide +kernel
theorem dX11_member_46 : decode cX11_member 46 = .ok (.iastore, 1) := by decide +kernel
theorem dX11_member_47 : decode cX11_member 47 = .ok (.aload_n 0, 1) := by decide +kernel
theorem dX11_member_48 : decode cX11_member 48 = .ok (.getfield 19, 3) := by decide +kernel
theorem dX11_member_51 : decode cX11_member 51 = .ok (.iload_n 1, 1) := by decide +kernel
theorem dX11_member_52 : decode cX11_member 52 = .ok (.iload_n 3, 1) := by decide +kernel
theorem dX11_member_53 : decode cX11_member 53 = .ok (.iastore, 1) := by decide +kernel
theorem dX11_member_54 : decode cX11_member 54 = .ok (.iload 4, 2) := by decide +kernel
theorem dX11_member_56 : decode cX11_member 56 = .ok (.ireturn, 1) := by decide +kernel
set_option maxRecDepth 20000 in
theorem ggX11_wide_X11_in : GoodIn wsX11_wide wsX11_in := goodIn_r _ [5] (by decide +kernel) (by decide +kernel)
set_option maxRecDepth 20000 in
theorem gX11_wide_X11_in : GoodIn wsX11_wide (va_wsS RX11 57 yX11_in wsX11_in) := goodIn_app (goodIn_of _ (by decide +kernel)) ggX11_wide_X11_in
theorem dX11_wide_0 : decode cX11_wide 0 = .ok (.iload_n 1, 1) := by decide +kernel
theorem dX11_wide_1 : decode cX11_wide 1 = .ok (.iconst 0, 1) := by decide +kernel
theorem dX11_wide_2 : decode cX11_wide 2 = .ok (.bipush 16, 2) := by decide +kernel
theorem dX11_wide_4 : decode cX11_wide 4 = .ok (.invokestatic 57, 3) := by decide +kernel
theorem dX11_wide_7 : decode cX11_wide 7 = .ok (.ifCond .ne 5, 3) := by decide +kernel
theorem dX11_wide_10 : decode cX11_wide 10 = .ok (.iconst (-1), 1) := by decide +kernel
theorem dX11_wide_11 : decode cX11_wide 11 = .ok (.ireturn, 1) := by decide +kernel
theorem dX11_wide_12 : decode cX11_wide 12 = .ok (.iload_n 2, 1) := by decide +kernel
theorem dX11_wide_13 : decode cX11_wide 13 = .ok (.iconst 1, 1) := by decide +kernel
theorem dX11_wide_14 : decode cX11_wide 14 = .ok (.bipush 30, 2) := by decide +kernel
theorem dX11_wide_16 : decode cX11_wide 16 = .ok (.invokestatic 57, 3) := by decide +kernel
theorem dX11_wide_19 : decode cX11_wide 19 = .ok (.ifCond .ne 6, 3) := by decide +kernel
theorem dX11_wide_22 : decode cX11_wide 22 = .ok (.bipush (-2), 2) := by decide +kernel
theorem dX11_wide_24 : decode cX11_wide 24 = .ok (.ireturn, 1) := by decide +kernel
theorem dX11_wide_25 : decode cX11_wide 25 = .ok (.aload_n 0, 1) := by decide +kernel
theorem dX11_wide_26 : decode cX11_wide 26 = .ok (.getfield 22, 3) := by decide +kernel
theorem dX11_wide_29 : decode cX11_wide 29 = .ok (.iload_n 1, 1) := by decide +kernel
theorem dX11_wide_30 : decode cX11_wide 30 = .ok (.iaload, 1) := by decide +kernel
theorem dX11_wide_31 : decode cX11_wide 31 = .ok (.istore_n 3, 1) := by decide +kernel
theorem dX11_wide_32 : decode cX11_wide 32 = .ok (.aload_n 0, 1) := by decide +kernel
theorem dX11_wide_33 : decode cX11_wide 33 = .ok (.getfield 22, 3) := by decide +kernel
theorem dX11_wide_36 : decode cX11_wide 36 = .ok (.iload_n 1, 1) := by decide +kernel
theorem dX11_wide_37 : decode cX11_wide 37 = .ok (.iload_n 2, 1) := by decide +kernel
theorem dX11_wide_38 : decode cX11_wide 38 = .ok (.iastore, 1) := by decide +kernel
theorem dX11_wide_39 : decode cX11_wide 39 = .ok (.iload_n 3, 1) := by decide +kernel
theorem dX11_wide_40 : decode cX11_wide 40 = .ok (.ireturn, 1) := by decide +kernel
set_option maxRecDepth 20000 in
theorem ggX11_delay_X11_isRow : GoodIn wsX11_delay wsX11_isRow := goodIn_r _ [5] (by decide +kernel) (by decide +kernel)
set_option maxRecDepth 20000 in
theorem gX11_delay_X11_isRow : GoodIn wsX11_delay (va_wsS RX11 65 yX11_isRow wsX11_isRow) := goodIn_app (goodIn_of _ (by decide +kernel)) ggX11_delay_X11_isRow
set_option maxRecDepth 20000 in
theorem ggX11_delay_X11_in : GoodIn wsX11_delay wsX11_in := goodIn_r _ [8] (by decide +kernel) (by decide +kernel)
set_option maxRecDepth 20000 in
theorem gX11_delay_X11_in : GoodIn wsX11_delay (va_wsS RX11 57 yX11_in wsX11_in) := goodIn_app (goodIn_of _ (by decide +kernel)) ggX11_delay_X11_in
theorem dX11_delay_0 : decode cX11_delay 0 = .ok (.iload_n 1, 1) := by decide +kernel
theorem dX11_delay_1 : decode cX11_delay 1 = .ok (.invokestatic 65, 3) := by decide +kernel
theorem dX11_delay_4 : decode cX11_delay 4 = .ok (.ifCond .eq 13, 3) := by decide +kernel
theorem dX11_delay_7 : decode cX11_delay 7 = .ok (.iload_n 2, 1) := by decide +kernel
theorem dX11_delay_8 : decode cX11_delay 8 = .ok (.iconst 0, 1) := by decide +kernel
theorem dX11_delay_9 : decode cX11_delay 9 = .ok (.bipush 20, 2) := by decide +kernel
theorem dX11_delay_11 : decode cX11_delay 11 = .ok (.invokestatic 57, 3) := by decide +kernel
theorem dX11_delay_14 : decode cX11_delay 14 = .ok (.ifCond .ne 6, 3) := by decide +kernel
theorem dX11_delay_17 : decode cX11_delay 17 = .ok (.bipush (-2), 2) := by decide +kernel
theorem dX11_delay_19 : decode cX11_delay 19 = .ok (.ireturn, 1) := by decide +kernel
theorem dX11_delay_20 : decode cX11_delay 20 = .ok (.aload_n 0, 1) := by decide +kernel
theorem dX11_delay_21 : decode cX11_delay 21 = .ok (.getfield 25, 3) := by decide +kernel
theorem dX11_delay_24 : decode cX11_delay 24 = .ok (.iload_n 1, 1) := by decide +kernel
theorem dX11_delay_25 : decode cX11_delay 25 = .ok (.iaload, 1) := by decide +kernel
theorem dX11_delay_26 : decode cX11_delay 26 = .ok (.istore_n 3, 1) := by decide +kernel
theorem dX11_delay_27 : decode cX11_delay 27 = .ok (.aload_n 0, 1) := by decide +kernel
theorem dX11_delay_28 : decode cX11_delay 28 = .ok (.getfield 25, 3) := by decide +kernel
theorem dX11_delay_31 : decode cX11_delay 31 = .ok (.iload_n 1, 1) := by decide +kernel
theorem dX11_delay_32 : decode cX11_delay 32 = .ok (.iload_n 2, 1) := by decide +kernel
theorem dX11_delay_33 : decode cX11_delay 33 = .ok (.iastore, 1) := by decide +kernel
theorem dX11_delay_34 : decode cX11_delay 34 = .ok (.iload_n 3, 1) := by decide +kernel
theorem dX11_delay_35 : decode cX11_delay 35 = .ok (.ireturn, 1) := by decide +kernel
set_option maxRecDepth 20000 in
theorem ggX11_say_X11_in : GoodIn wsX11_say wsX11_in := goodIn_r _ [6] (by decide +kernel) (by decide +kernel)
set_option maxRecDepth 20000 in
theorem gX11_say_X11_in : GoodIn wsX11_say (va_wsS RX11 57 yX11_in wsX11_in) := goodIn_app (goodIn_of _ (by decide +kernel)) ggX11_say_X11_in
theorem dX11_say_0 : decode cX11_say 0 = .ok (.iload_n 1, 1) := by decide +kernel
theorem dX11_say_1 : decode cX11_say 1 = .ok (.bipush 33, 2) := by decide +kernel
theorem dX11_say_3 : decode cX11_say 3 = .ok (.bipush 126, 2) := by decide +kernel
theorem dX11_say_5 : decode cX11_say 5 = .ok (.invokestatic 57, 3) := by decide +kernel
theorem dX11_say_8 : decode cX11_say 8 = .ok (.ifCond .ne 6, 3) := by decide +kernel
theorem dX11_say_11 : decode cX11_say 11 = .ok (.bipush (-2), 2) := by decide +kernel
theorem dX11_say_13 : decode cX11_say 13 = .ok (.ireturn, 1) := by decide +kernel
theorem dX11_say_14 : decode cX11_say 14 = .ok (.aload_n 0, 1) := by decide +kernel
theorem dX11_say_15 : decode cX11_say 15 = .ok (.getfield 68, 3) := by decide +kernel
theorem dX11_say_18 : decode cX11_say 18 = .ok (.bipush 60, 2) := by decide +kernel
theorem dX11_say_20 : decode cX11_say 20 = .ok (.if_icmp .ne 6, 3) := by decide +kernel
theorem dX11_say_23 : decode cX11_say 23 = .ok (.bipush (-4), 2) := by decide +kernel
theorem dX11_say_25 : decode cX11_say 25 = .ok (.ireturn, 1) := by decide +kernel
theorem dX11_say_26 : decode cX11_say 26 = .ok (.aload_n 0, 1) := by decide +kernel
theorem dX11_say_27 : decode cX11_say 27 = .ok (.getfield 37, 3) := by decide +kernel
theorem dX11_say_30 : decode cX11_say 30 = .ok (.aload_n 0, 1) := by decide +kernel
theorem dX11_say_31 : decode cX11_say 31 = .ok (.getfield 68, 3) := by decide +kernel
theorem dX11_say_34 : decode cX11_say 34 = .ok (.iload_n 1, 1) := by decide +kernel
theorem dX11_say_35 : decode cX11_say 35 = .ok (.iastore, 1) := by decide +kernel
theorem dX11_say_36 : decode cX11_say 36 = .ok (.aload_n 0, 1) := by decide +kernel
theorem dX11_say_37 : decode cX11_say 37 = .ok (.dup, 1) := by decide +kernel
theorem dX11_say_38 : decode cX11_say 38 = .ok (.getfield 68, 3) := by decide +kernel
theorem dX11_say_41 : decode cX11_say 41 = .ok (.iconst 1, 1) := by decide +kernel
theorem dX11_say_42 : decode cX11_say 42 = .ok (.iadd, 1) := by decide +kernel
theorem dX11_say_43 : decode cX11_say 43 = .ok (.putfield 68, 3) := by decide +kernel
theorem dX11_say_46 : decode cX11_say 46 = .ok (.aload_n 0, 1) := by decide +kernel
theorem dX11_say_47 : decode cX11_say 47 = .ok (.getfield 68, 3) := by decide +kernel
theorem dX11_say_50 : decode cX11_say 50 = .ok (.ireturn, 1) := by decide +kernel
theorem dX11_wipe_0 : decode cX11_wipe 0 = .ok (.aload_n 0, 1) := by decide +kernel
theorem dX11_wipe_1 : decode cX11_wipe 1 = .ok (.getfield 68, 3) := by decide +kernel
theorem dX11_wipe_4 : decode cX11_wipe 4 = .ok (.istore_n 1, 1) := by decide +kernel
theorem dX11_wipe_5 : decode cX11_wipe 5 = .ok (.aload_n 0, 1) := by decide +kernel
theorem dX11_wipe_6 : decode cX11_wipe 6 = .ok (.iconst 0, 1) := by decide +kernel
theorem dX11_wipe_7 : decode cX11_wipe 7 = .ok (.putfield 68, 3) := by decide +kernel
theorem dX11_wipe_10 : decode cX11_wipe 10 = .ok (.iload_n 1, 1) := by decide +kernel
theorem dX11_wipe_11 : decode cX11_wipe 11 = .ok (.ireturn, 1) := by decide +kernel
set_option maxRecDepth 20000 in
theorem ggX11_isLetter_X11_in : GoodIn wsX11_isLetter wsX11_in := goodIn_r _ [4] (by decide +kernel) (by decide +kernel)
set_option maxRecDepth 20000 in
theorem gX11_isLetter_X11_in : GoodIn wsX11_isLetter (va_wsS RX11 57 yX11_in wsX11_in) := goodIn_app (goodIn_of _ (by decide +kernel)) ggX11_isLetter_X11_in
theorem dX11_isLetter_0 : decode cX11_isLetter 0 = .ok (.iload_n 0, 1) := by decide +kernel
theorem dX11_isLetter_1 : decode cX11_isLetter 1 = .ok (.bipush 65, 2) := by decide +kernel
theorem dX11_isLetter_3 : decode cX11_isLetter 3 = .ok (.bipush 74, 2) := by decide +kernel
theorem dX11_isLetter_5 : decode cX11_isLetter 5 = .ok (.invokestatic 57, 3) := by decide +kernel
theorem dX11_isLetter_8 : decode cX11_isLetter 8 = .ok (.ireturn, 1) := by decide +kernel
set_option maxRecDepth 20000 in
theorem ggX11_faultOf_X11_isLetter : GoodIn wsX11_faultOf wsX11_isLetter := goodIn_r _ [6, 7, 8, 5, 9] (by decide +kernel) (by decide +kernel)
set_option maxRecDepth 20000 in
theorem gX11_faultOf_X11_isLetter : GoodIn wsX11_faultOf (va_wsS RX11 72 yX11_isLetter wsX11_isLetter) := goodIn_app (goodIn_of _ (by decide +kernel)) ggX11_faultOf_X11_isLetter
theorem dX11_faultOf_0 : decode cX11_faultOf 0 = .ok (.iconst 0, 1) := by decide +kernel
theorem dX11_faultOf_1 : decode cX11_faultOf 1 = .ok (.istore_n 1, 1) := by decide +kernel
theorem dX11_faultOf_2 : decode cX11_faultOf 2 = .ok (.iconst 0, 1) := by decide +kernel
theorem dX11_faultOf_3 : decode cX11_faultOf 3 = .ok (.istore_n 2, 1) := by decide +kernel
theorem dX11_faultOf_4 : decode cX11_faultOf 4 = .ok (.iload_n 2, 1) := by decide +kernel
theorem dX11_faultOf_5 : decode cX11_faultOf 5 = .ok (.aload_n 0, 1) := by decide +kernel
theorem dX11_faultOf_6 : decode cX11_faultOf 6 = .ok (.getfield 68, 3) := by decide +kernel
theorem dX11_faultOf_9 : decode cX11_faultOf 9 = .ok (.if_icmp .ge 126, 3) := by decide +kernel
theorem dX11_faultOf_12 : decode cX11_faultOf 12 = .ok (.aload_n 0, 1) := by decide +kernel
theorem dX11_faultOf_13 : decode cX11_faultOf 13 = .ok (.getfield 37, 3) := by decide +kernel
theorem dX11_faultOf_16 : decode cX11_faultOf 16 = .ok (.iload_n 2, 1) := by decide +kernel
theorem dX11_faultOf_17 : decode cX11_faultOf 17 = .ok (.iaload, 1) := by decide +kernel
theorem dX11_faultOf_18 : decode cX11_faultOf 18 = .ok (.istore_n 3, 1) := by decide +kernel
theorem dX11_faultOf_19 : decode cX11_faultOf 19 = .ok (.iload_n 1, 1) := by decide +kernel
theorem dX11_faultOf_20 : decode cX11_faultOf 20 = .ok (.ifCond .ne 24, 3) := by decide +kernel
theorem dX11_faultOf_23 : decode cX11_faultOf 23 = .ok (.iload_n 3, 1) := by decide +kernel
theorem dX11_faultOf_24 : decode cX11_faultOf 24 = .ok (.invokestatic 72, 3) := by decide +kernel
theorem dX11_faultOf_27 : decode cX11_faultOf 27 = .ok (.ifCond .ne 9, 3) := by decide +kernel
theorem dX11_faultOf_30 : decode cX11_faultOf 30 = .ok (.iload_n 3, 1) := by decide +kernel
theorem dX11_faultOf_31 : decode cX11_faultOf 31 = .ok (.bipush 33, 2) := by decide +kernel
theorem dX11_faultOf_33 : decode cX11_faultOf 33 = .ok (.if_icmp .ne 7, 3) := by decide +kernel
theorem dX11_faultOf_36 : decode cX11_faultOf 36 = .ok (.iconst 1, 1) := by decide +kernel
theorem dX11_faultOf_37 : decode cX11_faultOf 37 = .ok (.goto 48, 3) := by decide +kernel
theorem dX11_faultOf_40 : decode cX11_faultOf 40 = .ok (.iconst 0, 1) := by decide +kernel
theorem dX11_faultOf_41 : decode cX11_faultOf 41 = .ok (.goto 44, 3) := by decide +kernel
theorem dX11_faultOf_44 : decode cX11_faultOf 44 = .ok (.iload_n 1, 1) := by decide +kernel
theorem dX11_faultOf_45 : decode cX11_faultOf 45 = .ok (.iconst 2, 1) := by decide +kernel
theorem dX11_faultOf_46 : decode cX11_faultOf 46 = .ok (.if_icmp .ne 10, 3) := by decide +kernel
theorem dX11_faultOf_49 : decode cX11_faultOf 49 = .ok (.iload_n 3, 1) := by decide +kernel
theorem dX11_faultOf_50 : decode cX11_faultOf 50 = .ok (.invokestatic 72, 3) := by decide +kernel
theorem dX11_faultOf_53 : decode cX11_faultOf 53 = .ok (.goto 32, 3) := by decide +kernel
theorem dX11_faultOf_56 : decode cX11_faultOf 56 = .ok (.iload_n 3, 1) := by decide +kernel
theorem dX11_faultOf_57 : decode cX11_faultOf 57 = .ok (.bipush 100, 2) := by decide +kernel
theorem dX11_faultOf_59 : decode cX11_faultOf 59 = .ok (.if_icmp .eq 21, 3) := by decide +kernel
theorem dX11_faultOf_62 : decode cX11_faultOf 62 = .ok (.iload_n 3, 1) := by decide +kernel
theorem dX11_faultOf_63 : decode cX11_faultOf 63 = .ok (.bipush 117, 2) := by decide +kernel
theorem dX11_faultOf_65 : decode cX11_faultOf 65 = .ok (.if_icmp .eq 15, 3) := by decide +kernel
theorem dX11_faultOf_68 : decode cX11_faultOf 68 = .ok (.iload_n 3, 1) := by decide +kernel
theorem dX11_faultOf_69 : decode cX11_faultOf 69 = .ok (.bipush 45, 2) := by decide +kernel
theorem dX11_faultOf_71 : decode cX11_faultOf 71 = .ok (.if_icmp .eq 9, 3) := by decide +kernel
theorem dX11_faultOf_74 : decode cX11_faultOf 74 = .ok (.iload_n 3, 1) := by decide +kernel
theorem dX11_faultOf_75 : decode cX11_faultOf 75 = .ok (.bipush 120, 2) := by decide +kernel
theorem dX11_faultOf_77 : decode cX11_faultOf 77 = .ok (.if_icmp .ne 7, 3) := by decide +kernel
theorem dX11_faultOf_80 : decode cX11_faultOf 80 = .ok (.iconst 1, 1) := by decide +kernel
theorem dX11_faultOf_81 : decode cX11_faultOf 81 = .ok (.goto 4, 3) := by decide +kernel
theorem dX11_faultOf_84 : decode cX11_faultOf 84 = .ok (.iconst 0, 1) := by decide +kernel
theorem dX11_faultOf_85 : decode cX11_faultOf 85 = .ok (.istore 4, 2) := by decide +kernel
theorem dX11_faultOf_87 : decode cX11_faultOf 87 = .ok (.iload 4, 2) := by decide +kernel
theorem dX11_faultOf_89 : decode cX11_faultOf 89 = .ok (.ifCond .ne 5, 3) := by decide +kernel
theorem dX11_faultOf_92 : decode cX11_faultOf 92 = .ok (.iload_n 2, 1) := by decide +kernel
theorem dX11_faultOf_93 : decode cX11_faultOf 93 = .ok (.ireturn, 1) := by decide +kernel
theorem dX11_faultOf_94 : decode cX11_faultOf 94 = .ok (.iload_n 1, 1) := by decide +kernel
theorem dX11_faultOf_95 : decode cX11_faultOf 95 = .ok (.ifCond .ne 17, 3) := by decide +kernel
theorem dX11_faultOf_98 : decode cX11_faultOf 98 = .ok (.iload_n 3, 1) := by decide +kernel
theorem dX11_faultOf_99 : decode cX11_faultOf 99 = .ok (.bipush 33, 2) := by decide +kernel
theorem dX11_faultOf_101 : decode cX11_faultOf 101 = .ok (.if_icmp .ne 7, 3) := by decide +kernel
theorem dX11_faultOf_104 : decode cX11_faultOf 104 = .ok (.iconst 0, 1) := by decide +kernel
theorem dX11_faultOf_105 : decode cX11_faultOf 105 = .ok (.goto 23, 3) := by decide +kernel
theorem dX11_faultOf_108 : decode cX11_faultOf 108 = .ok (.iconst 1, 1) := by decide +kernel
theorem dX11_faultOf_109 : decode cX11_faultOf 109 = .ok (.goto 19, 3) := by decide +kernel
theorem dX11_faultOf_112 : decode cX11_faultOf 112 = .ok (.iload_n 1, 1) := by decide +kernel
theorem dX11_faultOf_113 : decode cX11_faultOf 113 = .ok (.iconst 1, 1) := by decide +kernel
theorem dX11_faultOf_114 : decode cX11_faultOf 114 = .ok (.if_icmp .ne 13, 3) := by decide +kernel
theorem dX11_faultOf_117 : decode cX11_faultOf 117 = .ok (.iload_n 3, 1) := by decide +kernel
theorem dX11_faultOf_118 : decode cX11_faultOf 118 = .ok (.bipush 120, 2) := by decide +kernel
theorem dX11_faultOf_120 : decode cX11_faultOf 120 = .ok (.if_icmp .ne 7, 3) := by decide +kernel
theorem dX11_faultOf_123 : decode cX11_faultOf 123 = .ok (.iconst 2, 1) := by decide +kernel
theorem dX11_faultOf_124 : decode cX11_faultOf 124 = .ok (.goto 4, 3) := by decide +kernel
theorem dX11_faultOf_127 : decode cX11_faultOf 127 = .ok (.iconst 0, 1) := by decide +kernel
theorem dX11_faultOf_128 : decode cX11_faultOf 128 = .ok (.istore_n 1, 1) := by decide +kernel
theorem dX11_faultOf_129 : decode cX11_faultOf 129 = .ok (.iinc 2 1, 3) := by decide +kernel
theorem dX11_faultOf_132 : decode cX11_faultOf 132 = .ok (.goto (-128), 3) := by decide +kernel
theorem dX11_faultOf_135 : decode cX11_faultOf 135 = .ok (.iload_n 1, 1) := by decide +kernel
theorem dX11_faultOf_136 : decode cX11_faultOf 136 = .ok (.ifCond .ne 8, 3) := by decide +kernel
theorem dX11_faultOf_139 : decode cX11_faultOf 139 = .ok (.bipush (-6), 2) := by decide +kernel
theorem dX11_faultOf_141 : decode cX11_faultOf 141 = .ok (.goto 7, 3) := by decide +kernel
theorem dX11_faultOf_144 : decode cX11_faultOf 144 = .ok (.aload_n 0, 1) := by decide +kernel
theorem dX11_faultOf_145 : decode cX11_faultOf 145 = .ok (.getfield 68, 3) := by decide +kernel
theorem dX11_faultOf_148 : decode cX11_faultOf 148 = .ok (.ireturn, 1) := by decide +kernel
set_option maxRecDepth 20000 in
theorem ggX11_fault_X11_faultOf : GoodIn wsX11_fault wsX11_faultOf := goodIn_r _ [5, 6, 7, 8, 9, 4, 10, 11, 12, 13, 14, 15, 16, 17, 18, 19, 20, 21, 22, 23, 24, 25, 26, 27, 28, 29, 30, 31, 32, 33, 34, 35, 36, 37, 38, 39, 40, 41, 42, 43] (by decide +kernel) (by decide +kernel)
set_option maxRecDepth 20000 in
theorem gX11_fault_X11_faultOf : GoodIn wsX11_fault (wsV RX11 75 RX11 yX11_faultOf wsX11_faultOf) := goodIn_app (goodIn_of _ (by decide +kernel)) ggX11_fault_X11_faultOf
theorem dX11_fault_0 : decode cX11_fault 0 = .ok (.aload_n 0, 1) := by decide +kernel
theorem dX11_fault_1 : decode cX11_fault 1 = .ok (.invokevirtual 75, 3) := by decide +kernel
theorem dX11_fault_4 : decode cX11_fault 4 = .ok (.ireturn, 1) := by decide +kernel
theorem dX11_asNow_0 : decode cX11_asNow 0 = .ok (.iconst 0, 1) := by decide +kernel
theorem dX11_asNow_1 : decode cX11_asNow 1 = .ok (.istore_n 1, 1) := by decide +kernel
theorem dX11_asNow_2 : decode cX11_asNow 2 = .ok (.iload_n 1, 1) := by decide +kernel
theorem dX11_asNow_3 : decode cX11_asNow 3 = .ok (.bipush 15, 2) := by decide +kernel
theorem dX11_asNow_5 : decode cX11_asNow 5 = .ok (.if_icmp .ge 21, 3) := by decide +kernel
theorem dX11_asNow_8 : decode cX11_asNow 8 = .ok (.aload_n 0, 1) := by decide +kernel
