theorem dX11_asNow_9 : decode cX11_asNow 9 = .ok (.getfield 13, 3) := by decide +kernel
theorem dX11_asNow_12 : decode cX11_asNow 12 = .ok (.iload_n 1, 1) := by decide +kernel
theorem dX11_asNow_13 : decode cX11_asNow 13 = .ok (.aload_n 0, 1) := by decide +kernel
theorem dX11_asNow_14 : decode cX11_asNow 14 = .ok (.getfield 7, 3) := by decide +kernel
theorem dX11_asNow_17 : decode cX11_asNow 17 = .ok (.iload_n 1, 1) := by decide +kernel
theorem dX11_asNow_18 : decode cX11_asNow 18 = .ok (.iaload, 1) := by decide +kernel
theorem dX11_asNow_19 : decode cX11_asNow 19 = .ok (.iastore, 1) := by decide +kernel
theorem dX11_asNow_20 : decode cX11_asNow 20 = .ok (.iinc 1 1, 3) := by decide +kernel
theorem dX11_asNow_23 : decode cX11_asNow 23 = .ok (.goto (-21), 3) := by decide +kernel
theorem dX11_asNow_26 : decode cX11_asNow 26 = .ok (.return_, 1) := by decide +kernel
theorem dX11_spotOf_0 : decode cX11_spotOf 0 = .ok (.iconst 0, 1) := by decide +kernel
theorem dX11_spotOf_1 : decode cX11_spotOf 1 = .ok (.istore_n 2, 1) := by decide +kernel
theorem dX11_spotOf_2 : decode cX11_spotOf 2 = .ok (.iload_n 2, 1) := by decide +kernel
theorem dX11_spotOf_3 : decode cX11_spotOf 3 = .ok (.iconst 2, 1) := by decide +kernel
theorem dX11_spotOf_4 : decode cX11_spotOf 4 = .ok (.if_icmp .ge 52, 3) := by decide +kernel
theorem dX11_spotOf_7 : decode cX11_spotOf 7 = .ok (.iconst 0, 1) := by decide +kernel
theorem dX11_spotOf_8 : decode cX11_spotOf 8 = .ok (.istore_n 3, 1) := by decide +kernel
theorem dX11_spotOf_9 : decode cX11_spotOf 9 = .ok (.iload_n 3, 1) := by decide +kernel
theorem dX11_spotOf_10 : decode cX11_spotOf 10 = .ok (.aload_n 0, 1) := by decide +kernel
theorem dX11_spotOf_11 : decode cX11_spotOf 11 = .ok (.getfield 13, 3) := by decide +kernel
theorem dX11_spotOf_14 : decode cX11_spotOf 14 = .ok (.bipush 12, 2) := by decide +kernel
theorem dX11_spotOf_16 : decode cX11_spotOf 16 = .ok (.iload_n 2, 1) := by decide +kernel
theorem dX11_spotOf_17 : decode cX11_spotOf 17 = .ok (.iadd, 1) := by decide +kernel
theorem dX11_spotOf_18 : decode cX11_spotOf 18 = .ok (.iaload, 1) := by decide +kernel
theorem dX11_spotOf_19 : decode cX11_spotOf 19 = .ok (.if_icmp .ge 31, 3) := by decide +kernel
theorem dX11_spotOf_22 : decode cX11_spotOf 22 = .ok (.aload_n 0, 1) := by decide +kernel
theorem dX11_spotOf_23 : decode cX11_spotOf 23 = .ok (.getfield 13, 3) := by decide +kernel
theorem dX11_spotOf_26 : decode cX11_spotOf 26 = .ok (.bipush 6, 2) := by decide +kernel
theorem dX11_spotOf_28 : decode cX11_spotOf 28 = .ok (.iload_n 2, 1) := by decide +kernel
theorem dX11_spotOf_29 : decode cX11_spotOf 29 = .ok (.imul, 1) := by decide +kernel
theorem dX11_spotOf_30 : decode cX11_spotOf 30 = .ok (.iload_n 3, 1) := by decide +kernel
theorem dX11_spotOf_31 : decode cX11_spotOf 31 = .ok (.iadd, 1) := by decide +kernel
theorem dX11_spotOf_32 : decode cX11_spotOf 32 = .ok (.iaload, 1) := by decide +kernel
theorem dX11_spotOf_33 : decode cX11_spotOf 33 = .ok (.iload_n 1, 1) := by decide +kernel
theorem dX11_spotOf_34 : decode cX11_spotOf 34 = .ok (.if_icmp .ne 10, 3) := by decide +kernel
theorem dX11_spotOf_37 : decode cX11_spotOf 37 = .ok (.bipush 6, 2) := by decide +kernel
theorem dX11_spotOf_39 : decode cX11_spotOf 39 = .ok (.iload_n 2, 1) := by decide +kernel
theorem dX11_spotOf_40 : decode cX11_spotOf 40 = .ok (.imul, 1) := by decide +kernel
theorem dX11_spotOf_41 : decode cX11_spotOf 41 = .ok (.iload_n 3, 1) := by decide +kernel
theorem dX11_spotOf_42 : decode cX11_spotOf 42 = .ok (.iadd, 1) := by decide +kernel
theorem dX11_spotOf_43 : decode cX11_spotOf 43 = .ok (.ireturn, 1) := by decide +kernel
theorem dX11_spotOf_44 : decode cX11_spotOf 44 = .ok (.iinc 3 1, 3) := by decide +kernel
theorem dX11_spotOf_47 : decode cX11_spotOf 47 = .ok (.goto (-38), 3) := by decide +kernel
theorem dX11_spotOf_50 : decode cX11_spotOf 50 = .ok (.iinc 2 1, 3) := by decide +kernel
theorem dX11_spotOf_53 : decode cX11_spotOf 53 = .ok (.goto (-51), 3) := by decide +kernel
theorem dX11_spotOf_56 : decode cX11_spotOf 56 = .ok (.bipush (-6), 2) := by decide +kernel
theorem dX11_spotOf_58 : decode cX11_spotOf 58 = .ok (.ireturn, 1) := by decide +kernel
set_option maxRecDepth 20000 in
theorem ggX11_join_X11_spotOf : GoodIn wsX11_join wsX11_spotOf := goodIn_r _ [6, 1, 7, 8, 9, 10, 11, 12, 13, 14, 15, 16, 17, 18, 19, 20, 21, 22, 23, 24, 25, 26, 27, 28, 29, 30, 31, 32, 33, 34, 35, 36] (by decide +kernel) (by decide +kernel)
set_option maxRecDepth 20000 in
theorem gX11_join_X11_spotOf : GoodIn wsX11_join (wsV RX11 79 RX11 yX11_spotOf wsX11_spotOf) := goodIn_app (goodIn_of _ (by decide +kernel)) ggX11_join_X11_spotOf
theorem dX11_join_0 : decode cX11_join 0 = .ok (.aload_n 0, 1) := by decide +kernel
theorem dX11_join_1 : decode cX11_join 1 = .ok (.iload_n 1, 1) := by decide +kernel
theorem dX11_join_2 : decode cX11_join 2 = .ok (.invokevirtual 79, 3) := by decide +kernel
theorem dX11_join_5 : decode cX11_join 5 = .ok (.ifCond .lt 5, 3) := by decide +kernel
theorem dX11_join_8 : decode cX11_join 8 = .ok (.iconst 1, 1) := by decide +kernel
theorem dX11_join_9 : decode cX11_join 9 = .ok (.ireturn, 1) := by decide +kernel
theorem dX11_join_10 : decode cX11_join 10 = .ok (.aload_n 0, 1) := by decide +kernel
theorem dX11_join_11 : decode cX11_join 11 = .ok (.getfield 13, 3) := by decide +kernel
theorem dX11_join_14 : decode cX11_join 14 = .ok (.bipush 12, 2) := by decide +kernel
theorem dX11_join_16 : decode cX11_join 16 = .ok (.iload_n 2, 1) := by decide +kernel
theorem dX11_join_17 : decode cX11_join 17 = .ok (.iadd, 1) := by decide +kernel
theorem dX11_join_18 : decode cX11_join 18 = .ok (.iaload, 1) := by decide +kernel
theorem dX11_join_19 : decode cX11_join 19 = .ok (.bipush 6, 2) := by decide +kernel
theorem dX11_join_21 : decode cX11_join 21 = .ok (.if_icmp .ne 5, 3) := by decide +kernel
theorem dX11_join_24 : decode cX11_join 24 = .ok (.iconst 2, 1) := by decide +kernel
theorem dX11_join_25 : decode cX11_join 25 = .ok (.ireturn, 1) := by decide +kernel
theorem dX11_join_26 : decode cX11_join 26 = .ok (.aload_n 0, 1) := by decide +kernel
theorem dX11_join_27 : decode cX11_join 27 = .ok (.getfield 13, 3) := by decide +kernel
theorem dX11_join_30 : decode cX11_join 30 = .ok (.bipush 6, 2) := by decide +kernel
theorem dX11_join_32 : decode cX11_join 32 = .ok (.iload_n 2, 1) := by decide +kernel
theorem dX11_join_33 : decode cX11_join 33 = .ok (.imul, 1) := by decide +kernel
theorem dX11_join_34 : decode cX11_join 34 = .ok (.aload_n 0, 1) := by decide +kernel
theorem dX11_join_35 : decode cX11_join 35 = .ok (.getfield 13, 3) := by decide +kernel
theorem dX11_join_38 : decode cX11_join 38 = .ok (.bipush 12, 2) := by decide +kernel
theorem dX11_join_40 : decode cX11_join 40 = .ok (.iload_n 2, 1) := by decide +kernel
theorem dX11_join_41 : decode cX11_join 41 = .ok (.iadd, 1) := by decide +kernel
theorem dX11_join_42 : decode cX11_join 42 = .ok (.iaload, 1) := by decide +kernel
theorem dX11_join_43 : decode cX11_join 43 = .ok (.iadd, 1) := by decide +kernel
theorem dX11_join_44 : decode cX11_join 44 = .ok (.iload_n 1, 1) := by decide +kernel
theorem dX11_join_45 : decode cX11_join 45 = .ok (.iastore, 1) := by decide +kernel
theorem dX11_join_46 : decode cX11_join 46 = .ok (.aload_n 0, 1) := by decide +kernel
theorem dX11_join_47 : decode cX11_join 47 = .ok (.getfield 13, 3) := by decide +kernel
theorem dX11_join_50 : decode cX11_join 50 = .ok (.bipush 12, 2) := by decide +kernel
theorem dX11_join_52 : decode cX11_join 52 = .ok (.iload_n 2, 1) := by decide +kernel
theorem dX11_join_53 : decode cX11_join 53 = .ok (.iadd, 1) := by decide +kernel
theorem dX11_join_54 : decode cX11_join 54 = .ok (.dup2, 1) := by decide +kernel
theorem dX11_join_55 : decode cX11_join 55 = .ok (.iaload, 1) := by decide +kernel
theorem dX11_join_56 : decode cX11_join 56 = .ok (.iconst 1, 1) := by decide +kernel
theorem dX11_join_57 : decode cX11_join 57 = .ok (.iadd, 1) := by decide +kernel
theorem dX11_join_58 : decode cX11_join 58 = .ok (.iastore, 1) := by decide +kernel
theorem dX11_join_59 : decode cX11_join 59 = .ok (.iconst 0, 1) := by decide +kernel
theorem dX11_join_60 : decode cX11_join 60 = .ok (.ireturn, 1) := by decide +kernel
set_option maxRecDepth 20000 in
theorem ggX11_goHome_X11_spotOf : GoodIn wsX11_goHome wsX11_spotOf := goodIn_r _ [6, 1, 7, 8, 9, 10, 11, 12, 13, 14, 15, 16, 17, 18, 19, 20, 21, 22, 23, 24, 25, 26, 27, 28, 29, 30, 31, 32, 33, 34, 35, 36] (by decide +kernel) (by decide +kernel)
set_option maxRecDepth 20000 in
theorem gX11_goHome_X11_spotOf : GoodIn wsX11_goHome (wsV RX11 79 RX11 yX11_spotOf wsX11_spotOf) := goodIn_app (goodIn_of _ (by decide +kernel)) ggX11_goHome_X11_spotOf
theorem dX11_goHome_0 : decode cX11_goHome 0 = .ok (.aload_n 0, 1) := by decide +kernel
theorem dX11_goHome_1 : decode cX11_goHome 1 = .ok (.iload_n 1, 1) := by decide +kernel
theorem dX11_goHome_2 : decode cX11_goHome 2 = .ok (.invokevirtual 79, 3) := by decide +kernel
theorem dX11_goHome_5 : decode cX11_goHome 5 = .ok (.istore_n 2, 1) := by decide +kernel
theorem dX11_goHome_6 : decode cX11_goHome 6 = .ok (.iload_n 2, 1) := by decide +kernel
theorem dX11_goHome_7 : decode cX11_goHome 7 = .ok (.ifCond .ge 5, 3) := by decide +kernel
theorem dX11_goHome_10 : decode cX11_goHome 10 = .ok (.iconst 1, 1) := by decide +kernel
theorem dX11_goHome_11 : decode cX11_goHome 11 = .ok (.ireturn, 1) := by decide +kernel
theorem dX11_goHome_12 : decode cX11_goHome 12 = .ok (.iload_n 2, 1) := by decide +kernel
theorem dX11_goHome_13 : decode cX11_goHome 13 = .ok (.bipush 6, 2) := by decide +kernel
theorem dX11_goHome_15 : decode cX11_goHome 15 = .ok (.idiv, 1) := by decide +kernel
theorem dX11_goHome_16 : decode cX11_goHome 16 = .ok (.istore_n 3, 1) := by decide +kernel
theorem dX11_goHome_17 : decode cX11_goHome 17 = .ok (.aload_n 0, 1) := by decide +kernel
theorem dX11_goHome_18 : decode cX11_goHome 18 = .ok (.getfield 13, 3) := by decide +kernel
theorem dX11_goHome_21 : decode cX11_goHome 21 = .ok (.bipush 12, 2) := by decide +kernel
theorem dX11_goHome_23 : decode cX11_goHome 23 = .ok (.iload_n 3, 1) := by decide +kernel
theorem dX11_goHome_24 : decode cX11_goHome 24 = .ok (.iadd, 1) := by decide +kernel
theorem dX11_goHome_25 : decode cX11_goHome 25 = .ok (.dup2, 1) := by decide +kernel
theorem dX11_goHome_26 : decode cX11_goHome 26 = .ok (.iaload, 1) := by decide +kernel
theorem dX11_goHome_27 : decode cX11_goHome 27 = .ok (.iconst 1, 1) := by decide +kernel
theorem dX11_goHome_28 : decode cX11_goHome 28 = .ok (.isub, 1) := by decide +kernel
theorem dX11_goHome_29 : decode cX11_goHome 29 = .ok (.iastore, 1) := by decide +kernel
theorem dX11_goHome_30 : decode cX11_goHome 30 = .ok (.iload_n 2, 1) := by decide +kernel
theorem dX11_goHome_31 : decode cX11_goHome 31 = .ok (.bipush 6, 2) := by decide +kernel
theorem dX11_goHome_33 : decode cX11_goHome 33 = .ok (.irem, 1) := by decide +kernel
theorem dX11_goHome_34 : decode cX11_goHome 34 = .ok (.istore 4, 2) := by decide +kernel
theorem dX11_goHome_36 : decode cX11_goHome 36 = .ok (.iload 4, 2) := by decide +kernel
theorem dX11_goHome_38 : decode cX11_goHome 38 = .ok (.aload_n 0, 1) := by decide +kernel
theorem dX11_goHome_39 : decode cX11_goHome 39 = .ok (.getfield 13, 3) := by decide +kernel
theorem dX11_goHome_42 : decode cX11_goHome 42 = .ok (.bipush 12, 2) := by decide +kernel
theorem dX11_goHome_44 : decode cX11_goHome 44 = .ok (.iload_n 3, 1) := by decide +kernel
theorem dX11_goHome_45 : decode cX11_goHome 45 = .ok (.iadd, 1) := by decide +kernel
theorem dX11_goHome_46 : decode cX11_goHome 46 = .ok (.iaload, 1) := by decide +kernel
theorem dX11_goHome_47 : decode cX11_goHome 47 = .ok (.if_icmp .ge 35, 3) := by decide +kernel
theorem dX11_goHome_50 : decode cX11_goHome 50 = .ok (.aload_n 0, 1) := by decide +kernel
theorem dX11_goHome_51 : decode cX11_goHome 51 = .ok (.getfield 13, 3) := by decide +kernel
theorem dX11_goHome_54 : decode cX11_goHome 54 = .ok (.bipush 6, 2) := by decide +kernel
theorem dX11_goHome_56 : decode cX11_goHome 56 = .ok (.iload_n 3, 1) := by decide +kernel
theorem dX11_goHome_57 : decode cX11_goHome 57 = .ok (.imul, 1) := by decide +kernel
theorem dX11_goHome_58 : decode cX11_goHome 58 = .ok (.iload 4, 2) := by decide +kernel
theorem dX11_goHome_60 : decode cX11_goHome 60 = .ok (.iadd, 1) := by decide +kernel
theorem dX11_goHome_61 : decode cX11_goHome 61 = .ok (.aload_n 0, 1) := by decide +kernel
theorem dX11_goHome_62 : decode cX11_goHome 62 = .ok (.getfield 13, 3) := by decide +kernel
theorem dX11_goHome_65 : decode cX11_goHome 65 = .ok (.bipush 6, 2) := by decide +kernel
theorem dX11_goHome_67 : decode cX11_goHome 67 = .ok (.iload_n 3, 1) := by decide +kernel
theorem dX11_goHome_68 : decode cX11_goHome 68 = .ok (.imul, 1) := by decide +kernel
theorem dX11_goHome_69 : decode cX11_goHome 69 = .ok (.iload 4, 2) := by decide +kernel
theorem dX11_goHome_71 : decode cX11_goHome 71 = .ok (.iadd, 1) := by decide +kernel
theorem dX11_goHome_72 : decode cX11_goHome 72 = .ok (.iconst 1, 1) := by decide +kernel
theorem dX11_goHome_73 : decode cX11_goHome 73 = .ok (.iadd, 1) := by decide +kernel
theorem dX11_goHome_74 : decode cX11_goHome 74 = .ok (.iaload, 1) := by decide +kernel
theorem dX11_goHome_75 : decode cX11_goHome 75 = .ok (.iastore, 1) := by decide +kernel
theorem dX11_goHome_76 : decode cX11_goHome 76 = .ok (.iinc 4 1, 3) := by decide +kernel
theorem dX11_goHome_79 : decode cX11_goHome 79 = .ok (.goto (-43), 3) := by decide +kernel
theorem dX11_goHome_82 : decode cX11_goHome 82 = .ok (.iconst 0, 1) := by decide +kernel
theorem dX11_goHome_83 : decode cX11_goHome 83 = .ok (.ireturn, 1) := by decide +kernel
set_option maxRecDepth 20000 in
theorem ggX11_change_X11_spotOf : GoodIn wsX11_change wsX11_spotOf := goodIn_r _ [6, 1, 7, 8, 9, 10, 11, 12, 13, 14, 15, 16, 17, 18, 19, 20, 21, 22, 23, 24, 25, 26, 27, 28, 29, 30, 31, 32, 33, 34, 35, 36] (by decide +kernel) (by decide +kernel)
set_option maxRecDepth 20000 in
theorem gX11_change_X11_spotOf : GoodIn wsX11_change (wsV RX11 79 RX11 yX11_spotOf wsX11_spotOf) := goodIn_app (goodIn_of _ (by decide +kernel)) ggX11_change_X11_spotOf
theorem dX11_change_0 : decode cX11_change 0 = .ok (.aload_n 0, 1) := by decide +kernel
theorem dX11_change_1 : decode cX11_change 1 = .ok (.iload_n 1, 1) := by decide +kernel
theorem dX11_change_2 : decode cX11_change 2 = .ok (.invokevirtual 79, 3) := by decide +kernel
theorem dX11_change_5 : decode cX11_change 5 = .ok (.istore_n 3, 1) := by decide +kernel
theorem dX11_change_6 : decode cX11_change 6 = .ok (.aload_n 0, 1) := by decide +kernel
theorem dX11_change_7 : decode cX11_change 7 = .ok (.iload_n 2, 1) := by decide +kernel
theorem dX11_change_8 : decode cX11_change 8 = .ok (.invokevirtual 79, 3) := by decide +kernel
theorem dX11_change_11 : decode cX11_change 11 = .ok (.istore 4, 2) := by decide +kernel
theorem dX11_change_13 : decode cX11_change 13 = .ok (.iload_n 3, 1) := by decide +kernel
theorem dX11_change_14 : decode cX11_change 14 = .ok (.ifCond .lt 8, 3) := by decide +kernel
theorem dX11_change_17 : decode cX11_change 17 = .ok (.iload 4, 2) := by decide +kernel
theorem dX11_change_19 : decode cX11_change 19 = .ok (.ifCond .ge 5, 3) := by decide +kernel
theorem dX11_change_22 : decode cX11_change 22 = .ok (.iconst 1, 1) := by decide +kernel
theorem dX11_change_23 : decode cX11_change 23 = .ok (.ireturn, 1) := by decide +kernel
theorem dX11_change_24 : decode cX11_change 24 = .ok (.iload_n 1, 1) := by decide +kernel
theorem dX11_change_25 : decode cX11_change 25 = .ok (.iload_n 2, 1) := by decide +kernel
theorem dX11_change_26 : decode cX11_change 26 = .ok (.if_icmp .ne 5, 3) := by decide +kernel
theorem dX11_change_29 : decode cX11_change 29 = .ok (.iconst 3, 1) := by decide +kernel
theorem dX11_change_30 : decode cX11_change 30 = .ok (.ireturn, 1) := by decide +kernel
theorem dX11_change_31 : decode cX11_change 31 = .ok (.aload_n 0, 1) := by decide +kernel
theorem dX11_change_32 : decode cX11_change 32 = .ok (.getfield 13, 3) := by decide +kernel
theorem dX11_change_35 : decode cX11_change 35 = .ok (.iload_n 3, 1) := by decide +kernel
theorem dX11_change_36 : decode cX11_change 36 = .ok (.iload_n 2, 1) := by decide +kernel
theorem dX11_change_37 : decode cX11_change 37 = .ok (.iastore, 1) := by decide +kernel
theorem dX11_change_38 : decode cX11_change 38 = .ok (.aload_n 0, 1) := by decide +kernel
theorem dX11_change_39 : decode cX11_change 39 = .ok (.getfield 13, 3) := by decide +kernel
theorem dX11_change_42 : decode cX11_change 42 = .ok (.iload 4, 2) := by decide +kernel
theorem dX11_change_44 : decode cX11_change 44 = .ok (.iload_n 1, 1) := by decide +kernel
theorem dX11_change_45 : decode cX11_change 45 = .ok (.iastore, 1) := by decide +kernel
theorem dX11_change_46 : decode cX11_change 46 = .ok (.iconst 0, 1) := by decide +kernel
theorem dX11_change_47 : decode cX11_change 47 = .ok (.ireturn, 1) := by decide +kernel
theorem dX11_ring_0 : decode cX11_ring 0 = .ok (.aload_n 0, 1) := by decide +kernel
theorem dX11_ring_1 : decode cX11_ring 1 = .ok (.getfield 13, 3) := by decide +kernel
theorem dX11_ring_4 : decode cX11_ring 4 = .ok (.bipush 14, 2) := by decide +kernel
theorem dX11_ring_6 : decode cX11_ring 6 = .ok (.iaload, 1) := by decide +kernel
theorem dX11_ring_7 : decode cX11_ring 7 = .ok (.bipush 99, 2) := by decide +kernel
theorem dX11_ring_9 : decode cX11_ring 9 = .ok (.if_icmp .ne 5, 3) := by decide +kernel
theorem dX11_ring_12 : decode cX11_ring 12 = .ok (.iconst 4, 1) := by decide +kernel
theorem dX11_ring_13 : decode cX11_ring 13 = .ok (.ireturn, 1) := by decide +kernel
theorem dX11_ring_14 : decode cX11_ring 14 = .ok (.aload_n 0, 1) := by decide +kernel
theorem dX11_ring_15 : decode cX11_ring 15 = .ok (.getfield 13, 3) := by decide +kernel
theorem dX11_ring_18 : decode cX11_ring 18 = .ok (.bipush 14, 2) := by decide +kernel
theorem dX11_ring_20 : decode cX11_ring 20 = .ok (.dup2, 1) := by decide +kernel
theorem dX11_ring_21 : decode cX11_ring 21 = .ok (.iaload, 1) := by decide +kernel
theorem dX11_ring_22 : decode cX11_ring 22 = .ok (.iconst 1, 1) := by decide +kernel
theorem dX11_ring_23 : decode cX11_ring 23 = .ok (.iadd, 1) := by decide +kernel
theorem dX11_ring_24 : decode cX11_ring 24 = .ok (.iastore, 1) := by decide +kernel
theorem dX11_ring_25 : decode cX11_ring 25 = .ok (.iconst 0, 1) := by decide +kernel
theorem dX11_ring_26 : decode cX11_ring 26 = .ok (.ireturn, 1) := by decide +kernel
set_option maxRecDepth 20000 in
theorem ggX11_goDays_X11_asNow : GoodIn wsX11_goDays wsX11_asNow := goodIn_r _ [9, 10, 11, 32, 33, 34, 35, 36, 37, 38, 39, 40, 41, 42, 43, 44, 45, 46, 47, 48, 49, 50, 51, 52, 53, 54, 55, 56, 57, 58, 59, 60, 61] (by decide +kernel) (by decide +kernel)
set_option maxRecDepth 20000 in
theorem gX11_goDays_X11_asNow : GoodIn wsX11_goDays (wsV RX11 83 RX11 yX11_asNow wsX11_asNow) := goodIn_app (goodIn_of _ (by decide +kernel)) ggX11_goDays_X11_asNow
set_option maxRecDepth 20000 in
theorem ggX11_goDays_X11_ring : GoodIn wsX11_goDays wsX11_ring := goodIn_r _ [15, 10, 32, 33, 34, 35, 36, 37, 38, 39, 40, 41, 42, 43, 44, 45, 46, 47, 48, 49, 50, 51, 52, 53, 54, 55, 56, 57, 58, 59, 60, 61] (by decide +kernel) (by decide +kernel)
set_option maxRecDepth 20000 in
theorem gX11_goDays_X11_ring : GoodIn wsX11_goDays (wsV RX11 89 RX11 yX11_ring wsX11_ring) := goodIn_app (goodIn_of _ (by decide +kernel)) ggX11_goDays_X11_ring
set_option maxRecDepth 20000 in
theorem ggX11_goDays_X11_change : GoodIn wsX11_goDays wsX11_change := goodIn_r _ [19, 10, 20, 21, 22, 8, 23, 32, 33, 34, 35, 36, 37, 38, 39, 40, 41, 42, 43, 44, 45, 46, 47, 48, 49, 50, 51, 52, 53, 54, 55, 56, 57, 58, 59, 60, 61] (by decide +kernel) (by decide +kernel)
set_option maxRecDepth 20000 in
theorem gX11_goDays_X11_change : GoodIn wsX11_goDays (wsV RX11 95 RX11 yX11_change wsX11_change) := goodIn_app (goodIn_of _ (by decide +kernel)) ggX11_goDays_X11_change
set_option maxRecDepth 20000 in
theorem ggX11_goDays_X11_goHome : GoodIn wsX11_goDays wsX11_goHome := goodIn_r _ [27, 10, 20, 21, 22, 8, 23, 32, 33, 34, 35, 36, 37, 38, 39, 40, 41, 42, 43, 44, 45, 46, 47, 48, 49, 50, 51, 52, 53, 54, 55, 56, 57, 58, 59, 60, 61] (by decide +kernel) (by decide +kernel)
set_option maxRecDepth 20000 in
theorem gX11_goDays_X11_goHome : GoodIn wsX11_goDays (wsV RX11 99 RX11 yX11_goHome wsX11_goHome) := goodIn_app (goodIn_of _ (by decide +kernel)) ggX11_goDays_X11_goHome
set_option maxRecDepth 20000 in
theorem ggX11_goDays_X11_join : GoodIn wsX11_goDays wsX11_join := goodIn_r _ [31, 10, 20, 21, 22, 8, 23, 32, 33, 34, 35, 36, 37, 38, 39, 40, 41, 42, 43, 44, 45, 46, 47, 48, 49, 50, 51, 52, 53, 54, 55, 56, 57, 58, 59, 60, 61] (by decide +kernel) (by decide +kernel)
set_option maxRecDepth 20000 in
theorem gX11_goDays_X11_join : GoodIn wsX11_goDays (wsV RX11 102 RX11 yX11_join wsX11_join) := goodIn_app (goodIn_of _ (by decide +kernel)) ggX11_goDays_X11_join
theorem dX11_goDays_0 : decode cX11_goDays 0 = .ok (.aload_n 0, 1) := by decide +kernel
theorem dX11_goDays_1 : decode cX11_goDays 1 = .ok (.invokevirtual 83, 3) := by decide +kernel
theorem dX11_goDays_4 : decode cX11_goDays 4 = .ok (.aload_n 0, 1) := by decide +kernel
theorem dX11_goDays_5 : decode cX11_goDays 5 = .ok (.iconst 0, 1) := by decide +kernel
theorem dX11_goDays_6 : decode cX11_goDays 6 = .ok (.putfield 86, 3) := by decide +kernel
theorem dX11_goDays_9 : decode cX11_goDays 9 = .ok (.iconst 0, 1) := by decide +kernel
theorem dX11_goDays_10 : decode cX11_goDays 10 = .ok (.istore_n 1, 1) := by decide +kernel
theorem dX11_goDays_11 : decode cX11_goDays 11 = .ok (.iload_n 1, 1) := by decide +kernel
theorem dX11_goDays_12 : decode cX11_goDays 12 = .ok (.aload_n 0, 1) := by decide +kernel
theorem dX11_goDays_13 : decode cX11_goDays 13 = .ok (.getfield 68, 3) := by decide +kernel
theorem dX11_goDays_16 : decode cX11_goDays 16 = .ok (.if_icmp .ge 141, 3) := by decide +kernel
theorem dX11_goDays_19 : decode cX11_goDays 19 = .ok (.aload_n 0, 1) := by decide +kernel
theorem dX11_goDays_20 : decode cX11_goDays 20 = .ok (.getfield 37, 3) := by decide +kernel
theorem dX11_goDays_23 : decode cX11_goDays 23 = .ok (.iload_n 1, 1) := by decide +kernel
theorem dX11_goDays_24 : decode cX11_goDays 24 = .ok (.iaload, 1) := by decide +kernel
theorem dX11_goDays_25 : decode cX11_goDays 25 = .ok (.bipush 33, 2) := by decide +kernel
theorem dX11_goDays_27 : decode cX11_goDays 27 = .ok (.if_icmp .ne 17, 3) := by decide +kernel
theorem dX11_goDays_30 : decode cX11_goDays 30 = .ok (.aload_n 0, 1) := by decide +kernel
theorem dX11_goDays_31 : decode cX11_goDays 31 = .ok (.aload_n 0, 1) := by decide +kernel
theorem dX11_goDays_32 : decode cX11_goDays 32 = .ok (.invokevirtual 89, 3) := by decide +kernel
theorem dX11_goDays_35 : decode cX11_goDays 35 = .ok (.putfield 92, 3) := by decide +kernel
theorem dX11_goDays_38 : decode cX11_goDays 38 = .ok (.iinc 1 1, 3) := by decide +kernel
theorem dX11_goDays_41 : decode cX11_goDays 41 = .ok (.goto 91, 3) := by decide +kernel
theorem dX11_goDays_44 : decode cX11_goDays 44 = .ok (.aload_n 0, 1) := by decide +kernel
theorem dX11_goDays_45 : decode cX11_goDays 45 = .ok (.getfield 37, 3) := by decide +kernel
theorem dX11_goDays_48 : decode cX11_goDays 48 = .ok (.iload_n 1, 1) := by decide +kernel
theorem dX11_goDays_49 : decode cX11_goDays 49 = .ok (.iaload, 1) := by decide +kernel
theorem dX11_goDays_50 : decode cX11_goDays 50 = .ok (.bipush 65, 2) := by decide +kernel
theorem dX11_goDays_52 : decode cX11_goDays 52 = .ok (.isub, 1) := by decide +kernel
theorem dX11_goDays_53 : decode cX11_goDays 53 = .ok (.istore_n 2, 1) := by decide +kernel
theorem dX11_goDays_54 : decode cX11_goDays 54 = .ok (.aload_n 0, 1) := by decide +kernel
theorem dX11_goDays_55 : decode cX11_goDays 55 = .ok (.getfield 37, 3) := by decide +kernel
theorem dX11_goDays_58 : decode cX11_goDays 58 = .ok (.iload_n 1, 1) := by decide +kernel
theorem dX11_goDays_59 : decode cX11_goDays 59 = .ok (.iconst 1, 1) := by decide +kernel
theorem dX11_goDays_60 : decode cX11_goDays 60 = .ok (.iadd, 1) := by decide +kernel
theorem dX11_goDays_61 : decode cX11_goDays 61 = .ok (.iaload, 1) := by decide +kernel
theorem dX11_goDays_62 : decode cX11_goDays 62 = .ok (.istore_n 3, 1) := by decide +kernel
theorem dX11_goDays_63 : decode cX11_goDays 63 = .ok (.iload_n 3, 1) := by decide +kernel
theorem dX11_goDays_64 : decode cX11_goDays 64 = .ok (.bipush 120, 2) := by decide +kernel
theorem dX11_goDays_66 : decode cX11_goDays 66 = .ok (.if_icmp .ne 29, 3) := by decide +kernel
theorem dX11_goDays_69 : decode cX11_goDays 69 = .ok (.aload_n 0, 1) := by decide +kernel
theorem dX11_goDays_70 : decode cX11_goDays 70 = .ok (.aload_n 0, 1) := by decide +kernel
theorem dX11_goDays_71 : decode cX11_goDays 71 = .ok (.iload_n 2, 1) := by decide +kernel
theorem dX11_goDays_72 : decode cX11_goDays 72 = .ok (.aload_n 0, 1) := by decide +kernel
theorem dX11_goDays_73 : decode cX11_goDays 73 = .ok (.getfield 37, 3) := by decide +kernel
theorem dX11_goDays_76 : decode cX11_goDays 76 = .ok (.iload_n 1, 1) := by decide +kernel
theorem dX11_goDays_77 : decode cX11_goDays 77 = .ok (.iconst 2, 1) := by decide +kernel
theorem dX11_goDays_78 : decode cX11_goDays 78 = .ok (.iadd, 1) := by decide +kernel
theorem dX11_goDays_79 : decode cX11_goDays 79 = .ok (.iaload, 1) := by decide +kernel
theorem dX11_goDays_80 : decode cX11_goDays 80 = .ok (.bipush 65, 2) := by decide +kernel
theorem dX11_goDays_82 : decode cX11_goDays 82 = .ok (.isub, 1) := by decide +kernel
theorem dX11_goDays_83 : decode cX11_goDays 83 = .ok (.invokevirtual 95, 3) := by decide +kernel
theorem dX11_goDays_86 : decode cX11_goDays 86 = .ok (.putfield 92, 3) := by decide +kernel
theorem dX11_goDays_89 : decode cX11_goDays 89 = .ok (.iinc 1 3, 3) := by decide +kernel
theorem dX11_goDays_92 : decode cX11_goDays 92 = .ok (.goto 40, 3) := by decide +kernel
theorem dX11_goDays_95 : decode cX11_goDays 95 = .ok (.aload_n 0, 1) := by decide +kernel
theorem dX11_goDays_96 : decode cX11_goDays 96 = .ok (.iload_n 3, 1) := by decide +kernel
theorem dX11_goDays_97 : decode cX11_goDays 97 = .ok (.bipush 45, 2) := by decide +kernel
theorem dX11_goDays_99 : decode cX11_goDays 99 = .ok (.if_icmp .ne 11, 3) := by decide +kernel
theorem dX11_goDays_102 : decode cX11_goDays 102 = .ok (.aload_n 0, 1) := by decide +kernel
theorem dX11_goDays_103 : decode cX11_goDays 103 = .ok (.iload_n 2, 1) := by decide +kernel
theorem dX11_goDays_104 : decode cX11_goDays 104 = .ok (.invokevirtual 99, 3) := by decide +kernel
theorem dX11_goDays_107 : decode cX11_goDays 107 = .ok (.goto 19, 3) := by decide +kernel
theorem dX11_goDays_110 : decode cX11_goDays 110 = .ok (.aload_n 0, 1) := by decide +kernel
theorem dX11_goDays_111 : decode cX11_goDays 111 = .ok (.iload_n 2, 1) := by decide +kernel
theorem dX11_goDays_112 : decode cX11_goDays 112 = .ok (.iload_n 3, 1) := by decide +kernel
theorem dX11_goDays_113 : decode cX11_goDays 113 = .ok (.bipush 100, 2) := by decide +kernel
theorem dX11_goDays_115 : decode cX11_goDays 115 = .ok (.if_icmp .ne 7, 3) := by decide +kernel
theorem dX11_goDays_118 : decode cX11_goDays 118 = .ok (.iconst 0, 1) := by decide +kernel
theorem dX11_goDays_119 : decode cX11_goDays 119 = .ok (.goto 4, 3) := by decide +kernel
theorem dX11_goDays_122 : decode cX11_goDays 122 = .ok (.iconst 1, 1) := by decide +kernel
theorem dX11_goDays_123 : decode cX11_goDays 123 = .ok (.invokevirtual 102, 3) := by decide +kernel
theorem dX11_goDays_126 : decode cX11_goDays 126 = .ok (.putfield 92, 3) := by decide +kernel
theorem dX11_goDays_129 : decode cX11_goDays 129 = .ok (.iinc 1 2, 3) := by decide +kernel
theorem dX11_goDays_132 : decode cX11_goDays 132 = .ok (.aload_n 0, 1) := by decide +kernel
theorem dX11_goDays_133 : decode cX11_goDays 133 = .ok (.getfield 92, 3) := by decide +kernel
theorem dX11_goDays_136 : decode cX11_goDays 136 = .ok (.ifCond .le 8, 3) := by decide +kernel
theorem dX11_goDays_139 : decode cX11_goDays 139 = .ok (.aload_n 0, 1) := by decide +kernel
theorem dX11_goDays_140 : decode cX11_goDays 140 = .ok (.getfield 86, 3) := by decide +kernel
theorem dX11_goDays_143 : decode cX11_goDays 143 = .ok (.ireturn, 1) := by decide +kernel
theorem dX11_goDays_144 : decode cX11_goDays 144 = .ok (.aload_n 0, 1) := by decide +kernel
theorem dX11_goDays_145 : decode cX11_goDays 145 = .ok (.dup, 1) := by decide +kernel
theorem dX11_goDays_146 : decode cX11_goDays 146 = .ok (.getfield 86, 3) := by decide +kernel
theorem dX11_goDays_149 : decode cX11_goDays 149 = .ok (.iconst 1, 1) := by decide +kernel
theorem dX11_goDays_150 : decode cX11_goDays 150 = .ok (.iadd, 1) := by decide +kernel
theorem dX11_goDays_151 : decode cX11_goDays 151 = .ok (.putfield 86, 3) := by decide +kernel
theorem dX11_goDays_154 : decode cX11_goDays 154 = .ok (.goto (-143), 3) := by decide +kernel
theorem dX11_goDays_157 : decode cX11_goDays 157 = .ok (.bipush (-6), 2) := by decide +kernel
theorem dX11_goDays_159 : decode cX11_goDays 159 = .ok (.ireturn, 1) := by decide +kernel
set_option maxRecDepth 20000 in
theorem ggX11_judge_X11_in : GoodIn wsX11_judge wsX11_in := goodIn_r _ [5] (by decide +kernel) (by decide +kernel)
set_option maxRecDepth 20000 in
theorem gX11_judge_X11_in : GoodIn wsX11_judge (va_wsS RX11 57 yX11_in wsX11_in) := goodIn_app (goodIn_of _ (by decide +kernel)) ggX11_judge_X11_in
set_option maxRecDepth 20000 in
theorem ggX11_judge_X11_faultOf : GoodIn wsX11_judge wsX11_faultOf := goodIn_r _ [9, 10, 11, 12, 13, 4, 14, 2, 3, 5, 46, 47, 48, 49, 50, 51, 52, 53, 54, 55, 56, 57, 58, 59, 60, 61, 62, 63, 64, 65, 66, 67, 68, 69, 70, 71, 72, 73, 74, 75] (by decide +kernel) (by decide +kernel)
set_option maxRecDepth 20000 in
theorem gX11_judge_X11_faultOf : GoodIn wsX11_judge (wsV RX11 75 RX11 yX11_faultOf wsX11_faultOf) := goodIn_app (goodIn_of _ (by decide +kernel)) ggX11_judge_X11_faultOf
set_option maxRecDepth 20000 in
theorem ggX11_judge_X11_goDays : GoodIn wsX11_judge wsX11_goDays := goodIn_r _ [18, 19, 10, 11, 1, 20, 21, 22, 4, 23, 24, 25, 26, 27, 28, 29, 30, 31, 32, 33, 34, 35, 36, 37, 38, 39, 40, 41, 42, 43, 44, 45, 46, 47, 48, 49, 50, 51, 52, 53, 54, 55, 56, 57, 58, 59, 60, 61, 62, 63, 64, 65, 66, 67, 68, 69, 70, 71, 72, 73, 74, 75] (by decide +kernel) (by decide +kernel)
set_option maxRecDepth 20000 in
theorem gX11_judge_X11_goDays : GoodIn wsX11_judge (wsV RX11 105 RX11 yX11_goDays wsX11_goDays) := goodIn_app (goodIn_of _ (by decide +kernel)) ggX11_judge_X11_goDays
theorem dX11_judge_0 : decode cX11_judge 0 = .ok (.iload_n 1, 1) := by decide +kernel
theorem dX11_judge_1 : decode cX11_judge 1 = .ok (.iconst 0, 1) := by decide +kernel
theorem dX11_judge_2 : decode cX11_judge 2 = .ok (.iconst 1, 1) := by decide +kernel
theorem dX11_judge_3 : decode cX11_judge 3 = .ok (.invokestatic 57, 3) := by decide +kernel
theorem dX11_judge_6 : decode cX11_judge 6 = .ok (.ifCond .ne 6, 3) := by decide +kernel
theorem dX11_judge_9 : decode cX11_judge 9 = .ok (.bipush (-2), 2) := by decide +kernel
theorem dX11_judge_11 : decode cX11_judge 11 = .ok (.ireturn, 1) := by decide +kernel
theorem dX11_judge_12 : decode cX11_judge 12 = .ok (.aload_n 0, 1) := by decide +kernel
theorem dX11_judge_13 : decode cX11_judge 13 = .ok (.invokevirtual 75, 3) := by decide +kernel
theorem dX11_judge_16 : decode cX11_judge 16 = .ok (.ifCond .lt 6, 3) := by decide +kernel
theorem dX11_judge_19 : decode cX11_judge 19 = .ok (.bipush (-5), 2) := by decide +kernel
theorem dX11_judge_21 : decode cX11_judge 21 = .ok (.ireturn, 1) := by decide +kernel
theorem dX11_judge_22 : decode cX11_judge 22 = .ok (.aload_n 0, 1) := by decide +kernel
theorem dX11_judge_23 : decode cX11_judge 23 = .ok (.invokevirtual 105, 3) := by decide +kernel
theorem dX11_judge_26 : decode cX11_judge 26 = .ok (.istore_n 2, 1) := by decide +kernel
theorem dX11_judge_27 : decode cX11_judge 27 = .ok (.iload_n 2, 1) := by decide +kernel
theorem dX11_judge_28 : decode cX11_judge 28 = .ok (.ifCond .lt 7, 3) := by decide +kernel
theorem dX11_judge_31 : decode cX11_judge 31 = .ok (.iload_n 1, 1) := by decide +kernel
theorem dX11_judge_32 : decode cX11_judge 32 = .ok (.ifCond .ne 7, 3) := by decide +kernel
theorem dX11_judge_35 : decode cX11_judge 35 = .ok (.iload_n 2, 1) := by decide +kernel
theorem dX11_judge_36 : decode cX11_judge 36 = .ok (.goto 7, 3) := by decide +kernel
theorem dX11_judge_39 : decode cX11_judge 39 = .ok (.aload_n 0, 1) := by decide +kernel
theorem dX11_judge_40 : decode cX11_judge 40 = .ok (.getfield 92, 3) := by decide +kernel
theorem dX11_judge_43 : decode cX11_judge 43 = .ok (.ireturn, 1) := by decide +kernel
set_option maxRecDepth 20000 in
theorem ggX11_barOfDays_X11_faultOf : GoodIn wsX11_barOfDays wsX11_faultOf := goodIn_r _ [5, 6, 7, 8, 9, 4, 10, 11, 12, 13, 46, 47, 48, 49, 50, 51, 52, 53, 54, 55, 56, 57, 58, 59, 60, 61, 62, 63, 64, 65, 66, 67, 68, 69, 70, 71, 72, 73, 74, 75] (by decide +kernel) (by decide +kernel)
set_option maxRecDepth 20000 in
theorem gX11_barOfDays_X11_faultOf : GoodIn wsX11_barOfDays (wsV RX11 75 RX11 yX11_faultOf wsX11_faultOf) := goodIn_app (goodIn_of _ (by decide +kernel)) ggX11_barOfDays_X11_faultOf
set_option maxRecDepth 20000 in
theorem ggX11_barOfDays_X11_goDays : GoodIn wsX11_barOfDays wsX11_goDays := goodIn_r _ [17, 18, 6, 7, 19, 20, 21, 22, 4, 23, 24, 25, 26, 27, 28, 29, 30, 31, 32, 33, 34, 35, 36, 37, 38, 39, 40, 41, 42, 43, 44, 45, 46, 47, 48, 49, 50, 51, 52, 53, 54, 55, 56, 57, 58, 59, 60, 61, 62, 63, 64, 65, 66, 67, 68, 69, 70, 71, 72, 73, 74, 75] (by decide +kernel) (by decide +kernel)
set_option maxRecDepth 20000 in
theorem gX11_barOfDays_X11_goDays : GoodIn wsX11_barOfDays (wsV RX11 105 RX11 yX11_goDays wsX11_goDays) := goodIn_app (goodIn_of _ (by decide +kernel)) ggX11_barOfDays_X11_goDays
theorem dX11_barOfDays_0 : decode cX11_barOfDays 0 = .ok (.aload_n 0, 1) := by decide +kernel
theorem dX11_barOfDays_1 : decode cX11_barOfDays 1 = .ok (.invokevirtual 75, 3) := by decide +kernel
theorem dX11_barOfDays_4 : decode cX11_barOfDays 4 = .ok (.ifCond .ge 10, 3) := by decide +kernel
theorem dX11_barOfDays_7 : decode cX11_barOfDays 7 = .ok (.aload_n 0, 1) := by decide +kernel
theorem dX11_barOfDays_8 : decode cX11_barOfDays 8 = .ok (.invokevirtual 105, 3) := by decide +kernel
theorem dX11_barOfDays_11 : decode cX11_barOfDays 11 = .ok (.ifCond .lt 8, 3) := by decide +kernel
theorem dX11_barOfDays_14 : decode cX11_barOfDays 14 = .ok (.bipush (-5), 2) := by decide +kernel
theorem dX11_barOfDays_16 : decode cX11_barOfDays 16 = .ok (.goto 4, 3) := by decide +kernel
theorem dX11_barOfDays_19 : decode cX11_barOfDays 19 = .ok (.iconst 0, 1) := by decide +kernel
theorem dX11_barOfDays_20 : decode cX11_barOfDays 20 = .ok (.ireturn, 1) := by decide +kernel
set_option maxRecDepth 20000 in
theorem ggX11_done_X11_barOfDays : GoodIn wsX11_done wsX11_barOfDays := goodIn_r _ [9, 10, 11, 12, 8, 13, 3, 14, 15, 16, 17, 18, 19, 20, 21, 22, 23, 24, 4, 25, 26, 27, 28, 29, 2, 1, 30, 31, 32, 33, 34, 35, 36, 37, 38, 39, 40, 41, 42, 43, 44, 45, 46, 47, 48, 49, 50, 51, 52, 53, 54, 55, 56, 57, 58, 59, 60, 61, 62, 63, 64, 65, 66, 67, 68, 69, 70, 71, 72, 73, 74, 75, 76, 77, 78, 79] (by decide +kernel) (by decide +kernel)
set_option maxRecDepth 20000 in
theorem gX11_done_X11_barOfDays : GoodIn wsX11_done (wsV RX11 108 RX11 yX11_barOfDays wsX11_barOfDays) := goodIn_app (goodIn_of _ (by decide +kernel)) ggX11_done_X11_barOfDays
theorem dX11_done_0 : decode cX11_done 0 = .ok (.aload_n 0, 1) := by decide +kernel
theorem dX11_done_1 : decode cX11_done 1 = .ok (.invokevirtual 108, 3) := by decide +kernel
theorem dX11_done_4 : decode cX11_done 4 = .ok (.ifCond .ge 6, 3) := by decide +kernel
theorem dX11_done_7 : decode cX11_done 7 = .ok (.bipush (-5), 2) := by decide +kernel
theorem dX11_done_9 : decode cX11_done 9 = .ok (.ireturn, 1) := by decide +kernel
theorem dX11_done_10 : decode cX11_done 10 = .ok (.iconst 0, 1) := by decide +kernel
theorem dX11_done_11 : decode cX11_done 11 = .ok (.istore_n 1, 1) := by decide +kernel
theorem dX11_done_12 : decode cX11_done 12 = .ok (.iload_n 1, 1) := by decide +kernel
theorem dX11_done_13 : decode cX11_done 13 = .ok (.bipush 15, 2) := by decide +kernel
theorem dX11_done_15 : decode cX11_done 15 = .ok (.if_icmp .ge 21, 3) := by decide +kernel
theorem dX11_done_18 : decode cX11_done 18 = .ok (.aload_n 0, 1) := by decide +kernel
theorem dX11_done_19 : decode cX11_done 19 = .ok (.getfield 7, 3) := by decide +kernel
theorem dX11_done_22 : decode cX11_done 22 = .ok (.iload_n 1, 1) := by decide +kernel
theorem dX11_done_23 : decode cX11_done 23 = .ok (.aload_n 0, 1) := by decide +kernel
theorem dX11_done_24 : decode cX11_done 24 = .ok (.getfield 13, 3) := by decide +kernel
theorem dX11_done_27 : decode cX11_done 27 = .ok (.iload_n 1, 1) := by decide +kernel
theorem dX11_done_28 : decode cX11_done 28 = .ok (.iaload, 1) := by decide +kernel
theorem dX11_done_29 : decode cX11_done 29 = .ok (.iastore, 1) := by decide +kernel
theorem dX11_done_30 : decode cX11_done 30 = .ok (.iinc 1 1, 3) := by decide +kernel
theorem dX11_done_33 : decode cX11_done 33 = .ok (.goto (-21), 3) := by decide +kernel
theorem dX11_done_36 : decode cX11_done 36 = .ok (.aload_n 0, 1) := by decide +kernel
theorem dX11_done_37 : decode cX11_done 37 = .ok (.iconst 0, 1) := by decide +kernel
theorem dX11_done_38 : decode cX11_done 38 = .ok (.putfield 68, 3) := by decide +kernel
theorem dX11_done_41 : decode cX11_done 41 = .ok (.aload_n 0, 1) := by decide +kernel
theorem dX11_done_42 : decode cX11_done 42 = .ok (.getfield 86, 3) := by decide +kernel
theorem dX11_done_45 : decode cX11_done 45 = .ok (.ireturn, 1) := by decide +kernel
set_option maxRecDepth 20000 in
theorem ggX11_place_X11_isRow : GoodIn wsX11_place wsX11_isRow := goodIn_r _ [5] (by decide +kernel) (by decide +kernel)
set_option maxRecDepth 20000 in
theorem gX11_place_X11_isRow : GoodIn wsX11_place (va_wsS RX11 65 yX11_isRow wsX11_isRow) := goodIn_app (goodIn_of _ (by decide +kernel)) ggX11_place_X11_isRow
set_option maxRecDepth 20000 in
theorem ggX11_place_X11_in : GoodIn wsX11_place wsX11_in := goodIn_r _ [8] (by decide +kernel) (by decide +kernel)
set_option maxRecDepth 20000 in
theorem gX11_place_X11_in : GoodIn wsX11_place (va_wsS RX11 57 yX11_in wsX11_in) := goodIn_app (goodIn_of _ (by decide +kernel)) ggX11_place_X11_in
set_option maxRecDepth 20000 in
theorem ggX11_place_X11_barOfDays : GoodIn wsX11_place wsX11_barOfDays := goodIn_r _ [12, 13, 14, 15, 4, 16, 17, 18, 19, 20, 21, 6, 7, 8, 22, 23, 24, 25, 26, 27, 28, 29, 30, 31, 1, 32, 33, 34, 35, 36, 37, 38, 39, 40, 41, 42, 43, 44, 45, 46, 47, 48, 49, 50, 51, 52, 53, 54, 55, 56, 57, 58, 59, 60, 61, 62, 63, 64, 65, 66, 67, 68, 69, 70, 71, 72, 73, 74, 75, 76, 77, 78, 79, 80, 81, 82] (by decide +kernel) (by decide +kernel)
set_option maxRecDepth 20000 in
theorem gX11_place_X11_barOfDays : GoodIn wsX11_place (wsV RX11 108 RX11 yX11_barOfDays wsX11_barOfDays) := goodIn_app (goodIn_of _ (by decide +kernel)) ggX11_place_X11_barOfDays
theorem dX11_place_0 : decode cX11_place 0 = .ok (.iload_n 1, 1) := by decide +kernel
theorem dX11_place_1 : decode cX11_place 1 = .ok (.invokestatic 65, 3) := by decide +kernel
theorem dX11_place_4 : decode cX11_place 4 = .ok (.ifCond .eq 12, 3) := by decide +kernel
theorem dX11_place_7 : decode cX11_place 7 = .ok (.iload_n 2, 1) := by decide +kernel
theorem dX11_place_8 : decode cX11_place 8 = .ok (.iconst 0, 1) := by decide +kernel
theorem dX11_place_9 : decode cX11_place 9 = .ok (.iconst 5, 1) := by decide +kernel
theorem dX11_place_10 : decode cX11_place 10 = .ok (.invokestatic 57, 3) := by decide +kernel
theorem dX11_place_13 : decode cX11_place 13 = .ok (.ifCond .ne 6, 3) := by decide +kernel
theorem dX11_place_16 : decode cX11_place 16 = .ok (.bipush (-2), 2) := by decide +kernel
theorem dX11_place_18 : decode cX11_place 18 = .ok (.ireturn, 1) := by decide +kernel
theorem dX11_place_19 : decode cX11_place 19 = .ok (.aload_n 0, 1) := by decide +kernel
theorem dX11_place_20 : decode cX11_place 20 = .ok (.invokevirtual 108, 3) := by decide +kernel
theorem dX11_place_23 : decode cX11_place 23 = .ok (.ifCond .ge 6, 3) := by decide +kernel
theorem dX11_place_26 : decode cX11_place 26 = .ok (.bipush (-5), 2) := by decide +kernel
theorem dX11_place_28 : decode cX11_place 28 = .ok (.ireturn, 1) := by decide +kernel
theorem dX11_place_29 : decode cX11_place 29 = .ok (.iload_n 2, 1) := by decide +kernel
theorem dX11_place_30 : decode cX11_place 30 = .ok (.aload_n 0, 1) := by decide +kernel
theorem dX11_place_31 : decode cX11_place 31 = .ok (.getfield 13, 3) := by decide +kernel
theorem dX11_place_34 : decode cX11_place 34 = .ok (.bipush 12, 2) := by decide +kernel
theorem dX11_place_36 : decode cX11_place 36 = .ok (.iload_n 1, 1) := by decide +kernel
theorem dX11_place_37 : decode cX11_place 37 = .ok (.iadd, 1) := by decide +kernel
theorem dX11_place_38 : decode cX11_place 38 = .ok (.iaload, 1) := by decide +kernel
theorem dX11_place_39 : decode cX11_place 39 = .ok (.if_icmp .ge 17, 3) := by decide +kernel
theorem dX11_place_42 : decode cX11_place 42 = .ok (.aload_n 0, 1) := by decide +kernel
theorem dX11_place_43 : decode cX11_place 43 = .ok (.getfield 13, 3) := by decide +kernel
theorem dX11_place_46 : decode cX11_place 46 = .ok (.bipush 6, 2) := by decide +kernel
theorem dX11_place_48 : decode cX11_place 48 = .ok (.iload_n 1, 1) := by decide +kernel
theorem dX11_place_49 : decode cX11_place 49 = .ok (.imul, 1) := by decide +kernel
theorem dX11_place_50 : decode cX11_place 50 = .ok (.iload_n 2, 1) := by decide +kernel
theorem dX11_place_51 : decode cX11_place 51 = .ok (.iadd, 1) := by decide +kernel
theorem dX11_place_52 : decode cX11_place 52 = .ok (.iaload, 1) := by decide +kernel
theorem dX11_place_53 : decode cX11_place 53 = .ok (.goto 5, 3) := by decide +kernel
theorem dX11_place_56 : decode cX11_place 56 = .ok (.bipush (-6), 2) := by decide +kernel
theorem dX11_place_58 : decode cX11_place 58 = .ok (.ireturn, 1) := by decide +kernel
set_option maxRecDepth 20000 in
theorem ggX11_of_X11_isMember : GoodIn wsX11_of wsX11_isMember := goodIn_r _ [4, 5, 6, 3, 7] (by decide +kernel) (by decide +kernel)
set_option maxRecDepth 20000 in
theorem gX11_of_X11_isMember : GoodIn wsX11_of (va_wsS RX11 61 yX11_isMember wsX11_isMember) := goodIn_app (goodIn_of _ (by decide +kernel)) ggX11_of_X11_isMember
set_option maxRecDepth 20000 in
theorem ggX11_of_X11_in : GoodIn wsX11_of wsX11_in := goodIn_r _ [7] (by decide +kernel) (by decide +kernel)
set_option maxRecDepth 20000 in
theorem gX11_of_X11_in : GoodIn wsX11_of (va_wsS RX11 57 yX11_in wsX11_in) := goodIn_app (goodIn_of _ (by decide +kernel)) ggX11_of_X11_in
set_option maxRecDepth 20000 in
theorem ggX11_of_X11_barOfDays : GoodIn wsX11_of wsX11_barOfDays := goodIn_r _ [11, 12, 13, 14, 3, 15, 16, 17, 18, 19, 20, 5, 6, 7, 21, 22, 23, 24, 25, 26, 27, 28, 29, 30, 31, 32, 33, 34, 35, 36, 37, 38, 39, 40, 41, 42, 43, 44, 45, 46, 47, 48, 49, 50, 51, 52, 53, 54, 55, 56, 57, 58, 59, 60, 61, 62, 63, 64, 65, 66, 67, 68, 69, 70, 71, 72, 73, 74, 75, 76, 77, 78, 79, 80, 81, 82] (by decide +kernel) (by decide +kernel)
set_option maxRecDepth 20000 in
theorem gX11_of_X11_barOfDays : GoodIn wsX11_of (wsV RX11 108 RX11 yX11_barOfDays wsX11_barOfDays) := goodIn_app (goodIn_of _ (by decide +kernel)) ggX11_of_X11_barOfDays
set_option maxRecDepth 20000 in
theorem ggX11_of_X11_spotOf : GoodIn wsX11_of wsX11_spotOf := goodIn_r _ [44, 31, 53, 54, 55, 56, 57, 58, 59, 60, 61, 62, 63, 64, 65, 66, 67, 68, 69, 70, 71, 72, 73, 74, 75, 76, 77, 78, 79, 80, 81, 82] (by decide +kernel) (by decide +kernel)
set_option maxRecDepth 20000 in
theorem gX11_of_X11_spotOf : GoodIn wsX11_of (wsV RX11 79 RX11 yX11_spotOf wsX11_spotOf) := goodIn_app (goodIn_of _ (by decide +kernel)) ggX11_of_X11_spotOf
theorem dX11_of_0 : decode cX11_of 0 = .ok (.iload_n 1, 1) := by decide +kernel
theorem dX11_of_1 : decode cX11_of 1 = .ok (.invokestatic 61, 3) := by decide +kernel
theorem dX11_of_4 : decode cX11_of 4 = .ok (.ifCond .ne 5, 3) := by decide +kernel
theorem dX11_of_7 : decode cX11_of 7 = .ok (.iconst (-1), 1) := by decide +kernel
theorem dX11_of_8 : decode cX11_of 8 = .ok (.ireturn, 1) := by decide +kernel
theorem dX11_of_9 : decode cX11_of 9 = .ok (.iload_n 2, 1) := by decide +kernel
theorem dX11_of_10 : decode cX11_of 10 = .ok (.iconst 0, 1) := by decide +kernel
theorem dX11_of_11 : decode cX11_of 11 = .ok (.iconst 1, 1) := by decide +kernel
theorem dX11_of_12 : decode cX11_of 12 = .ok (.invokestatic 57, 3) := by decide +kernel
theorem dX11_of_15 : decode cX11_of 15 = .ok (.ifCond .ne 6, 3) := by decide +kernel
theorem dX11_of_18 : decode cX11_of 18 = .ok (.bipush (-2), 2) := by decide +kernel
theorem dX11_of_20 : decode cX11_of 20 = .ok (.ireturn, 1) := by decide +kernel
theorem dX11_of_21 : decode cX11_of 21 = .ok (.aload_n 0, 1) := by decide +kernel
theorem dX11_of_22 : decode cX11_of 22 = .ok (.invokevirtual 108, 3) := by decide +kernel
theorem dX11_of_25 : decode cX11_of 25 = .ok (.ifCond .ge 6, 3) := by decide +kernel
theorem dX11_of_28 : decode cX11_of 28 = .ok (.bipush (-5), 2) := by decide +kernel
theorem dX11_of_30 : decode cX11_of 30 = .ok (.ireturn, 1) := by decide +kernel
theorem dX11_of_31 : decode cX11_of 31 = .ok (.aload_n 0, 1) := by decide +kernel
theorem dX11_of_32 : decode cX11_of 32 = .ok (.iload_n 1, 1) := by decide +kernel
theorem dX11_of_33 : decode cX11_of 33 = .ok (.invokevirtual 79, 3) := by decide +kernel
theorem dX11_of_36 : decode cX11_of 36 = .ok (.istore_n 3, 1) := by decide +kernel
theorem dX11_of_37 : decode cX11_of 37 = .ok (.iload_n 2, 1) := by decide +kernel
theorem dX11_of_38 : decode cX11_of 38 = .ok (.ifCond .ne 18, 3) := by decide +kernel
theorem dX11_of_41 : decode cX11_of 41 = .ok (.iload_n 3, 1) := by decide +kernel
theorem dX11_of_42 : decode cX11_of 42 = .ok (.ifCond .ge 7, 3) := by decide +kernel
theorem dX11_of_45 : decode cX11_of 45 = .ok (.iconst 2, 1) := by decide +kernel
theorem dX11_of_46 : decode cX11_of 46 = .ok (.goto 23, 3) := by decide +kernel
theorem dX11_of_49 : decode cX11_of 49 = .ok (.iload_n 3, 1) := by decide +kernel
theorem dX11_of_50 : decode cX11_of 50 = .ok (.bipush 6, 2) := by decide +kernel
theorem dX11_of_52 : decode cX11_of 52 = .ok (.idiv, 1) := by decide +kernel
theorem dX11_of_53 : decode cX11_of 53 = .ok (.goto 16, 3) := by decide +kernel
theorem dX11_of_56 : decode cX11_of 56 = .ok (.iload_n 3, 1) := by decide +kernel
theorem dX11_of_57 : decode cX11_of 57 = .ok (.ifCond .ge 8, 3) := by decide +kernel
theorem dX11_of_60 : decode cX11_of 60 = .ok (.bipush (-6), 2) := by decide +kernel
theorem dX11_of_62 : decode cX11_of 62 = .ok (.goto 7, 3) := by decide +kernel
theorem dX11_of_65 : decode cX11_of 65 = .ok (.iload_n 3, 1) := by decide +kernel
theorem dX11_of_66 : decode cX11_of 66 = .ok (.bipush 6, 2) := by decide +kernel
theorem dX11_of_68 : decode cX11_of 68 = .ok (.irem, 1) := by decide +kernel
theorem dX11_of_69 : decode cX11_of 69 = .ok (.ireturn, 1) := by decide +kernel
set_option maxRecDepth 20000 in
theorem ggX11_bells_X11_barOfDays : GoodIn wsX11_bells wsX11_barOfDays := goodIn_r _ [6, 7, 8, 9, 5, 10, 11, 12, 13, 14, 15, 16, 17, 18, 19, 20, 21, 22, 23, 24, 25, 26, 27, 28, 1, 29, 30, 31, 32, 33, 34, 35, 36, 37, 38, 39, 40, 41, 42, 43, 44, 45, 46, 47, 48, 49, 50, 51, 52, 53, 54, 55, 56, 57, 58, 59, 60, 61, 62, 63, 64, 65, 66, 67, 68, 69, 70, 71, 72, 73, 74, 75, 76, 77, 78, 79] (by decide +kernel) (by decide +kernel)
set_option maxRecDepth 20000 in
theorem gX11_bells_X11_barOfDays : GoodIn wsX11_bells (wsV RX11 108 RX11 yX11_barOfDays wsX11_barOfDays) := goodIn_app (goodIn_of _ (by decide +kernel)) ggX11_bells_X11_barOfDays
theorem dX11_bells_0 : decode cX11_bells 0 = .ok (.aload_n 0, 1) := by decide +kernel
theorem dX11_bells_1 : decode cX11_bells 1 = .ok (.invokevirtual 108, 3) := by decide +kernel
theorem dX11_bells_4 : decode cX11_bells 4 = .ok (.ifCond .ge 8, 3) := by decide +kernel
theorem dX11_bells_7 : decode cX11_bells 7 = .ok (.bipush (-5), 2) := by decide +kernel
theorem dX11_bells_9 : decode cX11_bells 9 = .ok (.goto 10, 3) := by decide +kernel
theorem dX11_bells_12 : decode cX11_bells 12 = .ok (.aload_n 0, 1) := by decide +kernel
theorem dX11_bells_13 : decode cX11_bells 13 = .ok (.getfield 13, 3) := by decide +kernel
theorem dX11_bells_16 : decode cX11_bells 16 = .ok (.bipush 14, 2) := by decide +kernel
theorem dX11_bells_18 : decode cX11_bells 18 = .ok (.iaload, 1) := by decide +kernel
theorem dX11_bells_19 : decode cX11_bells 19 = .ok (.ireturn, 1) := by decide +kernel
theorem dX11_widthOf_0 : decode cX11_widthOf 0 = .ok (.aload_n 0, 1) := by decide +kernel
theorem dX11_widthOf_1 : decode cX11_widthOf 1 = .ok (.getfield 22, 3) := by decide +kernel
theorem dX11_widthOf_4 : decode cX11_widthOf 4 = .ok (.iload_n 1, 1) := by decide +kernel
theorem dX11_widthOf_5 : decode cX11_widthOf 5 = .ok (.iaload, 1) := by decide +kernel
theorem dX11_widthOf_6 : decode cX11_widthOf 6 = .ok (.iload_n 1, 1) := by decide +kernel
theorem dX11_widthOf_7 : decode cX11_widthOf 7 = .ok (.aload_n 0, 1) := by decide +kernel
theorem dX11_widthOf_8 : decode cX11_widthOf 8 = .ok (.getfield 111, 3) := by decide +kernel
theorem dX11_widthOf_11 : decode cX11_widthOf 11 = .ok (.if_icmp .ne 10, 3) := by decide +kernel
theorem dX11_widthOf_14 : decode cX11_widthOf 14 = .ok (.aload_n 0, 1) := by decide +kernel
theorem dX11_widthOf_15 : decode cX11_widthOf 15 = .ok (.getfield 114, 3) := by decide +kernel
theorem dX11_widthOf_18 : decode cX11_widthOf 18 = .ok (.goto 4, 3) := by decide +kernel
theorem dX11_widthOf_21 : decode cX11_widthOf 21 = .ok (.iconst 0, 1) := by decide +kernel
theorem dX11_widthOf_22 : decode cX11_widthOf 22 = .ok (.iadd, 1) := by decide +kernel
theorem dX11_widthOf_23 : decode cX11_widthOf 23 = .ok (.ireturn, 1) := by decide +kernel
theorem dX11_spot_0 : decode cX11_spot 0 = .ok (.bipush 16, 2) := by decide +kernel
theorem dX11_spot_2 : decode cX11_spot 2 = .ok (.aload_n 0, 1) := by decide +kernel
theorem dX11_spot_3 : decode cX11_spot 3 = .ok (.getfield 25, 3) := by decide +kernel
theorem dX11_spot_6 : decode cX11_spot 6 = .ok (.iconst 1, 1) := by decide +kernel
theorem dX11_spot_7 : decode cX11_spot 7 = .ok (.iaload, 1) := by decide +kernel
theorem dX11_spot_8 : decode cX11_spot 8 = .ok (.iadd, 1) := by decide +kernel
theorem dX11_spot_9 : decode cX11_spot 9 = .ok (.iload_n 2, 1) := by decide +kernel
theorem dX11_spot_10 : decode cX11_spot 10 = .ok (.iadd, 1) := by decide +kernel
theorem dX11_spot_11 : decode cX11_spot 11 = .ok (.aload_n 0, 1) := by decide +kernel
theorem dX11_spot_12 : decode cX11_spot 12 = .ok (.getfield 25, 3) := by decide +kernel
theorem dX11_spot_15 : decode cX11_spot 15 = .ok (.iconst 0, 1) := by decide +kernel
theorem dX11_spot_16 : decode cX11_spot 16 = .ok (.iaload, 1) := by decide +kernel
theorem dX11_spot_17 : decode cX11_spot 17 = .ok (.isub, 1) := by decide +kernel
theorem dX11_spot_18 : decode cX11_spot 18 = .ok (.iload_n 1, 1) := by decide +kernel
theorem dX11_spot_19 : decode cX11_spot 19 = .ok (.isub, 1) := by decide +kernel
theorem dX11_spot_20 : decode cX11_spot 20 = .ok (.ireturn, 1) := by decide +kernel
set_option maxRecDepth 20000 in
theorem ggX11_doClear_X11_spot : GoodIn wsX11_doClear wsX11_spot := goodIn_r _ [7, 8, 16, 17, 18, 19, 20, 21, 22, 23, 24, 25, 26, 27, 28, 29, 30, 31, 32, 33, 34, 35, 36, 37, 38, 39, 40, 41, 42, 43, 44, 45] (by decide +kernel) (by decide +kernel)
set_option maxRecDepth 20000 in
theorem gX11_doClear_X11_spot : GoodIn wsX11_doClear (wsV RX11 117 RX11 yX11_spot wsX11_spot) := goodIn_app (goodIn_of _ (by decide +kernel)) ggX11_doClear_X11_spot
set_option maxRecDepth 20000 in
theorem ggX11_doClear_X11_widthOf : GoodIn wsX11_doClear wsX11_widthOf := goodIn_r _ [12, 13, 14, 15, 16, 17, 18, 19, 20, 21, 22, 23, 24, 25, 26, 27, 28, 29, 30, 31, 32, 33, 34, 35, 36, 37, 38, 39, 40, 41, 42, 43, 44, 45] (by decide +kernel) (by decide +kernel)
set_option maxRecDepth 20000 in
theorem gX11_doClear_X11_widthOf : GoodIn wsX11_doClear (wsV RX11 120 RX11 yX11_widthOf wsX11_widthOf) := goodIn_app (goodIn_of _ (by decide +kernel)) ggX11_doClear_X11_widthOf
theorem dX11_doClear_0 : decode cX11_doClear 0 = .ok (.aload_n 0, 1) := by decide +kernel
theorem dX11_doClear_1 : decode cX11_doClear 1 = .ok (.iload_n 1, 1) := by decide +kernel
theorem dX11_doClear_2 : decode cX11_doClear 2 = .ok (.iload_n 2, 1) := by decide +kernel
theorem dX11_doClear_3 : decode cX11_doClear 3 = .ok (.invokevirtual 117, 3) := by decide +kernel
theorem dX11_doClear_6 : decode cX11_doClear 6 = .ok (.istore_n 3, 1) := by decide +kernel
theorem dX11_doClear_7 : decode cX11_doClear 7 = .ok (.aload_n 0, 1) := by decide +kernel
theorem dX11_doClear_8 : decode cX11_doClear 8 = .ok (.getfield 16, 3) := by decide +kernel
theorem dX11_doClear_11 : decode cX11_doClear 11 = .ok (.aload_n 0, 1) := by decide +kernel
theorem dX11_doClear_12 : decode cX11_doClear 12 = .ok (.getfield 13, 3) := by decide +kernel
theorem dX11_doClear_15 : decode cX11_doClear 15 = .ok (.iload_n 1, 1) := by decide +kernel
theorem dX11_doClear_16 : decode cX11_doClear 16 = .ok (.iaload, 1) := by decide +kernel
theorem dX11_doClear_17 : decode cX11_doClear 17 = .ok (.iaload, 1) := by decide +kernel
theorem dX11_doClear_18 : decode cX11_doClear 18 = .ok (.aload_n 0, 1) := by decide +kernel
theorem dX11_doClear_19 : decode cX11_doClear 19 = .ok (.getfield 16, 3) := by decide +kernel
theorem dX11_doClear_22 : decode cX11_doClear 22 = .ok (.aload_n 0, 1) := by decide +kernel
theorem dX11_doClear_23 : decode cX11_doClear 23 = .ok (.getfield 13, 3) := by decide +kernel
theorem dX11_doClear_26 : decode cX11_doClear 26 = .ok (.bipush 6, 2) := by decide +kernel
theorem dX11_doClear_28 : decode cX11_doClear 28 = .ok (.iload_n 2, 1) := by decide +kernel
theorem dX11_doClear_29 : decode cX11_doClear 29 = .ok (.iadd, 1) := by decide +kernel
theorem dX11_doClear_30 : decode cX11_doClear 30 = .ok (.iaload, 1) := by decide +kernel
theorem dX11_doClear_31 : decode cX11_doClear 31 = .ok (.iaload, 1) := by decide +kernel
theorem dX11_doClear_32 : decode cX11_doClear 32 = .ok (.iadd, 1) := by decide +kernel
theorem dX11_doClear_33 : decode cX11_doClear 33 = .ok (.istore 4, 2) := by decide +kernel
theorem dX11_doClear_35 : decode cX11_doClear 35 = .ok (.aload_n 0, 1) := by decide +kernel
theorem dX11_doClear_36 : decode cX11_doClear 36 = .ok (.iload_n 3, 1) := by decide +kernel
theorem dX11_doClear_37 : decode cX11_doClear 37 = .ok (.iconst 2, 1) := by decide +kernel
theorem dX11_doClear_38 : decode cX11_doClear 38 = .ok (.idiv, 1) := by decide +kernel
theorem dX11_doClear_39 : decode cX11_doClear 39 = .ok (.invokevirtual 120, 3) := by decide +kernel
theorem dX11_doClear_42 : decode cX11_doClear 42 = .ok (.iload 4, 2) := by decide +kernel
theorem dX11_doClear_44 : decode cX11_doClear 44 = .ok (.if_icmp .lt 21, 3) := by decide +kernel
theorem dX11_doClear_47 : decode cX11_doClear 47 = .ok (.aload_n 0, 1) := by decide +kernel
theorem dX11_doClear_48 : decode cX11_doClear 48 = .ok (.iload_n 3, 1) := by decide +kernel
theorem dX11_doClear_49 : decode cX11_doClear 49 = .ok (.iconst 1, 1) := by decide +kernel
theorem dX11_doClear_50 : decode cX11_doClear 50 = .ok (.iadd, 1) := by decide +kernel
theorem dX11_doClear_51 : decode cX11_doClear 51 = .ok (.iconst 2, 1) := by decide +kernel
theorem dX11_doClear_52 : decode cX11_doClear 52 = .ok (.idiv, 1) := by decide +kernel
theorem dX11_doClear_53 : decode cX11_doClear 53 = .ok (.invokevirtual 120, 3) := by decide +kernel
theorem dX11_doClear_56 : decode cX11_doClear 56 = .ok (.iload 4, 2) := by decide +kernel
theorem dX11_doClear_58 : decode cX11_doClear 58 = .ok (.if_icmp .lt 7, 3) := by decide +kernel
theorem dX11_doClear_61 : decode cX11_doClear 61 = .ok (.iconst 1, 1) := by decide +kernel
theorem dX11_doClear_62 : decode cX11_doClear 62 = .ok (.goto 4, 3) := by decide +kernel
theorem dX11_doClear_65 : decode cX11_doClear 65 = .ok (.iconst 0, 1) := by decide +kernel
theorem dX11_doClear_66 : decode cX11_doClear 66 = .ok (.ireturn, 1) := by decide +kernel
set_option maxRecDepth 20000 in
theorem ggX11_layMeetings_X11_in : GoodIn wsX11_layMeetings wsX11_in := goodIn_r _ [9] (by decide +kernel) (by decide +kernel)
set_option maxRecDepth 20000 in
theorem gX11_layMeetings_X11_in : GoodIn wsX11_layMeetings (va_wsS RX11 57 yX11_in wsX11_in) := goodIn_app (goodIn_of _ (by decide +kernel)) ggX11_layMeetings_X11_in
set_option maxRecDepth 20000 in
theorem ggX11_layMeetings_X11_spot : GoodIn wsX11_layMeetings wsX11_spot := goodIn_r _ [13, 14, 27, 28, 29, 30, 31, 32, 33, 34, 35, 36, 37, 38, 39, 40, 41, 42, 43, 44, 45, 46, 47, 48, 49, 50, 51, 52, 53, 54, 55, 56] (by decide +kernel) (by decide +kernel)
set_option maxRecDepth 20000 in
theorem gX11_layMeetings_X11_spot : GoodIn wsX11_layMeetings (wsV RX11 117 RX11 yX11_spot wsX11_spot) := goodIn_app (goodIn_of _ (by decide +kernel)) ggX11_layMeetings_X11_spot
set_option maxRecDepth 20000 in
theorem ggX11_layMeetings_X11_doClear : GoodIn wsX11_layMeetings wsX11_doClear := goodIn_r _ [18, 19, 5, 10, 11, 12, 8, 13, 14, 20, 21, 22, 23, 24, 25, 26, 27, 28, 29, 30, 31, 32, 33, 34, 35, 36, 37, 38, 39, 40, 41, 42, 43, 44, 45, 46, 47, 48, 49, 50, 51, 52, 53, 54, 55, 56] (by decide +kernel) (by decide +kernel)
set_option maxRecDepth 20000 in
theorem gX11_layMeetings_X11_doClear : GoodIn wsX11_layMeetings (wsV RX11 135 RX11 yX11_doClear wsX11_doClear) := goodIn_app (goodIn_of _ (by decide +kernel)) ggX11_layMeetings_X11_doClear
theorem dX11_layMeetings_0 : decode cX11_layMeetings 0 = .ok (.aload_n 0, 1) := by decide +kernel
theorem dX11_layMeetings_1 : decode cX11_layMeetings 1 = .ok (.iconst 0, 1) := by decide +kernel
theorem dX11_layMeetings_2 : decode cX11_layMeetings 2 = .ok (.putfield 123, 3) := by decide +kernel
theorem dX11_layMeetings_5 : decode cX11_layMeetings 5 = .ok (.aload_n 0, 1) := by decide +kernel
theorem dX11_layMeetings_6 : decode cX11_layMeetings 6 = .ok (.iconst 0, 1) := by decide +kernel
theorem dX11_layMeetings_7 : decode cX11_layMeetings 7 = .ok (.putfield 126, 3) := by decide +kernel
theorem dX11_layMeetings_10 : decode cX11_layMeetings 10 = .ok (.aload_n 0, 1) := by decide +kernel
theorem dX11_layMeetings_11 : decode cX11_layMeetings 11 = .ok (.bipush (-6), 2) := by decide +kernel
theorem dX11_layMeetings_13 : decode cX11_layMeetings 13 = .ok (.putfield 129, 3) := by decide +kernel
theorem dX11_layMeetings_16 : decode cX11_layMeetings 16 = .ok (.aload_n 0, 1) := by decide +kernel
theorem dX11_layMeetings_17 : decode cX11_layMeetings 17 = .ok (.bipush (-6), 2) := by decide +kernel
theorem dX11_layMeetings_19 : decode cX11_layMeetings 19 = .ok (.putfield 132, 3) := by decide +kernel
theorem dX11_layMeetings_22 : decode cX11_layMeetings 22 = .ok (.iconst 0, 1) := by decide +kernel
theorem dX11_layMeetings_23 : decode cX11_layMeetings 23 = .ok (.istore_n 1, 1) := by decide +kernel
theorem dX11_layMeetings_24 : decode cX11_layMeetings 24 = .ok (.iload_n 1, 1) := by decide +kernel
theorem dX11_layMeetings_25 : decode cX11_layMeetings 25 = .ok (.bipush 11, 2) := by decide +kernel
theorem dX11_layMeetings_27 : decode cX11_layMeetings 27 = .ok (.if_icmp .ge 154, 3) := by decide +kernel
theorem dX11_layMeetings_30 : decode cX11_layMeetings 30 = .ok (.iconst 0, 1) := by decide +kernel
theorem dX11_layMeetings_31 : decode cX11_layMeetings 31 = .ok (.istore_n 2, 1) := by decide +kernel
theorem dX11_layMeetings_32 : decode cX11_layMeetings 32 = .ok (.iload_n 2, 1) := by decide +kernel
theorem dX11_layMeetings_33 : decode cX11_layMeetings 33 = .ok (.aload_n 0, 1) := by decide +kernel
theorem dX11_layMeetings_34 : decode cX11_layMeetings 34 = .ok (.getfield 13, 3) := by decide +kernel
theorem dX11_layMeetings_37 : decode cX11_layMeetings 37 = .ok (.bipush 12, 2) := by decide +kernel
theorem dX11_layMeetings_39 : decode cX11_layMeetings 39 = .ok (.iaload, 1) := by decide +kernel
theorem dX11_layMeetings_40 : decode cX11_layMeetings 40 = .ok (.if_icmp .ge 135, 3) := by decide +kernel
theorem dX11_layMeetings_43 : decode cX11_layMeetings 43 = .ok (.iload_n 1, 1) := by decide +kernel
theorem dX11_layMeetings_44 : decode cX11_layMeetings 44 = .ok (.iload_n 2, 1) := by decide +kernel
theorem dX11_layMeetings_45 : decode cX11_layMeetings 45 = .ok (.isub, 1) := by decide +kernel
theorem dX11_layMeetings_46 : decode cX11_layMeetings 46 = .ok (.istore_n 3, 1) := by decide +kernel
theorem dX11_layMeetings_47 : decode cX11_layMeetings 47 = .ok (.iload_n 3, 1) := by decide +kernel
theorem dX11_layMeetings_48 : decode cX11_layMeetings 48 = .ok (.iconst 0, 1) := by decide +kernel
theorem dX11_layMeetings_49 : decode cX11_layMeetings 49 = .ok (.aload_n 0, 1) := by decide +kernel
theorem dX11_layMeetings_50 : decode cX11_layMeetings 50 = .ok (.getfield 13, 3) := by decide +kernel
theorem dX11_layMeetings_53 : decode cX11_layMeetings 53 = .ok (.bipush 13, 2) := by decide +kernel
theorem dX11_layMeetings_55 : decode cX11_layMeetings 55 = .ok (.iaload, 1) := by decide +kernel
theorem dX11_layMeetings_56 : decode cX11_layMeetings 56 = .ok (.iconst 1, 1) := by decide +kernel
theorem dX11_layMeetings_57 : decode cX11_layMeetings 57 = .ok (.isub, 1) := by decide +kernel
theorem dX11_layMeetings_58 : decode cX11_layMeetings 58 = .ok (.invokestatic 57, 3) := by decide +kernel
theorem dX11_layMeetings_61 : decode cX11_layMeetings 61 = .ok (.ifCond .eq 108, 3) := by decide +kernel
theorem dX11_layMeetings_64 : decode cX11_layMeetings 64 = .ok (.aload_n 0, 1) := by decide +kernel
theorem dX11_layMeetings_65 : decode cX11_layMeetings 65 = .ok (.iload_n 2, 1) := by decide +kernel
theorem dX11_layMeetings_66 : decode cX11_layMeetings 66 = .ok (.iload_n 3, 1) := by decide +kernel
theorem dX11_layMeetings_67 : decode cX11_layMeetings 67 = .ok (.invokevirtual 117, 3) := by decide +kernel
theorem dX11_layMeetings_70 : decode cX11_layMeetings 70 = .ok (.iconst 0, 1) := by decide +kernel
theorem dX11_layMeetings_71 : decode cX11_layMeetings 71 = .ok (.bipush 32, 2) := by decide +kernel
theorem dX11_layMeetings_73 : decode cX11_layMeetings 73 = .ok (.invokestatic 57, 3) := by decide +kernel
theorem dX11_layMeetings_76 : decode cX11_layMeetings 76 = .ok (.ifCond .eq 93, 3) := by decide +kernel
theorem dX11_layMeetings_79 : decode cX11_layMeetings 79 = .ok (.aload_n 0, 1) := by decide +kernel
theorem dX11_layMeetings_80 : decode cX11_layMeetings 80 = .ok (.dup, 1) := by decide +kernel
theorem dX11_layMeetings_81 : decode cX11_layMeetings 81 = .ok (.getfield 123, 3) := by decide +kernel
theorem dX11_layMeetings_84 : decode cX11_layMeetings 84 = .ok (.iconst 1, 1) := by decide +kernel
theorem dX11_layMeetings_85 : decode cX11_layMeetings 85 = .ok (.iadd, 1) := by decide +kernel
theorem dX11_layMeetings_86 : decode cX11_layMeetings 86 = .ok (.putfield 123, 3) := by decide +kernel
theorem dX11_layMeetings_89 : decode cX11_layMeetings 89 = .ok (.aload_n 0, 1) := by decide +kernel
theorem dX11_layMeetings_90 : decode cX11_layMeetings 90 = .ok (.iload_n 2, 1) := by decide +kernel
theorem dX11_layMeetings_91 : decode cX11_layMeetings 91 = .ok (.iload_n 3, 1) := by decide +kernel
theorem dX11_layMeetings_92 : decode cX11_layMeetings 92 = .ok (.invokevirtual 135, 3) := by decide +kernel
theorem dX11_layMeetings_95 : decode cX11_layMeetings 95 = .ok (.ifCond .ne 74, 3) := by decide +kernel
theorem dX11_layMeetings_98 : decode cX11_layMeetings 98 = .ok (.aload_n 0, 1) := by decide +kernel
theorem dX11_layMeetings_99 : decode cX11_layMeetings 99 = .ok (.aload_n 0, 1) := by decide +kernel
theorem dX11_layMeetings_100 : decode cX11_layMeetings 100 = .ok (.getfield 126, 3) := by decide +kernel
theorem dX11_layMeetings_103 : decode cX11_layMeetings 103 = .ok (.ifCond .ne 25, 3) := by decide +kernel
theorem dX11_layMeetings_106 : decode cX11_layMeetings 106 = .ok (.bipush 10, 2) := by decide +kernel
theorem dX11_layMeetings_108 : decode cX11_layMeetings 108 = .ok (.aload_n 0, 1) := by decide +kernel
theorem dX11_layMeetings_109 : decode cX11_layMeetings 109 = .ok (.getfield 13, 3) := by decide +kernel
theorem dX11_layMeetings_112 : decode cX11_layMeetings 112 = .ok (.iload_n 2, 1) := by decide +kernel
theorem dX11_layMeetings_113 : decode cX11_layMeetings 113 = .ok (.iaload, 1) := by decide +kernel
theorem dX11_layMeetings_114 : decode cX11_layMeetings 114 = .ok (.imul, 1) := by decide +kernel
theorem dX11_layMeetings_115 : decode cX11_layMeetings 115 = .ok (.aload_n 0, 1) := by decide +kernel
theorem dX11_layMeetings_116 : decode cX11_layMeetings 116 = .ok (.getfield 13, 3) := by decide +kernel
theorem dX11_layMeetings_119 : decode cX11_layMeetings 119 = .ok (.bipush 6, 2) := by decide +kernel
theorem dX11_layMeetings_121 : decode cX11_layMeetings 121 = .ok (.iload_n 3, 1) := by decide +kernel
theorem dX11_layMeetings_122 : decode cX11_layMeetings 122 = .ok (.iadd, 1) := by decide +kernel
theorem dX11_layMeetings_123 : decode cX11_layMeetings 123 = .ok (.iaload, 1) := by decide +kernel
theorem dX11_layMeetings_124 : decode cX11_layMeetings 124 = .ok (.iadd, 1) := by decide +kernel
theorem dX11_layMeetings_125 : decode cX11_layMeetings 125 = .ok (.goto 7, 3) := by decide +kernel
theorem dX11_layMeetings_128 : decode cX11_layMeetings 128 = .ok (.aload_n 0, 1) := by decide +kernel
theorem dX11_layMeetings_129 : decode cX11_layMeetings 129 = .ok (.getfield 129, 3) := by decide +kernel
theorem dX11_layMeetings_132 : decode cX11_layMeetings 132 = .ok (.putfield 129, 3) := by decide +kernel
theorem dX11_layMeetings_135 : decode cX11_layMeetings 135 = .ok (.aload_n 0, 1) := by decide +kernel
theorem dX11_layMeetings_136 : decode cX11_layMeetings 136 = .ok (.aload_n 0, 1) := by decide +kernel
theorem dX11_layMeetings_137 : decode cX11_layMeetings 137 = .ok (.getfield 126, 3) := by decide +kernel
theorem dX11_layMeetings_140 : decode cX11_layMeetings 140 = .ok (.ifCond .ne 12, 3) := by decide +kernel
theorem dX11_layMeetings_143 : decode cX11_layMeetings 143 = .ok (.aload_n 0, 1) := by decide +kernel
theorem dX11_layMeetings_144 : decode cX11_layMeetings 144 = .ok (.iload_n 2, 1) := by decide +kernel
theorem dX11_layMeetings_145 : decode cX11_layMeetings 145 = .ok (.iload_n 3, 1) := by decide +kernel
theorem dX11_layMeetings_146 : decode cX11_layMeetings 146 = .ok (.invokevirtual 117, 3) := by decide +kernel
theorem dX11_layMeetings_149 : decode cX11_layMeetings 149 = .ok (.goto 7, 3) := by decide +kernel
theorem dX11_layMeetings_152 : decode cX11_layMeetings 152 = .ok (.aload_n 0, 1) := by decide +kernel
theorem dX11_layMeetings_153 : decode cX11_layMeetings 153 = .ok (.getfield 132, 3) := by decide +kernel
theorem dX11_layMeetings_156 : decode cX11_layMeetings 156 = .ok (.putfield 132, 3) := by decide +kernel
theorem dX11_layMeetings_159 : decode cX11_layMeetings 159 = .ok (.aload_n 0, 1) := by decide +kernel
theorem dX11_layMeetings_160 : decode cX11_layMeetings 160 = .ok (.dup, 1) := by decide +kernel
theorem dX11_layMeetings_161 : decode cX11_layMeetings 161 = .ok (.getfield 126, 3) := by decide +kernel
theorem dX11_layMeetings_164 : decode cX11_layMeetings 164 = .ok (.iconst 1, 1) := by decide +kernel
theorem dX11_layMeetings_165 : decode cX11_layMeetings 165 = .ok (.iadd, 1) := by decide +kernel
theorem dX11_layMeetings_166 : decode cX11_layMeetings 166 = .ok (.putfield 126, 3) := by decide +kernel
theorem dX11_layMeetings_169 : decode cX11_layMeetings 169 = .ok (.iinc 2 1, 3) := by decide +kernel
theorem dX11_layMeetings_172 : decode cX11_layMeetings 172 = .ok (.goto (-140), 3) := by decide +kernel
theorem dX11_layMeetings_175 : decode cX11_layMeetings 175 = .ok (.iinc 1 1, 3) := by decide +kernel
theorem dX11_layMeetings_178 : decode cX11_layMeetings 178 = .ok (.goto (-154), 3) := by decide +kernel
theorem dX11_layMeetings_181 : decode cX11_layMeetings 181 = .ok (.return_, 1) := by decide +kernel
set_option maxRecDepth 20000 in
theorem ggX11_plain_X11_asNow : GoodIn wsX11_plain wsX11_asNow := goodIn_r _ [7, 8, 9, 10, 11, 12, 13, 14, 15, 16, 17, 18, 19, 20, 21, 22, 23, 24, 25, 26, 27, 28, 29, 30, 31, 32, 33, 34, 35, 36, 37, 38, 39] (by decide +kernel) (by decide +kernel)
set_option maxRecDepth 20000 in
theorem gX11_plain_X11_asNow : GoodIn wsX11_plain (wsV RX11 83 RX11 yX11_asNow wsX11_asNow) := goodIn_app (goodIn_of _ (by decide +kernel)) ggX11_plain_X11_asNow
theorem dX11_plain_0 : decode cX11_plain 0 = .ok (.aload_n 0, 1) := by decide +kernel
theorem dX11_plain_1 : decode cX11_plain 1 = .ok (.invokevirtual 83, 3) := by decide +kernel
theorem dX11_plain_4 : decode cX11_plain 4 = .ok (.aload_n 0, 1) := by decide +kernel
theorem dX11_plain_5 : decode cX11_plain 5 = .ok (.bipush (-6), 2) := by decide +kernel
theorem dX11_plain_7 : decode cX11_plain 7 = .ok (.putfield 111, 3) := by decide +kernel
theorem dX11_plain_10 : decode cX11_plain 10 = .ok (.aload_n 0, 1) := by decide +kernel
theorem dX11_plain_11 : decode cX11_plain 11 = .ok (.iconst 0, 1) := by decide +kernel
theorem dX11_plain_12 : decode cX11_plain 12 = .ok (.putfield 114, 3) := by decide +kernel
theorem dX11_plain_15 : decode cX11_plain 15 = .ok (.return_, 1) := by decide +kernel
set_option maxRecDepth 20000 in
theorem ggX11_meets_X11_in : GoodIn wsX11_meets wsX11_in := goodIn_r _ [8] (by decide +kernel) (by decide +kernel)
set_option maxRecDepth 20000 in
theorem gX11_meets_X11_in : GoodIn wsX11_meets (va_wsS RX11 57 yX11_in wsX11_in) := goodIn_app (goodIn_of _ (by decide +kernel)) ggX11_meets_X11_in
set_option maxRecDepth 20000 in
theorem ggX11_meets_X11_plain : GoodIn wsX11_meets wsX11_plain := goodIn_r _ [12, 13, 14, 15, 16, 17, 7, 18, 19, 20, 40, 41, 42, 43, 44, 45, 46, 47, 48, 49, 50, 51, 52, 53, 54, 55, 56, 57, 58, 59, 60, 61, 62, 63, 64, 65, 66, 67, 68, 69] (by decide +kernel) (by decide +kernel)
set_option maxRecDepth 20000 in
theorem gX11_meets_X11_plain : GoodIn wsX11_meets (wsV RX11 139 RX11 yX11_plain wsX11_plain) := goodIn_app (goodIn_of _ (by decide +kernel)) ggX11_meets_X11_plain
set_option maxRecDepth 20000 in
theorem ggX11_meets_X11_layMeetings : GoodIn wsX11_meets wsX11_layMeetings := goodIn_r _ [24, 1, 2, 3, 4, 19, 5, 6, 7, 8, 25, 26, 27, 28, 29, 30, 31, 32, 33, 34, 35, 36, 37, 38, 39, 13, 14, 40, 41, 42, 43, 44, 45, 46, 47, 48, 49, 50, 51, 52, 53, 54, 55, 56, 57, 58, 59, 60, 61, 62, 63, 64, 65, 66, 67, 68, 69] (by decide +kernel) (by decide +kernel)
set_option maxRecDepth 20000 in
theorem gX11_meets_X11_layMeetings : GoodIn wsX11_meets (wsV RX11 142 RX11 yX11_layMeetings wsX11_layMeetings) := goodIn_app (goodIn_of _ (by decide +kernel)) ggX11_meets_X11_layMeetings
theorem dX11_meets_0 : decode cX11_meets 0 = .ok (.iload_n 1, 1) := by decide +kernel
theorem dX11_meets_1 : decode cX11_meets 1 = .ok (.iconst 0, 1) := by decide +kernel
theorem dX11_meets_2 : decode cX11_meets 2 = .ok (.iconst 3, 1) := by decide +kernel
theorem dX11_meets_3 : decode cX11_meets 3 = .ok (.invokestatic 57, 3) := by decide +kernel
theorem dX11_meets_6 : decode cX11_meets 6 = .ok (.ifCond .ne 6, 3) := by decide +kernel
theorem dX11_meets_9 : decode cX11_meets 9 = .ok (.bipush (-2), 2) := by decide +kernel
theorem dX11_meets_11 : decode cX11_meets 11 = .ok (.ireturn, 1) := by decide +kernel
theorem dX11_meets_12 : decode cX11_meets 12 = .ok (.aload_n 0, 1) := by decide +kernel
theorem dX11_meets_13 : decode cX11_meets 13 = .ok (.invokevirtual 139, 3) := by decide +kernel
theorem dX11_meets_16 : decode cX11_meets 16 = .ok (.aload_n 0, 1) := by decide +kernel
theorem dX11_meets_17 : decode cX11_meets 17 = .ok (.invokevirtual 142, 3) := by decide +kernel
theorem dX11_meets_20 : decode cX11_meets 20 = .ok (.iload_n 1, 1) := by decide +kernel
theorem dX11_meets_21 : decode cX11_meets 21 = .ok (.ifCond .ne 10, 3) := by decide +kernel
theorem dX11_meets_24 : decode cX11_meets 24 = .ok (.aload_n 0, 1) := by decide +kernel
theorem dX11_meets_25 : decode cX11_meets 25 = .ok (.getfield 123, 3) := by decide +kernel
theorem dX11_meets_28 : decode cX11_meets 28 = .ok (.goto 31, 3) := by decide +kernel
theorem dX11_meets_31 : decode cX11_meets 31 = .ok (.iload_n 1, 1) := by decide +kernel
theorem dX11_meets_32 : decode cX11_meets 32 = .ok (.iconst 1, 1) := by decide +kernel
theorem dX11_meets_33 : decode cX11_meets 33 = .ok (.if_icmp .ne 10, 3) := by decide +kernel
theorem dX11_meets_36 : decode cX11_meets 36 = .ok (.aload_n 0, 1) := by decide +kernel
theorem dX11_meets_37 : decode cX11_meets 37 = .ok (.getfield 126, 3) := by decide +kernel
theorem dX11_meets_40 : decode cX11_meets 40 = .ok (.goto 19, 3) := by decide +kernel
theorem dX11_meets_43 : decode cX11_meets 43 = .ok (.iload_n 1, 1) := by decide +kernel
theorem dX11_meets_44 : decode cX11_meets 44 = .ok (.iconst 2, 1) := by decide +kernel
theorem dX11_meets_45 : decode cX11_meets 45 = .ok (.if_icmp .ne 10, 3) := by decide +kernel
theorem dX11_meets_48 : decode cX11_meets 48 = .ok (.aload_n 0, 1) := by decide +kernel
theorem dX11_meets_49 : decode cX11_meets 49 = .ok (.getfield 129, 3) := by decide +kernel
theorem dX11_meets_52 : decode cX11_meets 52 = .ok (.goto 7, 3) := by decide +kernel
theorem dX11_meets_55 : decode cX11_meets 55 = .ok (.aload_n 0, 1) := by decide +kernel
theorem dX11_meets_56 : decode cX11_meets 56 = .ok (.getfield 132, 3) := by decide +kernel
theorem dX11_meets_59 : decode cX11_meets 59 = .ok (.ireturn, 1) := by decide +kernel
theorem dX11_runs_0 : decode cX11_runs 0 = .ok (.iconst 0, 1) := by decide +kernel
theorem dX11_runs_1 : decode cX11_runs 1 = .ok (.istore_n 1, 1) := by decide +kernel
theorem dX11_runs_2 : decode cX11_runs 2 = .ok (.iconst 0, 1) := by decide +kernel
theorem dX11_runs_3 : decode cX11_runs 3 = .ok (.istore_n 2, 1) := by decide +kernel
theorem dX11_runs_4 : decode cX11_runs 4 = .ok (.iload_n 2, 1) := by decide +kernel
theorem dX11_runs_5 : decode cX11_runs 5 = .ok (.iconst 2, 1) := by decide +kernel
theorem dX11_runs_6 : decode cX11_runs 6 = .ok (.if_icmp .ge 56, 3) := by decide +kernel
theorem dX11_runs_9 : decode cX11_runs 9 = .ok (.aload_n 0, 1) := by decide +kernel
theorem dX11_runs_10 : decode cX11_runs 10 = .ok (.getfield 7, 3) := by decide +kernel
theorem dX11_runs_13 : decode cX11_runs 13 = .ok (.bipush 12, 2) := by decide +kernel
theorem dX11_runs_15 : decode cX11_runs 15 = .ok (.iload_n 2, 1) := by decide +kernel
theorem dX11_runs_16 : decode cX11_runs 16 = .ok (.iadd, 1) := by decide +kernel
theorem dX11_runs_17 : decode cX11_runs 17 = .ok (.iaload, 1) := by decide +kernel
theorem dX11_runs_18 : decode cX11_runs 18 = .ok (.ifCond .ne 7, 3) := by decide +kernel
theorem dX11_runs_21 : decode cX11_runs 21 = .ok (.iconst 0, 1) := by decide +kernel
theorem dX11_runs_22 : decode cX11_runs 22 = .ok (.goto 22, 3) := by decide +kernel
theorem dX11_runs_25 : decode cX11_runs 25 = .ok (.aload_n 0, 1) := by decide +kernel
theorem dX11_runs_26 : decode cX11_runs 26 = .ok (.getfield 25, 3) := by decide +kernel
theorem dX11_runs_29 : decode cX11_runs 29 = .ok (.iload_n 2, 1) := by decide +kernel
theorem dX11_runs_30 : decode cX11_runs 30 = .ok (.iaload, 1) := by decide +kernel
theorem dX11_runs_31 : decode cX11_runs 31 = .ok (.aload_n 0, 1) := by decide +kernel
theorem dX11_runs_32 : decode cX11_runs 32 = .ok (.getfield 7, 3) := by decide +kernel
theorem dX11_runs_35 : decode cX11_runs 35 = .ok (.bipush 12, 2) := by decide +kernel
theorem dX11_runs_37 : decode cX11_runs 37 = .ok (.iload_n 2, 1) := by decide +kernel
theorem dX11_runs_38 : decode cX11_runs 38 = .ok (.iadd, 1) := by decide +kernel
theorem dX11_runs_39 : decode cX11_runs 39 = .ok (.iaload, 1) := by decide +kernel
theorem dX11_runs_40 : decode cX11_runs 40 = .ok (.iadd, 1) := by decide +kernel
theorem dX11_runs_41 : decode cX11_runs 41 = .ok (.bipush 16, 2) := by decide +kernel
theorem dX11_runs_43 : decode cX11_runs 43 = .ok (.iadd, 1) := by decide +kernel
theorem dX11_runs_44 : decode cX11_runs 44 = .ok (.istore_n 3, 1) := by decide +kernel
theorem dX11_runs_45 : decode cX11_runs 45 = .ok (.iload_n 3, 1) := by decide +kernel
theorem dX11_runs_46 : decode cX11_runs 46 = .ok (.iload_n 1, 1) := by decide +kernel
theorem dX11_runs_47 : decode cX11_runs 47 = .ok (.if_icmp .le 7, 3) := by decide +kernel
theorem dX11_runs_50 : decode cX11_runs 50 = .ok (.iload_n 3, 1) := by decide +kernel
theorem dX11_runs_51 : decode cX11_runs 51 = .ok (.goto 4, 3) := by decide +kernel
theorem dX11_runs_54 : decode cX11_runs 54 = .ok (.iload_n 1, 1) := by decide +kernel
theorem dX11_runs_55 : decode cX11_runs 55 = .ok (.istore_n 1, 1) := by decide +kernel
theorem dX11_runs_56 : decode cX11_runs 56 = .ok (.iinc 2 1, 3) := by decide +kernel
theorem dX11_runs_59 : decode cX11_runs 59 = .ok (.goto (-55), 3) := by decide +kernel
theorem dX11_runs_62 : decode cX11_runs 62 = .ok (.iload_n 1, 1) := by decide +kernel
theorem dX11_runs_63 : decode cX11_runs 63 = .ok (.ireturn, 1) := by decide +kernel
set_option maxRecDepth 20000 in
theorem ggX11_keepsRules_X11_spotOf : GoodIn wsX11_keepsRules wsX11_spotOf := goodIn_r _ [8, 9, 10, 11, 12, 13, 14, 15, 16, 17, 18, 19, 20, 21, 22, 23, 24, 25, 26, 27, 28, 29, 30, 31, 32, 33, 34, 35, 36, 37, 38, 39] (by decide +kernel) (by decide +kernel)
set_option maxRecDepth 20000 in
theorem gX11_keepsRules_X11_spotOf : GoodIn wsX11_keepsRules (wsV RX11 79 RX11 yX11_spotOf wsX11_spotOf) := goodIn_app (goodIn_of _ (by decide +kernel)) ggX11_keepsRules_X11_spotOf
theorem dX11_keepsRules_0 : decode cX11_keepsRules 0 = .ok (.iconst 1, 1) := by decide +kernel
theorem dX11_keepsRules_1 : decode cX11_keepsRules 1 = .ok (.istore_n 2, 1) := by decide +kernel
theorem dX11_keepsRules_2 : decode cX11_keepsRules 2 = .ok (.iconst 0, 1) := by decide +kernel
theorem dX11_keepsRules_3 : decode cX11_keepsRules 3 = .ok (.istore_n 3, 1) := by decide +kernel
theorem dX11_keepsRules_4 : decode cX11_keepsRules 4 = .ok (.iload_n 3, 1) := by decide +kernel
theorem dX11_keepsRules_5 : decode cX11_keepsRules 5 = .ok (.aload_n 0, 1) := by decide +kernel
theorem dX11_keepsRules_6 : decode cX11_keepsRules 6 = .ok (.getfield 145, 3) := by decide +kernel
theorem dX11_keepsRules_9 : decode cX11_keepsRules 9 = .ok (.if_icmp .ge 78, 3) := by decide +kernel
theorem dX11_keepsRules_12 : decode cX11_keepsRules 12 = .ok (.aload_n 0, 1) := by decide +kernel
theorem dX11_keepsRules_13 : decode cX11_keepsRules 13 = .ok (.aload_n 0, 1) := by decide +kernel
theorem dX11_keepsRules_14 : decode cX11_keepsRules 14 = .ok (.getfield 28, 3) := by decide +kernel
theorem dX11_keepsRules_17 : decode cX11_keepsRules 17 = .ok (.iload_n 3, 1) := by decide +kernel
theorem dX11_keepsRules_18 : decode cX11_keepsRules 18 = .ok (.iaload, 1) := by decide +kernel
theorem dX11_keepsRules_19 : decode cX11_keepsRules 19 = .ok (.invokevirtual 79, 3) := by decide +kernel
theorem dX11_keepsRules_22 : decode cX11_keepsRules 22 = .ok (.istore 4, 2) := by decide +kernel
theorem dX11_keepsRules_24 : decode cX11_keepsRules 24 = .ok (.aload_n 0, 1) := by decide +kernel
theorem dX11_keepsRules_25 : decode cX11_keepsRules 25 = .ok (.aload_n 0, 1) := by decide +kernel
theorem dX11_keepsRules_26 : decode cX11_keepsRules 26 = .ok (.getfield 31, 3) := by decide +kernel
theorem dX11_keepsRules_29 : decode cX11_keepsRules 29 = .ok (.iload_n 3, 1) := by decide +kernel
theorem dX11_keepsRules_30 : decode cX11_keepsRules 30 = .ok (.iaload, 1) := by decide +kernel
theorem dX11_keepsRules_31 : decode cX11_keepsRules 31 = .ok (.invokevirtual 79, 3) := by decide +kernel
theorem dX11_keepsRules_34 : decode cX11_keepsRules 34 = .ok (.istore 5, 2) := by decide +kernel
theorem dX11_keepsRules_36 : decode cX11_keepsRules 36 = .ok (.iload_n 2, 1) := by decide +kernel
theorem dX11_keepsRules_37 : decode cX11_keepsRules 37 = .ok (.ifCond .eq 42, 3) := by decide +kernel
theorem dX11_keepsRules_40 : decode cX11_keepsRules 40 = .ok (.iload 4, 2) := by decide +kernel
theorem dX11_keepsRules_42 : decode cX11_keepsRules 42 = .ok (.ifCond .lt 33, 3) := by decide +kernel
theorem dX11_keepsRules_45 : decode cX11_keepsRules 45 = .ok (.iload 5, 2) := by decide +kernel
theorem dX11_keepsRules_47 : decode cX11_keepsRules 47 = .ok (.ifCond .lt 28, 3) := by decide +kernel
theorem dX11_keepsRules_50 : decode cX11_keepsRules 50 = .ok (.iload 4, 2) := by decide +kernel
theorem dX11_keepsRules_52 : decode cX11_keepsRules 52 = .ok (.bipush 6, 2) := by decide +kernel
theorem dX11_keepsRules_54 : decode cX11_keepsRules 54 = .ok (.idiv, 1) := by decide +kernel
theorem dX11_keepsRules_55 : decode cX11_keepsRules 55 = .ok (.iload_n 1, 1) := by decide +kernel
theorem dX11_keepsRules_56 : decode cX11_keepsRules 56 = .ok (.if_icmp .ne 19, 3) := by decide +kernel
theorem dX11_keepsRules_59 : decode cX11_keepsRules 59 = .ok (.iload 5, 2) := by decide +kernel
theorem dX11_keepsRules_61 : decode cX11_keepsRules 61 = .ok (.bipush 6, 2) := by decide +kernel
theorem dX11_keepsRules_63 : decode cX11_keepsRules 63 = .ok (.idiv, 1) := by decide +kernel
theorem dX11_keepsRules_64 : decode cX11_keepsRules 64 = .ok (.iload_n 1, 1) := by decide +kernel
theorem dX11_keepsRules_65 : decode cX11_keepsRules 65 = .ok (.if_icmp .ne 10, 3) := by decide +kernel
theorem dX11_keepsRules_68 : decode cX11_keepsRules 68 = .ok (.iload 4, 2) := by decide +kernel
theorem dX11_keepsRules_70 : decode cX11_keepsRules 70 = .ok (.iload 5, 2) := by decide +kernel
theorem dX11_keepsRules_72 : decode cX11_keepsRules 72 = .ok (.if_icmp .gt 7, 3) := by decide +kernel
theorem dX11_keepsRules_75 : decode cX11_keepsRules 75 = .ok (.iconst 1, 1) := by decide +kernel
theorem dX11_keepsRules_76 : decode cX11_keepsRules 76 = .ok (.goto 4, 3) := by decide +kernel
theorem dX11_keepsRules_79 : decode cX11_keepsRules 79 = .ok (.iconst 0, 1) := by decide +kernel
theorem dX11_keepsRules_80 : decode cX11_keepsRules 80 = .ok (.istore_n 2, 1) := by decide +kernel
theorem dX11_keepsRules_81 : decode cX11_keepsRules 81 = .ok (.iinc 3 1, 3) := by decide +kernel
theorem dX11_keepsRules_84 : decode cX11_keepsRules 84 = .ok (.goto (-80), 3) := by decide +kernel
theorem dX11_keepsRules_87 : decode cX11_keepsRules 87 = .ok (.iload_n 2, 1) := by decide +kernel
theorem dX11_keepsRules_88 : decode cX11_keepsRules 88 = .ok (.ireturn, 1) := by decide +kernel
set_option maxRecDepth 20000 in
theorem ggX11_layRow_X11_bits : GoodIn wsX11_layRow wsX11_bits := goodIn_r _ [6] (by decide +kernel) (by decide +kernel)
set_option maxRecDepth 20000 in
theorem gX11_layRow_X11_bits : GoodIn wsX11_layRow (va_wsS RX11 148 yX11_bits wsX11_bits) := goodIn_app (goodIn_of _ (by decide +kernel)) ggX11_layRow_X11_bits
theorem dX11_layRow_0 : decode cX11_layRow 0 = .ok (.aload_n 0, 1) := by decide +kernel
theorem dX11_layRow_1 : decode cX11_layRow 1 = .ok (.getfield 7, 3) := by decide +kernel
theorem dX11_layRow_4 : decode cX11_layRow 4 = .ok (.bipush 12, 2) := by decide +kernel
theorem dX11_layRow_6 : decode cX11_layRow 6 = .ok (.iload_n 1, 1) := by decide +kernel
theorem dX11_layRow_7 : decode cX11_layRow 7 = .ok (.iadd, 1) := by decide +kernel
theorem dX11_layRow_8 : decode cX11_layRow 8 = .ok (.iaload, 1) := by decide +kernel
theorem dX11_layRow_9 : decode cX11_layRow 9 = .ok (.istore_n 3, 1) := by decide +kernel
theorem dX11_layRow_10 : decode cX11_layRow 10 = .ok (.iload_n 2, 1) := by decide +kernel
theorem dX11_layRow_11 : decode cX11_layRow 11 = .ok (.istore 4, 2) := by decide +kernel
theorem dX11_layRow_13 : decode cX11_layRow 13 = .ok (.iconst 0, 1) := by decide +kernel
theorem dX11_layRow_14 : decode cX11_layRow 14 = .ok (.istore 5, 2) := by decide +kernel
theorem dX11_layRow_16 : decode cX11_layRow 16 = .ok (.iload_n 3, 1) := by decide +kernel
theorem dX11_layRow_17 : decode cX11_layRow 17 = .ok (.iconst 1, 1) := by decide +kernel
theorem dX11_layRow_18 : decode cX11_layRow 18 = .ok (.isub, 1) := by decide +kernel
theorem dX11_layRow_19 : decode cX11_layRow 19 = .ok (.istore 6, 2) := by decide +kernel
theorem dX11_layRow_21 : decode cX11_layRow 21 = .ok (.iload 6, 2) := by decide +kernel
theorem dX11_layRow_23 : decode cX11_layRow 23 = .ok (.ifCond .lt 76, 3) := by decide +kernel
theorem dX11_layRow_26 : decode cX11_layRow 26 = .ok (.iload 4, 2) := by decide +kernel
theorem dX11_layRow_28 : decode cX11_layRow 28 = .ok (.bipush 6, 2) := by decide +kernel
theorem dX11_layRow_30 : decode cX11_layRow 30 = .ok (.irem, 1) := by decide +kernel
theorem dX11_layRow_31 : decode cX11_layRow 31 = .ok (.istore 7, 2) := by decide +kernel
theorem dX11_layRow_33 : decode cX11_layRow 33 = .ok (.iload 4, 2) := by decide +kernel
theorem dX11_layRow_35 : decode cX11_layRow 35 = .ok (.bipush 6, 2) := by decide +kernel
theorem dX11_layRow_37 : decode cX11_layRow 37 = .ok (.idiv, 1) := by decide +kernel
theorem dX11_layRow_38 : decode cX11_layRow 38 = .ok (.istore 4, 2) := by decide +kernel
theorem dX11_layRow_40 : decode cX11_layRow 40 = .ok (.iload 5, 2) := by decide +kernel
theorem dX11_layRow_42 : decode cX11_layRow 42 = .ok (.iload 7, 2) := by decide +kernel
theorem dX11_layRow_44 : decode cX11_layRow 44 = .ok (.iload_n 3, 1) := by decide +kernel
theorem dX11_layRow_45 : decode cX11_layRow 45 = .ok (.if_icmp .ge 10, 3) := by decide +kernel
theorem dX11_layRow_48 : decode cX11_layRow 48 = .ok (.iconst 1, 1) := by decide +kernel
theorem dX11_layRow_49 : decode cX11_layRow 49 = .ok (.iload 7, 2) := by decide +kernel
theorem dX11_layRow_51 : decode cX11_layRow 51 = .ok (.ishl, 1) := by decide +kernel
theorem dX11_layRow_52 : decode cX11_layRow 52 = .ok (.goto 4, 3) := by decide +kernel
theorem dX11_layRow_55 : decode cX11_layRow 55 = .ok (.iconst 0, 1) := by decide +kernel
theorem dX11_layRow_56 : decode cX11_layRow 56 = .ok (.ior, 1) := by decide +kernel
theorem dX11_layRow_57 : decode cX11_layRow 57 = .ok (.istore 5, 2) := by decide +kernel
theorem dX11_layRow_59 : decode cX11_layRow 59 = .ok (.aload_n 0, 1) := by decide +kernel
theorem dX11_layRow_60 : decode cX11_layRow 60 = .ok (.getfield 13, 3) := by decide +kernel
theorem dX11_layRow_63 : decode cX11_layRow 63 = .ok (.bipush 6, 2) := by decide +kernel
theorem dX11_layRow_65 : decode cX11_layRow 65 = .ok (.iload_n 1, 1) := by decide +kernel
theorem dX11_layRow_66 : decode cX11_layRow 66 = .ok (.imul, 1) := by decide +kernel
theorem dX11_layRow_67 : decode cX11_layRow 67 = .ok (.iload 6, 2) := by decide +kernel
theorem dX11_layRow_69 : decode cX11_layRow 69 = .ok (.iadd, 1) := by decide +kernel
theorem dX11_layRow_70 : decode cX11_layRow 70 = .ok (.iload 7, 2) := by decide +kernel
theorem dX11_layRow_72 : decode cX11_layRow 72 = .ok (.iload_n 3, 1) := by decide +kernel
theorem dX11_layRow_73 : decode cX11_layRow 73 = .ok (.if_icmp .ge 18, 3) := by decide +kernel
theorem dX11_layRow_76 : decode cX11_layRow 76 = .ok (.aload_n 0, 1) := by decide +kernel
theorem dX11_layRow_77 : decode cX11_layRow 77 = .ok (.getfield 7, 3) := by decide +kernel
theorem dX11_layRow_80 : decode cX11_layRow 80 = .ok (.bipush 6, 2) := by decide +kernel
theorem dX11_layRow_82 : decode cX11_layRow 82 = .ok (.iload_n 1, 1) := by decide +kernel
theorem dX11_layRow_83 : decode cX11_layRow 83 = .ok (.imul, 1) := by decide +kernel
theorem dX11_layRow_84 : decode cX11_layRow 84 = .ok (.iload 7, 2) := by decide +kernel
theorem dX11_layRow_86 : decode cX11_layRow 86 = .ok (.iadd, 1) := by decide +kernel
theorem dX11_layRow_87 : decode cX11_layRow 87 = .ok (.iaload, 1) := by decide +kernel
theorem dX11_layRow_88 : decode cX11_layRow 88 = .ok (.goto 4, 3) := by decide +kernel
theorem dX11_layRow_91 : decode cX11_layRow 91 = .ok (.iconst 0, 1) := by decide +kernel
theorem dX11_layRow_92 : decode cX11_layRow 92 = .ok (.iastore, 1) := by decide +kernel
theorem dX11_layRow_93 : decode cX11_layRow 93 = .ok (.iinc 6 (-1), 3) := by decide +kernel
theorem dX11_layRow_96 : decode cX11_layRow 96 = .ok (.goto (-75), 3) := by decide +kernel
theorem dX11_layRow_99 : decode cX11_layRow 99 = .ok (.iconst 0, 1) := by decide +kernel
theorem dX11_layRow_100 : decode cX11_layRow 100 = .ok (.istore 6, 2) := by decide +kernel
theorem dX11_layRow_102 : decode cX11_layRow 102 = .ok (.iconst 0, 1) := by decide +kernel
theorem dX11_layRow_103 : decode cX11_layRow 103 = .ok (.istore 7, 2) := by decide +kernel
theorem dX11_layRow_105 : decode cX11_layRow 105 = .ok (.iload 7, 2) := by decide +kernel
theorem dX11_layRow_107 : decode cX11_layRow 107 = .ok (.iload_n 3, 1) := by decide +kernel
theorem dX11_layRow_108 : decode cX11_layRow 108 = .ok (.if_icmp .ge 29, 3) := by decide +kernel
theorem dX11_layRow_111 : decode cX11_layRow 111 = .ok (.bipush 10, 2) := by decide +kernel
theorem dX11_layRow_113 : decode cX11_layRow 113 = .ok (.iload 6, 2) := by decide +kernel
theorem dX11_layRow_115 : decode cX11_layRow 115 = .ok (.imul, 1) := by decide +kernel
theorem dX11_layRow_116 : decode cX11_layRow 116 = .ok (.aload_n 0, 1) := by decide +kernel
theorem dX11_layRow_117 : decode cX11_layRow 117 = .ok (.getfield 13, 3) := by decide +kernel
theorem dX11_layRow_120 : decode cX11_layRow 120 = .ok (.bipush 6, 2) := by decide +kernel
theorem dX11_layRow_122 : decode cX11_layRow 122 = .ok (.iload_n 1, 1) := by decide +kernel
theorem dX11_layRow_123 : decode cX11_layRow 123 = .ok (.imul, 1) := by decide +kernel
theorem dX11_layRow_124 : decode cX11_layRow 124 = .ok (.iload 7, 2) := by decide +kernel
theorem dX11_layRow_126 : decode cX11_layRow 126 = .ok (.iadd, 1) := by decide +kernel
theorem dX11_layRow_127 : decode cX11_layRow 127 = .ok (.iaload, 1) := by decide +kernel
theorem dX11_layRow_128 : decode cX11_layRow 128 = .ok (.iadd, 1) := by decide +kernel
theorem dX11_layRow_129 : decode cX11_layRow 129 = .ok (.istore 6, 2) := by decide +kernel
theorem dX11_layRow_131 : decode cX11_layRow 131 = .ok (.iinc 7 1, 3) := by decide +kernel
theorem dX11_layRow_134 : decode cX11_layRow 134 = .ok (.goto (-29), 3) := by decide +kernel
theorem dX11_layRow_137 : decode cX11_layRow 137 = .ok (.iload 5, 2) := by decide +kernel
theorem dX11_layRow_139 : decode cX11_layRow 139 = .ok (.invokestatic 148, 3) := by decide +kernel
theorem dX11_layRow_142 : decode cX11_layRow 142 = .ok (.iload_n 3, 1) := by decide +kernel
theorem dX11_layRow_143 : decode cX11_layRow 143 = .ok (.if_icmp .ne 8, 3) := by decide +kernel
theorem dX11_layRow_146 : decode cX11_layRow 146 = .ok (.iload 6, 2) := by decide +kernel
theorem dX11_layRow_148 : decode cX11_layRow 148 = .ok (.goto 5, 3) := by decide +kernel
theorem dX11_layRow_151 : decode cX11_layRow 151 = .ok (.bipush (-6), 2) := by decide +kernel
theorem dX11_layRow_153 : decode cX11_layRow 153 = .ok (.ireturn, 1) := by decide +kernel
set_option maxRecDepth 20000 in
theorem ggX11_layOrders_X11_plain : GoodIn wsX11_layOrders wsX11_plain := goodIn_r _ [12, 13, 14, 15, 16, 17, 11, 18, 19, 6, 63, 64, 65, 66, 67, 68, 69, 70, 71, 72, 73, 74, 75, 76, 77, 78, 79, 80, 81, 82, 83, 84, 85, 86, 87, 88, 89, 90, 91, 92] (by decide +kernel) (by decide +kernel)
set_option maxRecDepth 20000 in
theorem gX11_layOrders_X11_plain : GoodIn wsX11_layOrders (wsV RX11 139 RX11 yX11_plain wsX11_plain) := goodIn_app (goodIn_of _ (by decide +kernel)) ggX11_layOrders_X11_plain
set_option maxRecDepth 20000 in
theorem ggX11_layOrders_X11_layRow : GoodIn wsX11_layOrders wsX11_layRow := goodIn_r _ [23, 6, 19, 24, 25, 11, 26, 63, 64, 65, 66, 67, 68, 69, 70, 71, 72, 73, 74, 75, 76, 77, 78, 79, 80, 81, 82, 83, 84, 85, 86, 87, 88, 89, 90, 91, 92] (by decide +kernel) (by decide +kernel)
set_option maxRecDepth 20000 in
theorem gX11_layOrders_X11_layRow : GoodIn wsX11_layOrders (wsV RX11 164 RX11 yX11_layRow wsX11_layRow) := goodIn_app (goodIn_of _ (by decide +kernel)) ggX11_layOrders_X11_layRow
set_option maxRecDepth 20000 in
theorem ggX11_layOrders_X11_keepsRules : GoodIn wsX11_layOrders wsX11_keepsRules := goodIn_r _ [30, 31, 32, 33, 34, 35, 36, 11, 37, 19, 63, 64, 65, 66, 67, 68, 69, 70, 71, 72, 73, 74, 75, 76, 77, 78, 79, 80, 81, 82, 83, 84, 85, 86, 87, 88, 89, 90, 91, 92] (by decide +kernel) (by decide +kernel)
set_option maxRecDepth 20000 in
theorem gX11_layOrders_X11_keepsRules : GoodIn wsX11_layOrders (wsV RX11 167 RX11 yX11_keepsRules wsX11_keepsRules) := goodIn_app (goodIn_of _ (by decide +kernel)) ggX11_layOrders_X11_keepsRules
set_option maxRecDepth 20000 in
theorem ggX11_layOrders_X11_layMeetings : GoodIn wsX11_layOrders wsX11_layMeetings := goodIn_r _ [41, 42, 7, 43, 44, 19, 45, 46, 11, 47, 48, 49, 50, 51, 52, 53, 54, 55, 56, 57, 58, 59, 60, 61, 62, 13, 14, 63, 64, 65, 66, 67, 68, 69, 70, 71, 72, 73, 74, 75, 76, 77, 78, 79, 80, 81, 82, 83, 84, 85, 86, 87, 88, 89, 90, 91, 92] (by decide +kernel) (by decide +kernel)
set_option maxRecDepth 20000 in
theorem gX11_layOrders_X11_layMeetings : GoodIn wsX11_layOrders (wsV RX11 142 RX11 yX11_layMeetings wsX11_layMeetings) := goodIn_app (goodIn_of _ (by decide +kernel)) ggX11_layOrders_X11_layMeetings
theorem dX11_layOrders_0 : decode cX11_layOrders 0 = .ok (.aload_n 0, 1) := by decide +kernel
theorem dX11_layOrders_1 : decode cX11_layOrders 1 = .ok (.invokevirtual 139, 3) := by decide +kernel
theorem dX11_layOrders_4 : decode cX11_layOrders 4 = .ok (.aload_n 0, 1) := by decide +kernel
theorem dX11_layOrders_5 : decode cX11_layOrders 5 = .ok (.iconst 0, 1) := by decide +kernel
theorem dX11_layOrders_6 : decode cX11_layOrders 6 = .ok (.putfield 151, 3) := by decide +kernel
theorem dX11_layOrders_9 : decode cX11_layOrders 9 = .ok (.aload_n 0, 1) := by decide +kernel
theorem dX11_layOrders_10 : decode cX11_layOrders 10 = .ok (.bipush (-6), 2) := by decide +kernel
theorem dX11_layOrders_12 : decode cX11_layOrders 12 = .ok (.putfield 154, 3) := by decide +kernel
theorem dX11_layOrders_15 : decode cX11_layOrders 15 = .ok (.aload_n 0, 1) := by decide +kernel
theorem dX11_layOrders_16 : decode cX11_layOrders 16 = .ok (.ldc 157, 2) := by decide +kernel
theorem dX11_layOrders_18 : decode cX11_layOrders 18 = .ok (.putfield 158, 3) := by decide +kernel
theorem dX11_layOrders_21 : decode cX11_layOrders 21 = .ok (.aload_n 0, 1) := by decide +kernel
theorem dX11_layOrders_22 : decode cX11_layOrders 22 = .ok (.iconst 0, 1) := by decide +kernel
theorem dX11_layOrders_23 : decode cX11_layOrders 23 = .ok (.putfield 161, 3) := by decide +kernel
theorem dX11_layOrders_26 : decode cX11_layOrders 26 = .ok (.iconst 1, 1) := by decide +kernel
theorem dX11_layOrders_27 : decode cX11_layOrders 27 = .ok (.istore_n 2, 1) := by decide +kernel
theorem dX11_layOrders_28 : decode cX11_layOrders 28 = .ok (.iconst 0, 1) := by decide +kernel
theorem dX11_layOrders_29 : decode cX11_layOrders 29 = .ok (.istore_n 3, 1) := by decide +kernel
theorem dX11_layOrders_30 : decode cX11_layOrders 30 = .ok (.iload_n 3, 1) := by decide +kernel
theorem dX11_layOrders_31 : decode cX11_layOrders 31 = .ok (.aload_n 0, 1) := by decide +kernel
theorem dX11_layOrders_32 : decode cX11_layOrders 32 = .ok (.getfield 7, 3) := by decide +kernel
theorem dX11_layOrders_35 : decode cX11_layOrders 35 = .ok (.bipush 12, 2) := by decide +kernel
theorem dX11_layOrders_37 : decode cX11_layOrders 37 = .ok (.iload_n 1, 1) := by decide +kernel
theorem dX11_layOrders_38 : decode cX11_layOrders 38 = .ok (.iadd, 1) := by decide +kernel
theorem dX11_layOrders_39 : decode cX11_layOrders 39 = .ok (.iaload, 1) := by decide +kernel
theorem dX11_layOrders_40 : decode cX11_layOrders 40 = .ok (.if_icmp .ge 14, 3) := by decide +kernel
theorem dX11_layOrders_43 : decode cX11_layOrders 43 = .ok (.iload_n 2, 1) := by decide +kernel
theorem dX11_layOrders_44 : decode cX11_layOrders 44 = .ok (.bipush 6, 2) := by decide +kernel
theorem dX11_layOrders_46 : decode cX11_layOrders 46 = .ok (.imul, 1) := by decide +kernel
theorem dX11_layOrders_47 : decode cX11_layOrders 47 = .ok (.istore_n 2, 1) := by decide +kernel
theorem dX11_layOrders_48 : decode cX11_layOrders 48 = .ok (.iinc 3 1, 3) := by decide +kernel
theorem dX11_layOrders_51 : decode cX11_layOrders 51 = .ok (.goto (-21), 3) := by decide +kernel
theorem dX11_layOrders_54 : decode cX11_layOrders 54 = .ok (.iconst 0, 1) := by decide +kernel
theorem dX11_layOrders_55 : decode cX11_layOrders 55 = .ok (.istore_n 3, 1) := by decide +kernel
theorem dX11_layOrders_56 : decode cX11_layOrders 56 = .ok (.iload_n 3, 1) := by decide +kernel
theorem dX11_layOrders_57 : decode cX11_layOrders 57 = .ok (.iload_n 2, 1) := by decide +kernel
theorem dX11_layOrders_58 : decode cX11_layOrders 58 = .ok (.if_icmp .ge 149, 3) := by decide +kernel
theorem dX11_layOrders_61 : decode cX11_layOrders 61 = .ok (.aload_n 0, 1) := by decide +kernel
theorem dX11_layOrders_62 : decode cX11_layOrders 62 = .ok (.iload_n 1, 1) := by decide +kernel
theorem dX11_layOrders_63 : decode cX11_layOrders 63 = .ok (.iload_n 3, 1) := by decide +kernel
theorem dX11_layOrders_64 : decode cX11_layOrders 64 = .ok (.invokevirtual 164, 3) := by decide +kernel
theorem dX11_layOrders_67 : decode cX11_layOrders 67 = .ok (.istore 4, 2) := by decide +kernel
theorem dX11_layOrders_69 : decode cX11_layOrders 69 = .ok (.iload 4, 2) := by decide +kernel
theorem dX11_layOrders_71 : decode cX11_layOrders 71 = .ok (.ifCond .lt 130, 3) := by decide +kernel
theorem dX11_layOrders_74 : decode cX11_layOrders 74 = .ok (.aload_n 0, 1) := by decide +kernel
theorem dX11_layOrders_75 : decode cX11_layOrders 75 = .ok (.iload_n 1, 1) := by decide +kernel
theorem dX11_layOrders_76 : decode cX11_layOrders 76 = .ok (.invokevirtual 167, 3) := by decide +kernel
theorem dX11_layOrders_79 : decode cX11_layOrders 79 = .ok (.ifCond .eq 42, 3) := by decide +kernel
theorem dX11_layOrders_82 : decode cX11_layOrders 82 = .ok (.aload_n 0, 1) := by decide +kernel
theorem dX11_layOrders_83 : decode cX11_layOrders 83 = .ok (.aload_n 0, 1) := by decide +kernel
theorem dX11_layOrders_84 : decode cX11_layOrders 84 = .ok (.getfield 151, 3) := by decide +kernel
theorem dX11_layOrders_87 : decode cX11_layOrders 87 = .ok (.ifCond .eq 12, 3) := by decide +kernel
theorem dX11_layOrders_90 : decode cX11_layOrders 90 = .ok (.iload 4, 2) := by decide +kernel
theorem dX11_layOrders_92 : decode cX11_layOrders 92 = .ok (.aload_n 0, 1) := by decide +kernel
theorem dX11_layOrders_93 : decode cX11_layOrders 93 = .ok (.getfield 154, 3) := by decide +kernel
theorem dX11_layOrders_96 : decode cX11_layOrders 96 = .ok (.if_icmp .ge 8, 3) := by decide +kernel
theorem dX11_layOrders_99 : decode cX11_layOrders 99 = .ok (.iload 4, 2) := by decide +kernel
theorem dX11_layOrders_101 : decode cX11_layOrders 101 = .ok (.goto 7, 3) := by decide +kernel
theorem dX11_layOrders_104 : decode cX11_layOrders 104 = .ok (.aload_n 0, 1) := by decide +kernel
theorem dX11_layOrders_105 : decode cX11_layOrders 105 = .ok (.getfield 154, 3) := by decide +kernel
theorem dX11_layOrders_108 : decode cX11_layOrders 108 = .ok (.putfield 154, 3) := by decide +kernel
theorem dX11_layOrders_111 : decode cX11_layOrders 111 = .ok (.aload_n 0, 1) := by decide +kernel
theorem dX11_layOrders_112 : decode cX11_layOrders 112 = .ok (.dup, 1) := by decide +kernel
theorem dX11_layOrders_113 : decode cX11_layOrders 113 = .ok (.getfield 151, 3) := by decide +kernel
theorem dX11_layOrders_116 : decode cX11_layOrders 116 = .ok (.iconst 1, 1) := by decide +kernel
theorem dX11_layOrders_117 : decode cX11_layOrders 117 = .ok (.iadd, 1) := by decide +kernel
theorem dX11_layOrders_118 : decode cX11_layOrders 118 = .ok (.putfield 151, 3) := by decide +kernel
theorem dX11_layOrders_121 : decode cX11_layOrders 121 = .ok (.aload_n 0, 1) := by decide +kernel
theorem dX11_layOrders_122 : decode cX11_layOrders 122 = .ok (.invokevirtual 142, 3) := by decide +kernel
theorem dX11_layOrders_125 : decode cX11_layOrders 125 = .ok (.aload_n 0, 1) := by decide +kernel
theorem dX11_layOrders_126 : decode cX11_layOrders 126 = .ok (.getfield 126, 3) := by decide +kernel
theorem dX11_layOrders_129 : decode cX11_layOrders 129 = .ok (.aload_n 0, 1) := by decide +kernel
theorem dX11_layOrders_130 : decode cX11_layOrders 130 = .ok (.getfield 158, 3) := by decide +kernel
theorem dX11_layOrders_133 : decode cX11_layOrders 133 = .ok (.if_icmp .lt 23, 3) := by decide +kernel
theorem dX11_layOrders_136 : decode cX11_layOrders 136 = .ok (.aload_n 0, 1) := by decide +kernel
theorem dX11_layOrders_137 : decode cX11_layOrders 137 = .ok (.getfield 126, 3) := by decide +kernel
theorem dX11_layOrders_140 : decode cX11_layOrders 140 = .ok (.aload_n 0, 1) := by decide +kernel
theorem dX11_layOrders_141 : decode cX11_layOrders 141 = .ok (.getfield 158, 3) := by decide +kernel
theorem dX11_layOrders_144 : decode cX11_layOrders 144 = .ok (.if_icmp .ne 16, 3) := by decide +kernel
theorem dX11_layOrders_147 : decode cX11_layOrders 147 = .ok (.iload 4, 2) := by decide +kernel
theorem dX11_layOrders_149 : decode cX11_layOrders 149 = .ok (.aload_n 0, 1) := by decide +kernel
theorem dX11_layOrders_150 : decode cX11_layOrders 150 = .ok (.getfield 161, 3) := by decide +kernel
theorem dX11_layOrders_153 : decode cX11_layOrders 153 = .ok (.if_icmp .ge 7, 3) := by decide +kernel
theorem dX11_layOrders_156 : decode cX11_layOrders 156 = .ok (.iconst 1, 1) := by decide +kernel
theorem dX11_layOrders_157 : decode cX11_layOrders 157 = .ok (.goto 4, 3) := by decide +kernel
theorem dX11_layOrders_160 : decode cX11_layOrders 160 = .ok (.iconst 0, 1) := by decide +kernel
theorem dX11_layOrders_161 : decode cX11_layOrders 161 = .ok (.istore 5, 2) := by decide +kernel
theorem dX11_layOrders_163 : decode cX11_layOrders 163 = .ok (.aload_n 0, 1) := by decide +kernel
theorem dX11_layOrders_164 : decode cX11_layOrders 164 = .ok (.iload 5, 2) := by decide +kernel
theorem dX11_layOrders_166 : decode cX11_layOrders 166 = .ok (.ifCond .eq 8, 3) := by decide +kernel
theorem dX11_layOrders_169 : decode cX11_layOrders 169 = .ok (.iload 4, 2) := by decide +kernel
theorem dX11_layOrders_171 : decode cX11_layOrders 171 = .ok (.goto 7, 3) := by decide +kernel
theorem dX11_layOrders_174 : decode cX11_layOrders 174 = .ok (.aload_n 0, 1) := by decide +kernel
theorem dX11_layOrders_175 : decode cX11_layOrders 175 = .ok (.getfield 161, 3) := by decide +kernel
theorem dX11_layOrders_178 : decode cX11_layOrders 178 = .ok (.putfield 161, 3) := by decide +kernel
theorem dX11_layOrders_181 : decode cX11_layOrders 181 = .ok (.aload_n 0, 1) := by decide +kernel
theorem dX11_layOrders_182 : decode cX11_layOrders 182 = .ok (.iload 5, 2) := by decide +kernel
theorem dX11_layOrders_184 : decode cX11_layOrders 184 = .ok (.ifCond .eq 10, 3) := by decide +kernel
theorem dX11_layOrders_187 : decode cX11_layOrders 187 = .ok (.aload_n 0, 1) := by decide +kernel
theorem dX11_layOrders_188 : decode cX11_layOrders 188 = .ok (.getfield 126, 3) := by decide +kernel
theorem dX11_layOrders_191 : decode cX11_layOrders 191 = .ok (.goto 7, 3) := by decide +kernel
theorem dX11_layOrders_194 : decode cX11_layOrders 194 = .ok (.aload_n 0, 1) := by decide +kernel
theorem dX11_layOrders_195 : decode cX11_layOrders 195 = .ok (.getfield 158, 3) := by decide +kernel
theorem dX11_layOrders_198 : decode cX11_layOrders 198 = .ok (.putfield 158, 3) := by decide +kernel
theorem dX11_layOrders_201 : decode cX11_layOrders 201 = .ok (.iinc 3 1, 3) := by decide +kernel
theorem dX11_layOrders_204 : decode cX11_layOrders 204 = .ok (.goto (-148), 3) := by decide +kernel
theorem dX11_layOrders_207 : decode cX11_layOrders 207 = .ok (.return_, 1) := by decide +kernel
set_option maxRecDepth 20000 in
theorem ggX11_order_X11_isRow : GoodIn wsX11_order wsX11_isRow := goodIn_r _ [6] (by decide +kernel) (by decide +kernel)
set_option maxRecDepth 20000 in
theorem gX11_order_X11_isRow : GoodIn wsX11_order (va_wsS RX11 65 yX11_isRow wsX11_isRow) := goodIn_app (goodIn_of _ (by decide +kernel)) ggX11_order_X11_isRow
set_option maxRecDepth 20000 in
theorem ggX11_order_X11_in : GoodIn wsX11_order wsX11_in := goodIn_r _ [9] (by decide +kernel) (by decide +kernel)
set_option maxRecDepth 20000 in
theorem gX11_order_X11_in : GoodIn wsX11_order (va_wsS RX11 57 yX11_in wsX11_in) := goodIn_app (goodIn_of _ (by decide +kernel)) ggX11_order_X11_in
set_option maxRecDepth 20000 in
theorem ggX11_order_X11_layOrders : GoodIn wsX11_order wsX11_layOrders := goodIn_r _ [13, 14, 15, 16, 1, 2, 17, 18, 19, 20, 21, 5, 22, 23, 24, 25, 26, 27, 28, 29, 30, 31, 32, 33, 34, 35, 36, 37, 38, 39, 40, 41, 42, 43, 44, 45, 46, 47, 48, 49, 50, 51, 52, 53, 54, 7, 8, 9, 55, 56, 57, 58, 59, 60, 61, 62, 63, 64, 65, 66, 67, 68, 69, 70, 71, 72, 73, 74, 75, 76, 77, 78, 79, 80, 81, 82, 83, 84, 85, 86, 87, 88, 89, 90, 91, 92, 93, 94, 95, 96, 97, 98, 99] (by decide +kernel) (by decide +kernel)
set_option maxRecDepth 20000 in
theorem gX11_order_X11_layOrders : GoodIn wsX11_order (wsV RX11 170 RX11 yX11_layOrders wsX11_layOrders) := goodIn_app (goodIn_of _ (by decide +kernel)) ggX11_order_X11_layOrders
theorem dX11_order_0 : decode cX11_order 0 = .ok (.iload_n 1, 1) := by decide +kernel
theorem dX11_order_1 : decode cX11_order 1 = .ok (.invokestatic 65, 3) := by decide +kernel
theorem dX11_order_4 : decode cX11_order 4 = .ok (.ifCond .eq 12, 3) := by decide +kernel
theorem dX11_order_7 : decode cX11_order 7 = .ok (.iload_n 2, 1) := by decide +kernel
theorem dX11_order_8 : decode cX11_order 8 = .ok (.iconst 0, 1) := by decide +kernel
theorem dX11_order_9 : decode cX11_order 9 = .ok (.iconst 1, 1) := by decide +kernel
theorem dX11_order_10 : decode cX11_order 10 = .ok (.invokestatic 57, 3) := by decide +kernel
theorem dX11_order_13 : decode cX11_order 13 = .ok (.ifCond .ne 6, 3) := by decide +kernel
theorem dX11_order_16 : decode cX11_order 16 = .ok (.bipush (-2), 2) := by decide +kernel
theorem dX11_order_18 : decode cX11_order 18 = .ok (.ireturn, 1) := by decide +kernel
theorem dX11_order_19 : decode cX11_order 19 = .ok (.aload_n 0, 1) := by decide +kernel
theorem dX11_order_20 : decode cX11_order 20 = .ok (.iload_n 1, 1) := by decide +kernel
theorem dX11_order_21 : decode cX11_order 21 = .ok (.invokevirtual 170, 3) := by decide +kernel
theorem dX11_order_24 : decode cX11_order 24 = .ok (.iload_n 2, 1) := by decide +kernel
theorem dX11_order_25 : decode cX11_order 25 = .ok (.ifCond .ne 10, 3) := by decide +kernel
theorem dX11_order_28 : decode cX11_order 28 = .ok (.aload_n 0, 1) := by decide +kernel
theorem dX11_order_29 : decode cX11_order 29 = .ok (.getfield 158, 3) := by decide +kernel
theorem dX11_order_32 : decode cX11_order 32 = .ok (.goto 7, 3) := by decide +kernel
theorem dX11_order_35 : decode cX11_order 35 = .ok (.aload_n 0, 1) := by decide +kernel
theorem dX11_order_36 : decode cX11_order 36 = .ok (.getfield 161, 3) := by decide +kernel
theorem dX11_order_39 : decode cX11_order 39 = .ok (.ireturn, 1) := by decide +kernel
set_option maxRecDepth 20000 in
theorem ggX11_start_X11_in : GoodIn wsX11_start wsX11_in := goodIn_r _ [7] (by decide +kernel) (by decide +kernel)
set_option maxRecDepth 20000 in
theorem gX11_start_X11_in : GoodIn wsX11_start (va_wsS RX11 57 yX11_in wsX11_in) := goodIn_app (goodIn_of _ (by decide +kernel)) ggX11_start_X11_in
set_option maxRecDepth 20000 in
theorem ggX11_start_X11_plain : GoodIn wsX11_start wsX11_plain := goodIn_r _ [11, 12, 13, 14, 15, 16, 6, 17, 18, 19, 41, 42, 43, 44, 45, 46, 47, 48, 49, 50, 51, 52, 53, 54, 55, 56, 57, 58, 59, 60, 61, 62, 63, 64, 65, 66, 67, 68, 69, 70] (by decide +kernel) (by decide +kernel)
set_option maxRecDepth 20000 in
theorem gX11_start_X11_plain : GoodIn wsX11_start (wsV RX11 139 RX11 yX11_plain wsX11_plain) := goodIn_app (goodIn_of _ (by decide +kernel)) ggX11_start_X11_plain
set_option maxRecDepth 20000 in
theorem ggX11_start_X11_layMeetings : GoodIn wsX11_start wsX11_layMeetings := goodIn_r _ [23, 24, 3, 25, 26, 18, 4, 5, 6, 7, 27, 28, 29, 30, 1, 31, 32, 33, 34, 35, 36, 37, 38, 39, 40, 12, 13, 41, 42, 43, 44, 45, 46, 47, 48, 49, 50, 51, 52, 53, 54, 55, 56, 57, 58, 59, 60, 61, 62, 63, 64, 65, 66, 67, 68, 69, 70] (by decide +kernel) (by decide +kernel)
set_option maxRecDepth 20000 in
theorem gX11_start_X11_layMeetings : GoodIn wsX11_start (wsV RX11 142 RX11 yX11_layMeetings wsX11_layMeetings) := goodIn_app (goodIn_of _ (by decide +kernel)) ggX11_start_X11_layMeetings
theorem dX11_start_0 : decode cX11_start 0 = .ok (.iload_n 1, 1) := by decide +kernel
theorem dX11_start_1 : decode cX11_start 1 = .ok (.iconst 0, 1) := by decide +kernel
theorem dX11_start_2 : decode cX11_start 2 = .ok (.iconst 1, 1) := by decide +kernel
theorem dX11_start_3 : decode cX11_start 3 = .ok (.invokestatic 57, 3) := by decide +kernel
theorem dX11_start_6 : decode cX11_start 6 = .ok (.ifCond .ne 6, 3) := by decide +kernel
theorem dX11_start_9 : decode cX11_start 9 = .ok (.bipush (-2), 2) := by decide +kernel
theorem dX11_start_11 : decode cX11_start 11 = .ok (.ireturn, 1) := by decide +kernel
theorem dX11_start_12 : decode cX11_start 12 = .ok (.aload_n 0, 1) := by decide +kernel
theorem dX11_start_13 : decode cX11_start 13 = .ok (.invokevirtual 139, 3) := by decide +kernel
theorem dX11_start_16 : decode cX11_start 16 = .ok (.aload_n 0, 1) := by decide +kernel
theorem dX11_start_17 : decode cX11_start 17 = .ok (.getfield 25, 3) := by decide +kernel
theorem dX11_start_20 : decode cX11_start 20 = .ok (.iconst 0, 1) := by decide +kernel
theorem dX11_start_21 : decode cX11_start 21 = .ok (.iaload, 1) := by decide +kernel
theorem dX11_start_22 : decode cX11_start 22 = .ok (.istore_n 2, 1) := by decide +kernel
theorem dX11_start_23 : decode cX11_start 23 = .ok (.iconst 0, 1) := by decide +kernel
theorem dX11_start_24 : decode cX11_start 24 = .ok (.istore_n 3, 1) := by decide +kernel
theorem dX11_start_25 : decode cX11_start 25 = .ok (.ldc 157, 2) := by decide +kernel
theorem dX11_start_27 : decode cX11_start 27 = .ok (.istore 4, 2) := by decide +kernel
theorem dX11_start_29 : decode cX11_start 29 = .ok (.iconst 0, 1) := by decide +kernel
theorem dX11_start_30 : decode cX11_start 30 = .ok (.istore 5, 2) := by decide +kernel
theorem dX11_start_32 : decode cX11_start 32 = .ok (.iload 5, 2) := by decide +kernel
theorem dX11_start_34 : decode cX11_start 34 = .ok (.bipush 21, 2) := by decide +kernel
theorem dX11_start_36 : decode cX11_start 36 = .ok (.if_icmp .ge 57, 3) := by decide +kernel
theorem dX11_start_39 : decode cX11_start 39 = .ok (.aload_n 0, 1) := by decide +kernel
theorem dX11_start_40 : decode cX11_start 40 = .ok (.getfield 25, 3) := by decide +kernel
theorem dX11_start_43 : decode cX11_start 43 = .ok (.iconst 0, 1) := by decide +kernel
theorem dX11_start_44 : decode cX11_start 44 = .ok (.iload 5, 2) := by decide +kernel
theorem dX11_start_46 : decode cX11_start 46 = .ok (.iastore, 1) := by decide +kernel
theorem dX11_start_47 : decode cX11_start 47 = .ok (.aload_n 0, 1) := by decide +kernel
theorem dX11_start_48 : decode cX11_start 48 = .ok (.invokevirtual 142, 3) := by decide +kernel
theorem dX11_start_51 : decode cX11_start 51 = .ok (.aload_n 0, 1) := by decide +kernel
theorem dX11_start_52 : decode cX11_start 52 = .ok (.getfield 126, 3) := by decide +kernel
theorem dX11_start_55 : decode cX11_start 55 = .ok (.iload 4, 2) := by decide +kernel
theorem dX11_start_57 : decode cX11_start 57 = .ok (.if_icmp .ge 8, 3) := by decide +kernel
theorem dX11_start_60 : decode cX11_start 60 = .ok (.iload 5, 2) := by decide +kernel
theorem dX11_start_62 : decode cX11_start 62 = .ok (.goto 4, 3) := by decide +kernel
theorem dX11_start_65 : decode cX11_start 65 = .ok (.iload_n 3, 1) := by decide +kernel
theorem dX11_start_66 : decode cX11_start 66 = .ok (.istore_n 3, 1) := by decide +kernel
theorem dX11_start_67 : decode cX11_start 67 = .ok (.aload_n 0, 1) := by decide +kernel
theorem dX11_start_68 : decode cX11_start 68 = .ok (.getfield 126, 3) := by decide +kernel
theorem dX11_start_71 : decode cX11_start 71 = .ok (.iload 4, 2) := by decide +kernel
theorem dX11_start_73 : decode cX11_start 73 = .ok (.if_icmp .ge 10, 3) := by decide +kernel
theorem dX11_start_76 : decode cX11_start 76 = .ok (.aload_n 0, 1) := by decide +kernel
theorem dX11_start_77 : decode cX11_start 77 = .ok (.getfield 126, 3) := by decide +kernel
theorem dX11_start_80 : decode cX11_start 80 = .ok (.goto 5, 3) := by decide +kernel
theorem dX11_start_83 : decode cX11_start 83 = .ok (.iload 4, 2) := by decide +kernel
theorem dX11_start_85 : decode cX11_start 85 = .ok (.istore 4, 2) := by decide +kernel
theorem dX11_start_87 : decode cX11_start 87 = .ok (.iinc 5 1, 3) := by decide +kernel
theorem dX11_start_90 : decode cX11_start 90 = .ok (.goto (-58), 3) := by decide +kernel
theorem dX11_start_93 : decode cX11_start 93 = .ok (.aload_n 0, 1) := by decide +kernel
theorem dX11_start_94 : decode cX11_start 94 = .ok (.getfield 25, 3) := by decide +kernel
theorem dX11_start_97 : decode cX11_start 97 = .ok (.iconst 0, 1) := by decide +kernel
theorem dX11_start_98 : decode cX11_start 98 = .ok (.iload_n 2, 1) := by decide +kernel
theorem dX11_start_99 : decode cX11_start 99 = .ok (.iastore, 1) := by decide +kernel
theorem dX11_start_100 : decode cX11_start 100 = .ok (.iload_n 1, 1) := by decide +kernel
theorem dX11_start_101 : decode cX11_start 101 = .ok (.ifCond .ne 8, 3) := by decide +kernel
theorem dX11_start_104 : decode cX11_start 104 = .ok (.iload 4, 2) := by decide +kernel
theorem dX11_start_106 : decode cX11_start 106 = .ok (.goto 4, 3) := by decide +kernel
theorem dX11_start_109 : decode cX11_start 109 = .ok (.iload_n 3, 1) := by decide +kernel
theorem dX11_start_110 : decode cX11_start 110 = .ok (.ireturn, 1) := by decide +kernel
set_option maxRecDepth 20000 in
theorem ggX11_door_X11_in : GoodIn wsX11_door wsX11_in := goodIn_r _ [8] (by decide +kernel) (by decide +kernel)
set_option maxRecDepth 20000 in
theorem gX11_door_X11_in : GoodIn wsX11_door (va_wsS RX11 57 yX11_in wsX11_in) := goodIn_app (goodIn_of _ (by decide +kernel)) ggX11_door_X11_in
set_option maxRecDepth 20000 in
theorem ggX11_door_X11_plain : GoodIn wsX11_door wsX11_plain := goodIn_r _ [12, 3, 1, 13, 14, 15, 7, 16, 17, 18, 41, 42, 43, 44, 45, 46, 47, 48, 49, 50, 51, 52, 53, 54, 55, 56, 57, 58, 59, 60, 61, 62, 63, 64, 65, 66, 67, 68, 69, 70] (by decide +kernel) (by decide +kernel)
set_option maxRecDepth 20000 in
theorem gX11_door_X11_plain : GoodIn wsX11_door (wsV RX11 139 RX11 yX11_plain wsX11_plain) := goodIn_app (goodIn_of _ (by decide +kernel)) ggX11_door_X11_plain
set_option maxRecDepth 20000 in
theorem ggX11_door_X11_layMeetings : GoodIn wsX11_door wsX11_layMeetings := goodIn_r _ [22, 23, 4, 24, 25, 17, 5, 6, 7, 8, 26, 27, 28, 29, 30, 31, 32, 33, 34, 35, 36, 37, 38, 39, 40, 3, 1, 41, 42, 43, 44, 45, 46, 47, 48, 49, 50, 51, 52, 53, 54, 55, 56, 57, 58, 59, 60, 61, 62, 63, 64, 65, 66, 67, 68, 69, 70] (by decide +kernel) (by decide +kernel)
set_option maxRecDepth 20000 in
theorem gX11_door_X11_layMeetings : GoodIn wsX11_door (wsV RX11 142 RX11 yX11_layMeetings wsX11_layMeetings) := goodIn_app (goodIn_of _ (by decide +kernel)) ggX11_door_X11_layMeetings
theorem dX11_door_0 : decode cX11_door 0 = .ok (.iload_n 1, 1) := by decide +kernel
theorem dX11_door_1 : decode cX11_door 1 = .ok (.iconst 0, 1) := by decide +kernel
theorem dX11_door_2 : decode cX11_door 2 = .ok (.bipush 30, 2) := by decide +kernel
theorem dX11_door_4 : decode cX11_door 4 = .ok (.invokestatic 57, 3) := by decide +kernel
theorem dX11_door_7 : decode cX11_door 7 = .ok (.ifCond .eq 12, 3) := by decide +kernel
theorem dX11_door_10 : decode cX11_door 10 = .ok (.iload_n 2, 1) := by decide +kernel
theorem dX11_door_11 : decode cX11_door 11 = .ok (.iconst 0, 1) := by decide +kernel
theorem dX11_door_12 : decode cX11_door 12 = .ok (.iconst 1, 1) := by decide +kernel
theorem dX11_door_13 : decode cX11_door 13 = .ok (.invokestatic 57, 3) := by decide +kernel
theorem dX11_door_16 : decode cX11_door 16 = .ok (.ifCond .ne 6, 3) := by decide +kernel
theorem dX11_door_19 : decode cX11_door 19 = .ok (.bipush (-2), 2) := by decide +kernel
theorem dX11_door_21 : decode cX11_door 21 = .ok (.ireturn, 1) := by decide +kernel
theorem dX11_door_22 : decode cX11_door 22 = .ok (.aload_n 0, 1) := by decide +kernel
theorem dX11_door_23 : decode cX11_door 23 = .ok (.invokevirtual 139, 3) := by decide +kernel
theorem dX11_door_26 : decode cX11_door 26 = .ok (.aload_n 0, 1) := by decide +kernel
theorem dX11_door_27 : decode cX11_door 27 = .ok (.iload_n 1, 1) := by decide +kernel
theorem dX11_door_28 : decode cX11_door 28 = .ok (.putfield 114, 3) := by decide +kernel
theorem dX11_door_31 : decode cX11_door 31 = .ok (.iconst 0, 1) := by decide +kernel
theorem dX11_door_32 : decode cX11_door 32 = .ok (.istore_n 3, 1) := by decide +kernel
theorem dX11_door_33 : decode cX11_door 33 = .ok (.ldc 157, 2) := by decide +kernel
theorem dX11_door_35 : decode cX11_door 35 = .ok (.istore 4, 2) := by decide +kernel
theorem dX11_door_37 : decode cX11_door 37 = .ok (.iconst 0, 1) := by decide +kernel
theorem dX11_door_38 : decode cX11_door 38 = .ok (.istore 5, 2) := by decide +kernel
theorem dX11_door_40 : decode cX11_door 40 = .ok (.iload 5, 2) := by decide +kernel
theorem dX11_door_42 : decode cX11_door 42 = .ok (.bipush 17, 2) := by decide +kernel
theorem dX11_door_44 : decode cX11_door 44 = .ok (.if_icmp .ge 55, 3) := by decide +kernel
theorem dX11_door_47 : decode cX11_door 47 = .ok (.aload_n 0, 1) := by decide +kernel
theorem dX11_door_48 : decode cX11_door 48 = .ok (.iload 5, 2) := by decide +kernel
theorem dX11_door_50 : decode cX11_door 50 = .ok (.putfield 111, 3) := by decide +kernel
theorem dX11_door_53 : decode cX11_door 53 = .ok (.aload_n 0, 1) := by decide +kernel
theorem dX11_door_54 : decode cX11_door 54 = .ok (.invokevirtual 142, 3) := by decide +kernel
theorem dX11_door_57 : decode cX11_door 57 = .ok (.aload_n 0, 1) := by decide +kernel
theorem dX11_door_58 : decode cX11_door 58 = .ok (.getfield 126, 3) := by decide +kernel
theorem dX11_door_61 : decode cX11_door 61 = .ok (.iload 4, 2) := by decide +kernel
theorem dX11_door_63 : decode cX11_door 63 = .ok (.if_icmp .ge 8, 3) := by decide +kernel
theorem dX11_door_66 : decode cX11_door 66 = .ok (.iload 5, 2) := by decide +kernel
theorem dX11_door_68 : decode cX11_door 68 = .ok (.goto 4, 3) := by decide +kernel
theorem dX11_door_71 : decode cX11_door 71 = .ok (.iload_n 3, 1) := by decide +kernel
theorem dX11_door_72 : decode cX11_door 72 = .ok (.istore_n 3, 1) := by decide +kernel
theorem dX11_door_73 : decode cX11_door 73 = .ok (.aload_n 0, 1) := by decide +kernel
theorem dX11_door_74 : decode cX11_door 74 = .ok (.getfield 126, 3) := by decide +kernel
theorem dX11_door_77 : decode cX11_door 77 = .ok (.iload 4, 2) := by decide +kernel
theorem dX11_door_79 : decode cX11_door 79 = .ok (.if_icmp .ge 10, 3) := by decide +kernel
theorem dX11_door_82 : decode cX11_door 82 = .ok (.aload_n 0, 1) := by decide +kernel
theorem dX11_door_83 : decode cX11_door 83 = .ok (.getfield 126, 3) := by decide +kernel
theorem dX11_door_86 : decode cX11_door 86 = .ok (.goto 5, 3) := by decide +kernel
theorem dX11_door_89 : decode cX11_door 89 = .ok (.iload 4, 2) := by decide +kernel
theorem dX11_door_91 : decode cX11_door 91 = .ok (.istore 4, 2) := by decide +kernel
theorem dX11_door_93 : decode cX11_door 93 = .ok (.iinc 5 1, 3) := by decide +kernel
theorem dX11_door_96 : decode cX11_door 96 = .ok (.goto (-56), 3) := by decide +kernel
theorem dX11_door_99 : decode cX11_door 99 = .ok (.iload_n 2, 1) := by decide +kernel
theorem dX11_door_100 : decode cX11_door 100 = .ok (.ifCond .ne 8, 3) := by decide +kernel
theorem dX11_door_103 : decode cX11_door 103 = .ok (.iload 4, 2) := by decide +kernel
theorem dX11_door_105 : decode cX11_door 105 = .ok (.goto 4, 3) := by decide +kernel
theorem dX11_door_108 : decode cX11_door 108 = .ok (.iload_n 3, 1) := by decide +kernel
theorem dX11_door_109 : decode cX11_door 109 = .ok (.ireturn, 1) := by decide +kernel
set_option maxRecDepth 20000 in
theorem ggX11_grating_X11_spot : GoodIn wsX11_grating wsX11_spot := goodIn_r _ [7, 8, 12, 13, 14, 15, 16, 17, 18, 19, 20, 21, 22, 23, 24, 25, 26, 27, 28, 29, 30, 31, 32, 33, 34, 35, 36, 37, 38, 39, 40, 41] (by decide +kernel) (by decide +kernel)
set_option maxRecDepth 20000 in
theorem gX11_grating_X11_spot : GoodIn wsX11_grating (wsV RX11 117 RX11 yX11_spot wsX11_spot) := goodIn_app (goodIn_of _ (by decide +kernel)) ggX11_grating_X11_spot
set_option maxRecDepth 20000 in
theorem ggX11_grating_X11_in : GoodIn wsX11_grating wsX11_in := goodIn_r _ [11] (by decide +kernel) (by decide +kernel)
set_option maxRecDepth 20000 in
theorem gX11_grating_X11_in : GoodIn wsX11_grating (va_wsS RX11 57 yX11_in wsX11_in) := goodIn_app (goodIn_of _ (by decide +kernel)) ggX11_grating_X11_in
theorem dX11_grating_0 : decode cX11_grating 0 = .ok (.iconst 0, 1) := by decide +kernel
theorem dX11_grating_1 : decode cX11_grating 1 = .ok (.istore_n 2, 1) := by decide +kernel
theorem dX11_grating_2 : decode cX11_grating 2 = .ok (.iconst 0, 1) := by decide +kernel
theorem dX11_grating_3 : decode cX11_grating 3 = .ok (.istore_n 3, 1) := by decide +kernel
theorem dX11_grating_4 : decode cX11_grating 4 = .ok (.iload_n 3, 1) := by decide +kernel
theorem dX11_grating_5 : decode cX11_grating 5 = .ok (.aload_n 0, 1) := by decide +kernel
theorem dX11_grating_6 : decode cX11_grating 6 = .ok (.getfield 13, 3) := by decide +kernel
theorem dX11_grating_9 : decode cX11_grating 9 = .ok (.bipush 12, 2) := by decide +kernel
theorem dX11_grating_11 : decode cX11_grating 11 = .ok (.iaload, 1) := by decide +kernel
theorem dX11_grating_12 : decode cX11_grating 12 = .ok (.if_icmp .ge 157, 3) := by decide +kernel
theorem dX11_grating_15 : decode cX11_grating 15 = .ok (.iconst 0, 1) := by decide +kernel
theorem dX11_grating_16 : decode cX11_grating 16 = .ok (.istore 4, 2) := by decide +kernel
theorem dX11_grating_18 : decode cX11_grating 18 = .ok (.iload 4, 2) := by decide +kernel
theorem dX11_grating_20 : decode cX11_grating 20 = .ok (.aload_n 0, 1) := by decide +kernel
theorem dX11_grating_21 : decode cX11_grating 21 = .ok (.getfield 13, 3) := by decide +kernel
theorem dX11_grating_24 : decode cX11_grating 24 = .ok (.bipush 13, 2) := by decide +kernel
theorem dX11_grating_26 : decode cX11_grating 26 = .ok (.iaload, 1) := by decide +kernel
theorem dX11_grating_27 : decode cX11_grating 27 = .ok (.if_icmp .ge 136, 3) := by decide +kernel
theorem dX11_grating_30 : decode cX11_grating 30 = .ok (.aload_n 0, 1) := by decide +kernel
theorem dX11_grating_31 : decode cX11_grating 31 = .ok (.getfield 19, 3) := by decide +kernel
theorem dX11_grating_34 : decode cX11_grating 34 = .ok (.aload_n 0, 1) := by decide +kernel
theorem dX11_grating_35 : decode cX11_grating 35 = .ok (.getfield 13, 3) := by decide +kernel
theorem dX11_grating_38 : decode cX11_grating 38 = .ok (.iload_n 3, 1) := by decide +kernel
theorem dX11_grating_39 : decode cX11_grating 39 = .ok (.iaload, 1) := by decide +kernel
theorem dX11_grating_40 : decode cX11_grating 40 = .ok (.iaload, 1) := by decide +kernel
theorem dX11_grating_41 : decode cX11_grating 41 = .ok (.istore 5, 2) := by decide +kernel
theorem dX11_grating_43 : decode cX11_grating 43 = .ok (.aload_n 0, 1) := by decide +kernel
theorem dX11_grating_44 : decode cX11_grating 44 = .ok (.getfield 19, 3) := by decide +kernel
theorem dX11_grating_47 : decode cX11_grating 47 = .ok (.aload_n 0, 1) := by decide +kernel
theorem dX11_grating_48 : decode cX11_grating 48 = .ok (.getfield 13, 3) := by decide +kernel
theorem dX11_grating_51 : decode cX11_grating 51 = .ok (.bipush 6, 2) := by decide +kernel
theorem dX11_grating_53 : decode cX11_grating 53 = .ok (.iload 4, 2) := by decide +kernel
theorem dX11_grating_55 : decode cX11_grating 55 = .ok (.iadd, 1) := by decide +kernel
theorem dX11_grating_56 : decode cX11_grating 56 = .ok (.iaload, 1) := by decide +kernel
theorem dX11_grating_57 : decode cX11_grating 57 = .ok (.iaload, 1) := by decide +kernel
theorem dX11_grating_58 : decode cX11_grating 58 = .ok (.istore 6, 2) := by decide +kernel
theorem dX11_grating_60 : decode cX11_grating 60 = .ok (.iload 5, 2) := by decide +kernel
theorem dX11_grating_62 : decode cX11_grating 62 = .ok (.iload 6, 2) := by decide +kernel
theorem dX11_grating_64 : decode cX11_grating 64 = .ok (.iload_n 1, 1) := by decide +kernel
theorem dX11_grating_65 : decode cX11_grating 65 = .ok (.iadd, 1) := by decide +kernel
theorem dX11_grating_66 : decode cX11_grating 66 = .ok (.bipush 12, 2) := by decide +kernel
theorem dX11_grating_68 : decode cX11_grating 68 = .ok (.irem, 1) := by decide +kernel
theorem dX11_grating_69 : decode cX11_grating 69 = .ok (.isub, 1) := by decide +kernel
theorem dX11_grating_70 : decode cX11_grating 70 = .ok (.istore 7, 2) := by decide +kernel
theorem dX11_grating_72 : decode cX11_grating 72 = .ok (.iload 7, 2) := by decide +kernel
theorem dX11_grating_74 : decode cX11_grating 74 = .ok (.ifCond .ge 9, 3) := by decide +kernel
theorem dX11_grating_77 : decode cX11_grating 77 = .ok (.iload 7, 2) := by decide +kernel
theorem dX11_grating_79 : decode cX11_grating 79 = .ok (.ineg, 1) := by decide +kernel
theorem dX11_grating_80 : decode cX11_grating 80 = .ok (.goto 5, 3) := by decide +kernel
theorem dX11_grating_83 : decode cX11_grating 83 = .ok (.iload 7, 2) := by decide +kernel
theorem dX11_grating_85 : decode cX11_grating 85 = .ok (.istore 7, 2) := by decide +kernel
theorem dX11_grating_87 : decode cX11_grating 87 = .ok (.iload 5, 2) := by decide +kernel
theorem dX11_grating_89 : decode cX11_grating 89 = .ok (.bipush 12, 2) := by decide +kernel
theorem dX11_grating_91 : decode cX11_grating 91 = .ok (.if_icmp .ge 30, 3) := by decide +kernel
theorem dX11_grating_94 : decode cX11_grating 94 = .ok (.iload 6, 2) := by decide +kernel
theorem dX11_grating_96 : decode cX11_grating 96 = .ok (.bipush 12, 2) := by decide +kernel
theorem dX11_grating_98 : decode cX11_grating 98 = .ok (.if_icmp .ge 23, 3) := by decide +kernel
theorem dX11_grating_101 : decode cX11_grating 101 = .ok (.aload_n 0, 1) := by decide +kernel
theorem dX11_grating_102 : decode cX11_grating 102 = .ok (.iload_n 3, 1) := by decide +kernel
theorem dX11_grating_103 : decode cX11_grating 103 = .ok (.iload 4, 2) := by decide +kernel
theorem dX11_grating_105 : decode cX11_grating 105 = .ok (.invokevirtual 117, 3) := by decide +kernel
theorem dX11_grating_108 : decode cX11_grating 108 = .ok (.iconst 0, 1) := by decide +kernel
theorem dX11_grating_109 : decode cX11_grating 109 = .ok (.bipush 32, 2) := by decide +kernel
theorem dX11_grating_111 : decode cX11_grating 111 = .ok (.invokestatic 57, 3) := by decide +kernel
theorem dX11_grating_114 : decode cX11_grating 114 = .ok (.ifCond .eq 7, 3) := by decide +kernel
theorem dX11_grating_117 : decode cX11_grating 117 = .ok (.iconst 1, 1) := by decide +kernel
theorem dX11_grating_118 : decode cX11_grating 118 = .ok (.goto 4, 3) := by decide +kernel
theorem dX11_grating_121 : decode cX11_grating 121 = .ok (.iconst 0, 1) := by decide +kernel
theorem dX11_grating_122 : decode cX11_grating 122 = .ok (.istore 8, 2) := by decide +kernel
theorem dX11_grating_124 : decode cX11_grating 124 = .ok (.iload_n 2, 1) := by decide +kernel
theorem dX11_grating_125 : decode cX11_grating 125 = .ok (.iload 8, 2) := by decide +kernel
theorem dX11_grating_127 : decode cX11_grating 127 = .ok (.ifCond .eq 27, 3) := by decide +kernel
theorem dX11_grating_130 : decode cX11_grating 130 = .ok (.iload 7, 2) := by decide +kernel
theorem dX11_grating_132 : decode cX11_grating 132 = .ok (.iconst 1, 1) := by decide +kernel
theorem dX11_grating_133 : decode cX11_grating 133 = .ok (.if_icmp .eq 17, 3) := by decide +kernel
theorem dX11_grating_136 : decode cX11_grating 136 = .ok (.iload 7, 2) := by decide +kernel
theorem dX11_grating_138 : decode cX11_grating 138 = .ok (.bipush 6, 2) := by decide +kernel
theorem dX11_grating_140 : decode cX11_grating 140 = .ok (.if_icmp .eq 10, 3) := by decide +kernel
theorem dX11_grating_143 : decode cX11_grating 143 = .ok (.iload 7, 2) := by decide +kernel
theorem dX11_grating_145 : decode cX11_grating 145 = .ok (.bipush 11, 2) := by decide +kernel
theorem dX11_grating_147 : decode cX11_grating 147 = .ok (.if_icmp .ne 7, 3) := by decide +kernel
theorem dX11_grating_150 : decode cX11_grating 150 = .ok (.iconst 1, 1) := by decide +kernel
theorem dX11_grating_151 : decode cX11_grating 151 = .ok (.goto 4, 3) := by decide +kernel
theorem dX11_grating_154 : decode cX11_grating 154 = .ok (.iconst 0, 1) := by decide +kernel
theorem dX11_grating_155 : decode cX11_grating 155 = .ok (.iadd, 1) := by decide +kernel
theorem dX11_grating_156 : decode cX11_grating 156 = .ok (.istore_n 2, 1) := by decide +kernel
theorem dX11_grating_157 : decode cX11_grating 157 = .ok (.iinc 4 1, 3) := by decide +kernel
theorem dX11_grating_160 : decode cX11_grating 160 = .ok (.goto (-142), 3) := by decide +kernel
theorem dX11_grating_163 : decode cX11_grating 163 = .ok (.iinc 3 1, 3) := by decide +kernel
theorem dX11_grating_166 : decode cX11_grating 166 = .ok (.goto (-162), 3) := by decide +kernel
theorem dX11_grating_169 : decode cX11_grating 169 = .ok (.iload_n 2, 1) := by decide +kernel
theorem dX11_grating_170 : decode cX11_grating 170 = .ok (.ireturn, 1) := by decide +kernel
set_option maxRecDepth 20000 in
theorem ggX11_grate_X11_in : GoodIn wsX11_grate wsX11_in := goodIn_r _ [4] (by decide +kernel) (by decide +kernel)
set_option maxRecDepth 20000 in
theorem gX11_grate_X11_in : GoodIn wsX11_grate (va_wsS RX11 57 yX11_in wsX11_in) := goodIn_app (goodIn_of _ (by decide +kernel)) ggX11_grate_X11_in
set_option maxRecDepth 20000 in
theorem ggX11_grate_X11_plain : GoodIn wsX11_grate wsX11_plain := goodIn_r _ [8, 9, 10, 11, 12, 13, 3, 14, 15, 16, 27, 28, 29, 30, 31, 32, 33, 34, 35, 36, 37, 38, 39, 40, 41, 42, 43, 44, 45, 46, 47, 48, 49, 50, 51, 52, 53, 54, 55, 56] (by decide +kernel) (by decide +kernel)
set_option maxRecDepth 20000 in
theorem gX11_grate_X11_plain : GoodIn wsX11_grate (wsV RX11 139 RX11 yX11_plain wsX11_plain) := goodIn_app (goodIn_of _ (by decide +kernel)) ggX11_grate_X11_plain
set_option maxRecDepth 20000 in
theorem ggX11_grate_X11_grating : GoodIn wsX11_grate wsX11_grating := goodIn_r _ [20, 15, 21, 22, 23, 24, 3, 25, 26, 1, 2, 4, 27, 28, 29, 30, 31, 32, 33, 34, 35, 36, 37, 38, 39, 40, 41, 42, 43, 44, 45, 46, 47, 48, 49, 50, 51, 52, 53, 54, 55, 56] (by decide +kernel) (by decide +kernel)
set_option maxRecDepth 20000 in
theorem gX11_grate_X11_grating : GoodIn wsX11_grate (wsV RX11 174 RX11 yX11_grating wsX11_grating) := goodIn_app (goodIn_of _ (by decide +kernel)) ggX11_grate_X11_grating
theorem dX11_grate_0 : decode cX11_grate 0 = .ok (.iload_n 1, 1) := by decide +kernel
theorem dX11_grate_1 : decode cX11_grate 1 = .ok (.iconst 0, 1) := by decide +kernel
theorem dX11_grate_2 : decode cX11_grate 2 = .ok (.iconst 2, 1) := by decide +kernel
theorem dX11_grate_3 : decode cX11_grate 3 = .ok (.invokestatic 57, 3) := by decide +kernel
theorem dX11_grate_6 : decode cX11_grate 6 = .ok (.ifCond .ne 6, 3) := by decide +kernel
theorem dX11_grate_9 : decode cX11_grate 9 = .ok (.bipush (-2), 2) := by decide +kernel
theorem dX11_grate_11 : decode cX11_grate 11 = .ok (.ireturn, 1) := by decide +kernel
theorem dX11_grate_12 : decode cX11_grate 12 = .ok (.aload_n 0, 1) := by decide +kernel
theorem dX11_grate_13 : decode cX11_grate 13 = .ok (.invokevirtual 139, 3) := by decide +kernel
theorem dX11_grate_16 : decode cX11_grate 16 = .ok (.iconst 0, 1) := by decide +kernel
theorem dX11_grate_17 : decode cX11_grate 17 = .ok (.istore_n 2, 1) := by decide +kernel
theorem dX11_grate_18 : decode cX11_grate 18 = .ok (.iconst 1, 1) := by decide +kernel
theorem dX11_grate_19 : decode cX11_grate 19 = .ok (.istore_n 3, 1) := by decide +kernel
theorem dX11_grate_20 : decode cX11_grate 20 = .ok (.iload_n 3, 1) := by decide +kernel
theorem dX11_grate_21 : decode cX11_grate 21 = .ok (.bipush 12, 2) := by decide +kernel
theorem dX11_grate_23 : decode cX11_grate 23 = .ok (.if_icmp .ge 28, 3) := by decide +kernel
theorem dX11_grate_26 : decode cX11_grate 26 = .ok (.aload_n 0, 1) := by decide +kernel
theorem dX11_grate_27 : decode cX11_grate 27 = .ok (.iload_n 3, 1) := by decide +kernel
theorem dX11_grate_28 : decode cX11_grate 28 = .ok (.invokevirtual 174, 3) := by decide +kernel
theorem dX11_grate_31 : decode cX11_grate 31 = .ok (.aload_n 0, 1) := by decide +kernel
theorem dX11_grate_32 : decode cX11_grate 32 = .ok (.iload_n 2, 1) := by decide +kernel
theorem dX11_grate_33 : decode cX11_grate 33 = .ok (.invokevirtual 174, 3) := by decide +kernel
theorem dX11_grate_36 : decode cX11_grate 36 = .ok (.if_icmp .ge 7, 3) := by decide +kernel
theorem dX11_grate_39 : decode cX11_grate 39 = .ok (.iload_n 3, 1) := by decide +kernel
theorem dX11_grate_40 : decode cX11_grate 40 = .ok (.goto 4, 3) := by decide +kernel
theorem dX11_grate_43 : decode cX11_grate 43 = .ok (.iload_n 2, 1) := by decide +kernel
theorem dX11_grate_44 : decode cX11_grate 44 = .ok (.istore_n 2, 1) := by decide +kernel
theorem dX11_grate_45 : decode cX11_grate 45 = .ok (.iinc 3 1, 3) := by decide +kernel
theorem dX11_grate_48 : decode cX11_grate 48 = .ok (.goto (-28), 3) := by decide +kernel
theorem dX11_grate_51 : decode cX11_grate 51 = .ok (.iload_n 1, 1) := by decide +kernel
theorem dX11_grate_52 : decode cX11_grate 52 = .ok (.ifCond .ne 11, 3) := by decide +kernel
theorem dX11_grate_55 : decode cX11_grate 55 = .ok (.aload_n 0, 1) := by decide +kernel
theorem dX11_grate_56 : decode cX11_grate 56 = .ok (.iconst 0, 1) := by decide +kernel
theorem dX11_grate_57 : decode cX11_grate 57 = .ok (.invokevirtual 174, 3) := by decide +kernel
theorem dX11_grate_60 : decode cX11_grate 60 = .ok (.goto 17, 3) := by decide +kernel
theorem dX11_grate_63 : decode cX11_grate 63 = .ok (.iload_n 1, 1) := by decide +kernel
theorem dX11_grate_64 : decode cX11_grate 64 = .ok (.iconst 1, 1) := by decide +kernel
theorem dX11_grate_65 : decode cX11_grate 65 = .ok (.if_icmp .ne 7, 3) := by decide +kernel
theorem dX11_grate_68 : decode cX11_grate 68 = .ok (.iload_n 2, 1) := by decide +kernel
theorem dX11_grate_69 : decode cX11_grate 69 = .ok (.goto 8, 3) := by decide +kernel
theorem dX11_grate_72 : decode cX11_grate 72 = .ok (.aload_n 0, 1) := by decide +kernel
theorem dX11_grate_73 : decode cX11_grate 73 = .ok (.iload_n 2, 1) := by decide +kernel
theorem dX11_grate_74 : decode cX11_grate 74 = .ok (.invokevirtual 174, 3) := by decide +kernel
theorem dX11_grate_77 : decode cX11_grate 77 = .ok (.ireturn, 1) := by decide +kernel
set_option maxRecDepth 20000 in
theorem ggX11_rule_X11_isMember : GoodIn wsX11_rule wsX11_isMember := goodIn_r _ [7, 8, 9, 6, 10] (by decide +kernel) (by decide +kernel)
set_option maxRecDepth 20000 in
theorem gX11_rule_X11_isMember : GoodIn wsX11_rule (va_wsS RX11 61 yX11_isMember wsX11_isMember) := goodIn_app (goodIn_of _ (by decide +kernel)) ggX11_rule_X11_isMember
theorem dX11_rule_0 : decode cX11_rule 0 = .ok (.iload_n 1, 1) := by decide +kernel
theorem dX11_rule_1 : decode cX11_rule 1 = .ok (.invokestatic 61, 3) := by decide +kernel
theorem dX11_rule_4 : decode cX11_rule 4 = .ok (.ifCond .eq 15, 3) := by decide +kernel
theorem dX11_rule_7 : decode cX11_rule 7 = .ok (.iload_n 2, 1) := by decide +kernel
theorem dX11_rule_8 : decode cX11_rule 8 = .ok (.invokestatic 61, 3) := by decide +kernel
theorem dX11_rule_11 : decode cX11_rule 11 = .ok (.ifCond .eq 8, 3) := by decide +kernel
theorem dX11_rule_14 : decode cX11_rule 14 = .ok (.iload_n 1, 1) := by decide +kernel
theorem dX11_rule_15 : decode cX11_rule 15 = .ok (.iload_n 2, 1) := by decide +kernel
theorem dX11_rule_16 : decode cX11_rule 16 = .ok (.if_icmp .ne 5, 3) := by decide +kernel
theorem dX11_rule_19 : decode cX11_rule 19 = .ok (.iconst (-1), 1) := by decide +kernel
theorem dX11_rule_20 : decode cX11_rule 20 = .ok (.ireturn, 1) := by decide +kernel
theorem dX11_rule_21 : decode cX11_rule 21 = .ok (.aload_n 0, 1) := by decide +kernel
theorem dX11_rule_22 : decode cX11_rule 22 = .ok (.getfield 145, 3) := by decide +kernel
theorem dX11_rule_25 : decode cX11_rule 25 = .ok (.bipush 10, 2) := by decide +kernel
theorem dX11_rule_27 : decode cX11_rule 27 = .ok (.if_icmp .ne 6, 3) := by decide +kernel
theorem dX11_rule_30 : decode cX11_rule 30 = .ok (.bipush (-4), 2) := by decide +kernel
theorem dX11_rule_32 : decode cX11_rule 32 = .ok (.ireturn, 1) := by decide +kernel
theorem dX11_rule_33 : decode cX11_rule 33 = .ok (.aload_n 0, 1) := by decide +kernel
theorem dX11_rule_34 : decode cX11_rule 34 = .ok (.getfield 28, 3) := by decide +kernel
theorem dX11_rule_37 : decode cX11_rule 37 = .ok (.aload_n 0, 1) := by decide +kernel
theorem dX11_rule_38 : decode cX11_rule 38 = .ok (.getfield 145, 3) := by decide +kernel
theorem dX11_rule_41 : decode cX11_rule 41 = .ok (.iload_n 1, 1) := by decide +kernel
theorem dX11_rule_42 : decode cX11_rule 42 = .ok (.iastore, 1) := by decide +kernel
theorem dX11_rule_43 : decode cX11_rule 43 = .ok (.aload_n 0, 1) := by decide +kernel
theorem dX11_rule_44 : decode cX11_rule 44 = .ok (.getfield 31, 3) := by decide +kernel
theorem dX11_rule_47 : decode cX11_rule 47 = .ok (.aload_n 0, 1) := by decide +kernel
theorem dX11_rule_48 : decode cX11_rule 48 = .ok (.getfield 145, 3) := by decide +kernel
theorem dX11_rule_51 : decode cX11_rule 51 = .ok (.iload_n 2, 1) := by decide +kernel
theorem dX11_rule_52 : decode cX11_rule 52 = .ok (.iastore, 1) := by decide +kernel
theorem dX11_rule_53 : decode cX11_rule 53 = .ok (.aload_n 0, 1) := by decide +kernel
theorem dX11_rule_54 : decode cX11_rule 54 = .ok (.dup, 1) := by decide +kernel
theorem dX11_rule_55 : decode cX11_rule 55 = .ok (.getfield 145, 3) := by decide +kernel
theorem dX11_rule_58 : decode cX11_rule 58 = .ok (.iconst 1, 1) := by decide +kernel
theorem dX11_rule_59 : decode cX11_rule 59 = .ok (.iadd, 1) := by decide +kernel
theorem dX11_rule_60 : decode cX11_rule 60 = .ok (.putfield 145, 3) := by decide +kernel
theorem dX11_rule_63 : decode cX11_rule 63 = .ok (.aload_n 0, 1) := by decide +kernel
theorem dX11_rule_64 : decode cX11_rule 64 = .ok (.getfield 145, 3) := by decide +kernel
theorem dX11_rule_67 : decode cX11_rule 67 = .ok (.ireturn, 1) := by decide +kernel
theorem dX11_unrule_0 : decode cX11_unrule 0 = .ok (.aload_n 0, 1) := by decide +kernel
theorem dX11_unrule_1 : decode cX11_unrule 1 = .ok (.getfield 145, 3) := by decide +kernel
theorem dX11_unrule_4 : decode cX11_unrule 4 = .ok (.istore_n 1, 1) := by decide +kernel
theorem dX11_unrule_5 : decode cX11_unrule 5 = .ok (.aload_n 0, 1) := by decide +kernel
theorem dX11_unrule_6 : decode cX11_unrule 6 = .ok (.iconst 0, 1) := by decide +kernel
theorem dX11_unrule_7 : decode cX11_unrule 7 = .ok (.putfield 145, 3) := by decide +kernel
theorem dX11_unrule_10 : decode cX11_unrule 10 = .ok (.iload_n 1, 1) := by decide +kernel
theorem dX11_unrule_11 : decode cX11_unrule 11 = .ok (.ireturn, 1) := by decide +kernel
set_option maxRecDepth 20000 in
theorem ggX11_orders_X11_isRow : GoodIn wsX11_orders wsX11_isRow := goodIn_r _ [6] (by decide +kernel) (by decide +kernel)
set_option maxRecDepth 20000 in
theorem gX11_orders_X11_isRow : GoodIn wsX11_orders (va_wsS RX11 65 yX11_isRow wsX11_isRow) := goodIn_app (goodIn_of _ (by decide +kernel)) ggX11_orders_X11_isRow
set_option maxRecDepth 20000 in
theorem ggX11_orders_X11_in : GoodIn wsX11_orders wsX11_in := goodIn_r _ [9] (by decide +kernel) (by decide +kernel)
set_option maxRecDepth 20000 in
theorem gX11_orders_X11_in : GoodIn wsX11_orders (va_wsS RX11 57 yX11_in wsX11_in) := goodIn_app (goodIn_of _ (by decide +kernel)) ggX11_orders_X11_in
set_option maxRecDepth 20000 in
theorem ggX11_orders_X11_layOrders : GoodIn wsX11_orders wsX11_layOrders := goodIn_r _ [13, 1, 2, 14, 15, 16, 17, 18, 19, 20, 21, 5, 22, 23, 24, 25, 26, 27, 28, 29, 30, 31, 32, 33, 34, 35, 36, 37, 38, 39, 40, 41, 42, 43, 44, 45, 46, 47, 48, 49, 50, 51, 52, 53, 54, 7, 8, 9, 55, 56, 57, 58, 59, 60, 61, 62, 63, 64, 65, 66, 67, 68, 69, 70, 71, 72, 73, 74, 75, 76, 77, 78, 79, 80, 81, 82, 83, 84, 85, 86, 87, 88, 89, 90, 91, 92, 93, 94, 95, 96, 97, 98, 99] (by decide +kernel) (by decide +kernel)
set_option maxRecDepth 20000 in
theorem gX11_orders_X11_layOrders : GoodIn wsX11_orders (wsV RX11 170 RX11 yX11_layOrders wsX11_layOrders) := goodIn_app (goodIn_of _ (by decide +kernel)) ggX11_orders_X11_layOrders
theorem dX11_orders_0 : decode cX11_orders 0 = .ok (.iload_n 1, 1) := by decide +kernel
theorem dX11_orders_1 : decode cX11_orders 1 = .ok (.invokestatic 65, 3) := by decide +kernel
theorem dX11_orders_4 : decode cX11_orders 4 = .ok (.ifCond .eq 12, 3) := by decide +kernel
theorem dX11_orders_7 : decode cX11_orders 7 = .ok (.iload_n 2, 1) := by decide +kernel
theorem dX11_orders_8 : decode cX11_orders 8 = .ok (.iconst 0, 1) := by decide +kernel
theorem dX11_orders_9 : decode cX11_orders 9 = .ok (.iconst 1, 1) := by decide +kernel
theorem dX11_orders_10 : decode cX11_orders 10 = .ok (.invokestatic 57, 3) := by decide +kernel
theorem dX11_orders_13 : decode cX11_orders 13 = .ok (.ifCond .ne 6, 3) := by decide +kernel
theorem dX11_orders_16 : decode cX11_orders 16 = .ok (.bipush (-2), 2) := by decide +kernel
theorem dX11_orders_18 : decode cX11_orders 18 = .ok (.ireturn, 1) := by decide +kernel
theorem dX11_orders_19 : decode cX11_orders 19 = .ok (.aload_n 0, 1) := by decide +kernel
theorem dX11_orders_20 : decode cX11_orders 20 = .ok (.iload_n 1, 1) := by decide +kernel
theorem dX11_orders_21 : decode cX11_orders 21 = .ok (.invokevirtual 170, 3) := by decide +kernel
theorem dX11_orders_24 : decode cX11_orders 24 = .ok (.iload_n 2, 1) := by decide +kernel
theorem dX11_orders_25 : decode cX11_orders 25 = .ok (.ifCond .ne 10, 3) := by decide +kernel
theorem dX11_orders_28 : decode cX11_orders 28 = .ok (.aload_n 0, 1) := by decide +kernel
theorem dX11_orders_29 : decode cX11_orders 29 = .ok (.getfield 151, 3) := by decide +kernel
theorem dX11_orders_32 : decode cX11_orders 32 = .ok (.goto 7, 3) := by decide +kernel
theorem dX11_orders_35 : decode cX11_orders 35 = .ok (.aload_n 0, 1) := by decide +kernel
theorem dX11_orders_36 : decode cX11_orders 36 = .ok (.getfield 154, 3) := by decide +kernel
theorem dX11_orders_39 : decode cX11_orders 39 = .ok (.ireturn, 1) := by decide +kernel
set_option maxRecDepth 20000 in
theorem ggX11_seen_X11_in : GoodIn wsX11_seen wsX11_in := goodIn_r _ [6] (by decide +kernel) (by decide +kernel)
set_option maxRecDepth 20000 in
theorem gX11_seen_X11_in : GoodIn wsX11_seen (va_wsS RX11 57 yX11_in wsX11_in) := goodIn_app (goodIn_of _ (by decide +kernel)) ggX11_seen_X11_in
theorem dX11_seen_0 : decode cX11_seen 0 = .ok (.iload_n 1, 1) := by decide +kernel
theorem dX11_seen_1 : decode cX11_seen 1 = .ok (.iconst 0, 1) := by decide +kernel
theorem dX11_seen_2 : decode cX11_seen 2 = .ok (.bipush 16, 2) := by decide +kernel
theorem dX11_seen_4 : decode cX11_seen 4 = .ok (.invokestatic 57, 3) := by decide +kernel
theorem dX11_seen_7 : decode cX11_seen 7 = .ok (.ifCond .ne 5, 3) := by decide +kernel
theorem dX11_seen_10 : decode cX11_seen 10 = .ok (.iconst (-1), 1) := by decide +kernel
theorem dX11_seen_11 : decode cX11_seen 11 = .ok (.ireturn, 1) := by decide +kernel
theorem dX11_seen_12 : decode cX11_seen 12 = .ok (.iload_n 2, 1) := by decide +kernel
theorem dX11_seen_13 : decode cX11_seen 13 = .ok (.iconst 0, 1) := by decide +kernel
theorem dX11_seen_14 : decode cX11_seen 14 = .ok (.bipush 60, 2) := by decide +kernel
theorem dX11_seen_16 : decode cX11_seen 16 = .ok (.invokestatic 57, 3) := by decide +kernel
theorem dX11_seen_19 : decode cX11_seen 19 = .ok (.ifCond .ne 6, 3) := by decide +kernel
theorem dX11_seen_22 : decode cX11_seen 22 = .ok (.bipush (-2), 2) := by decide +kernel
theorem dX11_seen_24 : decode cX11_seen 24 = .ok (.ireturn, 1) := by decide +kernel
theorem dX11_seen_25 : decode cX11_seen 25 = .ok (.aload_n 0, 1) := by decide +kernel
theorem dX11_seen_26 : decode cX11_seen 26 = .ok (.getfield 177, 3) := by decide +kernel
theorem dX11_seen_29 : decode cX11_seen 29 = .ok (.bipush 8, 2) := by decide +kernel
theorem dX11_seen_31 : decode cX11_seen 31 = .ok (.if_icmp .ne 6, 3) := by decide +kernel
theorem dX11_seen_34 : decode cX11_seen 34 = .ok (.bipush (-4), 2) := by decide +kernel
theorem dX11_seen_36 : decode cX11_seen 36 = .ok (.ireturn, 1) := by decide +kernel
theorem dX11_seen_37 : decode cX11_seen 37 = .ok (.aload_n 0, 1) := by decide +kernel
theorem dX11_seen_38 : decode cX11_seen 38 = .ok (.getfield 34, 3) := by decide +kernel
theorem dX11_seen_41 : decode cX11_seen 41 = .ok (.iconst 2, 1) := by decide +kernel
theorem dX11_seen_42 : decode cX11_seen 42 = .ok (.aload_n 0, 1) := by decide +kernel
theorem dX11_seen_43 : decode cX11_seen 43 = .ok (.getfield 177, 3) := by decide +kernel
theorem dX11_seen_46 : decode cX11_seen 46 = .ok (.imul, 1) := by decide +kernel
theorem dX11_seen_47 : decode cX11_seen 47 = .ok (.iload_n 1, 1) := by decide +kernel
theorem dX11_seen_48 : decode cX11_seen 48 = .ok (.iastore, 1) := by decide +kernel
theorem dX11_seen_49 : decode cX11_seen 49 = .ok (.aload_n 0, 1) := by decide +kernel
theorem dX11_seen_50 : decode cX11_seen 50 = .ok (.getfield 34, 3) := by decide +kernel
theorem dX11_seen_53 : decode cX11_seen 53 = .ok (.iconst 2, 1) := by decide +kernel
theorem dX11_seen_54 : decode cX11_seen 54 = .ok (.aload_n 0, 1) := by decide +kernel
theorem dX11_seen_55 : decode cX11_seen 55 = .ok (.getfield 177, 3) := by decide +kernel
theorem dX11_seen_58 : decode cX11_seen 58 = .ok (.imul, 1) := by decide +kernel
theorem dX11_seen_59 : decode cX11_seen 59 = .ok (.iconst 1, 1) := by decide +kernel
theorem dX11_seen_60 : decode cX11_seen 60 = .ok (.iadd, 1) := by decide +kernel
theorem dX11_seen_61 : decode cX11_seen 61 = .ok (.iload_n 2, 1) := by decide +kernel
theorem dX11_seen_62 : decode cX11_seen 62 = .ok (.iastore, 1) := by decide +kernel
theorem dX11_seen_63 : decode cX11_seen 63 = .ok (.aload_n 0, 1) := by decide +kernel
theorem dX11_seen_64 : decode cX11_seen 64 = .ok (.dup, 1) := by decide +kernel
theorem dX11_seen_65 : decode cX11_seen 65 = .ok (.getfield 177, 3) := by decide +kernel
theorem dX11_seen_68 : decode cX11_seen 68 = .ok (.iconst 1, 1) := by decide +kernel
theorem dX11_seen_69 : decode cX11_seen 69 = .ok (.iadd, 1) := by decide +kernel
theorem dX11_seen_70 : decode cX11_seen 70 = .ok (.putfield 177, 3) := by decide +kernel
theorem dX11_seen_73 : decode cX11_seen 73 = .ok (.aload_n 0, 1) := by decide +kernel
theorem dX11_seen_74 : decode cX11_seen 74 = .ok (.getfield 177, 3) := by decide +kernel
theorem dX11_seen_77 : decode cX11_seen 77 = .ok (.ireturn, 1) := by decide +kernel
theorem dX11_forget_0 : decode cX11_forget 0 = .ok (.aload_n 0, 1) := by decide +kernel
theorem dX11_forget_1 : decode cX11_forget 1 = .ok (.getfield 177, 3) := by decide +kernel
theorem dX11_forget_4 : decode cX11_forget 4 = .ok (.istore_n 1, 1) := by decide +kernel
theorem dX11_forget_5 : decode cX11_forget 5 = .ok (.aload_n 0, 1) := by decide +kernel
theorem dX11_forget_6 : decode cX11_forget 6 = .ok (.iconst 0, 1) := by decide +kernel
theorem dX11_forget_7 : decode cX11_forget 7 = .ok (.putfield 177, 3) := by decide +kernel
theorem dX11_forget_10 : decode cX11_forget 10 = .ok (.iload_n 1, 1) := by decide +kernel
theorem dX11_forget_11 : decode cX11_forget 11 = .ok (.ireturn, 1) := by decide +kernel
set_option maxRecDepth 20000 in
theorem ggX11_cellOf_X11_in : GoodIn wsX11_cellOf wsX11_in := goodIn_r _ [5] (by decide +kernel) (by decide +kernel)
set_option maxRecDepth 20000 in
theorem gX11_cellOf_X11_in : GoodIn wsX11_cellOf (va_wsS RX11 57 yX11_in wsX11_in) := goodIn_app (goodIn_of _ (by decide +kernel)) ggX11_cellOf_X11_in
theorem dX11_cellOf_0 : decode cX11_cellOf 0 = .ok (.iload_n 3, 1) := by decide +kernel
theorem dX11_cellOf_1 : decode cX11_cellOf 1 = .ok (.aload_n 0, 1) := by decide +kernel
theorem dX11_cellOf_2 : decode cX11_cellOf 2 = .ok (.getfield 25, 3) := by decide +kernel
theorem dX11_cellOf_5 : decode cX11_cellOf 5 = .ok (.iload_n 1, 1) := by decide +kernel
theorem dX11_cellOf_6 : decode cX11_cellOf 6 = .ok (.bipush 6, 2) := by decide +kernel
theorem dX11_cellOf_8 : decode cX11_cellOf 8 = .ok (.idiv, 1) := by decide +kernel
theorem dX11_cellOf_9 : decode cX11_cellOf 9 = .ok (.iaload, 1) := by decide +kernel
theorem dX11_cellOf_10 : decode cX11_cellOf 10 = .ok (.isub, 1) := by decide +kernel
theorem dX11_cellOf_11 : decode cX11_cellOf 11 = .ok (.iload_n 1, 1) := by decide +kernel
theorem dX11_cellOf_12 : decode cX11_cellOf 12 = .ok (.bipush 6, 2) := by decide +kernel
theorem dX11_cellOf_14 : decode cX11_cellOf 14 = .ok (.irem, 1) := by decide +kernel
theorem dX11_cellOf_15 : decode cX11_cellOf 15 = .ok (.isub, 1) := by decide +kernel
theorem dX11_cellOf_16 : decode cX11_cellOf 16 = .ok (.iload_n 2, 1) := by decide +kernel
theorem dX11_cellOf_17 : decode cX11_cellOf 17 = .ok (.isub, 1) := by decide +kernel
theorem dX11_cellOf_18 : decode cX11_cellOf 18 = .ok (.istore 4, 2) := by decide +kernel
theorem dX11_cellOf_20 : decode cX11_cellOf 20 = .ok (.iload 4, 2) := by decide +kernel
theorem dX11_cellOf_22 : decode cX11_cellOf 22 = .ok (.iconst 0, 1) := by decide +kernel
theorem dX11_cellOf_23 : decode cX11_cellOf 23 = .ok (.bipush 16, 2) := by decide +kernel
theorem dX11_cellOf_25 : decode cX11_cellOf 25 = .ok (.invokestatic 57, 3) := by decide +kernel
theorem dX11_cellOf_28 : decode cX11_cellOf 28 = .ok (.ifCond .ne 8, 3) := by decide +kernel
theorem dX11_cellOf_31 : decode cX11_cellOf 31 = .ok (.bipush 17, 2) := by decide +kernel
theorem dX11_cellOf_33 : decode cX11_cellOf 33 = .ok (.goto 19, 3) := by decide +kernel
theorem dX11_cellOf_36 : decode cX11_cellOf 36 = .ok (.iload_n 1, 1) := by decide +kernel
theorem dX11_cellOf_37 : decode cX11_cellOf 37 = .ok (.bipush 6, 2) := by decide +kernel
theorem dX11_cellOf_39 : decode cX11_cellOf 39 = .ok (.if_icmp .ge 8, 3) := by decide +kernel
theorem dX11_cellOf_42 : decode cX11_cellOf 42 = .ok (.iload 4, 2) := by decide +kernel
theorem dX11_cellOf_44 : decode cX11_cellOf 44 = .ok (.goto 8, 3) := by decide +kernel
theorem dX11_cellOf_47 : decode cX11_cellOf 47 = .ok (.bipush 16, 2) := by decide +kernel
theorem dX11_cellOf_49 : decode cX11_cellOf 49 = .ok (.iload 4, 2) := by decide +kernel
theorem dX11_cellOf_51 : decode cX11_cellOf 51 = .ok (.isub, 1) := by decide +kernel
theorem dX11_cellOf_52 : decode cX11_cellOf 52 = .ok (.ireturn, 1) := by decide +kernel
set_option maxRecDepth 20000 in
theorem ggX11_fits_X11_cellOf : GoodIn wsX11_fits wsX11_cellOf := goodIn_r _ [8, 9, 10, 11, 7, 12, 13, 14, 15, 16, 17, 18, 19, 20, 21, 22, 23, 24, 25, 26, 27, 28, 29, 30, 31, 32, 33, 34, 35, 36, 37, 38, 39, 40, 41, 42] (by decide +kernel) (by decide +kernel)
set_option maxRecDepth 20000 in
theorem gX11_fits_X11_cellOf : GoodIn wsX11_fits (wsV RX11 180 RX11 yX11_cellOf wsX11_cellOf) := goodIn_app (goodIn_of _ (by decide +kernel)) ggX11_fits_X11_cellOf
theorem dX11_fits_0 : decode cX11_fits 0 = .ok (.iload_n 1, 1) := by decide +kernel
theorem dX11_fits_1 : decode cX11_fits 1 = .ok (.bipush 6, 2) := by decide +kernel
theorem dX11_fits_3 : decode cX11_fits 3 = .ok (.irem, 1) := by decide +kernel
theorem dX11_fits_4 : decode cX11_fits 4 = .ok (.aload_n 0, 1) := by decide +kernel
theorem dX11_fits_5 : decode cX11_fits 5 = .ok (.getfield 7, 3) := by decide +kernel
theorem dX11_fits_8 : decode cX11_fits 8 = .ok (.bipush 12, 2) := by decide +kernel
theorem dX11_fits_10 : decode cX11_fits 10 = .ok (.iload_n 1, 1) := by decide +kernel
theorem dX11_fits_11 : decode cX11_fits 11 = .ok (.bipush 6, 2) := by decide +kernel
theorem dX11_fits_13 : decode cX11_fits 13 = .ok (.idiv, 1) := by decide +kernel
theorem dX11_fits_14 : decode cX11_fits 14 = .ok (.iadd, 1) := by decide +kernel
theorem dX11_fits_15 : decode cX11_fits 15 = .ok (.iaload, 1) := by decide +kernel
theorem dX11_fits_16 : decode cX11_fits 16 = .ok (.if_icmp .ge 7, 3) := by decide +kernel
theorem dX11_fits_19 : decode cX11_fits 19 = .ok (.iconst 1, 1) := by decide +kernel
theorem dX11_fits_20 : decode cX11_fits 20 = .ok (.goto 4, 3) := by decide +kernel
theorem dX11_fits_23 : decode cX11_fits 23 = .ok (.iconst 0, 1) := by decide +kernel
theorem dX11_fits_24 : decode cX11_fits 24 = .ok (.istore_n 3, 1) := by decide +kernel
theorem dX11_fits_25 : decode cX11_fits 25 = .ok (.iconst 0, 1) := by decide +kernel
theorem dX11_fits_26 : decode cX11_fits 26 = .ok (.istore 4, 2) := by decide +kernel
theorem dX11_fits_28 : decode cX11_fits 28 = .ok (.iload 4, 2) := by decide +kernel
theorem dX11_fits_30 : decode cX11_fits 30 = .ok (.aload_n 0, 1) := by decide +kernel
theorem dX11_fits_31 : decode cX11_fits 31 = .ok (.getfield 177, 3) := by decide +kernel
theorem dX11_fits_34 : decode cX11_fits 34 = .ok (.if_icmp .ge 48, 3) := by decide +kernel
theorem dX11_fits_37 : decode cX11_fits 37 = .ok (.iload_n 3, 1) := by decide +kernel
theorem dX11_fits_38 : decode cX11_fits 38 = .ok (.ifCond .eq 44, 3) := by decide +kernel
theorem dX11_fits_41 : decode cX11_fits 41 = .ok (.aload_n 0, 1) := by decide +kernel
theorem dX11_fits_42 : decode cX11_fits 42 = .ok (.iload_n 1, 1) := by decide +kernel
theorem dX11_fits_43 : decode cX11_fits 43 = .ok (.iload_n 2, 1) := by decide +kernel
theorem dX11_fits_44 : decode cX11_fits 44 = .ok (.aload_n 0, 1) := by decide +kernel
theorem dX11_fits_45 : decode cX11_fits 45 = .ok (.getfield 34, 3) := by decide +kernel
theorem dX11_fits_48 : decode cX11_fits 48 = .ok (.iconst 2, 1) := by decide +kernel
theorem dX11_fits_49 : decode cX11_fits 49 = .ok (.iload 4, 2) := by decide +kernel
theorem dX11_fits_51 : decode cX11_fits 51 = .ok (.imul, 1) := by decide +kernel
theorem dX11_fits_52 : decode cX11_fits 52 = .ok (.iconst 1, 1) := by decide +kernel
theorem dX11_fits_53 : decode cX11_fits 53 = .ok (.iadd, 1) := by decide +kernel
theorem dX11_fits_54 : decode cX11_fits 54 = .ok (.iaload, 1) := by decide +kernel
theorem dX11_fits_55 : decode cX11_fits 55 = .ok (.invokevirtual 180, 3) := by decide +kernel
theorem dX11_fits_58 : decode cX11_fits 58 = .ok (.aload_n 0, 1) := by decide +kernel
theorem dX11_fits_59 : decode cX11_fits 59 = .ok (.getfield 34, 3) := by decide +kernel
theorem dX11_fits_62 : decode cX11_fits 62 = .ok (.iconst 2, 1) := by decide +kernel
theorem dX11_fits_63 : decode cX11_fits 63 = .ok (.iload 4, 2) := by decide +kernel
theorem dX11_fits_65 : decode cX11_fits 65 = .ok (.imul, 1) := by decide +kernel
theorem dX11_fits_66 : decode cX11_fits 66 = .ok (.iaload, 1) := by decide +kernel
theorem dX11_fits_67 : decode cX11_fits 67 = .ok (.if_icmp .ne 7, 3) := by decide +kernel
theorem dX11_fits_70 : decode cX11_fits 70 = .ok (.iconst 1, 1) := by decide +kernel
theorem dX11_fits_71 : decode cX11_fits 71 = .ok (.goto 4, 3) := by decide +kernel
theorem dX11_fits_74 : decode cX11_fits 74 = .ok (.iconst 0, 1) := by decide +kernel
theorem dX11_fits_75 : decode cX11_fits 75 = .ok (.istore_n 3, 1) := by decide +kernel
theorem dX11_fits_76 : decode cX11_fits 76 = .ok (.iinc 4 1, 3) := by decide +kernel
theorem dX11_fits_79 : decode cX11_fits 79 = .ok (.goto (-51), 3) := by decide +kernel
theorem dX11_fits_82 : decode cX11_fits 82 = .ok (.iload_n 3, 1) := by decide +kernel
theorem dX11_fits_83 : decode cX11_fits 83 = .ok (.ireturn, 1) := by decide +kernel
set_option maxRecDepth 20000 in
theorem ggX11_who_X11_in : GoodIn wsX11_who wsX11_in := goodIn_r _ [5] (by decide +kernel) (by decide +kernel)
set_option maxRecDepth 20000 in
theorem gX11_who_X11_in : GoodIn wsX11_who (va_wsS RX11 57 yX11_in wsX11_in) := goodIn_app (goodIn_of _ (by decide +kernel)) ggX11_who_X11_in
set_option maxRecDepth 20000 in
theorem ggX11_who_X11_fits : GoodIn wsX11_who wsX11_fits := goodIn_r _ [9, 1, 10, 11, 12, 13, 14, 4, 15, 16, 2, 3, 5, 17, 18, 19, 20, 21, 22, 23, 24, 25, 26, 27, 28, 29, 30, 31, 32, 33, 34, 35, 36, 37, 38, 39, 40, 41, 42, 43, 44, 45, 46] (by decide +kernel) (by decide +kernel)
set_option maxRecDepth 20000 in
theorem gX11_who_X11_fits : GoodIn wsX11_who (wsV RX11 184 RX11 yX11_fits wsX11_fits) := goodIn_app (goodIn_of _ (by decide +kernel)) ggX11_who_X11_fits
theorem dX11_who_0 : decode cX11_who 0 = .ok (.iload_n 1, 1) := by decide +kernel
theorem dX11_who_1 : decode cX11_who 1 = .ok (.iconst 0, 1) := by decide +kernel
theorem dX11_who_2 : decode cX11_who 2 = .ok (.iconst 2, 1) := by decide +kernel
theorem dX11_who_3 : decode cX11_who 3 = .ok (.invokestatic 57, 3) := by decide +kernel
theorem dX11_who_6 : decode cX11_who 6 = .ok (.ifCond .ne 6, 3) := by decide +kernel
theorem dX11_who_9 : decode cX11_who 9 = .ok (.bipush (-2), 2) := by decide +kernel
theorem dX11_who_11 : decode cX11_who 11 = .ok (.ireturn, 1) := by decide +kernel
theorem dX11_who_12 : decode cX11_who 12 = .ok (.iconst 0, 1) := by decide +kernel
theorem dX11_who_13 : decode cX11_who 13 = .ok (.istore_n 2, 1) := by decide +kernel
theorem dX11_who_14 : decode cX11_who 14 = .ok (.iconst 0, 1) := by decide +kernel
theorem dX11_who_15 : decode cX11_who 15 = .ok (.istore_n 3, 1) := by decide +kernel
theorem dX11_who_16 : decode cX11_who 16 = .ok (.iconst 0, 1) := by decide +kernel
theorem dX11_who_17 : decode cX11_who 17 = .ok (.istore 4, 2) := by decide +kernel
theorem dX11_who_19 : decode cX11_who 19 = .ok (.iconst 0, 1) := by decide +kernel
theorem dX11_who_20 : decode cX11_who 20 = .ok (.istore 5, 2) := by decide +kernel
theorem dX11_who_22 : decode cX11_who 22 = .ok (.iload 5, 2) := by decide +kernel
theorem dX11_who_24 : decode cX11_who 24 = .ok (.bipush 12, 2) := by decide +kernel
theorem dX11_who_26 : decode cX11_who 26 = .ok (.if_icmp .ge 60, 3) := by decide +kernel
theorem dX11_who_29 : decode cX11_who 29 = .ok (.iconst 0, 1) := by decide +kernel
theorem dX11_who_30 : decode cX11_who 30 = .ok (.istore 6, 2) := by decide +kernel
theorem dX11_who_32 : decode cX11_who 32 = .ok (.iload 6, 2) := by decide +kernel
theorem dX11_who_34 : decode cX11_who 34 = .ok (.bipush 10, 2) := by decide +kernel
theorem dX11_who_36 : decode cX11_who 36 = .ok (.if_icmp .ge 44, 3) := by decide +kernel
theorem dX11_who_39 : decode cX11_who 39 = .ok (.aload_n 0, 1) := by decide +kernel
theorem dX11_who_40 : decode cX11_who 40 = .ok (.iload 5, 2) := by decide +kernel
theorem dX11_who_42 : decode cX11_who 42 = .ok (.iload 6, 2) := by decide +kernel
theorem dX11_who_44 : decode cX11_who 44 = .ok (.invokevirtual 184, 3) := by decide +kernel
theorem dX11_who_47 : decode cX11_who 47 = .ok (.ifCond .eq 27, 3) := by decide +kernel
theorem dX11_who_50 : decode cX11_who 50 = .ok (.iinc 2 1, 3) := by decide +kernel
theorem dX11_who_53 : decode cX11_who 53 = .ok (.iload_n 3, 1) := by decide +kernel
theorem dX11_who_54 : decode cX11_who 54 = .ok (.iconst 1, 1) := by decide +kernel
theorem dX11_who_55 : decode cX11_who 55 = .ok (.aload_n 0, 1) := by decide +kernel
theorem dX11_who_56 : decode cX11_who 56 = .ok (.getfield 7, 3) := by decide +kernel
theorem dX11_who_59 : decode cX11_who 59 = .ok (.iload 5, 2) := by decide +kernel
theorem dX11_who_61 : decode cX11_who 61 = .ok (.iaload, 1) := by decide +kernel
theorem dX11_who_62 : decode cX11_who 62 = .ok (.ishl, 1) := by decide +kernel
theorem dX11_who_63 : decode cX11_who 63 = .ok (.ior, 1) := by decide +kernel
theorem dX11_who_64 : decode cX11_who 64 = .ok (.istore_n 3, 1) := by decide +kernel
theorem dX11_who_65 : decode cX11_who 65 = .ok (.iload 4, 2) := by decide +kernel
theorem dX11_who_67 : decode cX11_who 67 = .ok (.iconst 1, 1) := by decide +kernel
theorem dX11_who_68 : decode cX11_who 68 = .ok (.iload 6, 2) := by decide +kernel
theorem dX11_who_70 : decode cX11_who 70 = .ok (.ishl, 1) := by decide +kernel
theorem dX11_who_71 : decode cX11_who 71 = .ok (.ior, 1) := by decide +kernel
theorem dX11_who_72 : decode cX11_who 72 = .ok (.istore 4, 2) := by decide +kernel
theorem dX11_who_74 : decode cX11_who 74 = .ok (.iinc 6 1, 3) := by decide +kernel
theorem dX11_who_77 : decode cX11_who 77 = .ok (.goto (-45), 3) := by decide +kernel
theorem dX11_who_80 : decode cX11_who 80 = .ok (.iinc 5 1, 3) := by decide +kernel
theorem dX11_who_83 : decode cX11_who 83 = .ok (.goto (-61), 3) := by decide +kernel
theorem dX11_who_86 : decode cX11_who 86 = .ok (.iload_n 1, 1) := by decide +kernel
theorem dX11_who_87 : decode cX11_who 87 = .ok (.ifCond .ne 7, 3) := by decide +kernel
theorem dX11_who_90 : decode cX11_who 90 = .ok (.iload_n 2, 1) := by decide +kernel
theorem dX11_who_91 : decode cX11_who 91 = .ok (.goto 14, 3) := by decide +kernel
theorem dX11_who_94 : decode cX11_who 94 = .ok (.iload_n 1, 1) := by decide +kernel
theorem dX11_who_95 : decode cX11_who 95 = .ok (.iconst 1, 1) := by decide +kernel
theorem dX11_who_96 : decode cX11_who 96 = .ok (.if_icmp .ne 7, 3) := by decide +kernel
theorem dX11_who_99 : decode cX11_who 99 = .ok (.iload_n 3, 1) := by decide +kernel
theorem dX11_who_100 : decode cX11_who 100 = .ok (.goto 5, 3) := by decide +kernel
theorem dX11_who_103 : decode cX11_who 103 = .ok (.iload 4, 2) := by decide +kernel
theorem dX11_who_105 : decode cX11_who 105 = .ok (.ireturn, 1) := by decide +kernel
set_option maxRecDepth 20000 in
theorem ggX11_look_X11_in : GoodIn wsX11_look wsX11_in := goodIn_r _ [7] (by decide +kernel) (by decide +kernel)
set_option maxRecDepth 20000 in
theorem gX11_look_X11_in : GoodIn wsX11_look (va_wsS RX11 57 yX11_in wsX11_in) := goodIn_app (goodIn_of _ (by decide +kernel)) ggX11_look_X11_in
set_option maxRecDepth 20000 in
theorem ggX11_look_X11_fits : GoodIn wsX11_look wsX11_fits := goodIn_r _ [11, 12, 13, 14, 15, 16, 17, 6, 18, 19, 4, 5, 7, 20, 21, 22, 23, 24, 25, 26, 27, 28, 29, 30, 31, 32, 33, 34, 35, 36, 37, 38, 39, 40, 41, 42, 43, 44, 45, 46, 47, 48, 49] (by decide +kernel) (by decide +kernel)
set_option maxRecDepth 20000 in
theorem gX11_look_X11_fits : GoodIn wsX11_look (wsV RX11 184 RX11 yX11_fits wsX11_fits) := goodIn_app (goodIn_of _ (by decide +kernel)) ggX11_look_X11_fits
set_option maxRecDepth 20000 in
theorem ggX11_look_X11_cellOf : GoodIn wsX11_look wsX11_cellOf := goodIn_r _ [18, 19, 4, 5, 6, 7, 20, 21, 22, 23, 24, 25, 26, 27, 28, 29, 30, 31, 32, 33, 34, 35, 36, 37, 38, 39, 40, 41, 42, 43, 44, 45, 46, 47, 48, 49] (by decide +kernel) (by decide +kernel)
set_option maxRecDepth 20000 in
theorem gX11_look_X11_cellOf : GoodIn wsX11_look (wsV RX11 180 RX11 yX11_cellOf wsX11_cellOf) := goodIn_app (goodIn_of _ (by decide +kernel)) ggX11_look_X11_cellOf
theorem dX11_look_0 : decode cX11_look 0 = .ok (.iload_n 1, 1) := by decide +kernel
theorem dX11_look_1 : decode cX11_look 1 = .ok (.iconst 0, 1) := by decide +kernel
theorem dX11_look_2 : decode cX11_look 2 = .ok (.iconst 1, 1) := by decide +kernel
theorem dX11_look_3 : decode cX11_look 3 = .ok (.invokestatic 57, 3) := by decide +kernel
theorem dX11_look_6 : decode cX11_look 6 = .ok (.ifCond .ne 6, 3) := by decide +kernel
theorem dX11_look_9 : decode cX11_look 9 = .ok (.bipush (-2), 2) := by decide +kernel
theorem dX11_look_11 : decode cX11_look 11 = .ok (.ireturn, 1) := by decide +kernel
theorem dX11_look_12 : decode cX11_look 12 = .ok (.iconst 0, 1) := by decide +kernel
theorem dX11_look_13 : decode cX11_look 13 = .ok (.istore_n 2, 1) := by decide +kernel
theorem dX11_look_14 : decode cX11_look 14 = .ok (.iload_n 2, 1) := by decide +kernel
theorem dX11_look_15 : decode cX11_look 15 = .ok (.bipush 120, 2) := by decide +kernel
theorem dX11_look_17 : decode cX11_look 17 = .ok (.if_icmp .ge 27, 3) := by decide +kernel
theorem dX11_look_20 : decode cX11_look 20 = .ok (.aload_n 0, 1) := by decide +kernel
theorem dX11_look_21 : decode cX11_look 21 = .ok (.getfield 43, 3) := by decide +kernel
theorem dX11_look_24 : decode cX11_look 24 = .ok (.iload_n 2, 1) := by decide +kernel
theorem dX11_look_25 : decode cX11_look 25 = .ok (.aload_n 0, 1) := by decide +kernel
theorem dX11_look_26 : decode cX11_look 26 = .ok (.iload_n 2, 1) := by decide +kernel
theorem dX11_look_27 : decode cX11_look 27 = .ok (.bipush 10, 2) := by decide +kernel
theorem dX11_look_29 : decode cX11_look 29 = .ok (.idiv, 1) := by decide +kernel
theorem dX11_look_30 : decode cX11_look 30 = .ok (.iload_n 2, 1) := by decide +kernel
theorem dX11_look_31 : decode cX11_look 31 = .ok (.bipush 10, 2) := by decide +kernel
theorem dX11_look_33 : decode cX11_look 33 = .ok (.irem, 1) := by decide +kernel
theorem dX11_look_34 : decode cX11_look 34 = .ok (.invokevirtual 184, 3) := by decide +kernel
theorem dX11_look_37 : decode cX11_look 37 = .ok (.bastore, 1) := by decide +kernel
theorem dX11_look_38 : decode cX11_look 38 = .ok (.iinc 2 1, 3) := by decide +kernel
theorem dX11_look_41 : decode cX11_look 41 = .ok (.goto (-27), 3) := by decide +kernel
theorem dX11_look_44 : decode cX11_look 44 = .ok (.bipush (-6), 2) := by decide +kernel
theorem dX11_look_46 : decode cX11_look 46 = .ok (.istore_n 2, 1) := by decide +kernel
theorem dX11_look_47 : decode cX11_look 47 = .ok (.ldc 157, 2) := by decide +kernel
theorem dX11_look_49 : decode cX11_look 49 = .ok (.istore_n 3, 1) := by decide +kernel
theorem dX11_look_50 : decode cX11_look 50 = .ok (.iconst 0, 1) := by decide +kernel
theorem dX11_look_51 : decode cX11_look 51 = .ok (.istore 4, 2) := by decide +kernel
theorem dX11_look_53 : decode cX11_look 53 = .ok (.iload 4, 2) := by decide +kernel
theorem dX11_look_55 : decode cX11_look 55 = .ok (.bipush 61, 2) := by decide +kernel
theorem dX11_look_57 : decode cX11_look 57 = .ok (.if_icmp .ge 159, 3) := by decide +kernel
theorem dX11_look_60 : decode cX11_look 60 = .ok (.iconst 0, 1) := by decide +kernel
