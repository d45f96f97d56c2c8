theorem dX3_firstOfFewest_1 : decode cX3_firstOfFewest 1 = .ok (.invokevirtual 38, 3) := by decide +kernel
theorem dX3_firstOfFewest_4 : decode cX3_firstOfFewest 4 = .ok (.istore_n 1, 1) := by decide +kernel
theorem dX3_firstOfFewest_5 : decode cX3_firstOfFewest 5 = .ok (.iconst 0, 1) := by decide +kernel
theorem dX3_firstOfFewest_6 : decode cX3_firstOfFewest 6 = .ok (.istore_n 2, 1) := by decide +kernel
theorem dX3_firstOfFewest_7 : decode cX3_firstOfFewest 7 = .ok (.iconst 0, 1) := by decide +kernel
theorem dX3_firstOfFewest_8 : decode cX3_firstOfFewest 8 = .ok (.istore_n 3, 1) := by decide +kernel
theorem dX3_firstOfFewest_9 : decode cX3_firstOfFewest 9 = .ok (.iload_n 3, 1) := by decide +kernel
theorem dX3_firstOfFewest_10 : decode cX3_firstOfFewest 10 = .ok (.aload_n 0, 1) := by decide +kernel
theorem dX3_firstOfFewest_11 : decode cX3_firstOfFewest 11 = .ok (.getfield 21, 3) := by decide +kernel
theorem dX3_firstOfFewest_14 : decode cX3_firstOfFewest 14 = .ok (.if_icmp .ge 84, 3) := by decide +kernel
theorem dX3_firstOfFewest_17 : decode cX3_firstOfFewest 17 = .ok (.iconst 0, 1) := by decide +kernel
theorem dX3_firstOfFewest_18 : decode cX3_firstOfFewest 18 = .ok (.istore 4, 2) := by decide +kernel
theorem dX3_firstOfFewest_20 : decode cX3_firstOfFewest 20 = .ok (.aload_n 0, 1) := by decide +kernel
theorem dX3_firstOfFewest_21 : decode cX3_firstOfFewest 21 = .ok (.getfield 21, 3) := by decide +kernel
theorem dX3_firstOfFewest_24 : decode cX3_firstOfFewest 24 = .ok (.iconst 1, 1) := by decide +kernel
theorem dX3_firstOfFewest_25 : decode cX3_firstOfFewest 25 = .ok (.isub, 1) := by decide +kernel
theorem dX3_firstOfFewest_26 : decode cX3_firstOfFewest 26 = .ok (.istore 5, 2) := by decide +kernel
theorem dX3_firstOfFewest_28 : decode cX3_firstOfFewest 28 = .ok (.iload 5, 2) := by decide +kernel
theorem dX3_firstOfFewest_30 : decode cX3_firstOfFewest 30 = .ok (.ifCond .lt 40, 3) := by decide +kernel
theorem dX3_firstOfFewest_33 : decode cX3_firstOfFewest 33 = .ok (.iload_n 1, 1) := by decide +kernel
theorem dX3_firstOfFewest_34 : decode cX3_firstOfFewest 34 = .ok (.iload 5, 2) := by decide +kernel
theorem dX3_firstOfFewest_36 : decode cX3_firstOfFewest 36 = .ok (.invokestatic 52, 3) := by decide +kernel
theorem dX3_firstOfFewest_39 : decode cX3_firstOfFewest 39 = .ok (.ifCond .eq 25, 3) := by decide +kernel
theorem dX3_firstOfFewest_42 : decode cX3_firstOfFewest 42 = .ok (.aload_n 0, 1) := by decide +kernel
theorem dX3_firstOfFewest_43 : decode cX3_firstOfFewest 43 = .ok (.iload_n 1, 1) := by decide +kernel
theorem dX3_firstOfFewest_44 : decode cX3_firstOfFewest 44 = .ok (.iload 5, 2) := by decide +kernel
theorem dX3_firstOfFewest_46 : decode cX3_firstOfFewest 46 = .ok (.invokevirtual 56, 3) := by decide +kernel
theorem dX3_firstOfFewest_49 : decode cX3_firstOfFewest 49 = .ok (.aload_n 0, 1) := by decide +kernel
theorem dX3_firstOfFewest_50 : decode cX3_firstOfFewest 50 = .ok (.getfield 18, 3) := by decide +kernel
theorem dX3_firstOfFewest_53 : decode cX3_firstOfFewest 53 = .ok (.iload_n 1, 1) := by decide +kernel
theorem dX3_firstOfFewest_54 : decode cX3_firstOfFewest 54 = .ok (.invokestatic 30, 3) := by decide +kernel
theorem dX3_firstOfFewest_57 : decode cX3_firstOfFewest 57 = .ok (.if_icmp .ne 7, 3) := by decide +kernel
theorem dX3_firstOfFewest_60 : decode cX3_firstOfFewest 60 = .ok (.iload 5, 2) := by decide +kernel
theorem dX3_firstOfFewest_62 : decode cX3_firstOfFewest 62 = .ok (.istore 4, 2) := by decide +kernel
theorem dX3_firstOfFewest_64 : decode cX3_firstOfFewest 64 = .ok (.iinc 5 (-1), 3) := by decide +kernel
theorem dX3_firstOfFewest_67 : decode cX3_firstOfFewest 67 = .ok (.goto (-39), 3) := by decide +kernel
theorem dX3_firstOfFewest_70 : decode cX3_firstOfFewest 70 = .ok (.bipush 10, 2) := by decide +kernel
theorem dX3_firstOfFewest_72 : decode cX3_firstOfFewest 72 = .ok (.iload_n 2, 1) := by decide +kernel
theorem dX3_firstOfFewest_73 : decode cX3_firstOfFewest 73 = .ok (.imul, 1) := by decide +kernel
theorem dX3_firstOfFewest_74 : decode cX3_firstOfFewest 74 = .ok (.aload_n 0, 1) := by decide +kernel
theorem dX3_firstOfFewest_75 : decode cX3_firstOfFewest 75 = .ok (.getfield 9, 3) := by decide +kernel
theorem dX3_firstOfFewest_78 : decode cX3_firstOfFewest 78 = .ok (.iload 4, 2) := by decide +kernel
theorem dX3_firstOfFewest_80 : decode cX3_firstOfFewest 80 = .ok (.invokestatic 30, 3) := by decide +kernel
theorem dX3_firstOfFewest_83 : decode cX3_firstOfFewest 83 = .ok (.iadd, 1) := by decide +kernel
theorem dX3_firstOfFewest_84 : decode cX3_firstOfFewest 84 = .ok (.istore_n 2, 1) := by decide +kernel
theorem dX3_firstOfFewest_85 : decode cX3_firstOfFewest 85 = .ok (.iload_n 1, 1) := by decide +kernel
theorem dX3_firstOfFewest_86 : decode cX3_firstOfFewest 86 = .ok (.iload 4, 2) := by decide +kernel
theorem dX3_firstOfFewest_88 : decode cX3_firstOfFewest 88 = .ok (.invokestatic 70, 3) := by decide +kernel
theorem dX3_firstOfFewest_91 : decode cX3_firstOfFewest 91 = .ok (.istore_n 1, 1) := by decide +kernel
theorem dX3_firstOfFewest_92 : decode cX3_firstOfFewest 92 = .ok (.iinc 3 1, 3) := by decide +kernel
theorem dX3_firstOfFewest_95 : decode cX3_firstOfFewest 95 = .ok (.goto (-86), 3) := by decide +kernel
theorem dX3_firstOfFewest_98 : decode cX3_firstOfFewest 98 = .ok (.iload_n 2, 1) := by decide +kernel
theorem dX3_firstOfFewest_99 : decode cX3_firstOfFewest 99 = .ok (.ireturn, 1) := by decide +kernel
set_option maxRecDepth 20000 in
theorem ggX3_countOrders_X3_all : GoodIn wsX3_countOrders wsX3_all := goodIn_r _ [7, 2, 28, 29, 30, 31] (by decide +kernel) (by decide +kernel)
set_option maxRecDepth 20000 in
theorem gX3_countOrders_X3_all : GoodIn wsX3_countOrders (wsV RX3 38 RX3 yX3_all wsX3_all) := goodIn_app (goodIn_of _ (by decide +kernel)) ggX3_countOrders_X3_all
set_option maxRecDepth 20000 in
theorem ggX3_countOrders_X10_put : GoodIn wsX3_countOrders wsX10_put := goodIn_r _ [10] (by decide +kernel) (by decide +kernel)
set_option maxRecDepth 20000 in
theorem gX3_countOrders_X10_put_n34 : GoodIn wsX3_countOrders (wsX10_put) := ggX3_countOrders_X10_put
set_option maxRecDepth 20000 in
theorem ggX3_countOrders_X3_holds : GoodIn wsX3_countOrders wsX3_holds := goodIn_r _ [13] (by decide +kernel) (by decide +kernel)
set_option maxRecDepth 20000 in
theorem gX3_countOrders_X3_holds : GoodIn wsX3_countOrders (va_wsS RX3 52 yX3_holds wsX3_holds) := goodIn_app (goodIn_of _ (by decide +kernel)) ggX3_countOrders_X3_holds
set_option maxRecDepth 20000 in
theorem ggX3_countOrders_X3_mayLead : GoodIn wsX3_countOrders wsX3_mayLead := goodIn_r _ [17, 18, 19, 9, 20, 21, 22, 23, 6, 24, 2, 11, 12, 13, 32, 33, 34, 28, 29, 30, 31] (by decide +kernel) (by decide +kernel)
set_option maxRecDepth 20000 in
theorem gX3_countOrders_X3_mayLead : GoodIn wsX3_countOrders (wsV RX3 73 RX3 yX3_mayLead wsX3_mayLead) := goodIn_app (goodIn_of _ (by decide +kernel)) ggX3_countOrders_X3_mayLead
set_option maxRecDepth 20000 in
theorem ggX3_countOrders_X3_without : GoodIn wsX3_countOrders wsX3_without := goodIn_r _ [27] (by decide +kernel) (by decide +kernel)
set_option maxRecDepth 20000 in
theorem gX3_countOrders_X3_without : GoodIn wsX3_countOrders (va_wsS RX3 70 yX3_without wsX3_without) := goodIn_app (goodIn_of _ (by decide +kernel)) ggX3_countOrders_X3_without
set_option maxRecDepth 20000 in
theorem ggX3_countOrders_X10_at : GoodIn wsX3_countOrders wsX10_at := goodIn_r _ [20] (by decide +kernel) (by decide +kernel)
set_option maxRecDepth 20000 in
theorem gX3_countOrders_X10_at_n30 : GoodIn wsX3_countOrders (wsX10_at) := ggX3_countOrders_X10_at
theorem dX3_countOrders_0 : decode cX3_countOrders 0 = .ok (.aload_n 0, 1) := by decide +kernel
theorem dX3_countOrders_1 : decode cX3_countOrders 1 = .ok (.invokevirtual 38, 3) := by decide +kernel
theorem dX3_countOrders_4 : decode cX3_countOrders 4 = .ok (.istore_n 2, 1) := by decide +kernel
theorem dX3_countOrders_5 : decode cX3_countOrders 5 = .ok (.aload_n 0, 1) := by decide +kernel
theorem dX3_countOrders_6 : decode cX3_countOrders 6 = .ok (.getfield 18, 3) := by decide +kernel
theorem dX3_countOrders_9 : decode cX3_countOrders 9 = .ok (.iconst 0, 1) := by decide +kernel
theorem dX3_countOrders_10 : decode cX3_countOrders 10 = .ok (.iconst 1, 1) := by decide +kernel
theorem dX3_countOrders_11 : decode cX3_countOrders 11 = .ok (.invokestatic 34, 3) := by decide +kernel
theorem dX3_countOrders_14 : decode cX3_countOrders 14 = .ok (.iconst 1, 1) := by decide +kernel
theorem dX3_countOrders_15 : decode cX3_countOrders 15 = .ok (.istore_n 3, 1) := by decide +kernel
theorem dX3_countOrders_16 : decode cX3_countOrders 16 = .ok (.iload_n 3, 1) := by decide +kernel
theorem dX3_countOrders_17 : decode cX3_countOrders 17 = .ok (.iload_n 2, 1) := by decide +kernel
theorem dX3_countOrders_18 : decode cX3_countOrders 18 = .ok (.if_icmp .gt 78, 3) := by decide +kernel
theorem dX3_countOrders_21 : decode cX3_countOrders 21 = .ok (.iconst 0, 1) := by decide +kernel
theorem dX3_countOrders_22 : decode cX3_countOrders 22 = .ok (.istore 4, 2) := by decide +kernel
theorem dX3_countOrders_24 : decode cX3_countOrders 24 = .ok (.iconst 0, 1) := by decide +kernel
theorem dX3_countOrders_25 : decode cX3_countOrders 25 = .ok (.istore 5, 2) := by decide +kernel
theorem dX3_countOrders_27 : decode cX3_countOrders 27 = .ok (.iload 5, 2) := by decide +kernel
theorem dX3_countOrders_29 : decode cX3_countOrders 29 = .ok (.aload_n 0, 1) := by decide +kernel
theorem dX3_countOrders_30 : decode cX3_countOrders 30 = .ok (.getfield 21, 3) := by decide +kernel
theorem dX3_countOrders_33 : decode cX3_countOrders 33 = .ok (.if_icmp .ge 47, 3) := by decide +kernel
theorem dX3_countOrders_36 : decode cX3_countOrders 36 = .ok (.iload_n 3, 1) := by decide +kernel
theorem dX3_countOrders_37 : decode cX3_countOrders 37 = .ok (.iload 5, 2) := by decide +kernel
theorem dX3_countOrders_39 : decode cX3_countOrders 39 = .ok (.invokestatic 52, 3) := by decide +kernel
theorem dX3_countOrders_42 : decode cX3_countOrders 42 = .ok (.ifCond .eq 32, 3) := by decide +kernel
theorem dX3_countOrders_45 : decode cX3_countOrders 45 = .ok (.aload_n 0, 1) := by decide +kernel
theorem dX3_countOrders_46 : decode cX3_countOrders 46 = .ok (.aload_n 1, 1) := by decide +kernel
theorem dX3_countOrders_47 : decode cX3_countOrders 47 = .ok (.iload_n 3, 1) := by decide +kernel
theorem dX3_countOrders_48 : decode cX3_countOrders 48 = .ok (.iload 5, 2) := by decide +kernel
theorem dX3_countOrders_50 : decode cX3_countOrders 50 = .ok (.invokevirtual 73, 3) := by decide +kernel
theorem dX3_countOrders_53 : decode cX3_countOrders 53 = .ok (.ifCond .eq 21, 3) := by decide +kernel
theorem dX3_countOrders_56 : decode cX3_countOrders 56 = .ok (.iload 4, 2) := by decide +kernel
theorem dX3_countOrders_58 : decode cX3_countOrders 58 = .ok (.aload_n 0, 1) := by decide +kernel
theorem dX3_countOrders_59 : decode cX3_countOrders 59 = .ok (.getfield 18, 3) := by decide +kernel
theorem dX3_countOrders_62 : decode cX3_countOrders 62 = .ok (.iload_n 3, 1) := by decide +kernel
theorem dX3_countOrders_63 : decode cX3_countOrders 63 = .ok (.iload 5, 2) := by decide +kernel
theorem dX3_countOrders_65 : decode cX3_countOrders 65 = .ok (.invokestatic 70, 3) := by decide +kernel
theorem dX3_countOrders_68 : decode cX3_countOrders 68 = .ok (.invokestatic 30, 3) := by decide +kernel
theorem dX3_countOrders_71 : decode cX3_countOrders 71 = .ok (.iadd, 1) := by decide +kernel
theorem dX3_countOrders_72 : decode cX3_countOrders 72 = .ok (.istore 4, 2) := by decide +kernel
theorem dX3_countOrders_74 : decode cX3_countOrders 74 = .ok (.iinc 5 1, 3) := by decide +kernel
theorem dX3_countOrders_77 : decode cX3_countOrders 77 = .ok (.goto (-50), 3) := by decide +kernel
theorem dX3_countOrders_80 : decode cX3_countOrders 80 = .ok (.aload_n 0, 1) := by decide +kernel
theorem dX3_countOrders_81 : decode cX3_countOrders 81 = .ok (.getfield 18, 3) := by decide +kernel
theorem dX3_countOrders_84 : decode cX3_countOrders 84 = .ok (.iload_n 3, 1) := by decide +kernel
theorem dX3_countOrders_85 : decode cX3_countOrders 85 = .ok (.iload 4, 2) := by decide +kernel
theorem dX3_countOrders_87 : decode cX3_countOrders 87 = .ok (.invokestatic 34, 3) := by decide +kernel
theorem dX3_countOrders_90 : decode cX3_countOrders 90 = .ok (.iinc 3 1, 3) := by decide +kernel
theorem dX3_countOrders_93 : decode cX3_countOrders 93 = .ok (.goto (-77), 3) := by decide +kernel
theorem dX3_countOrders_96 : decode cX3_countOrders 96 = .ok (.return_, 1) := by decide +kernel
set_option maxRecDepth 20000 in
theorem ggX3_mayLead_X10_at : GoodIn wsX3_mayLead wsX10_at := goodIn_r _ [4] (by decide +kernel) (by decide +kernel)
set_option maxRecDepth 20000 in
theorem gX3_mayLead_X10_at_n30 : GoodIn wsX3_mayLead (wsX10_at) := ggX3_mayLead_X10_at
set_option maxRecDepth 20000 in
theorem ggX3_mayLead_X3_holdsMember : GoodIn wsX3_mayLead wsX3_holdsMember := goodIn_r _ [9, 10, 1, 11, 12, 8, 13, 2, 3, 4, 17, 18, 19, 20] (by decide +kernel) (by decide +kernel)
set_option maxRecDepth 20000 in
theorem gX3_mayLead_X3_holdsMember : GoodIn wsX3_mayLead (wsV RX3 88 RX3 yX3_holdsMember wsX3_holdsMember) := goodIn_app (goodIn_of _ (by decide +kernel)) ggX3_mayLead_X3_holdsMember
theorem dX3_mayLead_0 : decode cX3_mayLead 0 = .ok (.aload_n 1, 1) := by decide +kernel
theorem dX3_mayLead_1 : decode cX3_mayLead 1 = .ok (.ifnonnull 5, 3) := by decide +kernel
theorem dX3_mayLead_4 : decode cX3_mayLead 4 = .ok (.iconst 1, 1) := by decide +kernel
theorem dX3_mayLead_5 : decode cX3_mayLead 5 = .ok (.ireturn, 1) := by decide +kernel
theorem dX3_mayLead_6 : decode cX3_mayLead 6 = .ok (.iconst 0, 1) := by decide +kernel
theorem dX3_mayLead_7 : decode cX3_mayLead 7 = .ok (.istore 4, 2) := by decide +kernel
theorem dX3_mayLead_9 : decode cX3_mayLead 9 = .ok (.iload 4, 2) := by decide +kernel
theorem dX3_mayLead_11 : decode cX3_mayLead 11 = .ok (.aload_n 1, 1) := by decide +kernel
theorem dX3_mayLead_12 : decode cX3_mayLead 12 = .ok (.getfield 77, 3) := by decide +kernel
theorem dX3_mayLead_15 : decode cX3_mayLead 15 = .ok (.if_icmp .ge 48, 3) := by decide +kernel
theorem dX3_mayLead_18 : decode cX3_mayLead 18 = .ok (.aload_n 1, 1) := by decide +kernel
theorem dX3_mayLead_19 : decode cX3_mayLead 19 = .ok (.getfield 82, 3) := by decide +kernel
theorem dX3_mayLead_22 : decode cX3_mayLead 22 = .ok (.iload 4, 2) := by decide +kernel
theorem dX3_mayLead_24 : decode cX3_mayLead 24 = .ok (.invokestatic 30, 3) := by decide +kernel
theorem dX3_mayLead_27 : decode cX3_mayLead 27 = .ok (.aload_n 0, 1) := by decide +kernel
theorem dX3_mayLead_28 : decode cX3_mayLead 28 = .ok (.getfield 9, 3) := by decide +kernel
theorem dX3_mayLead_31 : decode cX3_mayLead 31 = .ok (.iload_n 3, 1) := by decide +kernel
theorem dX3_mayLead_32 : decode cX3_mayLead 32 = .ok (.invokestatic 30, 3) := by decide +kernel
theorem dX3_mayLead_35 : decode cX3_mayLead 35 = .ok (.if_icmp .ne 22, 3) := by decide +kernel
theorem dX3_mayLead_38 : decode cX3_mayLead 38 = .ok (.aload_n 0, 1) := by decide +kernel
theorem dX3_mayLead_39 : decode cX3_mayLead 39 = .ok (.iload_n 2, 1) := by decide +kernel
theorem dX3_mayLead_40 : decode cX3_mayLead 40 = .ok (.aload_n 1, 1) := by decide +kernel
theorem dX3_mayLead_41 : decode cX3_mayLead 41 = .ok (.getfield 85, 3) := by decide +kernel
theorem dX3_mayLead_44 : decode cX3_mayLead 44 = .ok (.iload 4, 2) := by decide +kernel
theorem dX3_mayLead_46 : decode cX3_mayLead 46 = .ok (.invokestatic 30, 3) := by decide +kernel
theorem dX3_mayLead_49 : decode cX3_mayLead 49 = .ok (.invokevirtual 88, 3) := by decide +kernel
theorem dX3_mayLead_52 : decode cX3_mayLead 52 = .ok (.ifCond .eq 5, 3) := by decide +kernel
theorem dX3_mayLead_55 : decode cX3_mayLead 55 = .ok (.iconst 0, 1) := by decide +kernel
theorem dX3_mayLead_56 : decode cX3_mayLead 56 = .ok (.ireturn, 1) := by decide +kernel
theorem dX3_mayLead_57 : decode cX3_mayLead 57 = .ok (.iinc 4 1, 3) := by decide +kernel
theorem dX3_mayLead_60 : decode cX3_mayLead 60 = .ok (.goto (-51), 3) := by decide +kernel
theorem dX3_mayLead_63 : decode cX3_mayLead 63 = .ok (.iconst 1, 1) := by decide +kernel
theorem dX3_mayLead_64 : decode cX3_mayLead 64 = .ok (.ireturn, 1) := by decide +kernel
set_option maxRecDepth 20000 in
theorem ggX3_firstByRules_X3_answerForAll : GoodIn wsX3_firstByRules wsX3_answerForAll := goodIn_r _ [7, 8, 9, 10, 11, 6, 12, 1, 13, 14, 15, 30, 31, 32, 33] (by decide +kernel) (by decide +kernel)
set_option maxRecDepth 20000 in
theorem gX3_firstByRules_X3_answerForAll : GoodIn wsX3_firstByRules (wsV RX3 91 RX3 yX3_answerForAll wsX3_answerForAll) := goodIn_app (goodIn_of _ (by decide +kernel)) ggX3_firstByRules_X3_answerForAll
set_option maxRecDepth 20000 in
theorem ggX3_firstByRules_X3_all : GoodIn wsX3_firstByRules wsX3_all := goodIn_r _ [12, 1, 30, 31, 32, 33] (by decide +kernel) (by decide +kernel)
set_option maxRecDepth 20000 in
theorem gX3_firstByRules_X3_all : GoodIn wsX3_firstByRules (wsV RX3 38 RX3 yX3_all wsX3_all) := goodIn_app (goodIn_of _ (by decide +kernel)) ggX3_firstByRules_X3_all
set_option maxRecDepth 20000 in
theorem ggX3_firstByRules_X3_holds : GoodIn wsX3_firstByRules wsX3_holds := goodIn_r _ [18] (by decide +kernel) (by decide +kernel)
set_option maxRecDepth 20000 in
theorem gX3_firstByRules_X3_holds : GoodIn wsX3_firstByRules (va_wsS RX3 52 yX3_holds wsX3_holds) := goodIn_app (goodIn_of _ (by decide +kernel)) ggX3_firstByRules_X3_holds
set_option maxRecDepth 20000 in
theorem ggX3_firstByRules_X3_mayLead : GoodIn wsX3_firstByRules wsX3_mayLead := goodIn_r _ [22, 2, 13, 14, 15, 23, 24, 25, 6, 26, 1, 16, 17, 18, 34, 35, 36, 30, 31, 32, 33] (by decide +kernel) (by decide +kernel)
set_option maxRecDepth 20000 in
theorem gX3_firstByRules_X3_mayLead : GoodIn wsX3_firstByRules (wsV RX3 73 RX3 yX3_mayLead wsX3_mayLead) := goodIn_app (goodIn_of _ (by decide +kernel)) ggX3_firstByRules_X3_mayLead
set_option maxRecDepth 20000 in
theorem ggX3_firstByRules_X10_at : GoodIn wsX3_firstByRules wsX10_at := goodIn_r _ [15] (by decide +kernel) (by decide +kernel)
set_option maxRecDepth 20000 in
theorem gX3_firstByRules_X10_at_n30 : GoodIn wsX3_firstByRules (wsX10_at) := ggX3_firstByRules_X10_at
set_option maxRecDepth 20000 in
theorem ggX3_firstByRules_X3_without : GoodIn wsX3_firstByRules wsX3_without := goodIn_r _ [29] (by decide +kernel) (by decide +kernel)
set_option maxRecDepth 20000 in
theorem gX3_firstByRules_X3_without : GoodIn wsX3_firstByRules (va_wsS RX3 70 yX3_without wsX3_without) := goodIn_app (goodIn_of _ (by decide +kernel)) ggX3_firstByRules_X3_without
theorem dX3_firstByRules_0 : decode cX3_firstByRules 0 = .ok (.aload_n 0, 1) := by decide +kernel
theorem dX3_firstByRules_1 : decode cX3_firstByRules 1 = .ok (.invokevirtual 91, 3) := by decide +kernel
theorem dX3_firstByRules_4 : decode cX3_firstByRules 4 = .ok (.ifCond .ne 6, 3) := by decide +kernel
theorem dX3_firstByRules_7 : decode cX3_firstByRules 7 = .ok (.bipush (-6), 2) := by decide +kernel
theorem dX3_firstByRules_9 : decode cX3_firstByRules 9 = .ok (.ireturn, 1) := by decide +kernel
theorem dX3_firstByRules_10 : decode cX3_firstByRules 10 = .ok (.aload_n 0, 1) := by decide +kernel
theorem dX3_firstByRules_11 : decode cX3_firstByRules 11 = .ok (.invokevirtual 38, 3) := by decide +kernel
theorem dX3_firstByRules_14 : decode cX3_firstByRules 14 = .ok (.istore_n 2, 1) := by decide +kernel
theorem dX3_firstByRules_15 : decode cX3_firstByRules 15 = .ok (.iconst 0, 1) := by decide +kernel
theorem dX3_firstByRules_16 : decode cX3_firstByRules 16 = .ok (.istore_n 3, 1) := by decide +kernel
theorem dX3_firstByRules_17 : decode cX3_firstByRules 17 = .ok (.iconst 0, 1) := by decide +kernel
theorem dX3_firstByRules_18 : decode cX3_firstByRules 18 = .ok (.istore 4, 2) := by decide +kernel
theorem dX3_firstByRules_20 : decode cX3_firstByRules 20 = .ok (.iload 4, 2) := by decide +kernel
theorem dX3_firstByRules_22 : decode cX3_firstByRules 22 = .ok (.aload_n 0, 1) := by decide +kernel
theorem dX3_firstByRules_23 : decode cX3_firstByRules 23 = .ok (.getfield 21, 3) := by decide +kernel
theorem dX3_firstByRules_26 : decode cX3_firstByRules 26 = .ok (.if_icmp .ge 77, 3) := by decide +kernel
theorem dX3_firstByRules_29 : decode cX3_firstByRules 29 = .ok (.iconst 0, 1) := by decide +kernel
theorem dX3_firstByRules_30 : decode cX3_firstByRules 30 = .ok (.istore 5, 2) := by decide +kernel
theorem dX3_firstByRules_32 : decode cX3_firstByRules 32 = .ok (.aload_n 0, 1) := by decide +kernel
theorem dX3_firstByRules_33 : decode cX3_firstByRules 33 = .ok (.getfield 21, 3) := by decide +kernel
theorem dX3_firstByRules_36 : decode cX3_firstByRules 36 = .ok (.iconst 1, 1) := by decide +kernel
theorem dX3_firstByRules_37 : decode cX3_firstByRules 37 = .ok (.isub, 1) := by decide +kernel
theorem dX3_firstByRules_38 : decode cX3_firstByRules 38 = .ok (.istore 6, 2) := by decide +kernel
theorem dX3_firstByRules_40 : decode cX3_firstByRules 40 = .ok (.iload 6, 2) := by decide +kernel
theorem dX3_firstByRules_42 : decode cX3_firstByRules 42 = .ok (.ifCond .lt 33, 3) := by decide +kernel
theorem dX3_firstByRules_45 : decode cX3_firstByRules 45 = .ok (.iload_n 2, 1) := by decide +kernel
theorem dX3_firstByRules_46 : decode cX3_firstByRules 46 = .ok (.iload 6, 2) := by decide +kernel
theorem dX3_firstByRules_48 : decode cX3_firstByRules 48 = .ok (.invokestatic 52, 3) := by decide +kernel
theorem dX3_firstByRules_51 : decode cX3_firstByRules 51 = .ok (.ifCond .eq 18, 3) := by decide +kernel
theorem dX3_firstByRules_54 : decode cX3_firstByRules 54 = .ok (.aload_n 0, 1) := by decide +kernel
theorem dX3_firstByRules_55 : decode cX3_firstByRules 55 = .ok (.aload_n 1, 1) := by decide +kernel
theorem dX3_firstByRules_56 : decode cX3_firstByRules 56 = .ok (.iload_n 2, 1) := by decide +kernel
theorem dX3_firstByRules_57 : decode cX3_firstByRules 57 = .ok (.iload 6, 2) := by decide +kernel
theorem dX3_firstByRules_59 : decode cX3_firstByRules 59 = .ok (.invokevirtual 73, 3) := by decide +kernel
theorem dX3_firstByRules_62 : decode cX3_firstByRules 62 = .ok (.ifCond .eq 7, 3) := by decide +kernel
theorem dX3_firstByRules_65 : decode cX3_firstByRules 65 = .ok (.iload 6, 2) := by decide +kernel
theorem dX3_firstByRules_67 : decode cX3_firstByRules 67 = .ok (.istore 5, 2) := by decide +kernel
theorem dX3_firstByRules_69 : decode cX3_firstByRules 69 = .ok (.iinc 6 (-1), 3) := by decide +kernel
theorem dX3_firstByRules_72 : decode cX3_firstByRules 72 = .ok (.goto (-32), 3) := by decide +kernel
theorem dX3_firstByRules_75 : decode cX3_firstByRules 75 = .ok (.bipush 10, 2) := by decide +kernel
theorem dX3_firstByRules_77 : decode cX3_firstByRules 77 = .ok (.iload_n 3, 1) := by decide +kernel
theorem dX3_firstByRules_78 : decode cX3_firstByRules 78 = .ok (.imul, 1) := by decide +kernel
theorem dX3_firstByRules_79 : decode cX3_firstByRules 79 = .ok (.aload_n 0, 1) := by decide +kernel
theorem dX3_firstByRules_80 : decode cX3_firstByRules 80 = .ok (.getfield 9, 3) := by decide +kernel
theorem dX3_firstByRules_83 : decode cX3_firstByRules 83 = .ok (.iload 5, 2) := by decide +kernel
theorem dX3_firstByRules_85 : decode cX3_firstByRules 85 = .ok (.invokestatic 30, 3) := by decide +kernel
theorem dX3_firstByRules_88 : decode cX3_firstByRules 88 = .ok (.iadd, 1) := by decide +kernel
theorem dX3_firstByRules_89 : decode cX3_firstByRules 89 = .ok (.istore_n 3, 1) := by decide +kernel
theorem dX3_firstByRules_90 : decode cX3_firstByRules 90 = .ok (.iload_n 2, 1) := by decide +kernel
theorem dX3_firstByRules_91 : decode cX3_firstByRules 91 = .ok (.iload 5, 2) := by decide +kernel
theorem dX3_firstByRules_93 : decode cX3_firstByRules 93 = .ok (.invokestatic 70, 3) := by decide +kernel
theorem dX3_firstByRules_96 : decode cX3_firstByRules 96 = .ok (.istore_n 2, 1) := by decide +kernel
theorem dX3_firstByRules_97 : decode cX3_firstByRules 97 = .ok (.iinc 4 1, 3) := by decide +kernel
theorem dX3_firstByRules_100 : decode cX3_firstByRules 100 = .ok (.goto (-80), 3) := by decide +kernel
theorem dX3_firstByRules_103 : decode cX3_firstByRules 103 = .ok (.iload_n 3, 1) := by decide +kernel
theorem dX3_firstByRules_104 : decode cX3_firstByRules 104 = .ok (.ireturn, 1) := by decide +kernel
set_option maxRecDepth 20000 in
theorem ggX3_holdsMember_X3_holds : GoodIn wsX3_holdsMember wsX3_holds := goodIn_r _ [6] (by decide +kernel) (by decide +kernel)
set_option maxRecDepth 20000 in
theorem gX3_holdsMember_X3_holds : GoodIn wsX3_holdsMember (va_wsS RX3 52 yX3_holds wsX3_holds) := goodIn_app (goodIn_of _ (by decide +kernel)) ggX3_holdsMember_X3_holds
set_option maxRecDepth 20000 in
theorem ggX3_holdsMember_X10_at : GoodIn wsX3_holdsMember wsX10_at := goodIn_r _ [9] (by decide +kernel) (by decide +kernel)
set_option maxRecDepth 20000 in
theorem gX3_holdsMember_X10_at_n30 : GoodIn wsX3_holdsMember (wsX10_at) := ggX3_holdsMember_X10_at
theorem dX3_holdsMember_0 : decode cX3_holdsMember 0 = .ok (.iconst 0, 1) := by decide +kernel
theorem dX3_holdsMember_1 : decode cX3_holdsMember 1 = .ok (.istore_n 3, 1) := by decide +kernel
theorem dX3_holdsMember_2 : decode cX3_holdsMember 2 = .ok (.iload_n 3, 1) := by decide +kernel
theorem dX3_holdsMember_3 : decode cX3_holdsMember 3 = .ok (.aload_n 0, 1) := by decide +kernel
theorem dX3_holdsMember_4 : decode cX3_holdsMember 4 = .ok (.getfield 21, 3) := by decide +kernel
theorem dX3_holdsMember_7 : decode cX3_holdsMember 7 = .ok (.if_icmp .ge 31, 3) := by decide +kernel
theorem dX3_holdsMember_10 : decode cX3_holdsMember 10 = .ok (.iload_n 1, 1) := by decide +kernel
theorem dX3_holdsMember_11 : decode cX3_holdsMember 11 = .ok (.iload_n 3, 1) := by decide +kernel
theorem dX3_holdsMember_12 : decode cX3_holdsMember 12 = .ok (.invokestatic 52, 3) := by decide +kernel
theorem dX3_holdsMember_15 : decode cX3_holdsMember 15 = .ok (.ifCond .eq 17, 3) := by decide +kernel
theorem dX3_holdsMember_18 : decode cX3_holdsMember 18 = .ok (.aload_n 0, 1) := by decide +kernel
theorem dX3_holdsMember_19 : decode cX3_holdsMember 19 = .ok (.getfield 9, 3) := by decide +kernel
theorem dX3_holdsMember_22 : decode cX3_holdsMember 22 = .ok (.iload_n 3, 1) := by decide +kernel
theorem dX3_holdsMember_23 : decode cX3_holdsMember 23 = .ok (.invokestatic 30, 3) := by decide +kernel
theorem dX3_holdsMember_26 : decode cX3_holdsMember 26 = .ok (.iload_n 2, 1) := by decide +kernel
theorem dX3_holdsMember_27 : decode cX3_holdsMember 27 = .ok (.if_icmp .ne 5, 3) := by decide +kernel
theorem dX3_holdsMember_30 : decode cX3_holdsMember 30 = .ok (.iconst 1, 1) := by decide +kernel
theorem dX3_holdsMember_31 : decode cX3_holdsMember 31 = .ok (.ireturn, 1) := by decide +kernel
theorem dX3_holdsMember_32 : decode cX3_holdsMember 32 = .ok (.iinc 3 1, 3) := by decide +kernel
theorem dX3_holdsMember_35 : decode cX3_holdsMember 35 = .ok (.goto (-33), 3) := by decide +kernel
theorem dX3_holdsMember_38 : decode cX3_holdsMember 38 = .ok (.iconst 0, 1) := by decide +kernel
theorem dX3_holdsMember_39 : decode cX3_holdsMember 39 = .ok (.ireturn, 1) := by decide +kernel
theorem dX3_holds_0 : decode cX3_holds 0 = .ok (.iload_n 0, 1) := by decide +kernel
theorem dX3_holds_1 : decode cX3_holds 1 = .ok (.iconst 1, 1) := by decide +kernel
theorem dX3_holds_2 : decode cX3_holds 2 = .ok (.iload_n 1, 1) := by decide +kernel
theorem dX3_holds_3 : decode cX3_holds 3 = .ok (.ishl, 1) := by decide +kernel
theorem dX3_holds_4 : decode cX3_holds 4 = .ok (.iand, 1) := by decide +kernel
theorem dX3_holds_5 : decode cX3_holds 5 = .ok (.ifCond .eq 7, 3) := by decide +kernel
theorem dX3_holds_8 : decode cX3_holds 8 = .ok (.iconst 1, 1) := by decide +kernel
theorem dX3_holds_9 : decode cX3_holds 9 = .ok (.goto 4, 3) := by decide +kernel
theorem dX3_holds_12 : decode cX3_holds 12 = .ok (.iconst 0, 1) := by decide +kernel
theorem dX3_holds_13 : decode cX3_holds 13 = .ok (.ireturn, 1) := by decide +kernel
theorem dX3_without_0 : decode cX3_without 0 = .ok (.iload_n 0, 1) := by decide +kernel
theorem dX3_without_1 : decode cX3_without 1 = .ok (.iconst 1, 1) := by decide +kernel
theorem dX3_without_2 : decode cX3_without 2 = .ok (.iload_n 1, 1) := by decide +kernel
theorem dX3_without_3 : decode cX3_without 3 = .ok (.ishl, 1) := by decide +kernel
theorem dX3_without_4 : decode cX3_without 4 = .ok (.iconst (-1), 1) := by decide +kernel
theorem dX3_without_5 : decode cX3_without 5 = .ok (.ixor, 1) := by decide +kernel
theorem dX3_without_6 : decode cX3_without 6 = .ok (.iand, 1) := by decide +kernel
theorem dX3_without_7 : decode cX3_without 7 = .ok (.ireturn, 1) := by decide +kernel
theorem dX4_init_0 : decode cX4_init 0 = .ok (.aload_n 0, 1) := by decide +kernel
theorem dX4_init_1 : decode cX4_init 1 = .ok (.invokespecial 3, 3) := by decide +kernel
theorem dX4_init_4 : decode cX4_init 4 = .ok (.aload_n 0, 1) := by decide +kernel
theorem dX4_init_5 : decode cX4_init 5 = .ok (.bipush 60, 2) := by decide +kernel
theorem dX4_init_7 : decode cX4_init 7 = .ok (.newarray .int, 2) := by decide +kernel
theorem dX4_init_9 : decode cX4_init 9 = .ok (.putfield 9, 3) := by decide +kernel
theorem dX4_init_12 : decode cX4_init 12 = .ok (.aload_n 0, 1) := by decide +kernel
theorem dX4_init_13 : decode cX4_init 13 = .ok (.iconst 0, 1) := by decide +kernel
theorem dX4_init_14 : decode cX4_init 14 = .ok (.putfield 15, 3) := by decide +kernel
theorem dX4_init_17 : decode cX4_init 17 = .ok (.return_, 1) := by decide +kernel
set_option maxRecDepth 20000 in
theorem ggX4_write_X10_put : GoodIn wsX4_write wsX10_put := goodIn_r _ [5] (by decide +kernel) (by decide +kernel)
set_option maxRecDepth 20000 in
theorem gX4_write_X10_put_n19 : GoodIn wsX4_write (wsX10_put) := ggX4_write_X10_put
theorem dX4_write_0 : decode cX4_write 0 = .ok (.aload_n 0, 1) := by decide +kernel
theorem dX4_write_1 : decode cX4_write 1 = .ok (.getfield 15, 3) := by decide +kernel
theorem dX4_write_4 : decode cX4_write 4 = .ok (.aload_n 0, 1) := by decide +kernel
theorem dX4_write_5 : decode cX4_write 5 = .ok (.getfield 9, 3) := by decide +kernel
theorem dX4_write_8 : decode cX4_write 8 = .ok (.arraylength, 1) := by decide +kernel
theorem dX4_write_9 : decode cX4_write 9 = .ok (.if_icmp .ge 25, 3) := by decide +kernel
theorem dX4_write_12 : decode cX4_write 12 = .ok (.aload_n 0, 1) := by decide +kernel
theorem dX4_write_13 : decode cX4_write 13 = .ok (.getfield 9, 3) := by decide +kernel
theorem dX4_write_16 : decode cX4_write 16 = .ok (.aload_n 0, 1) := by decide +kernel
theorem dX4_write_17 : decode cX4_write 17 = .ok (.getfield 15, 3) := by decide +kernel
theorem dX4_write_20 : decode cX4_write 20 = .ok (.iload_n 1, 1) := by decide +kernel
theorem dX4_write_21 : decode cX4_write 21 = .ok (.invokestatic 19, 3) := by decide +kernel
theorem dX4_write_24 : decode cX4_write 24 = .ok (.aload_n 0, 1) := by decide +kernel
theorem dX4_write_25 : decode cX4_write 25 = .ok (.dup, 1) := by decide +kernel
theorem dX4_write_26 : decode cX4_write 26 = .ok (.getfield 15, 3) := by decide +kernel
theorem dX4_write_29 : decode cX4_write 29 = .ok (.iconst 1, 1) := by decide +kernel
theorem dX4_write_30 : decode cX4_write 30 = .ok (.iadd, 1) := by decide +kernel
theorem dX4_write_31 : decode cX4_write 31 = .ok (.putfield 15, 3) := by decide +kernel
theorem dX4_write_34 : decode cX4_write 34 = .ok (.return_, 1) := by decide +kernel
theorem dX4_empty_0 : decode cX4_empty 0 = .ok (.aload_n 0, 1) := by decide +kernel
theorem dX4_empty_1 : decode cX4_empty 1 = .ok (.getfield 15, 3) := by decide +kernel
theorem dX4_empty_4 : decode cX4_empty 4 = .ok (.istore_n 1, 1) := by decide +kernel
theorem dX4_empty_5 : decode cX4_empty 5 = .ok (.aload_n 0, 1) := by decide +kernel
theorem dX4_empty_6 : decode cX4_empty 6 = .ok (.iconst 0, 1) := by decide +kernel
theorem dX4_empty_7 : decode cX4_empty 7 = .ok (.putfield 15, 3) := by decide +kernel
theorem dX4_empty_10 : decode cX4_empty 10 = .ok (.iload_n 1, 1) := by decide +kernel
theorem dX4_empty_11 : decode cX4_empty 11 = .ok (.ireturn, 1) := by decide +kernel
set_option maxRecDepth 20000 in
theorem ggX4_firstFault_X10_at : GoodIn wsX4_firstFault wsX10_at := goodIn_r _ [5] (by decide +kernel) (by decide +kernel)
set_option maxRecDepth 20000 in
theorem gX4_firstFault_X10_at_n23 : GoodIn wsX4_firstFault (wsX10_at) := ggX4_firstFault_X10_at
set_option maxRecDepth 20000 in
theorem ggX4_firstFault_X4_wantsAfter : GoodIn wsX4_firstFault wsX4_wantsAfter := goodIn_r _ [9, 10, 11, 8, 12, 13, 14, 15] (by decide +kernel) (by decide +kernel)
set_option maxRecDepth 20000 in
theorem gX4_firstFault_X4_wantsAfter : GoodIn wsX4_firstFault (va_wsS RX4 27 yX4_wantsAfter wsX4_wantsAfter) := goodIn_app (goodIn_of _ (by decide +kernel)) ggX4_firstFault_X4_wantsAfter
theorem dX4_firstFault_0 : decode cX4_firstFault 0 = .ok (.iconst 0, 1) := by decide +kernel
theorem dX4_firstFault_1 : decode cX4_firstFault 1 = .ok (.istore_n 1, 1) := by decide +kernel
theorem dX4_firstFault_2 : decode cX4_firstFault 2 = .ok (.iconst 0, 1) := by decide +kernel
theorem dX4_firstFault_3 : decode cX4_firstFault 3 = .ok (.istore_n 2, 1) := by decide +kernel
theorem dX4_firstFault_4 : decode cX4_firstFault 4 = .ok (.iload_n 2, 1) := by decide +kernel
theorem dX4_firstFault_5 : decode cX4_firstFault 5 = .ok (.aload_n 0, 1) := by decide +kernel
theorem dX4_firstFault_6 : decode cX4_firstFault 6 = .ok (.getfield 15, 3) := by decide +kernel
theorem dX4_firstFault_9 : decode cX4_firstFault 9 = .ok (.if_icmp .ge 29, 3) := by decide +kernel
theorem dX4_firstFault_12 : decode cX4_firstFault 12 = .ok (.iload_n 1, 1) := by decide +kernel
theorem dX4_firstFault_13 : decode cX4_firstFault 13 = .ok (.aload_n 0, 1) := by decide +kernel
theorem dX4_firstFault_14 : decode cX4_firstFault 14 = .ok (.getfield 9, 3) := by decide +kernel
theorem dX4_firstFault_17 : decode cX4_firstFault 17 = .ok (.iload_n 2, 1) := by decide +kernel
theorem dX4_firstFault_18 : decode cX4_firstFault 18 = .ok (.invokestatic 23, 3) := by decide +kernel
theorem dX4_firstFault_21 : decode cX4_firstFault 21 = .ok (.invokestatic 27, 3) := by decide +kernel
theorem dX4_firstFault_24 : decode cX4_firstFault 24 = .ok (.istore_n 1, 1) := by decide +kernel
theorem dX4_firstFault_25 : decode cX4_firstFault 25 = .ok (.iload_n 1, 1) := by decide +kernel
theorem dX4_firstFault_26 : decode cX4_firstFault 26 = .ok (.iconst 3, 1) := by decide +kernel
theorem dX4_firstFault_27 : decode cX4_firstFault 27 = .ok (.if_icmp .ne 5, 3) := by decide +kernel
theorem dX4_firstFault_30 : decode cX4_firstFault 30 = .ok (.iload_n 2, 1) := by decide +kernel
theorem dX4_firstFault_31 : decode cX4_firstFault 31 = .ok (.ireturn, 1) := by decide +kernel
theorem dX4_firstFault_32 : decode cX4_firstFault 32 = .ok (.iinc 2 1, 3) := by decide +kernel
theorem dX4_firstFault_35 : decode cX4_firstFault 35 = .ok (.goto (-31), 3) := by decide +kernel
theorem dX4_firstFault_38 : decode cX4_firstFault 38 = .ok (.iload_n 1, 1) := by decide +kernel
theorem dX4_firstFault_39 : decode cX4_firstFault 39 = .ok (.ifCond .ne 8, 3) := by decide +kernel
theorem dX4_firstFault_42 : decode cX4_firstFault 42 = .ok (.bipush (-6), 2) := by decide +kernel
theorem dX4_firstFault_44 : decode cX4_firstFault 44 = .ok (.goto 7, 3) := by decide +kernel
theorem dX4_firstFault_47 : decode cX4_firstFault 47 = .ok (.aload_n 0, 1) := by decide +kernel
theorem dX4_firstFault_48 : decode cX4_firstFault 48 = .ok (.getfield 15, 3) := by decide +kernel
theorem dX4_firstFault_51 : decode cX4_firstFault 51 = .ok (.ireturn, 1) := by decide +kernel
set_option maxRecDepth 20000 in
theorem ggX4_wantsAfter_X4_isLetter : GoodIn wsX4_wantsAfter wsX4_isLetter := goodIn_r _ [4] (by decide +kernel) (by decide +kernel)
set_option maxRecDepth 20000 in
theorem gX4_wantsAfter_X4_isLetter : GoodIn wsX4_wantsAfter (va_wsS RX4 33 yX4_isLetter wsX4_isLetter) := goodIn_app (goodIn_of _ (by decide +kernel)) ggX4_wantsAfter_X4_isLetter
set_option maxRecDepth 20000 in
theorem ggX4_wantsAfter_X4_endsAsVerb : GoodIn wsX4_wantsAfter wsX4_endsAsVerb := goodIn_r _ [7] (by decide +kernel) (by decide +kernel)
set_option maxRecDepth 20000 in
theorem gX4_wantsAfter_X4_endsAsVerb : GoodIn wsX4_wantsAfter (va_wsS RX4 37 yX4_endsAsVerb wsX4_endsAsVerb) := goodIn_app (goodIn_of _ (by decide +kernel)) ggX4_wantsAfter_X4_endsAsVerb
theorem dX4_wantsAfter_0 : decode cX4_wantsAfter 0 = .ok (.iload_n 0, 1) := by decide +kernel
theorem dX4_wantsAfter_1 : decode cX4_wantsAfter 1 = .ok (.lookupswitch 69 #[(0, 27), (1, 48)], 27) := by decide +kernel
theorem dX4_wantsAfter_28 : decode cX4_wantsAfter 28 = .ok (.iload_n 1, 1) := by decide +kernel
theorem dX4_wantsAfter_29 : decode cX4_wantsAfter 29 = .ok (.bipush 33, 2) := by decide +kernel
theorem dX4_wantsAfter_31 : decode cX4_wantsAfter 31 = .ok (.if_icmp .ne 5, 3) := by decide +kernel
theorem dX4_wantsAfter_34 : decode cX4_wantsAfter 34 = .ok (.iconst 0, 1) := by decide +kernel
theorem dX4_wantsAfter_35 : decode cX4_wantsAfter 35 = .ok (.ireturn, 1) := by decide +kernel
theorem dX4_wantsAfter_36 : decode cX4_wantsAfter 36 = .ok (.iload_n 1, 1) := by decide +kernel
theorem dX4_wantsAfter_37 : decode cX4_wantsAfter 37 = .ok (.invokestatic 33, 3) := by decide +kernel
theorem dX4_wantsAfter_40 : decode cX4_wantsAfter 40 = .ok (.ifCond .eq 7, 3) := by decide +kernel
theorem dX4_wantsAfter_43 : decode cX4_wantsAfter 43 = .ok (.iconst 1, 1) := by decide +kernel
theorem dX4_wantsAfter_44 : decode cX4_wantsAfter 44 = .ok (.goto 4, 3) := by decide +kernel
theorem dX4_wantsAfter_47 : decode cX4_wantsAfter 47 = .ok (.iconst 3, 1) := by decide +kernel
theorem dX4_wantsAfter_48 : decode cX4_wantsAfter 48 = .ok (.ireturn, 1) := by decide +kernel
theorem dX4_wantsAfter_49 : decode cX4_wantsAfter 49 = .ok (.iload_n 1, 1) := by decide +kernel
theorem dX4_wantsAfter_50 : decode cX4_wantsAfter 50 = .ok (.bipush 120, 2) := by decide +kernel
theorem dX4_wantsAfter_52 : decode cX4_wantsAfter 52 = .ok (.if_icmp .ne 5, 3) := by decide +kernel
theorem dX4_wantsAfter_55 : decode cX4_wantsAfter 55 = .ok (.iconst 2, 1) := by decide +kernel
theorem dX4_wantsAfter_56 : decode cX4_wantsAfter 56 = .ok (.ireturn, 1) := by decide +kernel
theorem dX4_wantsAfter_57 : decode cX4_wantsAfter 57 = .ok (.iload_n 1, 1) := by decide +kernel
theorem dX4_wantsAfter_58 : decode cX4_wantsAfter 58 = .ok (.invokestatic 37, 3) := by decide +kernel
theorem dX4_wantsAfter_61 : decode cX4_wantsAfter 61 = .ok (.ifCond .eq 7, 3) := by decide +kernel
theorem dX4_wantsAfter_64 : decode cX4_wantsAfter 64 = .ok (.iconst 0, 1) := by decide +kernel
theorem dX4_wantsAfter_65 : decode cX4_wantsAfter 65 = .ok (.goto 4, 3) := by decide +kernel
theorem dX4_wantsAfter_68 : decode cX4_wantsAfter 68 = .ok (.iconst 3, 1) := by decide +kernel
theorem dX4_wantsAfter_69 : decode cX4_wantsAfter 69 = .ok (.ireturn, 1) := by decide +kernel
theorem dX4_wantsAfter_70 : decode cX4_wantsAfter 70 = .ok (.iload_n 1, 1) := by decide +kernel
theorem dX4_wantsAfter_71 : decode cX4_wantsAfter 71 = .ok (.invokestatic 33, 3) := by decide +kernel
theorem dX4_wantsAfter_74 : decode cX4_wantsAfter 74 = .ok (.ifCond .eq 7, 3) := by decide +kernel
theorem dX4_wantsAfter_77 : decode cX4_wantsAfter 77 = .ok (.iconst 0, 1) := by decide +kernel
theorem dX4_wantsAfter_78 : decode cX4_wantsAfter 78 = .ok (.goto 4, 3) := by decide +kernel
theorem dX4_wantsAfter_81 : decode cX4_wantsAfter 81 = .ok (.iconst 3, 1) := by decide +kernel
theorem dX4_wantsAfter_82 : decode cX4_wantsAfter 82 = .ok (.ireturn, 1) := by decide +kernel
theorem dX4_isLetter_0 : decode cX4_isLetter 0 = .ok (.iload_n 0, 1) := by decide +kernel
theorem dX4_isLetter_1 : decode cX4_isLetter 1 = .ok (.bipush 65, 2) := by decide +kernel
theorem dX4_isLetter_3 : decode cX4_isLetter 3 = .ok (.if_icmp .lt 13, 3) := by decide +kernel
theorem dX4_isLetter_6 : decode cX4_isLetter 6 = .ok (.iload_n 0, 1) := by decide +kernel
theorem dX4_isLetter_7 : decode cX4_isLetter 7 = .ok (.bipush 75, 2) := by decide +kernel
theorem dX4_isLetter_9 : decode cX4_isLetter 9 = .ok (.if_icmp .ge 7, 3) := by decide +kernel
theorem dX4_isLetter_12 : decode cX4_isLetter 12 = .ok (.iconst 1, 1) := by decide +kernel
theorem dX4_isLetter_13 : decode cX4_isLetter 13 = .ok (.goto 4, 3) := by decide +kernel
theorem dX4_isLetter_16 : decode cX4_isLetter 16 = .ok (.iconst 0, 1) := by decide +kernel
theorem dX4_isLetter_17 : decode cX4_isLetter 17 = .ok (.ireturn, 1) := by decide +kernel
theorem dX4_endsAsVerb_0 : decode cX4_endsAsVerb 0 = .ok (.iload_n 0, 1) := by decide +kernel
theorem dX4_endsAsVerb_1 : decode cX4_endsAsVerb 1 = .ok (.bipush 100, 2) := by decide +kernel
theorem dX4_endsAsVerb_3 : decode cX4_endsAsVerb 3 = .ok (.if_icmp .eq 15, 3) := by decide +kernel
theorem dX4_endsAsVerb_6 : decode cX4_endsAsVerb 6 = .ok (.iload_n 0, 1) := by decide +kernel
theorem dX4_endsAsVerb_7 : decode cX4_endsAsVerb 7 = .ok (.bipush 117, 2) := by decide +kernel
theorem dX4_endsAsVerb_9 : decode cX4_endsAsVerb 9 = .ok (.if_icmp .eq 9, 3) := by decide +kernel
theorem dX4_endsAsVerb_12 : decode cX4_endsAsVerb 12 = .ok (.iload_n 0, 1) := by decide +kernel
theorem dX4_endsAsVerb_13 : decode cX4_endsAsVerb 13 = .ok (.bipush 45, 2) := by decide +kernel
theorem dX4_endsAsVerb_15 : decode cX4_endsAsVerb 15 = .ok (.if_icmp .ne 7, 3) := by decide +kernel
theorem dX4_endsAsVerb_18 : decode cX4_endsAsVerb 18 = .ok (.iconst 1, 1) := by decide +kernel
theorem dX4_endsAsVerb_19 : decode cX4_endsAsVerb 19 = .ok (.goto 4, 3) := by decide +kernel
theorem dX4_endsAsVerb_22 : decode cX4_endsAsVerb 22 = .ok (.iconst 0, 1) := by decide +kernel
theorem dX4_endsAsVerb_23 : decode cX4_endsAsVerb 23 = .ok (.ireturn, 1) := by decide +kernel
set_option maxRecDepth 20000 in
theorem ggX4_kindEndingAt_X10_at : GoodIn wsX4_kindEndingAt wsX10_at := goodIn_r _ [4] (by decide +kernel) (by decide +kernel)
set_option maxRecDepth 20000 in
theorem gX4_kindEndingAt_X10_at_n23 : GoodIn wsX4_kindEndingAt (wsX10_at) := ggX4_kindEndingAt_X10_at
set_option maxRecDepth 20000 in
theorem ggX4_kindEndingAt_X4_isLetter : GoodIn wsX4_kindEndingAt wsX4_isLetter := goodIn_r _ [8] (by decide +kernel) (by decide +kernel)
set_option maxRecDepth 20000 in
theorem gX4_kindEndingAt_X4_isLetter : GoodIn wsX4_kindEndingAt (va_wsS RX4 33 yX4_isLetter wsX4_isLetter) := goodIn_app (goodIn_of _ (by decide +kernel)) ggX4_kindEndingAt_X4_isLetter
theorem dX4_kindEndingAt_0 : decode cX4_kindEndingAt 0 = .ok (.aload_n 0, 1) := by decide +kernel
theorem dX4_kindEndingAt_1 : decode cX4_kindEndingAt 1 = .ok (.getfield 9, 3) := by decide +kernel
theorem dX4_kindEndingAt_4 : decode cX4_kindEndingAt 4 = .ok (.iload_n 1, 1) := by decide +kernel
theorem dX4_kindEndingAt_5 : decode cX4_kindEndingAt 5 = .ok (.invokestatic 23, 3) := by decide +kernel
theorem dX4_kindEndingAt_8 : decode cX4_kindEndingAt 8 = .ok (.istore_n 2, 1) := by decide +kernel
theorem dX4_kindEndingAt_9 : decode cX4_kindEndingAt 9 = .ok (.iload_n 2, 1) := by decide +kernel
theorem dX4_kindEndingAt_10 : decode cX4_kindEndingAt 10 = .ok (.invokestatic 33, 3) := by decide +kernel
theorem dX4_kindEndingAt_13 : decode cX4_kindEndingAt 13 = .ok (.ifCond .eq 25, 3) := by decide +kernel
theorem dX4_kindEndingAt_16 : decode cX4_kindEndingAt 16 = .ok (.aload_n 0, 1) := by decide +kernel
theorem dX4_kindEndingAt_17 : decode cX4_kindEndingAt 17 = .ok (.getfield 9, 3) := by decide +kernel
theorem dX4_kindEndingAt_20 : decode cX4_kindEndingAt 20 = .ok (.iload_n 1, 1) := by decide +kernel
theorem dX4_kindEndingAt_21 : decode cX4_kindEndingAt 21 = .ok (.iconst 1, 1) := by decide +kernel
theorem dX4_kindEndingAt_22 : decode cX4_kindEndingAt 22 = .ok (.isub, 1) := by decide +kernel
theorem dX4_kindEndingAt_23 : decode cX4_kindEndingAt 23 = .ok (.invokestatic 23, 3) := by decide +kernel
theorem dX4_kindEndingAt_26 : decode cX4_kindEndingAt 26 = .ok (.bipush 120, 2) := by decide +kernel
theorem dX4_kindEndingAt_28 : decode cX4_kindEndingAt 28 = .ok (.if_icmp .ne 8, 3) := by decide +kernel
theorem dX4_kindEndingAt_31 : decode cX4_kindEndingAt 31 = .ok (.bipush 120, 2) := by decide +kernel
theorem dX4_kindEndingAt_33 : decode cX4_kindEndingAt 33 = .ok (.goto 4, 3) := by decide +kernel
theorem dX4_kindEndingAt_36 : decode cX4_kindEndingAt 36 = .ok (.iconst 0, 1) := by decide +kernel
theorem dX4_kindEndingAt_37 : decode cX4_kindEndingAt 37 = .ok (.ireturn, 1) := by decide +kernel
theorem dX4_kindEndingAt_38 : decode cX4_kindEndingAt 38 = .ok (.iload_n 2, 1) := by decide +kernel
theorem dX4_kindEndingAt_39 : decode cX4_kindEndingAt 39 = .ok (.bipush 120, 2) := by decide +kernel
theorem dX4_kindEndingAt_41 : decode cX4_kindEndingAt 41 = .ok (.if_icmp .ne 7, 3) := by decide +kernel
theorem dX4_kindEndingAt_44 : decode cX4_kindEndingAt 44 = .ok (.iconst 0, 1) := by decide +kernel
theorem dX4_kindEndingAt_45 : decode cX4_kindEndingAt 45 = .ok (.goto 4, 3) := by decide +kernel
theorem dX4_kindEndingAt_48 : decode cX4_kindEndingAt 48 = .ok (.iload_n 2, 1) := by decide +kernel
theorem dX4_kindEndingAt_49 : decode cX4_kindEndingAt 49 = .ok (.ireturn, 1) := by decide +kernel
set_option maxRecDepth 20000 in
theorem ggX4_memberAt_X10_at : GoodIn wsX4_memberAt wsX10_at := goodIn_r _ [4] (by decide +kernel) (by decide +kernel)
set_option maxRecDepth 20000 in
theorem gX4_memberAt_X10_at_n23 : GoodIn wsX4_memberAt (wsX10_at) := ggX4_memberAt_X10_at
theorem dX4_memberAt_0 : decode cX4_memberAt 0 = .ok (.aload_n 0, 1) := by decide +kernel
theorem dX4_memberAt_1 : decode cX4_memberAt 1 = .ok (.getfield 9, 3) := by decide +kernel
theorem dX4_memberAt_4 : decode cX4_memberAt 4 = .ok (.iload_n 1, 1) := by decide +kernel
theorem dX4_memberAt_5 : decode cX4_memberAt 5 = .ok (.invokestatic 23, 3) := by decide +kernel
theorem dX4_memberAt_8 : decode cX4_memberAt 8 = .ok (.bipush 65, 2) := by decide +kernel
theorem dX4_memberAt_10 : decode cX4_memberAt 10 = .ok (.isub, 1) := by decide +kernel
theorem dX4_memberAt_11 : decode cX4_memberAt 11 = .ok (.ireturn, 1) := by decide +kernel
theorem dX5_init_0 : decode cX5_init 0 = .ok (.aload_n 0, 1) := by decide +kernel
theorem dX5_init_1 : decode cX5_init 1 = .ok (.invokespecial 1, 3) := by decide +kernel
theorem dX5_init_4 : decode cX5_init 4 = .ok (.aload_n 0, 1) := by decide +kernel
theorem dX5_init_5 : decode cX5_init 5 = .ok (.iconst 0, 1) := by decide +kernel
theorem dX5_init_6 : decode cX5_init 6 = .ok (.putfield 7, 3) := by decide +kernel
theorem dX5_init_9 : decode cX5_init 9 = .ok (.aload_n 0, 1) := by decide +kernel
theorem dX5_init_10 : decode cX5_init 10 = .ok (.iload_n 1, 1) := by decide +kernel
theorem dX5_init_11 : decode cX5_init 11 = .ok (.iconst 0, 1) := by decide +kernel
theorem dX5_init_12 : decode cX5_init 12 = .ok (.invokestatic 13, 3) := by decide +kernel
theorem dX5_init_15 : decode cX5_init 15 = .ok (.newarray .int, 2) := by decide +kernel
theorem dX5_init_17 : decode cX5_init 17 = .ok (.putfield 19, 3) := by decide +kernel
theorem dX5_init_20 : decode cX5_init 20 = .ok (.aload_n 0, 1) := by decide +kernel
theorem dX5_init_21 : decode cX5_init 21 = .ok (.iload_n 1, 1) := by decide +kernel
theorem dX5_init_22 : decode cX5_init 22 = .ok (.iconst 0, 1) := by decide +kernel
theorem dX5_init_23 : decode cX5_init 23 = .ok (.invokestatic 13, 3) := by decide +kernel
theorem dX5_init_26 : decode cX5_init 26 = .ok (.newarray .int, 2) := by decide +kernel
theorem dX5_init_28 : decode cX5_init 28 = .ok (.putfield 23, 3) := by decide +kernel
theorem dX5_init_31 : decode cX5_init 31 = .ok (.return_, 1) := by decide +kernel
set_option maxRecDepth 20000 in
theorem ggX5_takeFrom_X10_copy : GoodIn wsX5_takeFrom wsX10_copy := goodIn_r _ [6] (by decide +kernel) (by decide +kernel)
set_option maxRecDepth 20000 in
theorem gX5_takeFrom_X10_copy_n26 : GoodIn wsX5_takeFrom (wsX10_copy) := ggX5_takeFrom_X10_copy
theorem dX5_takeFrom_0 : decode cX5_takeFrom 0 = .ok (.aload_n 1, 1) := by decide +kernel
theorem dX5_takeFrom_1 : decode cX5_takeFrom 1 = .ok (.ifnonnull 4, 3) := by decide +kernel
theorem dX5_takeFrom_4 : decode cX5_takeFrom 4 = .ok (.return_, 1) := by decide +kernel
theorem dX5_takeFrom_5 : decode cX5_takeFrom 5 = .ok (.aload_n 1, 1) := by decide +kernel
theorem dX5_takeFrom_6 : decode cX5_takeFrom 6 = .ok (.getfield 19, 3) := by decide +kernel
theorem dX5_takeFrom_9 : decode cX5_takeFrom 9 = .ok (.aload_n 0, 1) := by decide +kernel
theorem dX5_takeFrom_10 : decode cX5_takeFrom 10 = .ok (.getfield 19, 3) := by decide +kernel
theorem dX5_takeFrom_13 : decode cX5_takeFrom 13 = .ok (.invokestatic 26, 3) := by decide +kernel
theorem dX5_takeFrom_16 : decode cX5_takeFrom 16 = .ok (.aload_n 1, 1) := by decide +kernel
theorem dX5_takeFrom_17 : decode cX5_takeFrom 17 = .ok (.getfield 23, 3) := by decide +kernel
theorem dX5_takeFrom_20 : decode cX5_takeFrom 20 = .ok (.aload_n 0, 1) := by decide +kernel
theorem dX5_takeFrom_21 : decode cX5_takeFrom 21 = .ok (.getfield 23, 3) := by decide +kernel
theorem dX5_takeFrom_24 : decode cX5_takeFrom 24 = .ok (.invokestatic 26, 3) := by decide +kernel
theorem dX5_takeFrom_27 : decode cX5_takeFrom 27 = .ok (.aload_n 0, 1) := by decide +kernel
theorem dX5_takeFrom_28 : decode cX5_takeFrom 28 = .ok (.aload_n 1, 1) := by decide +kernel
theorem dX5_takeFrom_29 : decode cX5_takeFrom 29 = .ok (.getfield 7, 3) := by decide +kernel
theorem dX5_takeFrom_32 : decode cX5_takeFrom 32 = .ok (.putfield 7, 3) := by decide +kernel
theorem dX5_takeFrom_35 : decode cX5_takeFrom 35 = .ok (.return_, 1) := by decide +kernel
set_option maxRecDepth 20000 in
theorem ggX5_append_X10_put : GoodIn wsX5_append wsX10_put := goodIn_r _ [6] (by decide +kernel) (by decide +kernel)
set_option maxRecDepth 20000 in
theorem gX5_append_X10_put_n32 : GoodIn wsX5_append (wsX10_put) := ggX5_append_X10_put
theorem dX5_append_0 : decode cX5_append 0 = .ok (.aload_n 0, 1) := by decide +kernel
theorem dX5_append_1 : decode cX5_append 1 = .ok (.getfield 7, 3) := by decide +kernel
theorem dX5_append_4 : decode cX5_append 4 = .ok (.aload_n 0, 1) := by decide +kernel
theorem dX5_append_5 : decode cX5_append 5 = .ok (.getfield 19, 3) := by decide +kernel
theorem dX5_append_8 : decode cX5_append 8 = .ok (.arraylength, 1) := by decide +kernel
theorem dX5_append_9 : decode cX5_append 9 = .ok (.if_icmp .ge 37, 3) := by decide +kernel
theorem dX5_append_12 : decode cX5_append 12 = .ok (.aload_n 0, 1) := by decide +kernel
theorem dX5_append_13 : decode cX5_append 13 = .ok (.getfield 19, 3) := by decide +kernel
theorem dX5_append_16 : decode cX5_append 16 = .ok (.aload_n 0, 1) := by decide +kernel
theorem dX5_append_17 : decode cX5_append 17 = .ok (.getfield 7, 3) := by decide +kernel
theorem dX5_append_20 : decode cX5_append 20 = .ok (.iload_n 1, 1) := by decide +kernel
theorem dX5_append_21 : decode cX5_append 21 = .ok (.invokestatic 32, 3) := by decide +kernel
theorem dX5_append_24 : decode cX5_append 24 = .ok (.aload_n 0, 1) := by decide +kernel
theorem dX5_append_25 : decode cX5_append 25 = .ok (.getfield 23, 3) := by decide +kernel
theorem dX5_append_28 : decode cX5_append 28 = .ok (.aload_n 0, 1) := by decide +kernel
theorem dX5_append_29 : decode cX5_append 29 = .ok (.getfield 7, 3) := by decide +kernel
theorem dX5_append_32 : decode cX5_append 32 = .ok (.iload_n 2, 1) := by decide +kernel
theorem dX5_append_33 : decode cX5_append 33 = .ok (.invokestatic 32, 3) := by decide +kernel
theorem dX5_append_36 : decode cX5_append 36 = .ok (.aload_n 0, 1) := by decide +kernel
theorem dX5_append_37 : decode cX5_append 37 = .ok (.dup, 1) := by decide +kernel
theorem dX5_append_38 : decode cX5_append 38 = .ok (.getfield 7, 3) := by decide +kernel
theorem dX5_append_41 : decode cX5_append 41 = .ok (.iconst 1, 1) := by decide +kernel
theorem dX5_append_42 : decode cX5_append 42 = .ok (.iadd, 1) := by decide +kernel
theorem dX5_append_43 : decode cX5_append 43 = .ok (.putfield 7, 3) := by decide +kernel
theorem dX5_append_46 : decode cX5_append 46 = .ok (.return_, 1) := by decide +kernel
theorem dX5_empty_0 : decode cX5_empty 0 = .ok (.aload_n 0, 1) := by decide +kernel
theorem dX5_empty_1 : decode cX5_empty 1 = .ok (.getfield 7, 3) := by decide +kernel
theorem dX5_empty_4 : decode cX5_empty 4 = .ok (.istore_n 1, 1) := by decide +kernel
theorem dX5_empty_5 : decode cX5_empty 5 = .ok (.aload_n 0, 1) := by decide +kernel
theorem dX5_empty_6 : decode cX5_empty 6 = .ok (.iconst 0, 1) := by decide +kernel
theorem dX5_empty_7 : decode cX5_empty 7 = .ok (.putfield 7, 3) := by decide +kernel
theorem dX5_empty_10 : decode cX5_empty 10 = .ok (.iload_n 1, 1) := by decide +kernel
theorem dX5_empty_11 : decode cX5_empty 11 = .ok (.ireturn, 1) := by decide +kernel
theorem dX6_init_0 : decode cX6_init 0 = .ok (.aload_n 0, 1) := by decide +kernel
theorem dX6_init_1 : decode cX6_init 1 = .ok (.invokespecial 1, 3) := by decide +kernel
theorem dX6_init_4 : decode cX6_init 4 = .ok (.aload_n 0, 1) := by decide +kernel
theorem dX6_init_5 : decode cX6_init 5 = .ok (.iconst 0, 1) := by decide +kernel
theorem dX6_init_6 : decode cX6_init 6 = .ok (.putfield 7, 3) := by decide +kernel
theorem dX6_init_9 : decode cX6_init 9 = .ok (.aload_n 0, 1) := by decide +kernel
theorem dX6_init_10 : decode cX6_init 10 = .ok (.iconst 0, 1) := by decide +kernel
theorem dX6_init_11 : decode cX6_init 11 = .ok (.putfield 13, 3) := by decide +kernel
theorem dX6_init_14 : decode cX6_init 14 = .ok (.return_, 1) := by decide +kernel
set_option maxRecDepth 20000 in
theorem ggX6_play_X8_takeFrom : GoodIn wsX6_play wsX8_takeFrom := goodIn_r _ [7, 8, 9, 10, 11, 12, 13, 14, 15, 16, 17, 18, 19, 20, 21, 22, 23, 24, 25, 26, 27, 28, 29, 30, 31, 32, 33, 86, 87, 88, 89, 90, 91, 92, 93, 94, 95, 96, 97, 98] (by decide +kernel) (by decide +kernel)
set_option maxRecDepth 20000 in
theorem gX6_play_X8_takeFrom : GoodIn wsX6_play (wsV RX6 16 RX8 yX8_takeFrom wsX8_takeFrom) := goodIn_app (goodIn_of _ (by decide +kernel)) ggX6_play_X8_takeFrom
set_option maxRecDepth 20000 in
theorem ggX6_play_X4_kindEndingAt : GoodIn wsX6_play wsX4_kindEndingAt := goodIn_r _ [38, 39, 40, 16, 41, 42, 43, 37, 44, 84, 85] (by decide +kernel) (by decide +kernel)
set_option maxRecDepth 20000 in
theorem gX6_play_X4_kindEndingAt : GoodIn wsX6_play (wsV RX6 27 RX4 yX4_kindEndingAt wsX4_kindEndingAt) := goodIn_app (goodIn_of _ (by decide +kernel)) ggX6_play_X4_kindEndingAt
set_option maxRecDepth 20000 in
theorem ggX6_play_X4_memberAt : GoodIn wsX6_play wsX4_memberAt := goodIn_r _ [48, 39, 40, 16, 41, 84, 85] (by decide +kernel) (by decide +kernel)
set_option maxRecDepth 20000 in
theorem gX6_play_X4_memberAt : GoodIn wsX6_play (wsV RX6 37 RX4 yX4_memberAt wsX4_memberAt) := goodIn_app (goodIn_of _ (by decide +kernel)) ggX6_play_X4_memberAt
set_option maxRecDepth 20000 in
theorem ggX6_play_X7_attempt : GoodIn wsX6_play wsX7_attempt := goodIn_r _ [52, 53, 54, 55, 21, 56, 23, 25, 57, 58, 59, 60, 40, 16, 41, 61, 62, 63, 64, 65, 66, 67, 68, 24, 69, 70, 71, 72, 73, 74, 75, 76, 77, 78, 79, 80, 81, 93, 94, 95] (by decide +kernel) (by decide +kernel)
set_option maxRecDepth 20000 in
theorem gX6_play_X7_attempt : GoodIn wsX6_play (wsV RX6 40 RX7 yX7_attempt wsX7_attempt) := goodIn_app (goodIn_of _ (by decide +kernel)) ggX6_play_X7_attempt
theorem dX6_play_0 : decode cX6_play 0 = .ok (.aload_n 0, 1) := by decide +kernel
theorem dX6_play_1 : decode cX6_play 1 = .ok (.iconst 0, 1) := by decide +kernel
theorem dX6_play_2 : decode cX6_play 2 = .ok (.putfield 7, 3) := by decide +kernel
theorem dX6_play_5 : decode cX6_play 5 = .ok (.aload_n 0, 1) := by decide +kernel
theorem dX6_play_6 : decode cX6_play 6 = .ok (.iconst 0, 1) := by decide +kernel
theorem dX6_play_7 : decode cX6_play 7 = .ok (.putfield 13, 3) := by decide +kernel
theorem dX6_play_10 : decode cX6_play 10 = .ok (.aload_n 1, 1) := by decide +kernel
theorem dX6_play_11 : decode cX6_play 11 = .ok (.ifnull 11, 3) := by decide +kernel
theorem dX6_play_14 : decode cX6_play 14 = .ok (.aload_n 2, 1) := by decide +kernel
theorem dX6_play_15 : decode cX6_play 15 = .ok (.ifnull 7, 3) := by decide +kernel
theorem dX6_play_18 : decode cX6_play 18 = .ok (.aload_n 3, 1) := by decide +kernel
theorem dX6_play_19 : decode cX6_play 19 = .ok (.ifnonnull 4, 3) := by decide +kernel
theorem dX6_play_22 : decode cX6_play 22 = .ok (.return_, 1) := by decide +kernel
theorem dX6_play_23 : decode cX6_play 23 = .ok (.aload_n 3, 1) := by decide +kernel
theorem dX6_play_24 : decode cX6_play 24 = .ok (.aload_n 2, 1) := by decide +kernel
theorem dX6_play_25 : decode cX6_play 25 = .ok (.invokevirtual 16, 3) := by decide +kernel
theorem dX6_play_28 : decode cX6_play 28 = .ok (.iconst 0, 1) := by decide +kernel
theorem dX6_play_29 : decode cX6_play 29 = .ok (.istore 4, 2) := by decide +kernel
theorem dX6_play_31 : decode cX6_play 31 = .ok (.iload 4, 2) := by decide +kernel
theorem dX6_play_33 : decode cX6_play 33 = .ok (.aload_n 1, 1) := by decide +kernel
theorem dX6_play_34 : decode cX6_play 34 = .ok (.getfield 22, 3) := by decide +kernel
theorem dX6_play_37 : decode cX6_play 37 = .ok (.if_icmp .ge 85, 3) := by decide +kernel
theorem dX6_play_40 : decode cX6_play 40 = .ok (.aload_n 1, 1) := by decide +kernel
theorem dX6_play_41 : decode cX6_play 41 = .ok (.iload 4, 2) := by decide +kernel
theorem dX6_play_43 : decode cX6_play 43 = .ok (.invokevirtual 27, 3) := by decide +kernel
theorem dX6_play_46 : decode cX6_play 46 = .ok (.istore 5, 2) := by decide +kernel
theorem dX6_play_48 : decode cX6_play 48 = .ok (.iload 5, 2) := by decide +kernel
theorem dX6_play_50 : decode cX6_play 50 = .ok (.ifCond .eq 66, 3) := by decide +kernel
theorem dX6_play_53 : decode cX6_play 53 = .ok (.iload 5, 2) := by decide +kernel
theorem dX6_play_55 : decode cX6_play 55 = .ok (.bipush 120, 2) := by decide +kernel
theorem dX6_play_57 : decode cX6_play 57 = .ok (.if_icmp .ne 10, 3) := by decide +kernel
theorem dX6_play_60 : decode cX6_play 60 = .ok (.iload 4, 2) := by decide +kernel
theorem dX6_play_62 : decode cX6_play 62 = .ok (.iconst 2, 1) := by decide +kernel
theorem dX6_play_63 : decode cX6_play 63 = .ok (.isub, 1) := by decide +kernel
theorem dX6_play_64 : decode cX6_play 64 = .ok (.goto 7, 3) := by decide +kernel
theorem dX6_play_67 : decode cX6_play 67 = .ok (.iload 4, 2) := by decide +kernel
theorem dX6_play_69 : decode cX6_play 69 = .ok (.iconst 1, 1) := by decide +kernel
theorem dX6_play_70 : decode cX6_play 70 = .ok (.isub, 1) := by decide +kernel
theorem dX6_play_71 : decode cX6_play 71 = .ok (.istore 6, 2) := by decide +kernel
theorem dX6_play_73 : decode cX6_play 73 = .ok (.aload_n 0, 1) := by decide +kernel
theorem dX6_play_74 : decode cX6_play 74 = .ok (.aload_n 3, 1) := by decide +kernel
theorem dX6_play_75 : decode cX6_play 75 = .ok (.getfield 33, 3) := by decide +kernel
theorem dX6_play_78 : decode cX6_play 78 = .ok (.iload 5, 2) := by decide +kernel
theorem dX6_play_80 : decode cX6_play 80 = .ok (.aload_n 1, 1) := by decide +kernel
theorem dX6_play_81 : decode cX6_play 81 = .ok (.iload 6, 2) := by decide +kernel
theorem dX6_play_83 : decode cX6_play 83 = .ok (.invokevirtual 37, 3) := by decide +kernel
theorem dX6_play_86 : decode cX6_play 86 = .ok (.aload_n 1, 1) := by decide +kernel
theorem dX6_play_87 : decode cX6_play 87 = .ok (.iload 4, 2) := by decide +kernel
theorem dX6_play_89 : decode cX6_play 89 = .ok (.invokevirtual 37, 3) := by decide +kernel
theorem dX6_play_92 : decode cX6_play 92 = .ok (.invokevirtual 40, 3) := by decide +kernel
theorem dX6_play_95 : decode cX6_play 95 = .ok (.putfield 13, 3) := by decide +kernel
theorem dX6_play_98 : decode cX6_play 98 = .ok (.aload_n 0, 1) := by decide +kernel
theorem dX6_play_99 : decode cX6_play 99 = .ok (.getfield 13, 3) := by decide +kernel
theorem dX6_play_102 : decode cX6_play 102 = .ok (.ifCond .eq 4, 3) := by decide +kernel
theorem dX6_play_105 : decode cX6_play 105 = .ok (.return_, 1) := by decide +kernel
theorem dX6_play_106 : decode cX6_play 106 = .ok (.aload_n 0, 1) := by decide +kernel
theorem dX6_play_107 : decode cX6_play 107 = .ok (.dup, 1) := by decide +kernel
theorem dX6_play_108 : decode cX6_play 108 = .ok (.getfield 7, 3) := by decide +kernel
theorem dX6_play_111 : decode cX6_play 111 = .ok (.iconst 1, 1) := by decide +kernel
theorem dX6_play_112 : decode cX6_play 112 = .ok (.iadd, 1) := by decide +kernel
theorem dX6_play_113 : decode cX6_play 113 = .ok (.putfield 7, 3) := by decide +kernel
theorem dX6_play_116 : decode cX6_play 116 = .ok (.iinc 4 1, 3) := by decide +kernel
theorem dX6_play_119 : decode cX6_play 119 = .ok (.goto (-88), 3) := by decide +kernel
theorem dX6_play_122 : decode cX6_play 122 = .ok (.return_, 1) := by decide +kernel
set_option maxRecDepth 20000 in
theorem ggX7_init_X10_fill : GoodIn wsX7_init wsX10_fill := goodIn_r _ [10] (by decide +kernel) (by decide +kernel)
set_option maxRecDepth 20000 in
theorem gX7_init_X10_fill_n22 : GoodIn wsX7_init (wsX10_fill) := ggX7_init_X10_fill
theorem dX7_init_0 : decode cX7_init 0 = .ok (.aload_n 0, 1) := by decide +kernel
theorem dX7_init_1 : decode cX7_init 1 = .ok (.invokespecial 3, 3) := by decide +kernel
theorem dX7_init_4 : decode cX7_init 4 = .ok (.aload_n 0, 1) := by decide +kernel
theorem dX7_init_5 : decode cX7_init 5 = .ok (.bipush 10, 2) := by decide +kernel
theorem dX7_init_7 : decode cX7_init 7 = .ok (.newarray .int, 2) := by decide +kernel
theorem dX7_init_9 : decode cX7_init 9 = .ok (.putfield 9, 3) := by decide +kernel
theorem dX7_init_12 : decode cX7_init 12 = .ok (.aload_n 0, 1) := by decide +kernel
theorem dX7_init_13 : decode cX7_init 13 = .ok (.bipush 10, 2) := by decide +kernel
theorem dX7_init_15 : decode cX7_init 15 = .ok (.newarray .int, 2) := by decide +kernel
theorem dX7_init_17 : decode cX7_init 17 = .ok (.putfield 15, 3) := by decide +kernel
theorem dX7_init_20 : decode cX7_init 20 = .ok (.aload_n 0, 1) := by decide +kernel
theorem dX7_init_21 : decode cX7_init 21 = .ok (.iconst 0, 1) := by decide +kernel
theorem dX7_init_22 : decode cX7_init 22 = .ok (.putfield 18, 3) := by decide +kernel
theorem dX7_init_25 : decode cX7_init 25 = .ok (.aload_n 0, 1) := by decide +kernel
theorem dX7_init_26 : decode cX7_init 26 = .ok (.getfield 9, 3) := by decide +kernel
theorem dX7_init_29 : decode cX7_init 29 = .ok (.iconst 2, 1) := by decide +kernel
theorem dX7_init_30 : decode cX7_init 30 = .ok (.invokestatic 22, 3) := by decide +kernel
theorem dX7_init_33 : decode cX7_init 33 = .ok (.aload_n 0, 1) := by decide +kernel
theorem dX7_init_34 : decode cX7_init 34 = .ok (.getfield 15, 3) := by decide +kernel
theorem dX7_init_37 : decode cX7_init 37 = .ok (.bipush (-6), 2) := by decide +kernel
theorem dX7_init_39 : decode cX7_init 39 = .ok (.invokestatic 22, 3) := by decide +kernel
theorem dX7_init_42 : decode cX7_init 42 = .ok (.return_, 1) := by decide +kernel
set_option maxRecDepth 20000 in
theorem ggX7_takeFrom_X10_copy : GoodIn wsX7_takeFrom wsX10_copy := goodIn_r _ [6] (by decide +kernel) (by decide +kernel)
set_option maxRecDepth 20000 in
theorem gX7_takeFrom_X10_copy_n26 : GoodIn wsX7_takeFrom (wsX10_copy) := ggX7_takeFrom_X10_copy
theorem dX7_takeFrom_0 : decode cX7_takeFrom 0 = .ok (.aload_n 1, 1) := by decide +kernel
theorem dX7_takeFrom_1 : decode cX7_takeFrom 1 = .ok (.ifnonnull 4, 3) := by decide +kernel
theorem dX7_takeFrom_4 : decode cX7_takeFrom 4 = .ok (.return_, 1) := by decide +kernel
theorem dX7_takeFrom_5 : decode cX7_takeFrom 5 = .ok (.aload_n 1, 1) := by decide +kernel
theorem dX7_takeFrom_6 : decode cX7_takeFrom 6 = .ok (.getfield 9, 3) := by decide +kernel
theorem dX7_takeFrom_9 : decode cX7_takeFrom 9 = .ok (.aload_n 0, 1) := by decide +kernel
theorem dX7_takeFrom_10 : decode cX7_takeFrom 10 = .ok (.getfield 9, 3) := by decide +kernel
theorem dX7_takeFrom_13 : decode cX7_takeFrom 13 = .ok (.invokestatic 26, 3) := by decide +kernel
theorem dX7_takeFrom_16 : decode cX7_takeFrom 16 = .ok (.aload_n 1, 1) := by decide +kernel
theorem dX7_takeFrom_17 : decode cX7_takeFrom 17 = .ok (.getfield 15, 3) := by decide +kernel
theorem dX7_takeFrom_20 : decode cX7_takeFrom 20 = .ok (.aload_n 0, 1) := by decide +kernel
theorem dX7_takeFrom_21 : decode cX7_takeFrom 21 = .ok (.getfield 15, 3) := by decide +kernel
theorem dX7_takeFrom_24 : decode cX7_takeFrom 24 = .ok (.invokestatic 26, 3) := by decide +kernel
theorem dX7_takeFrom_27 : decode cX7_takeFrom 27 = .ok (.aload_n 0, 1) := by decide +kernel
theorem dX7_takeFrom_28 : decode cX7_takeFrom 28 = .ok (.aload_n 1, 1) := by decide +kernel
theorem dX7_takeFrom_29 : decode cX7_takeFrom 29 = .ok (.getfield 18, 3) := by decide +kernel
theorem dX7_takeFrom_32 : decode cX7_takeFrom 32 = .ok (.putfield 18, 3) := by decide +kernel
theorem dX7_takeFrom_35 : decode cX7_takeFrom 35 = .ok (.return_, 1) := by decide +kernel
theorem dX7_lengthOf_0 : decode cX7_lengthOf 0 = .ok (.iconst 0, 1) := by decide +kernel
theorem dX7_lengthOf_1 : decode cX7_lengthOf 1 = .ok (.istore_n 2, 1) := by decide +kernel
theorem dX7_lengthOf_2 : decode cX7_lengthOf 2 = .ok (.iconst 0, 1) := by decide +kernel
theorem dX7_lengthOf_3 : decode cX7_lengthOf 3 = .ok (.istore_n 3, 1) := by decide +kernel
theorem dX7_lengthOf_4 : decode cX7_lengthOf 4 = .ok (.iload_n 3, 1) := by decide +kernel
theorem dX7_lengthOf_5 : decode cX7_lengthOf 5 = .ok (.aload_n 0, 1) := by decide +kernel
theorem dX7_lengthOf_6 : decode cX7_lengthOf 6 = .ok (.getfield 9, 3) := by decide +kernel
theorem dX7_lengthOf_9 : decode cX7_lengthOf 9 = .ok (.arraylength, 1) := by decide +kernel
theorem dX7_lengthOf_10 : decode cX7_lengthOf 10 = .ok (.if_icmp .ge 22, 3) := by decide +kernel
theorem dX7_lengthOf_13 : decode cX7_lengthOf 13 = .ok (.aload_n 0, 1) := by decide +kernel
theorem dX7_lengthOf_14 : decode cX7_lengthOf 14 = .ok (.getfield 9, 3) := by decide +kernel
theorem dX7_lengthOf_17 : decode cX7_lengthOf 17 = .ok (.iload_n 3, 1) := by decide +kernel
theorem dX7_lengthOf_18 : decode cX7_lengthOf 18 = .ok (.iaload, 1) := by decide +kernel
theorem dX7_lengthOf_19 : decode cX7_lengthOf 19 = .ok (.iload_n 1, 1) := by decide +kernel
theorem dX7_lengthOf_20 : decode cX7_lengthOf 20 = .ok (.if_icmp .ne 6, 3) := by decide +kernel
theorem dX7_lengthOf_23 : decode cX7_lengthOf 23 = .ok (.iinc 2 1, 3) := by decide +kernel
theorem dX7_lengthOf_26 : decode cX7_lengthOf 26 = .ok (.iinc 3 1, 3) := by decide +kernel
theorem dX7_lengthOf_29 : decode cX7_lengthOf 29 = .ok (.goto (-25), 3) := by decide +kernel
theorem dX7_lengthOf_32 : decode cX7_lengthOf 32 = .ok (.iload_n 2, 1) := by decide +kernel
theorem dX7_lengthOf_33 : decode cX7_lengthOf 33 = .ok (.ireturn, 1) := by decide +kernel
set_option maxRecDepth 20000 in
theorem ggX7_whoIsAt_X10_at : GoodIn wsX7_whoIsAt wsX10_at := goodIn_r _ [5] (by decide +kernel) (by decide +kernel)
set_option maxRecDepth 20000 in
theorem gX7_whoIsAt_X10_at_n30 : GoodIn wsX7_whoIsAt (wsX10_at) := ggX7_whoIsAt_X10_at
theorem dX7_whoIsAt_0 : decode cX7_whoIsAt 0 = .ok (.iconst 0, 1) := by decide +kernel
theorem dX7_whoIsAt_1 : decode cX7_whoIsAt 1 = .ok (.istore_n 3, 1) := by decide +kernel
theorem dX7_whoIsAt_2 : decode cX7_whoIsAt 2 = .ok (.iload_n 3, 1) := by decide +kernel
theorem dX7_whoIsAt_3 : decode cX7_whoIsAt 3 = .ok (.bipush 10, 2) := by decide +kernel
theorem dX7_whoIsAt_5 : decode cX7_whoIsAt 5 = .ok (.if_icmp .ge 35, 3) := by decide +kernel
theorem dX7_whoIsAt_8 : decode cX7_whoIsAt 8 = .ok (.aload_n 0, 1) := by decide +kernel
theorem dX7_whoIsAt_9 : decode cX7_whoIsAt 9 = .ok (.getfield 9, 3) := by decide +kernel
theorem dX7_whoIsAt_12 : decode cX7_whoIsAt 12 = .ok (.iload_n 3, 1) := by decide +kernel
theorem dX7_whoIsAt_13 : decode cX7_whoIsAt 13 = .ok (.invokestatic 30, 3) := by decide +kernel
theorem dX7_whoIsAt_16 : decode cX7_whoIsAt 16 = .ok (.iload_n 1, 1) := by decide +kernel
theorem dX7_whoIsAt_17 : decode cX7_whoIsAt 17 = .ok (.if_icmp .ne 17, 3) := by decide +kernel
theorem dX7_whoIsAt_20 : decode cX7_whoIsAt 20 = .ok (.aload_n 0, 1) := by decide +kernel
theorem dX7_whoIsAt_21 : decode cX7_whoIsAt 21 = .ok (.getfield 15, 3) := by decide +kernel
theorem dX7_whoIsAt_24 : decode cX7_whoIsAt 24 = .ok (.iload_n 3, 1) := by decide +kernel
theorem dX7_whoIsAt_25 : decode cX7_whoIsAt 25 = .ok (.invokestatic 30, 3) := by decide +kernel
theorem dX7_whoIsAt_28 : decode cX7_whoIsAt 28 = .ok (.iload_n 2, 1) := by decide +kernel
theorem dX7_whoIsAt_29 : decode cX7_whoIsAt 29 = .ok (.if_icmp .ne 5, 3) := by decide +kernel
theorem dX7_whoIsAt_32 : decode cX7_whoIsAt 32 = .ok (.iload_n 3, 1) := by decide +kernel
theorem dX7_whoIsAt_33 : decode cX7_whoIsAt 33 = .ok (.ireturn, 1) := by decide +kernel
theorem dX7_whoIsAt_34 : decode cX7_whoIsAt 34 = .ok (.iinc 3 1, 3) := by decide +kernel
theorem dX7_whoIsAt_37 : decode cX7_whoIsAt 37 = .ok (.goto (-35), 3) := by decide +kernel
theorem dX7_whoIsAt_40 : decode cX7_whoIsAt 40 = .ok (.bipush (-6), 2) := by decide +kernel
theorem dX7_whoIsAt_42 : decode cX7_whoIsAt 42 = .ok (.ireturn, 1) := by decide +kernel
set_option maxRecDepth 20000 in
theorem ggX7_attempt_X7_reasonAgainst : GoodIn wsX7_attempt wsX7_reasonAgainst := goodIn_r _ [5, 6, 7, 8, 9, 10, 4, 11, 12, 13, 14, 15, 16, 17, 18, 37, 38, 39] (by decide +kernel) (by decide +kernel)
set_option maxRecDepth 20000 in
theorem gX7_attempt_X7_reasonAgainst : GoodIn wsX7_attempt (wsV RX7 34 RX7 yX7_reasonAgainst wsX7_reasonAgainst) := goodIn_app (goodIn_of _ (by decide +kernel)) ggX7_attempt_X7_reasonAgainst
set_option maxRecDepth 20000 in
theorem ggX7_attempt_X7_carryOut : GoodIn wsX7_attempt wsX7_carryOut := goodIn_r _ [22, 6, 23, 7, 24, 25, 26, 4, 27, 15, 16, 17, 18, 28, 13, 29, 30, 31, 32, 33, 12, 14, 34, 35, 36, 37, 38, 39] (by decide +kernel) (by decide +kernel)
set_option maxRecDepth 20000 in
theorem gX7_attempt_X7_carryOut : GoodIn wsX7_attempt (wsV RX7 38 RX7 yX7_carryOut wsX7_carryOut) := goodIn_app (goodIn_of _ (by decide +kernel)) ggX7_attempt_X7_carryOut
theorem dX7_attempt_0 : decode cX7_attempt 0 = .ok (.aload_n 0, 1) := by decide +kernel
theorem dX7_attempt_1 : decode cX7_attempt 1 = .ok (.iload_n 1, 1) := by decide +kernel
theorem dX7_attempt_2 : decode cX7_attempt 2 = .ok (.iload_n 2, 1) := by decide +kernel
theorem dX7_attempt_3 : decode cX7_attempt 3 = .ok (.iload_n 3, 1) := by decide +kernel
theorem dX7_attempt_4 : decode cX7_attempt 4 = .ok (.invokevirtual 34, 3) := by decide +kernel
theorem dX7_attempt_7 : decode cX7_attempt 7 = .ok (.istore 4, 2) := by decide +kernel
theorem dX7_attempt_9 : decode cX7_attempt 9 = .ok (.iload 4, 2) := by decide +kernel
theorem dX7_attempt_11 : decode cX7_attempt 11 = .ok (.ifCond .ne 10, 3) := by decide +kernel
theorem dX7_attempt_14 : decode cX7_attempt 14 = .ok (.aload_n 0, 1) := by decide +kernel
theorem dX7_attempt_15 : decode cX7_attempt 15 = .ok (.iload_n 1, 1) := by decide +kernel
theorem dX7_attempt_16 : decode cX7_attempt 16 = .ok (.iload_n 2, 1) := by decide +kernel
theorem dX7_attempt_17 : decode cX7_attempt 17 = .ok (.iload_n 3, 1) := by decide +kernel
theorem dX7_attempt_18 : decode cX7_attempt 18 = .ok (.invokevirtual 38, 3) := by decide +kernel
theorem dX7_attempt_21 : decode cX7_attempt 21 = .ok (.iload 4, 2) := by decide +kernel
theorem dX7_attempt_23 : decode cX7_attempt 23 = .ok (.ireturn, 1) := by decide +kernel
set_option maxRecDepth 20000 in
theorem ggX7_reasonAgainst_X7_reasonAgainstJoining : GoodIn wsX7_reasonAgainst wsX7_reasonAgainstJoining := goodIn_r _ [7, 1, 8, 9, 10, 11, 12, 13, 6, 14, 15, 16, 17] (by decide +kernel) (by decide +kernel)
set_option maxRecDepth 20000 in
theorem gX7_reasonAgainst_X7_reasonAgainstJoining : GoodIn wsX7_reasonAgainst (wsV RX7 42 RX7 yX7_reasonAgainstJoining wsX7_reasonAgainstJoining) := goodIn_app (goodIn_of _ (by decide +kernel)) ggX7_reasonAgainst_X7_reasonAgainstJoining
set_option maxRecDepth 20000 in
theorem ggX7_reasonAgainst_X10_at : GoodIn wsX7_reasonAgainst wsX10_at := goodIn_r _ [10] (by decide +kernel) (by decide +kernel)
set_option maxRecDepth 20000 in
theorem gX7_reasonAgainst_X10_at_n30 : GoodIn wsX7_reasonAgainst (wsX10_at) := ggX7_reasonAgainst_X10_at
theorem dX7_reasonAgainst_0 : decode cX7_reasonAgainst 0 = .ok (.iload_n 1, 1) := by decide +kernel
theorem dX7_reasonAgainst_1 : decode cX7_reasonAgainst 1 = .ok (.lookupswitch 112 #[(45, 57), (100, 43), (117, 50), (120, 75)], 43) := by decide +kernel
theorem dX7_reasonAgainst_44 : decode cX7_reasonAgainst 44 = .ok (.aload_n 0, 1) := by decide +kernel
theorem dX7_reasonAgainst_45 : decode cX7_reasonAgainst 45 = .ok (.iload_n 2, 1) := by decide +kernel
theorem dX7_reasonAgainst_46 : decode cX7_reasonAgainst 46 = .ok (.iconst 0, 1) := by decide +kernel
theorem dX7_reasonAgainst_47 : decode cX7_reasonAgainst 47 = .ok (.invokevirtual 42, 3) := by decide +kernel
theorem dX7_reasonAgainst_50 : decode cX7_reasonAgainst 50 = .ok (.ireturn, 1) := by decide +kernel
theorem dX7_reasonAgainst_51 : decode cX7_reasonAgainst 51 = .ok (.aload_n 0, 1) := by decide +kernel
theorem dX7_reasonAgainst_52 : decode cX7_reasonAgainst 52 = .ok (.iload_n 2, 1) := by decide +kernel
theorem dX7_reasonAgainst_53 : decode cX7_reasonAgainst 53 = .ok (.iconst 1, 1) := by decide +kernel
theorem dX7_reasonAgainst_54 : decode cX7_reasonAgainst 54 = .ok (.invokevirtual 42, 3) := by decide +kernel
theorem dX7_reasonAgainst_57 : decode cX7_reasonAgainst 57 = .ok (.ireturn, 1) := by decide +kernel
theorem dX7_reasonAgainst_58 : decode cX7_reasonAgainst 58 = .ok (.aload_n 0, 1) := by decide +kernel
theorem dX7_reasonAgainst_59 : decode cX7_reasonAgainst 59 = .ok (.getfield 9, 3) := by decide +kernel
theorem dX7_reasonAgainst_62 : decode cX7_reasonAgainst 62 = .ok (.iload_n 2, 1) := by decide +kernel
theorem dX7_reasonAgainst_63 : decode cX7_reasonAgainst 63 = .ok (.invokestatic 30, 3) := by decide +kernel
theorem dX7_reasonAgainst_66 : decode cX7_reasonAgainst 66 = .ok (.iconst 2, 1) := by decide +kernel
theorem dX7_reasonAgainst_67 : decode cX7_reasonAgainst 67 = .ok (.if_icmp .ne 7, 3) := by decide +kernel
theorem dX7_reasonAgainst_70 : decode cX7_reasonAgainst 70 = .ok (.iconst 1, 1) := by decide +kernel
theorem dX7_reasonAgainst_71 : decode cX7_reasonAgainst 71 = .ok (.goto 4, 3) := by decide +kernel
theorem dX7_reasonAgainst_74 : decode cX7_reasonAgainst 74 = .ok (.iconst 0, 1) := by decide +kernel
theorem dX7_reasonAgainst_75 : decode cX7_reasonAgainst 75 = .ok (.ireturn, 1) := by decide +kernel
theorem dX7_reasonAgainst_76 : decode cX7_reasonAgainst 76 = .ok (.aload_n 0, 1) := by decide +kernel
theorem dX7_reasonAgainst_77 : decode cX7_reasonAgainst 77 = .ok (.getfield 9, 3) := by decide +kernel
theorem dX7_reasonAgainst_80 : decode cX7_reasonAgainst 80 = .ok (.iload_n 2, 1) := by decide +kernel
theorem dX7_reasonAgainst_81 : decode cX7_reasonAgainst 81 = .ok (.invokestatic 30, 3) := by decide +kernel
theorem dX7_reasonAgainst_84 : decode cX7_reasonAgainst 84 = .ok (.iconst 2, 1) := by decide +kernel
theorem dX7_reasonAgainst_85 : decode cX7_reasonAgainst 85 = .ok (.if_icmp .eq 15, 3) := by decide +kernel
theorem dX7_reasonAgainst_88 : decode cX7_reasonAgainst 88 = .ok (.aload_n 0, 1) := by decide +kernel
theorem dX7_reasonAgainst_89 : decode cX7_reasonAgainst 89 = .ok (.getfield 9, 3) := by decide +kernel
theorem dX7_reasonAgainst_92 : decode cX7_reasonAgainst 92 = .ok (.iload_n 3, 1) := by decide +kernel
theorem dX7_reasonAgainst_93 : decode cX7_reasonAgainst 93 = .ok (.invokestatic 30, 3) := by decide +kernel
theorem dX7_reasonAgainst_96 : decode cX7_reasonAgainst 96 = .ok (.iconst 2, 1) := by decide +kernel
theorem dX7_reasonAgainst_97 : decode cX7_reasonAgainst 97 = .ok (.if_icmp .ne 5, 3) := by decide +kernel
theorem dX7_reasonAgainst_100 : decode cX7_reasonAgainst 100 = .ok (.iconst 1, 1) := by decide +kernel
theorem dX7_reasonAgainst_101 : decode cX7_reasonAgainst 101 = .ok (.ireturn, 1) := by decide +kernel
theorem dX7_reasonAgainst_102 : decode cX7_reasonAgainst 102 = .ok (.iload_n 2, 1) := by decide +kernel
theorem dX7_reasonAgainst_103 : decode cX7_reasonAgainst 103 = .ok (.iload_n 3, 1) := by decide +kernel
theorem dX7_reasonAgainst_104 : decode cX7_reasonAgainst 104 = .ok (.if_icmp .ne 7, 3) := by decide +kernel
theorem dX7_reasonAgainst_107 : decode cX7_reasonAgainst 107 = .ok (.iconst 3, 1) := by decide +kernel
theorem dX7_reasonAgainst_108 : decode cX7_reasonAgainst 108 = .ok (.goto 4, 3) := by decide +kernel
theorem dX7_reasonAgainst_111 : decode cX7_reasonAgainst 111 = .ok (.iconst 0, 1) := by decide +kernel
theorem dX7_reasonAgainst_112 : decode cX7_reasonAgainst 112 = .ok (.ireturn, 1) := by decide +kernel
theorem dX7_reasonAgainst_113 : decode cX7_reasonAgainst 113 = .ok (.aload_n 0, 1) := by decide +kernel
theorem dX7_reasonAgainst_114 : decode cX7_reasonAgainst 114 = .ok (.getfield 18, 3) := by decide +kernel
theorem dX7_reasonAgainst_117 : decode cX7_reasonAgainst 117 = .ok (.bipush 99, 2) := by decide +kernel
theorem dX7_reasonAgainst_119 : decode cX7_reasonAgainst 119 = .ok (.if_icmp .lt 7, 3) := by decide +kernel
theorem dX7_reasonAgainst_122 : decode cX7_reasonAgainst 122 = .ok (.iconst 4, 1) := by decide +kernel
theorem dX7_reasonAgainst_123 : decode cX7_reasonAgainst 123 = .ok (.goto 4, 3) := by decide +kernel
theorem dX7_reasonAgainst_126 : decode cX7_reasonAgainst 126 = .ok (.iconst 0, 1) := by decide +kernel
theorem dX7_reasonAgainst_127 : decode cX7_reasonAgainst 127 = .ok (.ireturn, 1) := by decide +kernel
set_option maxRecDepth 20000 in
theorem ggX7_reasonAgainstJoining_X10_at : GoodIn wsX7_reasonAgainstJoining wsX10_at := goodIn_r _ [4] (by decide +kernel) (by decide +kernel)
set_option maxRecDepth 20000 in
theorem gX7_reasonAgainstJoining_X10_at_n30 : GoodIn wsX7_reasonAgainstJoining (wsX10_at) := ggX7_reasonAgainstJoining_X10_at
set_option maxRecDepth 20000 in
theorem ggX7_reasonAgainstJoining_X7_lengthOf : GoodIn wsX7_reasonAgainstJoining wsX7_lengthOf := goodIn_r _ [9, 1, 10, 11, 12] (by decide +kernel) (by decide +kernel)
set_option maxRecDepth 20000 in
theorem gX7_reasonAgainstJoining_X7_lengthOf : GoodIn wsX7_reasonAgainstJoining (wsV RX7 46 RX7 yX7_lengthOf wsX7_lengthOf) := goodIn_app (goodIn_of _ (by decide +kernel)) ggX7_reasonAgainstJoining_X7_lengthOf
theorem dX7_reasonAgainstJoining_0 : decode cX7_reasonAgainstJoining 0 = .ok (.aload_n 0, 1) := by decide +kernel
theorem dX7_reasonAgainstJoining_1 : decode cX7_reasonAgainstJoining 1 = .ok (.getfield 9, 3) := by decide +kernel
theorem dX7_reasonAgainstJoining_4 : decode cX7_reasonAgainstJoining 4 = .ok (.iload_n 1, 1) := by decide +kernel
theorem dX7_reasonAgainstJoining_5 : decode cX7_reasonAgainstJoining 5 = .ok (.invokestatic 30, 3) := by decide +kernel
theorem dX7_reasonAgainstJoining_8 : decode cX7_reasonAgainstJoining 8 = .ok (.iconst 2, 1) := by decide +kernel
theorem dX7_reasonAgainstJoining_9 : decode cX7_reasonAgainstJoining 9 = .ok (.if_icmp .eq 5, 3) := by decide +kernel
theorem dX7_reasonAgainstJoining_12 : decode cX7_reasonAgainstJoining 12 = .ok (.iconst 1, 1) := by decide +kernel
theorem dX7_reasonAgainstJoining_13 : decode cX7_reasonAgainstJoining 13 = .ok (.ireturn, 1) := by decide +kernel
theorem dX7_reasonAgainstJoining_14 : decode cX7_reasonAgainstJoining 14 = .ok (.aload_n 0, 1) := by decide +kernel
theorem dX7_reasonAgainstJoining_15 : decode cX7_reasonAgainstJoining 15 = .ok (.iload_n 2, 1) := by decide +kernel
theorem dX7_reasonAgainstJoining_16 : decode cX7_reasonAgainstJoining 16 = .ok (.invokevirtual 46, 3) := by decide +kernel
theorem dX7_reasonAgainstJoining_19 : decode cX7_reasonAgainstJoining 19 = .ok (.bipush 6, 2) := by decide +kernel
theorem dX7_reasonAgainstJoining_21 : decode cX7_reasonAgainstJoining 21 = .ok (.if_icmp .lt 7, 3) := by decide +kernel
theorem dX7_reasonAgainstJoining_24 : decode cX7_reasonAgainstJoining 24 = .ok (.iconst 2, 1) := by decide +kernel
theorem dX7_reasonAgainstJoining_25 : decode cX7_reasonAgainstJoining 25 = .ok (.goto 4, 3) := by decide +kernel
theorem dX7_reasonAgainstJoining_28 : decode cX7_reasonAgainstJoining 28 = .ok (.iconst 0, 1) := by decide +kernel
theorem dX7_reasonAgainstJoining_29 : decode cX7_reasonAgainstJoining 29 = .ok (.ireturn, 1) := by decide +kernel
set_option maxRecDepth 20000 in
theorem ggX7_carryOut_X7_join : GoodIn wsX7_carryOut wsX7_join := goodIn_r _ [8, 2, 1, 9, 10, 11, 7, 12, 13, 14, 15, 25, 26, 27] (by decide +kernel) (by decide +kernel)
set_option maxRecDepth 20000 in
theorem gX7_carryOut_X7_join : GoodIn wsX7_carryOut (wsV RX7 50 RX7 yX7_join wsX7_join) := goodIn_app (goodIn_of _ (by decide +kernel)) ggX7_carryOut_X7_join
set_option maxRecDepth 20000 in
theorem ggX7_carryOut_X7_leave : GoodIn wsX7_carryOut wsX7_leave := goodIn_r _ [19, 1, 2, 20, 14, 21, 13, 15, 25, 26, 27] (by decide +kernel) (by decide +kernel)
set_option maxRecDepth 20000 in
theorem gX7_carryOut_X7_leave : GoodIn wsX7_carryOut (wsV RX7 54 RX7 yX7_leave wsX7_leave) := goodIn_app (goodIn_of _ (by decide +kernel)) ggX7_carryOut_X7_leave
set_option maxRecDepth 20000 in
theorem ggX7_carryOut_X7_swap : GoodIn wsX7_carryOut wsX7_swap := goodIn_r _ [24, 20, 14, 21, 13, 15] (by decide +kernel) (by decide +kernel)
set_option maxRecDepth 20000 in
theorem gX7_carryOut_X7_swap : GoodIn wsX7_carryOut (va_wsS RX7 58 yX7_swap wsX7_swap) := goodIn_app (goodIn_of _ (by decide +kernel)) ggX7_carryOut_X7_swap
theorem dX7_carryOut_0 : decode cX7_carryOut 0 = .ok (.iload_n 1, 1) := by decide +kernel
theorem dX7_carryOut_1 : decode cX7_carryOut 1 = .ok (.lookupswitch 90 #[(45, 61), (100, 43), (117, 52), (120, 69)], 43) := by decide +kernel
theorem dX7_carryOut_44 : decode cX7_carryOut 44 = .ok (.aload_n 0, 1) := by decide +kernel
theorem dX7_carryOut_45 : decode cX7_carryOut 45 = .ok (.iload_n 2, 1) := by decide +kernel
theorem dX7_carryOut_46 : decode cX7_carryOut 46 = .ok (.iconst 0, 1) := by decide +kernel
theorem dX7_carryOut_47 : decode cX7_carryOut 47 = .ok (.invokevirtual 50, 3) := by decide +kernel
theorem dX7_carryOut_50 : decode cX7_carryOut 50 = .ok (.goto 51, 3) := by decide +kernel
theorem dX7_carryOut_53 : decode cX7_carryOut 53 = .ok (.aload_n 0, 1) := by decide +kernel
theorem dX7_carryOut_54 : decode cX7_carryOut 54 = .ok (.iload_n 2, 1) := by decide +kernel
theorem dX7_carryOut_55 : decode cX7_carryOut 55 = .ok (.iconst 1, 1) := by decide +kernel
theorem dX7_carryOut_56 : decode cX7_carryOut 56 = .ok (.invokevirtual 50, 3) := by decide +kernel
theorem dX7_carryOut_59 : decode cX7_carryOut 59 = .ok (.goto 42, 3) := by decide +kernel
theorem dX7_carryOut_62 : decode cX7_carryOut 62 = .ok (.aload_n 0, 1) := by decide +kernel
theorem dX7_carryOut_63 : decode cX7_carryOut 63 = .ok (.iload_n 2, 1) := by decide +kernel
theorem dX7_carryOut_64 : decode cX7_carryOut 64 = .ok (.invokevirtual 54, 3) := by decide +kernel
theorem dX7_carryOut_67 : decode cX7_carryOut 67 = .ok (.goto 34, 3) := by decide +kernel
theorem dX7_carryOut_70 : decode cX7_carryOut 70 = .ok (.aload_n 0, 1) := by decide +kernel
theorem dX7_carryOut_71 : decode cX7_carryOut 71 = .ok (.getfield 9, 3) := by decide +kernel
theorem dX7_carryOut_74 : decode cX7_carryOut 74 = .ok (.iload_n 2, 1) := by decide +kernel
theorem dX7_carryOut_75 : decode cX7_carryOut 75 = .ok (.iload_n 3, 1) := by decide +kernel
theorem dX7_carryOut_76 : decode cX7_carryOut 76 = .ok (.invokestatic 58, 3) := by decide +kernel
theorem dX7_carryOut_79 : decode cX7_carryOut 79 = .ok (.aload_n 0, 1) := by decide +kernel
theorem dX7_carryOut_80 : decode cX7_carryOut 80 = .ok (.getfield 15, 3) := by decide +kernel
theorem dX7_carryOut_83 : decode cX7_carryOut 83 = .ok (.iload_n 2, 1) := by decide +kernel
theorem dX7_carryOut_84 : decode cX7_carryOut 84 = .ok (.iload_n 3, 1) := by decide +kernel
theorem dX7_carryOut_85 : decode cX7_carryOut 85 = .ok (.invokestatic 58, 3) := by decide +kernel
theorem dX7_carryOut_88 : decode cX7_carryOut 88 = .ok (.goto 13, 3) := by decide +kernel
theorem dX7_carryOut_91 : decode cX7_carryOut 91 = .ok (.aload_n 0, 1) := by decide +kernel
theorem dX7_carryOut_92 : decode cX7_carryOut 92 = .ok (.dup, 1) := by decide +kernel
theorem dX7_carryOut_93 : decode cX7_carryOut 93 = .ok (.getfield 18, 3) := by decide +kernel
theorem dX7_carryOut_96 : decode cX7_carryOut 96 = .ok (.iconst 1, 1) := by decide +kernel
theorem dX7_carryOut_97 : decode cX7_carryOut 97 = .ok (.iadd, 1) := by decide +kernel
theorem dX7_carryOut_98 : decode cX7_carryOut 98 = .ok (.putfield 18, 3) := by decide +kernel
theorem dX7_carryOut_101 : decode cX7_carryOut 101 = .ok (.return_, 1) := by decide +kernel
set_option maxRecDepth 20000 in
theorem ggX7_join_X7_lengthOf : GoodIn wsX7_join wsX7_lengthOf := goodIn_r _ [7, 2, 11, 12, 13] (by decide +kernel) (by decide +kernel)
set_option maxRecDepth 20000 in
theorem gX7_join_X7_lengthOf : GoodIn wsX7_join (wsV RX7 46 RX7 yX7_lengthOf wsX7_lengthOf) := goodIn_app (goodIn_of _ (by decide +kernel)) ggX7_join_X7_lengthOf
set_option maxRecDepth 20000 in
theorem ggX7_join_X10_put : GoodIn wsX7_join wsX10_put := goodIn_r _ [10] (by decide +kernel) (by decide +kernel)
set_option maxRecDepth 20000 in
theorem gX7_join_X10_put_n62 : GoodIn wsX7_join (wsX10_put) := ggX7_join_X10_put
theorem dX7_join_0 : decode cX7_join 0 = .ok (.aload_n 0, 1) := by decide +kernel
theorem dX7_join_1 : decode cX7_join 1 = .ok (.getfield 15, 3) := by decide +kernel
theorem dX7_join_4 : decode cX7_join 4 = .ok (.iload_n 1, 1) := by decide +kernel
theorem dX7_join_5 : decode cX7_join 5 = .ok (.aload_n 0, 1) := by decide +kernel
theorem dX7_join_6 : decode cX7_join 6 = .ok (.iload_n 2, 1) := by decide +kernel
theorem dX7_join_7 : decode cX7_join 7 = .ok (.invokevirtual 46, 3) := by decide +kernel
theorem dX7_join_10 : decode cX7_join 10 = .ok (.invokestatic 62, 3) := by decide +kernel
theorem dX7_join_13 : decode cX7_join 13 = .ok (.aload_n 0, 1) := by decide +kernel
theorem dX7_join_14 : decode cX7_join 14 = .ok (.getfield 9, 3) := by decide +kernel
theorem dX7_join_17 : decode cX7_join 17 = .ok (.iload_n 1, 1) := by decide +kernel
theorem dX7_join_18 : decode cX7_join 18 = .ok (.iload_n 2, 1) := by decide +kernel
theorem dX7_join_19 : decode cX7_join 19 = .ok (.invokestatic 62, 3) := by decide +kernel
theorem dX7_join_22 : decode cX7_join 22 = .ok (.return_, 1) := by decide +kernel
set_option maxRecDepth 20000 in
theorem ggX7_leave_X10_at : GoodIn wsX7_leave wsX10_at := goodIn_r _ [5] (by decide +kernel) (by decide +kernel)
set_option maxRecDepth 20000 in
theorem gX7_leave_X10_at_n30 : GoodIn wsX7_leave (wsX10_at) := ggX7_leave_X10_at
set_option maxRecDepth 20000 in
theorem ggX7_leave_X10_put : GoodIn wsX7_leave wsX10_put := goodIn_r _ [7] (by decide +kernel) (by decide +kernel)
set_option maxRecDepth 20000 in
theorem gX7_leave_X10_put_n62 : GoodIn wsX7_leave (wsX10_put) := ggX7_leave_X10_put
theorem dX7_leave_0 : decode cX7_leave 0 = .ok (.aload_n 0, 1) := by decide +kernel
theorem dX7_leave_1 : decode cX7_leave 1 = .ok (.getfield 9, 3) := by decide +kernel
theorem dX7_leave_4 : decode cX7_leave 4 = .ok (.iload_n 1, 1) := by decide +kernel
theorem dX7_leave_5 : decode cX7_leave 5 = .ok (.invokestatic 30, 3) := by decide +kernel
theorem dX7_leave_8 : decode cX7_leave 8 = .ok (.istore_n 2, 1) := by decide +kernel
theorem dX7_leave_9 : decode cX7_leave 9 = .ok (.aload_n 0, 1) := by decide +kernel
theorem dX7_leave_10 : decode cX7_leave 10 = .ok (.getfield 15, 3) := by decide +kernel
theorem dX7_leave_13 : decode cX7_leave 13 = .ok (.iload_n 1, 1) := by decide +kernel
theorem dX7_leave_14 : decode cX7_leave 14 = .ok (.invokestatic 30, 3) := by decide +kernel
theorem dX7_leave_17 : decode cX7_leave 17 = .ok (.istore_n 3, 1) := by decide +kernel
theorem dX7_leave_18 : decode cX7_leave 18 = .ok (.aload_n 0, 1) := by decide +kernel
theorem dX7_leave_19 : decode cX7_leave 19 = .ok (.getfield 9, 3) := by decide +kernel
theorem dX7_leave_22 : decode cX7_leave 22 = .ok (.iload_n 1, 1) := by decide +kernel
theorem dX7_leave_23 : decode cX7_leave 23 = .ok (.iconst 2, 1) := by decide +kernel
theorem dX7_leave_24 : decode cX7_leave 24 = .ok (.invokestatic 62, 3) := by decide +kernel
theorem dX7_leave_27 : decode cX7_leave 27 = .ok (.aload_n 0, 1) := by decide +kernel
theorem dX7_leave_28 : decode cX7_leave 28 = .ok (.getfield 15, 3) := by decide +kernel
theorem dX7_leave_31 : decode cX7_leave 31 = .ok (.iload_n 1, 1) := by decide +kernel
theorem dX7_leave_32 : decode cX7_leave 32 = .ok (.bipush (-6), 2) := by decide +kernel
theorem dX7_leave_34 : decode cX7_leave 34 = .ok (.invokestatic 62, 3) := by decide +kernel
theorem dX7_leave_37 : decode cX7_leave 37 = .ok (.iconst 0, 1) := by decide +kernel
theorem dX7_leave_38 : decode cX7_leave 38 = .ok (.istore 4, 2) := by decide +kernel
theorem dX7_leave_40 : decode cX7_leave 40 = .ok (.iload 4, 2) := by decide +kernel
theorem dX7_leave_42 : decode cX7_leave 42 = .ok (.bipush 10, 2) := by decide +kernel
theorem dX7_leave_44 : decode cX7_leave 44 = .ok (.if_icmp .ge 52, 3) := by decide +kernel
theorem dX7_leave_47 : decode cX7_leave 47 = .ok (.aload_n 0, 1) := by decide +kernel
theorem dX7_leave_48 : decode cX7_leave 48 = .ok (.getfield 15, 3) := by decide +kernel
theorem dX7_leave_51 : decode cX7_leave 51 = .ok (.iload 4, 2) := by decide +kernel
theorem dX7_leave_53 : decode cX7_leave 53 = .ok (.invokestatic 30, 3) := by decide +kernel
theorem dX7_leave_56 : decode cX7_leave 56 = .ok (.istore 5, 2) := by decide +kernel
theorem dX7_leave_58 : decode cX7_leave 58 = .ok (.aload_n 0, 1) := by decide +kernel
theorem dX7_leave_59 : decode cX7_leave 59 = .ok (.getfield 9, 3) := by decide +kernel
theorem dX7_leave_62 : decode cX7_leave 62 = .ok (.iload 4, 2) := by decide +kernel
theorem dX7_leave_64 : decode cX7_leave 64 = .ok (.invokestatic 30, 3) := by decide +kernel
theorem dX7_leave_67 : decode cX7_leave 67 = .ok (.iload_n 2, 1) := by decide +kernel
theorem dX7_leave_68 : decode cX7_leave 68 = .ok (.if_icmp .ne 22, 3) := by decide +kernel
theorem dX7_leave_71 : decode cX7_leave 71 = .ok (.iload 5, 2) := by decide +kernel
theorem dX7_leave_73 : decode cX7_leave 73 = .ok (.iload_n 3, 1) := by decide +kernel
theorem dX7_leave_74 : decode cX7_leave 74 = .ok (.if_icmp .le 16, 3) := by decide +kernel
theorem dX7_leave_77 : decode cX7_leave 77 = .ok (.aload_n 0, 1) := by decide +kernel
theorem dX7_leave_78 : decode cX7_leave 78 = .ok (.getfield 15, 3) := by decide +kernel
theorem dX7_leave_81 : decode cX7_leave 81 = .ok (.iload 4, 2) := by decide +kernel
theorem dX7_leave_83 : decode cX7_leave 83 = .ok (.iload 5, 2) := by decide +kernel
theorem dX7_leave_85 : decode cX7_leave 85 = .ok (.iconst 1, 1) := by decide +kernel
theorem dX7_leave_86 : decode cX7_leave 86 = .ok (.isub, 1) := by decide +kernel
theorem dX7_leave_87 : decode cX7_leave 87 = .ok (.invokestatic 62, 3) := by decide +kernel
theorem dX7_leave_90 : decode cX7_leave 90 = .ok (.iinc 4 1, 3) := by decide +kernel
theorem dX7_leave_93 : decode cX7_leave 93 = .ok (.goto (-53), 3) := by decide +kernel
theorem dX7_leave_96 : decode cX7_leave 96 = .ok (.return_, 1) := by decide +kernel
set_option maxRecDepth 20000 in
theorem ggX7_swap_X10_at : GoodIn wsX7_swap wsX10_at := goodIn_r _ [3] (by decide +kernel) (by decide +kernel)
set_option maxRecDepth 20000 in
theorem gX7_swap_X10_at_n30 : GoodIn wsX7_swap (wsX10_at) := ggX7_swap_X10_at
set_option maxRecDepth 20000 in
theorem ggX7_swap_X10_put : GoodIn wsX7_swap wsX10_put := goodIn_r _ [5] (by decide +kernel) (by decide +kernel)
set_option maxRecDepth 20000 in
theorem gX7_swap_X10_put_n62 : GoodIn wsX7_swap (wsX10_put) := ggX7_swap_X10_put
theorem dX7_swap_0 : decode cX7_swap 0 = .ok (.aload_n 0, 1) := by decide +kernel
theorem dX7_swap_1 : decode cX7_swap 1 = .ok (.iload_n 1, 1) := by decide +kernel
theorem dX7_swap_2 : decode cX7_swap 2 = .ok (.invokestatic 30, 3) := by decide +kernel
theorem dX7_swap_5 : decode cX7_swap 5 = .ok (.istore_n 3, 1) := by decide +kernel
theorem dX7_swap_6 : decode cX7_swap 6 = .ok (.aload_n 0, 1) := by decide +kernel
theorem dX7_swap_7 : decode cX7_swap 7 = .ok (.iload_n 1, 1) := by decide +kernel
theorem dX7_swap_8 : decode cX7_swap 8 = .ok (.aload_n 0, 1) := by decide +kernel
theorem dX7_swap_9 : decode cX7_swap 9 = .ok (.iload_n 2, 1) := by decide +kernel
theorem dX7_swap_10 : decode cX7_swap 10 = .ok (.invokestatic 30, 3) := by decide +kernel
theorem dX7_swap_13 : decode cX7_swap 13 = .ok (.invokestatic 62, 3) := by decide +kernel
theorem dX7_swap_16 : decode cX7_swap 16 = .ok (.aload_n 0, 1) := by decide +kernel
theorem dX7_swap_17 : decode cX7_swap 17 = .ok (.iload_n 2, 1) := by decide +kernel
theorem dX7_swap_18 : decode cX7_swap 18 = .ok (.iload_n 3, 1) := by decide +kernel
theorem dX7_swap_19 : decode cX7_swap 19 = .ok (.invokestatic 62, 3) := by decide +kernel
theorem dX7_swap_22 : decode cX7_swap 22 = .ok (.return_, 1) := by decide +kernel
set_option maxRecDepth 20000 in
theorem ggX7_drawYear_X7_drawnKind : GoodIn wsX7_drawYear wsX7_drawnKind := goodIn_r _ [5, 6] (by decide +kernel) (by decide +kernel)
set_option maxRecDepth 20000 in
theorem gX7_drawYear_X7_drawnKind : GoodIn wsX7_drawYear (va_wsS RX7 66 yX7_drawnKind wsX7_drawnKind) := goodIn_app (goodIn_of _ (by decide +kernel)) ggX7_drawYear_X7_drawnKind
set_option maxRecDepth 20000 in
theorem ggX7_drawYear_X7_attempt : GoodIn wsX7_drawYear wsX7_attempt := goodIn_r _ [10, 11, 12, 13, 4, 14, 15, 16, 17, 18, 19, 20, 21, 22, 23, 24, 25, 26, 27, 28, 29, 30, 31, 32, 33, 34, 35, 36, 37, 38, 39, 40, 41, 42, 43, 44, 45, 46, 47, 48] (by decide +kernel) (by decide +kernel)
set_option maxRecDepth 20000 in
theorem gX7_drawYear_X7_attempt : GoodIn wsX7_drawYear (wsV RX7 69 RX7 yX7_attempt wsX7_attempt) := goodIn_app (goodIn_of _ (by decide +kernel)) ggX7_drawYear_X7_attempt
theorem dX7_drawYear_0 : decode cX7_drawYear 0 = .ok (.iload_n 1, 1) := by decide +kernel
theorem dX7_drawYear_1 : decode cX7_drawYear 1 = .ok (.istore_n 3, 1) := by decide +kernel
theorem dX7_drawYear_2 : decode cX7_drawYear 2 = .ok (.iconst 0, 1) := by decide +kernel
theorem dX7_drawYear_3 : decode cX7_drawYear 3 = .ok (.istore 4, 2) := by decide +kernel
theorem dX7_drawYear_5 : decode cX7_drawYear 5 = .ok (.iload 4, 2) := by decide +kernel
theorem dX7_drawYear_7 : decode cX7_drawYear 7 = .ok (.iload_n 2, 1) := by decide +kernel
theorem dX7_drawYear_8 : decode cX7_drawYear 8 = .ok (.if_icmp .ge 46, 3) := by decide +kernel
theorem dX7_drawYear_11 : decode cX7_drawYear 11 = .ok (.bipush 75, 2) := by decide +kernel
theorem dX7_drawYear_13 : decode cX7_drawYear 13 = .ok (.iload_n 3, 1) := by decide +kernel
theorem dX7_drawYear_14 : decode cX7_drawYear 14 = .ok (.imul, 1) := by decide +kernel
theorem dX7_drawYear_15 : decode cX7_drawYear 15 = .ok (.bipush 74, 2) := by decide +kernel
theorem dX7_drawYear_17 : decode cX7_drawYear 17 = .ok (.iadd, 1) := by decide +kernel
theorem dX7_drawYear_18 : decode cX7_drawYear 18 = .ok (.ldc 65, 2) := by decide +kernel
theorem dX7_drawYear_20 : decode cX7_drawYear 20 = .ok (.irem, 1) := by decide +kernel
theorem dX7_drawYear_21 : decode cX7_drawYear 21 = .ok (.istore_n 3, 1) := by decide +kernel
theorem dX7_drawYear_22 : decode cX7_drawYear 22 = .ok (.aload_n 0, 1) := by decide +kernel
theorem dX7_drawYear_23 : decode cX7_drawYear 23 = .ok (.iload_n 3, 1) := by decide +kernel
theorem dX7_drawYear_24 : decode cX7_drawYear 24 = .ok (.bipush 10, 2) := by decide +kernel
theorem dX7_drawYear_26 : decode cX7_drawYear 26 = .ok (.idiv, 1) := by decide +kernel
theorem dX7_drawYear_27 : decode cX7_drawYear 27 = .ok (.bipush 8, 2) := by decide +kernel
theorem dX7_drawYear_29 : decode cX7_drawYear 29 = .ok (.irem, 1) := by decide +kernel
theorem dX7_drawYear_30 : decode cX7_drawYear 30 = .ok (.invokestatic 66, 3) := by decide +kernel
theorem dX7_drawYear_33 : decode cX7_drawYear 33 = .ok (.iload_n 3, 1) := by decide +kernel
theorem dX7_drawYear_34 : decode cX7_drawYear 34 = .ok (.bipush 10, 2) := by decide +kernel
theorem dX7_drawYear_36 : decode cX7_drawYear 36 = .ok (.irem, 1) := by decide +kernel
theorem dX7_drawYear_37 : decode cX7_drawYear 37 = .ok (.iload_n 3, 1) := by decide +kernel
theorem dX7_drawYear_38 : decode cX7_drawYear 38 = .ok (.bipush 80, 2) := by decide +kernel
theorem dX7_drawYear_40 : decode cX7_drawYear 40 = .ok (.idiv, 1) := by decide +kernel
theorem dX7_drawYear_41 : decode cX7_drawYear 41 = .ok (.bipush 10, 2) := by decide +kernel
theorem dX7_drawYear_43 : decode cX7_drawYear 43 = .ok (.irem, 1) := by decide +kernel
theorem dX7_drawYear_44 : decode cX7_drawYear 44 = .ok (.invokevirtual 69, 3) := by decide +kernel
theorem dX7_drawYear_47 : decode cX7_drawYear 47 = .ok (.pop, 1) := by decide +kernel
theorem dX7_drawYear_48 : decode cX7_drawYear 48 = .ok (.iinc 4 1, 3) := by decide +kernel
theorem dX7_drawYear_51 : decode cX7_drawYear 51 = .ok (.goto (-46), 3) := by decide +kernel
theorem dX7_drawYear_54 : decode cX7_drawYear 54 = .ok (.return_, 1) := by decide +kernel
theorem dX7_drawnKind_0 : decode cX7_drawnKind 0 = .ok (.iload_n 0, 1) := by decide +kernel
theorem dX7_drawnKind_1 : decode cX7_drawnKind 1 = .ok (.ifCond .lt 19, 3) := by decide +kernel
theorem dX7_drawnKind_4 : decode cX7_drawnKind 4 = .ok (.iload_n 0, 1) := by decide +kernel
theorem dX7_drawnKind_5 : decode cX7_drawnKind 5 = .ok (.getstatic 72, 3) := by decide +kernel
theorem dX7_drawnKind_8 : decode cX7_drawnKind 8 = .ok (.arraylength, 1) := by decide +kernel
theorem dX7_drawnKind_9 : decode cX7_drawnKind 9 = .ok (.if_icmp .ge 11, 3) := by decide +kernel
theorem dX7_drawnKind_12 : decode cX7_drawnKind 12 = .ok (.getstatic 72, 3) := by decide +kernel
theorem dX7_drawnKind_15 : decode cX7_drawnKind 15 = .ok (.iload_n 0, 1) := by decide +kernel
theorem dX7_drawnKind_16 : decode cX7_drawnKind 16 = .ok (.caload, 1) := by decide +kernel
theorem dX7_drawnKind_17 : decode cX7_drawnKind 17 = .ok (.goto 5, 3) := by decide +kernel
theorem dX7_drawnKind_20 : decode cX7_drawnKind 20 = .ok (.bipush 33, 2) := by decide +kernel
theorem dX7_drawnKind_22 : decode cX7_drawnKind 22 = .ok (.ireturn, 1) := by decide +kernel
set_option maxRecDepth 20000 in
theorem ggX8_init_X7_init : GoodIn wsX8_init wsX7_init := goodIn_r _ [20, 21, 2, 3, 4, 22, 23, 24, 25, 26, 27, 46, 47, 48] (by decide +kernel) (by decide +kernel)
set_option maxRecDepth 20000 in
theorem gX8_init_X7_init : GoodIn wsX8_init (wsX7_init) := ggX8_init_X7_init
set_option maxRecDepth 20000 in
theorem ggX8_init_X5_init : GoodIn wsX8_init wsX5_init := goodIn_r _ [30, 31, 2, 3, 32, 33, 34, 35, 36, 4, 37, 38, 49, 50, 51] (by decide +kernel) (by decide +kernel)
set_option maxRecDepth 20000 in
theorem gX8_init_X5_init : GoodIn wsX8_init (wsX5_init) := ggX8_init_X5_init
set_option maxRecDepth 20000 in
theorem ggX8_init_X10_fill : GoodIn wsX8_init wsX10_fill := goodIn_r _ [27] (by decide +kernel) (by decide +kernel)
set_option maxRecDepth 20000 in
theorem gX8_init_X10_fill_n43 : GoodIn wsX8_init (wsX10_fill) := ggX8_init_X10_fill
theorem dX8_init_0 : decode cX8_init 0 = .ok (.aload_n 0, 1) := by decide +kernel
theorem dX8_init_1 : decode cX8_init 1 = .ok (.invokespecial 3, 3) := by decide +kernel
theorem dX8_init_4 : decode cX8_init 4 = .ok (.aload_n 0, 1) := by decide +kernel
theorem dX8_init_5 : decode cX8_init 5 = .ok (.bipush 10, 2) := by decide +kernel
theorem dX8_init_7 : decode cX8_init 7 = .ok (.newarray .int, 2) := by decide +kernel
theorem dX8_init_9 : decode cX8_init 9 = .ok (.putfield 9, 3) := by decide +kernel
theorem dX8_init_12 : decode cX8_init 12 = .ok (.aload_n 0, 1) := by decide +kernel
theorem dX8_init_13 : decode cX8_init 13 = .ok (.bipush 10, 2) := by decide +kernel
theorem dX8_init_15 : decode cX8_init 15 = .ok (.newarray .int, 2) := by decide +kernel
theorem dX8_init_17 : decode cX8_init 17 = .ok (.putfield 15, 3) := by decide +kernel
theorem dX8_init_20 : decode cX8_init 20 = .ok (.aload_n 0, 1) := by decide +kernel
theorem dX8_init_21 : decode cX8_init 21 = .ok (.bipush 17, 2) := by decide +kernel
theorem dX8_init_23 : decode cX8_init 23 = .ok (.newarray .int, 2) := by decide +kernel
theorem dX8_init_25 : decode cX8_init 25 = .ok (.putfield 18, 3) := by decide +kernel
theorem dX8_init_28 : decode cX8_init 28 = .ok (.aload_n 0, 1) := by decide +kernel
theorem dX8_init_29 : decode cX8_init 29 = .ok (.iconst 2, 1) := by decide +kernel
theorem dX8_init_30 : decode cX8_init 30 = .ok (.newarray .int, 2) := by decide +kernel
theorem dX8_init_32 : decode cX8_init 32 = .ok (.putfield 21, 3) := by decide +kernel
theorem dX8_init_35 : decode cX8_init 35 = .ok (.aload_n 0, 1) := by decide +kernel
theorem dX8_init_36 : decode cX8_init 36 = .ok (.new 24, 3) := by decide +kernel
theorem dX8_init_39 : decode cX8_init 39 = .ok (.dup, 1) := by decide +kernel
theorem dX8_init_40 : decode cX8_init 40 = .ok (.invokespecial 26, 3) := by decide +kernel
theorem dX8_init_43 : decode cX8_init 43 = .ok (.putfield 27, 3) := by decide +kernel
theorem dX8_init_46 : decode cX8_init 46 = .ok (.aload_n 0, 1) := by decide +kernel
theorem dX8_init_47 : decode cX8_init 47 = .ok (.new 31, 3) := by decide +kernel
theorem dX8_init_50 : decode cX8_init 50 = .ok (.dup, 1) := by decide +kernel
theorem dX8_init_51 : decode cX8_init 51 = .ok (.bipush 10, 2) := by decide +kernel
theorem dX8_init_53 : decode cX8_init 53 = .ok (.invokespecial 33, 3) := by decide +kernel
theorem dX8_init_56 : decode cX8_init 56 = .ok (.putfield 36, 3) := by decide +kernel
theorem dX8_init_59 : decode cX8_init 59 = .ok (.aload_n 0, 1) := by decide +kernel
theorem dX8_init_60 : decode cX8_init 60 = .ok (.new 31, 3) := by decide +kernel
theorem dX8_init_63 : decode cX8_init 63 = .ok (.dup, 1) := by decide +kernel
theorem dX8_init_64 : decode cX8_init 64 = .ok (.bipush 8, 2) := by decide +kernel
theorem dX8_init_66 : decode cX8_init 66 = .ok (.invokespecial 33, 3) := by decide +kernel
theorem dX8_init_69 : decode cX8_init 69 = .ok (.putfield 40, 3) := by decide +kernel
theorem dX8_init_72 : decode cX8_init 72 = .ok (.aload_n 0, 1) := by decide +kernel
theorem dX8_init_73 : decode cX8_init 73 = .ok (.getfield 9, 3) := by decide +kernel
theorem dX8_init_76 : decode cX8_init 76 = .ok (.iconst 5, 1) := by decide +kernel
theorem dX8_init_77 : decode cX8_init 77 = .ok (.invokestatic 43, 3) := by decide +kernel
theorem dX8_init_80 : decode cX8_init 80 = .ok (.aload_n 0, 1) := by decide +kernel
theorem dX8_init_81 : decode cX8_init 81 = .ok (.getfield 15, 3) := by decide +kernel
theorem dX8_init_84 : decode cX8_init 84 = .ok (.bipush 12, 2) := by decide +kernel
theorem dX8_init_86 : decode cX8_init 86 = .ok (.invokestatic 43, 3) := by decide +kernel
theorem dX8_init_89 : decode cX8_init 89 = .ok (.aload_n 0, 1) := by decide +kernel
theorem dX8_init_90 : decode cX8_init 90 = .ok (.getfield 18, 3) := by decide +kernel
theorem dX8_init_93 : decode cX8_init 93 = .ok (.bipush 12, 2) := by decide +kernel
theorem dX8_init_95 : decode cX8_init 95 = .ok (.invokestatic 43, 3) := by decide +kernel
theorem dX8_init_98 : decode cX8_init 98 = .ok (.return_, 1) := by decide +kernel
set_option maxRecDepth 20000 in
theorem ggX8_takeFrom_X10_copy : GoodIn wsX8_takeFrom wsX10_copy := goodIn_r _ [10] (by decide +kernel) (by decide +kernel)
set_option maxRecDepth 20000 in
theorem gX8_takeFrom_X10_copy_n47 : GoodIn wsX8_takeFrom (wsX10_copy) := ggX8_takeFrom_X10_copy
set_option maxRecDepth 20000 in
theorem ggX8_takeFrom_X7_takeFrom : GoodIn wsX8_takeFrom wsX7_takeFrom := goodIn_r _ [15, 16, 17, 18, 8, 9, 10, 34, 35, 36] (by decide +kernel) (by decide +kernel)
set_option maxRecDepth 20000 in
theorem gX8_takeFrom_X7_takeFrom : GoodIn wsX8_takeFrom (wsV RX8 51 RX7 yX7_takeFrom wsX7_takeFrom) := goodIn_app (goodIn_of _ (by decide +kernel)) ggX8_takeFrom_X7_takeFrom
set_option maxRecDepth 20000 in
theorem ggX8_takeFrom_X5_takeFrom : GoodIn wsX8_takeFrom wsX5_takeFrom := goodIn_r _ [23, 24, 25, 26, 8, 9, 10, 37, 38, 39] (by decide +kernel) (by decide +kernel)
set_option maxRecDepth 20000 in
theorem gX8_takeFrom_X5_takeFrom : GoodIn wsX8_takeFrom (wsV RX8 55 RX5 yX5_takeFrom wsX5_takeFrom) := goodIn_app (goodIn_of _ (by decide +kernel)) ggX8_takeFrom_X5_takeFrom
theorem dX8_takeFrom_0 : decode cX8_takeFrom 0 = .ok (.aload_n 1, 1) := by decide +kernel
theorem dX8_takeFrom_1 : decode cX8_takeFrom 1 = .ok (.ifnonnull 4, 3) := by decide +kernel
theorem dX8_takeFrom_4 : decode cX8_takeFrom 4 = .ok (.return_, 1) := by decide +kernel
theorem dX8_takeFrom_5 : decode cX8_takeFrom 5 = .ok (.aload_n 1, 1) := by decide +kernel
theorem dX8_takeFrom_6 : decode cX8_takeFrom 6 = .ok (.getfield 9, 3) := by decide +kernel
theorem dX8_takeFrom_9 : decode cX8_takeFrom 9 = .ok (.aload_n 0, 1) := by decide +kernel
theorem dX8_takeFrom_10 : decode cX8_takeFrom 10 = .ok (.getfield 9, 3) := by decide +kernel
theorem dX8_takeFrom_13 : decode cX8_takeFrom 13 = .ok (.invokestatic 47, 3) := by decide +kernel
theorem dX8_takeFrom_16 : decode cX8_takeFrom 16 = .ok (.aload_n 1, 1) := by decide +kernel
theorem dX8_takeFrom_17 : decode cX8_takeFrom 17 = .ok (.getfield 15, 3) := by decide +kernel
theorem dX8_takeFrom_20 : decode cX8_takeFrom 20 = .ok (.aload_n 0, 1) := by decide +kernel
theorem dX8_takeFrom_21 : decode cX8_takeFrom 21 = .ok (.getfield 15, 3) := by decide +kernel
theorem dX8_takeFrom_24 : decode cX8_takeFrom 24 = .ok (.invokestatic 47, 3) := by decide +kernel
theorem dX8_takeFrom_27 : decode cX8_takeFrom 27 = .ok (.aload_n 1, 1) := by decide +kernel
theorem dX8_takeFrom_28 : decode cX8_takeFrom 28 = .ok (.getfield 18, 3) := by decide +kernel
theorem dX8_takeFrom_31 : decode cX8_takeFrom 31 = .ok (.aload_n 0, 1) := by decide +kernel
theorem dX8_takeFrom_32 : decode cX8_takeFrom 32 = .ok (.getfield 18, 3) := by decide +kernel
theorem dX8_takeFrom_35 : decode cX8_takeFrom 35 = .ok (.invokestatic 47, 3) := by decide +kernel
theorem dX8_takeFrom_38 : decode cX8_takeFrom 38 = .ok (.aload_n 1, 1) := by decide +kernel
theorem dX8_takeFrom_39 : decode cX8_takeFrom 39 = .ok (.getfield 21, 3) := by decide +kernel
theorem dX8_takeFrom_42 : decode cX8_takeFrom 42 = .ok (.aload_n 0, 1) := by decide +kernel
theorem dX8_takeFrom_43 : decode cX8_takeFrom 43 = .ok (.getfield 21, 3) := by decide +kernel
theorem dX8_takeFrom_46 : decode cX8_takeFrom 46 = .ok (.invokestatic 47, 3) := by decide +kernel
theorem dX8_takeFrom_49 : decode cX8_takeFrom 49 = .ok (.aload_n 0, 1) := by decide +kernel
theorem dX8_takeFrom_50 : decode cX8_takeFrom 50 = .ok (.getfield 27, 3) := by decide +kernel
theorem dX8_takeFrom_53 : decode cX8_takeFrom 53 = .ok (.aload_n 1, 1) := by decide +kernel
theorem dX8_takeFrom_54 : decode cX8_takeFrom 54 = .ok (.getfield 27, 3) := by decide +kernel
theorem dX8_takeFrom_57 : decode cX8_takeFrom 57 = .ok (.invokevirtual 51, 3) := by decide +kernel
theorem dX8_takeFrom_60 : decode cX8_takeFrom 60 = .ok (.aload_n 0, 1) := by decide +kernel
theorem dX8_takeFrom_61 : decode cX8_takeFrom 61 = .ok (.getfield 36, 3) := by decide +kernel
theorem dX8_takeFrom_64 : decode cX8_takeFrom 64 = .ok (.aload_n 1, 1) := by decide +kernel
theorem dX8_takeFrom_65 : decode cX8_takeFrom 65 = .ok (.getfield 36, 3) := by decide +kernel
theorem dX8_takeFrom_68 : decode cX8_takeFrom 68 = .ok (.invokevirtual 55, 3) := by decide +kernel
theorem dX8_takeFrom_71 : decode cX8_takeFrom 71 = .ok (.aload_n 0, 1) := by decide +kernel
theorem dX8_takeFrom_72 : decode cX8_takeFrom 72 = .ok (.getfield 40, 3) := by decide +kernel
theorem dX8_takeFrom_75 : decode cX8_takeFrom 75 = .ok (.aload_n 1, 1) := by decide +kernel
theorem dX8_takeFrom_76 : decode cX8_takeFrom 76 = .ok (.getfield 40, 3) := by decide +kernel
theorem dX8_takeFrom_79 : decode cX8_takeFrom 79 = .ok (.invokevirtual 55, 3) := by decide +kernel
theorem dX8_takeFrom_82 : decode cX8_takeFrom 82 = .ok (.return_, 1) := by decide +kernel
set_option maxRecDepth 20000 in
theorem ggX8_startOf_X10_at : GoodIn wsX8_startOf wsX10_at := goodIn_r _ [5] (by decide +kernel) (by decide +kernel)
set_option maxRecDepth 20000 in
theorem gX8_startOf_X10_at_n61 : GoodIn wsX8_startOf (wsX10_at) := ggX8_startOf_X10_at
theorem dX8_startOf_0 : decode cX8_startOf 0 = .ok (.aload_n 0, 1) := by decide +kernel
theorem dX8_startOf_1 : decode cX8_startOf 1 = .ok (.getfield 21, 3) := by decide +kernel
theorem dX8_startOf_4 : decode cX8_startOf 4 = .ok (.aload_n 0, 1) := by decide +kernel
theorem dX8_startOf_5 : decode cX8_startOf 5 = .ok (.getfield 27, 3) := by decide +kernel
theorem dX8_startOf_8 : decode cX8_startOf 8 = .ok (.getfield 58, 3) := by decide +kernel
theorem dX8_startOf_11 : decode cX8_startOf 11 = .ok (.iload_n 1, 1) := by decide +kernel
theorem dX8_startOf_12 : decode cX8_startOf 12 = .ok (.invokestatic 61, 3) := by decide +kernel
theorem dX8_startOf_15 : decode cX8_startOf 15 = .ok (.invokestatic 61, 3) := by decide +kernel
theorem dX8_startOf_18 : decode cX8_startOf 18 = .ok (.aload_n 0, 1) := by decide +kernel
theorem dX8_startOf_19 : decode cX8_startOf 19 = .ok (.getfield 27, 3) := by decide +kernel
theorem dX8_startOf_22 : decode cX8_startOf 22 = .ok (.getfield 65, 3) := by decide +kernel
theorem dX8_startOf_25 : decode cX8_startOf 25 = .ok (.iload_n 1, 1) := by decide +kernel
theorem dX8_startOf_26 : decode cX8_startOf 26 = .ok (.invokestatic 61, 3) := by decide +kernel
theorem dX8_startOf_29 : decode cX8_startOf 29 = .ok (.iadd, 1) := by decide +kernel
theorem dX8_startOf_30 : decode cX8_startOf 30 = .ok (.ireturn, 1) := by decide +kernel
set_option maxRecDepth 20000 in
theorem ggX8_emptyFrom_X7_lengthOf : GoodIn wsX8_emptyFrom wsX7_lengthOf := goodIn_r _ [7, 8, 19, 20, 21] (by decide +kernel) (by decide +kernel)
set_option maxRecDepth 20000 in
theorem gX8_emptyFrom_X7_lengthOf : GoodIn wsX8_emptyFrom (wsV RX8 68 RX7 yX7_lengthOf wsX7_lengthOf) := goodIn_app (goodIn_of _ (by decide +kernel)) ggX8_emptyFrom_X7_lengthOf
set_option maxRecDepth 20000 in
theorem ggX8_emptyFrom_X10_at : GoodIn wsX8_emptyFrom wsX10_at := goodIn_r _ [11] (by decide +kernel) (by decide +kernel)
set_option maxRecDepth 20000 in
theorem gX8_emptyFrom_X10_at_n61 : GoodIn wsX8_emptyFrom (wsX10_at) := ggX8_emptyFrom_X10_at
theorem dX8_emptyFrom_0 : decode cX8_emptyFrom 0 = .ok (.aload_n 0, 1) := by decide +kernel
theorem dX8_emptyFrom_1 : decode cX8_emptyFrom 1 = .ok (.getfield 27, 3) := by decide +kernel
theorem dX8_emptyFrom_4 : decode cX8_emptyFrom 4 = .ok (.iload_n 1, 1) := by decide +kernel
theorem dX8_emptyFrom_5 : decode cX8_emptyFrom 5 = .ok (.invokevirtual 68, 3) := by decide +kernel
theorem dX8_emptyFrom_8 : decode cX8_emptyFrom 8 = .ok (.istore_n 2, 1) := by decide +kernel
theorem dX8_emptyFrom_9 : decode cX8_emptyFrom 9 = .ok (.iload_n 2, 1) := by decide +kernel
theorem dX8_emptyFrom_10 : decode cX8_emptyFrom 10 = .ok (.ifCond .ne 7, 3) := by decide +kernel
theorem dX8_emptyFrom_13 : decode cX8_emptyFrom 13 = .ok (.iconst 0, 1) := by decide +kernel
theorem dX8_emptyFrom_14 : decode cX8_emptyFrom 14 = .ok (.goto 18, 3) := by decide +kernel
theorem dX8_emptyFrom_17 : decode cX8_emptyFrom 17 = .ok (.aload_n 0, 1) := by decide +kernel
theorem dX8_emptyFrom_18 : decode cX8_emptyFrom 18 = .ok (.getfield 21, 3) := by decide +kernel
theorem dX8_emptyFrom_21 : decode cX8_emptyFrom 21 = .ok (.iload_n 1, 1) := by decide +kernel
theorem dX8_emptyFrom_22 : decode cX8_emptyFrom 22 = .ok (.invokestatic 61, 3) := by decide +kernel
theorem dX8_emptyFrom_25 : decode cX8_emptyFrom 25 = .ok (.iload_n 2, 1) := by decide +kernel
theorem dX8_emptyFrom_26 : decode cX8_emptyFrom 26 = .ok (.iadd, 1) := by decide +kernel
theorem dX8_emptyFrom_27 : decode cX8_emptyFrom 27 = .ok (.iconst 1, 1) := by decide +kernel
theorem dX8_emptyFrom_28 : decode cX8_emptyFrom 28 = .ok (.isub, 1) := by decide +kernel
theorem dX8_emptyFrom_29 : decode cX8_emptyFrom 29 = .ok (.bipush 17, 2) := by decide +kernel
theorem dX8_emptyFrom_31 : decode cX8_emptyFrom 31 = .ok (.iadd, 1) := by decide +kernel
theorem dX8_emptyFrom_32 : decode cX8_emptyFrom 32 = .ok (.ireturn, 1) := by decide +kernel
set_option maxRecDepth 20000 in
theorem ggX8_spotOf_X10_within : GoodIn wsX8_spotOf wsX10_within := goodIn_r _ [3] (by decide +kernel) (by decide +kernel)
set_option maxRecDepth 20000 in
theorem gX8_spotOf_X10_within_n72 : GoodIn wsX8_spotOf (wsX10_within) := ggX8_spotOf_X10_within
theorem dX8_spotOf_0 : decode cX8_spotOf 0 = .ok (.bipush 16, 2) := by decide +kernel
theorem dX8_spotOf_2 : decode cX8_spotOf 2 = .ok (.iload_n 1, 1) := by decide +kernel
theorem dX8_spotOf_3 : decode cX8_spotOf 3 = .ok (.iadd, 1) := by decide +kernel
theorem dX8_spotOf_4 : decode cX8_spotOf 4 = .ok (.iload_n 0, 1) := by decide +kernel
theorem dX8_spotOf_5 : decode cX8_spotOf 5 = .ok (.isub, 1) := by decide +kernel
theorem dX8_spotOf_6 : decode cX8_spotOf 6 = .ok (.istore_n 2, 1) := by decide +kernel
theorem dX8_spotOf_7 : decode cX8_spotOf 7 = .ok (.iload_n 2, 1) := by decide +kernel
theorem dX8_spotOf_8 : decode cX8_spotOf 8 = .ok (.iconst 0, 1) := by decide +kernel
theorem dX8_spotOf_9 : decode cX8_spotOf 9 = .ok (.bipush 32, 2) := by decide +kernel
theorem dX8_spotOf_11 : decode cX8_spotOf 11 = .ok (.invokestatic 72, 3) := by decide +kernel
theorem dX8_spotOf_14 : decode cX8_spotOf 14 = .ok (.ifCond .eq 7, 3) := by decide +kernel
theorem dX8_spotOf_17 : decode cX8_spotOf 17 = .ok (.iload_n 2, 1) := by decide +kernel
theorem dX8_spotOf_18 : decode cX8_spotOf 18 = .ok (.goto 5, 3) := by decide +kernel
theorem dX8_spotOf_21 : decode cX8_spotOf 21 = .ok (.bipush (-6), 2) := by decide +kernel
theorem dX8_spotOf_23 : decode cX8_spotOf 23 = .ok (.ireturn, 1) := by decide +kernel
set_option maxRecDepth 20000 in
theorem ggX8_clash_X10_at : GoodIn wsX8_clash wsX10_at := goodIn_r _ [9] (by decide +kernel) (by decide +kernel)
set_option maxRecDepth 20000 in
theorem gX8_clash_X10_at_n61 : GoodIn wsX8_clash (wsX10_at) := ggX8_clash_X10_at
theorem dX8_clash_0 : decode cX8_clash 0 = .ok (.iload_n 1, 1) := by decide +kernel
theorem dX8_clash_1 : decode cX8_clash 1 = .ok (.bipush (-6), 2) := by decide +kernel
theorem dX8_clash_3 : decode cX8_clash 3 = .ok (.if_icmp .ne 5, 3) := by decide +kernel
theorem dX8_clash_6 : decode cX8_clash 6 = .ok (.iconst 0, 1) := by decide +kernel
theorem dX8_clash_7 : decode cX8_clash 7 = .ok (.ireturn, 1) := by decide +kernel
theorem dX8_clash_8 : decode cX8_clash 8 = .ok (.aload_n 0, 1) := by decide +kernel
theorem dX8_clash_9 : decode cX8_clash 9 = .ok (.getfield 18, 3) := by decide +kernel
theorem dX8_clash_12 : decode cX8_clash 12 = .ok (.iload_n 1, 1) := by decide +kernel
theorem dX8_clash_13 : decode cX8_clash 13 = .ok (.iconst 2, 1) := by decide +kernel
theorem dX8_clash_14 : decode cX8_clash 14 = .ok (.idiv, 1) := by decide +kernel
theorem dX8_clash_15 : decode cX8_clash 15 = .ok (.invokestatic 61, 3) := by decide +kernel
theorem dX8_clash_18 : decode cX8_clash 18 = .ok (.aload_n 0, 1) := by decide +kernel
theorem dX8_clash_19 : decode cX8_clash 19 = .ok (.getfield 18, 3) := by decide +kernel
theorem dX8_clash_22 : decode cX8_clash 22 = .ok (.iload_n 1, 1) := by decide +kernel
theorem dX8_clash_23 : decode cX8_clash 23 = .ok (.iconst 1, 1) := by decide +kernel
theorem dX8_clash_24 : decode cX8_clash 24 = .ok (.iadd, 1) := by decide +kernel
theorem dX8_clash_25 : decode cX8_clash 25 = .ok (.iconst 2, 1) := by decide +kernel
theorem dX8_clash_26 : decode cX8_clash 26 = .ok (.idiv, 1) := by decide +kernel
theorem dX8_clash_27 : decode cX8_clash 27 = .ok (.invokestatic 61, 3) := by decide +kernel
theorem dX8_clash_30 : decode cX8_clash 30 = .ok (.invokestatic 76, 3) := by decide +kernel
theorem dX8_clash_33 : decode cX8_clash 33 = .ok (.istore 4, 2) := by decide +kernel
theorem dX8_clash_35 : decode cX8_clash 35 = .ok (.iload 4, 2) := by decide +kernel
theorem dX8_clash_37 : decode cX8_clash 37 = .ok (.aload_n 0, 1) := by decide +kernel
theorem dX8_clash_38 : decode cX8_clash 38 = .ok (.getfield 9, 3) := by decide +kernel
theorem dX8_clash_41 : decode cX8_clash 41 = .ok (.iload_n 2, 1) := by decide +kernel
theorem dX8_clash_42 : decode cX8_clash 42 = .ok (.invokestatic 61, 3) := by decide +kernel
theorem dX8_clash_45 : decode cX8_clash 45 = .ok (.aload_n 0, 1) := by decide +kernel
theorem dX8_clash_46 : decode cX8_clash 46 = .ok (.getfield 9, 3) := by decide +kernel
theorem dX8_clash_49 : decode cX8_clash 49 = .ok (.iload_n 3, 1) := by decide +kernel
theorem dX8_clash_50 : decode cX8_clash 50 = .ok (.invokestatic 61, 3) := by decide +kernel
theorem dX8_clash_53 : decode cX8_clash 53 = .ok (.iadd, 1) := by decide +kernel
theorem dX8_clash_54 : decode cX8_clash 54 = .ok (.if_icmp .ge 7, 3) := by decide +kernel
theorem dX8_clash_57 : decode cX8_clash 57 = .ok (.iconst 1, 1) := by decide +kernel
theorem dX8_clash_58 : decode cX8_clash 58 = .ok (.goto 4, 3) := by decide +kernel
theorem dX8_clash_61 : decode cX8_clash 61 = .ok (.iconst 0, 1) := by decide +kernel
theorem dX8_clash_62 : decode cX8_clash 62 = .ok (.ireturn, 1) := by decide +kernel
set_option maxRecDepth 20000 in
theorem ggX8_clashesIn_X10_at : GoodIn wsX8_clashesIn wsX10_at := goodIn_r _ [5] (by decide +kernel) (by decide +kernel)
set_option maxRecDepth 20000 in
theorem gX8_clashesIn_X10_at_n61 : GoodIn wsX8_clashesIn (wsX10_at) := ggX8_clashesIn_X10_at
set_option maxRecDepth 20000 in
theorem ggX8_clashesIn_X8_startOf : GoodIn wsX8_clashesIn wsX8_startOf := goodIn_r _ [10, 1, 2, 3, 4, 5, 26, 27, 28, 29, 30, 31, 32, 33, 34, 35] (by decide +kernel) (by decide +kernel)
set_option maxRecDepth 20000 in
theorem gX8_clashesIn_X8_startOf : GoodIn wsX8_clashesIn (wsV RX8 82 RX8 yX8_startOf wsX8_startOf) := goodIn_app (goodIn_of _ (by decide +kernel)) ggX8_clashesIn_X8_startOf
set_option maxRecDepth 20000 in
theorem ggX8_clashesIn_X8_spotOf : GoodIn wsX8_clashesIn wsX8_spotOf := goodIn_r _ [13, 14, 4, 15] (by decide +kernel) (by decide +kernel)
set_option maxRecDepth 20000 in
theorem gX8_clashesIn_X8_spotOf : GoodIn wsX8_clashesIn (va_wsS RX8 85 yX8_spotOf wsX8_spotOf) := goodIn_app (goodIn_of _ (by decide +kernel)) ggX8_clashesIn_X8_spotOf
set_option maxRecDepth 20000 in
theorem ggX8_clashesIn_X8_clash : GoodIn wsX8_clashesIn wsX8_clash := goodIn_r _ [19, 20, 21, 22, 23, 24, 25, 3, 4, 5, 26, 27, 28, 29, 30, 31, 32] (by decide +kernel) (by decide +kernel)
set_option maxRecDepth 20000 in
theorem gX8_clashesIn_X8_clash : GoodIn wsX8_clashesIn (wsV RX8 88 RX8 yX8_clash wsX8_clash) := goodIn_app (goodIn_of _ (by decide +kernel)) ggX8_clashesIn_X8_clash
theorem dX8_clashesIn_0 : decode cX8_clashesIn 0 = .ok (.aload_n 0, 1) := by decide +kernel
theorem dX8_clashesIn_1 : decode cX8_clashesIn 1 = .ok (.getfield 21, 3) := by decide +kernel
theorem dX8_clashesIn_4 : decode cX8_clashesIn 4 = .ok (.iload_n 1, 1) := by decide +kernel
theorem dX8_clashesIn_5 : decode cX8_clashesIn 5 = .ok (.invokestatic 61, 3) := by decide +kernel
theorem dX8_clashesIn_8 : decode cX8_clashesIn 8 = .ok (.iload_n 2, 1) := by decide +kernel
theorem dX8_clashesIn_9 : decode cX8_clashesIn 9 = .ok (.iadd, 1) := by decide +kernel
theorem dX8_clashesIn_10 : decode cX8_clashesIn 10 = .ok (.istore 4, 2) := by decide +kernel
theorem dX8_clashesIn_12 : decode cX8_clashesIn 12 = .ok (.iconst 0, 1) := by decide +kernel
theorem dX8_clashesIn_13 : decode cX8_clashesIn 13 = .ok (.istore 5, 2) := by decide +kernel
theorem dX8_clashesIn_15 : decode cX8_clashesIn 15 = .ok (.iconst 0, 1) := by decide +kernel
theorem dX8_clashesIn_16 : decode cX8_clashesIn 16 = .ok (.istore 6, 2) := by decide +kernel
theorem dX8_clashesIn_18 : decode cX8_clashesIn 18 = .ok (.iload 6, 2) := by decide +kernel
theorem dX8_clashesIn_20 : decode cX8_clashesIn 20 = .ok (.bipush 10, 2) := by decide +kernel
theorem dX8_clashesIn_22 : decode cX8_clashesIn 22 = .ok (.if_icmp .ge 76, 3) := by decide +kernel
theorem dX8_clashesIn_25 : decode cX8_clashesIn 25 = .ok (.aload_n 0, 1) := by decide +kernel
theorem dX8_clashesIn_26 : decode cX8_clashesIn 26 = .ok (.getfield 27, 3) := by decide +kernel
theorem dX8_clashesIn_29 : decode cX8_clashesIn 29 = .ok (.getfield 58, 3) := by decide +kernel
theorem dX8_clashesIn_32 : decode cX8_clashesIn 32 = .ok (.iload 6, 2) := by decide +kernel
theorem dX8_clashesIn_34 : decode cX8_clashesIn 34 = .ok (.invokestatic 61, 3) := by decide +kernel
theorem dX8_clashesIn_37 : decode cX8_clashesIn 37 = .ok (.iconst 1, 1) := by decide +kernel
theorem dX8_clashesIn_38 : decode cX8_clashesIn 38 = .ok (.iload_n 1, 1) := by decide +kernel
theorem dX8_clashesIn_39 : decode cX8_clashesIn 39 = .ok (.isub, 1) := by decide +kernel
theorem dX8_clashesIn_40 : decode cX8_clashesIn 40 = .ok (.if_icmp .eq 6, 3) := by decide +kernel
theorem dX8_clashesIn_43 : decode cX8_clashesIn 43 = .ok (.goto 49, 3) := by decide +kernel
theorem dX8_clashesIn_46 : decode cX8_clashesIn 46 = .ok (.iload_n 1, 1) := by decide +kernel
theorem dX8_clashesIn_47 : decode cX8_clashesIn 47 = .ok (.ifCond .ne 17, 3) := by decide +kernel
theorem dX8_clashesIn_50 : decode cX8_clashesIn 50 = .ok (.iload 4, 2) := by decide +kernel
theorem dX8_clashesIn_52 : decode cX8_clashesIn 52 = .ok (.aload_n 0, 1) := by decide +kernel
theorem dX8_clashesIn_53 : decode cX8_clashesIn 53 = .ok (.iload 6, 2) := by decide +kernel
theorem dX8_clashesIn_55 : decode cX8_clashesIn 55 = .ok (.invokevirtual 82, 3) := by decide +kernel
theorem dX8_clashesIn_58 : decode cX8_clashesIn 58 = .ok (.invokestatic 85, 3) := by decide +kernel
theorem dX8_clashesIn_61 : decode cX8_clashesIn 61 = .ok (.goto 14, 3) := by decide +kernel
theorem dX8_clashesIn_64 : decode cX8_clashesIn 64 = .ok (.aload_n 0, 1) := by decide +kernel
theorem dX8_clashesIn_65 : decode cX8_clashesIn 65 = .ok (.iload 6, 2) := by decide +kernel
theorem dX8_clashesIn_67 : decode cX8_clashesIn 67 = .ok (.invokevirtual 82, 3) := by decide +kernel
theorem dX8_clashesIn_70 : decode cX8_clashesIn 70 = .ok (.iload 4, 2) := by decide +kernel
theorem dX8_clashesIn_72 : decode cX8_clashesIn 72 = .ok (.invokestatic 85, 3) := by decide +kernel
theorem dX8_clashesIn_75 : decode cX8_clashesIn 75 = .ok (.istore 7, 2) := by decide +kernel
theorem dX8_clashesIn_77 : decode cX8_clashesIn 77 = .ok (.aload_n 0, 1) := by decide +kernel
theorem dX8_clashesIn_78 : decode cX8_clashesIn 78 = .ok (.iload 7, 2) := by decide +kernel
theorem dX8_clashesIn_80 : decode cX8_clashesIn 80 = .ok (.iload_n 3, 1) := by decide +kernel
theorem dX8_clashesIn_81 : decode cX8_clashesIn 81 = .ok (.iload 6, 2) := by decide +kernel
theorem dX8_clashesIn_83 : decode cX8_clashesIn 83 = .ok (.invokevirtual 88, 3) := by decide +kernel
theorem dX8_clashesIn_86 : decode cX8_clashesIn 86 = .ok (.ifCond .eq 6, 3) := by decide +kernel
theorem dX8_clashesIn_89 : decode cX8_clashesIn 89 = .ok (.iinc 5 1, 3) := by decide +kernel
theorem dX8_clashesIn_92 : decode cX8_clashesIn 92 = .ok (.iinc 6 1, 3) := by decide +kernel
theorem dX8_clashesIn_95 : decode cX8_clashesIn 95 = .ok (.goto (-77), 3) := by decide +kernel
theorem dX8_clashesIn_98 : decode cX8_clashesIn 98 = .ok (.iload 5, 2) := by decide +kernel
theorem dX8_clashesIn_100 : decode cX8_clashesIn 100 = .ok (.ireturn, 1) := by decide +kernel
theorem dX9_init_0 : decode cX9_init 0 = .ok (.aload_n 0, 1) := by decide +kernel
theorem dX9_init_1 : decode cX9_init 1 = .ok (.invokespecial 3, 3) := by decide +kernel
theorem dX9_init_4 : decode cX9_init 4 = .ok (.aload_n 0, 1) := by decide +kernel
theorem dX9_init_5 : decode cX9_init 5 = .ok (.bipush 100, 2) := by decide +kernel
theorem dX9_init_7 : decode cX9_init 7 = .ok (.newarray .int, 2) := by decide +kernel
theorem dX9_init_9 : decode cX9_init 9 = .ok (.putfield 9, 3) := by decide +kernel
theorem dX9_init_12 : decode cX9_init 12 = .ok (.aload_n 0, 1) := by decide +kernel
theorem dX9_init_13 : decode cX9_init 13 = .ok (.bipush 100, 2) := by decide +kernel
theorem dX9_init_15 : decode cX9_init 15 = .ok (.newarray .int, 2) := by decide +kernel
theorem dX9_init_17 : decode cX9_init 17 = .ok (.putfield 15, 3) := by decide +kernel
theorem dX9_init_20 : decode cX9_init 20 = .ok (.aload_n 0, 1) := by decide +kernel
theorem dX9_init_21 : decode cX9_init 21 = .ok (.bipush 18, 2) := by decide +kernel
theorem dX9_init_23 : decode cX9_init 23 = .ok (.newarray .int, 2) := by decide +kernel
theorem dX9_init_25 : decode cX9_init 25 = .ok (.putfield 18, 3) := by decide +kernel
theorem dX9_init_28 : decode cX9_init 28 = .ok (.aload_n 0, 1) := by decide +kernel
theorem dX9_init_29 : decode cX9_init 29 = .ok (.iconst 0, 1) := by decide +kernel
theorem dX9_init_30 : decode cX9_init 30 = .ok (.putfield 21, 3) := by decide +kernel
theorem dX9_init_33 : decode cX9_init 33 = .ok (.aload_n 0, 1) := by decide +kernel
theorem dX9_init_34 : decode cX9_init 34 = .ok (.iconst 0, 1) := by decide +kernel
theorem dX9_init_35 : decode cX9_init 35 = .ok (.putfield 25, 3) := by decide +kernel
theorem dX9_init_38 : decode cX9_init 38 = .ok (.aload_n 0, 1) := by decide +kernel
theorem dX9_init_39 : decode cX9_init 39 = .ok (.iconst 0, 1) := by decide +kernel
theorem dX9_init_40 : decode cX9_init 40 = .ok (.putfield 28, 3) := by decide +kernel
theorem dX9_init_43 : decode cX9_init 43 = .ok (.return_, 1) := by decide +kernel
set_option maxRecDepth 20000 in
theorem ggX9_fit_X10_at : GoodIn wsX9_fit wsX10_at := goodIn_r _ [8] (by decide +kernel) (by decide +kernel)
set_option maxRecDepth 20000 in
theorem gX9_fit_X10_at_n40 : GoodIn wsX9_fit (wsX10_at) := ggX9_fit_X10_at
set_option maxRecDepth 20000 in
theorem ggX9_fit_X8_startOf : GoodIn wsX9_fit wsX8_startOf := goodIn_r _ [13, 14, 15, 6, 7, 8, 33, 34, 35, 36, 37, 38, 39, 40, 41, 42] (by decide +kernel) (by decide +kernel)
set_option maxRecDepth 20000 in
theorem gX9_fit_X8_startOf : GoodIn wsX9_fit (wsV RX9 44 RX8 yX8_startOf wsX8_startOf) := goodIn_app (goodIn_of _ (by decide +kernel)) ggX9_fit_X8_startOf
set_option maxRecDepth 20000 in
theorem ggX9_fit_X9_allAreSo : GoodIn wsX9_fit wsX9_allAreSo := goodIn_r _ [19, 6, 7, 8, 20, 21, 18, 22, 23, 24, 43, 44, 45] (by decide +kernel) (by decide +kernel)
set_option maxRecDepth 20000 in
theorem gX9_fit_X9_allAreSo : GoodIn wsX9_fit (va_wsS RX9 51 yX9_allAreSo wsX9_allAreSo) := goodIn_app (goodIn_of _ (by decide +kernel)) ggX9_fit_X9_allAreSo
set_option maxRecDepth 20000 in
theorem ggX9_fit_X10_put : GoodIn wsX9_fit wsX10_put := goodIn_r _ [26] (by decide +kernel) (by decide +kernel)
set_option maxRecDepth 20000 in
theorem gX9_fit_X10_put_n55 : GoodIn wsX9_fit (wsX10_put) := ggX9_fit_X10_put
theorem dX9_fit_0 : decode cX9_fit 0 = .ok (.aload_n 0, 1) := by decide +kernel
theorem dX9_fit_1 : decode cX9_fit 1 = .ok (.iconst 0, 1) := by decide +kernel
theorem dX9_fit_2 : decode cX9_fit 2 = .ok (.putfield 21, 3) := by decide +kernel
theorem dX9_fit_5 : decode cX9_fit 5 = .ok (.aload_n 0, 1) := by decide +kernel
theorem dX9_fit_6 : decode cX9_fit 6 = .ok (.iconst 0, 1) := by decide +kernel
theorem dX9_fit_7 : decode cX9_fit 7 = .ok (.putfield 25, 3) := by decide +kernel
theorem dX9_fit_10 : decode cX9_fit 10 = .ok (.aload_n 0, 1) := by decide +kernel
theorem dX9_fit_11 : decode cX9_fit 11 = .ok (.iconst 0, 1) := by decide +kernel
theorem dX9_fit_12 : decode cX9_fit 12 = .ok (.putfield 28, 3) := by decide +kernel
theorem dX9_fit_15 : decode cX9_fit 15 = .ok (.aload_n 1, 1) := by decide +kernel
theorem dX9_fit_16 : decode cX9_fit 16 = .ok (.ifnonnull 4, 3) := by decide +kernel
theorem dX9_fit_19 : decode cX9_fit 19 = .ok (.return_, 1) := by decide +kernel
theorem dX9_fit_20 : decode cX9_fit 20 = .ok (.iconst 0, 1) := by decide +kernel
theorem dX9_fit_21 : decode cX9_fit 21 = .ok (.istore_n 2, 1) := by decide +kernel
theorem dX9_fit_22 : decode cX9_fit 22 = .ok (.iload_n 2, 1) := by decide +kernel
theorem dX9_fit_23 : decode cX9_fit 23 = .ok (.bipush 10, 2) := by decide +kernel
theorem dX9_fit_25 : decode cX9_fit 25 = .ok (.if_icmp .ge 125, 3) := by decide +kernel
theorem dX9_fit_28 : decode cX9_fit 28 = .ok (.aload_n 1, 1) := by decide +kernel
theorem dX9_fit_29 : decode cX9_fit 29 = .ok (.getfield 31, 3) := by decide +kernel
theorem dX9_fit_32 : decode cX9_fit 32 = .ok (.getfield 37, 3) := by decide +kernel
theorem dX9_fit_35 : decode cX9_fit 35 = .ok (.iload_n 2, 1) := by decide +kernel
theorem dX9_fit_36 : decode cX9_fit 36 = .ok (.invokestatic 40, 3) := by decide +kernel
theorem dX9_fit_39 : decode cX9_fit 39 = .ok (.istore_n 3, 1) := by decide +kernel
theorem dX9_fit_40 : decode cX9_fit 40 = .ok (.iconst 0, 1) := by decide +kernel
theorem dX9_fit_41 : decode cX9_fit 41 = .ok (.istore 4, 2) := by decide +kernel
theorem dX9_fit_43 : decode cX9_fit 43 = .ok (.iload_n 3, 1) := by decide +kernel
theorem dX9_fit_44 : decode cX9_fit 44 = .ok (.iconst 2, 1) := by decide +kernel
theorem dX9_fit_45 : decode cX9_fit 45 = .ok (.if_icmp .eq 99, 3) := by decide +kernel
theorem dX9_fit_48 : decode cX9_fit 48 = .ok (.iload 4, 2) := by decide +kernel
theorem dX9_fit_50 : decode cX9_fit 50 = .ok (.bipush 10, 2) := by decide +kernel
theorem dX9_fit_52 : decode cX9_fit 52 = .ok (.if_icmp .ge 92, 3) := by decide +kernel
theorem dX9_fit_55 : decode cX9_fit 55 = .ok (.aload_n 1, 1) := by decide +kernel
theorem dX9_fit_56 : decode cX9_fit 56 = .ok (.iload_n 2, 1) := by decide +kernel
theorem dX9_fit_57 : decode cX9_fit 57 = .ok (.invokevirtual 44, 3) := by decide +kernel
theorem dX9_fit_60 : decode cX9_fit 60 = .ok (.iload 4, 2) := by decide +kernel
theorem dX9_fit_62 : decode cX9_fit 62 = .ok (.iadd, 1) := by decide +kernel
theorem dX9_fit_63 : decode cX9_fit 63 = .ok (.istore 5, 2) := by decide +kernel
theorem dX9_fit_65 : decode cX9_fit 65 = .ok (.aload_n 1, 1) := by decide +kernel
theorem dX9_fit_66 : decode cX9_fit 66 = .ok (.getfield 47, 3) := by decide +kernel
theorem dX9_fit_69 : decode cX9_fit 69 = .ok (.iload_n 3, 1) := by decide +kernel
theorem dX9_fit_70 : decode cX9_fit 70 = .ok (.iload 5, 2) := by decide +kernel
theorem dX9_fit_72 : decode cX9_fit 72 = .ok (.invokestatic 51, 3) := by decide +kernel
theorem dX9_fit_75 : decode cX9_fit 75 = .ok (.ifCond .eq 63, 3) := by decide +kernel
theorem dX9_fit_78 : decode cX9_fit 78 = .ok (.aload_n 0, 1) := by decide +kernel
theorem dX9_fit_79 : decode cX9_fit 79 = .ok (.getfield 9, 3) := by decide +kernel
theorem dX9_fit_82 : decode cX9_fit 82 = .ok (.aload_n 0, 1) := by decide +kernel
theorem dX9_fit_83 : decode cX9_fit 83 = .ok (.getfield 21, 3) := by decide +kernel
theorem dX9_fit_86 : decode cX9_fit 86 = .ok (.iload_n 3, 1) := by decide +kernel
theorem dX9_fit_87 : decode cX9_fit 87 = .ok (.invokestatic 55, 3) := by decide +kernel
theorem dX9_fit_90 : decode cX9_fit 90 = .ok (.aload_n 0, 1) := by decide +kernel
theorem dX9_fit_91 : decode cX9_fit 91 = .ok (.getfield 15, 3) := by decide +kernel
theorem dX9_fit_94 : decode cX9_fit 94 = .ok (.aload_n 0, 1) := by decide +kernel
theorem dX9_fit_95 : decode cX9_fit 95 = .ok (.getfield 21, 3) := by decide +kernel
theorem dX9_fit_98 : decode cX9_fit 98 = .ok (.iload 5, 2) := by decide +kernel
theorem dX9_fit_100 : decode cX9_fit 100 = .ok (.invokestatic 55, 3) := by decide +kernel
theorem dX9_fit_103 : decode cX9_fit 103 = .ok (.aload_n 0, 1) := by decide +kernel
theorem dX9_fit_104 : decode cX9_fit 104 = .ok (.dup, 1) := by decide +kernel
theorem dX9_fit_105 : decode cX9_fit 105 = .ok (.getfield 21, 3) := by decide +kernel
theorem dX9_fit_108 : decode cX9_fit 108 = .ok (.iconst 1, 1) := by decide +kernel
theorem dX9_fit_109 : decode cX9_fit 109 = .ok (.iadd, 1) := by decide +kernel
theorem dX9_fit_110 : decode cX9_fit 110 = .ok (.putfield 21, 3) := by decide +kernel
theorem dX9_fit_113 : decode cX9_fit 113 = .ok (.aload_n 0, 1) := by decide +kernel
theorem dX9_fit_114 : decode cX9_fit 114 = .ok (.dup, 1) := by decide +kernel
theorem dX9_fit_115 : decode cX9_fit 115 = .ok (.getfield 25, 3) := by decide +kernel
theorem dX9_fit_118 : decode cX9_fit 118 = .ok (.iconst 1, 1) := by decide +kernel
theorem dX9_fit_119 : decode cX9_fit 119 = .ok (.iload_n 2, 1) := by decide +kernel
theorem dX9_fit_120 : decode cX9_fit 120 = .ok (.ishl, 1) := by decide +kernel
theorem dX9_fit_121 : decode cX9_fit 121 = .ok (.ior, 1) := by decide +kernel
theorem dX9_fit_122 : decode cX9_fit 122 = .ok (.putfield 25, 3) := by decide +kernel
theorem dX9_fit_125 : decode cX9_fit 125 = .ok (.aload_n 0, 1) := by decide +kernel
theorem dX9_fit_126 : decode cX9_fit 126 = .ok (.dup, 1) := by decide +kernel
theorem dX9_fit_127 : decode cX9_fit 127 = .ok (.getfield 28, 3) := by decide +kernel
theorem dX9_fit_130 : decode cX9_fit 130 = .ok (.iconst 1, 1) := by decide +kernel
theorem dX9_fit_131 : decode cX9_fit 131 = .ok (.iload 4, 2) := by decide +kernel
theorem dX9_fit_133 : decode cX9_fit 133 = .ok (.ishl, 1) := by decide +kernel
theorem dX9_fit_134 : decode cX9_fit 134 = .ok (.ior, 1) := by decide +kernel
theorem dX9_fit_135 : decode cX9_fit 135 = .ok (.putfield 28, 3) := by decide +kernel
theorem dX9_fit_138 : decode cX9_fit 138 = .ok (.iinc 4 1, 3) := by decide +kernel
theorem dX9_fit_141 : decode cX9_fit 141 = .ok (.goto (-98), 3) := by decide +kernel
theorem dX9_fit_144 : decode cX9_fit 144 = .ok (.iinc 2 1, 3) := by decide +kernel
theorem dX9_fit_147 : decode cX9_fit 147 = .ok (.goto (-125), 3) := by decide +kernel
theorem dX9_fit_150 : decode cX9_fit 150 = .ok (.return_, 1) := by decide +kernel
set_option maxRecDepth 20000 in
theorem ggX9_allAreSo_X10_at : GoodIn wsX9_allAreSo wsX10_at := goodIn_r _ [3] (by decide +kernel) (by decide +kernel)
set_option maxRecDepth 20000 in
theorem gX9_allAreSo_X10_at_n40 : GoodIn wsX9_allAreSo (wsX10_at) := ggX9_allAreSo_X10_at
set_option maxRecDepth 20000 in
theorem ggX9_allAreSo_X9_cellAt : GoodIn wsX9_allAreSo wsX9_cellAt := goodIn_r _ [7, 8, 2, 9] (by decide +kernel) (by decide +kernel)
set_option maxRecDepth 20000 in
theorem gX9_allAreSo_X9_cellAt : GoodIn wsX9_allAreSo (va_wsS RX9 65 yX9_cellAt wsX9_cellAt) := goodIn_app (goodIn_of _ (by decide +kernel)) ggX9_allAreSo_X9_cellAt
theorem dX9_allAreSo_0 : decode cX9_allAreSo 0 = .ok (.aload_n 0, 1) := by decide +kernel
theorem dX9_allAreSo_1 : decode cX9_allAreSo 1 = .ok (.ifnonnull 5, 3) := by decide +kernel
theorem dX9_allAreSo_4 : decode cX9_allAreSo 4 = .ok (.iconst 1, 1) := by decide +kernel
theorem dX9_allAreSo_5 : decode cX9_allAreSo 5 = .ok (.ireturn, 1) := by decide +kernel
theorem dX9_allAreSo_6 : decode cX9_allAreSo 6 = .ok (.iconst 0, 1) := by decide +kernel
theorem dX9_allAreSo_7 : decode cX9_allAreSo 7 = .ok (.istore_n 3, 1) := by decide +kernel
theorem dX9_allAreSo_8 : decode cX9_allAreSo 8 = .ok (.iload_n 3, 1) := by decide +kernel
theorem dX9_allAreSo_9 : decode cX9_allAreSo 9 = .ok (.aload_n 0, 1) := by decide +kernel
theorem dX9_allAreSo_10 : decode cX9_allAreSo 10 = .ok (.getfield 59, 3) := by decide +kernel
theorem dX9_allAreSo_13 : decode cX9_allAreSo 13 = .ok (.if_icmp .ge 35, 3) := by decide +kernel
theorem dX9_allAreSo_16 : decode cX9_allAreSo 16 = .ok (.iload_n 1, 1) := by decide +kernel
theorem dX9_allAreSo_17 : decode cX9_allAreSo 17 = .ok (.iload_n 2, 1) := by decide +kernel
theorem dX9_allAreSo_18 : decode cX9_allAreSo 18 = .ok (.aload_n 0, 1) := by decide +kernel
theorem dX9_allAreSo_19 : decode cX9_allAreSo 19 = .ok (.getfield 62, 3) := by decide +kernel
theorem dX9_allAreSo_22 : decode cX9_allAreSo 22 = .ok (.iload_n 3, 1) := by decide +kernel
theorem dX9_allAreSo_23 : decode cX9_allAreSo 23 = .ok (.invokestatic 40, 3) := by decide +kernel
theorem dX9_allAreSo_26 : decode cX9_allAreSo 26 = .ok (.invokestatic 65, 3) := by decide +kernel
theorem dX9_allAreSo_29 : decode cX9_allAreSo 29 = .ok (.aload_n 0, 1) := by decide +kernel
theorem dX9_allAreSo_30 : decode cX9_allAreSo 30 = .ok (.getfield 69, 3) := by decide +kernel
theorem dX9_allAreSo_33 : decode cX9_allAreSo 33 = .ok (.iload_n 3, 1) := by decide +kernel
theorem dX9_allAreSo_34 : decode cX9_allAreSo 34 = .ok (.invokestatic 40, 3) := by decide +kernel
theorem dX9_allAreSo_37 : decode cX9_allAreSo 37 = .ok (.if_icmp .eq 5, 3) := by decide +kernel
theorem dX9_allAreSo_40 : decode cX9_allAreSo 40 = .ok (.iconst 0, 1) := by decide +kernel
theorem dX9_allAreSo_41 : decode cX9_allAreSo 41 = .ok (.ireturn, 1) := by decide +kernel
theorem dX9_allAreSo_42 : decode cX9_allAreSo 42 = .ok (.iinc 3 1, 3) := by decide +kernel
theorem dX9_allAreSo_45 : decode cX9_allAreSo 45 = .ok (.goto (-37), 3) := by decide +kernel
theorem dX9_allAreSo_48 : decode cX9_allAreSo 48 = .ok (.iconst 1, 1) := by decide +kernel
theorem dX9_allAreSo_49 : decode cX9_allAreSo 49 = .ok (.ireturn, 1) := by decide +kernel
set_option maxRecDepth 20000 in
theorem ggX9_cellAt_X10_within : GoodIn wsX9_cellAt wsX10_within := goodIn_r _ [3] (by decide +kernel) (by decide +kernel)
set_option maxRecDepth 20000 in
theorem gX9_cellAt_X10_within_n72 : GoodIn wsX9_cellAt (wsX10_within) := ggX9_cellAt_X10_within
theorem dX9_cellAt_0 : decode cX9_cellAt 0 = .ok (.iload_n 2, 1) := by decide +kernel
theorem dX9_cellAt_1 : decode cX9_cellAt 1 = .ok (.iload_n 1, 1) := by decide +kernel
theorem dX9_cellAt_2 : decode cX9_cellAt 2 = .ok (.isub, 1) := by decide +kernel
theorem dX9_cellAt_3 : decode cX9_cellAt 3 = .ok (.istore_n 3, 1) := by decide +kernel
theorem dX9_cellAt_4 : decode cX9_cellAt 4 = .ok (.iload_n 3, 1) := by decide +kernel
theorem dX9_cellAt_5 : decode cX9_cellAt 5 = .ok (.iconst 0, 1) := by decide +kernel
theorem dX9_cellAt_6 : decode cX9_cellAt 6 = .ok (.bipush 16, 2) := by decide +kernel
theorem dX9_cellAt_8 : decode cX9_cellAt 8 = .ok (.invokestatic 72, 3) := by decide +kernel
theorem dX9_cellAt_11 : decode cX9_cellAt 11 = .ok (.ifCond .ne 6, 3) := by decide +kernel
theorem dX9_cellAt_14 : decode cX9_cellAt 14 = .ok (.bipush 17, 2) := by decide +kernel
theorem dX9_cellAt_16 : decode cX9_cellAt 16 = .ok (.ireturn, 1) := by decide +kernel
theorem dX9_cellAt_17 : decode cX9_cellAt 17 = .ok (.iload_n 0, 1) := by decide +kernel
theorem dX9_cellAt_18 : decode cX9_cellAt 18 = .ok (.ifCond .ne 7, 3) := by decide +kernel
theorem dX9_cellAt_21 : decode cX9_cellAt 21 = .ok (.iload_n 3, 1) := by decide +kernel
theorem dX9_cellAt_22 : decode cX9_cellAt 22 = .ok (.goto 7, 3) := by decide +kernel
theorem dX9_cellAt_25 : decode cX9_cellAt 25 = .ok (.bipush 16, 2) := by decide +kernel
theorem dX9_cellAt_27 : decode cX9_cellAt 27 = .ok (.iload_n 3, 1) := by decide +kernel
theorem dX9_cellAt_28 : decode cX9_cellAt 28 = .ok (.isub, 1) := by decide +kernel
theorem dX9_cellAt_29 : decode cX9_cellAt 29 = .ok (.ireturn, 1) := by decide +kernel
set_option maxRecDepth 20000 in
theorem ggX9_mostLeftAt_X10_fill : GoodIn wsX9_mostLeftAt wsX10_fill := goodIn_r _ [11] (by decide +kernel) (by decide +kernel)
set_option maxRecDepth 20000 in
theorem gX9_mostLeftAt_X10_fill_n76 : GoodIn wsX9_mostLeftAt (wsX10_fill) := ggX9_mostLeftAt_X10_fill
set_option maxRecDepth 20000 in
theorem ggX9_mostLeftAt_X10_at : GoodIn wsX9_mostLeftAt wsX10_at := goodIn_r _ [13] (by decide +kernel) (by decide +kernel)
set_option maxRecDepth 20000 in
theorem gX9_mostLeftAt_X10_at_n40 : GoodIn wsX9_mostLeftAt (wsX10_at) := ggX9_mostLeftAt_X10_at
set_option maxRecDepth 20000 in
theorem ggX9_mostLeftAt_X9_cellAt : GoodIn wsX9_mostLeftAt wsX9_cellAt := goodIn_r _ [17, 18, 10, 19] (by decide +kernel) (by decide +kernel)
set_option maxRecDepth 20000 in
theorem gX9_mostLeftAt_X9_cellAt : GoodIn wsX9_mostLeftAt (va_wsS RX9 65 yX9_cellAt wsX9_cellAt) := goodIn_app (goodIn_of _ (by decide +kernel)) ggX9_mostLeftAt_X9_cellAt
set_option maxRecDepth 20000 in
theorem ggX9_mostLeftAt_X10_put : GoodIn wsX9_mostLeftAt wsX10_put := goodIn_r _ [21] (by decide +kernel) (by decide +kernel)
set_option maxRecDepth 20000 in
theorem gX9_mostLeftAt_X10_put_n55 : GoodIn wsX9_mostLeftAt (wsX10_put) := ggX9_mostLeftAt_X10_put
theorem dX9_mostLeftAt_0 : decode cX9_mostLeftAt 0 = .ok (.aload_n 0, 1) := by decide +kernel
theorem dX9_mostLeftAt_1 : decode cX9_mostLeftAt 1 = .ok (.getfield 18, 3) := by decide +kernel
theorem dX9_mostLeftAt_4 : decode cX9_mostLeftAt 4 = .ok (.iconst 0, 1) := by decide +kernel
theorem dX9_mostLeftAt_5 : decode cX9_mostLeftAt 5 = .ok (.invokestatic 76, 3) := by decide +kernel
theorem dX9_mostLeftAt_8 : decode cX9_mostLeftAt 8 = .ok (.iconst 0, 1) := by decide +kernel
theorem dX9_mostLeftAt_9 : decode cX9_mostLeftAt 9 = .ok (.istore_n 2, 1) := by decide +kernel
theorem dX9_mostLeftAt_10 : decode cX9_mostLeftAt 10 = .ok (.iconst 0, 1) := by decide +kernel
theorem dX9_mostLeftAt_11 : decode cX9_mostLeftAt 11 = .ok (.istore_n 3, 1) := by decide +kernel
theorem dX9_mostLeftAt_12 : decode cX9_mostLeftAt 12 = .ok (.iload_n 3, 1) := by decide +kernel
theorem dX9_mostLeftAt_13 : decode cX9_mostLeftAt 13 = .ok (.aload_n 0, 1) := by decide +kernel
theorem dX9_mostLeftAt_14 : decode cX9_mostLeftAt 14 = .ok (.getfield 21, 3) := by decide +kernel
theorem dX9_mostLeftAt_17 : decode cX9_mostLeftAt 17 = .ok (.if_icmp .ge 62, 3) := by decide +kernel
theorem dX9_mostLeftAt_20 : decode cX9_mostLeftAt 20 = .ok (.aload_n 0, 1) := by decide +kernel
theorem dX9_mostLeftAt_21 : decode cX9_mostLeftAt 21 = .ok (.getfield 9, 3) := by decide +kernel
theorem dX9_mostLeftAt_24 : decode cX9_mostLeftAt 24 = .ok (.iload_n 3, 1) := by decide +kernel
theorem dX9_mostLeftAt_25 : decode cX9_mostLeftAt 25 = .ok (.invokestatic 40, 3) := by decide +kernel
theorem dX9_mostLeftAt_28 : decode cX9_mostLeftAt 28 = .ok (.aload_n 0, 1) := by decide +kernel
theorem dX9_mostLeftAt_29 : decode cX9_mostLeftAt 29 = .ok (.getfield 15, 3) := by decide +kernel
theorem dX9_mostLeftAt_32 : decode cX9_mostLeftAt 32 = .ok (.iload_n 3, 1) := by decide +kernel
theorem dX9_mostLeftAt_33 : decode cX9_mostLeftAt 33 = .ok (.invokestatic 40, 3) := by decide +kernel
theorem dX9_mostLeftAt_36 : decode cX9_mostLeftAt 36 = .ok (.iload_n 1, 1) := by decide +kernel
theorem dX9_mostLeftAt_37 : decode cX9_mostLeftAt 37 = .ok (.invokestatic 65, 3) := by decide +kernel
theorem dX9_mostLeftAt_40 : decode cX9_mostLeftAt 40 = .ok (.istore 4, 2) := by decide +kernel
theorem dX9_mostLeftAt_42 : decode cX9_mostLeftAt 42 = .ok (.aload_n 0, 1) := by decide +kernel
theorem dX9_mostLeftAt_43 : decode cX9_mostLeftAt 43 = .ok (.getfield 18, 3) := by decide +kernel
theorem dX9_mostLeftAt_46 : decode cX9_mostLeftAt 46 = .ok (.iload 4, 2) := by decide +kernel
theorem dX9_mostLeftAt_48 : decode cX9_mostLeftAt 48 = .ok (.invokestatic 40, 3) := by decide +kernel
theorem dX9_mostLeftAt_51 : decode cX9_mostLeftAt 51 = .ok (.iconst 1, 1) := by decide +kernel
theorem dX9_mostLeftAt_52 : decode cX9_mostLeftAt 52 = .ok (.iadd, 1) := by decide +kernel
theorem dX9_mostLeftAt_53 : decode cX9_mostLeftAt 53 = .ok (.istore 5, 2) := by decide +kernel
theorem dX9_mostLeftAt_55 : decode cX9_mostLeftAt 55 = .ok (.aload_n 0, 1) := by decide +kernel
theorem dX9_mostLeftAt_56 : decode cX9_mostLeftAt 56 = .ok (.getfield 18, 3) := by decide +kernel
theorem dX9_mostLeftAt_59 : decode cX9_mostLeftAt 59 = .ok (.iload 4, 2) := by decide +kernel
theorem dX9_mostLeftAt_61 : decode cX9_mostLeftAt 61 = .ok (.iload 5, 2) := by decide +kernel
theorem dX9_mostLeftAt_63 : decode cX9_mostLeftAt 63 = .ok (.invokestatic 55, 3) := by decide +kernel
theorem dX9_mostLeftAt_66 : decode cX9_mostLeftAt 66 = .ok (.iload_n 2, 1) := by decide +kernel
theorem dX9_mostLeftAt_67 : decode cX9_mostLeftAt 67 = .ok (.iload 5, 2) := by decide +kernel
theorem dX9_mostLeftAt_69 : decode cX9_mostLeftAt 69 = .ok (.invokestatic 80, 3) := by decide +kernel
theorem dX9_mostLeftAt_72 : decode cX9_mostLeftAt 72 = .ok (.istore_n 2, 1) := by decide +kernel
theorem dX9_mostLeftAt_73 : decode cX9_mostLeftAt 73 = .ok (.iinc 3 1, 3) := by decide +kernel
theorem dX9_mostLeftAt_76 : decode cX9_mostLeftAt 76 = .ok (.goto (-64), 3) := by decide +kernel
theorem dX9_mostLeftAt_79 : decode cX9_mostLeftAt 79 = .ok (.iload_n 2, 1) := by decide +kernel
theorem dX9_mostLeftAt_80 : decode cX9_mostLeftAt 80 = .ok (.ireturn, 1) := by decide +kernel
set_option maxRecDepth 20000 in
theorem ggX10_init_X8_init : GoodIn wsX10_init wsX8_init := goodIn_r _ [42, 43, 2, 3, 44, 45, 46, 47, 48, 49, 50, 51, 52, 53, 54, 55, 56, 57, 58, 59, 60, 61, 62, 63, 64, 65, 66, 67, 68, 69, 70, 71, 72, 73, 74, 75, 76, 77, 78, 125, 126, 127, 128, 129, 130, 131, 168, 169, 170, 171, 172, 173] (by decide +kernel) (by decide +kernel)
set_option maxRecDepth 20000 in
theorem gX10_init_X8_init : GoodIn wsX10_init (wsX8_init) := ggX10_init_X8_init
set_option maxRecDepth 20000 in
theorem ggX10_init_X4_init : GoodIn wsX10_init wsX4_init := goodIn_r _ [80, 81, 2, 3, 44, 82, 83, 144, 145] (by decide +kernel) (by decide +kernel)
set_option maxRecDepth 20000 in
theorem gX10_init_X4_init_n31 : GoodIn wsX10_init (wsX4_init) := ggX10_init_X4_init
set_option maxRecDepth 20000 in
theorem ggX10_init_X6_init : GoodIn wsX10_init wsX6_init := goodIn_r _ [85, 86, 2, 3, 87, 88, 146, 147] (by decide +kernel) (by decide +kernel)
set_option maxRecDepth 20000 in
theorem gX10_init_X6_init_n38 : GoodIn wsX10_init (wsX6_init) := ggX10_init_X6_init
set_option maxRecDepth 20000 in
theorem ggX10_init_X1_init : GoodIn wsX10_init wsX1_init := goodIn_r _ [90, 91, 2, 3, 92, 93, 94, 95, 96, 148, 149, 150, 151, 152] (by decide +kernel) (by decide +kernel)
set_option maxRecDepth 20000 in
theorem gX10_init_X1_init_n45 : GoodIn wsX10_init (wsX1_init) := ggX10_init_X1_init
set_option maxRecDepth 20000 in
theorem ggX10_init_X3_init : GoodIn wsX10_init wsX3_init := goodIn_r _ [98, 99, 2, 3, 44, 100, 101, 102, 103, 153, 154, 155, 156] (by decide +kernel) (by decide +kernel)
set_option maxRecDepth 20000 in
theorem gX10_init_X3_init_n52 : GoodIn wsX10_init (wsX3_init) := ggX10_init_X3_init
set_option maxRecDepth 20000 in
theorem ggX10_init_X9_init : GoodIn wsX10_init wsX9_init := goodIn_r _ [105, 106, 2, 3, 44, 107, 108, 109, 110, 111, 112, 157, 158, 159, 160, 161, 162] (by decide +kernel) (by decide +kernel)
set_option maxRecDepth 20000 in
theorem gX10_init_X9_init_n59 : GoodIn wsX10_init (wsX9_init) := ggX10_init_X9_init
set_option maxRecDepth 20000 in
theorem ggX10_init_X0_init : GoodIn wsX10_init wsX0_init := goodIn_r _ [114, 115, 2, 3, 116, 117, 163, 164] (by decide +kernel) (by decide +kernel)
set_option maxRecDepth 20000 in
theorem gX10_init_X0_init_n66 : GoodIn wsX10_init (wsX0_init) := ggX10_init_X0_init
set_option maxRecDepth 20000 in
theorem ggX10_init_X2_init : GoodIn wsX10_init wsX2_init := goodIn_r _ [119, 120, 2, 3, 121, 122, 123, 124, 165, 166, 167] (by decide +kernel) (by decide +kernel)
set_option maxRecDepth 20000 in
theorem gX10_init_X2_init_n73 : GoodIn wsX10_init (wsX2_init) := ggX10_init_X2_init
theorem dX10_init_0 : decode cX10_init 0 = .ok (.aload_n 0, 1) := by decide +kernel
theorem dX10_init_1 : decode cX10_init 1 = .ok (.invokespecial 1, 3) := by decide +kernel
theorem dX10_init_4 : decode cX10_init 4 = .ok (.aload_n 0, 1) := by decide +kernel
theorem dX10_init_5 : decode cX10_init 5 = .ok (.new 7, 3) := by decide +kernel
theorem dX10_init_8 : decode cX10_init 8 = .ok (.dup, 1) := by decide +kernel
theorem dX10_init_9 : decode cX10_init 9 = .ok (.invokespecial 9, 3) := by decide +kernel
theorem dX10_init_12 : decode cX10_init 12 = .ok (.putfield 10, 3) := by decide +kernel
theorem dX10_init_15 : decode cX10_init 15 = .ok (.aload_n 0, 1) := by decide +kernel
theorem dX10_init_16 : decode cX10_init 16 = .ok (.new 7, 3) := by decide +kernel
theorem dX10_init_19 : decode cX10_init 19 = .ok (.dup, 1) := by decide +kernel
theorem dX10_init_20 : decode cX10_init 20 = .ok (.invokespecial 9, 3) := by decide +kernel
theorem dX10_init_23 : decode cX10_init 23 = .ok (.putfield 16, 3) := by decide +kernel
theorem dX10_init_26 : decode cX10_init 26 = .ok (.aload_n 0, 1) := by decide +kernel
theorem dX10_init_27 : decode cX10_init 27 = .ok (.new 7, 3) := by decide +kernel
theorem dX10_init_30 : decode cX10_init 30 = .ok (.dup, 1) := by decide +kernel
theorem dX10_init_31 : decode cX10_init 31 = .ok (.invokespecial 9, 3) := by decide +kernel
theorem dX10_init_34 : decode cX10_init 34 = .ok (.putfield 19, 3) := by decide +kernel
theorem dX10_init_37 : decode cX10_init 37 = .ok (.aload_n 0, 1) := by decide +kernel
theorem dX10_init_38 : decode cX10_init 38 = .ok (.new 7, 3) := by decide +kernel
theorem dX10_init_41 : decode cX10_init 41 = .ok (.dup, 1) := by decide +kernel
theorem dX10_init_42 : decode cX10_init 42 = .ok (.invokespecial 9, 3) := by decide +kernel
theorem dX10_init_45 : decode cX10_init 45 = .ok (.putfield 22, 3) := by decide +kernel
theorem dX10_init_48 : decode cX10_init 48 = .ok (.aload_n 0, 1) := by decide +kernel
theorem dX10_init_49 : decode cX10_init 49 = .ok (.iconst 0, 1) := by decide +kernel
theorem dX10_init_50 : decode cX10_init 50 = .ok (.putfield 25, 3) := by decide +kernel
theorem dX10_init_53 : decode cX10_init 53 = .ok (.aload_n 0, 1) := by decide +kernel
theorem dX10_init_54 : decode cX10_init 54 = .ok (.new 29, 3) := by decide +kernel
theorem dX10_init_57 : decode cX10_init 57 = .ok (.dup, 1) := by decide +kernel
theorem dX10_init_58 : decode cX10_init 58 = .ok (.invokespecial 31, 3) := by decide +kernel
theorem dX10_init_61 : decode cX10_init 61 = .ok (.putfield 32, 3) := by decide +kernel
theorem dX10_init_64 : decode cX10_init 64 = .ok (.aload_n 0, 1) := by decide +kernel
theorem dX10_init_65 : decode cX10_init 65 = .ok (.new 36, 3) := by decide +kernel
theorem dX10_init_68 : decode cX10_init 68 = .ok (.dup, 1) := by decide +kernel
theorem dX10_init_69 : decode cX10_init 69 = .ok (.invokespecial 38, 3) := by decide +kernel
theorem dX10_init_72 : decode cX10_init 72 = .ok (.putfield 39, 3) := by decide +kernel
theorem dX10_init_75 : decode cX10_init 75 = .ok (.aload_n 0, 1) := by decide +kernel
theorem dX10_init_76 : decode cX10_init 76 = .ok (.new 43, 3) := by decide +kernel
theorem dX10_init_79 : decode cX10_init 79 = .ok (.dup, 1) := by decide +kernel
theorem dX10_init_80 : decode cX10_init 80 = .ok (.invokespecial 45, 3) := by decide +kernel
theorem dX10_init_83 : decode cX10_init 83 = .ok (.putfield 46, 3) := by decide +kernel
theorem dX10_init_86 : decode cX10_init 86 = .ok (.aload_n 0, 1) := by decide +kernel
theorem dX10_init_87 : decode cX10_init 87 = .ok (.new 50, 3) := by decide +kernel
theorem dX10_init_90 : decode cX10_init 90 = .ok (.dup, 1) := by decide +kernel
theorem dX10_init_91 : decode cX10_init 91 = .ok (.invokespecial 52, 3) := by decide +kernel
theorem dX10_init_94 : decode cX10_init 94 = .ok (.putfield 53, 3) := by decide +kernel
theorem dX10_init_97 : decode cX10_init 97 = .ok (.aload_n 0, 1) := by decide +kernel
theorem dX10_init_98 : decode cX10_init 98 = .ok (.new 57, 3) := by decide +kernel
theorem dX10_init_101 : decode cX10_init 101 = .ok (.dup, 1) := by decide +kernel
theorem dX10_init_102 : decode cX10_init 102 = .ok (.invokespecial 59, 3) := by decide +kernel
theorem dX10_init_105 : decode cX10_init 105 = .ok (.putfield 60, 3) := by decide +kernel
theorem dX10_init_108 : decode cX10_init 108 = .ok (.aload_n 0, 1) := by decide +kernel
theorem dX10_init_109 : decode cX10_init 109 = .ok (.new 64, 3) := by decide +kernel
theorem dX10_init_112 : decode cX10_init 112 = .ok (.dup, 1) := by decide +kernel
theorem dX10_init_113 : decode cX10_init 113 = .ok (.invokespecial 66, 3) := by decide +kernel
theorem dX10_init_116 : decode cX10_init 116 = .ok (.putfield 67, 3) := by decide +kernel
theorem dX10_init_119 : decode cX10_init 119 = .ok (.aload_n 0, 1) := by decide +kernel
theorem dX10_init_120 : decode cX10_init 120 = .ok (.new 71, 3) := by decide +kernel
theorem dX10_init_123 : decode cX10_init 123 = .ok (.dup, 1) := by decide +kernel
theorem dX10_init_124 : decode cX10_init 124 = .ok (.invokespecial 73, 3) := by decide +kernel
theorem dX10_init_127 : decode cX10_init 127 = .ok (.putfield 74, 3) := by decide +kernel
theorem dX10_init_130 : decode cX10_init 130 = .ok (.return_, 1) := by decide +kernel
set_option maxRecDepth 20000 in
theorem ggX10_member_X10_within : GoodIn wsX10_member wsX10_within := goodIn_r _ [5] (by decide +kernel) (by decide +kernel)
set_option maxRecDepth 20000 in
theorem gX10_member_X10_within : GoodIn wsX10_member (va_wsS RX10 78 yX10_within wsX10_within) := goodIn_app (goodIn_of _ (by decide +kernel)) ggX10_member_X10_within
set_option maxRecDepth 20000 in
theorem ggX10_member_X10_at : GoodIn wsX10_member wsX10_at := goodIn_r _ [8] (by decide +kernel) (by decide +kernel)
set_option maxRecDepth 20000 in
theorem gX10_member_X10_at : GoodIn wsX10_member (va_wsS RX10 86 yX10_at wsX10_at) := goodIn_app (goodIn_of _ (by decide +kernel)) ggX10_member_X10_at
set_option maxRecDepth 20000 in
theorem ggX10_member_X10_put : GoodIn wsX10_member wsX10_put := goodIn_r _ [11] (by decide +kernel) (by decide +kernel)
set_option maxRecDepth 20000 in
theorem gX10_member_X10_put : GoodIn wsX10_member (va_wsS RX10 90 yX10_put wsX10_put) := goodIn_app (goodIn_of _ (by decide +kernel)) ggX10_member_X10_put
theorem dX10_member_0 : decode cX10_member 0 = .ok (.iload_n 1, 1) := by decide +kernel
theorem dX10_member_1 : decode cX10_member 1 = .ok (.iconst 0, 1) := by decide +kernel
theorem dX10_member_2 : decode cX10_member 2 = .ok (.bipush 9, 2) := by decide +kernel
theorem dX10_member_4 : decode cX10_member 4 = .ok (.invokestatic 78, 3) := by decide +kernel
theorem dX10_member_7 : decode cX10_member 7 = .ok (.ifCond .ne 5, 3) := by decide +kernel
theorem dX10_member_10 : decode cX10_member 10 = .ok (.iconst (-1), 1) := by decide +kernel
theorem dX10_member_11 : decode cX10_member 11 = .ok (.ireturn, 1) := by decide +kernel
theorem dX10_member_12 : decode cX10_member 12 = .ok (.iload_n 2, 1) := by decide +kernel
theorem dX10_member_13 : decode cX10_member 13 = .ok (.iconst 1, 1) := by decide +kernel
theorem dX10_member_14 : decode cX10_member 14 = .ok (.bipush 15, 2) := by decide +kernel
theorem dX10_member_16 : decode cX10_member 16 = .ok (.invokestatic 78, 3) := by decide +kernel
theorem dX10_member_19 : decode cX10_member 19 = .ok (.ifCond .eq 13, 3) := by decide +kernel
theorem dX10_member_22 : decode cX10_member 22 = .ok (.iload_n 3, 1) := by decide +kernel
theorem dX10_member_23 : decode cX10_member 23 = .ok (.iconst 0, 1) := by decide +kernel
theorem dX10_member_24 : decode cX10_member 24 = .ok (.bipush 12, 2) := by decide +kernel
theorem dX10_member_26 : decode cX10_member 26 = .ok (.invokestatic 78, 3) := by decide +kernel
theorem dX10_member_29 : decode cX10_member 29 = .ok (.ifCond .ne 6, 3) := by decide +kernel
theorem dX10_member_32 : decode cX10_member 32 = .ok (.bipush (-2), 2) := by decide +kernel
theorem dX10_member_34 : decode cX10_member 34 = .ok (.ireturn, 1) := by decide +kernel
theorem dX10_member_35 : decode cX10_member 35 = .ok (.aload_n 0, 1) := by decide +kernel
theorem dX10_member_36 : decode cX10_member 36 = .ok (.getfield 10, 3) := by decide +kernel
theorem dX10_member_39 : decode cX10_member 39 = .ok (.getfield 82, 3) := by decide +kernel
theorem dX10_member_42 : decode cX10_member 42 = .ok (.iload_n 1, 1) := by decide +kernel
theorem dX10_member_43 : decode cX10_member 43 = .ok (.invokestatic 86, 3) := by decide +kernel
theorem dX10_member_46 : decode cX10_member 46 = .ok (.istore 4, 2) := by decide +kernel
theorem dX10_member_48 : decode cX10_member 48 = .ok (.aload_n 0, 1) := by decide +kernel
theorem dX10_member_49 : decode cX10_member 49 = .ok (.getfield 10, 3) := by decide +kernel
theorem dX10_member_52 : decode cX10_member 52 = .ok (.getfield 82, 3) := by decide +kernel
theorem dX10_member_55 : decode cX10_member 55 = .ok (.iload_n 1, 1) := by decide +kernel
theorem dX10_member_56 : decode cX10_member 56 = .ok (.iload_n 2, 1) := by decide +kernel
theorem dX10_member_57 : decode cX10_member 57 = .ok (.invokestatic 90, 3) := by decide +kernel
theorem dX10_member_60 : decode cX10_member 60 = .ok (.aload_n 0, 1) := by decide +kernel
theorem dX10_member_61 : decode cX10_member 61 = .ok (.getfield 10, 3) := by decide +kernel
theorem dX10_member_64 : decode cX10_member 64 = .ok (.getfield 94, 3) := by decide +kernel
theorem dX10_member_67 : decode cX10_member 67 = .ok (.iload_n 1, 1) := by decide +kernel
theorem dX10_member_68 : decode cX10_member 68 = .ok (.iload_n 3, 1) := by decide +kernel
theorem dX10_member_69 : decode cX10_member 69 = .ok (.invokestatic 90, 3) := by decide +kernel
theorem dX10_member_72 : decode cX10_member 72 = .ok (.iload 4, 2) := by decide +kernel
theorem dX10_member_74 : decode cX10_member 74 = .ok (.ireturn, 1) := by decide +kernel
set_option maxRecDepth 20000 in
theorem ggX10_wide_X10_within : GoodIn wsX10_wide wsX10_within := goodIn_r _ [5] (by decide +kernel) (by decide +kernel)
set_option maxRecDepth 20000 in
theorem gX10_wide_X10_within : GoodIn wsX10_wide (va_wsS RX10 78 yX10_within wsX10_within) := goodIn_app (goodIn_of _ (by decide +kernel)) ggX10_wide_X10_within
set_option maxRecDepth 20000 in
theorem ggX10_wide_X10_at : GoodIn wsX10_wide wsX10_at := goodIn_r _ [8] (by decide +kernel) (by decide +kernel)
set_option maxRecDepth 20000 in
theorem gX10_wide_X10_at : GoodIn wsX10_wide (va_wsS RX10 86 yX10_at wsX10_at) := goodIn_app (goodIn_of _ (by decide +kernel)) ggX10_wide_X10_at
set_option maxRecDepth 20000 in
theorem ggX10_wide_X10_put : GoodIn wsX10_wide wsX10_put := goodIn_r _ [11] (by decide +kernel) (by decide +kernel)
set_option maxRecDepth 20000 in
theorem gX10_wide_X10_put : GoodIn wsX10_wide (va_wsS RX10 90 yX10_put wsX10_put) := goodIn_app (goodIn_of _ (by decide +kernel)) ggX10_wide_X10_put
theorem dX10_wide_0 : decode cX10_wide 0 = .ok (.iload_n 1, 1) := by decide +kernel
theorem dX10_wide_1 : decode cX10_wide 1 = .ok (.iconst 0, 1) := by decide +kernel
theorem dX10_wide_2 : decode cX10_wide 2 = .ok (.bipush 16, 2) := by decide +kernel
theorem dX10_wide_4 : decode cX10_wide 4 = .ok (.invokestatic 78, 3) := by decide +kernel
theorem dX10_wide_7 : decode cX10_wide 7 = .ok (.ifCond .ne 5, 3) := by decide +kernel
theorem dX10_wide_10 : decode cX10_wide 10 = .ok (.iconst (-1), 1) := by decide +kernel
theorem dX10_wide_11 : decode cX10_wide 11 = .ok (.ireturn, 1) := by decide +kernel
theorem dX10_wide_12 : decode cX10_wide 12 = .ok (.iload_n 2, 1) := by decide +kernel
theorem dX10_wide_13 : decode cX10_wide 13 = .ok (.iconst 1, 1) := by decide +kernel
theorem dX10_wide_14 : decode cX10_wide 14 = .ok (.bipush 30, 2) := by decide +kernel
theorem dX10_wide_16 : decode cX10_wide 16 = .ok (.invokestatic 78, 3) := by decide +kernel
theorem dX10_wide_19 : decode cX10_wide 19 = .ok (.ifCond .ne 6, 3) := by decide +kernel
theorem dX10_wide_22 : decode cX10_wide 22 = .ok (.bipush (-2), 2) := by decide +kernel
theorem dX10_wide_24 : decode cX10_wide 24 = .ok (.ireturn, 1) := by decide +kernel
