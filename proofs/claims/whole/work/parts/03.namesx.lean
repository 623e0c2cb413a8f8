set_option maxRecDepth 20000 in
theorem ggX0_init_J7_fill_53178 : GoodIn wsX0_init wsJ7_fill_53178 := goodIn_r _ [10] (by decide +kernel) (by decide +kernel)
set_option maxRecDepth 20000 in
theorem gX0_init_J7_fill_53178 : GoodIn wsX0_init (va_wsS RX0 18 yJ7_fill_53178 wsJ7_fill_53178) := goodIn_app (goodIn_of _ (by decide +kernel)) ggX0_init_J7_fill_53178
theorem dX0_init_0 : decode cX0_init 0 = .ok (.aload_n 0, 1) := by decide +kernel
theorem dX0_init_1 : decode cX0_init 1 = .ok (.invokespecial 3, 3) := by decide +kernel
theorem dX0_init_4 : decode cX0_init 4 = .ok (.aload_n 0, 1) := by decide +kernel
theorem dX0_init_5 : decode cX0_init 5 = .ok (.bipush 112, 2) := by decide +kernel
theorem dX0_init_7 : decode cX0_init 7 = .ok (.newarray .int, 2) := by decide +kernel
theorem dX0_init_9 : decode cX0_init 9 = .ok (.putfield 9, 3) := by decide +kernel
theorem dX0_init_12 : decode cX0_init 12 = .ok (.aload_n 0, 1) := by decide +kernel
theorem dX0_init_13 : decode cX0_init 13 = .ok (.bipush 112, 2) := by decide +kernel
theorem dX0_init_15 : decode cX0_init 15 = .ok (.newarray .int, 2) := by decide +kernel
theorem dX0_init_17 : decode cX0_init 17 = .ok (.putfield 15, 3) := by decide +kernel
theorem dX0_init_20 : decode cX0_init 20 = .ok (.aload_n 0, 1) := by decide +kernel
theorem dX0_init_21 : decode cX0_init 21 = .ok (.getfield 9, 3) := by decide +kernel
theorem dX0_init_24 : decode cX0_init 24 = .ok (.iconst 0, 1) := by decide +kernel
theorem dX0_init_25 : decode cX0_init 25 = .ok (.invokestatic 18, 3) := by decide +kernel
theorem dX0_init_28 : decode cX0_init 28 = .ok (.return_, 1) := by decide +kernel
theorem dX0_change_0 : decode cX0_change 0 = .ok (.aload_n 0, 1) := by decide +kernel
theorem dX0_change_1 : decode cX0_change 1 = .ok (.getfield 9, 3) := by decide +kernel
theorem dX0_change_4 : decode cX0_change 4 = .ok (.iload_n 1, 1) := by decide +kernel
theorem dX0_change_5 : decode cX0_change 5 = .ok (.iload_n 2, 1) := by decide +kernel
theorem dX0_change_6 : decode cX0_change 6 = .ok (.iastore, 1) := by decide +kernel
theorem dX0_change_7 : decode cX0_change 7 = .ok (.aload_n 0, 1) := by decide +kernel
theorem dX0_change_8 : decode cX0_change 8 = .ok (.getfield 15, 3) := by decide +kernel
theorem dX0_change_11 : decode cX0_change 11 = .ok (.iload_n 1, 1) := by decide +kernel
theorem dX0_change_12 : decode cX0_change 12 = .ok (.iload_n 3, 1) := by decide +kernel
theorem dX0_change_13 : decode cX0_change 13 = .ok (.iastore, 1) := by decide +kernel
theorem dX0_change_14 : decode cX0_change 14 = .ok (.return_, 1) := by decide +kernel
theorem dX0_isDeclaring_0 : decode cX0_isDeclaring 0 = .ok (.aload_n 0, 1) := by decide +kernel
theorem dX0_isDeclaring_1 : decode cX0_isDeclaring 1 = .ok (.getfield 9, 3) := by decide +kernel
theorem dX0_isDeclaring_4 : decode cX0_isDeclaring 4 = .ok (.iload_n 1, 1) := by decide +kernel
theorem dX0_isDeclaring_5 : decode cX0_isDeclaring 5 = .ok (.iaload, 1) := by decide +kernel
theorem dX0_isDeclaring_6 : decode cX0_isDeclaring 6 = .ok (.iconst 1, 1) := by decide +kernel
theorem dX0_isDeclaring_7 : decode cX0_isDeclaring 7 = .ok (.if_icmp .eq 13, 3) := by decide +kernel
theorem dX0_isDeclaring_10 : decode cX0_isDeclaring 10 = .ok (.aload_n 0, 1) := by decide +kernel
theorem dX0_isDeclaring_11 : decode cX0_isDeclaring 11 = .ok (.getfield 9, 3) := by decide +kernel
theorem dX0_isDeclaring_14 : decode cX0_isDeclaring 14 = .ok (.iload_n 1, 1) := by decide +kernel
theorem dX0_isDeclaring_15 : decode cX0_isDeclaring 15 = .ok (.iaload, 1) := by decide +kernel
theorem dX0_isDeclaring_16 : decode cX0_isDeclaring 16 = .ok (.iconst 2, 1) := by decide +kernel
theorem dX0_isDeclaring_17 : decode cX0_isDeclaring 17 = .ok (.if_icmp .ne 7, 3) := by decide +kernel
theorem dX0_isDeclaring_20 : decode cX0_isDeclaring 20 = .ok (.iconst 1, 1) := by decide +kernel
theorem dX0_isDeclaring_21 : decode cX0_isDeclaring 21 = .ok (.goto 4, 3) := by decide +kernel
theorem dX0_isDeclaring_24 : decode cX0_isDeclaring 24 = .ok (.iconst 0, 1) := by decide +kernel
theorem dX0_isDeclaring_25 : decode cX0_isDeclaring 25 = .ok (.ireturn, 1) := by decide +kernel
set_option maxRecDepth 20000 in
theorem ggX0_startDeclaring_X0_isDeclaring : GoodIn wsX0_startDeclaring wsX0_isDeclaring := goodIn_r _ [5, 6, 12, 13] (by decide +kernel) (by decide +kernel)
set_option maxRecDepth 20000 in
theorem gX0_startDeclaring_X0_isDeclaring : GoodIn wsX0_startDeclaring (wsV RX0 24 RX0 yX0_isDeclaring wsX0_isDeclaring) := goodIn_app (goodIn_of _ (by decide +kernel)) ggX0_startDeclaring_X0_isDeclaring
set_option maxRecDepth 20000 in
theorem ggX0_startDeclaring_X0_change : GoodIn wsX0_startDeclaring wsX0_change := goodIn_r _ [10, 6, 11, 12, 13] (by decide +kernel) (by decide +kernel)
set_option maxRecDepth 20000 in
theorem gX0_startDeclaring_X0_change : GoodIn wsX0_startDeclaring (wsV RX0 28 RX0 yX0_change wsX0_change) := goodIn_app (goodIn_of _ (by decide +kernel)) ggX0_startDeclaring_X0_change
theorem dX0_startDeclaring_0 : decode cX0_startDeclaring 0 = .ok (.aload_n 0, 1) := by decide +kernel
theorem dX0_startDeclaring_1 : decode cX0_startDeclaring 1 = .ok (.iload_n 1, 1) := by decide +kernel
theorem dX0_startDeclaring_2 : decode cX0_startDeclaring 2 = .ok (.invokevirtual 24, 3) := by decide +kernel
theorem dX0_startDeclaring_5 : decode cX0_startDeclaring 5 = .ok (.ifCond .eq 5, 3) := by decide +kernel
theorem dX0_startDeclaring_8 : decode cX0_startDeclaring 8 = .ok (.iconst 0, 1) := by decide +kernel
theorem dX0_startDeclaring_9 : decode cX0_startDeclaring 9 = .ok (.ireturn, 1) := by decide +kernel
theorem dX0_startDeclaring_10 : decode cX0_startDeclaring 10 = .ok (.aload_n 0, 1) := by decide +kernel
theorem dX0_startDeclaring_11 : decode cX0_startDeclaring 11 = .ok (.iload_n 1, 1) := by decide +kernel
theorem dX0_startDeclaring_12 : decode cX0_startDeclaring 12 = .ok (.iconst 1, 1) := by decide +kernel
theorem dX0_startDeclaring_13 : decode cX0_startDeclaring 13 = .ok (.iconst 2, 1) := by decide +kernel
theorem dX0_startDeclaring_14 : decode cX0_startDeclaring 14 = .ok (.invokevirtual 28, 3) := by decide +kernel
theorem dX0_startDeclaring_17 : decode cX0_startDeclaring 17 = .ok (.iconst 1, 1) := by decide +kernel
theorem dX0_startDeclaring_18 : decode cX0_startDeclaring 18 = .ok (.ireturn, 1) := by decide +kernel
set_option maxRecDepth 20000 in
theorem ggX0_stopDeclaring_X0_isDeclaring : GoodIn wsX0_stopDeclaring wsX0_isDeclaring := goodIn_r _ [5, 6, 12, 13] (by decide +kernel) (by decide +kernel)
set_option maxRecDepth 20000 in
theorem gX0_stopDeclaring_X0_isDeclaring : GoodIn wsX0_stopDeclaring (wsV RX0 24 RX0 yX0_isDeclaring wsX0_isDeclaring) := goodIn_app (goodIn_of _ (by decide +kernel)) ggX0_stopDeclaring_X0_isDeclaring
set_option maxRecDepth 20000 in
theorem ggX0_stopDeclaring_X0_change : GoodIn wsX0_stopDeclaring wsX0_change := goodIn_r _ [10, 6, 11, 12, 13] (by decide +kernel) (by decide +kernel)
set_option maxRecDepth 20000 in
theorem gX0_stopDeclaring_X0_change : GoodIn wsX0_stopDeclaring (wsV RX0 28 RX0 yX0_change wsX0_change) := goodIn_app (goodIn_of _ (by decide +kernel)) ggX0_stopDeclaring_X0_change
theorem dX0_stopDeclaring_0 : decode cX0_stopDeclaring 0 = .ok (.aload_n 0, 1) := by decide +kernel
theorem dX0_stopDeclaring_1 : decode cX0_stopDeclaring 1 = .ok (.iload_n 1, 1) := by decide +kernel
theorem dX0_stopDeclaring_2 : decode cX0_stopDeclaring 2 = .ok (.invokevirtual 24, 3) := by decide +kernel
theorem dX0_stopDeclaring_5 : decode cX0_stopDeclaring 5 = .ok (.ifCond .ne 5, 3) := by decide +kernel
theorem dX0_stopDeclaring_8 : decode cX0_stopDeclaring 8 = .ok (.iconst 0, 1) := by decide +kernel
theorem dX0_stopDeclaring_9 : decode cX0_stopDeclaring 9 = .ok (.ireturn, 1) := by decide +kernel
theorem dX0_stopDeclaring_10 : decode cX0_stopDeclaring 10 = .ok (.aload_n 0, 1) := by decide +kernel
theorem dX0_stopDeclaring_11 : decode cX0_stopDeclaring 11 = .ok (.iload_n 1, 1) := by decide +kernel
theorem dX0_stopDeclaring_12 : decode cX0_stopDeclaring 12 = .ok (.iconst 3, 1) := by decide +kernel
theorem dX0_stopDeclaring_13 : decode cX0_stopDeclaring 13 = .ok (.iconst 0, 1) := by decide +kernel
theorem dX0_stopDeclaring_14 : decode cX0_stopDeclaring 14 = .ok (.invokevirtual 28, 3) := by decide +kernel
theorem dX0_stopDeclaring_17 : decode cX0_stopDeclaring 17 = .ok (.iconst 1, 1) := by decide +kernel
theorem dX0_stopDeclaring_18 : decode cX0_stopDeclaring 18 = .ok (.ireturn, 1) := by decide +kernel
set_option maxRecDepth 20000 in
theorem ggX0_declareAgain_X0_change : GoodIn wsX0_declareAgain wsX0_change := goodIn_r _ [6, 1, 7, 8, 9] (by decide +kernel) (by decide +kernel)
set_option maxRecDepth 20000 in
theorem gX0_declareAgain_X0_change : GoodIn wsX0_declareAgain (wsV RX0 28 RX0 yX0_change wsX0_change) := goodIn_app (goodIn_of _ (by decide +kernel)) ggX0_declareAgain_X0_change
theorem dX0_declareAgain_0 : decode cX0_declareAgain 0 = .ok (.aload_n 0, 1) := by decide +kernel
theorem dX0_declareAgain_1 : decode cX0_declareAgain 1 = .ok (.getfield 9, 3) := by decide +kernel
theorem dX0_declareAgain_4 : decode cX0_declareAgain 4 = .ok (.iload_n 1, 1) := by decide +kernel
theorem dX0_declareAgain_5 : decode cX0_declareAgain 5 = .ok (.iaload, 1) := by decide +kernel
theorem dX0_declareAgain_6 : decode cX0_declareAgain 6 = .ok (.iconst 2, 1) := by decide +kernel
theorem dX0_declareAgain_7 : decode cX0_declareAgain 7 = .ok (.if_icmp .ne 10, 3) := by decide +kernel
theorem dX0_declareAgain_10 : decode cX0_declareAgain 10 = .ok (.aload_n 0, 1) := by decide +kernel
theorem dX0_declareAgain_11 : decode cX0_declareAgain 11 = .ok (.iload_n 1, 1) := by decide +kernel
theorem dX0_declareAgain_12 : decode cX0_declareAgain 12 = .ok (.iconst 1, 1) := by decide +kernel
theorem dX0_declareAgain_13 : decode cX0_declareAgain 13 = .ok (.iconst 1, 1) := by decide +kernel
theorem dX0_declareAgain_14 : decode cX0_declareAgain 14 = .ok (.invokevirtual 28, 3) := by decide +kernel
theorem dX0_declareAgain_17 : decode cX0_declareAgain 17 = .ok (.return_, 1) := by decide +kernel
theorem dX0_nextMessage_0 : decode cX0_nextMessage 0 = .ok (.aload_n 0, 1) := by decide +kernel
theorem dX0_nextMessage_1 : decode cX0_nextMessage 1 = .ok (.getfield 9, 3) := by decide +kernel
theorem dX0_nextMessage_4 : decode cX0_nextMessage 4 = .ok (.iload_n 1, 1) := by decide +kernel
theorem dX0_nextMessage_5 : decode cX0_nextMessage 5 = .ok (.iaload, 1) := by decide +kernel
theorem dX0_nextMessage_6 : decode cX0_nextMessage 6 = .ok (.iconst 1, 1) := by decide +kernel
theorem dX0_nextMessage_7 : decode cX0_nextMessage 7 = .ok (.if_icmp .ne 31, 3) := by decide +kernel
theorem dX0_nextMessage_10 : decode cX0_nextMessage 10 = .ok (.aload_n 0, 1) := by decide +kernel
theorem dX0_nextMessage_11 : decode cX0_nextMessage 11 = .ok (.getfield 15, 3) := by decide +kernel
theorem dX0_nextMessage_14 : decode cX0_nextMessage 14 = .ok (.iload_n 1, 1) := by decide +kernel
theorem dX0_nextMessage_15 : decode cX0_nextMessage 15 = .ok (.dup2, 1) := by decide +kernel
theorem dX0_nextMessage_16 : decode cX0_nextMessage 16 = .ok (.iaload, 1) := by decide +kernel
theorem dX0_nextMessage_17 : decode cX0_nextMessage 17 = .ok (.iconst 1, 1) := by decide +kernel
theorem dX0_nextMessage_18 : decode cX0_nextMessage 18 = .ok (.isub, 1) := by decide +kernel
theorem dX0_nextMessage_19 : decode cX0_nextMessage 19 = .ok (.iastore, 1) := by decide +kernel
theorem dX0_nextMessage_20 : decode cX0_nextMessage 20 = .ok (.aload_n 0, 1) := by decide +kernel
theorem dX0_nextMessage_21 : decode cX0_nextMessage 21 = .ok (.getfield 15, 3) := by decide +kernel
theorem dX0_nextMessage_24 : decode cX0_nextMessage 24 = .ok (.iload_n 1, 1) := by decide +kernel
theorem dX0_nextMessage_25 : decode cX0_nextMessage 25 = .ok (.iaload, 1) := by decide +kernel
theorem dX0_nextMessage_26 : decode cX0_nextMessage 26 = .ok (.ifCond .ne 10, 3) := by decide +kernel
theorem dX0_nextMessage_29 : decode cX0_nextMessage 29 = .ok (.aload_n 0, 1) := by decide +kernel
theorem dX0_nextMessage_30 : decode cX0_nextMessage 30 = .ok (.getfield 9, 3) := by decide +kernel
theorem dX0_nextMessage_33 : decode cX0_nextMessage 33 = .ok (.iload_n 1, 1) := by decide +kernel
theorem dX0_nextMessage_34 : decode cX0_nextMessage 34 = .ok (.iconst 2, 1) := by decide +kernel
theorem dX0_nextMessage_35 : decode cX0_nextMessage 35 = .ok (.iastore, 1) := by decide +kernel
theorem dX0_nextMessage_36 : decode cX0_nextMessage 36 = .ok (.iconst 1, 1) := by decide +kernel
theorem dX0_nextMessage_37 : decode cX0_nextMessage 37 = .ok (.ireturn, 1) := by decide +kernel
theorem dX0_nextMessage_38 : decode cX0_nextMessage 38 = .ok (.aload_n 0, 1) := by decide +kernel
theorem dX0_nextMessage_39 : decode cX0_nextMessage 39 = .ok (.getfield 9, 3) := by decide +kernel
theorem dX0_nextMessage_42 : decode cX0_nextMessage 42 = .ok (.iload_n 1, 1) := by decide +kernel
theorem dX0_nextMessage_43 : decode cX0_nextMessage 43 = .ok (.iaload, 1) := by decide +kernel
theorem dX0_nextMessage_44 : decode cX0_nextMessage 44 = .ok (.iconst 3, 1) := by decide +kernel
theorem dX0_nextMessage_45 : decode cX0_nextMessage 45 = .ok (.if_icmp .ne 12, 3) := by decide +kernel
theorem dX0_nextMessage_48 : decode cX0_nextMessage 48 = .ok (.aload_n 0, 1) := by decide +kernel
theorem dX0_nextMessage_49 : decode cX0_nextMessage 49 = .ok (.getfield 9, 3) := by decide +kernel
theorem dX0_nextMessage_52 : decode cX0_nextMessage 52 = .ok (.iload_n 1, 1) := by decide +kernel
theorem dX0_nextMessage_53 : decode cX0_nextMessage 53 = .ok (.iconst 0, 1) := by decide +kernel
theorem dX0_nextMessage_54 : decode cX0_nextMessage 54 = .ok (.iastore, 1) := by decide +kernel
theorem dX0_nextMessage_55 : decode cX0_nextMessage 55 = .ok (.iconst 2, 1) := by decide +kernel
theorem dX0_nextMessage_56 : decode cX0_nextMessage 56 = .ok (.ireturn, 1) := by decide +kernel
theorem dX0_nextMessage_57 : decode cX0_nextMessage 57 = .ok (.iconst 0, 1) := by decide +kernel
theorem dX0_nextMessage_58 : decode cX0_nextMessage 58 = .ok (.ireturn, 1) := by decide +kernel
set_option maxRecDepth 20000 in
theorem ggX1_init_J7_fill_53178 : GoodIn wsX1_init wsJ7_fill_53178 := goodIn_r _ [12] (by decide +kernel) (by decide +kernel)
set_option maxRecDepth 20000 in
theorem gX1_init_J7_fill_53178 : GoodIn wsX1_init (va_wsS RX1 25 yJ7_fill_53178 wsJ7_fill_53178) := goodIn_app (goodIn_of _ (by decide +kernel)) ggX1_init_J7_fill_53178
theorem dX1_init_0 : decode cX1_init 0 = .ok (.aload_n 0, 1) := by decide +kernel
theorem dX1_init_1 : decode cX1_init 1 = .ok (.invokespecial 3, 3) := by decide +kernel
theorem dX1_init_4 : decode cX1_init 4 = .ok (.aload_n 0, 1) := by decide +kernel
theorem dX1_init_5 : decode cX1_init 5 = .ok (.bipush 28, 2) := by decide +kernel
theorem dX1_init_7 : decode cX1_init 7 = .ok (.newarray .int, 2) := by decide +kernel
theorem dX1_init_9 : decode cX1_init 9 = .ok (.putfield 9, 3) := by decide +kernel
theorem dX1_init_12 : decode cX1_init 12 = .ok (.aload_n 0, 1) := by decide +kernel
theorem dX1_init_13 : decode cX1_init 13 = .ok (.iconst 0, 1) := by decide +kernel
theorem dX1_init_14 : decode cX1_init 14 = .ok (.putfield 15, 3) := by decide +kernel
theorem dX1_init_17 : decode cX1_init 17 = .ok (.aload_n 0, 1) := by decide +kernel
theorem dX1_init_18 : decode cX1_init 18 = .ok (.iconst 0, 1) := by decide +kernel
theorem dX1_init_19 : decode cX1_init 19 = .ok (.putfield 19, 3) := by decide +kernel
theorem dX1_init_22 : decode cX1_init 22 = .ok (.aload_n 0, 1) := by decide +kernel
theorem dX1_init_23 : decode cX1_init 23 = .ok (.iconst 0, 1) := by decide +kernel
theorem dX1_init_24 : decode cX1_init 24 = .ok (.putfield 22, 3) := by decide +kernel
theorem dX1_init_27 : decode cX1_init 27 = .ok (.aload_n 0, 1) := by decide +kernel
theorem dX1_init_28 : decode cX1_init 28 = .ok (.getfield 9, 3) := by decide +kernel
theorem dX1_init_31 : decode cX1_init 31 = .ok (.iconst (-1), 1) := by decide +kernel
theorem dX1_init_32 : decode cX1_init 32 = .ok (.invokestatic 25, 3) := by decide +kernel
theorem dX1_init_35 : decode cX1_init 35 = .ok (.return_, 1) := by decide +kernel
theorem dX1_stationOfPort_0 : decode cX1_stationOfPort 0 = .ok (.iload_n 1, 1) := by decide +kernel
theorem dX1_stationOfPort_1 : decode cX1_stationOfPort 1 = .ok (.ifCond .lt 20, 3) := by decide +kernel
theorem dX1_stationOfPort_4 : decode cX1_stationOfPort 4 = .ok (.iload_n 1, 1) := by decide +kernel
theorem dX1_stationOfPort_5 : decode cX1_stationOfPort 5 = .ok (.aload_n 0, 1) := by decide +kernel
theorem dX1_stationOfPort_6 : decode cX1_stationOfPort 6 = .ok (.getfield 15, 3) := by decide +kernel
theorem dX1_stationOfPort_9 : decode cX1_stationOfPort 9 = .ok (.if_icmp .ge 12, 3) := by decide +kernel
theorem dX1_stationOfPort_12 : decode cX1_stationOfPort 12 = .ok (.iload_n 2, 1) := by decide +kernel
theorem dX1_stationOfPort_13 : decode cX1_stationOfPort 13 = .ok (.ifCond .lt 8, 3) := by decide +kernel
theorem dX1_stationOfPort_16 : decode cX1_stationOfPort 16 = .ok (.iload_n 2, 1) := by decide +kernel
theorem dX1_stationOfPort_17 : decode cX1_stationOfPort 17 = .ok (.iconst 4, 1) := by decide +kernel
theorem dX1_stationOfPort_18 : decode cX1_stationOfPort 18 = .ok (.if_icmp .lt 5, 3) := by decide +kernel
theorem dX1_stationOfPort_21 : decode cX1_stationOfPort 21 = .ok (.iconst (-1), 1) := by decide +kernel
theorem dX1_stationOfPort_22 : decode cX1_stationOfPort 22 = .ok (.ireturn, 1) := by decide +kernel
theorem dX1_stationOfPort_23 : decode cX1_stationOfPort 23 = .ok (.iload_n 1, 1) := by decide +kernel
theorem dX1_stationOfPort_24 : decode cX1_stationOfPort 24 = .ok (.iconst 4, 1) := by decide +kernel
theorem dX1_stationOfPort_25 : decode cX1_stationOfPort 25 = .ok (.imul, 1) := by decide +kernel
theorem dX1_stationOfPort_26 : decode cX1_stationOfPort 26 = .ok (.iload_n 2, 1) := by decide +kernel
theorem dX1_stationOfPort_27 : decode cX1_stationOfPort 27 = .ok (.iadd, 1) := by decide +kernel
theorem dX1_stationOfPort_28 : decode cX1_stationOfPort 28 = .ok (.ireturn, 1) := by decide +kernel
theorem dX1_stationOfHost_0 : decode cX1_stationOfHost 0 = .ok (.iload_n 1, 1) := by decide +kernel
theorem dX1_stationOfHost_1 : decode cX1_stationOfHost 1 = .ok (.ifCond .lt 11, 3) := by decide +kernel
theorem dX1_stationOfHost_4 : decode cX1_stationOfHost 4 = .ok (.iload_n 1, 1) := by decide +kernel
theorem dX1_stationOfHost_5 : decode cX1_stationOfHost 5 = .ok (.aload_n 0, 1) := by decide +kernel
theorem dX1_stationOfHost_6 : decode cX1_stationOfHost 6 = .ok (.getfield 19, 3) := by decide +kernel
theorem dX1_stationOfHost_9 : decode cX1_stationOfHost 9 = .ok (.if_icmp .lt 6, 3) := by decide +kernel
theorem dX1_stationOfHost_12 : decode cX1_stationOfHost 12 = .ok (.bipush (-2), 2) := by decide +kernel
theorem dX1_stationOfHost_14 : decode cX1_stationOfHost 14 = .ok (.ireturn, 1) := by decide +kernel
theorem dX1_stationOfHost_15 : decode cX1_stationOfHost 15 = .ok (.bipush 20, 2) := by decide +kernel
theorem dX1_stationOfHost_17 : decode cX1_stationOfHost 17 = .ok (.iload_n 1, 1) := by decide +kernel
theorem dX1_stationOfHost_18 : decode cX1_stationOfHost 18 = .ok (.iadd, 1) := by decide +kernel
theorem dX1_stationOfHost_19 : decode cX1_stationOfHost 19 = .ok (.ireturn, 1) := by decide +kernel
set_option maxRecDepth 20000 in
theorem ggX1_isConnected_X4_isStation : GoodIn wsX1_isConnected wsX4_isStation := goodIn_r _ [4] (by decide +kernel) (by decide +kernel)
set_option maxRecDepth 20000 in
theorem gX1_isConnected_X4_isStation_n31 : GoodIn wsX1_isConnected (wsX4_isStation) := ggX1_isConnected_X4_isStation
theorem dX1_isConnected_0 : decode cX1_isConnected 0 = .ok (.aload_n 0, 1) := by decide +kernel
theorem dX1_isConnected_1 : decode cX1_isConnected 1 = .ok (.getfield 9, 3) := by decide +kernel
theorem dX1_isConnected_4 : decode cX1_isConnected 4 = .ok (.iload_n 1, 1) := by decide +kernel
theorem dX1_isConnected_5 : decode cX1_isConnected 5 = .ok (.iaload, 1) := by decide +kernel
theorem dX1_isConnected_6 : decode cX1_isConnected 6 = .ok (.invokestatic 31, 3) := by decide +kernel
theorem dX1_isConnected_9 : decode cX1_isConnected 9 = .ok (.ireturn, 1) := by decide +kernel
theorem dX1_tie_0 : decode cX1_tie 0 = .ok (.aload_n 0, 1) := by decide +kernel
theorem dX1_tie_1 : decode cX1_tie 1 = .ok (.getfield 9, 3) := by decide +kernel
theorem dX1_tie_4 : decode cX1_tie 4 = .ok (.iload_n 1, 1) := by decide +kernel
theorem dX1_tie_5 : decode cX1_tie 5 = .ok (.iload_n 2, 1) := by decide +kernel
theorem dX1_tie_6 : decode cX1_tie 6 = .ok (.iastore, 1) := by decide +kernel
theorem dX1_tie_7 : decode cX1_tie 7 = .ok (.aload_n 0, 1) := by decide +kernel
theorem dX1_tie_8 : decode cX1_tie 8 = .ok (.getfield 9, 3) := by decide +kernel
theorem dX1_tie_11 : decode cX1_tie 11 = .ok (.iload_n 2, 1) := by decide +kernel
theorem dX1_tie_12 : decode cX1_tie 12 = .ok (.iload_n 1, 1) := by decide +kernel
theorem dX1_tie_13 : decode cX1_tie 13 = .ok (.iastore, 1) := by decide +kernel
theorem dX1_tie_14 : decode cX1_tie 14 = .ok (.return_, 1) := by decide +kernel
theorem dX1_untie_0 : decode cX1_untie 0 = .ok (.aload_n 0, 1) := by decide +kernel
theorem dX1_untie_1 : decode cX1_untie 1 = .ok (.getfield 9, 3) := by decide +kernel
theorem dX1_untie_4 : decode cX1_untie 4 = .ok (.iload_n 1, 1) := by decide +kernel
theorem dX1_untie_5 : decode cX1_untie 5 = .ok (.iconst (-1), 1) := by decide +kernel
theorem dX1_untie_6 : decode cX1_untie 6 = .ok (.iastore, 1) := by decide +kernel
theorem dX1_untie_7 : decode cX1_untie 7 = .ok (.aload_n 0, 1) := by decide +kernel
theorem dX1_untie_8 : decode cX1_untie 8 = .ok (.getfield 9, 3) := by decide +kernel
theorem dX1_untie_11 : decode cX1_untie 11 = .ok (.iload_n 2, 1) := by decide +kernel
theorem dX1_untie_12 : decode cX1_untie 12 = .ok (.iconst (-1), 1) := by decide +kernel
theorem dX1_untie_13 : decode cX1_untie 13 = .ok (.iastore, 1) := by decide +kernel
theorem dX1_untie_14 : decode cX1_untie 14 = .ok (.return_, 1) := by decide +kernel
set_option maxRecDepth 20000 in
theorem ggX1_bridgesOnWay_X4_contains : GoodIn wsX1_bridgesOnWay wsX4_contains := goodIn_r _ [3] (by decide +kernel) (by decide +kernel)
set_option maxRecDepth 20000 in
theorem gX1_bridgesOnWay_X4_contains_n35 : GoodIn wsX1_bridgesOnWay (wsX4_contains) := ggX1_bridgesOnWay_X4_contains
set_option maxRecDepth 20000 in
theorem ggX1_bridgesOnWay_X1_neighboursOf : GoodIn wsX1_bridgesOnWay wsX1_neighboursOf := goodIn_r _ [8, 9, 10, 2, 11, 1, 3, 12, 13, 14, 15, 16, 17] (by decide +kernel) (by decide +kernel)
set_option maxRecDepth 20000 in
theorem gX1_bridgesOnWay_X1_neighboursOf : GoodIn wsX1_bridgesOnWay (wsV RX1 39 RX1 yX1_neighboursOf wsX1_neighboursOf) := goodIn_app (goodIn_of _ (by decide +kernel)) ggX1_bridgesOnWay_X1_neighboursOf
theorem dX1_bridgesOnWay_0 : decode cX1_bridgesOnWay 0 = .ok (.iconst 1, 1) := by decide +kernel
theorem dX1_bridgesOnWay_1 : decode cX1_bridgesOnWay 1 = .ok (.iload_n 1, 1) := by decide +kernel
theorem dX1_bridgesOnWay_2 : decode cX1_bridgesOnWay 2 = .ok (.ishl, 1) := by decide +kernel
theorem dX1_bridgesOnWay_3 : decode cX1_bridgesOnWay 3 = .ok (.istore_n 3, 1) := by decide +kernel
theorem dX1_bridgesOnWay_4 : decode cX1_bridgesOnWay 4 = .ok (.iconst 1, 1) := by decide +kernel
theorem dX1_bridgesOnWay_5 : decode cX1_bridgesOnWay 5 = .ok (.istore 4, 2) := by decide +kernel
theorem dX1_bridgesOnWay_7 : decode cX1_bridgesOnWay 7 = .ok (.iload 4, 2) := by decide +kernel
theorem dX1_bridgesOnWay_9 : decode cX1_bridgesOnWay 9 = .ok (.iconst 5, 1) := by decide +kernel
theorem dX1_bridgesOnWay_10 : decode cX1_bridgesOnWay 10 = .ok (.if_icmp .gt 28, 3) := by decide +kernel
theorem dX1_bridgesOnWay_13 : decode cX1_bridgesOnWay 13 = .ok (.iload_n 3, 1) := by decide +kernel
theorem dX1_bridgesOnWay_14 : decode cX1_bridgesOnWay 14 = .ok (.iload_n 2, 1) := by decide +kernel
theorem dX1_bridgesOnWay_15 : decode cX1_bridgesOnWay 15 = .ok (.invokestatic 35, 3) := by decide +kernel
theorem dX1_bridgesOnWay_18 : decode cX1_bridgesOnWay 18 = .ok (.ifCond .eq 6, 3) := by decide +kernel
theorem dX1_bridgesOnWay_21 : decode cX1_bridgesOnWay 21 = .ok (.iload 4, 2) := by decide +kernel
theorem dX1_bridgesOnWay_23 : decode cX1_bridgesOnWay 23 = .ok (.ireturn, 1) := by decide +kernel
theorem dX1_bridgesOnWay_24 : decode cX1_bridgesOnWay 24 = .ok (.iload_n 3, 1) := by decide +kernel
theorem dX1_bridgesOnWay_25 : decode cX1_bridgesOnWay 25 = .ok (.aload_n 0, 1) := by decide +kernel
theorem dX1_bridgesOnWay_26 : decode cX1_bridgesOnWay 26 = .ok (.iload_n 3, 1) := by decide +kernel
theorem dX1_bridgesOnWay_27 : decode cX1_bridgesOnWay 27 = .ok (.invokevirtual 39, 3) := by decide +kernel
theorem dX1_bridgesOnWay_30 : decode cX1_bridgesOnWay 30 = .ok (.ior, 1) := by decide +kernel
theorem dX1_bridgesOnWay_31 : decode cX1_bridgesOnWay 31 = .ok (.istore_n 3, 1) := by decide +kernel
theorem dX1_bridgesOnWay_32 : decode cX1_bridgesOnWay 32 = .ok (.iinc 4 1, 3) := by decide +kernel
theorem dX1_bridgesOnWay_35 : decode cX1_bridgesOnWay 35 = .ok (.goto (-28), 3) := by decide +kernel
theorem dX1_bridgesOnWay_38 : decode cX1_bridgesOnWay 38 = .ok (.iconst 0, 1) := by decide +kernel
theorem dX1_bridgesOnWay_39 : decode cX1_bridgesOnWay 39 = .ok (.ireturn, 1) := by decide +kernel
set_option maxRecDepth 20000 in
theorem ggX1_neighboursOf_X4_bridgeOf : GoodIn wsX1_neighboursOf wsX4_bridgeOf := goodIn_r _ [4] (by decide +kernel) (by decide +kernel)
set_option maxRecDepth 20000 in
theorem gX1_neighboursOf_X4_bridgeOf_n43 : GoodIn wsX1_neighboursOf (wsX4_bridgeOf) := ggX1_neighboursOf_X4_bridgeOf
set_option maxRecDepth 20000 in
theorem ggX1_neighboursOf_X4_contains : GoodIn wsX1_neighboursOf wsX4_contains := goodIn_r _ [6] (by decide +kernel) (by decide +kernel)
set_option maxRecDepth 20000 in
theorem gX1_neighboursOf_X4_contains_n35 : GoodIn wsX1_neighboursOf (wsX4_contains) := ggX1_neighboursOf_X4_contains
set_option maxRecDepth 20000 in
theorem ggX1_neighboursOf_X4_isPort : GoodIn wsX1_neighboursOf wsX4_isPort := goodIn_r _ [8] (by decide +kernel) (by decide +kernel)
set_option maxRecDepth 20000 in
theorem gX1_neighboursOf_X4_isPort_n46 : GoodIn wsX1_neighboursOf (wsX4_isPort) := ggX1_neighboursOf_X4_isPort
theorem dX1_neighboursOf_0 : decode cX1_neighboursOf 0 = .ok (.iconst 0, 1) := by decide +kernel
theorem dX1_neighboursOf_1 : decode cX1_neighboursOf 1 = .ok (.istore_n 2, 1) := by decide +kernel
theorem dX1_neighboursOf_2 : decode cX1_neighboursOf 2 = .ok (.iconst 0, 1) := by decide +kernel
theorem dX1_neighboursOf_3 : decode cX1_neighboursOf 3 = .ok (.istore_n 3, 1) := by decide +kernel
theorem dX1_neighboursOf_4 : decode cX1_neighboursOf 4 = .ok (.iload_n 3, 1) := by decide +kernel
theorem dX1_neighboursOf_5 : decode cX1_neighboursOf 5 = .ok (.bipush 20, 2) := by decide +kernel
theorem dX1_neighboursOf_7 : decode cX1_neighboursOf 7 = .ok (.if_icmp .ge 46, 3) := by decide +kernel
theorem dX1_neighboursOf_10 : decode cX1_neighboursOf 10 = .ok (.aload_n 0, 1) := by decide +kernel
theorem dX1_neighboursOf_11 : decode cX1_neighboursOf 11 = .ok (.getfield 9, 3) := by decide +kernel
theorem dX1_neighboursOf_14 : decode cX1_neighboursOf 14 = .ok (.iload_n 3, 1) := by decide +kernel
theorem dX1_neighboursOf_15 : decode cX1_neighboursOf 15 = .ok (.iaload, 1) := by decide +kernel
theorem dX1_neighboursOf_16 : decode cX1_neighboursOf 16 = .ok (.istore 4, 2) := by decide +kernel
theorem dX1_neighboursOf_18 : decode cX1_neighboursOf 18 = .ok (.iload_n 1, 1) := by decide +kernel
theorem dX1_neighboursOf_19 : decode cX1_neighboursOf 19 = .ok (.iload_n 3, 1) := by decide +kernel
theorem dX1_neighboursOf_20 : decode cX1_neighboursOf 20 = .ok (.invokestatic 43, 3) := by decide +kernel
theorem dX1_neighboursOf_23 : decode cX1_neighboursOf 23 = .ok (.invokestatic 35, 3) := by decide +kernel
theorem dX1_neighboursOf_26 : decode cX1_neighboursOf 26 = .ok (.ifCond .eq 21, 3) := by decide +kernel
theorem dX1_neighboursOf_29 : decode cX1_neighboursOf 29 = .ok (.iload 4, 2) := by decide +kernel
theorem dX1_neighboursOf_31 : decode cX1_neighboursOf 31 = .ok (.invokestatic 46, 3) := by decide +kernel
theorem dX1_neighboursOf_34 : decode cX1_neighboursOf 34 = .ok (.ifCond .eq 13, 3) := by decide +kernel
theorem dX1_neighboursOf_37 : decode cX1_neighboursOf 37 = .ok (.iload_n 2, 1) := by decide +kernel
theorem dX1_neighboursOf_38 : decode cX1_neighboursOf 38 = .ok (.iconst 1, 1) := by decide +kernel
theorem dX1_neighboursOf_39 : decode cX1_neighboursOf 39 = .ok (.iload 4, 2) := by decide +kernel
theorem dX1_neighboursOf_41 : decode cX1_neighboursOf 41 = .ok (.invokestatic 43, 3) := by decide +kernel
theorem dX1_neighboursOf_44 : decode cX1_neighboursOf 44 = .ok (.ishl, 1) := by decide +kernel
theorem dX1_neighboursOf_45 : decode cX1_neighboursOf 45 = .ok (.ior, 1) := by decide +kernel
theorem dX1_neighboursOf_46 : decode cX1_neighboursOf 46 = .ok (.istore_n 2, 1) := by decide +kernel
theorem dX1_neighboursOf_47 : decode cX1_neighboursOf 47 = .ok (.iinc 3 1, 3) := by decide +kernel
theorem dX1_neighboursOf_50 : decode cX1_neighboursOf 50 = .ok (.goto (-46), 3) := by decide +kernel
theorem dX1_neighboursOf_53 : decode cX1_neighboursOf 53 = .ok (.iload_n 2, 1) := by decide +kernel
theorem dX1_neighboursOf_54 : decode cX1_neighboursOf 54 = .ok (.ireturn, 1) := by decide +kernel
theorem dX2_init_0 : decode cX2_init 0 = .ok (.aload_n 0, 1) := by decide +kernel
theorem dX2_init_1 : decode cX2_init 1 = .ok (.invokespecial 3, 3) := by decide +kernel
theorem dX2_init_4 : decode cX2_init 4 = .ok (.aload_n 0, 1) := by decide +kernel
theorem dX2_init_5 : decode cX2_init 5 = .ok (.bipush 28, 2) := by decide +kernel
theorem dX2_init_7 : decode cX2_init 7 = .ok (.newarray .boolean, 2) := by decide +kernel
theorem dX2_init_9 : decode cX2_init 9 = .ok (.putfield 9, 3) := by decide +kernel
theorem dX2_init_12 : decode cX2_init 12 = .ok (.aload_n 0, 1) := by decide +kernel
theorem dX2_init_13 : decode cX2_init 13 = .ok (.bipush 112, 2) := by decide +kernel
theorem dX2_init_15 : decode cX2_init 15 = .ok (.newarray .int, 2) := by decide +kernel
theorem dX2_init_17 : decode cX2_init 17 = .ok (.putfield 15, 3) := by decide +kernel
theorem dX2_init_20 : decode cX2_init 20 = .ok (.return_, 1) := by decide +kernel
set_option maxRecDepth 20000 in
theorem ggX2_clear_J7_fill_53178 : GoodIn wsX2_clear wsJ7_fill_53178 := goodIn_r _ [6] (by decide +kernel) (by decide +kernel)
set_option maxRecDepth 20000 in
theorem gX2_clear_J7_fill_53178 : GoodIn wsX2_clear (va_wsS RX2 19 yJ7_fill_53178 wsJ7_fill_53178) := goodIn_app (goodIn_of _ (by decide +kernel)) ggX2_clear_J7_fill_53178
theorem dX2_clear_0 : decode cX2_clear 0 = .ok (.iconst 0, 1) := by decide +kernel
theorem dX2_clear_1 : decode cX2_clear 1 = .ok (.istore_n 1, 1) := by decide +kernel
theorem dX2_clear_2 : decode cX2_clear 2 = .ok (.iload_n 1, 1) := by decide +kernel
theorem dX2_clear_3 : decode cX2_clear 3 = .ok (.bipush 28, 2) := by decide +kernel
theorem dX2_clear_5 : decode cX2_clear 5 = .ok (.if_icmp .ge 16, 3) := by decide +kernel
theorem dX2_clear_8 : decode cX2_clear 8 = .ok (.aload_n 0, 1) := by decide +kernel
theorem dX2_clear_9 : decode cX2_clear 9 = .ok (.getfield 9, 3) := by decide +kernel
theorem dX2_clear_12 : decode cX2_clear 12 = .ok (.iload_n 1, 1) := by decide +kernel
theorem dX2_clear_13 : decode cX2_clear 13 = .ok (.iconst 0, 1) := by decide +kernel
theorem dX2_clear_14 : decode cX2_clear 14 = .ok (.bastore, 1) := by decide +kernel
theorem dX2_clear_15 : decode cX2_clear 15 = .ok (.iinc 1 1, 3) := by decide +kernel
theorem dX2_clear_18 : decode cX2_clear 18 = .ok (.goto (-16), 3) := by decide +kernel
theorem dX2_clear_21 : decode cX2_clear 21 = .ok (.aload_n 0, 1) := by decide +kernel
theorem dX2_clear_22 : decode cX2_clear 22 = .ok (.getfield 15, 3) := by decide +kernel
theorem dX2_clear_25 : decode cX2_clear 25 = .ok (.iconst 0, 1) := by decide +kernel
theorem dX2_clear_26 : decode cX2_clear 26 = .ok (.invokestatic 19, 3) := by decide +kernel
theorem dX2_clear_29 : decode cX2_clear 29 = .ok (.return_, 1) := by decide +kernel
set_option maxRecDepth 20000 in
theorem ggX3_init_J7_fill_53178 : GoodIn wsX3_init wsJ7_fill_53178 := goodIn_r _ [10] (by decide +kernel) (by decide +kernel)
set_option maxRecDepth 20000 in
theorem gX3_init_J7_fill_53178 : GoodIn wsX3_init (va_wsS RX3 18 yJ7_fill_53178 wsJ7_fill_53178) := goodIn_app (goodIn_of _ (by decide +kernel)) ggX3_init_J7_fill_53178
theorem dX3_init_0 : decode cX3_init 0 = .ok (.aload_n 0, 1) := by decide +kernel
theorem dX3_init_1 : decode cX3_init 1 = .ok (.invokespecial 3, 3) := by decide +kernel
theorem dX3_init_4 : decode cX3_init 4 = .ok (.aload_n 0, 1) := by decide +kernel
theorem dX3_init_5 : decode cX3_init 5 = .ok (.bipush 80, 2) := by decide +kernel
theorem dX3_init_7 : decode cX3_init 7 = .ok (.newarray .int, 2) := by decide +kernel
theorem dX3_init_9 : decode cX3_init 9 = .ok (.putfield 9, 3) := by decide +kernel
theorem dX3_init_12 : decode cX3_init 12 = .ok (.aload_n 0, 1) := by decide +kernel
theorem dX3_init_13 : decode cX3_init 13 = .ok (.bipush 80, 2) := by decide +kernel
theorem dX3_init_15 : decode cX3_init 15 = .ok (.newarray .int, 2) := by decide +kernel
theorem dX3_init_17 : decode cX3_init 17 = .ok (.putfield 15, 3) := by decide +kernel
theorem dX3_init_20 : decode cX3_init 20 = .ok (.aload_n 0, 1) := by decide +kernel
theorem dX3_init_21 : decode cX3_init 21 = .ok (.getfield 9, 3) := by decide +kernel
theorem dX3_init_24 : decode cX3_init 24 = .ok (.iconst 0, 1) := by decide +kernel
theorem dX3_init_25 : decode cX3_init 25 = .ok (.invokestatic 18, 3) := by decide +kernel
theorem dX3_init_28 : decode cX3_init 28 = .ok (.return_, 1) := by decide +kernel
theorem dX3_change_0 : decode cX3_change 0 = .ok (.aload_n 0, 1) := by decide +kernel
theorem dX3_change_1 : decode cX3_change 1 = .ok (.getfield 9, 3) := by decide +kernel
theorem dX3_change_4 : decode cX3_change 4 = .ok (.iload_n 1, 1) := by decide +kernel
theorem dX3_change_5 : decode cX3_change 5 = .ok (.iload_n 2, 1) := by decide +kernel
theorem dX3_change_6 : decode cX3_change 6 = .ok (.iastore, 1) := by decide +kernel
theorem dX3_change_7 : decode cX3_change 7 = .ok (.aload_n 0, 1) := by decide +kernel
theorem dX3_change_8 : decode cX3_change 8 = .ok (.getfield 15, 3) := by decide +kernel
theorem dX3_change_11 : decode cX3_change 11 = .ok (.iload_n 1, 1) := by decide +kernel
theorem dX3_change_12 : decode cX3_change 12 = .ok (.iload_n 3, 1) := by decide +kernel
theorem dX3_change_13 : decode cX3_change 13 = .ok (.iastore, 1) := by decide +kernel
theorem dX3_change_14 : decode cX3_change 14 = .ok (.return_, 1) := by decide +kernel
set_option maxRecDepth 20000 in
theorem ggX3_startLeaving_X3_change : GoodIn wsX3_startLeaving wsX3_change := goodIn_r _ [6, 1, 7, 8, 9] (by decide +kernel) (by decide +kernel)
set_option maxRecDepth 20000 in
theorem gX3_startLeaving_X3_change : GoodIn wsX3_startLeaving (wsV RX3 24 RX3 yX3_change wsX3_change) := goodIn_app (goodIn_of _ (by decide +kernel)) ggX3_startLeaving_X3_change
theorem dX3_startLeaving_0 : decode cX3_startLeaving 0 = .ok (.aload_n 0, 1) := by decide +kernel
theorem dX3_startLeaving_1 : decode cX3_startLeaving 1 = .ok (.getfield 9, 3) := by decide +kernel
theorem dX3_startLeaving_4 : decode cX3_startLeaving 4 = .ok (.iload_n 1, 1) := by decide +kernel
theorem dX3_startLeaving_5 : decode cX3_startLeaving 5 = .ok (.iaload, 1) := by decide +kernel
theorem dX3_startLeaving_6 : decode cX3_startLeaving 6 = .ok (.iconst 1, 1) := by decide +kernel
theorem dX3_startLeaving_7 : decode cX3_startLeaving 7 = .ok (.if_icmp .ne 10, 3) := by decide +kernel
theorem dX3_startLeaving_10 : decode cX3_startLeaving 10 = .ok (.aload_n 0, 1) := by decide +kernel
theorem dX3_startLeaving_11 : decode cX3_startLeaving 11 = .ok (.iload_n 1, 1) := by decide +kernel
theorem dX3_startLeaving_12 : decode cX3_startLeaving 12 = .ok (.iconst 2, 1) := by decide +kernel
theorem dX3_startLeaving_13 : decode cX3_startLeaving 13 = .ok (.iload_n 2, 1) := by decide +kernel
theorem dX3_startLeaving_14 : decode cX3_startLeaving 14 = .ok (.invokevirtual 24, 3) := by decide +kernel
theorem dX3_startLeaving_17 : decode cX3_startLeaving 17 = .ok (.return_, 1) := by decide +kernel
set_option maxRecDepth 20000 in
theorem ggX3_hear_X3_change : GoodIn wsX3_hear wsX3_change := goodIn_r _ [5, 6, 7, 12, 13] (by decide +kernel) (by decide +kernel)
set_option maxRecDepth 20000 in
theorem gX3_hear_X3_change : GoodIn wsX3_hear (wsV RX3 24 RX3 yX3_change wsX3_change) := goodIn_app (goodIn_of _ (by decide +kernel)) ggX3_hear_X3_change
set_option maxRecDepth 20000 in
theorem ggX3_hear_X3_startLeaving : GoodIn wsX3_hear wsX3_startLeaving := goodIn_r _ [11, 6, 1, 2, 3, 4, 5, 7, 12, 13] (by decide +kernel) (by decide +kernel)
set_option maxRecDepth 20000 in
theorem gX3_hear_X3_startLeaving : GoodIn wsX3_hear (wsV RX3 28 RX3 yX3_startLeaving wsX3_startLeaving) := goodIn_app (goodIn_of _ (by decide +kernel)) ggX3_hear_X3_startLeaving
theorem dX3_hear_0 : decode cX3_hear 0 = .ok (.iload_n 2, 1) := by decide +kernel
theorem dX3_hear_1 : decode cX3_hear 1 = .ok (.iconst 1, 1) := by decide +kernel
theorem dX3_hear_2 : decode cX3_hear 2 = .ok (.if_icmp .ne 13, 3) := by decide +kernel
theorem dX3_hear_5 : decode cX3_hear 5 = .ok (.aload_n 0, 1) := by decide +kernel
theorem dX3_hear_6 : decode cX3_hear 6 = .ok (.iload_n 1, 1) := by decide +kernel
theorem dX3_hear_7 : decode cX3_hear 7 = .ok (.iconst 1, 1) := by decide +kernel
theorem dX3_hear_8 : decode cX3_hear 8 = .ok (.iconst 0, 1) := by decide +kernel
theorem dX3_hear_9 : decode cX3_hear 9 = .ok (.invokevirtual 24, 3) := by decide +kernel
theorem dX3_hear_12 : decode cX3_hear 12 = .ok (.goto 14, 3) := by decide +kernel
theorem dX3_hear_15 : decode cX3_hear 15 = .ok (.iload_n 2, 1) := by decide +kernel
theorem dX3_hear_16 : decode cX3_hear 16 = .ok (.iconst 2, 1) := by decide +kernel
theorem dX3_hear_17 : decode cX3_hear 17 = .ok (.if_icmp .ne 9, 3) := by decide +kernel
theorem dX3_hear_20 : decode cX3_hear 20 = .ok (.aload_n 0, 1) := by decide +kernel
theorem dX3_hear_21 : decode cX3_hear 21 = .ok (.iload_n 1, 1) := by decide +kernel
theorem dX3_hear_22 : decode cX3_hear 22 = .ok (.iload_n 3, 1) := by decide +kernel
theorem dX3_hear_23 : decode cX3_hear 23 = .ok (.invokevirtual 28, 3) := by decide +kernel
theorem dX3_hear_26 : decode cX3_hear 26 = .ok (.return_, 1) := by decide +kernel
theorem dX3_countDown_0 : decode cX3_countDown 0 = .ok (.aload_n 0, 1) := by decide +kernel
theorem dX3_countDown_1 : decode cX3_countDown 1 = .ok (.getfield 9, 3) := by decide +kernel
theorem dX3_countDown_4 : decode cX3_countDown 4 = .ok (.iload_n 1, 1) := by decide +kernel
theorem dX3_countDown_5 : decode cX3_countDown 5 = .ok (.iaload, 1) := by decide +kernel
theorem dX3_countDown_6 : decode cX3_countDown 6 = .ok (.iconst 2, 1) := by decide +kernel
theorem dX3_countDown_7 : decode cX3_countDown 7 = .ok (.if_icmp .ne 29, 3) := by decide +kernel
theorem dX3_countDown_10 : decode cX3_countDown 10 = .ok (.aload_n 0, 1) := by decide +kernel
theorem dX3_countDown_11 : decode cX3_countDown 11 = .ok (.getfield 15, 3) := by decide +kernel
theorem dX3_countDown_14 : decode cX3_countDown 14 = .ok (.iload_n 1, 1) := by decide +kernel
theorem dX3_countDown_15 : decode cX3_countDown 15 = .ok (.dup2, 1) := by decide +kernel
theorem dX3_countDown_16 : decode cX3_countDown 16 = .ok (.iaload, 1) := by decide +kernel
theorem dX3_countDown_17 : decode cX3_countDown 17 = .ok (.iconst 1, 1) := by decide +kernel
theorem dX3_countDown_18 : decode cX3_countDown 18 = .ok (.isub, 1) := by decide +kernel
theorem dX3_countDown_19 : decode cX3_countDown 19 = .ok (.iastore, 1) := by decide +kernel
theorem dX3_countDown_20 : decode cX3_countDown 20 = .ok (.aload_n 0, 1) := by decide +kernel
theorem dX3_countDown_21 : decode cX3_countDown 21 = .ok (.getfield 15, 3) := by decide +kernel
theorem dX3_countDown_24 : decode cX3_countDown 24 = .ok (.iload_n 1, 1) := by decide +kernel
theorem dX3_countDown_25 : decode cX3_countDown 25 = .ok (.iaload, 1) := by decide +kernel
theorem dX3_countDown_26 : decode cX3_countDown 26 = .ok (.ifCond .ne 10, 3) := by decide +kernel
theorem dX3_countDown_29 : decode cX3_countDown 29 = .ok (.aload_n 0, 1) := by decide +kernel
theorem dX3_countDown_30 : decode cX3_countDown 30 = .ok (.getfield 9, 3) := by decide +kernel
theorem dX3_countDown_33 : decode cX3_countDown 33 = .ok (.iload_n 1, 1) := by decide +kernel
theorem dX3_countDown_34 : decode cX3_countDown 34 = .ok (.iconst 0, 1) := by decide +kernel
theorem dX3_countDown_35 : decode cX3_countDown 35 = .ok (.iastore, 1) := by decide +kernel
theorem dX3_countDown_36 : decode cX3_countDown 36 = .ok (.return_, 1) := by decide +kernel
set_option maxRecDepth 20000 in
theorem ggX4_init_X1_init : GoodIn wsX4_init wsX1_init := goodIn_r _ [30, 31, 2, 3, 20, 32, 33, 34, 35, 36, 37, 38, 39, 57, 58, 59, 60] (by decide +kernel) (by decide +kernel)
set_option maxRecDepth 20000 in
theorem gX4_init_X1_init_n11 : GoodIn wsX4_init (wsX1_init) := ggX4_init_X1_init
set_option maxRecDepth 20000 in
theorem ggX4_init_X3_init : GoodIn wsX4_init wsX3_init := goodIn_r _ [41, 42, 2, 3, 20, 43, 44, 45, 37, 38, 39, 72, 73] (by decide +kernel) (by decide +kernel)
set_option maxRecDepth 20000 in
theorem gX4_init_X3_init_n18 : GoodIn wsX4_init (wsX3_init) := ggX4_init_X3_init
set_option maxRecDepth 20000 in
theorem ggX4_init_X0_init : GoodIn wsX4_init wsX0_init := goodIn_r _ [47, 48, 2, 3, 20, 49, 50, 51, 37, 38, 39, 74, 75] (by decide +kernel) (by decide +kernel)
set_option maxRecDepth 20000 in
theorem gX4_init_X0_init_n25 : GoodIn wsX4_init (wsX0_init) := ggX4_init_X0_init
set_option maxRecDepth 20000 in
theorem ggX4_init_X2_init : GoodIn wsX4_init wsX2_init := goodIn_r _ [53, 54, 2, 3, 22, 55, 20, 56, 76, 77] (by decide +kernel) (by decide +kernel)
set_option maxRecDepth 20000 in
theorem gX4_init_X2_init_n32 : GoodIn wsX4_init (wsX2_init) := ggX4_init_X2_init
theorem dX4_init_0 : decode cX4_init 0 = .ok (.aload_n 0, 1) := by decide +kernel
theorem dX4_init_1 : decode cX4_init 1 = .ok (.invokespecial 3, 3) := by decide +kernel
theorem dX4_init_4 : decode cX4_init 4 = .ok (.aload_n 0, 1) := by decide +kernel
theorem dX4_init_5 : decode cX4_init 5 = .ok (.new 9, 3) := by decide +kernel
theorem dX4_init_8 : decode cX4_init 8 = .ok (.dup, 1) := by decide +kernel
theorem dX4_init_9 : decode cX4_init 9 = .ok (.invokespecial 11, 3) := by decide +kernel
theorem dX4_init_12 : decode cX4_init 12 = .ok (.putfield 12, 3) := by decide +kernel
theorem dX4_init_15 : decode cX4_init 15 = .ok (.aload_n 0, 1) := by decide +kernel
theorem dX4_init_16 : decode cX4_init 16 = .ok (.new 16, 3) := by decide +kernel
theorem dX4_init_19 : decode cX4_init 19 = .ok (.dup, 1) := by decide +kernel
theorem dX4_init_20 : decode cX4_init 20 = .ok (.invokespecial 18, 3) := by decide +kernel
theorem dX4_init_23 : decode cX4_init 23 = .ok (.putfield 19, 3) := by decide +kernel
theorem dX4_init_26 : decode cX4_init 26 = .ok (.aload_n 0, 1) := by decide +kernel
theorem dX4_init_27 : decode cX4_init 27 = .ok (.new 23, 3) := by decide +kernel
theorem dX4_init_30 : decode cX4_init 30 = .ok (.dup, 1) := by decide +kernel
theorem dX4_init_31 : decode cX4_init 31 = .ok (.invokespecial 25, 3) := by decide +kernel
theorem dX4_init_34 : decode cX4_init 34 = .ok (.putfield 26, 3) := by decide +kernel
theorem dX4_init_37 : decode cX4_init 37 = .ok (.aload_n 0, 1) := by decide +kernel
theorem dX4_init_38 : decode cX4_init 38 = .ok (.new 30, 3) := by decide +kernel
theorem dX4_init_41 : decode cX4_init 41 = .ok (.dup, 1) := by decide +kernel
theorem dX4_init_42 : decode cX4_init 42 = .ok (.invokespecial 32, 3) := by decide +kernel
theorem dX4_init_45 : decode cX4_init 45 = .ok (.putfield 33, 3) := by decide +kernel
theorem dX4_init_48 : decode cX4_init 48 = .ok (.aload_n 0, 1) := by decide +kernel
theorem dX4_init_49 : decode cX4_init 49 = .ok (.bipush 20, 2) := by decide +kernel
theorem dX4_init_51 : decode cX4_init 51 = .ok (.newarray .int, 2) := by decide +kernel
theorem dX4_init_53 : decode cX4_init 53 = .ok (.putfield 37, 3) := by decide +kernel
theorem dX4_init_56 : decode cX4_init 56 = .ok (.aload_n 0, 1) := by decide +kernel
theorem dX4_init_57 : decode cX4_init 57 = .ok (.bipush 20, 2) := by decide +kernel
theorem dX4_init_59 : decode cX4_init 59 = .ok (.newarray .boolean, 2) := by decide +kernel
theorem dX4_init_61 : decode cX4_init 61 = .ok (.putfield 41, 3) := by decide +kernel
theorem dX4_init_64 : decode cX4_init 64 = .ok (.aload_n 0, 1) := by decide +kernel
theorem dX4_init_65 : decode cX4_init 65 = .ok (.bipush 28, 2) := by decide +kernel
theorem dX4_init_67 : decode cX4_init 67 = .ok (.newarray .boolean, 2) := by decide +kernel
theorem dX4_init_69 : decode cX4_init 69 = .ok (.putfield 45, 3) := by decide +kernel
theorem dX4_init_72 : decode cX4_init 72 = .ok (.aload_n 0, 1) := by decide +kernel
theorem dX4_init_73 : decode cX4_init 73 = .ok (.bipush 28, 2) := by decide +kernel
theorem dX4_init_75 : decode cX4_init 75 = .ok (.newarray .boolean, 2) := by decide +kernel
theorem dX4_init_77 : decode cX4_init 77 = .ok (.putfield 48, 3) := by decide +kernel
theorem dX4_init_80 : decode cX4_init 80 = .ok (.aload_n 0, 1) := by decide +kernel
theorem dX4_init_81 : decode cX4_init 81 = .ok (.bipush 6, 2) := by decide +kernel
theorem dX4_init_83 : decode cX4_init 83 = .ok (.putfield 51, 3) := by decide +kernel
theorem dX4_init_86 : decode cX4_init 86 = .ok (.aload_n 0, 1) := by decide +kernel
theorem dX4_init_87 : decode cX4_init 87 = .ok (.iconst 0, 1) := by decide +kernel
theorem dX4_init_88 : decode cX4_init 88 = .ok (.putfield 55, 3) := by decide +kernel
theorem dX4_init_91 : decode cX4_init 91 = .ok (.aload_n 0, 1) := by decide +kernel
theorem dX4_init_92 : decode cX4_init 92 = .ok (.iconst 0, 1) := by decide +kernel
theorem dX4_init_93 : decode cX4_init 93 = .ok (.putfield 58, 3) := by decide +kernel
theorem dX4_init_96 : decode cX4_init 96 = .ok (.return_, 1) := by decide +kernel
theorem dX4_addBridge_0 : decode cX4_addBridge 0 = .ok (.aload_n 0, 1) := by decide +kernel
theorem dX4_addBridge_1 : decode cX4_addBridge 1 = .ok (.getfield 12, 3) := by decide +kernel
theorem dX4_addBridge_4 : decode cX4_addBridge 4 = .ok (.getfield 61, 3) := by decide +kernel
theorem dX4_addBridge_7 : decode cX4_addBridge 7 = .ok (.iconst 5, 1) := by decide +kernel
theorem dX4_addBridge_8 : decode cX4_addBridge 8 = .ok (.if_icmp .lt 6, 3) := by decide +kernel
theorem dX4_addBridge_11 : decode cX4_addBridge 11 = .ok (.bipush (-5), 2) := by decide +kernel
theorem dX4_addBridge_13 : decode cX4_addBridge 13 = .ok (.ireturn, 1) := by decide +kernel
theorem dX4_addBridge_14 : decode cX4_addBridge 14 = .ok (.aload_n 0, 1) := by decide +kernel
theorem dX4_addBridge_15 : decode cX4_addBridge 15 = .ok (.getfield 12, 3) := by decide +kernel
theorem dX4_addBridge_18 : decode cX4_addBridge 18 = .ok (.getfield 61, 3) := by decide +kernel
theorem dX4_addBridge_21 : decode cX4_addBridge 21 = .ok (.istore_n 1, 1) := by decide +kernel
theorem dX4_addBridge_22 : decode cX4_addBridge 22 = .ok (.aload_n 0, 1) := by decide +kernel
theorem dX4_addBridge_23 : decode cX4_addBridge 23 = .ok (.getfield 12, 3) := by decide +kernel
theorem dX4_addBridge_26 : decode cX4_addBridge 26 = .ok (.dup, 1) := by decide +kernel
theorem dX4_addBridge_27 : decode cX4_addBridge 27 = .ok (.getfield 61, 3) := by decide +kernel
theorem dX4_addBridge_30 : decode cX4_addBridge 30 = .ok (.iconst 1, 1) := by decide +kernel
theorem dX4_addBridge_31 : decode cX4_addBridge 31 = .ok (.iadd, 1) := by decide +kernel
theorem dX4_addBridge_32 : decode cX4_addBridge 32 = .ok (.putfield 61, 3) := by decide +kernel
theorem dX4_addBridge_35 : decode cX4_addBridge 35 = .ok (.iload_n 1, 1) := by decide +kernel
theorem dX4_addBridge_36 : decode cX4_addBridge 36 = .ok (.ireturn, 1) := by decide +kernel
set_option maxRecDepth 20000 in
theorem ggX4_connect_X1_stationOfPort : GoodIn wsX4_connect wsX1_stationOfPort := goodIn_r _ [5, 6, 47, 48, 49, 50] (by decide +kernel) (by decide +kernel)
set_option maxRecDepth 20000 in
theorem gX4_connect_X1_stationOfPort_n64 : GoodIn wsX4_connect (wsX1_stationOfPort) := ggX4_connect_X1_stationOfPort
set_option maxRecDepth 20000 in
theorem ggX4_connect_X1_isConnected : GoodIn wsX4_connect wsX1_isConnected := goodIn_r _ [9, 10, 11, 12, 13, 47, 48, 49, 50] (by decide +kernel) (by decide +kernel)
set_option maxRecDepth 20000 in
theorem gX4_connect_X1_isConnected_n68 : GoodIn wsX4_connect (wsX1_isConnected) := ggX4_connect_X1_isConnected
set_option maxRecDepth 20000 in
theorem ggX4_connect_X1_bridgesOnWay : GoodIn wsX4_connect wsX1_bridgesOnWay := goodIn_r _ [16, 17, 12, 18, 19, 20, 21, 3, 22, 10, 23, 24, 25, 26, 47, 48, 49, 50] (by decide +kernel) (by decide +kernel)
set_option maxRecDepth 20000 in
theorem gX4_connect_X1_bridgesOnWay_n72 : GoodIn wsX4_connect (wsX1_bridgesOnWay) := ggX4_connect_X1_bridgesOnWay
set_option maxRecDepth 20000 in
theorem ggX4_connect_X1_tie : GoodIn wsX4_connect wsX1_tie := goodIn_r _ [29, 10, 47, 48, 49, 50] (by decide +kernel) (by decide +kernel)
set_option maxRecDepth 20000 in
theorem gX4_connect_X1_tie_n75 : GoodIn wsX4_connect (wsX1_tie) := ggX4_connect_X1_tie
set_option maxRecDepth 20000 in
theorem ggX4_connect_X4_startPort : GoodIn wsX4_connect wsX4_startPort := goodIn_r _ [33, 34, 35, 36, 37, 38, 39, 40, 41, 42, 43, 44, 45, 46] (by decide +kernel) (by decide +kernel)
set_option maxRecDepth 20000 in
theorem gX4_connect_X4_startPort : GoodIn wsX4_connect (wsV RX4 82 RX4 yX4_startPort wsX4_startPort) := goodIn_app (goodIn_of _ (by decide +kernel)) ggX4_connect_X4_startPort
theorem dX4_connect_0 : decode cX4_connect 0 = .ok (.aload_n 0, 1) := by decide +kernel
theorem dX4_connect_1 : decode cX4_connect 1 = .ok (.getfield 12, 3) := by decide +kernel
theorem dX4_connect_4 : decode cX4_connect 4 = .ok (.iload_n 1, 1) := by decide +kernel
theorem dX4_connect_5 : decode cX4_connect 5 = .ok (.iload_n 2, 1) := by decide +kernel
theorem dX4_connect_6 : decode cX4_connect 6 = .ok (.invokevirtual 64, 3) := by decide +kernel
theorem dX4_connect_9 : decode cX4_connect 9 = .ok (.istore 5, 2) := by decide +kernel
theorem dX4_connect_11 : decode cX4_connect 11 = .ok (.aload_n 0, 1) := by decide +kernel
theorem dX4_connect_12 : decode cX4_connect 12 = .ok (.getfield 12, 3) := by decide +kernel
theorem dX4_connect_15 : decode cX4_connect 15 = .ok (.iload_n 3, 1) := by decide +kernel
theorem dX4_connect_16 : decode cX4_connect 16 = .ok (.iload 4, 2) := by decide +kernel
theorem dX4_connect_18 : decode cX4_connect 18 = .ok (.invokevirtual 64, 3) := by decide +kernel
theorem dX4_connect_21 : decode cX4_connect 21 = .ok (.istore 6, 2) := by decide +kernel
theorem dX4_connect_23 : decode cX4_connect 23 = .ok (.iload 5, 2) := by decide +kernel
theorem dX4_connect_25 : decode cX4_connect 25 = .ok (.ifCond .lt 8, 3) := by decide +kernel
theorem dX4_connect_28 : decode cX4_connect 28 = .ok (.iload 6, 2) := by decide +kernel
theorem dX4_connect_30 : decode cX4_connect 30 = .ok (.ifCond .ge 5, 3) := by decide +kernel
theorem dX4_connect_33 : decode cX4_connect 33 = .ok (.iconst (-1), 1) := by decide +kernel
theorem dX4_connect_34 : decode cX4_connect 34 = .ok (.ireturn, 1) := by decide +kernel
theorem dX4_connect_35 : decode cX4_connect 35 = .ok (.aload_n 0, 1) := by decide +kernel
theorem dX4_connect_36 : decode cX4_connect 36 = .ok (.getfield 12, 3) := by decide +kernel
theorem dX4_connect_39 : decode cX4_connect 39 = .ok (.iload 5, 2) := by decide +kernel
theorem dX4_connect_41 : decode cX4_connect 41 = .ok (.invokevirtual 68, 3) := by decide +kernel
theorem dX4_connect_44 : decode cX4_connect 44 = .ok (.ifCond .ne 15, 3) := by decide +kernel
theorem dX4_connect_47 : decode cX4_connect 47 = .ok (.aload_n 0, 1) := by decide +kernel
theorem dX4_connect_48 : decode cX4_connect 48 = .ok (.getfield 12, 3) := by decide +kernel
theorem dX4_connect_51 : decode cX4_connect 51 = .ok (.iload 6, 2) := by decide +kernel
theorem dX4_connect_53 : decode cX4_connect 53 = .ok (.invokevirtual 68, 3) := by decide +kernel
theorem dX4_connect_56 : decode cX4_connect 56 = .ok (.ifCond .eq 6, 3) := by decide +kernel
theorem dX4_connect_59 : decode cX4_connect 59 = .ok (.bipush (-6), 2) := by decide +kernel
theorem dX4_connect_61 : decode cX4_connect 61 = .ok (.ireturn, 1) := by decide +kernel
theorem dX4_connect_62 : decode cX4_connect 62 = .ok (.aload_n 0, 1) := by decide +kernel
theorem dX4_connect_63 : decode cX4_connect 63 = .ok (.getfield 12, 3) := by decide +kernel
theorem dX4_connect_66 : decode cX4_connect 66 = .ok (.iload_n 1, 1) := by decide +kernel
theorem dX4_connect_67 : decode cX4_connect 67 = .ok (.iload_n 3, 1) := by decide +kernel
theorem dX4_connect_68 : decode cX4_connect 68 = .ok (.invokevirtual 72, 3) := by decide +kernel
theorem dX4_connect_71 : decode cX4_connect 71 = .ok (.ifCond .le 6, 3) := by decide +kernel
theorem dX4_connect_74 : decode cX4_connect 74 = .ok (.bipush (-8), 2) := by decide +kernel
theorem dX4_connect_76 : decode cX4_connect 76 = .ok (.ireturn, 1) := by decide +kernel
theorem dX4_connect_77 : decode cX4_connect 77 = .ok (.aload_n 0, 1) := by decide +kernel
theorem dX4_connect_78 : decode cX4_connect 78 = .ok (.getfield 12, 3) := by decide +kernel
theorem dX4_connect_81 : decode cX4_connect 81 = .ok (.iload 5, 2) := by decide +kernel
theorem dX4_connect_83 : decode cX4_connect 83 = .ok (.iload 6, 2) := by decide +kernel
theorem dX4_connect_85 : decode cX4_connect 85 = .ok (.invokevirtual 75, 3) := by decide +kernel
theorem dX4_connect_88 : decode cX4_connect 88 = .ok (.aload_n 0, 1) := by decide +kernel
theorem dX4_connect_89 : decode cX4_connect 89 = .ok (.getfield 12, 3) := by decide +kernel
theorem dX4_connect_92 : decode cX4_connect 92 = .ok (.dup, 1) := by decide +kernel
theorem dX4_connect_93 : decode cX4_connect 93 = .ok (.getfield 79, 3) := by decide +kernel
theorem dX4_connect_96 : decode cX4_connect 96 = .ok (.iconst 1, 1) := by decide +kernel
theorem dX4_connect_97 : decode cX4_connect 97 = .ok (.iadd, 1) := by decide +kernel
theorem dX4_connect_98 : decode cX4_connect 98 = .ok (.putfield 79, 3) := by decide +kernel
theorem dX4_connect_101 : decode cX4_connect 101 = .ok (.aload_n 0, 1) := by decide +kernel
theorem dX4_connect_102 : decode cX4_connect 102 = .ok (.iload 5, 2) := by decide +kernel
theorem dX4_connect_104 : decode cX4_connect 104 = .ok (.invokevirtual 82, 3) := by decide +kernel
theorem dX4_connect_107 : decode cX4_connect 107 = .ok (.aload_n 0, 1) := by decide +kernel
theorem dX4_connect_108 : decode cX4_connect 108 = .ok (.iload 6, 2) := by decide +kernel
theorem dX4_connect_110 : decode cX4_connect 110 = .ok (.invokevirtual 82, 3) := by decide +kernel
theorem dX4_connect_113 : decode cX4_connect 113 = .ok (.aload_n 0, 1) := by decide +kernel
theorem dX4_connect_114 : decode cX4_connect 114 = .ok (.getfield 12, 3) := by decide +kernel
theorem dX4_connect_117 : decode cX4_connect 117 = .ok (.getfield 79, 3) := by decide +kernel
theorem dX4_connect_120 : decode cX4_connect 120 = .ok (.ireturn, 1) := by decide +kernel
set_option maxRecDepth 20000 in
theorem ggX4_cut_X1_stationOfPort : GoodIn wsX4_cut wsX1_stationOfPort := goodIn_r _ [5, 6, 49, 50, 51, 52] (by decide +kernel) (by decide +kernel)
set_option maxRecDepth 20000 in
theorem gX4_cut_X1_stationOfPort_n64 : GoodIn wsX4_cut (wsX1_stationOfPort) := ggX4_cut_X1_stationOfPort
set_option maxRecDepth 20000 in
theorem ggX4_cut_X4_isPort : GoodIn wsX4_cut wsX4_isPort := goodIn_r _ [10] (by decide +kernel) (by decide +kernel)
set_option maxRecDepth 20000 in
theorem gX4_cut_X4_isPort : GoodIn wsX4_cut (va_wsS RX4 89 yX4_isPort wsX4_isPort) := goodIn_app (goodIn_of _ (by decide +kernel)) ggX4_cut_X4_isPort
set_option maxRecDepth 20000 in
theorem ggX4_cut_X1_untie : GoodIn wsX4_cut wsX1_untie := goodIn_r _ [13, 14, 49, 50, 51, 52] (by decide +kernel) (by decide +kernel)
set_option maxRecDepth 20000 in
theorem gX4_cut_X1_untie_n92 : GoodIn wsX4_cut (wsX1_untie) := ggX4_cut_X1_untie
set_option maxRecDepth 20000 in
theorem ggX4_cut_X4_clearPort : GoodIn wsX4_cut wsX4_clearPort := goodIn_r _ [18, 19, 20, 21, 22, 23, 24, 9, 25, 26, 27, 28, 29, 30, 31, 32, 33, 34, 35, 36, 37, 38, 39, 40, 41, 42, 43, 44, 45, 46, 47, 48, 53, 54, 55, 56] (by decide +kernel) (by decide +kernel)
set_option maxRecDepth 20000 in
theorem gX4_cut_X4_clearPort : GoodIn wsX4_cut (wsV RX4 95 RX4 yX4_clearPort wsX4_clearPort) := goodIn_app (goodIn_of _ (by decide +kernel)) ggX4_cut_X4_clearPort
theorem dX4_cut_0 : decode cX4_cut 0 = .ok (.aload_n 0, 1) := by decide +kernel
theorem dX4_cut_1 : decode cX4_cut 1 = .ok (.getfield 12, 3) := by decide +kernel
theorem dX4_cut_4 : decode cX4_cut 4 = .ok (.iload_n 1, 1) := by decide +kernel
theorem dX4_cut_5 : decode cX4_cut 5 = .ok (.iload_n 2, 1) := by decide +kernel
theorem dX4_cut_6 : decode cX4_cut 6 = .ok (.invokevirtual 64, 3) := by decide +kernel
theorem dX4_cut_9 : decode cX4_cut 9 = .ok (.istore_n 3, 1) := by decide +kernel
theorem dX4_cut_10 : decode cX4_cut 10 = .ok (.iload_n 3, 1) := by decide +kernel
theorem dX4_cut_11 : decode cX4_cut 11 = .ok (.ifCond .ge 5, 3) := by decide +kernel
theorem dX4_cut_14 : decode cX4_cut 14 = .ok (.iload_n 3, 1) := by decide +kernel
theorem dX4_cut_15 : decode cX4_cut 15 = .ok (.ireturn, 1) := by decide +kernel
theorem dX4_cut_16 : decode cX4_cut 16 = .ok (.aload_n 0, 1) := by decide +kernel
theorem dX4_cut_17 : decode cX4_cut 17 = .ok (.getfield 12, 3) := by decide +kernel
theorem dX4_cut_20 : decode cX4_cut 20 = .ok (.getfield 86, 3) := by decide +kernel
theorem dX4_cut_23 : decode cX4_cut 23 = .ok (.iload_n 3, 1) := by decide +kernel
theorem dX4_cut_24 : decode cX4_cut 24 = .ok (.iaload, 1) := by decide +kernel
theorem dX4_cut_25 : decode cX4_cut 25 = .ok (.istore 4, 2) := by decide +kernel
theorem dX4_cut_27 : decode cX4_cut 27 = .ok (.iload 4, 2) := by decide +kernel
theorem dX4_cut_29 : decode cX4_cut 29 = .ok (.invokestatic 89, 3) := by decide +kernel
theorem dX4_cut_32 : decode cX4_cut 32 = .ok (.ifCond .ne 6, 3) := by decide +kernel
theorem dX4_cut_35 : decode cX4_cut 35 = .ok (.bipush (-7), 2) := by decide +kernel
theorem dX4_cut_37 : decode cX4_cut 37 = .ok (.ireturn, 1) := by decide +kernel
theorem dX4_cut_38 : decode cX4_cut 38 = .ok (.aload_n 0, 1) := by decide +kernel
theorem dX4_cut_39 : decode cX4_cut 39 = .ok (.getfield 12, 3) := by decide +kernel
theorem dX4_cut_42 : decode cX4_cut 42 = .ok (.iload_n 3, 1) := by decide +kernel
theorem dX4_cut_43 : decode cX4_cut 43 = .ok (.iload 4, 2) := by decide +kernel
theorem dX4_cut_45 : decode cX4_cut 45 = .ok (.invokevirtual 92, 3) := by decide +kernel
theorem dX4_cut_48 : decode cX4_cut 48 = .ok (.aload_n 0, 1) := by decide +kernel
theorem dX4_cut_49 : decode cX4_cut 49 = .ok (.getfield 12, 3) := by decide +kernel
theorem dX4_cut_52 : decode cX4_cut 52 = .ok (.dup, 1) := by decide +kernel
theorem dX4_cut_53 : decode cX4_cut 53 = .ok (.getfield 79, 3) := by decide +kernel
theorem dX4_cut_56 : decode cX4_cut 56 = .ok (.iconst 1, 1) := by decide +kernel
theorem dX4_cut_57 : decode cX4_cut 57 = .ok (.isub, 1) := by decide +kernel
theorem dX4_cut_58 : decode cX4_cut 58 = .ok (.putfield 79, 3) := by decide +kernel
theorem dX4_cut_61 : decode cX4_cut 61 = .ok (.aload_n 0, 1) := by decide +kernel
theorem dX4_cut_62 : decode cX4_cut 62 = .ok (.iload_n 3, 1) := by decide +kernel
theorem dX4_cut_63 : decode cX4_cut 63 = .ok (.invokevirtual 95, 3) := by decide +kernel
theorem dX4_cut_66 : decode cX4_cut 66 = .ok (.aload_n 0, 1) := by decide +kernel
theorem dX4_cut_67 : decode cX4_cut 67 = .ok (.iload 4, 2) := by decide +kernel
theorem dX4_cut_69 : decode cX4_cut 69 = .ok (.invokevirtual 95, 3) := by decide +kernel
theorem dX4_cut_72 : decode cX4_cut 72 = .ok (.aload_n 0, 1) := by decide +kernel
theorem dX4_cut_73 : decode cX4_cut 73 = .ok (.getfield 12, 3) := by decide +kernel
theorem dX4_cut_76 : decode cX4_cut 76 = .ok (.getfield 79, 3) := by decide +kernel
theorem dX4_cut_79 : decode cX4_cut 79 = .ok (.ireturn, 1) := by decide +kernel
set_option maxRecDepth 20000 in
theorem ggX4_addHost_X1_stationOfPort : GoodIn wsX4_addHost wsX1_stationOfPort := goodIn_r _ [5, 6, 34, 35, 36, 37] (by decide +kernel) (by decide +kernel)
set_option maxRecDepth 20000 in
theorem gX4_addHost_X1_stationOfPort_n64 : GoodIn wsX4_addHost (wsX1_stationOfPort) := ggX4_addHost_X1_stationOfPort
set_option maxRecDepth 20000 in
theorem ggX4_addHost_X1_isConnected : GoodIn wsX4_addHost wsX1_isConnected := goodIn_r _ [9, 10, 11, 12, 13, 34, 35, 36, 37] (by decide +kernel) (by decide +kernel)
set_option maxRecDepth 20000 in
theorem gX4_addHost_X1_isConnected_n68 : GoodIn wsX4_addHost (wsX1_isConnected) := ggX4_addHost_X1_isConnected
set_option maxRecDepth 20000 in
theorem ggX4_addHost_X1_tie : GoodIn wsX4_addHost wsX1_tie := goodIn_r _ [16, 10, 34, 35, 36, 37] (by decide +kernel) (by decide +kernel)
set_option maxRecDepth 20000 in
theorem gX4_addHost_X1_tie_n75 : GoodIn wsX4_addHost (wsX1_tie) := ggX4_addHost_X1_tie
set_option maxRecDepth 20000 in
theorem ggX4_addHost_X4_startPort : GoodIn wsX4_addHost wsX4_startPort := goodIn_r _ [20, 21, 22, 23, 24, 25, 26, 27, 28, 29, 30, 31, 32, 33] (by decide +kernel) (by decide +kernel)
set_option maxRecDepth 20000 in
theorem gX4_addHost_X4_startPort : GoodIn wsX4_addHost (wsV RX4 82 RX4 yX4_startPort wsX4_startPort) := goodIn_app (goodIn_of _ (by decide +kernel)) ggX4_addHost_X4_startPort
theorem dX4_addHost_0 : decode cX4_addHost 0 = .ok (.aload_n 0, 1) := by decide +kernel
theorem dX4_addHost_1 : decode cX4_addHost 1 = .ok (.getfield 12, 3) := by decide +kernel
theorem dX4_addHost_4 : decode cX4_addHost 4 = .ok (.iload_n 1, 1) := by decide +kernel
theorem dX4_addHost_5 : decode cX4_addHost 5 = .ok (.iload_n 2, 1) := by decide +kernel
theorem dX4_addHost_6 : decode cX4_addHost 6 = .ok (.invokevirtual 64, 3) := by decide +kernel
theorem dX4_addHost_9 : decode cX4_addHost 9 = .ok (.istore_n 3, 1) := by decide +kernel
theorem dX4_addHost_10 : decode cX4_addHost 10 = .ok (.iload_n 3, 1) := by decide +kernel
theorem dX4_addHost_11 : decode cX4_addHost 11 = .ok (.ifCond .ge 5, 3) := by decide +kernel
theorem dX4_addHost_14 : decode cX4_addHost 14 = .ok (.iload_n 3, 1) := by decide +kernel
theorem dX4_addHost_15 : decode cX4_addHost 15 = .ok (.ireturn, 1) := by decide +kernel
theorem dX4_addHost_16 : decode cX4_addHost 16 = .ok (.aload_n 0, 1) := by decide +kernel
theorem dX4_addHost_17 : decode cX4_addHost 17 = .ok (.getfield 12, 3) := by decide +kernel
theorem dX4_addHost_20 : decode cX4_addHost 20 = .ok (.iload_n 3, 1) := by decide +kernel
theorem dX4_addHost_21 : decode cX4_addHost 21 = .ok (.invokevirtual 68, 3) := by decide +kernel
theorem dX4_addHost_24 : decode cX4_addHost 24 = .ok (.ifCond .eq 6, 3) := by decide +kernel
theorem dX4_addHost_27 : decode cX4_addHost 27 = .ok (.bipush (-6), 2) := by decide +kernel
theorem dX4_addHost_29 : decode cX4_addHost 29 = .ok (.ireturn, 1) := by decide +kernel
theorem dX4_addHost_30 : decode cX4_addHost 30 = .ok (.aload_n 0, 1) := by decide +kernel
theorem dX4_addHost_31 : decode cX4_addHost 31 = .ok (.getfield 12, 3) := by decide +kernel
theorem dX4_addHost_34 : decode cX4_addHost 34 = .ok (.getfield 98, 3) := by decide +kernel
theorem dX4_addHost_37 : decode cX4_addHost 37 = .ok (.bipush 8, 2) := by decide +kernel
theorem dX4_addHost_39 : decode cX4_addHost 39 = .ok (.if_icmp .lt 6, 3) := by decide +kernel
theorem dX4_addHost_42 : decode cX4_addHost 42 = .ok (.bipush (-5), 2) := by decide +kernel
theorem dX4_addHost_44 : decode cX4_addHost 44 = .ok (.ireturn, 1) := by decide +kernel
theorem dX4_addHost_45 : decode cX4_addHost 45 = .ok (.aload_n 0, 1) := by decide +kernel
theorem dX4_addHost_46 : decode cX4_addHost 46 = .ok (.getfield 12, 3) := by decide +kernel
theorem dX4_addHost_49 : decode cX4_addHost 49 = .ok (.getfield 98, 3) := by decide +kernel
theorem dX4_addHost_52 : decode cX4_addHost 52 = .ok (.istore 4, 2) := by decide +kernel
theorem dX4_addHost_54 : decode cX4_addHost 54 = .ok (.aload_n 0, 1) := by decide +kernel
theorem dX4_addHost_55 : decode cX4_addHost 55 = .ok (.getfield 12, 3) := by decide +kernel
theorem dX4_addHost_58 : decode cX4_addHost 58 = .ok (.dup, 1) := by decide +kernel
theorem dX4_addHost_59 : decode cX4_addHost 59 = .ok (.getfield 98, 3) := by decide +kernel
theorem dX4_addHost_62 : decode cX4_addHost 62 = .ok (.iconst 1, 1) := by decide +kernel
theorem dX4_addHost_63 : decode cX4_addHost 63 = .ok (.iadd, 1) := by decide +kernel
theorem dX4_addHost_64 : decode cX4_addHost 64 = .ok (.putfield 98, 3) := by decide +kernel
theorem dX4_addHost_67 : decode cX4_addHost 67 = .ok (.aload_n 0, 1) := by decide +kernel
theorem dX4_addHost_68 : decode cX4_addHost 68 = .ok (.getfield 12, 3) := by decide +kernel
theorem dX4_addHost_71 : decode cX4_addHost 71 = .ok (.iload_n 3, 1) := by decide +kernel
theorem dX4_addHost_72 : decode cX4_addHost 72 = .ok (.bipush 20, 2) := by decide +kernel
theorem dX4_addHost_74 : decode cX4_addHost 74 = .ok (.iload 4, 2) := by decide +kernel
theorem dX4_addHost_76 : decode cX4_addHost 76 = .ok (.iadd, 1) := by decide +kernel
theorem dX4_addHost_77 : decode cX4_addHost 77 = .ok (.invokevirtual 75, 3) := by decide +kernel
theorem dX4_addHost_80 : decode cX4_addHost 80 = .ok (.aload_n 0, 1) := by decide +kernel
theorem dX4_addHost_81 : decode cX4_addHost 81 = .ok (.iload_n 3, 1) := by decide +kernel
theorem dX4_addHost_82 : decode cX4_addHost 82 = .ok (.invokevirtual 82, 3) := by decide +kernel
theorem dX4_addHost_85 : decode cX4_addHost 85 = .ok (.iload 4, 2) := by decide +kernel
theorem dX4_addHost_87 : decode cX4_addHost 87 = .ok (.ireturn, 1) := by decide +kernel
set_option maxRecDepth 20000 in
theorem ggX4_setTimes_X1_isConnected : GoodIn wsX4_setTimes wsX1_isConnected := goodIn_r _ [7, 8, 9, 10, 11, 28, 29, 30, 31] (by decide +kernel) (by decide +kernel)
set_option maxRecDepth 20000 in
theorem gX4_setTimes_X1_isConnected_n68 : GoodIn wsX4_setTimes (wsX1_isConnected) := ggX4_setTimes_X1_isConnected
set_option maxRecDepth 20000 in
theorem ggX4_setTimes_X4_startPort : GoodIn wsX4_setTimes wsX4_startPort := goodIn_r _ [15, 16, 2, 17, 18, 19, 20, 21, 22, 23, 24, 25, 26, 27] (by decide +kernel) (by decide +kernel)
set_option maxRecDepth 20000 in
theorem gX4_setTimes_X4_startPort : GoodIn wsX4_setTimes (wsV RX4 82 RX4 yX4_startPort wsX4_startPort) := goodIn_app (goodIn_of _ (by decide +kernel)) ggX4_setTimes_X4_startPort
theorem dX4_setTimes_0 : decode cX4_setTimes 0 = .ok (.iload_n 1, 1) := by decide +kernel
theorem dX4_setTimes_1 : decode cX4_setTimes 1 = .ok (.iconst 1, 1) := by decide +kernel
theorem dX4_setTimes_2 : decode cX4_setTimes 2 = .ok (.if_icmp .lt 20, 3) := by decide +kernel
theorem dX4_setTimes_5 : decode cX4_setTimes 5 = .ok (.iload_n 1, 1) := by decide +kernel
theorem dX4_setTimes_6 : decode cX4_setTimes 6 = .ok (.bipush 50, 2) := by decide +kernel
theorem dX4_setTimes_8 : decode cX4_setTimes 8 = .ok (.if_icmp .gt 14, 3) := by decide +kernel
theorem dX4_setTimes_11 : decode cX4_setTimes 11 = .ok (.iload_n 2, 1) := by decide +kernel
theorem dX4_setTimes_12 : decode cX4_setTimes 12 = .ok (.ifCond .lt 10, 3) := by decide +kernel
theorem dX4_setTimes_15 : decode cX4_setTimes 15 = .ok (.iload_n 2, 1) := by decide +kernel
theorem dX4_setTimes_16 : decode cX4_setTimes 16 = .ok (.sipush 200, 3) := by decide +kernel
theorem dX4_setTimes_19 : decode cX4_setTimes 19 = .ok (.if_icmp .le 6, 3) := by decide +kernel
theorem dX4_setTimes_22 : decode cX4_setTimes 22 = .ok (.bipush (-4), 2) := by decide +kernel
theorem dX4_setTimes_24 : decode cX4_setTimes 24 = .ok (.ireturn, 1) := by decide +kernel
theorem dX4_setTimes_25 : decode cX4_setTimes 25 = .ok (.aload_n 0, 1) := by decide +kernel
theorem dX4_setTimes_26 : decode cX4_setTimes 26 = .ok (.iload_n 1, 1) := by decide +kernel
theorem dX4_setTimes_27 : decode cX4_setTimes 27 = .ok (.putfield 51, 3) := by decide +kernel
theorem dX4_setTimes_30 : decode cX4_setTimes 30 = .ok (.aload_n 0, 1) := by decide +kernel
theorem dX4_setTimes_31 : decode cX4_setTimes 31 = .ok (.iload_n 2, 1) := by decide +kernel
theorem dX4_setTimes_32 : decode cX4_setTimes 32 = .ok (.putfield 55, 3) := by decide +kernel
theorem dX4_setTimes_35 : decode cX4_setTimes 35 = .ok (.iconst 0, 1) := by decide +kernel
theorem dX4_setTimes_36 : decode cX4_setTimes 36 = .ok (.istore_n 3, 1) := by decide +kernel
theorem dX4_setTimes_37 : decode cX4_setTimes 37 = .ok (.iconst 0, 1) := by decide +kernel
theorem dX4_setTimes_38 : decode cX4_setTimes 38 = .ok (.istore 4, 2) := by decide +kernel
theorem dX4_setTimes_40 : decode cX4_setTimes 40 = .ok (.iload 4, 2) := by decide +kernel
theorem dX4_setTimes_42 : decode cX4_setTimes 42 = .ok (.bipush 20, 2) := by decide +kernel
theorem dX4_setTimes_44 : decode cX4_setTimes 44 = .ok (.if_icmp .ge 30, 3) := by decide +kernel
theorem dX4_setTimes_47 : decode cX4_setTimes 47 = .ok (.aload_n 0, 1) := by decide +kernel
theorem dX4_setTimes_48 : decode cX4_setTimes 48 = .ok (.getfield 12, 3) := by decide +kernel
theorem dX4_setTimes_51 : decode cX4_setTimes 51 = .ok (.iload 4, 2) := by decide +kernel
theorem dX4_setTimes_53 : decode cX4_setTimes 53 = .ok (.invokevirtual 68, 3) := by decide +kernel
theorem dX4_setTimes_56 : decode cX4_setTimes 56 = .ok (.ifCond .eq 12, 3) := by decide +kernel
theorem dX4_setTimes_59 : decode cX4_setTimes 59 = .ok (.aload_n 0, 1) := by decide +kernel
theorem dX4_setTimes_60 : decode cX4_setTimes 60 = .ok (.iload 4, 2) := by decide +kernel
theorem dX4_setTimes_62 : decode cX4_setTimes 62 = .ok (.invokevirtual 82, 3) := by decide +kernel
theorem dX4_setTimes_65 : decode cX4_setTimes 65 = .ok (.iinc 3 1, 3) := by decide +kernel
theorem dX4_setTimes_68 : decode cX4_setTimes 68 = .ok (.iinc 4 1, 3) := by decide +kernel
theorem dX4_setTimes_71 : decode cX4_setTimes 71 = .ok (.goto (-31), 3) := by decide +kernel
theorem dX4_setTimes_74 : decode cX4_setTimes 74 = .ok (.iload_n 3, 1) := by decide +kernel
theorem dX4_setTimes_75 : decode cX4_setTimes 75 = .ok (.ireturn, 1) := by decide +kernel
set_option maxRecDepth 20000 in
theorem ggX4_join_X4_cellOfHost : GoodIn wsX4_join wsX4_cellOfHost := goodIn_r _ [6, 7, 8, 9, 10, 11, 12, 13, 14, 5, 15, 16, 17, 18, 33, 34, 35, 36, 37, 38, 39, 40, 41, 42, 43, 44, 45, 46, 47] (by decide +kernel) (by decide +kernel)
set_option maxRecDepth 20000 in
theorem gX4_join_X4_cellOfHost : GoodIn wsX4_join (wsV RX4 101 RX4 yX4_cellOfHost wsX4_cellOfHost) := goodIn_app (goodIn_of _ (by decide +kernel)) ggX4_join_X4_cellOfHost
set_option maxRecDepth 20000 in
theorem ggX4_join_X0_startDeclaring : GoodIn wsX4_join wsX0_startDeclaring := goodIn_r _ [22, 23, 24, 25, 20, 26, 27, 28, 29, 30, 31, 32, 48, 49] (by decide +kernel) (by decide +kernel)
set_option maxRecDepth 20000 in
theorem gX4_join_X0_startDeclaring_n104 : GoodIn wsX4_join (wsX0_startDeclaring) := ggX4_join_X0_startDeclaring
theorem dX4_join_0 : decode cX4_join 0 = .ok (.aload_n 0, 1) := by decide +kernel
theorem dX4_join_1 : decode cX4_join 1 = .ok (.iload_n 1, 1) := by decide +kernel
theorem dX4_join_2 : decode cX4_join 2 = .ok (.iload_n 2, 1) := by decide +kernel
theorem dX4_join_3 : decode cX4_join 3 = .ok (.invokevirtual 101, 3) := by decide +kernel
theorem dX4_join_6 : decode cX4_join 6 = .ok (.istore_n 3, 1) := by decide +kernel
theorem dX4_join_7 : decode cX4_join 7 = .ok (.iload_n 3, 1) := by decide +kernel
theorem dX4_join_8 : decode cX4_join 8 = .ok (.ifCond .ge 5, 3) := by decide +kernel
theorem dX4_join_11 : decode cX4_join 11 = .ok (.iload_n 3, 1) := by decide +kernel
theorem dX4_join_12 : decode cX4_join 12 = .ok (.ireturn, 1) := by decide +kernel
theorem dX4_join_13 : decode cX4_join 13 = .ok (.aload_n 0, 1) := by decide +kernel
theorem dX4_join_14 : decode cX4_join 14 = .ok (.getfield 26, 3) := by decide +kernel
theorem dX4_join_17 : decode cX4_join 17 = .ok (.iload_n 3, 1) := by decide +kernel
theorem dX4_join_18 : decode cX4_join 18 = .ok (.invokevirtual 104, 3) := by decide +kernel
theorem dX4_join_21 : decode cX4_join 21 = .ok (.ifCond .eq 7, 3) := by decide +kernel
theorem dX4_join_24 : decode cX4_join 24 = .ok (.iconst 1, 1) := by decide +kernel
theorem dX4_join_25 : decode cX4_join 25 = .ok (.goto 4, 3) := by decide +kernel
theorem dX4_join_28 : decode cX4_join 28 = .ok (.iconst 0, 1) := by decide +kernel
theorem dX4_join_29 : decode cX4_join 29 = .ok (.ireturn, 1) := by decide +kernel
set_option maxRecDepth 20000 in
theorem ggX4_leave_X4_cellOfHost : GoodIn wsX4_leave wsX4_cellOfHost := goodIn_r _ [6, 7, 8, 9, 10, 11, 12, 13, 14, 5, 15, 16, 17, 18, 33, 34, 35, 36, 37, 38, 39, 40, 41, 42, 43, 44, 45, 46, 47] (by decide +kernel) (by decide +kernel)
set_option maxRecDepth 20000 in
theorem gX4_leave_X4_cellOfHost : GoodIn wsX4_leave (wsV RX4 101 RX4 yX4_cellOfHost wsX4_cellOfHost) := goodIn_app (goodIn_of _ (by decide +kernel)) ggX4_leave_X4_cellOfHost
set_option maxRecDepth 20000 in
theorem ggX4_leave_X0_stopDeclaring : GoodIn wsX4_leave wsX0_stopDeclaring := goodIn_r _ [22, 23, 24, 25, 20, 26, 27, 28, 29, 30, 31, 32, 48, 49] (by decide +kernel) (by decide +kernel)
set_option maxRecDepth 20000 in
theorem gX4_leave_X0_stopDeclaring_n107 : GoodIn wsX4_leave (wsX0_stopDeclaring) := ggX4_leave_X0_stopDeclaring
theorem dX4_leave_0 : decode cX4_leave 0 = .ok (.aload_n 0, 1) := by decide +kernel
theorem dX4_leave_1 : decode cX4_leave 1 = .ok (.iload_n 1, 1) := by decide +kernel
theorem dX4_leave_2 : decode cX4_leave 2 = .ok (.iload_n 2, 1) := by decide +kernel
theorem dX4_leave_3 : decode cX4_leave 3 = .ok (.invokevirtual 101, 3) := by decide +kernel
theorem dX4_leave_6 : decode cX4_leave 6 = .ok (.istore_n 3, 1) := by decide +kernel
theorem dX4_leave_7 : decode cX4_leave 7 = .ok (.iload_n 3, 1) := by decide +kernel
theorem dX4_leave_8 : decode cX4_leave 8 = .ok (.ifCond .ge 5, 3) := by decide +kernel
theorem dX4_leave_11 : decode cX4_leave 11 = .ok (.iload_n 3, 1) := by decide +kernel
theorem dX4_leave_12 : decode cX4_leave 12 = .ok (.ireturn, 1) := by decide +kernel
theorem dX4_leave_13 : decode cX4_leave 13 = .ok (.aload_n 0, 1) := by decide +kernel
theorem dX4_leave_14 : decode cX4_leave 14 = .ok (.getfield 26, 3) := by decide +kernel
theorem dX4_leave_17 : decode cX4_leave 17 = .ok (.iload_n 3, 1) := by decide +kernel
theorem dX4_leave_18 : decode cX4_leave 18 = .ok (.invokevirtual 107, 3) := by decide +kernel
theorem dX4_leave_21 : decode cX4_leave 21 = .ok (.ifCond .eq 7, 3) := by decide +kernel
theorem dX4_leave_24 : decode cX4_leave 24 = .ok (.iconst 1, 1) := by decide +kernel
theorem dX4_leave_25 : decode cX4_leave 25 = .ok (.goto 4, 3) := by decide +kernel
theorem dX4_leave_28 : decode cX4_leave 28 = .ok (.iconst 0, 1) := by decide +kernel
theorem dX4_leave_29 : decode cX4_leave 29 = .ok (.ireturn, 1) := by decide +kernel
set_option maxRecDepth 20000 in
theorem ggX4_setSilent_X1_stationOfHost : GoodIn wsX4_setSilent wsX1_stationOfHost := goodIn_r _ [6, 7, 19, 20, 21, 22] (by decide +kernel) (by decide +kernel)
set_option maxRecDepth 20000 in
theorem gX4_setSilent_X1_stationOfHost_n110 : GoodIn wsX4_setSilent (wsX1_stationOfHost) := ggX4_setSilent_X1_stationOfHost
theorem dX4_setSilent_0 : decode cX4_setSilent 0 = .ok (.aload_n 0, 1) := by decide +kernel
theorem dX4_setSilent_1 : decode cX4_setSilent 1 = .ok (.getfield 12, 3) := by decide +kernel
theorem dX4_setSilent_4 : decode cX4_setSilent 4 = .ok (.iload_n 1, 1) := by decide +kernel
theorem dX4_setSilent_5 : decode cX4_setSilent 5 = .ok (.invokevirtual 110, 3) := by decide +kernel
theorem dX4_setSilent_8 : decode cX4_setSilent 8 = .ok (.istore_n 3, 1) := by decide +kernel
theorem dX4_setSilent_9 : decode cX4_setSilent 9 = .ok (.iload_n 3, 1) := by decide +kernel
theorem dX4_setSilent_10 : decode cX4_setSilent 10 = .ok (.ifCond .ge 5, 3) := by decide +kernel
theorem dX4_setSilent_13 : decode cX4_setSilent 13 = .ok (.iload_n 3, 1) := by decide +kernel
theorem dX4_setSilent_14 : decode cX4_setSilent 14 = .ok (.ireturn, 1) := by decide +kernel
theorem dX4_setSilent_15 : decode cX4_setSilent 15 = .ok (.aload_n 0, 1) := by decide +kernel
theorem dX4_setSilent_16 : decode cX4_setSilent 16 = .ok (.getfield 48, 3) := by decide +kernel
theorem dX4_setSilent_19 : decode cX4_setSilent 19 = .ok (.iload_n 3, 1) := by decide +kernel
theorem dX4_setSilent_20 : decode cX4_setSilent 20 = .ok (.baload, 1) := by decide +kernel
theorem dX4_setSilent_21 : decode cX4_setSilent 21 = .ok (.iload_n 2, 1) := by decide +kernel
theorem dX4_setSilent_22 : decode cX4_setSilent 22 = .ok (.if_icmp .eq 7, 3) := by decide +kernel
theorem dX4_setSilent_25 : decode cX4_setSilent 25 = .ok (.iconst 1, 1) := by decide +kernel
theorem dX4_setSilent_26 : decode cX4_setSilent 26 = .ok (.goto 4, 3) := by decide +kernel
theorem dX4_setSilent_29 : decode cX4_setSilent 29 = .ok (.iconst 0, 1) := by decide +kernel
theorem dX4_setSilent_30 : decode cX4_setSilent 30 = .ok (.istore 4, 2) := by decide +kernel
theorem dX4_setSilent_32 : decode cX4_setSilent 32 = .ok (.aload_n 0, 1) := by decide +kernel
theorem dX4_setSilent_33 : decode cX4_setSilent 33 = .ok (.getfield 48, 3) := by decide +kernel
theorem dX4_setSilent_36 : decode cX4_setSilent 36 = .ok (.iload_n 3, 1) := by decide +kernel
theorem dX4_setSilent_37 : decode cX4_setSilent 37 = .ok (.iload_n 2, 1) := by decide +kernel
theorem dX4_setSilent_38 : decode cX4_setSilent 38 = .ok (.bastore, 1) := by decide +kernel
theorem dX4_setSilent_39 : decode cX4_setSilent 39 = .ok (.iload 4, 2) := by decide +kernel
theorem dX4_setSilent_41 : decode cX4_setSilent 41 = .ok (.ifCond .eq 7, 3) := by decide +kernel
theorem dX4_setSilent_44 : decode cX4_setSilent 44 = .ok (.iconst 1, 1) := by decide +kernel
theorem dX4_setSilent_45 : decode cX4_setSilent 45 = .ok (.goto 4, 3) := by decide +kernel
theorem dX4_setSilent_48 : decode cX4_setSilent 48 = .ok (.iconst 0, 1) := by decide +kernel
theorem dX4_setSilent_49 : decode cX4_setSilent 49 = .ok (.ireturn, 1) := by decide +kernel
set_option maxRecDepth 20000 in
theorem ggX4_loseNext_X1_stationOfPort : GoodIn wsX4_loseNext wsX1_stationOfPort := goodIn_r _ [6, 7, 23, 24, 25, 26] (by decide +kernel) (by decide +kernel)
set_option maxRecDepth 20000 in
theorem gX4_loseNext_X1_stationOfPort_n64 : GoodIn wsX4_loseNext (wsX1_stationOfPort) := ggX4_loseNext_X1_stationOfPort
set_option maxRecDepth 20000 in
theorem ggX4_loseNext_X4_isPort : GoodIn wsX4_loseNext wsX4_isPort := goodIn_r _ [11] (by decide +kernel) (by decide +kernel)
set_option maxRecDepth 20000 in
theorem gX4_loseNext_X4_isPort : GoodIn wsX4_loseNext (va_wsS RX4 89 yX4_isPort wsX4_isPort) := goodIn_app (goodIn_of _ (by decide +kernel)) ggX4_loseNext_X4_isPort
theorem dX4_loseNext_0 : decode cX4_loseNext 0 = .ok (.aload_n 0, 1) := by decide +kernel
theorem dX4_loseNext_1 : decode cX4_loseNext 1 = .ok (.getfield 12, 3) := by decide +kernel
theorem dX4_loseNext_4 : decode cX4_loseNext 4 = .ok (.iload_n 1, 1) := by decide +kernel
theorem dX4_loseNext_5 : decode cX4_loseNext 5 = .ok (.iload_n 2, 1) := by decide +kernel
theorem dX4_loseNext_6 : decode cX4_loseNext 6 = .ok (.invokevirtual 64, 3) := by decide +kernel
theorem dX4_loseNext_9 : decode cX4_loseNext 9 = .ok (.istore_n 3, 1) := by decide +kernel
theorem dX4_loseNext_10 : decode cX4_loseNext 10 = .ok (.iload_n 3, 1) := by decide +kernel
theorem dX4_loseNext_11 : decode cX4_loseNext 11 = .ok (.ifCond .ge 5, 3) := by decide +kernel
theorem dX4_loseNext_14 : decode cX4_loseNext 14 = .ok (.iload_n 3, 1) := by decide +kernel
theorem dX4_loseNext_15 : decode cX4_loseNext 15 = .ok (.ireturn, 1) := by decide +kernel
theorem dX4_loseNext_16 : decode cX4_loseNext 16 = .ok (.aload_n 0, 1) := by decide +kernel
theorem dX4_loseNext_17 : decode cX4_loseNext 17 = .ok (.getfield 12, 3) := by decide +kernel
theorem dX4_loseNext_20 : decode cX4_loseNext 20 = .ok (.getfield 86, 3) := by decide +kernel
theorem dX4_loseNext_23 : decode cX4_loseNext 23 = .ok (.iload_n 3, 1) := by decide +kernel
theorem dX4_loseNext_24 : decode cX4_loseNext 24 = .ok (.iaload, 1) := by decide +kernel
theorem dX4_loseNext_25 : decode cX4_loseNext 25 = .ok (.invokestatic 89, 3) := by decide +kernel
theorem dX4_loseNext_28 : decode cX4_loseNext 28 = .ok (.ifCond .ne 6, 3) := by decide +kernel
theorem dX4_loseNext_31 : decode cX4_loseNext 31 = .ok (.bipush (-7), 2) := by decide +kernel
theorem dX4_loseNext_33 : decode cX4_loseNext 33 = .ok (.ireturn, 1) := by decide +kernel
theorem dX4_loseNext_34 : decode cX4_loseNext 34 = .ok (.aload_n 0, 1) := by decide +kernel
theorem dX4_loseNext_35 : decode cX4_loseNext 35 = .ok (.getfield 45, 3) := by decide +kernel
theorem dX4_loseNext_38 : decode cX4_loseNext 38 = .ok (.iload_n 3, 1) := by decide +kernel
theorem dX4_loseNext_39 : decode cX4_loseNext 39 = .ok (.baload, 1) := by decide +kernel
theorem dX4_loseNext_40 : decode cX4_loseNext 40 = .ok (.ifCond .ne 7, 3) := by decide +kernel
theorem dX4_loseNext_43 : decode cX4_loseNext 43 = .ok (.iconst 1, 1) := by decide +kernel
theorem dX4_loseNext_44 : decode cX4_loseNext 44 = .ok (.goto 4, 3) := by decide +kernel
theorem dX4_loseNext_47 : decode cX4_loseNext 47 = .ok (.iconst 0, 1) := by decide +kernel
theorem dX4_loseNext_48 : decode cX4_loseNext 48 = .ok (.istore 4, 2) := by decide +kernel
theorem dX4_loseNext_50 : decode cX4_loseNext 50 = .ok (.aload_n 0, 1) := by decide +kernel
theorem dX4_loseNext_51 : decode cX4_loseNext 51 = .ok (.getfield 45, 3) := by decide +kernel
theorem dX4_loseNext_54 : decode cX4_loseNext 54 = .ok (.iload_n 3, 1) := by decide +kernel
theorem dX4_loseNext_55 : decode cX4_loseNext 55 = .ok (.iconst 1, 1) := by decide +kernel
theorem dX4_loseNext_56 : decode cX4_loseNext 56 = .ok (.bastore, 1) := by decide +kernel
theorem dX4_loseNext_57 : decode cX4_loseNext 57 = .ok (.iload 4, 2) := by decide +kernel
theorem dX4_loseNext_59 : decode cX4_loseNext 59 = .ok (.ifCond .eq 7, 3) := by decide +kernel
theorem dX4_loseNext_62 : decode cX4_loseNext 62 = .ok (.iconst 1, 1) := by decide +kernel
theorem dX4_loseNext_63 : decode cX4_loseNext 63 = .ok (.goto 4, 3) := by decide +kernel
theorem dX4_loseNext_66 : decode cX4_loseNext 66 = .ok (.iconst 0, 1) := by decide +kernel
theorem dX4_loseNext_67 : decode cX4_loseNext 67 = .ok (.ireturn, 1) := by decide +kernel
set_option maxRecDepth 20000 in
theorem ggX4_tick_X4_runTimers : GoodIn wsX4_tick wsX4_runTimers := goodIn_r _ [6, 7, 8, 9, 10, 11, 12, 13, 14, 5, 15, 16, 17, 18, 19, 20, 21, 22, 23, 24, 25, 26, 27, 28, 29, 30, 31, 32, 33, 34, 35, 128, 129, 130, 131, 132, 133, 134, 135, 136, 137, 138, 139, 140, 141, 142, 143, 144] (by decide +kernel) (by decide +kernel)
set_option maxRecDepth 20000 in
theorem gX4_tick_X4_runTimers : GoodIn wsX4_tick (wsV RX4 114 RX4 yX4_runTimers wsX4_runTimers) := goodIn_app (goodIn_of _ (by decide +kernel)) ggX4_tick_X4_runTimers
set_option maxRecDepth 20000 in
theorem ggX4_tick_X4_propagate : GoodIn wsX4_tick wsX4_propagate := goodIn_r _ [39, 8, 9, 10, 11, 12, 13, 14, 5, 15, 40, 41, 42, 43, 44, 45, 46, 47, 48, 49, 50, 51, 52, 53, 54, 55, 20, 21, 22, 23, 56, 57, 58, 59, 60, 61, 62, 63, 64, 65, 66, 67, 68, 69, 70, 71, 72, 128, 129, 130, 131, 132, 133, 134, 135, 136, 137, 138, 139, 140, 141, 142, 143, 144, 145, 146] (by decide +kernel) (by decide +kernel)
set_option maxRecDepth 20000 in
theorem gX4_tick_X4_propagate : GoodIn wsX4_tick (wsV RX4 117 RX4 yX4_propagate wsX4_propagate) := goodIn_app (goodIn_of _ (by decide +kernel)) ggX4_tick_X4_propagate
set_option maxRecDepth 20000 in
theorem ggX4_tick_X4_sendAll : GoodIn wsX4_tick wsX4_sendAll := goodIn_r _ [76, 77, 8, 78, 79, 80, 81, 82, 83, 84, 85, 86, 87, 88, 9, 10, 11, 12, 13, 14, 5, 15, 89, 90, 91, 92, 7, 44, 93, 94, 95, 96, 97, 98, 99, 20, 100, 21, 22, 23, 101, 25, 102, 103, 28, 104, 105, 106, 107, 29, 108, 57, 109, 110, 64, 65, 66, 67, 68, 69, 111, 112, 113, 128, 129, 130, 131, 132, 133, 134, 135, 136, 137, 138, 147, 148, 139, 140, 141, 142, 143, 144, 145, 146] (by decide +kernel) (by decide +kernel)
set_option maxRecDepth 20000 in
theorem gX4_tick_X4_sendAll : GoodIn wsX4_tick (wsV RX4 120 RX4 yX4_sendAll wsX4_sendAll) := goodIn_app (goodIn_of _ (by decide +kernel)) ggX4_tick_X4_sendAll
set_option maxRecDepth 20000 in
theorem ggX4_tick_X4_receiveAll : GoodIn wsX4_tick wsX4_receiveAll := goodIn_r _ [117, 8, 118, 119, 14, 5, 15, 120, 121, 122, 123, 77, 20, 100, 96, 97, 98, 99, 44, 21, 22, 23, 93, 94, 95, 101, 25, 102, 103, 28, 104, 105, 106, 107, 29, 108, 57, 109, 110, 64, 65, 66, 67, 68, 69, 124, 125, 126, 127, 128, 129, 130, 131, 132, 133, 134, 135, 136, 137, 138, 139, 140, 141, 142, 147, 148, 143, 144, 145, 146] (by decide +kernel) (by decide +kernel)
set_option maxRecDepth 20000 in
theorem gX4_tick_X4_receiveAll : GoodIn wsX4_tick (wsV RX4 124 RX4 yX4_receiveAll wsX4_receiveAll) := goodIn_app (goodIn_of _ (by decide +kernel)) ggX4_tick_X4_receiveAll
theorem dX4_tick_0 : decode cX4_tick 0 = .ok (.iload_n 1, 1) := by decide +kernel
theorem dX4_tick_1 : decode cX4_tick 1 = .ok (.iconst 1, 1) := by decide +kernel
theorem dX4_tick_2 : decode cX4_tick 2 = .ok (.if_icmp .lt 9, 3) := by decide +kernel
theorem dX4_tick_5 : decode cX4_tick 5 = .ok (.iload_n 1, 1) := by decide +kernel
theorem dX4_tick_6 : decode cX4_tick 6 = .ok (.bipush 100, 2) := by decide +kernel
theorem dX4_tick_8 : decode cX4_tick 8 = .ok (.if_icmp .le 6, 3) := by decide +kernel
theorem dX4_tick_11 : decode cX4_tick 11 = .ok (.bipush (-4), 2) := by decide +kernel
theorem dX4_tick_13 : decode cX4_tick 13 = .ok (.ireturn, 1) := by decide +kernel
theorem dX4_tick_14 : decode cX4_tick 14 = .ok (.iconst 0, 1) := by decide +kernel
theorem dX4_tick_15 : decode cX4_tick 15 = .ok (.istore_n 2, 1) := by decide +kernel
theorem dX4_tick_16 : decode cX4_tick 16 = .ok (.iconst 0, 1) := by decide +kernel
theorem dX4_tick_17 : decode cX4_tick 17 = .ok (.istore_n 3, 1) := by decide +kernel
theorem dX4_tick_18 : decode cX4_tick 18 = .ok (.iload_n 3, 1) := by decide +kernel
theorem dX4_tick_19 : decode cX4_tick 19 = .ok (.iload_n 1, 1) := by decide +kernel
theorem dX4_tick_20 : decode cX4_tick 20 = .ok (.if_icmp .ge 38, 3) := by decide +kernel
theorem dX4_tick_23 : decode cX4_tick 23 = .ok (.aload_n 0, 1) := by decide +kernel
theorem dX4_tick_24 : decode cX4_tick 24 = .ok (.invokevirtual 114, 3) := by decide +kernel
theorem dX4_tick_27 : decode cX4_tick 27 = .ok (.aload_n 0, 1) := by decide +kernel
theorem dX4_tick_28 : decode cX4_tick 28 = .ok (.invokevirtual 117, 3) := by decide +kernel
theorem dX4_tick_31 : decode cX4_tick 31 = .ok (.iload_n 2, 1) := by decide +kernel
theorem dX4_tick_32 : decode cX4_tick 32 = .ok (.aload_n 0, 1) := by decide +kernel
theorem dX4_tick_33 : decode cX4_tick 33 = .ok (.invokevirtual 120, 3) := by decide +kernel
theorem dX4_tick_36 : decode cX4_tick 36 = .ok (.iadd, 1) := by decide +kernel
theorem dX4_tick_37 : decode cX4_tick 37 = .ok (.istore_n 2, 1) := by decide +kernel
theorem dX4_tick_38 : decode cX4_tick 38 = .ok (.aload_n 0, 1) := by decide +kernel
theorem dX4_tick_39 : decode cX4_tick 39 = .ok (.invokevirtual 124, 3) := by decide +kernel
theorem dX4_tick_42 : decode cX4_tick 42 = .ok (.aload_n 0, 1) := by decide +kernel
theorem dX4_tick_43 : decode cX4_tick 43 = .ok (.dup, 1) := by decide +kernel
theorem dX4_tick_44 : decode cX4_tick 44 = .ok (.getfield 58, 3) := by decide +kernel
theorem dX4_tick_47 : decode cX4_tick 47 = .ok (.iconst 1, 1) := by decide +kernel
theorem dX4_tick_48 : decode cX4_tick 48 = .ok (.iadd, 1) := by decide +kernel
theorem dX4_tick_49 : decode cX4_tick 49 = .ok (.putfield 58, 3) := by decide +kernel
theorem dX4_tick_52 : decode cX4_tick 52 = .ok (.iinc 3 1, 3) := by decide +kernel
theorem dX4_tick_55 : decode cX4_tick 55 = .ok (.goto (-37), 3) := by decide +kernel
theorem dX4_tick_58 : decode cX4_tick 58 = .ok (.iload_n 2, 1) := by decide +kernel
theorem dX4_tick_59 : decode cX4_tick 59 = .ok (.ireturn, 1) := by decide +kernel
theorem dX4_time_0 : decode cX4_time 0 = .ok (.aload_n 0, 1) := by decide +kernel
theorem dX4_time_1 : decode cX4_time 1 = .ok (.getfield 58, 3) := by decide +kernel
theorem dX4_time_4 : decode cX4_time 4 = .ok (.ireturn, 1) := by decide +kernel
set_option maxRecDepth 20000 in
theorem ggX4_registrar_X4_cellOfPort : GoodIn wsX4_registrar wsX4_cellOfPort := goodIn_r _ [6, 7, 8, 9, 10, 11, 12, 13, 14, 5, 15, 16, 17, 18, 19, 20, 21, 22, 23, 24, 25, 26, 27, 28, 29, 32, 33, 34, 35] (by decide +kernel) (by decide +kernel)
set_option maxRecDepth 20000 in
theorem gX4_registrar_X4_cellOfPort : GoodIn wsX4_registrar (wsV RX4 127 RX4 yX4_cellOfPort wsX4_cellOfPort) := goodIn_app (goodIn_of _ (by decide +kernel)) ggX4_registrar_X4_cellOfPort
theorem dX4_registrar_0 : decode cX4_registrar 0 = .ok (.aload_n 0, 1) := by decide +kernel
theorem dX4_registrar_1 : decode cX4_registrar 1 = .ok (.iload_n 1, 1) := by decide +kernel
theorem dX4_registrar_2 : decode cX4_registrar 2 = .ok (.iload_n 2, 1) := by decide +kernel
theorem dX4_registrar_3 : decode cX4_registrar 3 = .ok (.iload_n 3, 1) := by decide +kernel
theorem dX4_registrar_4 : decode cX4_registrar 4 = .ok (.invokevirtual 127, 3) := by decide +kernel
theorem dX4_registrar_7 : decode cX4_registrar 7 = .ok (.istore 4, 2) := by decide +kernel
theorem dX4_registrar_9 : decode cX4_registrar 9 = .ok (.iload 4, 2) := by decide +kernel
theorem dX4_registrar_11 : decode cX4_registrar 11 = .ok (.ifCond .ge 8, 3) := by decide +kernel
theorem dX4_registrar_14 : decode cX4_registrar 14 = .ok (.iload 4, 2) := by decide +kernel
theorem dX4_registrar_16 : decode cX4_registrar 16 = .ok (.goto 13, 3) := by decide +kernel
theorem dX4_registrar_19 : decode cX4_registrar 19 = .ok (.aload_n 0, 1) := by decide +kernel
theorem dX4_registrar_20 : decode cX4_registrar 20 = .ok (.getfield 19, 3) := by decide +kernel
theorem dX4_registrar_23 : decode cX4_registrar 23 = .ok (.getfield 131, 3) := by decide +kernel
theorem dX4_registrar_26 : decode cX4_registrar 26 = .ok (.iload 4, 2) := by decide +kernel
theorem dX4_registrar_28 : decode cX4_registrar 28 = .ok (.iaload, 1) := by decide +kernel
theorem dX4_registrar_29 : decode cX4_registrar 29 = .ok (.ireturn, 1) := by decide +kernel
set_option maxRecDepth 20000 in
theorem ggX4_registrarTimer_X4_cellOfPort : GoodIn wsX4_registrarTimer wsX4_cellOfPort := goodIn_r _ [6, 7, 8, 9, 10, 11, 12, 13, 14, 5, 15, 16, 17, 18, 19, 20, 21, 22, 23, 24, 25, 26, 27, 28, 29, 32, 33, 34, 35] (by decide +kernel) (by decide +kernel)
set_option maxRecDepth 20000 in
theorem gX4_registrarTimer_X4_cellOfPort : GoodIn wsX4_registrarTimer (wsV RX4 127 RX4 yX4_cellOfPort wsX4_cellOfPort) := goodIn_app (goodIn_of _ (by decide +kernel)) ggX4_registrarTimer_X4_cellOfPort
theorem dX4_registrarTimer_0 : decode cX4_registrarTimer 0 = .ok (.aload_n 0, 1) := by decide +kernel
theorem dX4_registrarTimer_1 : decode cX4_registrarTimer 1 = .ok (.iload_n 1, 1) := by decide +kernel
theorem dX4_registrarTimer_2 : decode cX4_registrarTimer 2 = .ok (.iload_n 2, 1) := by decide +kernel
theorem dX4_registrarTimer_3 : decode cX4_registrarTimer 3 = .ok (.iload_n 3, 1) := by decide +kernel
theorem dX4_registrarTimer_4 : decode cX4_registrarTimer 4 = .ok (.invokevirtual 127, 3) := by decide +kernel
theorem dX4_registrarTimer_7 : decode cX4_registrarTimer 7 = .ok (.istore 4, 2) := by decide +kernel
theorem dX4_registrarTimer_9 : decode cX4_registrarTimer 9 = .ok (.iload 4, 2) := by decide +kernel
theorem dX4_registrarTimer_11 : decode cX4_registrarTimer 11 = .ok (.ifCond .ge 8, 3) := by decide +kernel
theorem dX4_registrarTimer_14 : decode cX4_registrarTimer 14 = .ok (.iload 4, 2) := by decide +kernel
theorem dX4_registrarTimer_16 : decode cX4_registrarTimer 16 = .ok (.goto 13, 3) := by decide +kernel
theorem dX4_registrarTimer_19 : decode cX4_registrarTimer 19 = .ok (.aload_n 0, 1) := by decide +kernel
theorem dX4_registrarTimer_20 : decode cX4_registrarTimer 20 = .ok (.getfield 19, 3) := by decide +kernel
theorem dX4_registrarTimer_23 : decode cX4_registrarTimer 23 = .ok (.getfield 134, 3) := by decide +kernel
theorem dX4_registrarTimer_26 : decode cX4_registrarTimer 26 = .ok (.iload 4, 2) := by decide +kernel
theorem dX4_registrarTimer_28 : decode cX4_registrarTimer 28 = .ok (.iaload, 1) := by decide +kernel
theorem dX4_registrarTimer_29 : decode cX4_registrarTimer 29 = .ok (.ireturn, 1) := by decide +kernel
set_option maxRecDepth 20000 in
theorem ggX4_applicant_X4_cellOfPort : GoodIn wsX4_applicant wsX4_cellOfPort := goodIn_r _ [6, 7, 8, 9, 10, 11, 12, 13, 14, 5, 15, 16, 17, 18, 19, 20, 21, 22, 23, 24, 25, 26, 27, 28, 29, 32, 33, 34, 35] (by decide +kernel) (by decide +kernel)
set_option maxRecDepth 20000 in
theorem gX4_applicant_X4_cellOfPort : GoodIn wsX4_applicant (wsV RX4 127 RX4 yX4_cellOfPort wsX4_cellOfPort) := goodIn_app (goodIn_of _ (by decide +kernel)) ggX4_applicant_X4_cellOfPort
theorem dX4_applicant_0 : decode cX4_applicant 0 = .ok (.aload_n 0, 1) := by decide +kernel
theorem dX4_applicant_1 : decode cX4_applicant 1 = .ok (.iload_n 1, 1) := by decide +kernel
theorem dX4_applicant_2 : decode cX4_applicant 2 = .ok (.iload_n 2, 1) := by decide +kernel
theorem dX4_applicant_3 : decode cX4_applicant 3 = .ok (.iload_n 3, 1) := by decide +kernel
theorem dX4_applicant_4 : decode cX4_applicant 4 = .ok (.invokevirtual 127, 3) := by decide +kernel
theorem dX4_applicant_7 : decode cX4_applicant 7 = .ok (.istore 4, 2) := by decide +kernel
theorem dX4_applicant_9 : decode cX4_applicant 9 = .ok (.iload 4, 2) := by decide +kernel
theorem dX4_applicant_11 : decode cX4_applicant 11 = .ok (.ifCond .ge 8, 3) := by decide +kernel
theorem dX4_applicant_14 : decode cX4_applicant 14 = .ok (.iload 4, 2) := by decide +kernel
theorem dX4_applicant_16 : decode cX4_applicant 16 = .ok (.goto 13, 3) := by decide +kernel
theorem dX4_applicant_19 : decode cX4_applicant 19 = .ok (.aload_n 0, 1) := by decide +kernel
theorem dX4_applicant_20 : decode cX4_applicant 20 = .ok (.getfield 26, 3) := by decide +kernel
theorem dX4_applicant_23 : decode cX4_applicant 23 = .ok (.getfield 137, 3) := by decide +kernel
theorem dX4_applicant_26 : decode cX4_applicant 26 = .ok (.iload 4, 2) := by decide +kernel
theorem dX4_applicant_28 : decode cX4_applicant 28 = .ok (.iaload, 1) := by decide +kernel
theorem dX4_applicant_29 : decode cX4_applicant 29 = .ok (.ireturn, 1) := by decide +kernel
set_option maxRecDepth 20000 in
theorem ggX4_hostApplicant_X4_cellOfHost : GoodIn wsX4_hostApplicant wsX4_cellOfHost := goodIn_r _ [6, 7, 8, 9, 10, 11, 12, 13, 14, 5, 15, 16, 17, 18, 19, 20, 21, 22, 23, 24, 25, 26, 27, 28, 29, 32, 33, 34, 35] (by decide +kernel) (by decide +kernel)
set_option maxRecDepth 20000 in
theorem gX4_hostApplicant_X4_cellOfHost : GoodIn wsX4_hostApplicant (wsV RX4 101 RX4 yX4_cellOfHost wsX4_cellOfHost) := goodIn_app (goodIn_of _ (by decide +kernel)) ggX4_hostApplicant_X4_cellOfHost
theorem dX4_hostApplicant_0 : decode cX4_hostApplicant 0 = .ok (.aload_n 0, 1) := by decide +kernel
theorem dX4_hostApplicant_1 : decode cX4_hostApplicant 1 = .ok (.iload_n 1, 1) := by decide +kernel
theorem dX4_hostApplicant_2 : decode cX4_hostApplicant 2 = .ok (.iload_n 2, 1) := by decide +kernel
theorem dX4_hostApplicant_3 : decode cX4_hostApplicant 3 = .ok (.invokevirtual 101, 3) := by decide +kernel
theorem dX4_hostApplicant_6 : decode cX4_hostApplicant 6 = .ok (.istore_n 3, 1) := by decide +kernel
theorem dX4_hostApplicant_7 : decode cX4_hostApplicant 7 = .ok (.iload_n 3, 1) := by decide +kernel
theorem dX4_hostApplicant_8 : decode cX4_hostApplicant 8 = .ok (.ifCond .ge 7, 3) := by decide +kernel
theorem dX4_hostApplicant_11 : decode cX4_hostApplicant 11 = .ok (.iload_n 3, 1) := by decide +kernel
theorem dX4_hostApplicant_12 : decode cX4_hostApplicant 12 = .ok (.goto 12, 3) := by decide +kernel
theorem dX4_hostApplicant_15 : decode cX4_hostApplicant 15 = .ok (.aload_n 0, 1) := by decide +kernel
theorem dX4_hostApplicant_16 : decode cX4_hostApplicant 16 = .ok (.getfield 26, 3) := by decide +kernel
theorem dX4_hostApplicant_19 : decode cX4_hostApplicant 19 = .ok (.getfield 137, 3) := by decide +kernel
theorem dX4_hostApplicant_22 : decode cX4_hostApplicant 22 = .ok (.iload_n 3, 1) := by decide +kernel
theorem dX4_hostApplicant_23 : decode cX4_hostApplicant 23 = .ok (.iaload, 1) := by decide +kernel
theorem dX4_hostApplicant_24 : decode cX4_hostApplicant 24 = .ok (.ireturn, 1) := by decide +kernel
set_option maxRecDepth 20000 in
theorem ggX4_leaveAllTimer_X1_stationOfPort : GoodIn wsX4_leaveAllTimer wsX1_stationOfPort := goodIn_r _ [6, 7, 19, 20, 21, 22] (by decide +kernel) (by decide +kernel)
set_option maxRecDepth 20000 in
theorem gX4_leaveAllTimer_X1_stationOfPort_n64 : GoodIn wsX4_leaveAllTimer (wsX1_stationOfPort) := ggX4_leaveAllTimer_X1_stationOfPort
theorem dX4_leaveAllTimer_0 : decode cX4_leaveAllTimer 0 = .ok (.aload_n 0, 1) := by decide +kernel
theorem dX4_leaveAllTimer_1 : decode cX4_leaveAllTimer 1 = .ok (.getfield 12, 3) := by decide +kernel
theorem dX4_leaveAllTimer_4 : decode cX4_leaveAllTimer 4 = .ok (.iload_n 1, 1) := by decide +kernel
theorem dX4_leaveAllTimer_5 : decode cX4_leaveAllTimer 5 = .ok (.iload_n 2, 1) := by decide +kernel
theorem dX4_leaveAllTimer_6 : decode cX4_leaveAllTimer 6 = .ok (.invokevirtual 64, 3) := by decide +kernel
theorem dX4_leaveAllTimer_9 : decode cX4_leaveAllTimer 9 = .ok (.istore_n 3, 1) := by decide +kernel
theorem dX4_leaveAllTimer_10 : decode cX4_leaveAllTimer 10 = .ok (.iload_n 3, 1) := by decide +kernel
theorem dX4_leaveAllTimer_11 : decode cX4_leaveAllTimer 11 = .ok (.ifCond .ge 7, 3) := by decide +kernel
theorem dX4_leaveAllTimer_14 : decode cX4_leaveAllTimer 14 = .ok (.iload_n 3, 1) := by decide +kernel
theorem dX4_leaveAllTimer_15 : decode cX4_leaveAllTimer 15 = .ok (.goto 9, 3) := by decide +kernel
theorem dX4_leaveAllTimer_18 : decode cX4_leaveAllTimer 18 = .ok (.aload_n 0, 1) := by decide +kernel
theorem dX4_leaveAllTimer_19 : decode cX4_leaveAllTimer 19 = .ok (.getfield 37, 3) := by decide +kernel
theorem dX4_leaveAllTimer_22 : decode cX4_leaveAllTimer 22 = .ok (.iload_n 3, 1) := by decide +kernel
theorem dX4_leaveAllTimer_23 : decode cX4_leaveAllTimer 23 = .ok (.iaload, 1) := by decide +kernel
theorem dX4_leaveAllTimer_24 : decode cX4_leaveAllTimer 24 = .ok (.ireturn, 1) := by decide +kernel
set_option maxRecDepth 20000 in
theorem ggX4_isSettled_X4_hasToSend : GoodIn wsX4_isSettled wsX4_hasToSend := goodIn_r _ [7, 8, 9, 10, 6, 11, 35, 36, 37, 38, 39, 40, 41, 42, 43, 44, 45, 46, 47] (by decide +kernel) (by decide +kernel)
set_option maxRecDepth 20000 in
theorem gX4_isSettled_X4_hasToSend : GoodIn wsX4_isSettled (wsV RX4 138 RX4 yX4_hasToSend wsX4_hasToSend) := goodIn_app (goodIn_of _ (by decide +kernel)) ggX4_isSettled_X4_hasToSend
set_option maxRecDepth 20000 in
theorem ggX4_isSettled_X1_isConnected : GoodIn wsX4_isSettled wsX1_isConnected := goodIn_r _ [15, 16, 17, 6, 18, 48, 49, 50, 51] (by decide +kernel) (by decide +kernel)
set_option maxRecDepth 20000 in
theorem gX4_isSettled_X1_isConnected_n68 : GoodIn wsX4_isSettled (wsX1_isConnected) := ggX4_isSettled_X1_isConnected
set_option maxRecDepth 20000 in
theorem ggX4_isSettled_X4_isPortSettled : GoodIn wsX4_isSettled wsX4_isPortSettled := goodIn_r _ [22, 8, 23, 9, 10, 6, 11, 24, 25, 26, 27, 28, 29, 30, 31, 32, 33, 34, 2, 12, 13, 14, 15, 16, 17, 18, 35, 36, 37, 38, 39, 40, 41, 42, 43, 44, 45, 46, 47, 52, 53, 48, 49, 50, 51] (by decide +kernel) (by decide +kernel)
set_option maxRecDepth 20000 in
theorem gX4_isSettled_X4_isPortSettled : GoodIn wsX4_isSettled (wsV RX4 141 RX4 yX4_isPortSettled wsX4_isPortSettled) := goodIn_app (goodIn_of _ (by decide +kernel)) ggX4_isSettled_X4_isPortSettled
theorem dX4_isSettled_0 : decode cX4_isSettled 0 = .ok (.iconst 0, 1) := by decide +kernel
theorem dX4_isSettled_1 : decode cX4_isSettled 1 = .ok (.istore_n 1, 1) := by decide +kernel
theorem dX4_isSettled_2 : decode cX4_isSettled 2 = .ok (.iload_n 1, 1) := by decide +kernel
theorem dX4_isSettled_3 : decode cX4_isSettled 3 = .ok (.bipush 28, 2) := by decide +kernel
theorem dX4_isSettled_5 : decode cX4_isSettled 5 = .ok (.if_icmp .ge 28, 3) := by decide +kernel
theorem dX4_isSettled_8 : decode cX4_isSettled 8 = .ok (.aload_n 0, 1) := by decide +kernel
theorem dX4_isSettled_9 : decode cX4_isSettled 9 = .ok (.getfield 48, 3) := by decide +kernel
theorem dX4_isSettled_12 : decode cX4_isSettled 12 = .ok (.iload_n 1, 1) := by decide +kernel
theorem dX4_isSettled_13 : decode cX4_isSettled 13 = .ok (.baload, 1) := by decide +kernel
theorem dX4_isSettled_14 : decode cX4_isSettled 14 = .ok (.ifCond .ne 13, 3) := by decide +kernel
theorem dX4_isSettled_17 : decode cX4_isSettled 17 = .ok (.aload_n 0, 1) := by decide +kernel
theorem dX4_isSettled_18 : decode cX4_isSettled 18 = .ok (.iload_n 1, 1) := by decide +kernel
theorem dX4_isSettled_19 : decode cX4_isSettled 19 = .ok (.invokevirtual 138, 3) := by decide +kernel
theorem dX4_isSettled_22 : decode cX4_isSettled 22 = .ok (.ifCond .eq 5, 3) := by decide +kernel
theorem dX4_isSettled_25 : decode cX4_isSettled 25 = .ok (.iconst 0, 1) := by decide +kernel
theorem dX4_isSettled_26 : decode cX4_isSettled 26 = .ok (.ireturn, 1) := by decide +kernel
theorem dX4_isSettled_27 : decode cX4_isSettled 27 = .ok (.iinc 1 1, 3) := by decide +kernel
theorem dX4_isSettled_30 : decode cX4_isSettled 30 = .ok (.goto (-28), 3) := by decide +kernel
theorem dX4_isSettled_33 : decode cX4_isSettled 33 = .ok (.iconst 0, 1) := by decide +kernel
theorem dX4_isSettled_34 : decode cX4_isSettled 34 = .ok (.istore_n 1, 1) := by decide +kernel
theorem dX4_isSettled_35 : decode cX4_isSettled 35 = .ok (.iload_n 1, 1) := by decide +kernel
theorem dX4_isSettled_36 : decode cX4_isSettled 36 = .ok (.bipush 20, 2) := by decide +kernel
theorem dX4_isSettled_38 : decode cX4_isSettled 38 = .ok (.if_icmp .ge 30, 3) := by decide +kernel
theorem dX4_isSettled_41 : decode cX4_isSettled 41 = .ok (.aload_n 0, 1) := by decide +kernel
theorem dX4_isSettled_42 : decode cX4_isSettled 42 = .ok (.getfield 12, 3) := by decide +kernel
theorem dX4_isSettled_45 : decode cX4_isSettled 45 = .ok (.iload_n 1, 1) := by decide +kernel
theorem dX4_isSettled_46 : decode cX4_isSettled 46 = .ok (.invokevirtual 68, 3) := by decide +kernel
theorem dX4_isSettled_49 : decode cX4_isSettled 49 = .ok (.ifCond .eq 13, 3) := by decide +kernel
theorem dX4_isSettled_52 : decode cX4_isSettled 52 = .ok (.aload_n 0, 1) := by decide +kernel
theorem dX4_isSettled_53 : decode cX4_isSettled 53 = .ok (.iload_n 1, 1) := by decide +kernel
theorem dX4_isSettled_54 : decode cX4_isSettled 54 = .ok (.invokevirtual 141, 3) := by decide +kernel
theorem dX4_isSettled_57 : decode cX4_isSettled 57 = .ok (.ifCond .ne 5, 3) := by decide +kernel
theorem dX4_isSettled_60 : decode cX4_isSettled 60 = .ok (.iconst 0, 1) := by decide +kernel
theorem dX4_isSettled_61 : decode cX4_isSettled 61 = .ok (.ireturn, 1) := by decide +kernel
theorem dX4_isSettled_62 : decode cX4_isSettled 62 = .ok (.iinc 1 1, 3) := by decide +kernel
theorem dX4_isSettled_65 : decode cX4_isSettled 65 = .ok (.goto (-30), 3) := by decide +kernel
theorem dX4_isSettled_68 : decode cX4_isSettled 68 = .ok (.iconst 1, 1) := by decide +kernel
theorem dX4_isSettled_69 : decode cX4_isSettled 69 = .ok (.ireturn, 1) := by decide +kernel
set_option maxRecDepth 20000 in
theorem ggX4_receivers_X4_cellOfHost : GoodIn wsX4_receivers wsX4_cellOfHost := goodIn_r _ [5, 6, 7, 8, 9, 10, 11, 12, 13, 4, 14, 15, 16, 17, 49, 50, 51, 52, 53, 54, 55, 56, 57, 58, 59, 60, 61, 62, 63] (by decide +kernel) (by decide +kernel)
set_option maxRecDepth 20000 in
theorem gX4_receivers_X4_cellOfHost : GoodIn wsX4_receivers (wsV RX4 101 RX4 yX4_cellOfHost wsX4_cellOfHost) := goodIn_app (goodIn_of _ (by decide +kernel)) ggX4_receivers_X4_cellOfHost
set_option maxRecDepth 20000 in
theorem ggX4_receivers_X4_hostsReached : GoodIn wsX4_receivers wsX4_hostsReached := goodIn_r _ [21, 6, 22, 23, 4, 24, 25, 26, 27, 28, 29, 30, 31, 32, 33, 34, 8, 35, 36, 37, 38, 39, 15, 16, 17, 40, 41, 42, 43, 44, 45, 46, 47, 48, 49, 50, 51, 52, 53, 54, 55, 56, 57, 58, 59, 60, 61, 62, 63, 64, 65] (by decide +kernel) (by decide +kernel)
set_option maxRecDepth 20000 in
theorem gX4_receivers_X4_hostsReached : GoodIn wsX4_receivers (wsV RX4 144 RX4 yX4_hostsReached wsX4_hostsReached) := goodIn_app (goodIn_of _ (by decide +kernel)) ggX4_receivers_X4_hostsReached
theorem dX4_receivers_0 : decode cX4_receivers 0 = .ok (.aload_n 0, 1) := by decide +kernel
theorem dX4_receivers_1 : decode cX4_receivers 1 = .ok (.iload_n 1, 1) := by decide +kernel
theorem dX4_receivers_2 : decode cX4_receivers 2 = .ok (.iload_n 2, 1) := by decide +kernel
theorem dX4_receivers_3 : decode cX4_receivers 3 = .ok (.invokevirtual 101, 3) := by decide +kernel
theorem dX4_receivers_6 : decode cX4_receivers 6 = .ok (.istore_n 3, 1) := by decide +kernel
theorem dX4_receivers_7 : decode cX4_receivers 7 = .ok (.iload_n 3, 1) := by decide +kernel
theorem dX4_receivers_8 : decode cX4_receivers 8 = .ok (.ifCond .ge 7, 3) := by decide +kernel
theorem dX4_receivers_11 : decode cX4_receivers 11 = .ok (.iload_n 3, 1) := by decide +kernel
theorem dX4_receivers_12 : decode cX4_receivers 12 = .ok (.goto 9, 3) := by decide +kernel
theorem dX4_receivers_15 : decode cX4_receivers 15 = .ok (.aload_n 0, 1) := by decide +kernel
theorem dX4_receivers_16 : decode cX4_receivers 16 = .ok (.iload_n 1, 1) := by decide +kernel
theorem dX4_receivers_17 : decode cX4_receivers 17 = .ok (.iload_n 2, 1) := by decide +kernel
theorem dX4_receivers_18 : decode cX4_receivers 18 = .ok (.invokevirtual 144, 3) := by decide +kernel
theorem dX4_receivers_21 : decode cX4_receivers 21 = .ok (.ireturn, 1) := by decide +kernel
set_option maxRecDepth 20000 in
theorem ggX4_missedCount_X4_cellOfHost : GoodIn wsX4_missedCount wsX4_cellOfHost := goodIn_r _ [7, 1, 8, 9, 10, 11, 12, 13, 14, 6, 15, 16, 17, 18, 66, 67, 68, 69, 70, 71, 72, 73, 74, 75, 76, 77, 78, 79, 80] (by decide +kernel) (by decide +kernel)
set_option maxRecDepth 20000 in
theorem gX4_missedCount_X4_cellOfHost : GoodIn wsX4_missedCount (wsV RX4 101 RX4 yX4_cellOfHost wsX4_cellOfHost) := goodIn_app (goodIn_of _ (by decide +kernel)) ggX4_missedCount_X4_cellOfHost
set_option maxRecDepth 20000 in
theorem ggX4_missedCount_X4_hostsReached : GoodIn wsX4_missedCount wsX4_hostsReached := goodIn_r _ [22, 1, 23, 24, 6, 25, 26, 27, 28, 29, 30, 31, 32, 33, 34, 35, 9, 36, 37, 38, 39, 40, 16, 17, 18, 41, 42, 43, 44, 45, 46, 47, 48, 49, 66, 67, 68, 69, 70, 71, 72, 73, 74, 75, 76, 77, 78, 79, 80, 81, 82] (by decide +kernel) (by decide +kernel)
set_option maxRecDepth 20000 in
theorem gX4_missedCount_X4_hostsReached : GoodIn wsX4_missedCount (wsV RX4 144 RX4 yX4_hostsReached wsX4_hostsReached) := goodIn_app (goodIn_of _ (by decide +kernel)) ggX4_missedCount_X4_hostsReached
set_option maxRecDepth 20000 in
theorem ggX4_missedCount_X4_bridgesBetweenHosts : GoodIn wsX4_missedCount wsX4_bridgesBetweenHosts := goodIn_r _ [53, 1, 23, 24, 6, 25, 44, 45, 46, 54, 9, 55, 56, 48, 49, 57, 58, 59, 60, 38, 66, 67, 68, 69, 70, 71, 72, 73, 74, 75, 76, 77, 78, 79, 80] (by decide +kernel) (by decide +kernel)
set_option maxRecDepth 20000 in
theorem gX4_missedCount_X4_bridgesBetweenHosts : GoodIn wsX4_missedCount (wsV RX4 147 RX4 yX4_bridgesBetweenHosts wsX4_bridgesBetweenHosts) := goodIn_app (goodIn_of _ (by decide +kernel)) ggX4_missedCount_X4_bridgesBetweenHosts
set_option maxRecDepth 20000 in
theorem ggX4_missedCount_X4_cellOf : GoodIn wsX4_missedCount wsX4_cellOf := goodIn_r _ [18] (by decide +kernel) (by decide +kernel)
set_option maxRecDepth 20000 in
theorem gX4_missedCount_X4_cellOf : GoodIn wsX4_missedCount (va_wsS RX4 150 yX4_cellOf wsX4_cellOf) := goodIn_app (goodIn_of _ (by decide +kernel)) ggX4_missedCount_X4_cellOf
set_option maxRecDepth 20000 in
theorem ggX4_missedCount_X0_isDeclaring : GoodIn wsX4_missedCount wsX0_isDeclaring := goodIn_r _ [64, 65, 83, 84] (by decide +kernel) (by decide +kernel)
set_option maxRecDepth 20000 in
theorem gX4_missedCount_X0_isDeclaring_n153 : GoodIn wsX4_missedCount (wsX0_isDeclaring) := ggX4_missedCount_X0_isDeclaring
set_option maxRecDepth 20000 in
theorem ggX4_missedCount_X4_contains : GoodIn wsX4_missedCount wsX4_contains := goodIn_r _ [49] (by decide +kernel) (by decide +kernel)
set_option maxRecDepth 20000 in
theorem gX4_missedCount_X4_contains : GoodIn wsX4_missedCount (va_wsS RX4 156 yX4_contains wsX4_contains) := goodIn_app (goodIn_of _ (by decide +kernel)) ggX4_missedCount_X4_contains
theorem dX4_missedCount_0 : decode cX4_missedCount 0 = .ok (.aload_n 0, 1) := by decide +kernel
theorem dX4_missedCount_1 : decode cX4_missedCount 1 = .ok (.iload_n 1, 1) := by decide +kernel
theorem dX4_missedCount_2 : decode cX4_missedCount 2 = .ok (.iload_n 2, 1) := by decide +kernel
theorem dX4_missedCount_3 : decode cX4_missedCount 3 = .ok (.invokevirtual 101, 3) := by decide +kernel
theorem dX4_missedCount_6 : decode cX4_missedCount 6 = .ok (.istore_n 3, 1) := by decide +kernel
theorem dX4_missedCount_7 : decode cX4_missedCount 7 = .ok (.iload_n 3, 1) := by decide +kernel
theorem dX4_missedCount_8 : decode cX4_missedCount 8 = .ok (.ifCond .ge 5, 3) := by decide +kernel
theorem dX4_missedCount_11 : decode cX4_missedCount 11 = .ok (.iload_n 3, 1) := by decide +kernel
theorem dX4_missedCount_12 : decode cX4_missedCount 12 = .ok (.ireturn, 1) := by decide +kernel
theorem dX4_missedCount_13 : decode cX4_missedCount 13 = .ok (.aload_n 0, 1) := by decide +kernel
theorem dX4_missedCount_14 : decode cX4_missedCount 14 = .ok (.iload_n 1, 1) := by decide +kernel
theorem dX4_missedCount_15 : decode cX4_missedCount 15 = .ok (.iload_n 2, 1) := by decide +kernel
theorem dX4_missedCount_16 : decode cX4_missedCount 16 = .ok (.invokevirtual 144, 3) := by decide +kernel
theorem dX4_missedCount_19 : decode cX4_missedCount 19 = .ok (.istore 4, 2) := by decide +kernel
theorem dX4_missedCount_21 : decode cX4_missedCount 21 = .ok (.iconst 0, 1) := by decide +kernel
theorem dX4_missedCount_22 : decode cX4_missedCount 22 = .ok (.istore 5, 2) := by decide +kernel
theorem dX4_missedCount_24 : decode cX4_missedCount 24 = .ok (.iconst 0, 1) := by decide +kernel
theorem dX4_missedCount_25 : decode cX4_missedCount 25 = .ok (.istore 6, 2) := by decide +kernel
theorem dX4_missedCount_27 : decode cX4_missedCount 27 = .ok (.iload 6, 2) := by decide +kernel
theorem dX4_missedCount_29 : decode cX4_missedCount 29 = .ok (.aload_n 0, 1) := by decide +kernel
theorem dX4_missedCount_30 : decode cX4_missedCount 30 = .ok (.getfield 12, 3) := by decide +kernel
theorem dX4_missedCount_33 : decode cX4_missedCount 33 = .ok (.getfield 98, 3) := by decide +kernel
theorem dX4_missedCount_36 : decode cX4_missedCount 36 = .ok (.if_icmp .ge 69, 3) := by decide +kernel
theorem dX4_missedCount_39 : decode cX4_missedCount 39 = .ok (.iload 6, 2) := by decide +kernel
theorem dX4_missedCount_41 : decode cX4_missedCount 41 = .ok (.iload_n 1, 1) := by decide +kernel
theorem dX4_missedCount_42 : decode cX4_missedCount 42 = .ok (.if_icmp .eq 36, 3) := by decide +kernel
theorem dX4_missedCount_45 : decode cX4_missedCount 45 = .ok (.aload_n 0, 1) := by decide +kernel
theorem dX4_missedCount_46 : decode cX4_missedCount 46 = .ok (.iload_n 1, 1) := by decide +kernel
theorem dX4_missedCount_47 : decode cX4_missedCount 47 = .ok (.iload 6, 2) := by decide +kernel
theorem dX4_missedCount_49 : decode cX4_missedCount 49 = .ok (.invokevirtual 147, 3) := by decide +kernel
theorem dX4_missedCount_52 : decode cX4_missedCount 52 = .ok (.ifCond .le 26, 3) := by decide +kernel
theorem dX4_missedCount_55 : decode cX4_missedCount 55 = .ok (.aload_n 0, 1) := by decide +kernel
theorem dX4_missedCount_56 : decode cX4_missedCount 56 = .ok (.getfield 26, 3) := by decide +kernel
theorem dX4_missedCount_59 : decode cX4_missedCount 59 = .ok (.bipush 20, 2) := by decide +kernel
theorem dX4_missedCount_61 : decode cX4_missedCount 61 = .ok (.iload 6, 2) := by decide +kernel
theorem dX4_missedCount_63 : decode cX4_missedCount 63 = .ok (.iadd, 1) := by decide +kernel
theorem dX4_missedCount_64 : decode cX4_missedCount 64 = .ok (.iload_n 2, 1) := by decide +kernel
theorem dX4_missedCount_65 : decode cX4_missedCount 65 = .ok (.invokestatic 150, 3) := by decide +kernel
theorem dX4_missedCount_68 : decode cX4_missedCount 68 = .ok (.invokevirtual 153, 3) := by decide +kernel
theorem dX4_missedCount_71 : decode cX4_missedCount 71 = .ok (.ifCond .eq 7, 3) := by decide +kernel
theorem dX4_missedCount_74 : decode cX4_missedCount 74 = .ok (.iconst 1, 1) := by decide +kernel
theorem dX4_missedCount_75 : decode cX4_missedCount 75 = .ok (.goto 4, 3) := by decide +kernel
theorem dX4_missedCount_78 : decode cX4_missedCount 78 = .ok (.iconst 0, 1) := by decide +kernel
theorem dX4_missedCount_79 : decode cX4_missedCount 79 = .ok (.istore 7, 2) := by decide +kernel
theorem dX4_missedCount_81 : decode cX4_missedCount 81 = .ok (.iload 7, 2) := by decide +kernel
theorem dX4_missedCount_83 : decode cX4_missedCount 83 = .ok (.ifCond .eq 16, 3) := by decide +kernel
theorem dX4_missedCount_86 : decode cX4_missedCount 86 = .ok (.iload 4, 2) := by decide +kernel
theorem dX4_missedCount_88 : decode cX4_missedCount 88 = .ok (.iload 6, 2) := by decide +kernel
theorem dX4_missedCount_90 : decode cX4_missedCount 90 = .ok (.invokestatic 156, 3) := by decide +kernel
theorem dX4_missedCount_93 : decode cX4_missedCount 93 = .ok (.ifCond .ne 6, 3) := by decide +kernel
theorem dX4_missedCount_96 : decode cX4_missedCount 96 = .ok (.iinc 5 1, 3) := by decide +kernel
theorem dX4_missedCount_99 : decode cX4_missedCount 99 = .ok (.iinc 6 1, 3) := by decide +kernel
theorem dX4_missedCount_102 : decode cX4_missedCount 102 = .ok (.goto (-75), 3) := by decide +kernel
theorem dX4_missedCount_105 : decode cX4_missedCount 105 = .ok (.iload 5, 2) := by decide +kernel
theorem dX4_missedCount_107 : decode cX4_missedCount 107 = .ok (.ireturn, 1) := by decide +kernel
set_option maxRecDepth 20000 in
theorem ggX4_needlessCount_X4_cellOfHost : GoodIn wsX4_needlessCount wsX4_cellOfHost := goodIn_r _ [7, 1, 8, 9, 10, 11, 12, 13, 14, 6, 15, 16, 17, 18, 55, 56, 57, 58, 59, 60, 61, 62, 63, 64, 65, 66, 67, 68, 69] (by decide +kernel) (by decide +kernel)
set_option maxRecDepth 20000 in
theorem gX4_needlessCount_X4_cellOfHost : GoodIn wsX4_needlessCount (wsV RX4 101 RX4 yX4_cellOfHost wsX4_cellOfHost) := goodIn_app (goodIn_of _ (by decide +kernel)) ggX4_needlessCount_X4_cellOfHost
set_option maxRecDepth 20000 in
theorem ggX4_needlessCount_X4_hostsReached : GoodIn wsX4_needlessCount wsX4_hostsReached := goodIn_r _ [22, 1, 23, 24, 6, 25, 26, 27, 28, 29, 30, 31, 32, 33, 34, 35, 9, 36, 37, 38, 39, 40, 16, 17, 18, 41, 42, 43, 44, 45, 46, 47, 48, 49, 55, 56, 57, 58, 59, 60, 61, 62, 63, 64, 65, 66, 67, 68, 69, 70, 71] (by decide +kernel) (by decide +kernel)
set_option maxRecDepth 20000 in
theorem gX4_needlessCount_X4_hostsReached : GoodIn wsX4_needlessCount (wsV RX4 144 RX4 yX4_hostsReached wsX4_hostsReached) := goodIn_app (goodIn_of _ (by decide +kernel)) ggX4_needlessCount_X4_hostsReached
set_option maxRecDepth 20000 in
theorem ggX4_needlessCount_X4_cellOf : GoodIn wsX4_needlessCount wsX4_cellOf := goodIn_r _ [18] (by decide +kernel) (by decide +kernel)
set_option maxRecDepth 20000 in
theorem gX4_needlessCount_X4_cellOf : GoodIn wsX4_needlessCount (va_wsS RX4 150 yX4_cellOf wsX4_cellOf) := goodIn_app (goodIn_of _ (by decide +kernel)) ggX4_needlessCount_X4_cellOf
set_option maxRecDepth 20000 in
theorem ggX4_needlessCount_X0_isDeclaring : GoodIn wsX4_needlessCount wsX0_isDeclaring := goodIn_r _ [53, 54, 72, 73] (by decide +kernel) (by decide +kernel)
set_option maxRecDepth 20000 in
theorem gX4_needlessCount_X0_isDeclaring_n153 : GoodIn wsX4_needlessCount (wsX0_isDeclaring) := ggX4_needlessCount_X0_isDeclaring
set_option maxRecDepth 20000 in
theorem ggX4_needlessCount_X4_contains : GoodIn wsX4_needlessCount wsX4_contains := goodIn_r _ [49] (by decide +kernel) (by decide +kernel)
set_option maxRecDepth 20000 in
theorem gX4_needlessCount_X4_contains : GoodIn wsX4_needlessCount (va_wsS RX4 156 yX4_contains wsX4_contains) := goodIn_app (goodIn_of _ (by decide +kernel)) ggX4_needlessCount_X4_contains
theorem dX4_needlessCount_0 : decode cX4_needlessCount 0 = .ok (.aload_n 0, 1) := by decide +kernel
theorem dX4_needlessCount_1 : decode cX4_needlessCount 1 = .ok (.iload_n 1, 1) := by decide +kernel
theorem dX4_needlessCount_2 : decode cX4_needlessCount 2 = .ok (.iload_n 2, 1) := by decide +kernel
theorem dX4_needlessCount_3 : decode cX4_needlessCount 3 = .ok (.invokevirtual 101, 3) := by decide +kernel
theorem dX4_needlessCount_6 : decode cX4_needlessCount 6 = .ok (.istore_n 3, 1) := by decide +kernel
theorem dX4_needlessCount_7 : decode cX4_needlessCount 7 = .ok (.iload_n 3, 1) := by decide +kernel
theorem dX4_needlessCount_8 : decode cX4_needlessCount 8 = .ok (.ifCond .ge 5, 3) := by decide +kernel
theorem dX4_needlessCount_11 : decode cX4_needlessCount 11 = .ok (.iload_n 3, 1) := by decide +kernel
theorem dX4_needlessCount_12 : decode cX4_needlessCount 12 = .ok (.ireturn, 1) := by decide +kernel
theorem dX4_needlessCount_13 : decode cX4_needlessCount 13 = .ok (.aload_n 0, 1) := by decide +kernel
theorem dX4_needlessCount_14 : decode cX4_needlessCount 14 = .ok (.iload_n 1, 1) := by decide +kernel
theorem dX4_needlessCount_15 : decode cX4_needlessCount 15 = .ok (.iload_n 2, 1) := by decide +kernel
theorem dX4_needlessCount_16 : decode cX4_needlessCount 16 = .ok (.invokevirtual 144, 3) := by decide +kernel
theorem dX4_needlessCount_19 : decode cX4_needlessCount 19 = .ok (.istore 4, 2) := by decide +kernel
theorem dX4_needlessCount_21 : decode cX4_needlessCount 21 = .ok (.iconst 0, 1) := by decide +kernel
theorem dX4_needlessCount_22 : decode cX4_needlessCount 22 = .ok (.istore 5, 2) := by decide +kernel
theorem dX4_needlessCount_24 : decode cX4_needlessCount 24 = .ok (.iconst 0, 1) := by decide +kernel
theorem dX4_needlessCount_25 : decode cX4_needlessCount 25 = .ok (.istore 6, 2) := by decide +kernel
theorem dX4_needlessCount_27 : decode cX4_needlessCount 27 = .ok (.iload 6, 2) := by decide +kernel
theorem dX4_needlessCount_29 : decode cX4_needlessCount 29 = .ok (.aload_n 0, 1) := by decide +kernel
theorem dX4_needlessCount_30 : decode cX4_needlessCount 30 = .ok (.getfield 12, 3) := by decide +kernel
theorem dX4_needlessCount_33 : decode cX4_needlessCount 33 = .ok (.getfield 98, 3) := by decide +kernel
theorem dX4_needlessCount_36 : decode cX4_needlessCount 36 = .ok (.if_icmp .ge 45, 3) := by decide +kernel
theorem dX4_needlessCount_39 : decode cX4_needlessCount 39 = .ok (.aload_n 0, 1) := by decide +kernel
theorem dX4_needlessCount_40 : decode cX4_needlessCount 40 = .ok (.getfield 26, 3) := by decide +kernel
theorem dX4_needlessCount_43 : decode cX4_needlessCount 43 = .ok (.bipush 20, 2) := by decide +kernel
theorem dX4_needlessCount_45 : decode cX4_needlessCount 45 = .ok (.iload 6, 2) := by decide +kernel
theorem dX4_needlessCount_47 : decode cX4_needlessCount 47 = .ok (.iadd, 1) := by decide +kernel
theorem dX4_needlessCount_48 : decode cX4_needlessCount 48 = .ok (.iload_n 2, 1) := by decide +kernel
theorem dX4_needlessCount_49 : decode cX4_needlessCount 49 = .ok (.invokestatic 150, 3) := by decide +kernel
theorem dX4_needlessCount_52 : decode cX4_needlessCount 52 = .ok (.invokevirtual 153, 3) := by decide +kernel
theorem dX4_needlessCount_55 : decode cX4_needlessCount 55 = .ok (.istore 7, 2) := by decide +kernel
theorem dX4_needlessCount_57 : decode cX4_needlessCount 57 = .ok (.iload 4, 2) := by decide +kernel
theorem dX4_needlessCount_59 : decode cX4_needlessCount 59 = .ok (.iload 6, 2) := by decide +kernel
theorem dX4_needlessCount_61 : decode cX4_needlessCount 61 = .ok (.invokestatic 156, 3) := by decide +kernel
theorem dX4_needlessCount_64 : decode cX4_needlessCount 64 = .ok (.ifCond .eq 11, 3) := by decide +kernel
theorem dX4_needlessCount_67 : decode cX4_needlessCount 67 = .ok (.iload 7, 2) := by decide +kernel
theorem dX4_needlessCount_69 : decode cX4_needlessCount 69 = .ok (.ifCond .ne 6, 3) := by decide +kernel
theorem dX4_needlessCount_72 : decode cX4_needlessCount 72 = .ok (.iinc 5 1, 3) := by decide +kernel
theorem dX4_needlessCount_75 : decode cX4_needlessCount 75 = .ok (.iinc 6 1, 3) := by decide +kernel
theorem dX4_needlessCount_78 : decode cX4_needlessCount 78 = .ok (.goto (-51), 3) := by decide +kernel
theorem dX4_needlessCount_81 : decode cX4_needlessCount 81 = .ok (.iload 5, 2) := by decide +kernel
theorem dX4_needlessCount_83 : decode cX4_needlessCount 83 = .ok (.ireturn, 1) := by decide +kernel
set_option maxRecDepth 20000 in
theorem ggX4_distance_X1_stationOfHost : GoodIn wsX4_distance wsX1_stationOfHost := goodIn_r _ [5, 6, 39, 40, 41, 42] (by decide +kernel) (by decide +kernel)
set_option maxRecDepth 20000 in
theorem gX4_distance_X1_stationOfHost_n110 : GoodIn wsX4_distance (wsX1_stationOfHost) := ggX4_distance_X1_stationOfHost
set_option maxRecDepth 20000 in
theorem ggX4_distance_X4_bridgesBetweenHosts : GoodIn wsX4_distance wsX4_bridgesBetweenHosts := goodIn_r _ [11, 1, 12, 13, 10, 14, 15, 16, 17, 18, 3, 19, 20, 21, 22, 23, 24, 25, 26, 27, 28, 29, 30, 31, 32, 33, 34, 35, 36, 37, 38, 39, 40, 41, 42] (by decide +kernel) (by decide +kernel)
set_option maxRecDepth 20000 in
theorem gX4_distance_X4_bridgesBetweenHosts : GoodIn wsX4_distance (wsV RX4 147 RX4 yX4_bridgesBetweenHosts wsX4_bridgesBetweenHosts) := goodIn_app (goodIn_of _ (by decide +kernel)) ggX4_distance_X4_bridgesBetweenHosts
theorem dX4_distance_0 : decode cX4_distance 0 = .ok (.aload_n 0, 1) := by decide +kernel
theorem dX4_distance_1 : decode cX4_distance 1 = .ok (.getfield 12, 3) := by decide +kernel
theorem dX4_distance_4 : decode cX4_distance 4 = .ok (.iload_n 1, 1) := by decide +kernel
theorem dX4_distance_5 : decode cX4_distance 5 = .ok (.invokevirtual 110, 3) := by decide +kernel
theorem dX4_distance_8 : decode cX4_distance 8 = .ok (.ifCond .lt 14, 3) := by decide +kernel
theorem dX4_distance_11 : decode cX4_distance 11 = .ok (.aload_n 0, 1) := by decide +kernel
theorem dX4_distance_12 : decode cX4_distance 12 = .ok (.getfield 12, 3) := by decide +kernel
theorem dX4_distance_15 : decode cX4_distance 15 = .ok (.iload_n 2, 1) := by decide +kernel
theorem dX4_distance_16 : decode cX4_distance 16 = .ok (.invokevirtual 110, 3) := by decide +kernel
theorem dX4_distance_19 : decode cX4_distance 19 = .ok (.ifCond .ge 6, 3) := by decide +kernel
theorem dX4_distance_22 : decode cX4_distance 22 = .ok (.bipush (-2), 2) := by decide +kernel
theorem dX4_distance_24 : decode cX4_distance 24 = .ok (.ireturn, 1) := by decide +kernel
theorem dX4_distance_25 : decode cX4_distance 25 = .ok (.aload_n 0, 1) := by decide +kernel
theorem dX4_distance_26 : decode cX4_distance 26 = .ok (.iload_n 1, 1) := by decide +kernel
theorem dX4_distance_27 : decode cX4_distance 27 = .ok (.iload_n 2, 1) := by decide +kernel
theorem dX4_distance_28 : decode cX4_distance 28 = .ok (.invokevirtual 147, 3) := by decide +kernel
theorem dX4_distance_31 : decode cX4_distance 31 = .ok (.ireturn, 1) := by decide +kernel
theorem dX4_isStation_0 : decode cX4_isStation 0 = .ok (.iload_n 0, 1) := by decide +kernel
theorem dX4_isStation_1 : decode cX4_isStation 1 = .ok (.ifCond .lt 13, 3) := by decide +kernel
theorem dX4_isStation_4 : decode cX4_isStation 4 = .ok (.iload_n 0, 1) := by decide +kernel
theorem dX4_isStation_5 : decode cX4_isStation 5 = .ok (.bipush 28, 2) := by decide +kernel
theorem dX4_isStation_7 : decode cX4_isStation 7 = .ok (.if_icmp .ge 7, 3) := by decide +kernel
theorem dX4_isStation_10 : decode cX4_isStation 10 = .ok (.iconst 1, 1) := by decide +kernel
theorem dX4_isStation_11 : decode cX4_isStation 11 = .ok (.goto 4, 3) := by decide +kernel
theorem dX4_isStation_14 : decode cX4_isStation 14 = .ok (.iconst 0, 1) := by decide +kernel
theorem dX4_isStation_15 : decode cX4_isStation 15 = .ok (.ireturn, 1) := by decide +kernel
theorem dX4_isPort_0 : decode cX4_isPort 0 = .ok (.iload_n 0, 1) := by decide +kernel
theorem dX4_isPort_1 : decode cX4_isPort 1 = .ok (.ifCond .lt 13, 3) := by decide +kernel
theorem dX4_isPort_4 : decode cX4_isPort 4 = .ok (.iload_n 0, 1) := by decide +kernel
theorem dX4_isPort_5 : decode cX4_isPort 5 = .ok (.bipush 20, 2) := by decide +kernel
theorem dX4_isPort_7 : decode cX4_isPort 7 = .ok (.if_icmp .ge 7, 3) := by decide +kernel
theorem dX4_isPort_10 : decode cX4_isPort 10 = .ok (.iconst 1, 1) := by decide +kernel
theorem dX4_isPort_11 : decode cX4_isPort 11 = .ok (.goto 4, 3) := by decide +kernel
theorem dX4_isPort_14 : decode cX4_isPort 14 = .ok (.iconst 0, 1) := by decide +kernel
theorem dX4_isPort_15 : decode cX4_isPort 15 = .ok (.ireturn, 1) := by decide +kernel
theorem dX4_isGroup_0 : decode cX4_isGroup 0 = .ok (.iload_n 0, 1) := by decide +kernel
theorem dX4_isGroup_1 : decode cX4_isGroup 1 = .ok (.ifCond .lt 12, 3) := by decide +kernel
theorem dX4_isGroup_4 : decode cX4_isGroup 4 = .ok (.iload_n 0, 1) := by decide +kernel
theorem dX4_isGroup_5 : decode cX4_isGroup 5 = .ok (.iconst 4, 1) := by decide +kernel
theorem dX4_isGroup_6 : decode cX4_isGroup 6 = .ok (.if_icmp .ge 7, 3) := by decide +kernel
theorem dX4_isGroup_9 : decode cX4_isGroup 9 = .ok (.iconst 1, 1) := by decide +kernel
theorem dX4_isGroup_10 : decode cX4_isGroup 10 = .ok (.goto 4, 3) := by decide +kernel
theorem dX4_isGroup_13 : decode cX4_isGroup 13 = .ok (.iconst 0, 1) := by decide +kernel
theorem dX4_isGroup_14 : decode cX4_isGroup 14 = .ok (.ireturn, 1) := by decide +kernel
theorem dX4_bridgeOf_0 : decode cX4_bridgeOf 0 = .ok (.iload_n 0, 1) := by decide +kernel
theorem dX4_bridgeOf_1 : decode cX4_bridgeOf 1 = .ok (.iconst 4, 1) := by decide +kernel
theorem dX4_bridgeOf_2 : decode cX4_bridgeOf 2 = .ok (.idiv, 1) := by decide +kernel
theorem dX4_bridgeOf_3 : decode cX4_bridgeOf 3 = .ok (.ireturn, 1) := by decide +kernel
theorem dX4_cellOf_0 : decode cX4_cellOf 0 = .ok (.iload_n 0, 1) := by decide +kernel
theorem dX4_cellOf_1 : decode cX4_cellOf 1 = .ok (.iconst 4, 1) := by decide +kernel
theorem dX4_cellOf_2 : decode cX4_cellOf 2 = .ok (.imul, 1) := by decide +kernel
theorem dX4_cellOf_3 : decode cX4_cellOf 3 = .ok (.iload_n 1, 1) := by decide +kernel
theorem dX4_cellOf_4 : decode cX4_cellOf 4 = .ok (.iadd, 1) := by decide +kernel
theorem dX4_cellOf_5 : decode cX4_cellOf 5 = .ok (.ireturn, 1) := by decide +kernel
theorem dX4_contains_0 : decode cX4_contains 0 = .ok (.iload_n 0, 1) := by decide +kernel
theorem dX4_contains_1 : decode cX4_contains 1 = .ok (.iconst 1, 1) := by decide +kernel
theorem dX4_contains_2 : decode cX4_contains 2 = .ok (.iload_n 1, 1) := by decide +kernel
theorem dX4_contains_3 : decode cX4_contains 3 = .ok (.ishl, 1) := by decide +kernel
theorem dX4_contains_4 : decode cX4_contains 4 = .ok (.iand, 1) := by decide +kernel
theorem dX4_contains_5 : decode cX4_contains 5 = .ok (.ifCond .eq 7, 3) := by decide +kernel
theorem dX4_contains_8 : decode cX4_contains 8 = .ok (.iconst 1, 1) := by decide +kernel
theorem dX4_contains_9 : decode cX4_contains 9 = .ok (.goto 4, 3) := by decide +kernel
theorem dX4_contains_12 : decode cX4_contains 12 = .ok (.iconst 0, 1) := by decide +kernel
theorem dX4_contains_13 : decode cX4_contains 13 = .ok (.ireturn, 1) := by decide +kernel
set_option maxRecDepth 20000 in
theorem ggX4_cellOfPort_X1_stationOfPort : GoodIn wsX4_cellOfPort wsX1_stationOfPort := goodIn_r _ [5, 6, 25, 26, 27, 28] (by decide +kernel) (by decide +kernel)
set_option maxRecDepth 20000 in
theorem gX4_cellOfPort_X1_stationOfPort_n64 : GoodIn wsX4_cellOfPort (wsX1_stationOfPort) := ggX4_cellOfPort_X1_stationOfPort
set_option maxRecDepth 20000 in
theorem ggX4_cellOfPort_X4_isGroup : GoodIn wsX4_cellOfPort wsX4_isGroup := goodIn_r _ [10] (by decide +kernel) (by decide +kernel)
set_option maxRecDepth 20000 in
theorem gX4_cellOfPort_X4_isGroup : GoodIn wsX4_cellOfPort (va_wsS RX4 160 yX4_isGroup wsX4_isGroup) := goodIn_app (goodIn_of _ (by decide +kernel)) ggX4_cellOfPort_X4_isGroup
set_option maxRecDepth 20000 in
theorem ggX4_cellOfPort_X4_cellOf : GoodIn wsX4_cellOfPort wsX4_cellOf := goodIn_r _ [13] (by decide +kernel) (by decide +kernel)
set_option maxRecDepth 20000 in
theorem gX4_cellOfPort_X4_cellOf : GoodIn wsX4_cellOfPort (va_wsS RX4 150 yX4_cellOf wsX4_cellOf) := goodIn_app (goodIn_of _ (by decide +kernel)) ggX4_cellOfPort_X4_cellOf
theorem dX4_cellOfPort_0 : decode cX4_cellOfPort 0 = .ok (.aload_n 0, 1) := by decide +kernel
theorem dX4_cellOfPort_1 : decode cX4_cellOfPort 1 = .ok (.getfield 12, 3) := by decide +kernel
theorem dX4_cellOfPort_4 : decode cX4_cellOfPort 4 = .ok (.iload_n 1, 1) := by decide +kernel
theorem dX4_cellOfPort_5 : decode cX4_cellOfPort 5 = .ok (.iload_n 2, 1) := by decide +kernel
theorem dX4_cellOfPort_6 : decode cX4_cellOfPort 6 = .ok (.invokevirtual 64, 3) := by decide +kernel
theorem dX4_cellOfPort_9 : decode cX4_cellOfPort 9 = .ok (.istore 4, 2) := by decide +kernel
theorem dX4_cellOfPort_11 : decode cX4_cellOfPort 11 = .ok (.iload 4, 2) := by decide +kernel
theorem dX4_cellOfPort_13 : decode cX4_cellOfPort 13 = .ok (.ifCond .ge 6, 3) := by decide +kernel
theorem dX4_cellOfPort_16 : decode cX4_cellOfPort 16 = .ok (.iload 4, 2) := by decide +kernel
theorem dX4_cellOfPort_18 : decode cX4_cellOfPort 18 = .ok (.ireturn, 1) := by decide +kernel
theorem dX4_cellOfPort_19 : decode cX4_cellOfPort 19 = .ok (.iload_n 3, 1) := by decide +kernel
theorem dX4_cellOfPort_20 : decode cX4_cellOfPort 20 = .ok (.invokestatic 160, 3) := by decide +kernel
theorem dX4_cellOfPort_23 : decode cX4_cellOfPort 23 = .ok (.ifCond .eq 12, 3) := by decide +kernel
theorem dX4_cellOfPort_26 : decode cX4_cellOfPort 26 = .ok (.iload 4, 2) := by decide +kernel
theorem dX4_cellOfPort_28 : decode cX4_cellOfPort 28 = .ok (.iload_n 3, 1) := by decide +kernel
theorem dX4_cellOfPort_29 : decode cX4_cellOfPort 29 = .ok (.invokestatic 150, 3) := by decide +kernel
theorem dX4_cellOfPort_32 : decode cX4_cellOfPort 32 = .ok (.goto 5, 3) := by decide +kernel
theorem dX4_cellOfPort_35 : decode cX4_cellOfPort 35 = .ok (.bipush (-3), 2) := by decide +kernel
theorem dX4_cellOfPort_37 : decode cX4_cellOfPort 37 = .ok (.ireturn, 1) := by decide +kernel
set_option maxRecDepth 20000 in
theorem ggX4_cellOfHost_X1_stationOfHost : GoodIn wsX4_cellOfHost wsX1_stationOfHost := goodIn_r _ [5, 6, 25, 26, 27, 28] (by decide +kernel) (by decide +kernel)
set_option maxRecDepth 20000 in
theorem gX4_cellOfHost_X1_stationOfHost_n110 : GoodIn wsX4_cellOfHost (wsX1_stationOfHost) := ggX4_cellOfHost_X1_stationOfHost
set_option maxRecDepth 20000 in
theorem ggX4_cellOfHost_X4_isGroup : GoodIn wsX4_cellOfHost wsX4_isGroup := goodIn_r _ [10] (by decide +kernel) (by decide +kernel)
set_option maxRecDepth 20000 in
theorem gX4_cellOfHost_X4_isGroup : GoodIn wsX4_cellOfHost (va_wsS RX4 160 yX4_isGroup wsX4_isGroup) := goodIn_app (goodIn_of _ (by decide +kernel)) ggX4_cellOfHost_X4_isGroup
set_option maxRecDepth 20000 in
theorem ggX4_cellOfHost_X4_cellOf : GoodIn wsX4_cellOfHost wsX4_cellOf := goodIn_r _ [13] (by decide +kernel) (by decide +kernel)
set_option maxRecDepth 20000 in
theorem gX4_cellOfHost_X4_cellOf : GoodIn wsX4_cellOfHost (va_wsS RX4 150 yX4_cellOf wsX4_cellOf) := goodIn_app (goodIn_of _ (by decide +kernel)) ggX4_cellOfHost_X4_cellOf
theorem dX4_cellOfHost_0 : decode cX4_cellOfHost 0 = .ok (.aload_n 0, 1) := by decide +kernel
theorem dX4_cellOfHost_1 : decode cX4_cellOfHost 1 = .ok (.getfield 12, 3) := by decide +kernel
theorem dX4_cellOfHost_4 : decode cX4_cellOfHost 4 = .ok (.iload_n 1, 1) := by decide +kernel
theorem dX4_cellOfHost_5 : decode cX4_cellOfHost 5 = .ok (.invokevirtual 110, 3) := by decide +kernel
theorem dX4_cellOfHost_8 : decode cX4_cellOfHost 8 = .ok (.istore_n 3, 1) := by decide +kernel
theorem dX4_cellOfHost_9 : decode cX4_cellOfHost 9 = .ok (.iload_n 3, 1) := by decide +kernel
theorem dX4_cellOfHost_10 : decode cX4_cellOfHost 10 = .ok (.ifCond .ge 5, 3) := by decide +kernel
theorem dX4_cellOfHost_13 : decode cX4_cellOfHost 13 = .ok (.iload_n 3, 1) := by decide +kernel
theorem dX4_cellOfHost_14 : decode cX4_cellOfHost 14 = .ok (.ireturn, 1) := by decide +kernel
theorem dX4_cellOfHost_15 : decode cX4_cellOfHost 15 = .ok (.iload_n 2, 1) := by decide +kernel
theorem dX4_cellOfHost_16 : decode cX4_cellOfHost 16 = .ok (.invokestatic 160, 3) := by decide +kernel
theorem dX4_cellOfHost_19 : decode cX4_cellOfHost 19 = .ok (.ifCond .eq 11, 3) := by decide +kernel
theorem dX4_cellOfHost_22 : decode cX4_cellOfHost 22 = .ok (.iload_n 3, 1) := by decide +kernel
theorem dX4_cellOfHost_23 : decode cX4_cellOfHost 23 = .ok (.iload_n 2, 1) := by decide +kernel
theorem dX4_cellOfHost_24 : decode cX4_cellOfHost 24 = .ok (.invokestatic 150, 3) := by decide +kernel
theorem dX4_cellOfHost_27 : decode cX4_cellOfHost 27 = .ok (.goto 5, 3) := by decide +kernel
theorem dX4_cellOfHost_30 : decode cX4_cellOfHost 30 = .ok (.bipush (-3), 2) := by decide +kernel
theorem dX4_cellOfHost_32 : decode cX4_cellOfHost 32 = .ok (.ireturn, 1) := by decide +kernel
theorem dX4_startPort_0 : decode cX4_startPort 0 = .ok (.aload_n 0, 1) := by decide +kernel
theorem dX4_startPort_1 : decode cX4_startPort 1 = .ok (.getfield 37, 3) := by decide +kernel
theorem dX4_startPort_4 : decode cX4_startPort 4 = .ok (.iload_n 1, 1) := by decide +kernel
theorem dX4_startPort_5 : decode cX4_startPort 5 = .ok (.aload_n 0, 1) := by decide +kernel
theorem dX4_startPort_6 : decode cX4_startPort 6 = .ok (.getfield 55, 3) := by decide +kernel
theorem dX4_startPort_9 : decode cX4_startPort 9 = .ok (.iastore, 1) := by decide +kernel
theorem dX4_startPort_10 : decode cX4_startPort 10 = .ok (.return_, 1) := by decide +kernel
set_option maxRecDepth 20000 in
theorem ggX4_clearPort_X4_cellOf : GoodIn wsX4_clearPort wsX4_cellOf := goodIn_r _ [8] (by decide +kernel) (by decide +kernel)
set_option maxRecDepth 20000 in
theorem gX4_clearPort_X4_cellOf : GoodIn wsX4_clearPort (va_wsS RX4 150 yX4_cellOf wsX4_cellOf) := goodIn_app (goodIn_of _ (by decide +kernel)) ggX4_clearPort_X4_cellOf
set_option maxRecDepth 20000 in
theorem ggX4_clearPort_X3_change : GoodIn wsX4_clearPort wsX3_change := goodIn_r _ [12, 13, 14, 32, 33] (by decide +kernel) (by decide +kernel)
set_option maxRecDepth 20000 in
theorem gX4_clearPort_X3_change_n163 : GoodIn wsX4_clearPort (wsX3_change) := ggX4_clearPort_X3_change
set_option maxRecDepth 20000 in
theorem ggX4_clearPort_X0_change : GoodIn wsX4_clearPort wsX0_change := goodIn_r _ [18, 19, 20, 34, 35] (by decide +kernel) (by decide +kernel)
set_option maxRecDepth 20000 in
theorem gX4_clearPort_X0_change_n167 : GoodIn wsX4_clearPort (wsX0_change) := ggX4_clearPort_X0_change
theorem dX4_clearPort_0 : decode cX4_clearPort 0 = .ok (.iconst 0, 1) := by decide +kernel
theorem dX4_clearPort_1 : decode cX4_clearPort 1 = .ok (.istore_n 2, 1) := by decide +kernel
theorem dX4_clearPort_2 : decode cX4_clearPort 2 = .ok (.iload_n 2, 1) := by decide +kernel
theorem dX4_clearPort_3 : decode cX4_clearPort 3 = .ok (.iconst 4, 1) := by decide +kernel
theorem dX4_clearPort_4 : decode cX4_clearPort 4 = .ok (.if_icmp .ge 37, 3) := by decide +kernel
theorem dX4_clearPort_7 : decode cX4_clearPort 7 = .ok (.aload_n 0, 1) := by decide +kernel
theorem dX4_clearPort_8 : decode cX4_clearPort 8 = .ok (.getfield 19, 3) := by decide +kernel
theorem dX4_clearPort_11 : decode cX4_clearPort 11 = .ok (.iload_n 1, 1) := by decide +kernel
theorem dX4_clearPort_12 : decode cX4_clearPort 12 = .ok (.iload_n 2, 1) := by decide +kernel
theorem dX4_clearPort_13 : decode cX4_clearPort 13 = .ok (.invokestatic 150, 3) := by decide +kernel
theorem dX4_clearPort_16 : decode cX4_clearPort 16 = .ok (.iconst 0, 1) := by decide +kernel
theorem dX4_clearPort_17 : decode cX4_clearPort 17 = .ok (.iconst 0, 1) := by decide +kernel
theorem dX4_clearPort_18 : decode cX4_clearPort 18 = .ok (.invokevirtual 163, 3) := by decide +kernel
theorem dX4_clearPort_21 : decode cX4_clearPort 21 = .ok (.aload_n 0, 1) := by decide +kernel
theorem dX4_clearPort_22 : decode cX4_clearPort 22 = .ok (.getfield 26, 3) := by decide +kernel
theorem dX4_clearPort_25 : decode cX4_clearPort 25 = .ok (.iload_n 1, 1) := by decide +kernel
theorem dX4_clearPort_26 : decode cX4_clearPort 26 = .ok (.iload_n 2, 1) := by decide +kernel
theorem dX4_clearPort_27 : decode cX4_clearPort 27 = .ok (.invokestatic 150, 3) := by decide +kernel
theorem dX4_clearPort_30 : decode cX4_clearPort 30 = .ok (.iconst 0, 1) := by decide +kernel
theorem dX4_clearPort_31 : decode cX4_clearPort 31 = .ok (.iconst 0, 1) := by decide +kernel
theorem dX4_clearPort_32 : decode cX4_clearPort 32 = .ok (.invokevirtual 167, 3) := by decide +kernel
theorem dX4_clearPort_35 : decode cX4_clearPort 35 = .ok (.iinc 2 1, 3) := by decide +kernel
theorem dX4_clearPort_38 : decode cX4_clearPort 38 = .ok (.goto (-36), 3) := by decide +kernel
theorem dX4_clearPort_41 : decode cX4_clearPort 41 = .ok (.aload_n 0, 1) := by decide +kernel
theorem dX4_clearPort_42 : decode cX4_clearPort 42 = .ok (.getfield 37, 3) := by decide +kernel
theorem dX4_clearPort_45 : decode cX4_clearPort 45 = .ok (.iload_n 1, 1) := by decide +kernel
theorem dX4_clearPort_46 : decode cX4_clearPort 46 = .ok (.iconst 0, 1) := by decide +kernel
theorem dX4_clearPort_47 : decode cX4_clearPort 47 = .ok (.iastore, 1) := by decide +kernel
theorem dX4_clearPort_48 : decode cX4_clearPort 48 = .ok (.aload_n 0, 1) := by decide +kernel
theorem dX4_clearPort_49 : decode cX4_clearPort 49 = .ok (.getfield 45, 3) := by decide +kernel
theorem dX4_clearPort_52 : decode cX4_clearPort 52 = .ok (.iload_n 1, 1) := by decide +kernel
theorem dX4_clearPort_53 : decode cX4_clearPort 53 = .ok (.iconst 0, 1) := by decide +kernel
theorem dX4_clearPort_54 : decode cX4_clearPort 54 = .ok (.bastore, 1) := by decide +kernel
theorem dX4_clearPort_55 : decode cX4_clearPort 55 = .ok (.return_, 1) := by decide +kernel
set_option maxRecDepth 20000 in
theorem ggX4_isRegisteredAt_X1_isConnected : GoodIn wsX4_isRegisteredAt wsX1_isConnected := goodIn_r _ [6, 7, 8, 9, 10, 27, 28, 29, 30] (by decide +kernel) (by decide +kernel)
set_option maxRecDepth 20000 in
theorem gX4_isRegisteredAt_X1_isConnected_n68 : GoodIn wsX4_isRegisteredAt (wsX1_isConnected) := ggX4_isRegisteredAt_X1_isConnected
set_option maxRecDepth 20000 in
theorem ggX4_isRegisteredAt_X4_cellOf : GoodIn wsX4_isRegisteredAt wsX4_cellOf := goodIn_r _ [13] (by decide +kernel) (by decide +kernel)
set_option maxRecDepth 20000 in
theorem gX4_isRegisteredAt_X4_cellOf : GoodIn wsX4_isRegisteredAt (va_wsS RX4 150 yX4_cellOf wsX4_cellOf) := goodIn_app (goodIn_of _ (by decide +kernel)) ggX4_isRegisteredAt_X4_cellOf
theorem dX4_isRegisteredAt_0 : decode cX4_isRegisteredAt 0 = .ok (.aload_n 0, 1) := by decide +kernel
theorem dX4_isRegisteredAt_1 : decode cX4_isRegisteredAt 1 = .ok (.getfield 12, 3) := by decide +kernel
theorem dX4_isRegisteredAt_4 : decode cX4_isRegisteredAt 4 = .ok (.iload_n 1, 1) := by decide +kernel
theorem dX4_isRegisteredAt_5 : decode cX4_isRegisteredAt 5 = .ok (.invokevirtual 68, 3) := by decide +kernel
theorem dX4_isRegisteredAt_8 : decode cX4_isRegisteredAt 8 = .ok (.ifCond .eq 23, 3) := by decide +kernel
theorem dX4_isRegisteredAt_11 : decode cX4_isRegisteredAt 11 = .ok (.aload_n 0, 1) := by decide +kernel
theorem dX4_isRegisteredAt_12 : decode cX4_isRegisteredAt 12 = .ok (.getfield 19, 3) := by decide +kernel
theorem dX4_isRegisteredAt_15 : decode cX4_isRegisteredAt 15 = .ok (.getfield 131, 3) := by decide +kernel
theorem dX4_isRegisteredAt_18 : decode cX4_isRegisteredAt 18 = .ok (.iload_n 1, 1) := by decide +kernel
theorem dX4_isRegisteredAt_19 : decode cX4_isRegisteredAt 19 = .ok (.iload_n 2, 1) := by decide +kernel
theorem dX4_isRegisteredAt_20 : decode cX4_isRegisteredAt 20 = .ok (.invokestatic 150, 3) := by decide +kernel
theorem dX4_isRegisteredAt_23 : decode cX4_isRegisteredAt 23 = .ok (.iaload, 1) := by decide +kernel
theorem dX4_isRegisteredAt_24 : decode cX4_isRegisteredAt 24 = .ok (.ifCond .eq 7, 3) := by decide +kernel
theorem dX4_isRegisteredAt_27 : decode cX4_isRegisteredAt 27 = .ok (.iconst 1, 1) := by decide +kernel
theorem dX4_isRegisteredAt_28 : decode cX4_isRegisteredAt 28 = .ok (.goto 4, 3) := by decide +kernel
theorem dX4_isRegisteredAt_31 : decode cX4_isRegisteredAt 31 = .ok (.iconst 0, 1) := by decide +kernel
theorem dX4_isRegisteredAt_32 : decode cX4_isRegisteredAt 32 = .ok (.ireturn, 1) := by decide +kernel
set_option maxRecDepth 20000 in
theorem ggX4_isWanted_X4_bridgeOf : GoodIn wsX4_isWanted wsX4_bridgeOf := goodIn_r _ [4] (by decide +kernel) (by decide +kernel)
set_option maxRecDepth 20000 in
theorem gX4_isWanted_X4_bridgeOf : GoodIn wsX4_isWanted (va_wsS RX4 168 yX4_bridgeOf wsX4_bridgeOf) := goodIn_app (goodIn_of _ (by decide +kernel)) ggX4_isWanted_X4_bridgeOf
set_option maxRecDepth 20000 in
theorem ggX4_isWanted_X4_isRegisteredAt : GoodIn wsX4_isWanted wsX4_isRegisteredAt := goodIn_r _ [8, 9, 10, 11, 12, 13, 14, 15, 16, 3, 17, 18, 19, 20, 21, 22, 23, 24, 25, 26, 27, 28, 29, 30, 31, 32, 33, 34, 35, 36, 37] (by decide +kernel) (by decide +kernel)
set_option maxRecDepth 20000 in
theorem gX4_isWanted_X4_isRegisteredAt : GoodIn wsX4_isWanted (wsV RX4 171 RX4 yX4_isRegisteredAt wsX4_isRegisteredAt) := goodIn_app (goodIn_of _ (by decide +kernel)) ggX4_isWanted_X4_isRegisteredAt
theorem dX4_isWanted_0 : decode cX4_isWanted 0 = .ok (.iload_n 1, 1) := by decide +kernel
theorem dX4_isWanted_1 : decode cX4_isWanted 1 = .ok (.invokestatic 168, 3) := by decide +kernel
theorem dX4_isWanted_4 : decode cX4_isWanted 4 = .ok (.iconst 4, 1) := by decide +kernel
theorem dX4_isWanted_5 : decode cX4_isWanted 5 = .ok (.imul, 1) := by decide +kernel
theorem dX4_isWanted_6 : decode cX4_isWanted 6 = .ok (.istore_n 3, 1) := by decide +kernel
theorem dX4_isWanted_7 : decode cX4_isWanted 7 = .ok (.iload_n 3, 1) := by decide +kernel
theorem dX4_isWanted_8 : decode cX4_isWanted 8 = .ok (.istore 4, 2) := by decide +kernel
theorem dX4_isWanted_10 : decode cX4_isWanted 10 = .ok (.iload 4, 2) := by decide +kernel
theorem dX4_isWanted_12 : decode cX4_isWanted 12 = .ok (.iload_n 3, 1) := by decide +kernel
theorem dX4_isWanted_13 : decode cX4_isWanted 13 = .ok (.iconst 4, 1) := by decide +kernel
theorem dX4_isWanted_14 : decode cX4_isWanted 14 = .ok (.iadd, 1) := by decide +kernel
theorem dX4_isWanted_15 : decode cX4_isWanted 15 = .ok (.if_icmp .ge 27, 3) := by decide +kernel
theorem dX4_isWanted_18 : decode cX4_isWanted 18 = .ok (.iload 4, 2) := by decide +kernel
theorem dX4_isWanted_20 : decode cX4_isWanted 20 = .ok (.iload_n 1, 1) := by decide +kernel
theorem dX4_isWanted_21 : decode cX4_isWanted 21 = .ok (.if_icmp .eq 15, 3) := by decide +kernel
theorem dX4_isWanted_24 : decode cX4_isWanted 24 = .ok (.aload_n 0, 1) := by decide +kernel
theorem dX4_isWanted_25 : decode cX4_isWanted 25 = .ok (.iload 4, 2) := by decide +kernel
theorem dX4_isWanted_27 : decode cX4_isWanted 27 = .ok (.iload_n 2, 1) := by decide +kernel
theorem dX4_isWanted_28 : decode cX4_isWanted 28 = .ok (.invokevirtual 171, 3) := by decide +kernel
theorem dX4_isWanted_31 : decode cX4_isWanted 31 = .ok (.ifCond .eq 5, 3) := by decide +kernel
theorem dX4_isWanted_34 : decode cX4_isWanted 34 = .ok (.iconst 1, 1) := by decide +kernel
theorem dX4_isWanted_35 : decode cX4_isWanted 35 = .ok (.ireturn, 1) := by decide +kernel
theorem dX4_isWanted_36 : decode cX4_isWanted 36 = .ok (.iinc 4 1, 3) := by decide +kernel
theorem dX4_isWanted_39 : decode cX4_isWanted 39 = .ok (.goto (-29), 3) := by decide +kernel
theorem dX4_isWanted_42 : decode cX4_isWanted 42 = .ok (.iconst 0, 1) := by decide +kernel
theorem dX4_isWanted_43 : decode cX4_isWanted 43 = .ok (.ireturn, 1) := by decide +kernel
set_option maxRecDepth 20000 in
theorem ggX4_hasToSend_X4_cellOf : GoodIn wsX4_hasToSend wsX4_cellOf := goodIn_r _ [5] (by decide +kernel) (by decide +kernel)
set_option maxRecDepth 20000 in
theorem gX4_hasToSend_X4_cellOf : GoodIn wsX4_hasToSend (va_wsS RX4 150 yX4_cellOf wsX4_cellOf) := goodIn_app (goodIn_of _ (by decide +kernel)) ggX4_hasToSend_X4_cellOf
theorem dX4_hasToSend_0 : decode cX4_hasToSend 0 = .ok (.iconst 0, 1) := by decide +kernel
theorem dX4_hasToSend_1 : decode cX4_hasToSend 1 = .ok (.istore_n 2, 1) := by decide +kernel
theorem dX4_hasToSend_2 : decode cX4_hasToSend 2 = .ok (.iload_n 2, 1) := by decide +kernel
theorem dX4_hasToSend_3 : decode cX4_hasToSend 3 = .ok (.iconst 4, 1) := by decide +kernel
theorem dX4_hasToSend_4 : decode cX4_hasToSend 4 = .ok (.if_icmp .ge 35, 3) := by decide +kernel
theorem dX4_hasToSend_7 : decode cX4_hasToSend 7 = .ok (.aload_n 0, 1) := by decide +kernel
theorem dX4_hasToSend_8 : decode cX4_hasToSend 8 = .ok (.getfield 26, 3) := by decide +kernel
theorem dX4_hasToSend_11 : decode cX4_hasToSend 11 = .ok (.getfield 137, 3) := by decide +kernel
theorem dX4_hasToSend_14 : decode cX4_hasToSend 14 = .ok (.iload_n 1, 1) := by decide +kernel
theorem dX4_hasToSend_15 : decode cX4_hasToSend 15 = .ok (.iload_n 2, 1) := by decide +kernel
theorem dX4_hasToSend_16 : decode cX4_hasToSend 16 = .ok (.invokestatic 150, 3) := by decide +kernel
theorem dX4_hasToSend_19 : decode cX4_hasToSend 19 = .ok (.iaload, 1) := by decide +kernel
theorem dX4_hasToSend_20 : decode cX4_hasToSend 20 = .ok (.istore_n 3, 1) := by decide +kernel
theorem dX4_hasToSend_21 : decode cX4_hasToSend 21 = .ok (.iload_n 3, 1) := by decide +kernel
theorem dX4_hasToSend_22 : decode cX4_hasToSend 22 = .ok (.iconst 1, 1) := by decide +kernel
theorem dX4_hasToSend_23 : decode cX4_hasToSend 23 = .ok (.if_icmp .eq 8, 3) := by decide +kernel
theorem dX4_hasToSend_26 : decode cX4_hasToSend 26 = .ok (.iload_n 3, 1) := by decide +kernel
theorem dX4_hasToSend_27 : decode cX4_hasToSend 27 = .ok (.iconst 3, 1) := by decide +kernel
theorem dX4_hasToSend_28 : decode cX4_hasToSend 28 = .ok (.if_icmp .ne 5, 3) := by decide +kernel
theorem dX4_hasToSend_31 : decode cX4_hasToSend 31 = .ok (.iconst 1, 1) := by decide +kernel
theorem dX4_hasToSend_32 : decode cX4_hasToSend 32 = .ok (.ireturn, 1) := by decide +kernel
theorem dX4_hasToSend_33 : decode cX4_hasToSend 33 = .ok (.iinc 2 1, 3) := by decide +kernel
theorem dX4_hasToSend_36 : decode cX4_hasToSend 36 = .ok (.goto (-34), 3) := by decide +kernel
theorem dX4_hasToSend_39 : decode cX4_hasToSend 39 = .ok (.iconst 0, 1) := by decide +kernel
theorem dX4_hasToSend_40 : decode cX4_hasToSend 40 = .ok (.ireturn, 1) := by decide +kernel
set_option maxRecDepth 20000 in
theorem ggX4_isPortSettled_X4_cellOf : GoodIn wsX4_isPortSettled wsX4_cellOf := goodIn_r _ [6] (by decide +kernel) (by decide +kernel)
set_option maxRecDepth 20000 in
theorem gX4_isPortSettled_X4_cellOf : GoodIn wsX4_isPortSettled (va_wsS RX4 150 yX4_cellOf wsX4_cellOf) := goodIn_app (goodIn_of _ (by decide +kernel)) ggX4_isPortSettled_X4_cellOf
set_option maxRecDepth 20000 in
theorem ggX4_isPortSettled_X4_isWanted : GoodIn wsX4_isPortSettled wsX4_isWanted := goodIn_r _ [10, 11, 12, 5, 13, 14, 15, 16, 17, 18, 2, 19, 20, 21, 22, 23, 24, 25, 3, 4, 6, 26, 27, 28, 29, 30, 31, 32, 33, 34, 35, 36, 39, 40, 41, 42, 43, 44] (by decide +kernel) (by decide +kernel)
set_option maxRecDepth 20000 in
theorem gX4_isPortSettled_X4_isWanted : GoodIn wsX4_isPortSettled (wsV RX4 174 RX4 yX4_isWanted wsX4_isWanted) := goodIn_app (goodIn_of _ (by decide +kernel)) ggX4_isPortSettled_X4_isWanted
theorem dX4_isPortSettled_0 : decode cX4_isPortSettled 0 = .ok (.iconst 0, 1) := by decide +kernel
theorem dX4_isPortSettled_1 : decode cX4_isPortSettled 1 = .ok (.istore_n 2, 1) := by decide +kernel
theorem dX4_isPortSettled_2 : decode cX4_isPortSettled 2 = .ok (.iload_n 2, 1) := by decide +kernel
theorem dX4_isPortSettled_3 : decode cX4_isPortSettled 3 = .ok (.iconst 4, 1) := by decide +kernel
theorem dX4_isPortSettled_4 : decode cX4_isPortSettled 4 = .ok (.if_icmp .ge 61, 3) := by decide +kernel
theorem dX4_isPortSettled_7 : decode cX4_isPortSettled 7 = .ok (.iload_n 1, 1) := by decide +kernel
theorem dX4_isPortSettled_8 : decode cX4_isPortSettled 8 = .ok (.iload_n 2, 1) := by decide +kernel
theorem dX4_isPortSettled_9 : decode cX4_isPortSettled 9 = .ok (.invokestatic 150, 3) := by decide +kernel
theorem dX4_isPortSettled_12 : decode cX4_isPortSettled 12 = .ok (.istore_n 3, 1) := by decide +kernel
theorem dX4_isPortSettled_13 : decode cX4_isPortSettled 13 = .ok (.aload_n 0, 1) := by decide +kernel
theorem dX4_isPortSettled_14 : decode cX4_isPortSettled 14 = .ok (.getfield 26, 3) := by decide +kernel
theorem dX4_isPortSettled_17 : decode cX4_isPortSettled 17 = .ok (.getfield 137, 3) := by decide +kernel
theorem dX4_isPortSettled_20 : decode cX4_isPortSettled 20 = .ok (.iload_n 3, 1) := by decide +kernel
theorem dX4_isPortSettled_21 : decode cX4_isPortSettled 21 = .ok (.iaload, 1) := by decide +kernel
theorem dX4_isPortSettled_22 : decode cX4_isPortSettled 22 = .ok (.iconst 2, 1) := by decide +kernel
theorem dX4_isPortSettled_23 : decode cX4_isPortSettled 23 = .ok (.if_icmp .ne 7, 3) := by decide +kernel
theorem dX4_isPortSettled_26 : decode cX4_isPortSettled 26 = .ok (.iconst 1, 1) := by decide +kernel
theorem dX4_isPortSettled_27 : decode cX4_isPortSettled 27 = .ok (.goto 4, 3) := by decide +kernel
theorem dX4_isPortSettled_30 : decode cX4_isPortSettled 30 = .ok (.iconst 0, 1) := by decide +kernel
theorem dX4_isPortSettled_31 : decode cX4_isPortSettled 31 = .ok (.istore 4, 2) := by decide +kernel
theorem dX4_isPortSettled_33 : decode cX4_isPortSettled 33 = .ok (.aload_n 0, 1) := by decide +kernel
theorem dX4_isPortSettled_34 : decode cX4_isPortSettled 34 = .ok (.getfield 19, 3) := by decide +kernel
theorem dX4_isPortSettled_37 : decode cX4_isPortSettled 37 = .ok (.getfield 131, 3) := by decide +kernel
theorem dX4_isPortSettled_40 : decode cX4_isPortSettled 40 = .ok (.iload_n 3, 1) := by decide +kernel
theorem dX4_isPortSettled_41 : decode cX4_isPortSettled 41 = .ok (.iaload, 1) := by decide +kernel
theorem dX4_isPortSettled_42 : decode cX4_isPortSettled 42 = .ok (.iconst 2, 1) := by decide +kernel
theorem dX4_isPortSettled_43 : decode cX4_isPortSettled 43 = .ok (.if_icmp .eq 14, 3) := by decide +kernel
theorem dX4_isPortSettled_46 : decode cX4_isPortSettled 46 = .ok (.iload 4, 2) := by decide +kernel
theorem dX4_isPortSettled_48 : decode cX4_isPortSettled 48 = .ok (.aload_n 0, 1) := by decide +kernel
theorem dX4_isPortSettled_49 : decode cX4_isPortSettled 49 = .ok (.iload_n 1, 1) := by decide +kernel
theorem dX4_isPortSettled_50 : decode cX4_isPortSettled 50 = .ok (.iload_n 2, 1) := by decide +kernel
theorem dX4_isPortSettled_51 : decode cX4_isPortSettled 51 = .ok (.invokevirtual 174, 3) := by decide +kernel
theorem dX4_isPortSettled_54 : decode cX4_isPortSettled 54 = .ok (.if_icmp .eq 5, 3) := by decide +kernel
theorem dX4_isPortSettled_57 : decode cX4_isPortSettled 57 = .ok (.iconst 0, 1) := by decide +kernel
theorem dX4_isPortSettled_58 : decode cX4_isPortSettled 58 = .ok (.ireturn, 1) := by decide +kernel
theorem dX4_isPortSettled_59 : decode cX4_isPortSettled 59 = .ok (.iinc 2 1, 3) := by decide +kernel
theorem dX4_isPortSettled_62 : decode cX4_isPortSettled 62 = .ok (.goto (-60), 3) := by decide +kernel
theorem dX4_isPortSettled_65 : decode cX4_isPortSettled 65 = .ok (.iconst 1, 1) := by decide +kernel
theorem dX4_isPortSettled_66 : decode cX4_isPortSettled 66 = .ok (.ireturn, 1) := by decide +kernel
set_option maxRecDepth 20000 in
theorem ggX4_runTimers_X1_isConnected : GoodIn wsX4_runTimers wsX1_isConnected := goodIn_r _ [6, 7, 8, 9, 10, 42, 43, 44, 45] (by decide +kernel) (by decide +kernel)
set_option maxRecDepth 20000 in
theorem gX4_runTimers_X1_isConnected_n68 : GoodIn wsX4_runTimers (wsX1_isConnected) := ggX4_runTimers_X1_isConnected
set_option maxRecDepth 20000 in
theorem ggX4_runTimers_X4_countDownRegistrars : GoodIn wsX4_runTimers wsX4_countDownRegistrars := goodIn_r _ [14, 15, 16, 17, 9, 18, 19, 20, 21, 22, 23, 24, 31, 32, 33, 34, 35, 36, 37, 38, 39, 40, 41, 46, 47] (by decide +kernel) (by decide +kernel)
set_option maxRecDepth 20000 in
theorem gX4_runTimers_X4_countDownRegistrars : GoodIn wsX4_runTimers (wsV RX4 177 RX4 yX4_countDownRegistrars wsX4_countDownRegistrars) := goodIn_app (goodIn_of _ (by decide +kernel)) ggX4_runTimers_X4_countDownRegistrars
set_option maxRecDepth 20000 in
theorem ggX4_runTimers_X4_countDownToLeaveAll : GoodIn wsX4_runTimers wsX4_countDownToLeaveAll := goodIn_r _ [28, 29, 1, 30, 31, 32, 33, 34, 35, 36, 37, 38, 39, 40, 41] (by decide +kernel) (by decide +kernel)
set_option maxRecDepth 20000 in
theorem gX4_runTimers_X4_countDownToLeaveAll : GoodIn wsX4_runTimers (wsV RX4 180 RX4 yX4_countDownToLeaveAll wsX4_countDownToLeaveAll) := goodIn_app (goodIn_of _ (by decide +kernel)) ggX4_runTimers_X4_countDownToLeaveAll
theorem dX4_runTimers_0 : decode cX4_runTimers 0 = .ok (.iconst 0, 1) := by decide +kernel
theorem dX4_runTimers_1 : decode cX4_runTimers 1 = .ok (.istore_n 1, 1) := by decide +kernel
theorem dX4_runTimers_2 : decode cX4_runTimers 2 = .ok (.iload_n 1, 1) := by decide +kernel
theorem dX4_runTimers_3 : decode cX4_runTimers 3 = .ok (.bipush 20, 2) := by decide +kernel
theorem dX4_runTimers_5 : decode cX4_runTimers 5 = .ok (.if_icmp .ge 37, 3) := by decide +kernel
theorem dX4_runTimers_8 : decode cX4_runTimers 8 = .ok (.aload_n 0, 1) := by decide +kernel
theorem dX4_runTimers_9 : decode cX4_runTimers 9 = .ok (.getfield 41, 3) := by decide +kernel
theorem dX4_runTimers_12 : decode cX4_runTimers 12 = .ok (.iload_n 1, 1) := by decide +kernel
theorem dX4_runTimers_13 : decode cX4_runTimers 13 = .ok (.iconst 0, 1) := by decide +kernel
theorem dX4_runTimers_14 : decode cX4_runTimers 14 = .ok (.bastore, 1) := by decide +kernel
theorem dX4_runTimers_15 : decode cX4_runTimers 15 = .ok (.aload_n 0, 1) := by decide +kernel
theorem dX4_runTimers_16 : decode cX4_runTimers 16 = .ok (.getfield 12, 3) := by decide +kernel
theorem dX4_runTimers_19 : decode cX4_runTimers 19 = .ok (.iload_n 1, 1) := by decide +kernel
theorem dX4_runTimers_20 : decode cX4_runTimers 20 = .ok (.invokevirtual 68, 3) := by decide +kernel
theorem dX4_runTimers_23 : decode cX4_runTimers 23 = .ok (.ifCond .eq 13, 3) := by decide +kernel
theorem dX4_runTimers_26 : decode cX4_runTimers 26 = .ok (.aload_n 0, 1) := by decide +kernel
theorem dX4_runTimers_27 : decode cX4_runTimers 27 = .ok (.iload_n 1, 1) := by decide +kernel
theorem dX4_runTimers_28 : decode cX4_runTimers 28 = .ok (.invokevirtual 177, 3) := by decide +kernel
theorem dX4_runTimers_31 : decode cX4_runTimers 31 = .ok (.aload_n 0, 1) := by decide +kernel
theorem dX4_runTimers_32 : decode cX4_runTimers 32 = .ok (.iload_n 1, 1) := by decide +kernel
theorem dX4_runTimers_33 : decode cX4_runTimers 33 = .ok (.invokevirtual 180, 3) := by decide +kernel
theorem dX4_runTimers_36 : decode cX4_runTimers 36 = .ok (.iinc 1 1, 3) := by decide +kernel
theorem dX4_runTimers_39 : decode cX4_runTimers 39 = .ok (.goto (-37), 3) := by decide +kernel
theorem dX4_runTimers_42 : decode cX4_runTimers 42 = .ok (.return_, 1) := by decide +kernel
set_option maxRecDepth 20000 in
theorem ggX4_countDownRegistrars_X4_cellOf : GoodIn wsX4_countDownRegistrars wsX4_cellOf := goodIn_r _ [5] (by decide +kernel) (by decide +kernel)
set_option maxRecDepth 20000 in
theorem gX4_countDownRegistrars_X4_cellOf : GoodIn wsX4_countDownRegistrars (va_wsS RX4 150 yX4_cellOf wsX4_cellOf) := goodIn_app (goodIn_of _ (by decide +kernel)) ggX4_countDownRegistrars_X4_cellOf
set_option maxRecDepth 20000 in
theorem ggX4_countDownRegistrars_X3_countDown : GoodIn wsX4_countDownRegistrars wsX3_countDown := goodIn_r _ [9, 10, 11, 23, 24] (by decide +kernel) (by decide +kernel)
set_option maxRecDepth 20000 in
theorem gX4_countDownRegistrars_X3_countDown_n183 : GoodIn wsX4_countDownRegistrars (wsX3_countDown) := ggX4_countDownRegistrars_X3_countDown
theorem dX4_countDownRegistrars_0 : decode cX4_countDownRegistrars 0 = .ok (.iconst 0, 1) := by decide +kernel
theorem dX4_countDownRegistrars_1 : decode cX4_countDownRegistrars 1 = .ok (.istore_n 2, 1) := by decide +kernel
theorem dX4_countDownRegistrars_2 : decode cX4_countDownRegistrars 2 = .ok (.iload_n 2, 1) := by decide +kernel
theorem dX4_countDownRegistrars_3 : decode cX4_countDownRegistrars 3 = .ok (.iconst 4, 1) := by decide +kernel
theorem dX4_countDownRegistrars_4 : decode cX4_countDownRegistrars 4 = .ok (.if_icmp .ge 21, 3) := by decide +kernel
theorem dX4_countDownRegistrars_7 : decode cX4_countDownRegistrars 7 = .ok (.aload_n 0, 1) := by decide +kernel
theorem dX4_countDownRegistrars_8 : decode cX4_countDownRegistrars 8 = .ok (.getfield 19, 3) := by decide +kernel
theorem dX4_countDownRegistrars_11 : decode cX4_countDownRegistrars 11 = .ok (.iload_n 1, 1) := by decide +kernel
theorem dX4_countDownRegistrars_12 : decode cX4_countDownRegistrars 12 = .ok (.iload_n 2, 1) := by decide +kernel
theorem dX4_countDownRegistrars_13 : decode cX4_countDownRegistrars 13 = .ok (.invokestatic 150, 3) := by decide +kernel
theorem dX4_countDownRegistrars_16 : decode cX4_countDownRegistrars 16 = .ok (.invokevirtual 183, 3) := by decide +kernel
theorem dX4_countDownRegistrars_19 : decode cX4_countDownRegistrars 19 = .ok (.iinc 2 1, 3) := by decide +kernel
theorem dX4_countDownRegistrars_22 : decode cX4_countDownRegistrars 22 = .ok (.goto (-20), 3) := by decide +kernel
theorem dX4_countDownRegistrars_25 : decode cX4_countDownRegistrars 25 = .ok (.return_, 1) := by decide +kernel
theorem dX4_countDownToLeaveAll_0 : decode cX4_countDownToLeaveAll 0 = .ok (.aload_n 0, 1) := by decide +kernel
theorem dX4_countDownToLeaveAll_1 : decode cX4_countDownToLeaveAll 1 = .ok (.getfield 37, 3) := by decide +kernel
theorem dX4_countDownToLeaveAll_4 : decode cX4_countDownToLeaveAll 4 = .ok (.iload_n 1, 1) := by decide +kernel
theorem dX4_countDownToLeaveAll_5 : decode cX4_countDownToLeaveAll 5 = .ok (.iaload, 1) := by decide +kernel
theorem dX4_countDownToLeaveAll_6 : decode cX4_countDownToLeaveAll 6 = .ok (.ifCond .le 39, 3) := by decide +kernel
theorem dX4_countDownToLeaveAll_9 : decode cX4_countDownToLeaveAll 9 = .ok (.aload_n 0, 1) := by decide +kernel
theorem dX4_countDownToLeaveAll_10 : decode cX4_countDownToLeaveAll 10 = .ok (.getfield 37, 3) := by decide +kernel
theorem dX4_countDownToLeaveAll_13 : decode cX4_countDownToLeaveAll 13 = .ok (.iload_n 1, 1) := by decide +kernel
theorem dX4_countDownToLeaveAll_14 : decode cX4_countDownToLeaveAll 14 = .ok (.dup2, 1) := by decide +kernel
theorem dX4_countDownToLeaveAll_15 : decode cX4_countDownToLeaveAll 15 = .ok (.iaload, 1) := by decide +kernel
theorem dX4_countDownToLeaveAll_16 : decode cX4_countDownToLeaveAll 16 = .ok (.iconst 1, 1) := by decide +kernel
theorem dX4_countDownToLeaveAll_17 : decode cX4_countDownToLeaveAll 17 = .ok (.isub, 1) := by decide +kernel
theorem dX4_countDownToLeaveAll_18 : decode cX4_countDownToLeaveAll 18 = .ok (.iastore, 1) := by decide +kernel
theorem dX4_countDownToLeaveAll_19 : decode cX4_countDownToLeaveAll 19 = .ok (.aload_n 0, 1) := by decide +kernel
theorem dX4_countDownToLeaveAll_20 : decode cX4_countDownToLeaveAll 20 = .ok (.getfield 37, 3) := by decide +kernel
theorem dX4_countDownToLeaveAll_23 : decode cX4_countDownToLeaveAll 23 = .ok (.iload_n 1, 1) := by decide +kernel
theorem dX4_countDownToLeaveAll_24 : decode cX4_countDownToLeaveAll 24 = .ok (.iaload, 1) := by decide +kernel
theorem dX4_countDownToLeaveAll_25 : decode cX4_countDownToLeaveAll 25 = .ok (.ifCond .ne 20, 3) := by decide +kernel
theorem dX4_countDownToLeaveAll_28 : decode cX4_countDownToLeaveAll 28 = .ok (.aload_n 0, 1) := by decide +kernel
theorem dX4_countDownToLeaveAll_29 : decode cX4_countDownToLeaveAll 29 = .ok (.getfield 41, 3) := by decide +kernel
theorem dX4_countDownToLeaveAll_32 : decode cX4_countDownToLeaveAll 32 = .ok (.iload_n 1, 1) := by decide +kernel
theorem dX4_countDownToLeaveAll_33 : decode cX4_countDownToLeaveAll 33 = .ok (.iconst 1, 1) := by decide +kernel
theorem dX4_countDownToLeaveAll_34 : decode cX4_countDownToLeaveAll 34 = .ok (.bastore, 1) := by decide +kernel
theorem dX4_countDownToLeaveAll_35 : decode cX4_countDownToLeaveAll 35 = .ok (.aload_n 0, 1) := by decide +kernel
theorem dX4_countDownToLeaveAll_36 : decode cX4_countDownToLeaveAll 36 = .ok (.getfield 37, 3) := by decide +kernel
theorem dX4_countDownToLeaveAll_39 : decode cX4_countDownToLeaveAll 39 = .ok (.iload_n 1, 1) := by decide +kernel
theorem dX4_countDownToLeaveAll_40 : decode cX4_countDownToLeaveAll 40 = .ok (.aload_n 0, 1) := by decide +kernel
theorem dX4_countDownToLeaveAll_41 : decode cX4_countDownToLeaveAll 41 = .ok (.getfield 55, 3) := by decide +kernel
theorem dX4_countDownToLeaveAll_44 : decode cX4_countDownToLeaveAll 44 = .ok (.iastore, 1) := by decide +kernel
theorem dX4_countDownToLeaveAll_45 : decode cX4_countDownToLeaveAll 45 = .ok (.return_, 1) := by decide +kernel
set_option maxRecDepth 20000 in
theorem ggX4_propagate_X1_isConnected : GoodIn wsX4_propagate wsX1_isConnected := goodIn_r _ [5, 6, 7, 8, 9, 58, 59, 60, 61] (by decide +kernel) (by decide +kernel)
set_option maxRecDepth 20000 in
theorem gX4_propagate_X1_isConnected_n68 : GoodIn wsX4_propagate (wsX1_isConnected) := ggX4_propagate_X1_isConnected
set_option maxRecDepth 20000 in
theorem ggX4_propagate_X4_propagateTo : GoodIn wsX4_propagate wsX4_propagateTo := goodIn_r _ [13, 14, 15, 16, 17, 8, 18, 19, 20, 21, 22, 23, 24, 25, 1, 26, 2, 3, 4, 5, 6, 7, 9, 27, 28, 29, 30, 31, 32, 33, 34, 35, 36, 37, 38, 39, 40, 41, 42, 43, 44, 45, 46, 47, 48, 49, 50, 51, 52, 53, 54, 55, 56, 57, 62, 63, 58, 59, 60, 61, 64, 65] (by decide +kernel) (by decide +kernel)
set_option maxRecDepth 20000 in
theorem gX4_propagate_X4_propagateTo : GoodIn wsX4_propagate (wsV RX4 186 RX4 yX4_propagateTo wsX4_propagateTo) := goodIn_app (goodIn_of _ (by decide +kernel)) ggX4_propagate_X4_propagateTo
theorem dX4_propagate_0 : decode cX4_propagate 0 = .ok (.iconst 0, 1) := by decide +kernel
theorem dX4_propagate_1 : decode cX4_propagate 1 = .ok (.istore_n 1, 1) := by decide +kernel
theorem dX4_propagate_2 : decode cX4_propagate 2 = .ok (.iload_n 1, 1) := by decide +kernel
theorem dX4_propagate_3 : decode cX4_propagate 3 = .ok (.bipush 20, 2) := by decide +kernel
theorem dX4_propagate_5 : decode cX4_propagate 5 = .ok (.if_icmp .ge 25, 3) := by decide +kernel
theorem dX4_propagate_8 : decode cX4_propagate 8 = .ok (.aload_n 0, 1) := by decide +kernel
theorem dX4_propagate_9 : decode cX4_propagate 9 = .ok (.getfield 12, 3) := by decide +kernel
theorem dX4_propagate_12 : decode cX4_propagate 12 = .ok (.iload_n 1, 1) := by decide +kernel
theorem dX4_propagate_13 : decode cX4_propagate 13 = .ok (.invokevirtual 68, 3) := by decide +kernel
theorem dX4_propagate_16 : decode cX4_propagate 16 = .ok (.ifCond .eq 8, 3) := by decide +kernel
theorem dX4_propagate_19 : decode cX4_propagate 19 = .ok (.aload_n 0, 1) := by decide +kernel
theorem dX4_propagate_20 : decode cX4_propagate 20 = .ok (.iload_n 1, 1) := by decide +kernel
theorem dX4_propagate_21 : decode cX4_propagate 21 = .ok (.invokevirtual 186, 3) := by decide +kernel
theorem dX4_propagate_24 : decode cX4_propagate 24 = .ok (.iinc 1 1, 3) := by decide +kernel
theorem dX4_propagate_27 : decode cX4_propagate 27 = .ok (.goto (-25), 3) := by decide +kernel
theorem dX4_propagate_30 : decode cX4_propagate 30 = .ok (.return_, 1) := by decide +kernel
set_option maxRecDepth 20000 in
theorem ggX4_propagateTo_X4_isWanted : GoodIn wsX4_propagateTo wsX4_isWanted := goodIn_r _ [6, 7, 8, 5, 9, 10, 11, 12, 13, 14, 15, 16, 17, 18, 19, 20, 21, 22, 23, 24, 25, 43, 44, 45, 46, 47, 48, 49, 50, 51, 52, 53, 54, 55, 56, 57, 58, 59] (by decide +kernel) (by decide +kernel)
set_option maxRecDepth 20000 in
theorem gX4_propagateTo_X4_isWanted : GoodIn wsX4_propagateTo (wsV RX4 174 RX4 yX4_isWanted wsX4_isWanted) := goodIn_app (goodIn_of _ (by decide +kernel)) ggX4_propagateTo_X4_isWanted
set_option maxRecDepth 20000 in
theorem ggX4_propagateTo_X4_cellOf : GoodIn wsX4_propagateTo wsX4_cellOf := goodIn_r _ [25] (by decide +kernel) (by decide +kernel)
set_option maxRecDepth 20000 in
theorem gX4_propagateTo_X4_cellOf : GoodIn wsX4_propagateTo (va_wsS RX4 150 yX4_cellOf wsX4_cellOf) := goodIn_app (goodIn_of _ (by decide +kernel)) ggX4_propagateTo_X4_cellOf
set_option maxRecDepth 20000 in
theorem ggX4_propagateTo_X0_startDeclaring : GoodIn wsX4_propagateTo wsX0_startDeclaring := goodIn_r _ [29, 30, 31, 32, 27, 33, 34, 35, 36, 37, 38, 39, 60, 61] (by decide +kernel) (by decide +kernel)
set_option maxRecDepth 20000 in
theorem gX4_propagateTo_X0_startDeclaring_n104 : GoodIn wsX4_propagateTo (wsX0_startDeclaring) := ggX4_propagateTo_X0_startDeclaring
set_option maxRecDepth 20000 in
theorem ggX4_propagateTo_X0_stopDeclaring : GoodIn wsX4_propagateTo wsX0_stopDeclaring := goodIn_r _ [42, 30, 31, 32, 27, 33, 34, 35, 36, 37, 38, 39, 60, 61] (by decide +kernel) (by decide +kernel)
set_option maxRecDepth 20000 in
theorem gX4_propagateTo_X0_stopDeclaring_n107 : GoodIn wsX4_propagateTo (wsX0_stopDeclaring) := ggX4_propagateTo_X0_stopDeclaring
theorem dX4_propagateTo_0 : decode cX4_propagateTo 0 = .ok (.iconst 0, 1) := by decide +kernel
theorem dX4_propagateTo_1 : decode cX4_propagateTo 1 = .ok (.istore_n 2, 1) := by decide +kernel
theorem dX4_propagateTo_2 : decode cX4_propagateTo 2 = .ok (.iload_n 2, 1) := by decide +kernel
theorem dX4_propagateTo_3 : decode cX4_propagateTo 3 = .ok (.iconst 4, 1) := by decide +kernel
theorem dX4_propagateTo_4 : decode cX4_propagateTo 4 = .ok (.if_icmp .ge 47, 3) := by decide +kernel
theorem dX4_propagateTo_7 : decode cX4_propagateTo 7 = .ok (.aload_n 0, 1) := by decide +kernel
theorem dX4_propagateTo_8 : decode cX4_propagateTo 8 = .ok (.iload_n 1, 1) := by decide +kernel
theorem dX4_propagateTo_9 : decode cX4_propagateTo 9 = .ok (.iload_n 2, 1) := by decide +kernel
theorem dX4_propagateTo_10 : decode cX4_propagateTo 10 = .ok (.invokevirtual 174, 3) := by decide +kernel
theorem dX4_propagateTo_13 : decode cX4_propagateTo 13 = .ok (.ifCond .eq 19, 3) := by decide +kernel
theorem dX4_propagateTo_16 : decode cX4_propagateTo 16 = .ok (.aload_n 0, 1) := by decide +kernel
theorem dX4_propagateTo_17 : decode cX4_propagateTo 17 = .ok (.getfield 26, 3) := by decide +kernel
theorem dX4_propagateTo_20 : decode cX4_propagateTo 20 = .ok (.iload_n 1, 1) := by decide +kernel
theorem dX4_propagateTo_21 : decode cX4_propagateTo 21 = .ok (.iload_n 2, 1) := by decide +kernel
theorem dX4_propagateTo_22 : decode cX4_propagateTo 22 = .ok (.invokestatic 150, 3) := by decide +kernel
theorem dX4_propagateTo_25 : decode cX4_propagateTo 25 = .ok (.invokevirtual 104, 3) := by decide +kernel
theorem dX4_propagateTo_28 : decode cX4_propagateTo 28 = .ok (.pop, 1) := by decide +kernel
theorem dX4_propagateTo_29 : decode cX4_propagateTo 29 = .ok (.goto 16, 3) := by decide +kernel
theorem dX4_propagateTo_32 : decode cX4_propagateTo 32 = .ok (.aload_n 0, 1) := by decide +kernel
theorem dX4_propagateTo_33 : decode cX4_propagateTo 33 = .ok (.getfield 26, 3) := by decide +kernel
theorem dX4_propagateTo_36 : decode cX4_propagateTo 36 = .ok (.iload_n 1, 1) := by decide +kernel
theorem dX4_propagateTo_37 : decode cX4_propagateTo 37 = .ok (.iload_n 2, 1) := by decide +kernel
theorem dX4_propagateTo_38 : decode cX4_propagateTo 38 = .ok (.invokestatic 150, 3) := by decide +kernel
theorem dX4_propagateTo_41 : decode cX4_propagateTo 41 = .ok (.invokevirtual 107, 3) := by decide +kernel
theorem dX4_propagateTo_44 : decode cX4_propagateTo 44 = .ok (.pop, 1) := by decide +kernel
theorem dX4_propagateTo_45 : decode cX4_propagateTo 45 = .ok (.iinc 2 1, 3) := by decide +kernel
theorem dX4_propagateTo_48 : decode cX4_propagateTo 48 = .ok (.goto (-46), 3) := by decide +kernel
theorem dX4_propagateTo_51 : decode cX4_propagateTo 51 = .ok (.return_, 1) := by decide +kernel
set_option maxRecDepth 20000 in
theorem ggX4_sendAll_X2_clear : GoodIn wsX4_sendAll wsX2_clear := goodIn_r _ [7, 8, 9, 10, 11, 12, 13, 74, 75] (by decide +kernel) (by decide +kernel)
set_option maxRecDepth 20000 in
theorem gX4_sendAll_X2_clear_n189 : GoodIn wsX4_sendAll (wsX2_clear) := ggX4_sendAll_X2_clear
set_option maxRecDepth 20000 in
theorem ggX4_sendAll_X1_isConnected : GoodIn wsX4_sendAll wsX1_isConnected := goodIn_r _ [17, 18, 19, 20, 21, 76, 77, 78, 79] (by decide +kernel) (by decide +kernel)
set_option maxRecDepth 20000 in
theorem gX4_sendAll_X1_isConnected_n68 : GoodIn wsX4_sendAll (wsX1_isConnected) := ggX4_sendAll_X1_isConnected
set_option maxRecDepth 20000 in
theorem ggX4_sendAll_X4_sendFrom : GoodIn wsX4_sendAll wsX4_sendFrom := goodIn_r _ [25, 26, 1, 27, 28, 29, 20, 30, 31, 32, 33, 34, 35, 36, 37, 38, 39, 40, 41, 42, 43, 44, 45, 46, 47, 48, 49, 50, 51, 52, 53, 54, 55, 56, 57, 58, 59, 60, 61, 62, 63, 64, 65, 66, 67, 68, 69, 70, 71, 72, 73, 74, 75, 80, 81, 82, 83] (by decide +kernel) (by decide +kernel)
set_option maxRecDepth 20000 in
theorem gX4_sendAll_X4_sendFrom : GoodIn wsX4_sendAll (wsV RX4 192 RX4 yX4_sendFrom wsX4_sendFrom) := goodIn_app (goodIn_of _ (by decide +kernel)) ggX4_sendAll_X4_sendFrom
theorem dX4_sendAll_0 : decode cX4_sendAll 0 = .ok (.aload_n 0, 1) := by decide +kernel
theorem dX4_sendAll_1 : decode cX4_sendAll 1 = .ok (.getfield 33, 3) := by decide +kernel
theorem dX4_sendAll_4 : decode cX4_sendAll 4 = .ok (.invokevirtual 189, 3) := by decide +kernel
theorem dX4_sendAll_7 : decode cX4_sendAll 7 = .ok (.iconst 0, 1) := by decide +kernel
theorem dX4_sendAll_8 : decode cX4_sendAll 8 = .ok (.istore_n 1, 1) := by decide +kernel
theorem dX4_sendAll_9 : decode cX4_sendAll 9 = .ok (.iconst 0, 1) := by decide +kernel
theorem dX4_sendAll_10 : decode cX4_sendAll 10 = .ok (.istore_n 2, 1) := by decide +kernel
theorem dX4_sendAll_11 : decode cX4_sendAll 11 = .ok (.iload_n 2, 1) := by decide +kernel
theorem dX4_sendAll_12 : decode cX4_sendAll 12 = .ok (.bipush 28, 2) := by decide +kernel
theorem dX4_sendAll_14 : decode cX4_sendAll 14 = .ok (.if_icmp .ge 37, 3) := by decide +kernel
theorem dX4_sendAll_17 : decode cX4_sendAll 17 = .ok (.aload_n 0, 1) := by decide +kernel
theorem dX4_sendAll_18 : decode cX4_sendAll 18 = .ok (.getfield 12, 3) := by decide +kernel
theorem dX4_sendAll_21 : decode cX4_sendAll 21 = .ok (.iload_n 2, 1) := by decide +kernel
theorem dX4_sendAll_22 : decode cX4_sendAll 22 = .ok (.invokevirtual 68, 3) := by decide +kernel
theorem dX4_sendAll_25 : decode cX4_sendAll 25 = .ok (.ifCond .eq 20, 3) := by decide +kernel
theorem dX4_sendAll_28 : decode cX4_sendAll 28 = .ok (.aload_n 0, 1) := by decide +kernel
theorem dX4_sendAll_29 : decode cX4_sendAll 29 = .ok (.getfield 48, 3) := by decide +kernel
theorem dX4_sendAll_32 : decode cX4_sendAll 32 = .ok (.iload_n 2, 1) := by decide +kernel
theorem dX4_sendAll_33 : decode cX4_sendAll 33 = .ok (.baload, 1) := by decide +kernel
theorem dX4_sendAll_34 : decode cX4_sendAll 34 = .ok (.ifCond .ne 11, 3) := by decide +kernel
theorem dX4_sendAll_37 : decode cX4_sendAll 37 = .ok (.iload_n 1, 1) := by decide +kernel
theorem dX4_sendAll_38 : decode cX4_sendAll 38 = .ok (.aload_n 0, 1) := by decide +kernel
theorem dX4_sendAll_39 : decode cX4_sendAll 39 = .ok (.iload_n 2, 1) := by decide +kernel
theorem dX4_sendAll_40 : decode cX4_sendAll 40 = .ok (.invokevirtual 192, 3) := by decide +kernel
theorem dX4_sendAll_43 : decode cX4_sendAll 43 = .ok (.iadd, 1) := by decide +kernel
theorem dX4_sendAll_44 : decode cX4_sendAll 44 = .ok (.istore_n 1, 1) := by decide +kernel
theorem dX4_sendAll_45 : decode cX4_sendAll 45 = .ok (.iinc 2 1, 3) := by decide +kernel
theorem dX4_sendAll_48 : decode cX4_sendAll 48 = .ok (.goto (-37), 3) := by decide +kernel
theorem dX4_sendAll_51 : decode cX4_sendAll 51 = .ok (.iload_n 1, 1) := by decide +kernel
theorem dX4_sendAll_52 : decode cX4_sendAll 52 = .ok (.ireturn, 1) := by decide +kernel
set_option maxRecDepth 20000 in
theorem ggX4_sendFrom_X4_isPort : GoodIn wsX4_sendFrom wsX4_isPort := goodIn_r _ [7] (by decide +kernel) (by decide +kernel)
set_option maxRecDepth 20000 in
theorem gX4_sendFrom_X4_isPort : GoodIn wsX4_sendFrom (va_wsS RX4 89 yX4_isPort wsX4_isPort) := goodIn_app (goodIn_of _ (by decide +kernel)) ggX4_sendFrom_X4_isPort
set_option maxRecDepth 20000 in
theorem ggX4_sendFrom_X4_obeyLeaveAll : GoodIn wsX4_sendFrom wsX4_obeyLeaveAll := goodIn_r _ [11, 12, 13, 3, 14, 15, 6, 16, 4, 5, 7, 17, 18, 19, 20, 21, 22, 23, 24, 25, 26, 27, 28, 29, 30, 31, 32, 33, 34, 35, 36, 40, 41, 42, 43, 44, 45, 46, 47, 48, 49, 50, 53, 54, 55, 56] (by decide +kernel) (by decide +kernel)
set_option maxRecDepth 20000 in
theorem gX4_sendFrom_X4_obeyLeaveAll : GoodIn wsX4_sendFrom (wsV RX4 198 RX4 yX4_obeyLeaveAll wsX4_obeyLeaveAll) := goodIn_app (goodIn_of _ (by decide +kernel)) ggX4_sendFrom_X4_obeyLeaveAll
set_option maxRecDepth 20000 in
theorem ggX4_sendFrom_X4_cellOf : GoodIn wsX4_sendFrom wsX4_cellOf := goodIn_r _ [16] (by decide +kernel) (by decide +kernel)
set_option maxRecDepth 20000 in
theorem gX4_sendFrom_X4_cellOf : GoodIn wsX4_sendFrom (va_wsS RX4 150 yX4_cellOf wsX4_cellOf) := goodIn_app (goodIn_of _ (by decide +kernel)) ggX4_sendFrom_X4_cellOf
set_option maxRecDepth 20000 in
theorem ggX4_sendFrom_X0_nextMessage : GoodIn wsX4_sendFrom wsX0_nextMessage := goodIn_r _ [39, 31, 36, 55, 56] (by decide +kernel) (by decide +kernel)
set_option maxRecDepth 20000 in
theorem gX4_sendFrom_X0_nextMessage_n204 : GoodIn wsX4_sendFrom (wsX0_nextMessage) := ggX4_sendFrom_X0_nextMessage
theorem dX4_sendFrom_0 : decode cX4_sendFrom 0 = .ok (.iconst 0, 1) := by decide +kernel
theorem dX4_sendFrom_1 : decode cX4_sendFrom 1 = .ok (.istore_n 2, 1) := by decide +kernel
theorem dX4_sendFrom_2 : decode cX4_sendFrom 2 = .ok (.iload_n 1, 1) := by decide +kernel
theorem dX4_sendFrom_3 : decode cX4_sendFrom 3 = .ok (.invokestatic 89, 3) := by decide +kernel
theorem dX4_sendFrom_6 : decode cX4_sendFrom 6 = .ok (.ifCond .eq 30, 3) := by decide +kernel
theorem dX4_sendFrom_9 : decode cX4_sendFrom 9 = .ok (.aload_n 0, 1) := by decide +kernel
theorem dX4_sendFrom_10 : decode cX4_sendFrom 10 = .ok (.getfield 41, 3) := by decide +kernel
theorem dX4_sendFrom_13 : decode cX4_sendFrom 13 = .ok (.iload_n 1, 1) := by decide +kernel
theorem dX4_sendFrom_14 : decode cX4_sendFrom 14 = .ok (.baload, 1) := by decide +kernel
theorem dX4_sendFrom_15 : decode cX4_sendFrom 15 = .ok (.ifCond .eq 21, 3) := by decide +kernel
theorem dX4_sendFrom_18 : decode cX4_sendFrom 18 = .ok (.aload_n 0, 1) := by decide +kernel
theorem dX4_sendFrom_19 : decode cX4_sendFrom 19 = .ok (.getfield 33, 3) := by decide +kernel
theorem dX4_sendFrom_22 : decode cX4_sendFrom 22 = .ok (.getfield 195, 3) := by decide +kernel
theorem dX4_sendFrom_25 : decode cX4_sendFrom 25 = .ok (.iload_n 1, 1) := by decide +kernel
theorem dX4_sendFrom_26 : decode cX4_sendFrom 26 = .ok (.iconst 1, 1) := by decide +kernel
theorem dX4_sendFrom_27 : decode cX4_sendFrom 27 = .ok (.bastore, 1) := by decide +kernel
theorem dX4_sendFrom_28 : decode cX4_sendFrom 28 = .ok (.aload_n 0, 1) := by decide +kernel
theorem dX4_sendFrom_29 : decode cX4_sendFrom 29 = .ok (.iload_n 1, 1) := by decide +kernel
theorem dX4_sendFrom_30 : decode cX4_sendFrom 30 = .ok (.invokevirtual 198, 3) := by decide +kernel
theorem dX4_sendFrom_33 : decode cX4_sendFrom 33 = .ok (.iinc 2 1, 3) := by decide +kernel
theorem dX4_sendFrom_36 : decode cX4_sendFrom 36 = .ok (.iconst 0, 1) := by decide +kernel
theorem dX4_sendFrom_37 : decode cX4_sendFrom 37 = .ok (.istore_n 3, 1) := by decide +kernel
theorem dX4_sendFrom_38 : decode cX4_sendFrom 38 = .ok (.iload_n 3, 1) := by decide +kernel
theorem dX4_sendFrom_39 : decode cX4_sendFrom 39 = .ok (.iconst 4, 1) := by decide +kernel
theorem dX4_sendFrom_40 : decode cX4_sendFrom 40 = .ok (.if_icmp .ge 51, 3) := by decide +kernel
theorem dX4_sendFrom_43 : decode cX4_sendFrom 43 = .ok (.iload_n 1, 1) := by decide +kernel
theorem dX4_sendFrom_44 : decode cX4_sendFrom 44 = .ok (.iload_n 3, 1) := by decide +kernel
theorem dX4_sendFrom_45 : decode cX4_sendFrom 45 = .ok (.invokestatic 150, 3) := by decide +kernel
theorem dX4_sendFrom_48 : decode cX4_sendFrom 48 = .ok (.istore 4, 2) := by decide +kernel
theorem dX4_sendFrom_50 : decode cX4_sendFrom 50 = .ok (.aload_n 0, 1) := by decide +kernel
theorem dX4_sendFrom_51 : decode cX4_sendFrom 51 = .ok (.getfield 33, 3) := by decide +kernel
theorem dX4_sendFrom_54 : decode cX4_sendFrom 54 = .ok (.getfield 201, 3) := by decide +kernel
theorem dX4_sendFrom_57 : decode cX4_sendFrom 57 = .ok (.iload 4, 2) := by decide +kernel
theorem dX4_sendFrom_59 : decode cX4_sendFrom 59 = .ok (.aload_n 0, 1) := by decide +kernel
theorem dX4_sendFrom_60 : decode cX4_sendFrom 60 = .ok (.getfield 26, 3) := by decide +kernel
theorem dX4_sendFrom_63 : decode cX4_sendFrom 63 = .ok (.iload 4, 2) := by decide +kernel
theorem dX4_sendFrom_65 : decode cX4_sendFrom 65 = .ok (.invokevirtual 204, 3) := by decide +kernel
theorem dX4_sendFrom_68 : decode cX4_sendFrom 68 = .ok (.iastore, 1) := by decide +kernel
theorem dX4_sendFrom_69 : decode cX4_sendFrom 69 = .ok (.aload_n 0, 1) := by decide +kernel
theorem dX4_sendFrom_70 : decode cX4_sendFrom 70 = .ok (.getfield 33, 3) := by decide +kernel
theorem dX4_sendFrom_73 : decode cX4_sendFrom 73 = .ok (.getfield 201, 3) := by decide +kernel
theorem dX4_sendFrom_76 : decode cX4_sendFrom 76 = .ok (.iload 4, 2) := by decide +kernel
theorem dX4_sendFrom_78 : decode cX4_sendFrom 78 = .ok (.iaload, 1) := by decide +kernel
theorem dX4_sendFrom_79 : decode cX4_sendFrom 79 = .ok (.ifCond .eq 6, 3) := by decide +kernel
theorem dX4_sendFrom_82 : decode cX4_sendFrom 82 = .ok (.iinc 2 1, 3) := by decide +kernel
theorem dX4_sendFrom_85 : decode cX4_sendFrom 85 = .ok (.iinc 3 1, 3) := by decide +kernel
theorem dX4_sendFrom_88 : decode cX4_sendFrom 88 = .ok (.goto (-50), 3) := by decide +kernel
theorem dX4_sendFrom_91 : decode cX4_sendFrom 91 = .ok (.iload_n 2, 1) := by decide +kernel
theorem dX4_sendFrom_92 : decode cX4_sendFrom 92 = .ok (.ireturn, 1) := by decide +kernel
set_option maxRecDepth 20000 in
theorem ggX4_obeyLeaveAll_X4_cellOf : GoodIn wsX4_obeyLeaveAll wsX4_cellOf := goodIn_r _ [7] (by decide +kernel) (by decide +kernel)
set_option maxRecDepth 20000 in
theorem gX4_obeyLeaveAll_X4_cellOf : GoodIn wsX4_obeyLeaveAll (va_wsS RX4 150 yX4_cellOf wsX4_cellOf) := goodIn_app (goodIn_of _ (by decide +kernel)) ggX4_obeyLeaveAll_X4_cellOf
set_option maxRecDepth 20000 in
theorem ggX4_obeyLeaveAll_X4_isPort : GoodIn wsX4_obeyLeaveAll wsX4_isPort := goodIn_r _ [10] (by decide +kernel) (by decide +kernel)
set_option maxRecDepth 20000 in
theorem gX4_obeyLeaveAll_X4_isPort : GoodIn wsX4_obeyLeaveAll (va_wsS RX4 89 yX4_isPort wsX4_isPort) := goodIn_app (goodIn_of _ (by decide +kernel)) ggX4_obeyLeaveAll_X4_isPort
set_option maxRecDepth 20000 in
theorem ggX4_obeyLeaveAll_X3_startLeaving : GoodIn wsX4_obeyLeaveAll wsX3_startLeaving := goodIn_r _ [14, 15, 16, 17, 18, 12, 19, 20, 42, 43] (by decide +kernel) (by decide +kernel)
set_option maxRecDepth 20000 in
theorem gX4_obeyLeaveAll_X3_startLeaving_n207 : GoodIn wsX4_obeyLeaveAll (wsX3_startLeaving) := ggX4_obeyLeaveAll_X3_startLeaving
set_option maxRecDepth 20000 in
theorem ggX4_obeyLeaveAll_X0_declareAgain : GoodIn wsX4_obeyLeaveAll wsX0_declareAgain := goodIn_r _ [24, 25, 26, 27, 28, 22, 29, 30, 44, 45] (by decide +kernel) (by decide +kernel)
set_option maxRecDepth 20000 in
theorem gX4_obeyLeaveAll_X0_declareAgain_n210 : GoodIn wsX4_obeyLeaveAll (wsX0_declareAgain) := ggX4_obeyLeaveAll_X0_declareAgain
theorem dX4_obeyLeaveAll_0 : decode cX4_obeyLeaveAll 0 = .ok (.iconst 0, 1) := by decide +kernel
theorem dX4_obeyLeaveAll_1 : decode cX4_obeyLeaveAll 1 = .ok (.istore_n 2, 1) := by decide +kernel
theorem dX4_obeyLeaveAll_2 : decode cX4_obeyLeaveAll 2 = .ok (.iload_n 2, 1) := by decide +kernel
theorem dX4_obeyLeaveAll_3 : decode cX4_obeyLeaveAll 3 = .ok (.iconst 4, 1) := by decide +kernel
theorem dX4_obeyLeaveAll_4 : decode cX4_obeyLeaveAll 4 = .ok (.if_icmp .ge 42, 3) := by decide +kernel
theorem dX4_obeyLeaveAll_7 : decode cX4_obeyLeaveAll 7 = .ok (.iload_n 1, 1) := by decide +kernel
theorem dX4_obeyLeaveAll_8 : decode cX4_obeyLeaveAll 8 = .ok (.iload_n 2, 1) := by decide +kernel
theorem dX4_obeyLeaveAll_9 : decode cX4_obeyLeaveAll 9 = .ok (.invokestatic 150, 3) := by decide +kernel
theorem dX4_obeyLeaveAll_12 : decode cX4_obeyLeaveAll 12 = .ok (.istore_n 3, 1) := by decide +kernel
theorem dX4_obeyLeaveAll_13 : decode cX4_obeyLeaveAll 13 = .ok (.iload_n 1, 1) := by decide +kernel
theorem dX4_obeyLeaveAll_14 : decode cX4_obeyLeaveAll 14 = .ok (.invokestatic 89, 3) := by decide +kernel
theorem dX4_obeyLeaveAll_17 : decode cX4_obeyLeaveAll 17 = .ok (.ifCond .eq 15, 3) := by decide +kernel
theorem dX4_obeyLeaveAll_20 : decode cX4_obeyLeaveAll 20 = .ok (.aload_n 0, 1) := by decide +kernel
theorem dX4_obeyLeaveAll_21 : decode cX4_obeyLeaveAll 21 = .ok (.getfield 19, 3) := by decide +kernel
theorem dX4_obeyLeaveAll_24 : decode cX4_obeyLeaveAll 24 = .ok (.iload_n 3, 1) := by decide +kernel
theorem dX4_obeyLeaveAll_25 : decode cX4_obeyLeaveAll 25 = .ok (.aload_n 0, 1) := by decide +kernel
theorem dX4_obeyLeaveAll_26 : decode cX4_obeyLeaveAll 26 = .ok (.getfield 51, 3) := by decide +kernel
theorem dX4_obeyLeaveAll_29 : decode cX4_obeyLeaveAll 29 = .ok (.invokevirtual 207, 3) := by decide +kernel
theorem dX4_obeyLeaveAll_32 : decode cX4_obeyLeaveAll 32 = .ok (.aload_n 0, 1) := by decide +kernel
theorem dX4_obeyLeaveAll_33 : decode cX4_obeyLeaveAll 33 = .ok (.getfield 26, 3) := by decide +kernel
theorem dX4_obeyLeaveAll_36 : decode cX4_obeyLeaveAll 36 = .ok (.iload_n 3, 1) := by decide +kernel
theorem dX4_obeyLeaveAll_37 : decode cX4_obeyLeaveAll 37 = .ok (.invokevirtual 210, 3) := by decide +kernel
theorem dX4_obeyLeaveAll_40 : decode cX4_obeyLeaveAll 40 = .ok (.iinc 2 1, 3) := by decide +kernel
theorem dX4_obeyLeaveAll_43 : decode cX4_obeyLeaveAll 43 = .ok (.goto (-41), 3) := by decide +kernel
theorem dX4_obeyLeaveAll_46 : decode cX4_obeyLeaveAll 46 = .ok (.return_, 1) := by decide +kernel
set_option maxRecDepth 20000 in
theorem ggX4_receiveAll_X4_isStation : GoodIn wsX4_receiveAll wsX4_isStation := goodIn_r _ [6] (by decide +kernel) (by decide +kernel)
set_option maxRecDepth 20000 in
theorem gX4_receiveAll_X4_isStation : GoodIn wsX4_receiveAll (va_wsS RX4 213 yX4_isStation wsX4_isStation) := goodIn_app (goodIn_of _ (by decide +kernel)) ggX4_receiveAll_X4_isStation
set_option maxRecDepth 20000 in
theorem ggX4_receiveAll_X4_receiveFrom : GoodIn wsX4_receiveAll wsX4_receiveFrom := goodIn_r _ [10, 11, 12, 13, 14, 15, 16, 5, 17, 18, 19, 20, 21, 22, 23, 24, 25, 26, 27, 28, 29, 30, 31, 32, 33, 34, 35, 36, 37, 38, 39, 40, 41, 42, 43, 44, 45, 46, 47, 48, 49, 50, 51, 52, 53, 54, 55, 56, 57, 58, 59, 64, 65, 66, 67, 68, 69] (by decide +kernel) (by decide +kernel)
set_option maxRecDepth 20000 in
theorem gX4_receiveAll_X4_receiveFrom : GoodIn wsX4_receiveAll (wsV RX4 216 RX4 yX4_receiveFrom wsX4_receiveFrom) := goodIn_app (goodIn_of _ (by decide +kernel)) ggX4_receiveAll_X4_receiveFrom
theorem dX4_receiveAll_0 : decode cX4_receiveAll 0 = .ok (.iconst 0, 1) := by decide +kernel
theorem dX4_receiveAll_1 : decode cX4_receiveAll 1 = .ok (.istore_n 1, 1) := by decide +kernel
theorem dX4_receiveAll_2 : decode cX4_receiveAll 2 = .ok (.iload_n 1, 1) := by decide +kernel
theorem dX4_receiveAll_3 : decode cX4_receiveAll 3 = .ok (.bipush 28, 2) := by decide +kernel
theorem dX4_receiveAll_5 : decode cX4_receiveAll 5 = .ok (.if_icmp .ge 48, 3) := by decide +kernel
theorem dX4_receiveAll_8 : decode cX4_receiveAll 8 = .ok (.aload_n 0, 1) := by decide +kernel
theorem dX4_receiveAll_9 : decode cX4_receiveAll 9 = .ok (.getfield 12, 3) := by decide +kernel
theorem dX4_receiveAll_12 : decode cX4_receiveAll 12 = .ok (.getfield 86, 3) := by decide +kernel
theorem dX4_receiveAll_15 : decode cX4_receiveAll 15 = .ok (.iload_n 1, 1) := by decide +kernel
theorem dX4_receiveAll_16 : decode cX4_receiveAll 16 = .ok (.iaload, 1) := by decide +kernel
theorem dX4_receiveAll_17 : decode cX4_receiveAll 17 = .ok (.istore_n 2, 1) := by decide +kernel
theorem dX4_receiveAll_18 : decode cX4_receiveAll 18 = .ok (.iload_n 2, 1) := by decide +kernel
theorem dX4_receiveAll_19 : decode cX4_receiveAll 19 = .ok (.invokestatic 213, 3) := by decide +kernel
theorem dX4_receiveAll_22 : decode cX4_receiveAll 22 = .ok (.ifCond .eq 18, 3) := by decide +kernel
theorem dX4_receiveAll_25 : decode cX4_receiveAll 25 = .ok (.aload_n 0, 1) := by decide +kernel
theorem dX4_receiveAll_26 : decode cX4_receiveAll 26 = .ok (.getfield 45, 3) := by decide +kernel
theorem dX4_receiveAll_29 : decode cX4_receiveAll 29 = .ok (.iload_n 1, 1) := by decide +kernel
theorem dX4_receiveAll_30 : decode cX4_receiveAll 30 = .ok (.baload, 1) := by decide +kernel
theorem dX4_receiveAll_31 : decode cX4_receiveAll 31 = .ok (.ifCond .ne 9, 3) := by decide +kernel
theorem dX4_receiveAll_34 : decode cX4_receiveAll 34 = .ok (.aload_n 0, 1) := by decide +kernel
theorem dX4_receiveAll_35 : decode cX4_receiveAll 35 = .ok (.iload_n 1, 1) := by decide +kernel
theorem dX4_receiveAll_36 : decode cX4_receiveAll 36 = .ok (.iload_n 2, 1) := by decide +kernel
theorem dX4_receiveAll_37 : decode cX4_receiveAll 37 = .ok (.invokevirtual 216, 3) := by decide +kernel
theorem dX4_receiveAll_40 : decode cX4_receiveAll 40 = .ok (.aload_n 0, 1) := by decide +kernel
theorem dX4_receiveAll_41 : decode cX4_receiveAll 41 = .ok (.getfield 45, 3) := by decide +kernel
theorem dX4_receiveAll_44 : decode cX4_receiveAll 44 = .ok (.iload_n 1, 1) := by decide +kernel
theorem dX4_receiveAll_45 : decode cX4_receiveAll 45 = .ok (.iconst 0, 1) := by decide +kernel
theorem dX4_receiveAll_46 : decode cX4_receiveAll 46 = .ok (.bastore, 1) := by decide +kernel
theorem dX4_receiveAll_47 : decode cX4_receiveAll 47 = .ok (.iinc 1 1, 3) := by decide +kernel
theorem dX4_receiveAll_50 : decode cX4_receiveAll 50 = .ok (.goto (-48), 3) := by decide +kernel
theorem dX4_receiveAll_53 : decode cX4_receiveAll 53 = .ok (.return_, 1) := by decide +kernel
set_option maxRecDepth 20000 in
theorem ggX4_receiveFrom_X4_obeyLeaveAll : GoodIn wsX4_receiveFrom wsX4_obeyLeaveAll := goodIn_r _ [8, 2, 3, 9, 10, 11, 7, 12, 13, 14, 15, 16, 17, 18, 19, 20, 21, 22, 23, 24, 25, 26, 27, 28, 29, 30, 31, 32, 33, 34, 35, 40, 41, 42, 43, 44, 45, 46, 47, 48, 49, 50, 53, 54, 55, 56] (by decide +kernel) (by decide +kernel)
set_option maxRecDepth 20000 in
theorem gX4_receiveFrom_X4_obeyLeaveAll : GoodIn wsX4_receiveFrom (wsV RX4 198 RX4 yX4_obeyLeaveAll wsX4_obeyLeaveAll) := goodIn_app (goodIn_of _ (by decide +kernel)) ggX4_receiveFrom_X4_obeyLeaveAll
set_option maxRecDepth 20000 in
theorem ggX4_receiveFrom_X4_isPort : GoodIn wsX4_receiveFrom wsX4_isPort := goodIn_r _ [15] (by decide +kernel) (by decide +kernel)
set_option maxRecDepth 20000 in
theorem gX4_receiveFrom_X4_isPort : GoodIn wsX4_receiveFrom (va_wsS RX4 89 yX4_isPort wsX4_isPort) := goodIn_app (goodIn_of _ (by decide +kernel)) ggX4_receiveFrom_X4_isPort
set_option maxRecDepth 20000 in
theorem ggX4_receiveFrom_X4_cellOf : GoodIn wsX4_receiveFrom wsX4_cellOf := goodIn_r _ [12] (by decide +kernel) (by decide +kernel)
set_option maxRecDepth 20000 in
theorem gX4_receiveFrom_X4_cellOf : GoodIn wsX4_receiveFrom (va_wsS RX4 150 yX4_cellOf wsX4_cellOf) := goodIn_app (goodIn_of _ (by decide +kernel)) ggX4_receiveFrom_X4_cellOf
set_option maxRecDepth 20000 in
theorem ggX4_receiveFrom_X3_hear : GoodIn wsX4_receiveFrom wsX3_hear := goodIn_r _ [38, 21, 22, 23, 17, 24, 20, 25, 39, 16, 18, 19, 53, 54] (by decide +kernel) (by decide +kernel)
set_option maxRecDepth 20000 in
theorem gX4_receiveFrom_X3_hear_n219 : GoodIn wsX4_receiveFrom (wsX3_hear) := ggX4_receiveFrom_X3_hear
theorem dX4_receiveFrom_0 : decode cX4_receiveFrom 0 = .ok (.aload_n 0, 1) := by decide +kernel
theorem dX4_receiveFrom_1 : decode cX4_receiveFrom 1 = .ok (.getfield 33, 3) := by decide +kernel
theorem dX4_receiveFrom_4 : decode cX4_receiveFrom 4 = .ok (.getfield 195, 3) := by decide +kernel
theorem dX4_receiveFrom_7 : decode cX4_receiveFrom 7 = .ok (.iload_n 1, 1) := by decide +kernel
theorem dX4_receiveFrom_8 : decode cX4_receiveFrom 8 = .ok (.baload, 1) := by decide +kernel
theorem dX4_receiveFrom_9 : decode cX4_receiveFrom 9 = .ok (.ifCond .eq 8, 3) := by decide +kernel
theorem dX4_receiveFrom_12 : decode cX4_receiveFrom 12 = .ok (.aload_n 0, 1) := by decide +kernel
theorem dX4_receiveFrom_13 : decode cX4_receiveFrom 13 = .ok (.iload_n 2, 1) := by decide +kernel
theorem dX4_receiveFrom_14 : decode cX4_receiveFrom 14 = .ok (.invokevirtual 198, 3) := by decide +kernel
theorem dX4_receiveFrom_17 : decode cX4_receiveFrom 17 = .ok (.iload_n 2, 1) := by decide +kernel
theorem dX4_receiveFrom_18 : decode cX4_receiveFrom 18 = .ok (.invokestatic 89, 3) := by decide +kernel
theorem dX4_receiveFrom_21 : decode cX4_receiveFrom 21 = .ok (.ifCond .eq 49, 3) := by decide +kernel
theorem dX4_receiveFrom_24 : decode cX4_receiveFrom 24 = .ok (.iconst 0, 1) := by decide +kernel
theorem dX4_receiveFrom_25 : decode cX4_receiveFrom 25 = .ok (.istore_n 3, 1) := by decide +kernel
theorem dX4_receiveFrom_26 : decode cX4_receiveFrom 26 = .ok (.iload_n 3, 1) := by decide +kernel
theorem dX4_receiveFrom_27 : decode cX4_receiveFrom 27 = .ok (.iconst 4, 1) := by decide +kernel
theorem dX4_receiveFrom_28 : decode cX4_receiveFrom 28 = .ok (.if_icmp .ge 42, 3) := by decide +kernel
theorem dX4_receiveFrom_31 : decode cX4_receiveFrom 31 = .ok (.aload_n 0, 1) := by decide +kernel
theorem dX4_receiveFrom_32 : decode cX4_receiveFrom 32 = .ok (.getfield 33, 3) := by decide +kernel
theorem dX4_receiveFrom_35 : decode cX4_receiveFrom 35 = .ok (.getfield 201, 3) := by decide +kernel
theorem dX4_receiveFrom_38 : decode cX4_receiveFrom 38 = .ok (.iload_n 1, 1) := by decide +kernel
theorem dX4_receiveFrom_39 : decode cX4_receiveFrom 39 = .ok (.iload_n 3, 1) := by decide +kernel
theorem dX4_receiveFrom_40 : decode cX4_receiveFrom 40 = .ok (.invokestatic 150, 3) := by decide +kernel
theorem dX4_receiveFrom_43 : decode cX4_receiveFrom 43 = .ok (.iaload, 1) := by decide +kernel
theorem dX4_receiveFrom_44 : decode cX4_receiveFrom 44 = .ok (.istore 4, 2) := by decide +kernel
theorem dX4_receiveFrom_46 : decode cX4_receiveFrom 46 = .ok (.aload_n 0, 1) := by decide +kernel
theorem dX4_receiveFrom_47 : decode cX4_receiveFrom 47 = .ok (.getfield 19, 3) := by decide +kernel
theorem dX4_receiveFrom_50 : decode cX4_receiveFrom 50 = .ok (.iload_n 2, 1) := by decide +kernel
theorem dX4_receiveFrom_51 : decode cX4_receiveFrom 51 = .ok (.iload_n 3, 1) := by decide +kernel
theorem dX4_receiveFrom_52 : decode cX4_receiveFrom 52 = .ok (.invokestatic 150, 3) := by decide +kernel
theorem dX4_receiveFrom_55 : decode cX4_receiveFrom 55 = .ok (.iload 4, 2) := by decide +kernel
theorem dX4_receiveFrom_57 : decode cX4_receiveFrom 57 = .ok (.aload_n 0, 1) := by decide +kernel
theorem dX4_receiveFrom_58 : decode cX4_receiveFrom 58 = .ok (.getfield 51, 3) := by decide +kernel
theorem dX4_receiveFrom_61 : decode cX4_receiveFrom 61 = .ok (.invokevirtual 219, 3) := by decide +kernel
theorem dX4_receiveFrom_64 : decode cX4_receiveFrom 64 = .ok (.iinc 3 1, 3) := by decide +kernel
theorem dX4_receiveFrom_67 : decode cX4_receiveFrom 67 = .ok (.goto (-41), 3) := by decide +kernel
theorem dX4_receiveFrom_70 : decode cX4_receiveFrom 70 = .ok (.return_, 1) := by decide +kernel
set_option maxRecDepth 20000 in
theorem ggX4_bridgesBetweenHosts_X4_isPort : GoodIn wsX4_bridgesBetweenHosts wsX4_isPort := goodIn_r _ [5] (by decide +kernel) (by decide +kernel)
set_option maxRecDepth 20000 in
theorem gX4_bridgesBetweenHosts_X4_isPort : GoodIn wsX4_bridgesBetweenHosts (va_wsS RX4 89 yX4_isPort wsX4_isPort) := goodIn_app (goodIn_of _ (by decide +kernel)) ggX4_bridgesBetweenHosts_X4_isPort
set_option maxRecDepth 20000 in
theorem ggX4_bridgesBetweenHosts_X4_bridgeOf : GoodIn wsX4_bridgesBetweenHosts wsX4_bridgeOf := goodIn_r _ [8] (by decide +kernel) (by decide +kernel)
set_option maxRecDepth 20000 in
theorem gX4_bridgesBetweenHosts_X4_bridgeOf : GoodIn wsX4_bridgesBetweenHosts (va_wsS RX4 168 yX4_bridgeOf wsX4_bridgeOf) := goodIn_app (goodIn_of _ (by decide +kernel)) ggX4_bridgesBetweenHosts_X4_bridgeOf
set_option maxRecDepth 20000 in
theorem ggX4_bridgesBetweenHosts_X1_bridgesOnWay : GoodIn wsX4_bridgesBetweenHosts wsX1_bridgesOnWay := goodIn_r _ [12, 13, 4, 14, 15, 16, 17, 10, 18, 19, 7, 8, 3, 5, 31, 32, 33, 34] (by decide +kernel) (by decide +kernel)
set_option maxRecDepth 20000 in
theorem gX4_bridgesBetweenHosts_X1_bridgesOnWay_n72 : GoodIn wsX4_bridgesBetweenHosts (wsX1_bridgesOnWay) := ggX4_bridgesBetweenHosts_X1_bridgesOnWay
theorem dX4_bridgesBetweenHosts_0 : decode cX4_bridgesBetweenHosts 0 = .ok (.aload_n 0, 1) := by decide +kernel
theorem dX4_bridgesBetweenHosts_1 : decode cX4_bridgesBetweenHosts 1 = .ok (.getfield 12, 3) := by decide +kernel
theorem dX4_bridgesBetweenHosts_4 : decode cX4_bridgesBetweenHosts 4 = .ok (.getfield 86, 3) := by decide +kernel
theorem dX4_bridgesBetweenHosts_7 : decode cX4_bridgesBetweenHosts 7 = .ok (.bipush 20, 2) := by decide +kernel
theorem dX4_bridgesBetweenHosts_9 : decode cX4_bridgesBetweenHosts 9 = .ok (.iload_n 1, 1) := by decide +kernel
theorem dX4_bridgesBetweenHosts_10 : decode cX4_bridgesBetweenHosts 10 = .ok (.iadd, 1) := by decide +kernel
theorem dX4_bridgesBetweenHosts_11 : decode cX4_bridgesBetweenHosts 11 = .ok (.iaload, 1) := by decide +kernel
theorem dX4_bridgesBetweenHosts_12 : decode cX4_bridgesBetweenHosts 12 = .ok (.istore_n 3, 1) := by decide +kernel
theorem dX4_bridgesBetweenHosts_13 : decode cX4_bridgesBetweenHosts 13 = .ok (.aload_n 0, 1) := by decide +kernel
theorem dX4_bridgesBetweenHosts_14 : decode cX4_bridgesBetweenHosts 14 = .ok (.getfield 12, 3) := by decide +kernel
theorem dX4_bridgesBetweenHosts_17 : decode cX4_bridgesBetweenHosts 17 = .ok (.getfield 86, 3) := by decide +kernel
theorem dX4_bridgesBetweenHosts_20 : decode cX4_bridgesBetweenHosts 20 = .ok (.bipush 20, 2) := by decide +kernel
theorem dX4_bridgesBetweenHosts_22 : decode cX4_bridgesBetweenHosts 22 = .ok (.iload_n 2, 1) := by decide +kernel
theorem dX4_bridgesBetweenHosts_23 : decode cX4_bridgesBetweenHosts 23 = .ok (.iadd, 1) := by decide +kernel
theorem dX4_bridgesBetweenHosts_24 : decode cX4_bridgesBetweenHosts 24 = .ok (.iaload, 1) := by decide +kernel
theorem dX4_bridgesBetweenHosts_25 : decode cX4_bridgesBetweenHosts 25 = .ok (.istore 4, 2) := by decide +kernel
theorem dX4_bridgesBetweenHosts_27 : decode cX4_bridgesBetweenHosts 27 = .ok (.iload_n 3, 1) := by decide +kernel
theorem dX4_bridgesBetweenHosts_28 : decode cX4_bridgesBetweenHosts 28 = .ok (.invokestatic 89, 3) := by decide +kernel
theorem dX4_bridgesBetweenHosts_31 : decode cX4_bridgesBetweenHosts 31 = .ok (.ifCond .eq 11, 3) := by decide +kernel
theorem dX4_bridgesBetweenHosts_34 : decode cX4_bridgesBetweenHosts 34 = .ok (.iload 4, 2) := by decide +kernel
theorem dX4_bridgesBetweenHosts_36 : decode cX4_bridgesBetweenHosts 36 = .ok (.invokestatic 89, 3) := by decide +kernel
theorem dX4_bridgesBetweenHosts_39 : decode cX4_bridgesBetweenHosts 39 = .ok (.ifCond .ne 5, 3) := by decide +kernel
theorem dX4_bridgesBetweenHosts_42 : decode cX4_bridgesBetweenHosts 42 = .ok (.iconst 0, 1) := by decide +kernel
theorem dX4_bridgesBetweenHosts_43 : decode cX4_bridgesBetweenHosts 43 = .ok (.ireturn, 1) := by decide +kernel
theorem dX4_bridgesBetweenHosts_44 : decode cX4_bridgesBetweenHosts 44 = .ok (.aload_n 0, 1) := by decide +kernel
theorem dX4_bridgesBetweenHosts_45 : decode cX4_bridgesBetweenHosts 45 = .ok (.getfield 12, 3) := by decide +kernel
theorem dX4_bridgesBetweenHosts_48 : decode cX4_bridgesBetweenHosts 48 = .ok (.iload_n 3, 1) := by decide +kernel
theorem dX4_bridgesBetweenHosts_49 : decode cX4_bridgesBetweenHosts 49 = .ok (.invokestatic 168, 3) := by decide +kernel
theorem dX4_bridgesBetweenHosts_52 : decode cX4_bridgesBetweenHosts 52 = .ok (.iload 4, 2) := by decide +kernel
theorem dX4_bridgesBetweenHosts_54 : decode cX4_bridgesBetweenHosts 54 = .ok (.invokestatic 168, 3) := by decide +kernel
theorem dX4_bridgesBetweenHosts_57 : decode cX4_bridgesBetweenHosts 57 = .ok (.invokevirtual 72, 3) := by decide +kernel
theorem dX4_bridgesBetweenHosts_60 : decode cX4_bridgesBetweenHosts 60 = .ok (.ireturn, 1) := by decide +kernel
set_option maxRecDepth 20000 in
theorem ggX4_hostsReached_X4_isPort : GoodIn wsX4_hostsReached wsX4_isPort := goodIn_r _ [5] (by decide +kernel) (by decide +kernel)
set_option maxRecDepth 20000 in
theorem gX4_hostsReached_X4_isPort : GoodIn wsX4_hostsReached (va_wsS RX4 89 yX4_isPort wsX4_isPort) := goodIn_app (goodIn_of _ (by decide +kernel)) ggX4_hostsReached_X4_isPort
set_option maxRecDepth 20000 in
theorem ggX4_hostsReached_X4_nextArrivals : GoodIn wsX4_hostsReached wsX4_nextArrivals := goodIn_r _ [9, 1, 10, 11, 12, 4, 13, 14, 15, 16, 17, 18, 19, 20, 21, 22, 23, 24, 25, 26, 27, 28, 29, 30, 31, 32, 33, 34, 35, 36, 37, 38, 39, 40, 41, 42, 43, 44, 45, 46, 47, 48, 49, 50] (by decide +kernel) (by decide +kernel)
set_option maxRecDepth 20000 in
theorem gX4_hostsReached_X4_nextArrivals : GoodIn wsX4_hostsReached (wsV RX4 222 RX4 yX4_nextArrivals wsX4_nextArrivals) := goodIn_app (goodIn_of _ (by decide +kernel)) ggX4_hostsReached_X4_nextArrivals
theorem dX4_hostsReached_0 : decode cX4_hostsReached 0 = .ok (.aload_n 0, 1) := by decide +kernel
theorem dX4_hostsReached_1 : decode cX4_hostsReached 1 = .ok (.getfield 12, 3) := by decide +kernel
theorem dX4_hostsReached_4 : decode cX4_hostsReached 4 = .ok (.getfield 86, 3) := by decide +kernel
theorem dX4_hostsReached_7 : decode cX4_hostsReached 7 = .ok (.bipush 20, 2) := by decide +kernel
theorem dX4_hostsReached_9 : decode cX4_hostsReached 9 = .ok (.iload_n 1, 1) := by decide +kernel
theorem dX4_hostsReached_10 : decode cX4_hostsReached 10 = .ok (.iadd, 1) := by decide +kernel
theorem dX4_hostsReached_11 : decode cX4_hostsReached 11 = .ok (.iaload, 1) := by decide +kernel
theorem dX4_hostsReached_12 : decode cX4_hostsReached 12 = .ok (.istore_n 3, 1) := by decide +kernel
theorem dX4_hostsReached_13 : decode cX4_hostsReached 13 = .ok (.iload_n 3, 1) := by decide +kernel
theorem dX4_hostsReached_14 : decode cX4_hostsReached 14 = .ok (.invokestatic 89, 3) := by decide +kernel
theorem dX4_hostsReached_17 : decode cX4_hostsReached 17 = .ok (.ifCond .ne 5, 3) := by decide +kernel
theorem dX4_hostsReached_20 : decode cX4_hostsReached 20 = .ok (.iconst 0, 1) := by decide +kernel
theorem dX4_hostsReached_21 : decode cX4_hostsReached 21 = .ok (.ireturn, 1) := by decide +kernel
theorem dX4_hostsReached_22 : decode cX4_hostsReached 22 = .ok (.iconst 0, 1) := by decide +kernel
theorem dX4_hostsReached_23 : decode cX4_hostsReached 23 = .ok (.istore 4, 2) := by decide +kernel
theorem dX4_hostsReached_25 : decode cX4_hostsReached 25 = .ok (.iconst 1, 1) := by decide +kernel
theorem dX4_hostsReached_26 : decode cX4_hostsReached 26 = .ok (.iload_n 3, 1) := by decide +kernel
theorem dX4_hostsReached_27 : decode cX4_hostsReached 27 = .ok (.ishl, 1) := by decide +kernel
theorem dX4_hostsReached_28 : decode cX4_hostsReached 28 = .ok (.istore 5, 2) := by decide +kernel
theorem dX4_hostsReached_30 : decode cX4_hostsReached 30 = .ok (.iconst 0, 1) := by decide +kernel
theorem dX4_hostsReached_31 : decode cX4_hostsReached 31 = .ok (.istore 6, 2) := by decide +kernel
theorem dX4_hostsReached_33 : decode cX4_hostsReached 33 = .ok (.iload 6, 2) := by decide +kernel
theorem dX4_hostsReached_35 : decode cX4_hostsReached 35 = .ok (.iconst 5, 1) := by decide +kernel
theorem dX4_hostsReached_36 : decode cX4_hostsReached 36 = .ok (.if_icmp .ge 28, 3) := by decide +kernel
theorem dX4_hostsReached_39 : decode cX4_hostsReached 39 = .ok (.aload_n 0, 1) := by decide +kernel
theorem dX4_hostsReached_40 : decode cX4_hostsReached 40 = .ok (.iload 5, 2) := by decide +kernel
theorem dX4_hostsReached_42 : decode cX4_hostsReached 42 = .ok (.iload_n 2, 1) := by decide +kernel
theorem dX4_hostsReached_43 : decode cX4_hostsReached 43 = .ok (.invokevirtual 222, 3) := by decide +kernel
theorem dX4_hostsReached_46 : decode cX4_hostsReached 46 = .ok (.istore 5, 2) := by decide +kernel
theorem dX4_hostsReached_48 : decode cX4_hostsReached 48 = .ok (.iload 4, 2) := by decide +kernel
theorem dX4_hostsReached_50 : decode cX4_hostsReached 50 = .ok (.iload 5, 2) := by decide +kernel
theorem dX4_hostsReached_52 : decode cX4_hostsReached 52 = .ok (.bipush 20, 2) := by decide +kernel
theorem dX4_hostsReached_54 : decode cX4_hostsReached 54 = .ok (.iushr, 1) := by decide +kernel
theorem dX4_hostsReached_55 : decode cX4_hostsReached 55 = .ok (.ior, 1) := by decide +kernel
theorem dX4_hostsReached_56 : decode cX4_hostsReached 56 = .ok (.istore 4, 2) := by decide +kernel
theorem dX4_hostsReached_58 : decode cX4_hostsReached 58 = .ok (.iinc 6 1, 3) := by decide +kernel
theorem dX4_hostsReached_61 : decode cX4_hostsReached 61 = .ok (.goto (-28), 3) := by decide +kernel
theorem dX4_hostsReached_64 : decode cX4_hostsReached 64 = .ok (.iload 4, 2) := by decide +kernel
theorem dX4_hostsReached_66 : decode cX4_hostsReached 66 = .ok (.ireturn, 1) := by decide +kernel
set_option maxRecDepth 20000 in
theorem ggX4_nextArrivals_X4_isRegisteredAt : GoodIn wsX4_nextArrivals wsX4_isRegisteredAt := goodIn_r _ [6, 1, 7, 8, 9, 10, 11, 12, 13, 5, 14, 15, 16, 17, 27, 28, 29, 30, 31, 32, 33, 34, 35, 36, 37, 42, 43, 38, 39, 40, 41] (by decide +kernel) (by decide +kernel)
set_option maxRecDepth 20000 in
theorem gX4_nextArrivals_X4_isRegisteredAt : GoodIn wsX4_nextArrivals (wsV RX4 171 RX4 yX4_isRegisteredAt wsX4_isRegisteredAt) := goodIn_app (goodIn_of _ (by decide +kernel)) ggX4_nextArrivals_X4_isRegisteredAt
set_option maxRecDepth 20000 in
theorem ggX4_nextArrivals_X4_arrivesBeside : GoodIn wsX4_nextArrivals wsX4_arrivesBeside := goodIn_r _ [20, 21, 22, 5, 23, 24, 25, 26] (by decide +kernel) (by decide +kernel)
set_option maxRecDepth 20000 in
theorem gX4_nextArrivals_X4_arrivesBeside : GoodIn wsX4_nextArrivals (va_wsS RX4 225 yX4_arrivesBeside wsX4_arrivesBeside) := goodIn_app (goodIn_of _ (by decide +kernel)) ggX4_nextArrivals_X4_arrivesBeside
theorem dX4_nextArrivals_0 : decode cX4_nextArrivals 0 = .ok (.iconst 0, 1) := by decide +kernel
theorem dX4_nextArrivals_1 : decode cX4_nextArrivals 1 = .ok (.istore_n 3, 1) := by decide +kernel
theorem dX4_nextArrivals_2 : decode cX4_nextArrivals 2 = .ok (.iconst 0, 1) := by decide +kernel
theorem dX4_nextArrivals_3 : decode cX4_nextArrivals 3 = .ok (.istore 4, 2) := by decide +kernel
theorem dX4_nextArrivals_5 : decode cX4_nextArrivals 5 = .ok (.iload 4, 2) := by decide +kernel
theorem dX4_nextArrivals_7 : decode cX4_nextArrivals 7 = .ok (.bipush 20, 2) := by decide +kernel
theorem dX4_nextArrivals_9 : decode cX4_nextArrivals 9 = .ok (.if_icmp .ge 43, 3) := by decide +kernel
theorem dX4_nextArrivals_12 : decode cX4_nextArrivals 12 = .ok (.aload_n 0, 1) := by decide +kernel
theorem dX4_nextArrivals_13 : decode cX4_nextArrivals 13 = .ok (.iload 4, 2) := by decide +kernel
theorem dX4_nextArrivals_15 : decode cX4_nextArrivals 15 = .ok (.iload_n 2, 1) := by decide +kernel
theorem dX4_nextArrivals_16 : decode cX4_nextArrivals 16 = .ok (.invokevirtual 171, 3) := by decide +kernel
theorem dX4_nextArrivals_19 : decode cX4_nextArrivals 19 = .ok (.ifCond .eq 27, 3) := by decide +kernel
theorem dX4_nextArrivals_22 : decode cX4_nextArrivals 22 = .ok (.iload 4, 2) := by decide +kernel
theorem dX4_nextArrivals_24 : decode cX4_nextArrivals 24 = .ok (.iload_n 1, 1) := by decide +kernel
theorem dX4_nextArrivals_25 : decode cX4_nextArrivals 25 = .ok (.invokestatic 225, 3) := by decide +kernel
theorem dX4_nextArrivals_28 : decode cX4_nextArrivals 28 = .ok (.ifCond .eq 18, 3) := by decide +kernel
theorem dX4_nextArrivals_31 : decode cX4_nextArrivals 31 = .ok (.iload_n 3, 1) := by decide +kernel
theorem dX4_nextArrivals_32 : decode cX4_nextArrivals 32 = .ok (.iconst 1, 1) := by decide +kernel
theorem dX4_nextArrivals_33 : decode cX4_nextArrivals 33 = .ok (.aload_n 0, 1) := by decide +kernel
theorem dX4_nextArrivals_34 : decode cX4_nextArrivals 34 = .ok (.getfield 12, 3) := by decide +kernel
theorem dX4_nextArrivals_37 : decode cX4_nextArrivals 37 = .ok (.getfield 86, 3) := by decide +kernel
theorem dX4_nextArrivals_40 : decode cX4_nextArrivals 40 = .ok (.iload 4, 2) := by decide +kernel
theorem dX4_nextArrivals_42 : decode cX4_nextArrivals 42 = .ok (.iaload, 1) := by decide +kernel
theorem dX4_nextArrivals_43 : decode cX4_nextArrivals 43 = .ok (.ishl, 1) := by decide +kernel
theorem dX4_nextArrivals_44 : decode cX4_nextArrivals 44 = .ok (.ior, 1) := by decide +kernel
theorem dX4_nextArrivals_45 : decode cX4_nextArrivals 45 = .ok (.istore_n 3, 1) := by decide +kernel
theorem dX4_nextArrivals_46 : decode cX4_nextArrivals 46 = .ok (.iinc 4 1, 3) := by decide +kernel
theorem dX4_nextArrivals_49 : decode cX4_nextArrivals 49 = .ok (.goto (-44), 3) := by decide +kernel
theorem dX4_nextArrivals_52 : decode cX4_nextArrivals 52 = .ok (.iload_n 3, 1) := by decide +kernel
theorem dX4_nextArrivals_53 : decode cX4_nextArrivals 53 = .ok (.ireturn, 1) := by decide +kernel
set_option maxRecDepth 20000 in
theorem ggX4_arrivesBeside_X4_bridgeOf : GoodIn wsX4_arrivesBeside wsX4_bridgeOf := goodIn_r _ [4] (by decide +kernel) (by decide +kernel)
set_option maxRecDepth 20000 in
theorem gX4_arrivesBeside_X4_bridgeOf : GoodIn wsX4_arrivesBeside (va_wsS RX4 168 yX4_bridgeOf wsX4_bridgeOf) := goodIn_app (goodIn_of _ (by decide +kernel)) ggX4_arrivesBeside_X4_bridgeOf
set_option maxRecDepth 20000 in
theorem ggX4_arrivesBeside_X4_contains : GoodIn wsX4_arrivesBeside wsX4_contains := goodIn_r _ [7] (by decide +kernel) (by decide +kernel)
set_option maxRecDepth 20000 in
theorem gX4_arrivesBeside_X4_contains : GoodIn wsX4_arrivesBeside (va_wsS RX4 156 yX4_contains wsX4_contains) := goodIn_app (goodIn_of _ (by decide +kernel)) ggX4_arrivesBeside_X4_contains
theorem dX4_arrivesBeside_0 : decode cX4_arrivesBeside 0 = .ok (.iload_n 0, 1) := by decide +kernel
theorem dX4_arrivesBeside_1 : decode cX4_arrivesBeside 1 = .ok (.invokestatic 168, 3) := by decide +kernel
theorem dX4_arrivesBeside_4 : decode cX4_arrivesBeside 4 = .ok (.iconst 4, 1) := by decide +kernel
theorem dX4_arrivesBeside_5 : decode cX4_arrivesBeside 5 = .ok (.imul, 1) := by decide +kernel
theorem dX4_arrivesBeside_6 : decode cX4_arrivesBeside 6 = .ok (.istore_n 2, 1) := by decide +kernel
theorem dX4_arrivesBeside_7 : decode cX4_arrivesBeside 7 = .ok (.iload_n 2, 1) := by decide +kernel
theorem dX4_arrivesBeside_8 : decode cX4_arrivesBeside 8 = .ok (.istore_n 3, 1) := by decide +kernel
theorem dX4_arrivesBeside_9 : decode cX4_arrivesBeside 9 = .ok (.iload_n 3, 1) := by decide +kernel
theorem dX4_arrivesBeside_10 : decode cX4_arrivesBeside 10 = .ok (.iload_n 2, 1) := by decide +kernel
theorem dX4_arrivesBeside_11 : decode cX4_arrivesBeside 11 = .ok (.iconst 4, 1) := by decide +kernel
theorem dX4_arrivesBeside_12 : decode cX4_arrivesBeside 12 = .ok (.iadd, 1) := by decide +kernel
theorem dX4_arrivesBeside_13 : decode cX4_arrivesBeside 13 = .ok (.if_icmp .ge 24, 3) := by decide +kernel
theorem dX4_arrivesBeside_16 : decode cX4_arrivesBeside 16 = .ok (.iload_n 3, 1) := by decide +kernel
theorem dX4_arrivesBeside_17 : decode cX4_arrivesBeside 17 = .ok (.iload_n 0, 1) := by decide +kernel
theorem dX4_arrivesBeside_18 : decode cX4_arrivesBeside 18 = .ok (.if_icmp .eq 13, 3) := by decide +kernel
theorem dX4_arrivesBeside_21 : decode cX4_arrivesBeside 21 = .ok (.iload_n 1, 1) := by decide +kernel
theorem dX4_arrivesBeside_22 : decode cX4_arrivesBeside 22 = .ok (.iload_n 3, 1) := by decide +kernel
theorem dX4_arrivesBeside_23 : decode cX4_arrivesBeside 23 = .ok (.invokestatic 156, 3) := by decide +kernel
theorem dX4_arrivesBeside_26 : decode cX4_arrivesBeside 26 = .ok (.ifCond .eq 5, 3) := by decide +kernel
theorem dX4_arrivesBeside_29 : decode cX4_arrivesBeside 29 = .ok (.iconst 1, 1) := by decide +kernel
theorem dX4_arrivesBeside_30 : decode cX4_arrivesBeside 30 = .ok (.ireturn, 1) := by decide +kernel
theorem dX4_arrivesBeside_31 : decode cX4_arrivesBeside 31 = .ok (.iinc 3 1, 3) := by decide +kernel
theorem dX4_arrivesBeside_34 : decode cX4_arrivesBeside 34 = .ok (.goto (-25), 3) := by decide +kernel
theorem dX4_arrivesBeside_37 : decode cX4_arrivesBeside 37 = .ok (.iconst 0, 1) := by decide +kernel
theorem dX4_arrivesBeside_38 : decode cX4_arrivesBeside 38 = .ok (.ireturn, 1) := by decide +kernel
