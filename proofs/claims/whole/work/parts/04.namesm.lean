theorem dX5_init_0 : decode cX5_init 0 = .ok (.aload_n 0, 1) := by decide +kernel
theorem dX5_init_1 : decode cX5_init 1 = .ok (.invokespecial 1, 3) := by decide +kernel
theorem dX5_init_4 : decode cX5_init 4 = .ok (.aload_n 0, 1) := by decide +kernel
theorem dX5_init_5 : decode cX5_init 5 = .ok (.bipush 20, 2) := by decide +kernel
theorem dX5_init_7 : decode cX5_init 7 = .ok (.newarray .int, 2) := by decide +kernel
theorem dX5_init_9 : decode cX5_init 9 = .ok (.putfield 7, 3) := by decide +kernel
theorem dX5_init_12 : decode cX5_init 12 = .ok (.aload_n 0, 1) := by decide +kernel
theorem dX5_init_13 : decode cX5_init 13 = .ok (.bipush 8, 2) := by decide +kernel
theorem dX5_init_15 : decode cX5_init 15 = .ok (.newarray .int, 2) := by decide +kernel
theorem dX5_init_17 : decode cX5_init 17 = .ok (.putfield 13, 3) := by decide +kernel
theorem dX5_init_20 : decode cX5_init 20 = .ok (.aload_n 0, 1) := by decide +kernel
theorem dX5_init_21 : decode cX5_init 21 = .ok (.bipush 8, 2) := by decide +kernel
theorem dX5_init_23 : decode cX5_init 23 = .ok (.newarray .boolean, 2) := by decide +kernel
theorem dX5_init_25 : decode cX5_init 25 = .ok (.putfield 16, 3) := by decide +kernel
theorem dX5_init_28 : decode cX5_init 28 = .ok (.aload_n 0, 1) := by decide +kernel
theorem dX5_init_29 : decode cX5_init 29 = .ok (.bipush 6, 2) := by decide +kernel
theorem dX5_init_31 : decode cX5_init 31 = .ok (.putfield 20, 3) := by decide +kernel
theorem dX5_init_34 : decode cX5_init 34 = .ok (.aload_n 0, 1) := by decide +kernel
theorem dX5_init_35 : decode cX5_init 35 = .ok (.bipush 80, 2) := by decide +kernel
theorem dX5_init_37 : decode cX5_init 37 = .ok (.newarray .int, 2) := by decide +kernel
theorem dX5_init_39 : decode cX5_init 39 = .ok (.putfield 24, 3) := by decide +kernel
theorem dX5_init_42 : decode cX5_init 42 = .ok (.aload_n 0, 1) := by decide +kernel
theorem dX5_init_43 : decode cX5_init 43 = .ok (.bipush 80, 2) := by decide +kernel
theorem dX5_init_45 : decode cX5_init 45 = .ok (.newarray .int, 2) := by decide +kernel
theorem dX5_init_47 : decode cX5_init 47 = .ok (.putfield 27, 3) := by decide +kernel
theorem dX5_init_50 : decode cX5_init 50 = .ok (.aload_n 0, 1) := by decide +kernel
theorem dX5_init_51 : decode cX5_init 51 = .ok (.bipush 80, 2) := by decide +kernel
theorem dX5_init_53 : decode cX5_init 53 = .ok (.newarray .int, 2) := by decide +kernel
theorem dX5_init_55 : decode cX5_init 55 = .ok (.putfield 30, 3) := by decide +kernel
theorem dX5_init_58 : decode cX5_init 58 = .ok (.aload_n 0, 1) := by decide +kernel
theorem dX5_init_59 : decode cX5_init 59 = .ok (.bipush 80, 2) := by decide +kernel
theorem dX5_init_61 : decode cX5_init 61 = .ok (.newarray .int, 2) := by decide +kernel
theorem dX5_init_63 : decode cX5_init 63 = .ok (.putfield 33, 3) := by decide +kernel
theorem dX5_init_66 : decode cX5_init 66 = .ok (.aload_n 0, 1) := by decide +kernel
theorem dX5_init_67 : decode cX5_init 67 = .ok (.bipush 20, 2) := by decide +kernel
theorem dX5_init_69 : decode cX5_init 69 = .ok (.newarray .int, 2) := by decide +kernel
theorem dX5_init_71 : decode cX5_init 71 = .ok (.putfield 36, 3) := by decide +kernel
theorem dX5_init_74 : decode cX5_init 74 = .ok (.aload_n 0, 1) := by decide +kernel
theorem dX5_init_75 : decode cX5_init 75 = .ok (.bipush 20, 2) := by decide +kernel
theorem dX5_init_77 : decode cX5_init 77 = .ok (.newarray .boolean, 2) := by decide +kernel
theorem dX5_init_79 : decode cX5_init 79 = .ok (.putfield 39, 3) := by decide +kernel
theorem dX5_init_82 : decode cX5_init 82 = .ok (.aload_n 0, 1) := by decide +kernel
theorem dX5_init_83 : decode cX5_init 83 = .ok (.bipush 32, 2) := by decide +kernel
theorem dX5_init_85 : decode cX5_init 85 = .ok (.newarray .int, 2) := by decide +kernel
theorem dX5_init_87 : decode cX5_init 87 = .ok (.putfield 42, 3) := by decide +kernel
theorem dX5_init_90 : decode cX5_init 90 = .ok (.aload_n 0, 1) := by decide +kernel
theorem dX5_init_91 : decode cX5_init 91 = .ok (.bipush 32, 2) := by decide +kernel
theorem dX5_init_93 : decode cX5_init 93 = .ok (.newarray .int, 2) := by decide +kernel
theorem dX5_init_95 : decode cX5_init 95 = .ok (.putfield 45, 3) := by decide +kernel
theorem dX5_init_98 : decode cX5_init 98 = .ok (.aload_n 0, 1) := by decide +kernel
theorem dX5_init_99 : decode cX5_init 99 = .ok (.bipush 20, 2) := by decide +kernel
theorem dX5_init_101 : decode cX5_init 101 = .ok (.newarray .boolean, 2) := by decide +kernel
theorem dX5_init_103 : decode cX5_init 103 = .ok (.putfield 48, 3) := by decide +kernel
theorem dX5_init_106 : decode cX5_init 106 = .ok (.aload_n 0, 1) := by decide +kernel
theorem dX5_init_107 : decode cX5_init 107 = .ok (.bipush 20, 2) := by decide +kernel
theorem dX5_init_109 : decode cX5_init 109 = .ok (.newarray .boolean, 2) := by decide +kernel
theorem dX5_init_111 : decode cX5_init 111 = .ok (.putfield 51, 3) := by decide +kernel
theorem dX5_init_114 : decode cX5_init 114 = .ok (.aload_n 0, 1) := by decide +kernel
theorem dX5_init_115 : decode cX5_init 115 = .ok (.bipush 80, 2) := by decide +kernel
theorem dX5_init_117 : decode cX5_init 117 = .ok (.newarray .int, 2) := by decide +kernel
theorem dX5_init_119 : decode cX5_init 119 = .ok (.putfield 54, 3) := by decide +kernel
theorem dX5_init_122 : decode cX5_init 122 = .ok (.aload_n 0, 1) := by decide +kernel
theorem dX5_init_123 : decode cX5_init 123 = .ok (.bipush 32, 2) := by decide +kernel
theorem dX5_init_125 : decode cX5_init 125 = .ok (.newarray .int, 2) := by decide +kernel
theorem dX5_init_127 : decode cX5_init 127 = .ok (.putfield 57, 3) := by decide +kernel
theorem dX5_init_130 : decode cX5_init 130 = .ok (.aload_n 0, 1) := by decide +kernel
theorem dX5_init_131 : decode cX5_init 131 = .ok (.bipush 20, 2) := by decide +kernel
theorem dX5_init_133 : decode cX5_init 133 = .ok (.newarray .int, 2) := by decide +kernel
theorem dX5_init_135 : decode cX5_init 135 = .ok (.putfield 60, 3) := by decide +kernel
theorem dX5_init_138 : decode cX5_init 138 = .ok (.aload_n 0, 1) := by decide +kernel
theorem dX5_init_139 : decode cX5_init 139 = .ok (.iconst 5, 1) := by decide +kernel
theorem dX5_init_140 : decode cX5_init 140 = .ok (.newarray .int, 2) := by decide +kernel
theorem dX5_init_142 : decode cX5_init 142 = .ok (.putfield 63, 3) := by decide +kernel
theorem dX5_init_145 : decode cX5_init 145 = .ok (.iconst 0, 1) := by decide +kernel
theorem dX5_init_146 : decode cX5_init 146 = .ok (.istore_n 1, 1) := by decide +kernel
theorem dX5_init_147 : decode cX5_init 147 = .ok (.iload_n 1, 1) := by decide +kernel
theorem dX5_init_148 : decode cX5_init 148 = .ok (.bipush 20, 2) := by decide +kernel
theorem dX5_init_150 : decode cX5_init 150 = .ok (.if_icmp .ge 16, 3) := by decide +kernel
theorem dX5_init_153 : decode cX5_init 153 = .ok (.aload_n 0, 1) := by decide +kernel
theorem dX5_init_154 : decode cX5_init 154 = .ok (.getfield 7, 3) := by decide +kernel
theorem dX5_init_157 : decode cX5_init 157 = .ok (.iload_n 1, 1) := by decide +kernel
theorem dX5_init_158 : decode cX5_init 158 = .ok (.iconst (-1), 1) := by decide +kernel
theorem dX5_init_159 : decode cX5_init 159 = .ok (.iastore, 1) := by decide +kernel
theorem dX5_init_160 : decode cX5_init 160 = .ok (.iinc 1 1, 3) := by decide +kernel
theorem dX5_init_163 : decode cX5_init 163 = .ok (.goto (-16), 3) := by decide +kernel
theorem dX5_init_166 : decode cX5_init 166 = .ok (.return_, 1) := by decide +kernel
theorem dX5_within_0 : decode cX5_within 0 = .ok (.iload_n 0, 1) := by decide +kernel
theorem dX5_within_1 : decode cX5_within 1 = .ok (.iload_n 1, 1) := by decide +kernel
theorem dX5_within_2 : decode cX5_within 2 = .ok (.if_icmp .lt 12, 3) := by decide +kernel
theorem dX5_within_5 : decode cX5_within 5 = .ok (.iload_n 0, 1) := by decide +kernel
theorem dX5_within_6 : decode cX5_within 6 = .ok (.iload_n 2, 1) := by decide +kernel
theorem dX5_within_7 : decode cX5_within 7 = .ok (.if_icmp .gt 7, 3) := by decide +kernel
theorem dX5_within_10 : decode cX5_within 10 = .ok (.iconst 1, 1) := by decide +kernel
theorem dX5_within_11 : decode cX5_within 11 = .ok (.goto 4, 3) := by decide +kernel
theorem dX5_within_14 : decode cX5_within 14 = .ok (.iconst 0, 1) := by decide +kernel
theorem dX5_within_15 : decode cX5_within 15 = .ok (.ireturn, 1) := by decide +kernel
set_option maxRecDepth 20000 in
theorem ggX5_isPort_X5_within : GoodIn wsX5_isPort wsX5_within := goodIn_r _ [5] (by decide +kernel) (by decide +kernel)
set_option maxRecDepth 20000 in
theorem gX5_isPort_X5_within : GoodIn wsX5_isPort (va_wsS RX5 69 yX5_within wsX5_within) := goodIn_app (goodIn_of _ (by decide +kernel)) ggX5_isPort_X5_within
theorem dX5_isPort_0 : decode cX5_isPort 0 = .ok (.iload_n 1, 1) := by decide +kernel
theorem dX5_isPort_1 : decode cX5_isPort 1 = .ok (.iconst 0, 1) := by decide +kernel
theorem dX5_isPort_2 : decode cX5_isPort 2 = .ok (.aload_n 0, 1) := by decide +kernel
theorem dX5_isPort_3 : decode cX5_isPort 3 = .ok (.getfield 66, 3) := by decide +kernel
theorem dX5_isPort_6 : decode cX5_isPort 6 = .ok (.iconst 1, 1) := by decide +kernel
theorem dX5_isPort_7 : decode cX5_isPort 7 = .ok (.isub, 1) := by decide +kernel
theorem dX5_isPort_8 : decode cX5_isPort 8 = .ok (.invokestatic 69, 3) := by decide +kernel
theorem dX5_isPort_11 : decode cX5_isPort 11 = .ok (.ifCond .eq 16, 3) := by decide +kernel
theorem dX5_isPort_14 : decode cX5_isPort 14 = .ok (.iload_n 2, 1) := by decide +kernel
theorem dX5_isPort_15 : decode cX5_isPort 15 = .ok (.iconst 0, 1) := by decide +kernel
theorem dX5_isPort_16 : decode cX5_isPort 16 = .ok (.iconst 3, 1) := by decide +kernel
theorem dX5_isPort_17 : decode cX5_isPort 17 = .ok (.invokestatic 69, 3) := by decide +kernel
theorem dX5_isPort_20 : decode cX5_isPort 20 = .ok (.ifCond .eq 7, 3) := by decide +kernel
theorem dX5_isPort_23 : decode cX5_isPort 23 = .ok (.iconst 1, 1) := by decide +kernel
theorem dX5_isPort_24 : decode cX5_isPort 24 = .ok (.goto 4, 3) := by decide +kernel
theorem dX5_isPort_27 : decode cX5_isPort 27 = .ok (.iconst 0, 1) := by decide +kernel
theorem dX5_isPort_28 : decode cX5_isPort 28 = .ok (.ireturn, 1) := by decide +kernel
set_option maxRecDepth 20000 in
theorem ggX5_isHost_X5_within : GoodIn wsX5_isHost wsX5_within := goodIn_r _ [5] (by decide +kernel) (by decide +kernel)
set_option maxRecDepth 20000 in
theorem gX5_isHost_X5_within : GoodIn wsX5_isHost (va_wsS RX5 69 yX5_within wsX5_within) := goodIn_app (goodIn_of _ (by decide +kernel)) ggX5_isHost_X5_within
theorem dX5_isHost_0 : decode cX5_isHost 0 = .ok (.iload_n 1, 1) := by decide +kernel
theorem dX5_isHost_1 : decode cX5_isHost 1 = .ok (.iconst 0, 1) := by decide +kernel
theorem dX5_isHost_2 : decode cX5_isHost 2 = .ok (.aload_n 0, 1) := by decide +kernel
theorem dX5_isHost_3 : decode cX5_isHost 3 = .ok (.getfield 73, 3) := by decide +kernel
theorem dX5_isHost_6 : decode cX5_isHost 6 = .ok (.iconst 1, 1) := by decide +kernel
theorem dX5_isHost_7 : decode cX5_isHost 7 = .ok (.isub, 1) := by decide +kernel
theorem dX5_isHost_8 : decode cX5_isHost 8 = .ok (.invokestatic 69, 3) := by decide +kernel
theorem dX5_isHost_11 : decode cX5_isHost 11 = .ok (.ireturn, 1) := by decide +kernel
set_option maxRecDepth 20000 in
theorem ggX5_isGroup_X5_within : GoodIn wsX5_isGroup wsX5_within := goodIn_r _ [4] (by decide +kernel) (by decide +kernel)
set_option maxRecDepth 20000 in
theorem gX5_isGroup_X5_within : GoodIn wsX5_isGroup (va_wsS RX5 69 yX5_within wsX5_within) := goodIn_app (goodIn_of _ (by decide +kernel)) ggX5_isGroup_X5_within
theorem dX5_isGroup_0 : decode cX5_isGroup 0 = .ok (.iload_n 0, 1) := by decide +kernel
theorem dX5_isGroup_1 : decode cX5_isGroup 1 = .ok (.iconst 0, 1) := by decide +kernel
theorem dX5_isGroup_2 : decode cX5_isGroup 2 = .ok (.iconst 3, 1) := by decide +kernel
theorem dX5_isGroup_3 : decode cX5_isGroup 3 = .ok (.invokestatic 69, 3) := by decide +kernel
theorem dX5_isGroup_6 : decode cX5_isGroup 6 = .ok (.ireturn, 1) := by decide +kernel
theorem dX5_isConnected_0 : decode cX5_isConnected 0 = .ok (.aload_n 0, 1) := by decide +kernel
theorem dX5_isConnected_1 : decode cX5_isConnected 1 = .ok (.getfield 7, 3) := by decide +kernel
theorem dX5_isConnected_4 : decode cX5_isConnected 4 = .ok (.iload_n 1, 1) := by decide +kernel
theorem dX5_isConnected_5 : decode cX5_isConnected 5 = .ok (.iaload, 1) := by decide +kernel
theorem dX5_isConnected_6 : decode cX5_isConnected 6 = .ok (.iconst (-1), 1) := by decide +kernel
theorem dX5_isConnected_7 : decode cX5_isConnected 7 = .ok (.if_icmp .eq 7, 3) := by decide +kernel
theorem dX5_isConnected_10 : decode cX5_isConnected 10 = .ok (.iconst 1, 1) := by decide +kernel
theorem dX5_isConnected_11 : decode cX5_isConnected 11 = .ok (.goto 4, 3) := by decide +kernel
theorem dX5_isConnected_14 : decode cX5_isConnected 14 = .ok (.iconst 0, 1) := by decide +kernel
theorem dX5_isConnected_15 : decode cX5_isConnected 15 = .ok (.ireturn, 1) := by decide +kernel
set_option maxRecDepth 20000 in
theorem ggX5_isLinked_X5_within : GoodIn wsX5_isLinked wsX5_within := goodIn_r _ [5] (by decide +kernel) (by decide +kernel)
set_option maxRecDepth 20000 in
theorem gX5_isLinked_X5_within : GoodIn wsX5_isLinked (va_wsS RX5 69 yX5_within wsX5_within) := goodIn_app (goodIn_of _ (by decide +kernel)) ggX5_isLinked_X5_within
theorem dX5_isLinked_0 : decode cX5_isLinked 0 = .ok (.aload_n 0, 1) := by decide +kernel
theorem dX5_isLinked_1 : decode cX5_isLinked 1 = .ok (.getfield 7, 3) := by decide +kernel
theorem dX5_isLinked_4 : decode cX5_isLinked 4 = .ok (.iload_n 1, 1) := by decide +kernel
theorem dX5_isLinked_5 : decode cX5_isLinked 5 = .ok (.iaload, 1) := by decide +kernel
theorem dX5_isLinked_6 : decode cX5_isLinked 6 = .ok (.iconst 0, 1) := by decide +kernel
theorem dX5_isLinked_7 : decode cX5_isLinked 7 = .ok (.bipush 19, 2) := by decide +kernel
theorem dX5_isLinked_9 : decode cX5_isLinked 9 = .ok (.invokestatic 69, 3) := by decide +kernel
theorem dX5_isLinked_12 : decode cX5_isLinked 12 = .ok (.ireturn, 1) := by decide +kernel
theorem dX5_addBridge_0 : decode cX5_addBridge 0 = .ok (.aload_n 0, 1) := by decide +kernel
theorem dX5_addBridge_1 : decode cX5_addBridge 1 = .ok (.getfield 66, 3) := by decide +kernel
theorem dX5_addBridge_4 : decode cX5_addBridge 4 = .ok (.iconst 5, 1) := by decide +kernel
theorem dX5_addBridge_5 : decode cX5_addBridge 5 = .ok (.if_icmp .ne 6, 3) := by decide +kernel
theorem dX5_addBridge_8 : decode cX5_addBridge 8 = .ok (.bipush (-5), 2) := by decide +kernel
theorem dX5_addBridge_10 : decode cX5_addBridge 10 = .ok (.ireturn, 1) := by decide +kernel
theorem dX5_addBridge_11 : decode cX5_addBridge 11 = .ok (.aload_n 0, 1) := by decide +kernel
theorem dX5_addBridge_12 : decode cX5_addBridge 12 = .ok (.dup, 1) := by decide +kernel
theorem dX5_addBridge_13 : decode cX5_addBridge 13 = .ok (.getfield 66, 3) := by decide +kernel
theorem dX5_addBridge_16 : decode cX5_addBridge 16 = .ok (.iconst 1, 1) := by decide +kernel
theorem dX5_addBridge_17 : decode cX5_addBridge 17 = .ok (.iadd, 1) := by decide +kernel
theorem dX5_addBridge_18 : decode cX5_addBridge 18 = .ok (.putfield 66, 3) := by decide +kernel
theorem dX5_addBridge_21 : decode cX5_addBridge 21 = .ok (.aload_n 0, 1) := by decide +kernel
theorem dX5_addBridge_22 : decode cX5_addBridge 22 = .ok (.getfield 66, 3) := by decide +kernel
theorem dX5_addBridge_25 : decode cX5_addBridge 25 = .ok (.iconst 1, 1) := by decide +kernel
theorem dX5_addBridge_26 : decode cX5_addBridge 26 = .ok (.isub, 1) := by decide +kernel
theorem dX5_addBridge_27 : decode cX5_addBridge 27 = .ok (.ireturn, 1) := by decide +kernel
set_option maxRecDepth 20000 in
theorem ggX5_partOf_X5_isLinked : GoodIn wsX5_partOf wsX5_isLinked := goodIn_r _ [6, 1, 7, 8, 5, 9, 10, 11, 12, 13, 14, 15, 16, 17, 18, 19, 20, 21, 22, 23, 24, 25, 26, 27, 28, 29, 30, 31, 32] (by decide +kernel) (by decide +kernel)
set_option maxRecDepth 20000 in
theorem gX5_partOf_X5_isLinked : GoodIn wsX5_partOf (wsV RX5 76 RX5 yX5_isLinked wsX5_isLinked) := goodIn_app (goodIn_of _ (by decide +kernel)) ggX5_partOf_X5_isLinked
theorem dX5_partOf_0 : decode cX5_partOf 0 = .ok (.iconst 1, 1) := by decide +kernel
theorem dX5_partOf_1 : decode cX5_partOf 1 = .ok (.iload_n 1, 1) := by decide +kernel
theorem dX5_partOf_2 : decode cX5_partOf 2 = .ok (.ishl, 1) := by decide +kernel
theorem dX5_partOf_3 : decode cX5_partOf 3 = .ok (.istore_n 2, 1) := by decide +kernel
theorem dX5_partOf_4 : decode cX5_partOf 4 = .ok (.iconst 0, 1) := by decide +kernel
theorem dX5_partOf_5 : decode cX5_partOf 5 = .ok (.istore_n 3, 1) := by decide +kernel
theorem dX5_partOf_6 : decode cX5_partOf 6 = .ok (.iload_n 3, 1) := by decide +kernel
theorem dX5_partOf_7 : decode cX5_partOf 7 = .ok (.iconst 5, 1) := by decide +kernel
theorem dX5_partOf_8 : decode cX5_partOf 8 = .ok (.if_icmp .ge 60, 3) := by decide +kernel
theorem dX5_partOf_11 : decode cX5_partOf 11 = .ok (.iconst 0, 1) := by decide +kernel
theorem dX5_partOf_12 : decode cX5_partOf 12 = .ok (.istore 4, 2) := by decide +kernel
theorem dX5_partOf_14 : decode cX5_partOf 14 = .ok (.iload 4, 2) := by decide +kernel
theorem dX5_partOf_16 : decode cX5_partOf 16 = .ok (.bipush 20, 2) := by decide +kernel
theorem dX5_partOf_18 : decode cX5_partOf 18 = .ok (.if_icmp .ge 44, 3) := by decide +kernel
theorem dX5_partOf_21 : decode cX5_partOf 21 = .ok (.aload_n 0, 1) := by decide +kernel
theorem dX5_partOf_22 : decode cX5_partOf 22 = .ok (.iload 4, 2) := by decide +kernel
theorem dX5_partOf_24 : decode cX5_partOf 24 = .ok (.invokevirtual 76, 3) := by decide +kernel
theorem dX5_partOf_27 : decode cX5_partOf 27 = .ok (.ifCond .eq 29, 3) := by decide +kernel
theorem dX5_partOf_30 : decode cX5_partOf 30 = .ok (.iload_n 2, 1) := by decide +kernel
theorem dX5_partOf_31 : decode cX5_partOf 31 = .ok (.iload 4, 2) := by decide +kernel
theorem dX5_partOf_33 : decode cX5_partOf 33 = .ok (.iconst 4, 1) := by decide +kernel
theorem dX5_partOf_34 : decode cX5_partOf 34 = .ok (.idiv, 1) := by decide +kernel
theorem dX5_partOf_35 : decode cX5_partOf 35 = .ok (.ishr, 1) := by decide +kernel
theorem dX5_partOf_36 : decode cX5_partOf 36 = .ok (.iconst 1, 1) := by decide +kernel
theorem dX5_partOf_37 : decode cX5_partOf 37 = .ok (.iand, 1) := by decide +kernel
theorem dX5_partOf_38 : decode cX5_partOf 38 = .ok (.iconst 1, 1) := by decide +kernel
theorem dX5_partOf_39 : decode cX5_partOf 39 = .ok (.if_icmp .ne 17, 3) := by decide +kernel
theorem dX5_partOf_42 : decode cX5_partOf 42 = .ok (.iload_n 2, 1) := by decide +kernel
theorem dX5_partOf_43 : decode cX5_partOf 43 = .ok (.iconst 1, 1) := by decide +kernel
theorem dX5_partOf_44 : decode cX5_partOf 44 = .ok (.aload_n 0, 1) := by decide +kernel
theorem dX5_partOf_45 : decode cX5_partOf 45 = .ok (.getfield 7, 3) := by decide +kernel
theorem dX5_partOf_48 : decode cX5_partOf 48 = .ok (.iload 4, 2) := by decide +kernel
theorem dX5_partOf_50 : decode cX5_partOf 50 = .ok (.iaload, 1) := by decide +kernel
theorem dX5_partOf_51 : decode cX5_partOf 51 = .ok (.iconst 4, 1) := by decide +kernel
theorem dX5_partOf_52 : decode cX5_partOf 52 = .ok (.idiv, 1) := by decide +kernel
theorem dX5_partOf_53 : decode cX5_partOf 53 = .ok (.ishl, 1) := by decide +kernel
theorem dX5_partOf_54 : decode cX5_partOf 54 = .ok (.ior, 1) := by decide +kernel
theorem dX5_partOf_55 : decode cX5_partOf 55 = .ok (.istore_n 2, 1) := by decide +kernel
theorem dX5_partOf_56 : decode cX5_partOf 56 = .ok (.iinc 4 1, 3) := by decide +kernel
theorem dX5_partOf_59 : decode cX5_partOf 59 = .ok (.goto (-45), 3) := by decide +kernel
theorem dX5_partOf_62 : decode cX5_partOf 62 = .ok (.iinc 3 1, 3) := by decide +kernel
theorem dX5_partOf_65 : decode cX5_partOf 65 = .ok (.goto (-59), 3) := by decide +kernel
theorem dX5_partOf_68 : decode cX5_partOf 68 = .ok (.iload_n 2, 1) := by decide +kernel
theorem dX5_partOf_69 : decode cX5_partOf 69 = .ok (.ireturn, 1) := by decide +kernel
theorem dX5_resets_0 : decode cX5_resets 0 = .ok (.aload_n 0, 1) := by decide +kernel
theorem dX5_resets_1 : decode cX5_resets 1 = .ok (.getfield 7, 3) := by decide +kernel
theorem dX5_resets_4 : decode cX5_resets 4 = .ok (.iload_n 1, 1) := by decide +kernel
theorem dX5_resets_5 : decode cX5_resets 5 = .ok (.iload_n 2, 1) := by decide +kernel
theorem dX5_resets_6 : decode cX5_resets 6 = .ok (.iastore, 1) := by decide +kernel
theorem dX5_resets_7 : decode cX5_resets 7 = .ok (.aload_n 0, 1) := by decide +kernel
theorem dX5_resets_8 : decode cX5_resets 8 = .ok (.getfield 39, 3) := by decide +kernel
theorem dX5_resets_11 : decode cX5_resets 11 = .ok (.iload_n 1, 1) := by decide +kernel
theorem dX5_resets_12 : decode cX5_resets 12 = .ok (.iconst 0, 1) := by decide +kernel
theorem dX5_resets_13 : decode cX5_resets 13 = .ok (.bastore, 1) := by decide +kernel
theorem dX5_resets_14 : decode cX5_resets 14 = .ok (.aload_n 0, 1) := by decide +kernel
theorem dX5_resets_15 : decode cX5_resets 15 = .ok (.getfield 36, 3) := by decide +kernel
theorem dX5_resets_18 : decode cX5_resets 18 = .ok (.iload_n 1, 1) := by decide +kernel
theorem dX5_resets_19 : decode cX5_resets 19 = .ok (.iload_n 2, 1) := by decide +kernel
theorem dX5_resets_20 : decode cX5_resets 20 = .ok (.iconst (-1), 1) := by decide +kernel
theorem dX5_resets_21 : decode cX5_resets 21 = .ok (.if_icmp .ne 7, 3) := by decide +kernel
theorem dX5_resets_24 : decode cX5_resets 24 = .ok (.iconst 0, 1) := by decide +kernel
theorem dX5_resets_25 : decode cX5_resets 25 = .ok (.goto 7, 3) := by decide +kernel
theorem dX5_resets_28 : decode cX5_resets 28 = .ok (.aload_n 0, 1) := by decide +kernel
theorem dX5_resets_29 : decode cX5_resets 29 = .ok (.getfield 80, 3) := by decide +kernel
theorem dX5_resets_32 : decode cX5_resets 32 = .ok (.iastore, 1) := by decide +kernel
theorem dX5_resets_33 : decode cX5_resets 33 = .ok (.iconst 4, 1) := by decide +kernel
theorem dX5_resets_34 : decode cX5_resets 34 = .ok (.iload_n 1, 1) := by decide +kernel
theorem dX5_resets_35 : decode cX5_resets 35 = .ok (.imul, 1) := by decide +kernel
theorem dX5_resets_36 : decode cX5_resets 36 = .ok (.istore_n 3, 1) := by decide +kernel
theorem dX5_resets_37 : decode cX5_resets 37 = .ok (.iload_n 3, 1) := by decide +kernel
theorem dX5_resets_38 : decode cX5_resets 38 = .ok (.iconst 4, 1) := by decide +kernel
theorem dX5_resets_39 : decode cX5_resets 39 = .ok (.iload_n 1, 1) := by decide +kernel
theorem dX5_resets_40 : decode cX5_resets 40 = .ok (.imul, 1) := by decide +kernel
theorem dX5_resets_41 : decode cX5_resets 41 = .ok (.iconst 4, 1) := by decide +kernel
theorem dX5_resets_42 : decode cX5_resets 42 = .ok (.iadd, 1) := by decide +kernel
theorem dX5_resets_43 : decode cX5_resets 43 = .ok (.if_icmp .ge 37, 3) := by decide +kernel
theorem dX5_resets_46 : decode cX5_resets 46 = .ok (.aload_n 0, 1) := by decide +kernel
theorem dX5_resets_47 : decode cX5_resets 47 = .ok (.getfield 24, 3) := by decide +kernel
theorem dX5_resets_50 : decode cX5_resets 50 = .ok (.iload_n 3, 1) := by decide +kernel
theorem dX5_resets_51 : decode cX5_resets 51 = .ok (.iconst 0, 1) := by decide +kernel
theorem dX5_resets_52 : decode cX5_resets 52 = .ok (.iastore, 1) := by decide +kernel
theorem dX5_resets_53 : decode cX5_resets 53 = .ok (.aload_n 0, 1) := by decide +kernel
theorem dX5_resets_54 : decode cX5_resets 54 = .ok (.getfield 27, 3) := by decide +kernel
theorem dX5_resets_57 : decode cX5_resets 57 = .ok (.iload_n 3, 1) := by decide +kernel
theorem dX5_resets_58 : decode cX5_resets 58 = .ok (.iconst 0, 1) := by decide +kernel
theorem dX5_resets_59 : decode cX5_resets 59 = .ok (.iastore, 1) := by decide +kernel
theorem dX5_resets_60 : decode cX5_resets 60 = .ok (.aload_n 0, 1) := by decide +kernel
theorem dX5_resets_61 : decode cX5_resets 61 = .ok (.getfield 30, 3) := by decide +kernel
theorem dX5_resets_64 : decode cX5_resets 64 = .ok (.iload_n 3, 1) := by decide +kernel
theorem dX5_resets_65 : decode cX5_resets 65 = .ok (.iconst 0, 1) := by decide +kernel
theorem dX5_resets_66 : decode cX5_resets 66 = .ok (.iastore, 1) := by decide +kernel
theorem dX5_resets_67 : decode cX5_resets 67 = .ok (.aload_n 0, 1) := by decide +kernel
theorem dX5_resets_68 : decode cX5_resets 68 = .ok (.getfield 33, 3) := by decide +kernel
theorem dX5_resets_71 : decode cX5_resets 71 = .ok (.iload_n 3, 1) := by decide +kernel
theorem dX5_resets_72 : decode cX5_resets 72 = .ok (.iconst 0, 1) := by decide +kernel
theorem dX5_resets_73 : decode cX5_resets 73 = .ok (.iastore, 1) := by decide +kernel
theorem dX5_resets_74 : decode cX5_resets 74 = .ok (.iinc 3 1, 3) := by decide +kernel
theorem dX5_resets_77 : decode cX5_resets 77 = .ok (.goto (-40), 3) := by decide +kernel
theorem dX5_resets_80 : decode cX5_resets 80 = .ok (.return_, 1) := by decide +kernel
set_option maxRecDepth 20000 in
theorem ggX5_connect_X5_isPort : GoodIn wsX5_connect wsX5_isPort := goodIn_r _ [6, 7, 8, 9, 5, 10, 35, 36, 37, 38, 39, 40, 41, 42, 43, 44, 45, 46, 47, 48, 49, 50, 51, 52, 53, 54, 55, 56, 57] (by decide +kernel) (by decide +kernel)
set_option maxRecDepth 20000 in
theorem gX5_connect_X5_isPort : GoodIn wsX5_connect (wsV RX5 83 RX5 yX5_isPort wsX5_isPort) := goodIn_app (goodIn_of _ (by decide +kernel)) ggX5_connect_X5_isPort
set_option maxRecDepth 20000 in
theorem ggX5_connect_X5_isConnected : GoodIn wsX5_connect wsX5_isConnected := goodIn_r _ [14, 15, 35, 36, 37, 38, 39, 40, 41, 42, 43, 44, 45, 46, 47, 48, 49, 50, 51, 52, 53, 54, 55, 56, 57] (by decide +kernel) (by decide +kernel)
set_option maxRecDepth 20000 in
theorem gX5_connect_X5_isConnected : GoodIn wsX5_connect (wsV RX5 87 RX5 yX5_isConnected wsX5_isConnected) := goodIn_app (goodIn_of _ (by decide +kernel)) ggX5_connect_X5_isConnected
set_option maxRecDepth 20000 in
theorem ggX5_connect_X5_partOf : GoodIn wsX5_connect wsX5_partOf := goodIn_r _ [19, 15, 20, 21, 22, 5, 23, 8, 9, 10, 35, 36, 37, 38, 39, 40, 41, 42, 43, 44, 45, 46, 47, 48, 49, 50, 51, 52, 53, 54, 55, 56, 57] (by decide +kernel) (by decide +kernel)
set_option maxRecDepth 20000 in
theorem gX5_connect_X5_partOf : GoodIn wsX5_connect (wsV RX5 90 RX5 yX5_partOf wsX5_partOf) := goodIn_app (goodIn_of _ (by decide +kernel)) ggX5_connect_X5_partOf
set_option maxRecDepth 20000 in
theorem ggX5_connect_X5_resets : GoodIn wsX5_connect wsX5_resets := goodIn_r _ [27, 15, 28, 29, 30, 31, 32, 33, 34, 35, 36, 37, 38, 39, 40, 41, 42, 43, 44, 45, 46, 47, 48, 49, 50, 51, 52, 53, 54, 55, 56, 57] (by decide +kernel) (by decide +kernel)
set_option maxRecDepth 20000 in
theorem gX5_connect_X5_resets : GoodIn wsX5_connect (wsV RX5 94 RX5 yX5_resets wsX5_resets) := goodIn_app (goodIn_of _ (by decide +kernel)) ggX5_connect_X5_resets
theorem dX5_connect_0 : decode cX5_connect 0 = .ok (.aload_n 0, 1) := by decide +kernel
theorem dX5_connect_1 : decode cX5_connect 1 = .ok (.iload_n 1, 1) := by decide +kernel
theorem dX5_connect_2 : decode cX5_connect 2 = .ok (.iload_n 2, 1) := by decide +kernel
theorem dX5_connect_3 : decode cX5_connect 3 = .ok (.invokevirtual 83, 3) := by decide +kernel
theorem dX5_connect_6 : decode cX5_connect 6 = .ok (.ifCond .eq 13, 3) := by decide +kernel
theorem dX5_connect_9 : decode cX5_connect 9 = .ok (.aload_n 0, 1) := by decide +kernel
theorem dX5_connect_10 : decode cX5_connect 10 = .ok (.iload_n 3, 1) := by decide +kernel
theorem dX5_connect_11 : decode cX5_connect 11 = .ok (.iload 4, 2) := by decide +kernel
theorem dX5_connect_13 : decode cX5_connect 13 = .ok (.invokevirtual 83, 3) := by decide +kernel
theorem dX5_connect_16 : decode cX5_connect 16 = .ok (.ifCond .ne 5, 3) := by decide +kernel
theorem dX5_connect_19 : decode cX5_connect 19 = .ok (.iconst (-1), 1) := by decide +kernel
theorem dX5_connect_20 : decode cX5_connect 20 = .ok (.ireturn, 1) := by decide +kernel
theorem dX5_connect_21 : decode cX5_connect 21 = .ok (.iconst 4, 1) := by decide +kernel
theorem dX5_connect_22 : decode cX5_connect 22 = .ok (.iload_n 1, 1) := by decide +kernel
theorem dX5_connect_23 : decode cX5_connect 23 = .ok (.imul, 1) := by decide +kernel
theorem dX5_connect_24 : decode cX5_connect 24 = .ok (.iload_n 2, 1) := by decide +kernel
theorem dX5_connect_25 : decode cX5_connect 25 = .ok (.iadd, 1) := by decide +kernel
theorem dX5_connect_26 : decode cX5_connect 26 = .ok (.istore 5, 2) := by decide +kernel
theorem dX5_connect_28 : decode cX5_connect 28 = .ok (.iconst 4, 1) := by decide +kernel
theorem dX5_connect_29 : decode cX5_connect 29 = .ok (.iload_n 3, 1) := by decide +kernel
theorem dX5_connect_30 : decode cX5_connect 30 = .ok (.imul, 1) := by decide +kernel
theorem dX5_connect_31 : decode cX5_connect 31 = .ok (.iload 4, 2) := by decide +kernel
theorem dX5_connect_33 : decode cX5_connect 33 = .ok (.iadd, 1) := by decide +kernel
theorem dX5_connect_34 : decode cX5_connect 34 = .ok (.istore 6, 2) := by decide +kernel
theorem dX5_connect_36 : decode cX5_connect 36 = .ok (.aload_n 0, 1) := by decide +kernel
theorem dX5_connect_37 : decode cX5_connect 37 = .ok (.iload 5, 2) := by decide +kernel
theorem dX5_connect_39 : decode cX5_connect 39 = .ok (.invokevirtual 87, 3) := by decide +kernel
theorem dX5_connect_42 : decode cX5_connect 42 = .ok (.ifCond .ne 12, 3) := by decide +kernel
theorem dX5_connect_45 : decode cX5_connect 45 = .ok (.aload_n 0, 1) := by decide +kernel
theorem dX5_connect_46 : decode cX5_connect 46 = .ok (.iload 6, 2) := by decide +kernel
theorem dX5_connect_48 : decode cX5_connect 48 = .ok (.invokevirtual 87, 3) := by decide +kernel
theorem dX5_connect_51 : decode cX5_connect 51 = .ok (.ifCond .eq 6, 3) := by decide +kernel
theorem dX5_connect_54 : decode cX5_connect 54 = .ok (.bipush (-6), 2) := by decide +kernel
theorem dX5_connect_56 : decode cX5_connect 56 = .ok (.ireturn, 1) := by decide +kernel
theorem dX5_connect_57 : decode cX5_connect 57 = .ok (.aload_n 0, 1) := by decide +kernel
theorem dX5_connect_58 : decode cX5_connect 58 = .ok (.iload_n 1, 1) := by decide +kernel
theorem dX5_connect_59 : decode cX5_connect 59 = .ok (.invokevirtual 90, 3) := by decide +kernel
theorem dX5_connect_62 : decode cX5_connect 62 = .ok (.iload_n 3, 1) := by decide +kernel
theorem dX5_connect_63 : decode cX5_connect 63 = .ok (.ishr, 1) := by decide +kernel
theorem dX5_connect_64 : decode cX5_connect 64 = .ok (.iconst 1, 1) := by decide +kernel
theorem dX5_connect_65 : decode cX5_connect 65 = .ok (.iand, 1) := by decide +kernel
theorem dX5_connect_66 : decode cX5_connect 66 = .ok (.iconst 1, 1) := by decide +kernel
theorem dX5_connect_67 : decode cX5_connect 67 = .ok (.if_icmp .ne 6, 3) := by decide +kernel
theorem dX5_connect_70 : decode cX5_connect 70 = .ok (.bipush (-8), 2) := by decide +kernel
theorem dX5_connect_72 : decode cX5_connect 72 = .ok (.ireturn, 1) := by decide +kernel
theorem dX5_connect_73 : decode cX5_connect 73 = .ok (.aload_n 0, 1) := by decide +kernel
theorem dX5_connect_74 : decode cX5_connect 74 = .ok (.iload 5, 2) := by decide +kernel
theorem dX5_connect_76 : decode cX5_connect 76 = .ok (.iload 6, 2) := by decide +kernel
theorem dX5_connect_78 : decode cX5_connect 78 = .ok (.invokevirtual 94, 3) := by decide +kernel
theorem dX5_connect_81 : decode cX5_connect 81 = .ok (.aload_n 0, 1) := by decide +kernel
theorem dX5_connect_82 : decode cX5_connect 82 = .ok (.iload 6, 2) := by decide +kernel
theorem dX5_connect_84 : decode cX5_connect 84 = .ok (.iload 5, 2) := by decide +kernel
theorem dX5_connect_86 : decode cX5_connect 86 = .ok (.invokevirtual 94, 3) := by decide +kernel
theorem dX5_connect_89 : decode cX5_connect 89 = .ok (.aload_n 0, 1) := by decide +kernel
theorem dX5_connect_90 : decode cX5_connect 90 = .ok (.dup, 1) := by decide +kernel
theorem dX5_connect_91 : decode cX5_connect 91 = .ok (.getfield 98, 3) := by decide +kernel
theorem dX5_connect_94 : decode cX5_connect 94 = .ok (.iconst 1, 1) := by decide +kernel
theorem dX5_connect_95 : decode cX5_connect 95 = .ok (.iadd, 1) := by decide +kernel
theorem dX5_connect_96 : decode cX5_connect 96 = .ok (.putfield 98, 3) := by decide +kernel
theorem dX5_connect_99 : decode cX5_connect 99 = .ok (.aload_n 0, 1) := by decide +kernel
theorem dX5_connect_100 : decode cX5_connect 100 = .ok (.getfield 98, 3) := by decide +kernel
theorem dX5_connect_103 : decode cX5_connect 103 = .ok (.ireturn, 1) := by decide +kernel
set_option maxRecDepth 20000 in
theorem ggX5_cut_X5_isPort : GoodIn wsX5_cut wsX5_isPort := goodIn_r _ [7, 8, 9, 10, 6, 11, 27, 28, 29, 30, 31, 32, 33, 34, 35, 36, 37, 38, 39, 40, 41, 42, 43, 44, 45, 46, 47, 48, 49] (by decide +kernel) (by decide +kernel)
set_option maxRecDepth 20000 in
theorem gX5_cut_X5_isPort : GoodIn wsX5_cut (wsV RX5 83 RX5 yX5_isPort wsX5_isPort) := goodIn_app (goodIn_of _ (by decide +kernel)) ggX5_cut_X5_isPort
set_option maxRecDepth 20000 in
theorem ggX5_cut_X5_isLinked : GoodIn wsX5_cut wsX5_isLinked := goodIn_r _ [15, 1, 9, 10, 6, 11, 27, 28, 29, 30, 31, 32, 33, 34, 35, 36, 37, 38, 39, 40, 41, 42, 43, 44, 45, 46, 47, 48, 49] (by decide +kernel) (by decide +kernel)
set_option maxRecDepth 20000 in
theorem gX5_cut_X5_isLinked : GoodIn wsX5_cut (wsV RX5 76 RX5 yX5_isLinked wsX5_isLinked) := goodIn_app (goodIn_of _ (by decide +kernel)) ggX5_cut_X5_isLinked
set_option maxRecDepth 20000 in
theorem ggX5_cut_X5_resets : GoodIn wsX5_cut wsX5_resets := goodIn_r _ [19, 1, 20, 21, 22, 23, 24, 25, 26, 27, 28, 29, 30, 31, 32, 33, 34, 35, 36, 37, 38, 39, 40, 41, 42, 43, 44, 45, 46, 47, 48, 49] (by decide +kernel) (by decide +kernel)
set_option maxRecDepth 20000 in
theorem gX5_cut_X5_resets : GoodIn wsX5_cut (wsV RX5 94 RX5 yX5_resets wsX5_resets) := goodIn_app (goodIn_of _ (by decide +kernel)) ggX5_cut_X5_resets
theorem dX5_cut_0 : decode cX5_cut 0 = .ok (.aload_n 0, 1) := by decide +kernel
theorem dX5_cut_1 : decode cX5_cut 1 = .ok (.iload_n 1, 1) := by decide +kernel
theorem dX5_cut_2 : decode cX5_cut 2 = .ok (.iload_n 2, 1) := by decide +kernel
theorem dX5_cut_3 : decode cX5_cut 3 = .ok (.invokevirtual 83, 3) := by decide +kernel
theorem dX5_cut_6 : decode cX5_cut 6 = .ok (.ifCond .ne 5, 3) := by decide +kernel
theorem dX5_cut_9 : decode cX5_cut 9 = .ok (.iconst (-1), 1) := by decide +kernel
theorem dX5_cut_10 : decode cX5_cut 10 = .ok (.ireturn, 1) := by decide +kernel
theorem dX5_cut_11 : decode cX5_cut 11 = .ok (.iconst 4, 1) := by decide +kernel
theorem dX5_cut_12 : decode cX5_cut 12 = .ok (.iload_n 1, 1) := by decide +kernel
theorem dX5_cut_13 : decode cX5_cut 13 = .ok (.imul, 1) := by decide +kernel
theorem dX5_cut_14 : decode cX5_cut 14 = .ok (.iload_n 2, 1) := by decide +kernel
theorem dX5_cut_15 : decode cX5_cut 15 = .ok (.iadd, 1) := by decide +kernel
theorem dX5_cut_16 : decode cX5_cut 16 = .ok (.istore_n 3, 1) := by decide +kernel
theorem dX5_cut_17 : decode cX5_cut 17 = .ok (.aload_n 0, 1) := by decide +kernel
theorem dX5_cut_18 : decode cX5_cut 18 = .ok (.iload_n 3, 1) := by decide +kernel
theorem dX5_cut_19 : decode cX5_cut 19 = .ok (.invokevirtual 76, 3) := by decide +kernel
theorem dX5_cut_22 : decode cX5_cut 22 = .ok (.ifCond .ne 6, 3) := by decide +kernel
theorem dX5_cut_25 : decode cX5_cut 25 = .ok (.bipush (-7), 2) := by decide +kernel
theorem dX5_cut_27 : decode cX5_cut 27 = .ok (.ireturn, 1) := by decide +kernel
theorem dX5_cut_28 : decode cX5_cut 28 = .ok (.aload_n 0, 1) := by decide +kernel
theorem dX5_cut_29 : decode cX5_cut 29 = .ok (.aload_n 0, 1) := by decide +kernel
theorem dX5_cut_30 : decode cX5_cut 30 = .ok (.getfield 7, 3) := by decide +kernel
theorem dX5_cut_33 : decode cX5_cut 33 = .ok (.iload_n 3, 1) := by decide +kernel
theorem dX5_cut_34 : decode cX5_cut 34 = .ok (.iaload, 1) := by decide +kernel
theorem dX5_cut_35 : decode cX5_cut 35 = .ok (.iconst (-1), 1) := by decide +kernel
theorem dX5_cut_36 : decode cX5_cut 36 = .ok (.invokevirtual 94, 3) := by decide +kernel
theorem dX5_cut_39 : decode cX5_cut 39 = .ok (.aload_n 0, 1) := by decide +kernel
theorem dX5_cut_40 : decode cX5_cut 40 = .ok (.iload_n 3, 1) := by decide +kernel
theorem dX5_cut_41 : decode cX5_cut 41 = .ok (.iconst (-1), 1) := by decide +kernel
theorem dX5_cut_42 : decode cX5_cut 42 = .ok (.invokevirtual 94, 3) := by decide +kernel
theorem dX5_cut_45 : decode cX5_cut 45 = .ok (.aload_n 0, 1) := by decide +kernel
theorem dX5_cut_46 : decode cX5_cut 46 = .ok (.dup, 1) := by decide +kernel
theorem dX5_cut_47 : decode cX5_cut 47 = .ok (.getfield 98, 3) := by decide +kernel
theorem dX5_cut_50 : decode cX5_cut 50 = .ok (.iconst 1, 1) := by decide +kernel
theorem dX5_cut_51 : decode cX5_cut 51 = .ok (.isub, 1) := by decide +kernel
theorem dX5_cut_52 : decode cX5_cut 52 = .ok (.putfield 98, 3) := by decide +kernel
theorem dX5_cut_55 : decode cX5_cut 55 = .ok (.aload_n 0, 1) := by decide +kernel
theorem dX5_cut_56 : decode cX5_cut 56 = .ok (.getfield 98, 3) := by decide +kernel
theorem dX5_cut_59 : decode cX5_cut 59 = .ok (.ireturn, 1) := by decide +kernel
set_option maxRecDepth 20000 in
theorem ggX5_addHost_X5_isPort : GoodIn wsX5_addHost wsX5_isPort := goodIn_r _ [7, 8, 9, 10, 6, 11, 28, 29, 30, 31, 32, 33, 34, 35, 36, 37, 38, 39, 40, 41, 42, 43, 44, 45, 46, 47, 48, 49, 50] (by decide +kernel) (by decide +kernel)
set_option maxRecDepth 20000 in
theorem gX5_addHost_X5_isPort : GoodIn wsX5_addHost (wsV RX5 83 RX5 yX5_isPort wsX5_isPort) := goodIn_app (goodIn_of _ (by decide +kernel)) ggX5_addHost_X5_isPort
set_option maxRecDepth 20000 in
theorem ggX5_addHost_X5_isConnected : GoodIn wsX5_addHost wsX5_isConnected := goodIn_r _ [15, 16, 28, 29, 30, 31, 32, 33, 34, 35, 36, 37, 38, 39, 40, 41, 42, 43, 44, 45, 46, 47, 48, 49, 50] (by decide +kernel) (by decide +kernel)
set_option maxRecDepth 20000 in
theorem gX5_addHost_X5_isConnected : GoodIn wsX5_addHost (wsV RX5 87 RX5 yX5_isConnected wsX5_isConnected) := goodIn_app (goodIn_of _ (by decide +kernel)) ggX5_addHost_X5_isConnected
set_option maxRecDepth 20000 in
theorem ggX5_addHost_X5_resets : GoodIn wsX5_addHost wsX5_resets := goodIn_r _ [20, 16, 21, 22, 23, 24, 25, 26, 27, 28, 29, 30, 31, 32, 33, 34, 35, 36, 37, 38, 39, 40, 41, 42, 43, 44, 45, 46, 47, 48, 49, 50] (by decide +kernel) (by decide +kernel)
set_option maxRecDepth 20000 in
theorem gX5_addHost_X5_resets : GoodIn wsX5_addHost (wsV RX5 94 RX5 yX5_resets wsX5_resets) := goodIn_app (goodIn_of _ (by decide +kernel)) ggX5_addHost_X5_resets
theorem dX5_addHost_0 : decode cX5_addHost 0 = .ok (.aload_n 0, 1) := by decide +kernel
theorem dX5_addHost_1 : decode cX5_addHost 1 = .ok (.iload_n 1, 1) := by decide +kernel
theorem dX5_addHost_2 : decode cX5_addHost 2 = .ok (.iload_n 2, 1) := by decide +kernel
theorem dX5_addHost_3 : decode cX5_addHost 3 = .ok (.invokevirtual 83, 3) := by decide +kernel
theorem dX5_addHost_6 : decode cX5_addHost 6 = .ok (.ifCond .ne 5, 3) := by decide +kernel
theorem dX5_addHost_9 : decode cX5_addHost 9 = .ok (.iconst (-1), 1) := by decide +kernel
theorem dX5_addHost_10 : decode cX5_addHost 10 = .ok (.ireturn, 1) := by decide +kernel
theorem dX5_addHost_11 : decode cX5_addHost 11 = .ok (.iconst 4, 1) := by decide +kernel
theorem dX5_addHost_12 : decode cX5_addHost 12 = .ok (.iload_n 1, 1) := by decide +kernel
theorem dX5_addHost_13 : decode cX5_addHost 13 = .ok (.imul, 1) := by decide +kernel
theorem dX5_addHost_14 : decode cX5_addHost 14 = .ok (.iload_n 2, 1) := by decide +kernel
theorem dX5_addHost_15 : decode cX5_addHost 15 = .ok (.iadd, 1) := by decide +kernel
theorem dX5_addHost_16 : decode cX5_addHost 16 = .ok (.istore_n 3, 1) := by decide +kernel
theorem dX5_addHost_17 : decode cX5_addHost 17 = .ok (.aload_n 0, 1) := by decide +kernel
theorem dX5_addHost_18 : decode cX5_addHost 18 = .ok (.iload_n 3, 1) := by decide +kernel
theorem dX5_addHost_19 : decode cX5_addHost 19 = .ok (.invokevirtual 87, 3) := by decide +kernel
theorem dX5_addHost_22 : decode cX5_addHost 22 = .ok (.ifCond .eq 6, 3) := by decide +kernel
theorem dX5_addHost_25 : decode cX5_addHost 25 = .ok (.bipush (-6), 2) := by decide +kernel
theorem dX5_addHost_27 : decode cX5_addHost 27 = .ok (.ireturn, 1) := by decide +kernel
theorem dX5_addHost_28 : decode cX5_addHost 28 = .ok (.aload_n 0, 1) := by decide +kernel
theorem dX5_addHost_29 : decode cX5_addHost 29 = .ok (.getfield 73, 3) := by decide +kernel
theorem dX5_addHost_32 : decode cX5_addHost 32 = .ok (.bipush 8, 2) := by decide +kernel
theorem dX5_addHost_34 : decode cX5_addHost 34 = .ok (.if_icmp .ne 6, 3) := by decide +kernel
theorem dX5_addHost_37 : decode cX5_addHost 37 = .ok (.bipush (-5), 2) := by decide +kernel
theorem dX5_addHost_39 : decode cX5_addHost 39 = .ok (.ireturn, 1) := by decide +kernel
theorem dX5_addHost_40 : decode cX5_addHost 40 = .ok (.aload_n 0, 1) := by decide +kernel
theorem dX5_addHost_41 : decode cX5_addHost 41 = .ok (.iload_n 3, 1) := by decide +kernel
theorem dX5_addHost_42 : decode cX5_addHost 42 = .ok (.bipush 100, 2) := by decide +kernel
theorem dX5_addHost_44 : decode cX5_addHost 44 = .ok (.aload_n 0, 1) := by decide +kernel
theorem dX5_addHost_45 : decode cX5_addHost 45 = .ok (.getfield 73, 3) := by decide +kernel
theorem dX5_addHost_48 : decode cX5_addHost 48 = .ok (.iadd, 1) := by decide +kernel
theorem dX5_addHost_49 : decode cX5_addHost 49 = .ok (.invokevirtual 94, 3) := by decide +kernel
theorem dX5_addHost_52 : decode cX5_addHost 52 = .ok (.aload_n 0, 1) := by decide +kernel
theorem dX5_addHost_53 : decode cX5_addHost 53 = .ok (.getfield 13, 3) := by decide +kernel
theorem dX5_addHost_56 : decode cX5_addHost 56 = .ok (.aload_n 0, 1) := by decide +kernel
theorem dX5_addHost_57 : decode cX5_addHost 57 = .ok (.getfield 73, 3) := by decide +kernel
theorem dX5_addHost_60 : decode cX5_addHost 60 = .ok (.iload_n 3, 1) := by decide +kernel
theorem dX5_addHost_61 : decode cX5_addHost 61 = .ok (.iastore, 1) := by decide +kernel
theorem dX5_addHost_62 : decode cX5_addHost 62 = .ok (.aload_n 0, 1) := by decide +kernel
theorem dX5_addHost_63 : decode cX5_addHost 63 = .ok (.dup, 1) := by decide +kernel
theorem dX5_addHost_64 : decode cX5_addHost 64 = .ok (.getfield 73, 3) := by decide +kernel
theorem dX5_addHost_67 : decode cX5_addHost 67 = .ok (.iconst 1, 1) := by decide +kernel
theorem dX5_addHost_68 : decode cX5_addHost 68 = .ok (.iadd, 1) := by decide +kernel
theorem dX5_addHost_69 : decode cX5_addHost 69 = .ok (.putfield 73, 3) := by decide +kernel
theorem dX5_addHost_72 : decode cX5_addHost 72 = .ok (.aload_n 0, 1) := by decide +kernel
theorem dX5_addHost_73 : decode cX5_addHost 73 = .ok (.getfield 73, 3) := by decide +kernel
theorem dX5_addHost_76 : decode cX5_addHost 76 = .ok (.iconst 1, 1) := by decide +kernel
theorem dX5_addHost_77 : decode cX5_addHost 77 = .ok (.isub, 1) := by decide +kernel
theorem dX5_addHost_78 : decode cX5_addHost 78 = .ok (.ireturn, 1) := by decide +kernel
set_option maxRecDepth 20000 in
theorem ggX5_setTimes_X5_within : GoodIn wsX5_setTimes wsX5_within := goodIn_r _ [7] (by decide +kernel) (by decide +kernel)
set_option maxRecDepth 20000 in
theorem gX5_setTimes_X5_within : GoodIn wsX5_setTimes (va_wsS RX5 69 yX5_within wsX5_within) := goodIn_app (goodIn_of _ (by decide +kernel)) ggX5_setTimes_X5_within
set_option maxRecDepth 20000 in
theorem ggX5_setTimes_X5_isConnected : GoodIn wsX5_setTimes wsX5_isConnected := goodIn_r _ [11, 12, 13, 14, 15, 16, 17, 18, 19, 20, 21, 22, 23, 24, 25, 26, 27, 28, 29, 30, 31, 32, 33, 34, 35] (by decide +kernel) (by decide +kernel)
set_option maxRecDepth 20000 in
theorem gX5_setTimes_X5_isConnected : GoodIn wsX5_setTimes (wsV RX5 87 RX5 yX5_isConnected wsX5_isConnected) := goodIn_app (goodIn_of _ (by decide +kernel)) ggX5_setTimes_X5_isConnected
theorem dX5_setTimes_0 : decode cX5_setTimes 0 = .ok (.iload_n 1, 1) := by decide +kernel
theorem dX5_setTimes_1 : decode cX5_setTimes 1 = .ok (.iconst 1, 1) := by decide +kernel
theorem dX5_setTimes_2 : decode cX5_setTimes 2 = .ok (.bipush 50, 2) := by decide +kernel
theorem dX5_setTimes_4 : decode cX5_setTimes 4 = .ok (.invokestatic 69, 3) := by decide +kernel
theorem dX5_setTimes_7 : decode cX5_setTimes 7 = .ok (.ifCond .eq 14, 3) := by decide +kernel
theorem dX5_setTimes_10 : decode cX5_setTimes 10 = .ok (.iload_n 2, 1) := by decide +kernel
theorem dX5_setTimes_11 : decode cX5_setTimes 11 = .ok (.iconst 0, 1) := by decide +kernel
theorem dX5_setTimes_12 : decode cX5_setTimes 12 = .ok (.sipush 200, 3) := by decide +kernel
theorem dX5_setTimes_15 : decode cX5_setTimes 15 = .ok (.invokestatic 69, 3) := by decide +kernel
theorem dX5_setTimes_18 : decode cX5_setTimes 18 = .ok (.ifCond .ne 6, 3) := by decide +kernel
theorem dX5_setTimes_21 : decode cX5_setTimes 21 = .ok (.bipush (-4), 2) := by decide +kernel
theorem dX5_setTimes_23 : decode cX5_setTimes 23 = .ok (.ireturn, 1) := by decide +kernel
theorem dX5_setTimes_24 : decode cX5_setTimes 24 = .ok (.aload_n 0, 1) := by decide +kernel
theorem dX5_setTimes_25 : decode cX5_setTimes 25 = .ok (.iload_n 1, 1) := by decide +kernel
theorem dX5_setTimes_26 : decode cX5_setTimes 26 = .ok (.putfield 20, 3) := by decide +kernel
theorem dX5_setTimes_29 : decode cX5_setTimes 29 = .ok (.aload_n 0, 1) := by decide +kernel
theorem dX5_setTimes_30 : decode cX5_setTimes 30 = .ok (.iload_n 2, 1) := by decide +kernel
theorem dX5_setTimes_31 : decode cX5_setTimes 31 = .ok (.putfield 80, 3) := by decide +kernel
theorem dX5_setTimes_34 : decode cX5_setTimes 34 = .ok (.iconst 0, 1) := by decide +kernel
theorem dX5_setTimes_35 : decode cX5_setTimes 35 = .ok (.istore_n 3, 1) := by decide +kernel
theorem dX5_setTimes_36 : decode cX5_setTimes 36 = .ok (.iconst 0, 1) := by decide +kernel
theorem dX5_setTimes_37 : decode cX5_setTimes 37 = .ok (.istore 4, 2) := by decide +kernel
theorem dX5_setTimes_39 : decode cX5_setTimes 39 = .ok (.iload 4, 2) := by decide +kernel
theorem dX5_setTimes_41 : decode cX5_setTimes 41 = .ok (.bipush 20, 2) := by decide +kernel
theorem dX5_setTimes_43 : decode cX5_setTimes 43 = .ok (.if_icmp .ge 29, 3) := by decide +kernel
theorem dX5_setTimes_46 : decode cX5_setTimes 46 = .ok (.aload_n 0, 1) := by decide +kernel
theorem dX5_setTimes_47 : decode cX5_setTimes 47 = .ok (.iload 4, 2) := by decide +kernel
theorem dX5_setTimes_49 : decode cX5_setTimes 49 = .ok (.invokevirtual 87, 3) := by decide +kernel
theorem dX5_setTimes_52 : decode cX5_setTimes 52 = .ok (.ifCond .eq 14, 3) := by decide +kernel
theorem dX5_setTimes_55 : decode cX5_setTimes 55 = .ok (.aload_n 0, 1) := by decide +kernel
theorem dX5_setTimes_56 : decode cX5_setTimes 56 = .ok (.getfield 36, 3) := by decide +kernel
theorem dX5_setTimes_59 : decode cX5_setTimes 59 = .ok (.iload 4, 2) := by decide +kernel
theorem dX5_setTimes_61 : decode cX5_setTimes 61 = .ok (.iload_n 2, 1) := by decide +kernel
theorem dX5_setTimes_62 : decode cX5_setTimes 62 = .ok (.iastore, 1) := by decide +kernel
theorem dX5_setTimes_63 : decode cX5_setTimes 63 = .ok (.iinc 3 1, 3) := by decide +kernel
theorem dX5_setTimes_66 : decode cX5_setTimes 66 = .ok (.iinc 4 1, 3) := by decide +kernel
theorem dX5_setTimes_69 : decode cX5_setTimes 69 = .ok (.goto (-30), 3) := by decide +kernel
theorem dX5_setTimes_72 : decode cX5_setTimes 72 = .ok (.iload_n 3, 1) := by decide +kernel
theorem dX5_setTimes_73 : decode cX5_setTimes 73 = .ok (.ireturn, 1) := by decide +kernel
theorem dX5_declares_0 : decode cX5_declares 0 = .ok (.iload_n 0, 1) := by decide +kernel
theorem dX5_declares_1 : decode cX5_declares 1 = .ok (.iconst 1, 1) := by decide +kernel
theorem dX5_declares_2 : decode cX5_declares 2 = .ok (.if_icmp .eq 8, 3) := by decide +kernel
theorem dX5_declares_5 : decode cX5_declares 5 = .ok (.iload_n 0, 1) := by decide +kernel
theorem dX5_declares_6 : decode cX5_declares 6 = .ok (.iconst 2, 1) := by decide +kernel
theorem dX5_declares_7 : decode cX5_declares 7 = .ok (.if_icmp .ne 7, 3) := by decide +kernel
theorem dX5_declares_10 : decode cX5_declares 10 = .ok (.iconst 1, 1) := by decide +kernel
theorem dX5_declares_11 : decode cX5_declares 11 = .ok (.goto 4, 3) := by decide +kernel
theorem dX5_declares_14 : decode cX5_declares 14 = .ok (.iconst 0, 1) := by decide +kernel
theorem dX5_declares_15 : decode cX5_declares 15 = .ok (.ireturn, 1) := by decide +kernel
set_option maxRecDepth 20000 in
theorem ggX5_refusedHost_X5_isHost : GoodIn wsX5_refusedHost wsX5_isHost := goodIn_r _ [5, 6, 7, 8, 4, 9, 13, 14, 15, 16, 17, 18, 19, 20, 21, 22, 23, 24, 25, 26, 27, 28, 29, 30, 31, 32, 33, 34, 35] (by decide +kernel) (by decide +kernel)
set_option maxRecDepth 20000 in
theorem gX5_refusedHost_X5_isHost : GoodIn wsX5_refusedHost (wsV RX5 101 RX5 yX5_isHost wsX5_isHost) := goodIn_app (goodIn_of _ (by decide +kernel)) ggX5_refusedHost_X5_isHost
set_option maxRecDepth 20000 in
theorem ggX5_refusedHost_X5_isGroup : GoodIn wsX5_refusedHost wsX5_isGroup := goodIn_r _ [12, 7, 8, 4, 9] (by decide +kernel) (by decide +kernel)
set_option maxRecDepth 20000 in
theorem gX5_refusedHost_X5_isGroup : GoodIn wsX5_refusedHost (va_wsS RX5 104 yX5_isGroup wsX5_isGroup) := goodIn_app (goodIn_of _ (by decide +kernel)) ggX5_refusedHost_X5_isGroup
theorem dX5_refusedHost_0 : decode cX5_refusedHost 0 = .ok (.aload_n 0, 1) := by decide +kernel
theorem dX5_refusedHost_1 : decode cX5_refusedHost 1 = .ok (.iload_n 1, 1) := by decide +kernel
theorem dX5_refusedHost_2 : decode cX5_refusedHost 2 = .ok (.invokevirtual 101, 3) := by decide +kernel
theorem dX5_refusedHost_5 : decode cX5_refusedHost 5 = .ok (.ifCond .ne 8, 3) := by decide +kernel
theorem dX5_refusedHost_8 : decode cX5_refusedHost 8 = .ok (.bipush (-2), 2) := by decide +kernel
theorem dX5_refusedHost_10 : decode cX5_refusedHost 10 = .ok (.goto 16, 3) := by decide +kernel
theorem dX5_refusedHost_13 : decode cX5_refusedHost 13 = .ok (.iload_n 2, 1) := by decide +kernel
theorem dX5_refusedHost_14 : decode cX5_refusedHost 14 = .ok (.invokestatic 104, 3) := by decide +kernel
theorem dX5_refusedHost_17 : decode cX5_refusedHost 17 = .ok (.ifCond .ne 8, 3) := by decide +kernel
theorem dX5_refusedHost_20 : decode cX5_refusedHost 20 = .ok (.bipush (-3), 2) := by decide +kernel
theorem dX5_refusedHost_22 : decode cX5_refusedHost 22 = .ok (.goto 4, 3) := by decide +kernel
theorem dX5_refusedHost_25 : decode cX5_refusedHost 25 = .ok (.iconst 0, 1) := by decide +kernel
theorem dX5_refusedHost_26 : decode cX5_refusedHost 26 = .ok (.ireturn, 1) := by decide +kernel
set_option maxRecDepth 20000 in
theorem ggX5_join_X5_refusedHost : GoodIn wsX5_join wsX5_refusedHost := goodIn_r _ [7, 8, 9, 10, 6, 11, 12, 13, 14, 15, 16, 17, 18, 22, 23, 24, 25, 26, 27, 28, 29, 30, 31, 32, 33, 34, 35, 36, 37, 38, 39, 40, 41, 42, 43, 44] (by decide +kernel) (by decide +kernel)
set_option maxRecDepth 20000 in
theorem gX5_join_X5_refusedHost : GoodIn wsX5_join (wsV RX5 107 RX5 yX5_refusedHost wsX5_refusedHost) := goodIn_app (goodIn_of _ (by decide +kernel)) ggX5_join_X5_refusedHost
set_option maxRecDepth 20000 in
theorem ggX5_join_X5_declares : GoodIn wsX5_join wsX5_declares := goodIn_r _ [21] (by decide +kernel) (by decide +kernel)
set_option maxRecDepth 20000 in
theorem gX5_join_X5_declares : GoodIn wsX5_join (va_wsS RX5 111 yX5_declares wsX5_declares) := goodIn_app (goodIn_of _ (by decide +kernel)) ggX5_join_X5_declares
theorem dX5_join_0 : decode cX5_join 0 = .ok (.aload_n 0, 1) := by decide +kernel
theorem dX5_join_1 : decode cX5_join 1 = .ok (.iload_n 1, 1) := by decide +kernel
theorem dX5_join_2 : decode cX5_join 2 = .ok (.iload_n 2, 1) := by decide +kernel
theorem dX5_join_3 : decode cX5_join 3 = .ok (.invokevirtual 107, 3) := by decide +kernel
theorem dX5_join_6 : decode cX5_join 6 = .ok (.istore_n 3, 1) := by decide +kernel
theorem dX5_join_7 : decode cX5_join 7 = .ok (.iload_n 3, 1) := by decide +kernel
theorem dX5_join_8 : decode cX5_join 8 = .ok (.ifCond .eq 5, 3) := by decide +kernel
theorem dX5_join_11 : decode cX5_join 11 = .ok (.iload_n 3, 1) := by decide +kernel
theorem dX5_join_12 : decode cX5_join 12 = .ok (.ireturn, 1) := by decide +kernel
theorem dX5_join_13 : decode cX5_join 13 = .ok (.iconst 4, 1) := by decide +kernel
theorem dX5_join_14 : decode cX5_join 14 = .ok (.iload_n 1, 1) := by decide +kernel
theorem dX5_join_15 : decode cX5_join 15 = .ok (.imul, 1) := by decide +kernel
theorem dX5_join_16 : decode cX5_join 16 = .ok (.iload_n 2, 1) := by decide +kernel
theorem dX5_join_17 : decode cX5_join 17 = .ok (.iadd, 1) := by decide +kernel
theorem dX5_join_18 : decode cX5_join 18 = .ok (.istore 4, 2) := by decide +kernel
theorem dX5_join_20 : decode cX5_join 20 = .ok (.aload_n 0, 1) := by decide +kernel
theorem dX5_join_21 : decode cX5_join 21 = .ok (.getfield 42, 3) := by decide +kernel
theorem dX5_join_24 : decode cX5_join 24 = .ok (.iload 4, 2) := by decide +kernel
theorem dX5_join_26 : decode cX5_join 26 = .ok (.iaload, 1) := by decide +kernel
theorem dX5_join_27 : decode cX5_join 27 = .ok (.invokestatic 111, 3) := by decide +kernel
theorem dX5_join_30 : decode cX5_join 30 = .ok (.ifCond .eq 5, 3) := by decide +kernel
theorem dX5_join_33 : decode cX5_join 33 = .ok (.iconst 0, 1) := by decide +kernel
theorem dX5_join_34 : decode cX5_join 34 = .ok (.ireturn, 1) := by decide +kernel
theorem dX5_join_35 : decode cX5_join 35 = .ok (.aload_n 0, 1) := by decide +kernel
theorem dX5_join_36 : decode cX5_join 36 = .ok (.getfield 42, 3) := by decide +kernel
theorem dX5_join_39 : decode cX5_join 39 = .ok (.iload 4, 2) := by decide +kernel
theorem dX5_join_41 : decode cX5_join 41 = .ok (.iconst 1, 1) := by decide +kernel
theorem dX5_join_42 : decode cX5_join 42 = .ok (.iastore, 1) := by decide +kernel
theorem dX5_join_43 : decode cX5_join 43 = .ok (.aload_n 0, 1) := by decide +kernel
theorem dX5_join_44 : decode cX5_join 44 = .ok (.getfield 45, 3) := by decide +kernel
theorem dX5_join_47 : decode cX5_join 47 = .ok (.iload 4, 2) := by decide +kernel
theorem dX5_join_49 : decode cX5_join 49 = .ok (.iconst 2, 1) := by decide +kernel
theorem dX5_join_50 : decode cX5_join 50 = .ok (.iastore, 1) := by decide +kernel
theorem dX5_join_51 : decode cX5_join 51 = .ok (.iconst 1, 1) := by decide +kernel
theorem dX5_join_52 : decode cX5_join 52 = .ok (.ireturn, 1) := by decide +kernel
set_option maxRecDepth 20000 in
theorem ggX5_leave_X5_refusedHost : GoodIn wsX5_leave wsX5_refusedHost := goodIn_r _ [6, 7, 8, 9, 5, 10, 11, 12, 13, 14, 15, 16, 17, 21, 22, 23, 24, 25, 26, 27, 28, 29, 30, 31, 32, 33, 34, 35, 36, 37, 38, 39, 40, 41, 42, 43] (by decide +kernel) (by decide +kernel)
set_option maxRecDepth 20000 in
theorem gX5_leave_X5_refusedHost : GoodIn wsX5_leave (wsV RX5 107 RX5 yX5_refusedHost wsX5_refusedHost) := goodIn_app (goodIn_of _ (by decide +kernel)) ggX5_leave_X5_refusedHost
set_option maxRecDepth 20000 in
theorem ggX5_leave_X5_declares : GoodIn wsX5_leave wsX5_declares := goodIn_r _ [20] (by decide +kernel) (by decide +kernel)
set_option maxRecDepth 20000 in
theorem gX5_leave_X5_declares : GoodIn wsX5_leave (va_wsS RX5 111 yX5_declares wsX5_declares) := goodIn_app (goodIn_of _ (by decide +kernel)) ggX5_leave_X5_declares
theorem dX5_leave_0 : decode cX5_leave 0 = .ok (.aload_n 0, 1) := by decide +kernel
theorem dX5_leave_1 : decode cX5_leave 1 = .ok (.iload_n 1, 1) := by decide +kernel
theorem dX5_leave_2 : decode cX5_leave 2 = .ok (.iload_n 2, 1) := by decide +kernel
theorem dX5_leave_3 : decode cX5_leave 3 = .ok (.invokevirtual 107, 3) := by decide +kernel
theorem dX5_leave_6 : decode cX5_leave 6 = .ok (.istore_n 3, 1) := by decide +kernel
theorem dX5_leave_7 : decode cX5_leave 7 = .ok (.iload_n 3, 1) := by decide +kernel
theorem dX5_leave_8 : decode cX5_leave 8 = .ok (.ifCond .eq 5, 3) := by decide +kernel
theorem dX5_leave_11 : decode cX5_leave 11 = .ok (.iload_n 3, 1) := by decide +kernel
theorem dX5_leave_12 : decode cX5_leave 12 = .ok (.ireturn, 1) := by decide +kernel
theorem dX5_leave_13 : decode cX5_leave 13 = .ok (.iconst 4, 1) := by decide +kernel
theorem dX5_leave_14 : decode cX5_leave 14 = .ok (.iload_n 1, 1) := by decide +kernel
theorem dX5_leave_15 : decode cX5_leave 15 = .ok (.imul, 1) := by decide +kernel
theorem dX5_leave_16 : decode cX5_leave 16 = .ok (.iload_n 2, 1) := by decide +kernel
theorem dX5_leave_17 : decode cX5_leave 17 = .ok (.iadd, 1) := by decide +kernel
theorem dX5_leave_18 : decode cX5_leave 18 = .ok (.istore 4, 2) := by decide +kernel
theorem dX5_leave_20 : decode cX5_leave 20 = .ok (.aload_n 0, 1) := by decide +kernel
theorem dX5_leave_21 : decode cX5_leave 21 = .ok (.getfield 42, 3) := by decide +kernel
theorem dX5_leave_24 : decode cX5_leave 24 = .ok (.iload 4, 2) := by decide +kernel
theorem dX5_leave_26 : decode cX5_leave 26 = .ok (.iaload, 1) := by decide +kernel
theorem dX5_leave_27 : decode cX5_leave 27 = .ok (.invokestatic 111, 3) := by decide +kernel
theorem dX5_leave_30 : decode cX5_leave 30 = .ok (.ifCond .ne 5, 3) := by decide +kernel
theorem dX5_leave_33 : decode cX5_leave 33 = .ok (.iconst 0, 1) := by decide +kernel
theorem dX5_leave_34 : decode cX5_leave 34 = .ok (.ireturn, 1) := by decide +kernel
theorem dX5_leave_35 : decode cX5_leave 35 = .ok (.aload_n 0, 1) := by decide +kernel
theorem dX5_leave_36 : decode cX5_leave 36 = .ok (.getfield 42, 3) := by decide +kernel
theorem dX5_leave_39 : decode cX5_leave 39 = .ok (.iload 4, 2) := by decide +kernel
theorem dX5_leave_41 : decode cX5_leave 41 = .ok (.iconst 3, 1) := by decide +kernel
theorem dX5_leave_42 : decode cX5_leave 42 = .ok (.iastore, 1) := by decide +kernel
theorem dX5_leave_43 : decode cX5_leave 43 = .ok (.iconst 1, 1) := by decide +kernel
theorem dX5_leave_44 : decode cX5_leave 44 = .ok (.ireturn, 1) := by decide +kernel
set_option maxRecDepth 20000 in
theorem ggX5_setSilent_X5_isHost : GoodIn wsX5_setSilent wsX5_isHost := goodIn_r _ [6, 7, 8, 9, 5, 10, 11, 12, 13, 14, 15, 16, 17, 18, 19, 20, 21, 22, 23, 24, 25, 26, 27, 28, 29, 30, 31, 32, 33] (by decide +kernel) (by decide +kernel)
set_option maxRecDepth 20000 in
theorem gX5_setSilent_X5_isHost : GoodIn wsX5_setSilent (wsV RX5 101 RX5 yX5_isHost wsX5_isHost) := goodIn_app (goodIn_of _ (by decide +kernel)) ggX5_setSilent_X5_isHost
theorem dX5_setSilent_0 : decode cX5_setSilent 0 = .ok (.aload_n 0, 1) := by decide +kernel
theorem dX5_setSilent_1 : decode cX5_setSilent 1 = .ok (.iload_n 1, 1) := by decide +kernel
theorem dX5_setSilent_2 : decode cX5_setSilent 2 = .ok (.invokevirtual 101, 3) := by decide +kernel
theorem dX5_setSilent_5 : decode cX5_setSilent 5 = .ok (.ifCond .ne 6, 3) := by decide +kernel
theorem dX5_setSilent_8 : decode cX5_setSilent 8 = .ok (.bipush (-2), 2) := by decide +kernel
theorem dX5_setSilent_10 : decode cX5_setSilent 10 = .ok (.ireturn, 1) := by decide +kernel
theorem dX5_setSilent_11 : decode cX5_setSilent 11 = .ok (.aload_n 0, 1) := by decide +kernel
theorem dX5_setSilent_12 : decode cX5_setSilent 12 = .ok (.getfield 16, 3) := by decide +kernel
theorem dX5_setSilent_15 : decode cX5_setSilent 15 = .ok (.iload_n 1, 1) := by decide +kernel
theorem dX5_setSilent_16 : decode cX5_setSilent 16 = .ok (.baload, 1) := by decide +kernel
theorem dX5_setSilent_17 : decode cX5_setSilent 17 = .ok (.iload_n 2, 1) := by decide +kernel
theorem dX5_setSilent_18 : decode cX5_setSilent 18 = .ok (.if_icmp .ne 7, 3) := by decide +kernel
theorem dX5_setSilent_21 : decode cX5_setSilent 21 = .ok (.iconst 0, 1) := by decide +kernel
theorem dX5_setSilent_22 : decode cX5_setSilent 22 = .ok (.goto 4, 3) := by decide +kernel
theorem dX5_setSilent_25 : decode cX5_setSilent 25 = .ok (.iconst 1, 1) := by decide +kernel
theorem dX5_setSilent_26 : decode cX5_setSilent 26 = .ok (.istore_n 3, 1) := by decide +kernel
theorem dX5_setSilent_27 : decode cX5_setSilent 27 = .ok (.aload_n 0, 1) := by decide +kernel
theorem dX5_setSilent_28 : decode cX5_setSilent 28 = .ok (.getfield 16, 3) := by decide +kernel
theorem dX5_setSilent_31 : decode cX5_setSilent 31 = .ok (.iload_n 1, 1) := by decide +kernel
theorem dX5_setSilent_32 : decode cX5_setSilent 32 = .ok (.iload_n 2, 1) := by decide +kernel
theorem dX5_setSilent_33 : decode cX5_setSilent 33 = .ok (.bastore, 1) := by decide +kernel
theorem dX5_setSilent_34 : decode cX5_setSilent 34 = .ok (.iload_n 3, 1) := by decide +kernel
theorem dX5_setSilent_35 : decode cX5_setSilent 35 = .ok (.ireturn, 1) := by decide +kernel
set_option maxRecDepth 20000 in
theorem ggX5_loseNext_X5_isPort : GoodIn wsX5_loseNext wsX5_isPort := goodIn_r _ [6, 7, 8, 9, 5, 10, 16, 17, 18, 19, 20, 21, 22, 23, 24, 25, 26, 27, 28, 29, 30, 31, 32, 33, 34, 35, 36, 37, 38] (by decide +kernel) (by decide +kernel)
set_option maxRecDepth 20000 in
theorem gX5_loseNext_X5_isPort : GoodIn wsX5_loseNext (wsV RX5 83 RX5 yX5_isPort wsX5_isPort) := goodIn_app (goodIn_of _ (by decide +kernel)) ggX5_loseNext_X5_isPort
set_option maxRecDepth 20000 in
theorem ggX5_loseNext_X5_isLinked : GoodIn wsX5_loseNext wsX5_isLinked := goodIn_r _ [14, 15, 8, 9, 5, 10, 16, 17, 18, 19, 20, 21, 22, 23, 24, 25, 26, 27, 28, 29, 30, 31, 32, 33, 34, 35, 36, 37, 38] (by decide +kernel) (by decide +kernel)
set_option maxRecDepth 20000 in
theorem gX5_loseNext_X5_isLinked : GoodIn wsX5_loseNext (wsV RX5 76 RX5 yX5_isLinked wsX5_isLinked) := goodIn_app (goodIn_of _ (by decide +kernel)) ggX5_loseNext_X5_isLinked
theorem dX5_loseNext_0 : decode cX5_loseNext 0 = .ok (.aload_n 0, 1) := by decide +kernel
theorem dX5_loseNext_1 : decode cX5_loseNext 1 = .ok (.iload_n 1, 1) := by decide +kernel
theorem dX5_loseNext_2 : decode cX5_loseNext 2 = .ok (.iload_n 2, 1) := by decide +kernel
theorem dX5_loseNext_3 : decode cX5_loseNext 3 = .ok (.invokevirtual 83, 3) := by decide +kernel
theorem dX5_loseNext_6 : decode cX5_loseNext 6 = .ok (.ifCond .ne 5, 3) := by decide +kernel
theorem dX5_loseNext_9 : decode cX5_loseNext 9 = .ok (.iconst (-1), 1) := by decide +kernel
theorem dX5_loseNext_10 : decode cX5_loseNext 10 = .ok (.ireturn, 1) := by decide +kernel
theorem dX5_loseNext_11 : decode cX5_loseNext 11 = .ok (.iconst 4, 1) := by decide +kernel
theorem dX5_loseNext_12 : decode cX5_loseNext 12 = .ok (.iload_n 1, 1) := by decide +kernel
theorem dX5_loseNext_13 : decode cX5_loseNext 13 = .ok (.imul, 1) := by decide +kernel
theorem dX5_loseNext_14 : decode cX5_loseNext 14 = .ok (.iload_n 2, 1) := by decide +kernel
theorem dX5_loseNext_15 : decode cX5_loseNext 15 = .ok (.iadd, 1) := by decide +kernel
theorem dX5_loseNext_16 : decode cX5_loseNext 16 = .ok (.istore_n 3, 1) := by decide +kernel
theorem dX5_loseNext_17 : decode cX5_loseNext 17 = .ok (.aload_n 0, 1) := by decide +kernel
theorem dX5_loseNext_18 : decode cX5_loseNext 18 = .ok (.iload_n 3, 1) := by decide +kernel
theorem dX5_loseNext_19 : decode cX5_loseNext 19 = .ok (.invokevirtual 76, 3) := by decide +kernel
theorem dX5_loseNext_22 : decode cX5_loseNext 22 = .ok (.ifCond .ne 6, 3) := by decide +kernel
theorem dX5_loseNext_25 : decode cX5_loseNext 25 = .ok (.bipush (-7), 2) := by decide +kernel
theorem dX5_loseNext_27 : decode cX5_loseNext 27 = .ok (.ireturn, 1) := by decide +kernel
theorem dX5_loseNext_28 : decode cX5_loseNext 28 = .ok (.aload_n 0, 1) := by decide +kernel
theorem dX5_loseNext_29 : decode cX5_loseNext 29 = .ok (.getfield 39, 3) := by decide +kernel
theorem dX5_loseNext_32 : decode cX5_loseNext 32 = .ok (.iload_n 3, 1) := by decide +kernel
theorem dX5_loseNext_33 : decode cX5_loseNext 33 = .ok (.baload, 1) := by decide +kernel
theorem dX5_loseNext_34 : decode cX5_loseNext 34 = .ok (.ifCond .eq 7, 3) := by decide +kernel
theorem dX5_loseNext_37 : decode cX5_loseNext 37 = .ok (.iconst 0, 1) := by decide +kernel
theorem dX5_loseNext_38 : decode cX5_loseNext 38 = .ok (.goto 4, 3) := by decide +kernel
theorem dX5_loseNext_41 : decode cX5_loseNext 41 = .ok (.iconst 1, 1) := by decide +kernel
theorem dX5_loseNext_42 : decode cX5_loseNext 42 = .ok (.istore 4, 2) := by decide +kernel
theorem dX5_loseNext_44 : decode cX5_loseNext 44 = .ok (.aload_n 0, 1) := by decide +kernel
theorem dX5_loseNext_45 : decode cX5_loseNext 45 = .ok (.getfield 39, 3) := by decide +kernel
theorem dX5_loseNext_48 : decode cX5_loseNext 48 = .ok (.iload_n 3, 1) := by decide +kernel
theorem dX5_loseNext_49 : decode cX5_loseNext 49 = .ok (.iconst 1, 1) := by decide +kernel
theorem dX5_loseNext_50 : decode cX5_loseNext 50 = .ok (.bastore, 1) := by decide +kernel
theorem dX5_loseNext_51 : decode cX5_loseNext 51 = .ok (.iload 4, 2) := by decide +kernel
theorem dX5_loseNext_53 : decode cX5_loseNext 53 = .ok (.ireturn, 1) := by decide +kernel
theorem dX5_ages_0 : decode cX5_ages 0 = .ok (.aload_n 0, 1) := by decide +kernel
theorem dX5_ages_1 : decode cX5_ages 1 = .ok (.getfield 48, 3) := by decide +kernel
theorem dX5_ages_4 : decode cX5_ages 4 = .ok (.iload_n 1, 1) := by decide +kernel
theorem dX5_ages_5 : decode cX5_ages 5 = .ok (.iconst 0, 1) := by decide +kernel
theorem dX5_ages_6 : decode cX5_ages 6 = .ok (.bastore, 1) := by decide +kernel
theorem dX5_ages_7 : decode cX5_ages 7 = .ok (.iconst 4, 1) := by decide +kernel
theorem dX5_ages_8 : decode cX5_ages 8 = .ok (.iload_n 1, 1) := by decide +kernel
theorem dX5_ages_9 : decode cX5_ages 9 = .ok (.imul, 1) := by decide +kernel
theorem dX5_ages_10 : decode cX5_ages 10 = .ok (.istore_n 2, 1) := by decide +kernel
theorem dX5_ages_11 : decode cX5_ages 11 = .ok (.iload_n 2, 1) := by decide +kernel
theorem dX5_ages_12 : decode cX5_ages 12 = .ok (.iconst 4, 1) := by decide +kernel
theorem dX5_ages_13 : decode cX5_ages 13 = .ok (.iload_n 1, 1) := by decide +kernel
theorem dX5_ages_14 : decode cX5_ages 14 = .ok (.imul, 1) := by decide +kernel
theorem dX5_ages_15 : decode cX5_ages 15 = .ok (.iconst 4, 1) := by decide +kernel
theorem dX5_ages_16 : decode cX5_ages 16 = .ok (.iadd, 1) := by decide +kernel
theorem dX5_ages_17 : decode cX5_ages 17 = .ok (.if_icmp .ge 49, 3) := by decide +kernel
theorem dX5_ages_20 : decode cX5_ages 20 = .ok (.aload_n 0, 1) := by decide +kernel
theorem dX5_ages_21 : decode cX5_ages 21 = .ok (.getfield 24, 3) := by decide +kernel
theorem dX5_ages_24 : decode cX5_ages 24 = .ok (.iload_n 2, 1) := by decide +kernel
theorem dX5_ages_25 : decode cX5_ages 25 = .ok (.iaload, 1) := by decide +kernel
theorem dX5_ages_26 : decode cX5_ages 26 = .ok (.iconst 2, 1) := by decide +kernel
theorem dX5_ages_27 : decode cX5_ages 27 = .ok (.if_icmp .ne 33, 3) := by decide +kernel
theorem dX5_ages_30 : decode cX5_ages 30 = .ok (.aload_n 0, 1) := by decide +kernel
theorem dX5_ages_31 : decode cX5_ages 31 = .ok (.getfield 27, 3) := by decide +kernel
theorem dX5_ages_34 : decode cX5_ages 34 = .ok (.iload_n 2, 1) := by decide +kernel
theorem dX5_ages_35 : decode cX5_ages 35 = .ok (.dup2, 1) := by decide +kernel
theorem dX5_ages_36 : decode cX5_ages 36 = .ok (.iaload, 1) := by decide +kernel
theorem dX5_ages_37 : decode cX5_ages 37 = .ok (.iconst 1, 1) := by decide +kernel
theorem dX5_ages_38 : decode cX5_ages 38 = .ok (.isub, 1) := by decide +kernel
theorem dX5_ages_39 : decode cX5_ages 39 = .ok (.iastore, 1) := by decide +kernel
theorem dX5_ages_40 : decode cX5_ages 40 = .ok (.aload_n 0, 1) := by decide +kernel
theorem dX5_ages_41 : decode cX5_ages 41 = .ok (.getfield 24, 3) := by decide +kernel
theorem dX5_ages_44 : decode cX5_ages 44 = .ok (.iload_n 2, 1) := by decide +kernel
theorem dX5_ages_45 : decode cX5_ages 45 = .ok (.aload_n 0, 1) := by decide +kernel
theorem dX5_ages_46 : decode cX5_ages 46 = .ok (.getfield 27, 3) := by decide +kernel
theorem dX5_ages_49 : decode cX5_ages 49 = .ok (.iload_n 2, 1) := by decide +kernel
theorem dX5_ages_50 : decode cX5_ages 50 = .ok (.iaload, 1) := by decide +kernel
theorem dX5_ages_51 : decode cX5_ages 51 = .ok (.ifCond .ne 7, 3) := by decide +kernel
theorem dX5_ages_54 : decode cX5_ages 54 = .ok (.iconst 0, 1) := by decide +kernel
theorem dX5_ages_55 : decode cX5_ages 55 = .ok (.goto 4, 3) := by decide +kernel
theorem dX5_ages_58 : decode cX5_ages 58 = .ok (.iconst 2, 1) := by decide +kernel
theorem dX5_ages_59 : decode cX5_ages 59 = .ok (.iastore, 1) := by decide +kernel
theorem dX5_ages_60 : decode cX5_ages 60 = .ok (.iinc 2 1, 3) := by decide +kernel
theorem dX5_ages_63 : decode cX5_ages 63 = .ok (.goto (-52), 3) := by decide +kernel
theorem dX5_ages_66 : decode cX5_ages 66 = .ok (.aload_n 0, 1) := by decide +kernel
theorem dX5_ages_67 : decode cX5_ages 67 = .ok (.getfield 36, 3) := by decide +kernel
theorem dX5_ages_70 : decode cX5_ages 70 = .ok (.iload_n 1, 1) := by decide +kernel
theorem dX5_ages_71 : decode cX5_ages 71 = .ok (.iaload, 1) := by decide +kernel
theorem dX5_ages_72 : decode cX5_ages 72 = .ok (.ifCond .le 39, 3) := by decide +kernel
theorem dX5_ages_75 : decode cX5_ages 75 = .ok (.aload_n 0, 1) := by decide +kernel
theorem dX5_ages_76 : decode cX5_ages 76 = .ok (.getfield 36, 3) := by decide +kernel
theorem dX5_ages_79 : decode cX5_ages 79 = .ok (.iload_n 1, 1) := by decide +kernel
theorem dX5_ages_80 : decode cX5_ages 80 = .ok (.dup2, 1) := by decide +kernel
theorem dX5_ages_81 : decode cX5_ages 81 = .ok (.iaload, 1) := by decide +kernel
theorem dX5_ages_82 : decode cX5_ages 82 = .ok (.iconst 1, 1) := by decide +kernel
theorem dX5_ages_83 : decode cX5_ages 83 = .ok (.isub, 1) := by decide +kernel
theorem dX5_ages_84 : decode cX5_ages 84 = .ok (.iastore, 1) := by decide +kernel
theorem dX5_ages_85 : decode cX5_ages 85 = .ok (.aload_n 0, 1) := by decide +kernel
theorem dX5_ages_86 : decode cX5_ages 86 = .ok (.getfield 36, 3) := by decide +kernel
theorem dX5_ages_89 : decode cX5_ages 89 = .ok (.iload_n 1, 1) := by decide +kernel
theorem dX5_ages_90 : decode cX5_ages 90 = .ok (.iaload, 1) := by decide +kernel
theorem dX5_ages_91 : decode cX5_ages 91 = .ok (.ifCond .ne 20, 3) := by decide +kernel
theorem dX5_ages_94 : decode cX5_ages 94 = .ok (.aload_n 0, 1) := by decide +kernel
theorem dX5_ages_95 : decode cX5_ages 95 = .ok (.getfield 48, 3) := by decide +kernel
theorem dX5_ages_98 : decode cX5_ages 98 = .ok (.iload_n 1, 1) := by decide +kernel
theorem dX5_ages_99 : decode cX5_ages 99 = .ok (.iconst 1, 1) := by decide +kernel
theorem dX5_ages_100 : decode cX5_ages 100 = .ok (.bastore, 1) := by decide +kernel
theorem dX5_ages_101 : decode cX5_ages 101 = .ok (.aload_n 0, 1) := by decide +kernel
theorem dX5_ages_102 : decode cX5_ages 102 = .ok (.getfield 36, 3) := by decide +kernel
theorem dX5_ages_105 : decode cX5_ages 105 = .ok (.iload_n 1, 1) := by decide +kernel
theorem dX5_ages_106 : decode cX5_ages 106 = .ok (.aload_n 0, 1) := by decide +kernel
theorem dX5_ages_107 : decode cX5_ages 107 = .ok (.getfield 80, 3) := by decide +kernel
theorem dX5_ages_110 : decode cX5_ages 110 = .ok (.iastore, 1) := by decide +kernel
theorem dX5_ages_111 : decode cX5_ages 111 = .ok (.return_, 1) := by decide +kernel
set_option maxRecDepth 20000 in
theorem ggX5_isWanted_X5_isConnected : GoodIn wsX5_isWanted wsX5_isConnected := goodIn_r _ [6, 7, 8, 9, 10, 11, 12, 13, 14, 15, 16, 17, 18, 19, 20, 21, 22, 23, 24, 25, 26, 27, 28, 29, 30] (by decide +kernel) (by decide +kernel)
set_option maxRecDepth 20000 in
theorem gX5_isWanted_X5_isConnected : GoodIn wsX5_isWanted (wsV RX5 87 RX5 yX5_isConnected wsX5_isConnected) := goodIn_app (goodIn_of _ (by decide +kernel)) ggX5_isWanted_X5_isConnected
theorem dX5_isWanted_0 : decode cX5_isWanted 0 = .ok (.iload_n 1, 1) := by decide +kernel
theorem dX5_isWanted_1 : decode cX5_isWanted 1 = .ok (.iconst 4, 1) := by decide +kernel
theorem dX5_isWanted_2 : decode cX5_isWanted 2 = .ok (.idiv, 1) := by decide +kernel
theorem dX5_isWanted_3 : decode cX5_isWanted 3 = .ok (.iconst 4, 1) := by decide +kernel
theorem dX5_isWanted_4 : decode cX5_isWanted 4 = .ok (.imul, 1) := by decide +kernel
theorem dX5_isWanted_5 : decode cX5_isWanted 5 = .ok (.istore_n 3, 1) := by decide +kernel
theorem dX5_isWanted_6 : decode cX5_isWanted 6 = .ok (.iload_n 3, 1) := by decide +kernel
theorem dX5_isWanted_7 : decode cX5_isWanted 7 = .ok (.iload_n 1, 1) := by decide +kernel
theorem dX5_isWanted_8 : decode cX5_isWanted 8 = .ok (.iconst 4, 1) := by decide +kernel
theorem dX5_isWanted_9 : decode cX5_isWanted 9 = .ok (.idiv, 1) := by decide +kernel
theorem dX5_isWanted_10 : decode cX5_isWanted 10 = .ok (.iconst 4, 1) := by decide +kernel
theorem dX5_isWanted_11 : decode cX5_isWanted 11 = .ok (.imul, 1) := by decide +kernel
theorem dX5_isWanted_12 : decode cX5_isWanted 12 = .ok (.iconst 4, 1) := by decide +kernel
theorem dX5_isWanted_13 : decode cX5_isWanted 13 = .ok (.iadd, 1) := by decide +kernel
theorem dX5_isWanted_14 : decode cX5_isWanted 14 = .ok (.if_icmp .ge 37, 3) := by decide +kernel
theorem dX5_isWanted_17 : decode cX5_isWanted 17 = .ok (.iload_n 3, 1) := by decide +kernel
theorem dX5_isWanted_18 : decode cX5_isWanted 18 = .ok (.iload_n 1, 1) := by decide +kernel
theorem dX5_isWanted_19 : decode cX5_isWanted 19 = .ok (.if_icmp .eq 26, 3) := by decide +kernel
theorem dX5_isWanted_22 : decode cX5_isWanted 22 = .ok (.aload_n 0, 1) := by decide +kernel
theorem dX5_isWanted_23 : decode cX5_isWanted 23 = .ok (.iload_n 3, 1) := by decide +kernel
theorem dX5_isWanted_24 : decode cX5_isWanted 24 = .ok (.invokevirtual 87, 3) := by decide +kernel
theorem dX5_isWanted_27 : decode cX5_isWanted 27 = .ok (.ifCond .eq 18, 3) := by decide +kernel
theorem dX5_isWanted_30 : decode cX5_isWanted 30 = .ok (.aload_n 0, 1) := by decide +kernel
theorem dX5_isWanted_31 : decode cX5_isWanted 31 = .ok (.getfield 24, 3) := by decide +kernel
theorem dX5_isWanted_34 : decode cX5_isWanted 34 = .ok (.iconst 4, 1) := by decide +kernel
theorem dX5_isWanted_35 : decode cX5_isWanted 35 = .ok (.iload_n 3, 1) := by decide +kernel
theorem dX5_isWanted_36 : decode cX5_isWanted 36 = .ok (.imul, 1) := by decide +kernel
theorem dX5_isWanted_37 : decode cX5_isWanted 37 = .ok (.iload_n 2, 1) := by decide +kernel
theorem dX5_isWanted_38 : decode cX5_isWanted 38 = .ok (.iadd, 1) := by decide +kernel
theorem dX5_isWanted_39 : decode cX5_isWanted 39 = .ok (.iaload, 1) := by decide +kernel
theorem dX5_isWanted_40 : decode cX5_isWanted 40 = .ok (.ifCond .eq 5, 3) := by decide +kernel
theorem dX5_isWanted_43 : decode cX5_isWanted 43 = .ok (.iconst 1, 1) := by decide +kernel
theorem dX5_isWanted_44 : decode cX5_isWanted 44 = .ok (.ireturn, 1) := by decide +kernel
theorem dX5_isWanted_45 : decode cX5_isWanted 45 = .ok (.iinc 3 1, 3) := by decide +kernel
theorem dX5_isWanted_48 : decode cX5_isWanted 48 = .ok (.goto (-42), 3) := by decide +kernel
theorem dX5_isWanted_51 : decode cX5_isWanted 51 = .ok (.iconst 0, 1) := by decide +kernel
theorem dX5_isWanted_52 : decode cX5_isWanted 52 = .ok (.ireturn, 1) := by decide +kernel
set_option maxRecDepth 20000 in
theorem ggX5_propagates_X5_isWanted : GoodIn wsX5_propagates wsX5_isWanted := goodIn_r _ [7, 8, 9, 10, 11, 6, 12, 13, 17, 18, 19, 20, 21, 22, 23, 24, 25, 26, 27, 28, 29, 30, 31, 32, 33, 34, 35, 36, 37, 38, 39] (by decide +kernel) (by decide +kernel)
set_option maxRecDepth 20000 in
theorem gX5_propagates_X5_isWanted : GoodIn wsX5_propagates (wsV RX5 114 RX5 yX5_isWanted wsX5_isWanted) := goodIn_app (goodIn_of _ (by decide +kernel)) ggX5_propagates_X5_isWanted
set_option maxRecDepth 20000 in
theorem ggX5_propagates_X5_declares : GoodIn wsX5_propagates wsX5_declares := goodIn_r _ [16] (by decide +kernel) (by decide +kernel)
set_option maxRecDepth 20000 in
theorem gX5_propagates_X5_declares : GoodIn wsX5_propagates (va_wsS RX5 111 yX5_declares wsX5_declares) := goodIn_app (goodIn_of _ (by decide +kernel)) ggX5_propagates_X5_declares
theorem dX5_propagates_0 : decode cX5_propagates 0 = .ok (.iconst 0, 1) := by decide +kernel
theorem dX5_propagates_1 : decode cX5_propagates 1 = .ok (.istore_n 2, 1) := by decide +kernel
theorem dX5_propagates_2 : decode cX5_propagates 2 = .ok (.iload_n 2, 1) := by decide +kernel
theorem dX5_propagates_3 : decode cX5_propagates 3 = .ok (.iconst 4, 1) := by decide +kernel
theorem dX5_propagates_4 : decode cX5_propagates 4 = .ok (.if_icmp .ge 81, 3) := by decide +kernel
theorem dX5_propagates_7 : decode cX5_propagates 7 = .ok (.iconst 4, 1) := by decide +kernel
theorem dX5_propagates_8 : decode cX5_propagates 8 = .ok (.iload_n 1, 1) := by decide +kernel
theorem dX5_propagates_9 : decode cX5_propagates 9 = .ok (.imul, 1) := by decide +kernel
theorem dX5_propagates_10 : decode cX5_propagates 10 = .ok (.iload_n 2, 1) := by decide +kernel
theorem dX5_propagates_11 : decode cX5_propagates 11 = .ok (.iadd, 1) := by decide +kernel
theorem dX5_propagates_12 : decode cX5_propagates 12 = .ok (.istore_n 3, 1) := by decide +kernel
theorem dX5_propagates_13 : decode cX5_propagates 13 = .ok (.aload_n 0, 1) := by decide +kernel
theorem dX5_propagates_14 : decode cX5_propagates 14 = .ok (.iload_n 1, 1) := by decide +kernel
theorem dX5_propagates_15 : decode cX5_propagates 15 = .ok (.iload_n 2, 1) := by decide +kernel
theorem dX5_propagates_16 : decode cX5_propagates 16 = .ok (.invokevirtual 114, 3) := by decide +kernel
theorem dX5_propagates_19 : decode cX5_propagates 19 = .ok (.istore 4, 2) := by decide +kernel
theorem dX5_propagates_21 : decode cX5_propagates 21 = .ok (.iload 4, 2) := by decide +kernel
theorem dX5_propagates_23 : decode cX5_propagates 23 = .ok (.ifCond .eq 32, 3) := by decide +kernel
theorem dX5_propagates_26 : decode cX5_propagates 26 = .ok (.aload_n 0, 1) := by decide +kernel
theorem dX5_propagates_27 : decode cX5_propagates 27 = .ok (.getfield 30, 3) := by decide +kernel
theorem dX5_propagates_30 : decode cX5_propagates 30 = .ok (.iload_n 3, 1) := by decide +kernel
theorem dX5_propagates_31 : decode cX5_propagates 31 = .ok (.iaload, 1) := by decide +kernel
theorem dX5_propagates_32 : decode cX5_propagates 32 = .ok (.invokestatic 111, 3) := by decide +kernel
theorem dX5_propagates_35 : decode cX5_propagates 35 = .ok (.ifCond .ne 20, 3) := by decide +kernel
theorem dX5_propagates_38 : decode cX5_propagates 38 = .ok (.aload_n 0, 1) := by decide +kernel
theorem dX5_propagates_39 : decode cX5_propagates 39 = .ok (.getfield 30, 3) := by decide +kernel
theorem dX5_propagates_42 : decode cX5_propagates 42 = .ok (.iload_n 3, 1) := by decide +kernel
theorem dX5_propagates_43 : decode cX5_propagates 43 = .ok (.iconst 1, 1) := by decide +kernel
theorem dX5_propagates_44 : decode cX5_propagates 44 = .ok (.iastore, 1) := by decide +kernel
theorem dX5_propagates_45 : decode cX5_propagates 45 = .ok (.aload_n 0, 1) := by decide +kernel
theorem dX5_propagates_46 : decode cX5_propagates 46 = .ok (.getfield 33, 3) := by decide +kernel
theorem dX5_propagates_49 : decode cX5_propagates 49 = .ok (.iload_n 3, 1) := by decide +kernel
theorem dX5_propagates_50 : decode cX5_propagates 50 = .ok (.iconst 2, 1) := by decide +kernel
theorem dX5_propagates_51 : decode cX5_propagates 51 = .ok (.iastore, 1) := by decide +kernel
theorem dX5_propagates_52 : decode cX5_propagates 52 = .ok (.goto 27, 3) := by decide +kernel
theorem dX5_propagates_55 : decode cX5_propagates 55 = .ok (.iload 4, 2) := by decide +kernel
theorem dX5_propagates_57 : decode cX5_propagates 57 = .ok (.ifCond .ne 22, 3) := by decide +kernel
theorem dX5_propagates_60 : decode cX5_propagates 60 = .ok (.aload_n 0, 1) := by decide +kernel
theorem dX5_propagates_61 : decode cX5_propagates 61 = .ok (.getfield 30, 3) := by decide +kernel
theorem dX5_propagates_64 : decode cX5_propagates 64 = .ok (.iload_n 3, 1) := by decide +kernel
theorem dX5_propagates_65 : decode cX5_propagates 65 = .ok (.iaload, 1) := by decide +kernel
theorem dX5_propagates_66 : decode cX5_propagates 66 = .ok (.invokestatic 111, 3) := by decide +kernel
theorem dX5_propagates_69 : decode cX5_propagates 69 = .ok (.ifCond .eq 10, 3) := by decide +kernel
theorem dX5_propagates_72 : decode cX5_propagates 72 = .ok (.aload_n 0, 1) := by decide +kernel
theorem dX5_propagates_73 : decode cX5_propagates 73 = .ok (.getfield 30, 3) := by decide +kernel
theorem dX5_propagates_76 : decode cX5_propagates 76 = .ok (.iload_n 3, 1) := by decide +kernel
theorem dX5_propagates_77 : decode cX5_propagates 77 = .ok (.iconst 3, 1) := by decide +kernel
theorem dX5_propagates_78 : decode cX5_propagates 78 = .ok (.iastore, 1) := by decide +kernel
theorem dX5_propagates_79 : decode cX5_propagates 79 = .ok (.iinc 2 1, 3) := by decide +kernel
theorem dX5_propagates_82 : decode cX5_propagates 82 = .ok (.goto (-80), 3) := by decide +kernel
theorem dX5_propagates_85 : decode cX5_propagates 85 = .ok (.return_, 1) := by decide +kernel
theorem dX5_leavesAll_0 : decode cX5_leavesAll 0 = .ok (.iconst 4, 1) := by decide +kernel
theorem dX5_leavesAll_1 : decode cX5_leavesAll 1 = .ok (.iload_n 1, 1) := by decide +kernel
theorem dX5_leavesAll_2 : decode cX5_leavesAll 2 = .ok (.imul, 1) := by decide +kernel
theorem dX5_leavesAll_3 : decode cX5_leavesAll 3 = .ok (.istore_n 2, 1) := by decide +kernel
theorem dX5_leavesAll_4 : decode cX5_leavesAll 4 = .ok (.iload_n 2, 1) := by decide +kernel
theorem dX5_leavesAll_5 : decode cX5_leavesAll 5 = .ok (.iconst 4, 1) := by decide +kernel
theorem dX5_leavesAll_6 : decode cX5_leavesAll 6 = .ok (.iload_n 1, 1) := by decide +kernel
theorem dX5_leavesAll_7 : decode cX5_leavesAll 7 = .ok (.imul, 1) := by decide +kernel
theorem dX5_leavesAll_8 : decode cX5_leavesAll 8 = .ok (.iconst 4, 1) := by decide +kernel
theorem dX5_leavesAll_9 : decode cX5_leavesAll 9 = .ok (.iadd, 1) := by decide +kernel
theorem dX5_leavesAll_10 : decode cX5_leavesAll 10 = .ok (.if_icmp .ge 60, 3) := by decide +kernel
theorem dX5_leavesAll_13 : decode cX5_leavesAll 13 = .ok (.aload_n 0, 1) := by decide +kernel
theorem dX5_leavesAll_14 : decode cX5_leavesAll 14 = .ok (.getfield 24, 3) := by decide +kernel
theorem dX5_leavesAll_17 : decode cX5_leavesAll 17 = .ok (.iload_n 2, 1) := by decide +kernel
theorem dX5_leavesAll_18 : decode cX5_leavesAll 18 = .ok (.iaload, 1) := by decide +kernel
theorem dX5_leavesAll_19 : decode cX5_leavesAll 19 = .ok (.iconst 1, 1) := by decide +kernel
theorem dX5_leavesAll_20 : decode cX5_leavesAll 20 = .ok (.if_icmp .ne 20, 3) := by decide +kernel
theorem dX5_leavesAll_23 : decode cX5_leavesAll 23 = .ok (.aload_n 0, 1) := by decide +kernel
theorem dX5_leavesAll_24 : decode cX5_leavesAll 24 = .ok (.getfield 24, 3) := by decide +kernel
theorem dX5_leavesAll_27 : decode cX5_leavesAll 27 = .ok (.iload_n 2, 1) := by decide +kernel
theorem dX5_leavesAll_28 : decode cX5_leavesAll 28 = .ok (.iconst 2, 1) := by decide +kernel
theorem dX5_leavesAll_29 : decode cX5_leavesAll 29 = .ok (.iastore, 1) := by decide +kernel
theorem dX5_leavesAll_30 : decode cX5_leavesAll 30 = .ok (.aload_n 0, 1) := by decide +kernel
theorem dX5_leavesAll_31 : decode cX5_leavesAll 31 = .ok (.getfield 27, 3) := by decide +kernel
theorem dX5_leavesAll_34 : decode cX5_leavesAll 34 = .ok (.iload_n 2, 1) := by decide +kernel
theorem dX5_leavesAll_35 : decode cX5_leavesAll 35 = .ok (.aload_n 0, 1) := by decide +kernel
theorem dX5_leavesAll_36 : decode cX5_leavesAll 36 = .ok (.getfield 20, 3) := by decide +kernel
theorem dX5_leavesAll_39 : decode cX5_leavesAll 39 = .ok (.iastore, 1) := by decide +kernel
theorem dX5_leavesAll_40 : decode cX5_leavesAll 40 = .ok (.aload_n 0, 1) := by decide +kernel
theorem dX5_leavesAll_41 : decode cX5_leavesAll 41 = .ok (.getfield 30, 3) := by decide +kernel
theorem dX5_leavesAll_44 : decode cX5_leavesAll 44 = .ok (.iload_n 2, 1) := by decide +kernel
theorem dX5_leavesAll_45 : decode cX5_leavesAll 45 = .ok (.iaload, 1) := by decide +kernel
theorem dX5_leavesAll_46 : decode cX5_leavesAll 46 = .ok (.iconst 2, 1) := by decide +kernel
theorem dX5_leavesAll_47 : decode cX5_leavesAll 47 = .ok (.if_icmp .ne 17, 3) := by decide +kernel
theorem dX5_leavesAll_50 : decode cX5_leavesAll 50 = .ok (.aload_n 0, 1) := by decide +kernel
theorem dX5_leavesAll_51 : decode cX5_leavesAll 51 = .ok (.getfield 30, 3) := by decide +kernel
theorem dX5_leavesAll_54 : decode cX5_leavesAll 54 = .ok (.iload_n 2, 1) := by decide +kernel
theorem dX5_leavesAll_55 : decode cX5_leavesAll 55 = .ok (.iconst 1, 1) := by decide +kernel
theorem dX5_leavesAll_56 : decode cX5_leavesAll 56 = .ok (.iastore, 1) := by decide +kernel
theorem dX5_leavesAll_57 : decode cX5_leavesAll 57 = .ok (.aload_n 0, 1) := by decide +kernel
theorem dX5_leavesAll_58 : decode cX5_leavesAll 58 = .ok (.getfield 33, 3) := by decide +kernel
theorem dX5_leavesAll_61 : decode cX5_leavesAll 61 = .ok (.iload_n 2, 1) := by decide +kernel
theorem dX5_leavesAll_62 : decode cX5_leavesAll 62 = .ok (.iconst 1, 1) := by decide +kernel
theorem dX5_leavesAll_63 : decode cX5_leavesAll 63 = .ok (.iastore, 1) := by decide +kernel
theorem dX5_leavesAll_64 : decode cX5_leavesAll 64 = .ok (.iinc 2 1, 3) := by decide +kernel
theorem dX5_leavesAll_67 : decode cX5_leavesAll 67 = .ok (.goto (-63), 3) := by decide +kernel
theorem dX5_leavesAll_70 : decode cX5_leavesAll 70 = .ok (.return_, 1) := by decide +kernel
set_option maxRecDepth 20000 in
theorem ggX5_sendsOf_X5_leavesAll : GoodIn wsX5_sendsOf wsX5_leavesAll := goodIn_r _ [10, 11, 12, 13, 4, 5, 14, 15, 16, 17, 18, 19, 20, 21, 22, 23, 24, 25, 26, 27, 28, 29, 30, 31, 32, 33, 34, 35, 36] (by decide +kernel) (by decide +kernel)
set_option maxRecDepth 20000 in
theorem gX5_sendsOf_X5_leavesAll : GoodIn wsX5_sendsOf (wsV RX5 117 RX5 yX5_leavesAll wsX5_leavesAll) := goodIn_app (goodIn_of _ (by decide +kernel)) ggX5_sendsOf_X5_leavesAll
theorem dX5_sendsOf_0 : decode cX5_sendsOf 0 = .ok (.iconst 0, 1) := by decide +kernel
theorem dX5_sendsOf_1 : decode cX5_sendsOf 1 = .ok (.istore_n 2, 1) := by decide +kernel
theorem dX5_sendsOf_2 : decode cX5_sendsOf 2 = .ok (.aload_n 0, 1) := by decide +kernel
theorem dX5_sendsOf_3 : decode cX5_sendsOf 3 = .ok (.getfield 51, 3) := by decide +kernel
theorem dX5_sendsOf_6 : decode cX5_sendsOf 6 = .ok (.iload_n 1, 1) := by decide +kernel
theorem dX5_sendsOf_7 : decode cX5_sendsOf 7 = .ok (.aload_n 0, 1) := by decide +kernel
theorem dX5_sendsOf_8 : decode cX5_sendsOf 8 = .ok (.getfield 48, 3) := by decide +kernel
theorem dX5_sendsOf_11 : decode cX5_sendsOf 11 = .ok (.iload_n 1, 1) := by decide +kernel
theorem dX5_sendsOf_12 : decode cX5_sendsOf 12 = .ok (.baload, 1) := by decide +kernel
theorem dX5_sendsOf_13 : decode cX5_sendsOf 13 = .ok (.bastore, 1) := by decide +kernel
theorem dX5_sendsOf_14 : decode cX5_sendsOf 14 = .ok (.aload_n 0, 1) := by decide +kernel
theorem dX5_sendsOf_15 : decode cX5_sendsOf 15 = .ok (.getfield 48, 3) := by decide +kernel
theorem dX5_sendsOf_18 : decode cX5_sendsOf 18 = .ok (.iload_n 1, 1) := by decide +kernel
theorem dX5_sendsOf_19 : decode cX5_sendsOf 19 = .ok (.baload, 1) := by decide +kernel
theorem dX5_sendsOf_20 : decode cX5_sendsOf 20 = .ok (.ifCond .eq 11, 3) := by decide +kernel
theorem dX5_sendsOf_23 : decode cX5_sendsOf 23 = .ok (.aload_n 0, 1) := by decide +kernel
theorem dX5_sendsOf_24 : decode cX5_sendsOf 24 = .ok (.iload_n 1, 1) := by decide +kernel
theorem dX5_sendsOf_25 : decode cX5_sendsOf 25 = .ok (.invokevirtual 117, 3) := by decide +kernel
theorem dX5_sendsOf_28 : decode cX5_sendsOf 28 = .ok (.iinc 2 1, 3) := by decide +kernel
theorem dX5_sendsOf_31 : decode cX5_sendsOf 31 = .ok (.iconst 4, 1) := by decide +kernel
theorem dX5_sendsOf_32 : decode cX5_sendsOf 32 = .ok (.iload_n 1, 1) := by decide +kernel
theorem dX5_sendsOf_33 : decode cX5_sendsOf 33 = .ok (.imul, 1) := by decide +kernel
theorem dX5_sendsOf_34 : decode cX5_sendsOf 34 = .ok (.istore_n 3, 1) := by decide +kernel
theorem dX5_sendsOf_35 : decode cX5_sendsOf 35 = .ok (.iload_n 3, 1) := by decide +kernel
theorem dX5_sendsOf_36 : decode cX5_sendsOf 36 = .ok (.iconst 4, 1) := by decide +kernel
theorem dX5_sendsOf_37 : decode cX5_sendsOf 37 = .ok (.iload_n 1, 1) := by decide +kernel
theorem dX5_sendsOf_38 : decode cX5_sendsOf 38 = .ok (.imul, 1) := by decide +kernel
theorem dX5_sendsOf_39 : decode cX5_sendsOf 39 = .ok (.iconst 4, 1) := by decide +kernel
theorem dX5_sendsOf_40 : decode cX5_sendsOf 40 = .ok (.iadd, 1) := by decide +kernel
theorem dX5_sendsOf_41 : decode cX5_sendsOf 41 = .ok (.if_icmp .ge 121, 3) := by decide +kernel
theorem dX5_sendsOf_44 : decode cX5_sendsOf 44 = .ok (.aload_n 0, 1) := by decide +kernel
theorem dX5_sendsOf_45 : decode cX5_sendsOf 45 = .ok (.getfield 54, 3) := by decide +kernel
theorem dX5_sendsOf_48 : decode cX5_sendsOf 48 = .ok (.iload_n 3, 1) := by decide +kernel
theorem dX5_sendsOf_49 : decode cX5_sendsOf 49 = .ok (.aload_n 0, 1) := by decide +kernel
theorem dX5_sendsOf_50 : decode cX5_sendsOf 50 = .ok (.getfield 30, 3) := by decide +kernel
theorem dX5_sendsOf_53 : decode cX5_sendsOf 53 = .ok (.iload_n 3, 1) := by decide +kernel
theorem dX5_sendsOf_54 : decode cX5_sendsOf 54 = .ok (.iaload, 1) := by decide +kernel
theorem dX5_sendsOf_55 : decode cX5_sendsOf 55 = .ok (.iconst 1, 1) := by decide +kernel
theorem dX5_sendsOf_56 : decode cX5_sendsOf 56 = .ok (.if_icmp .ne 7, 3) := by decide +kernel
theorem dX5_sendsOf_59 : decode cX5_sendsOf 59 = .ok (.iconst 1, 1) := by decide +kernel
theorem dX5_sendsOf_60 : decode cX5_sendsOf 60 = .ok (.goto 18, 3) := by decide +kernel
theorem dX5_sendsOf_63 : decode cX5_sendsOf 63 = .ok (.aload_n 0, 1) := by decide +kernel
theorem dX5_sendsOf_64 : decode cX5_sendsOf 64 = .ok (.getfield 30, 3) := by decide +kernel
theorem dX5_sendsOf_67 : decode cX5_sendsOf 67 = .ok (.iload_n 3, 1) := by decide +kernel
theorem dX5_sendsOf_68 : decode cX5_sendsOf 68 = .ok (.iaload, 1) := by decide +kernel
theorem dX5_sendsOf_69 : decode cX5_sendsOf 69 = .ok (.iconst 3, 1) := by decide +kernel
theorem dX5_sendsOf_70 : decode cX5_sendsOf 70 = .ok (.if_icmp .ne 7, 3) := by decide +kernel
theorem dX5_sendsOf_73 : decode cX5_sendsOf 73 = .ok (.iconst 2, 1) := by decide +kernel
theorem dX5_sendsOf_74 : decode cX5_sendsOf 74 = .ok (.goto 4, 3) := by decide +kernel
theorem dX5_sendsOf_77 : decode cX5_sendsOf 77 = .ok (.iconst 0, 1) := by decide +kernel
theorem dX5_sendsOf_78 : decode cX5_sendsOf 78 = .ok (.iastore, 1) := by decide +kernel
theorem dX5_sendsOf_79 : decode cX5_sendsOf 79 = .ok (.iload_n 2, 1) := by decide +kernel
theorem dX5_sendsOf_80 : decode cX5_sendsOf 80 = .ok (.aload_n 0, 1) := by decide +kernel
theorem dX5_sendsOf_81 : decode cX5_sendsOf 81 = .ok (.getfield 54, 3) := by decide +kernel
theorem dX5_sendsOf_84 : decode cX5_sendsOf 84 = .ok (.iload_n 3, 1) := by decide +kernel
theorem dX5_sendsOf_85 : decode cX5_sendsOf 85 = .ok (.iaload, 1) := by decide +kernel
theorem dX5_sendsOf_86 : decode cX5_sendsOf 86 = .ok (.ifCond .ne 7, 3) := by decide +kernel
theorem dX5_sendsOf_89 : decode cX5_sendsOf 89 = .ok (.iconst 0, 1) := by decide +kernel
theorem dX5_sendsOf_90 : decode cX5_sendsOf 90 = .ok (.goto 4, 3) := by decide +kernel
theorem dX5_sendsOf_93 : decode cX5_sendsOf 93 = .ok (.iconst 1, 1) := by decide +kernel
theorem dX5_sendsOf_94 : decode cX5_sendsOf 94 = .ok (.iadd, 1) := by decide +kernel
theorem dX5_sendsOf_95 : decode cX5_sendsOf 95 = .ok (.istore_n 2, 1) := by decide +kernel
theorem dX5_sendsOf_96 : decode cX5_sendsOf 96 = .ok (.aload_n 0, 1) := by decide +kernel
theorem dX5_sendsOf_97 : decode cX5_sendsOf 97 = .ok (.getfield 54, 3) := by decide +kernel
theorem dX5_sendsOf_100 : decode cX5_sendsOf 100 = .ok (.iload_n 3, 1) := by decide +kernel
theorem dX5_sendsOf_101 : decode cX5_sendsOf 101 = .ok (.iaload, 1) := by decide +kernel
theorem dX5_sendsOf_102 : decode cX5_sendsOf 102 = .ok (.iconst 1, 1) := by decide +kernel
theorem dX5_sendsOf_103 : decode cX5_sendsOf 103 = .ok (.if_icmp .ne 36, 3) := by decide +kernel
theorem dX5_sendsOf_106 : decode cX5_sendsOf 106 = .ok (.aload_n 0, 1) := by decide +kernel
theorem dX5_sendsOf_107 : decode cX5_sendsOf 107 = .ok (.getfield 33, 3) := by decide +kernel
theorem dX5_sendsOf_110 : decode cX5_sendsOf 110 = .ok (.iload_n 3, 1) := by decide +kernel
theorem dX5_sendsOf_111 : decode cX5_sendsOf 111 = .ok (.dup2, 1) := by decide +kernel
theorem dX5_sendsOf_112 : decode cX5_sendsOf 112 = .ok (.iaload, 1) := by decide +kernel
theorem dX5_sendsOf_113 : decode cX5_sendsOf 113 = .ok (.iconst 1, 1) := by decide +kernel
theorem dX5_sendsOf_114 : decode cX5_sendsOf 114 = .ok (.isub, 1) := by decide +kernel
theorem dX5_sendsOf_115 : decode cX5_sendsOf 115 = .ok (.iastore, 1) := by decide +kernel
theorem dX5_sendsOf_116 : decode cX5_sendsOf 116 = .ok (.aload_n 0, 1) := by decide +kernel
theorem dX5_sendsOf_117 : decode cX5_sendsOf 117 = .ok (.getfield 30, 3) := by decide +kernel
theorem dX5_sendsOf_120 : decode cX5_sendsOf 120 = .ok (.iload_n 3, 1) := by decide +kernel
theorem dX5_sendsOf_121 : decode cX5_sendsOf 121 = .ok (.aload_n 0, 1) := by decide +kernel
theorem dX5_sendsOf_122 : decode cX5_sendsOf 122 = .ok (.getfield 33, 3) := by decide +kernel
theorem dX5_sendsOf_125 : decode cX5_sendsOf 125 = .ok (.iload_n 3, 1) := by decide +kernel
theorem dX5_sendsOf_126 : decode cX5_sendsOf 126 = .ok (.iaload, 1) := by decide +kernel
theorem dX5_sendsOf_127 : decode cX5_sendsOf 127 = .ok (.ifCond .ne 7, 3) := by decide +kernel
theorem dX5_sendsOf_130 : decode cX5_sendsOf 130 = .ok (.iconst 2, 1) := by decide +kernel
theorem dX5_sendsOf_131 : decode cX5_sendsOf 131 = .ok (.goto 4, 3) := by decide +kernel
theorem dX5_sendsOf_134 : decode cX5_sendsOf 134 = .ok (.iconst 1, 1) := by decide +kernel
theorem dX5_sendsOf_135 : decode cX5_sendsOf 135 = .ok (.iastore, 1) := by decide +kernel
theorem dX5_sendsOf_136 : decode cX5_sendsOf 136 = .ok (.goto 20, 3) := by decide +kernel
theorem dX5_sendsOf_139 : decode cX5_sendsOf 139 = .ok (.aload_n 0, 1) := by decide +kernel
theorem dX5_sendsOf_140 : decode cX5_sendsOf 140 = .ok (.getfield 54, 3) := by decide +kernel
theorem dX5_sendsOf_143 : decode cX5_sendsOf 143 = .ok (.iload_n 3, 1) := by decide +kernel
theorem dX5_sendsOf_144 : decode cX5_sendsOf 144 = .ok (.iaload, 1) := by decide +kernel
theorem dX5_sendsOf_145 : decode cX5_sendsOf 145 = .ok (.iconst 2, 1) := by decide +kernel
theorem dX5_sendsOf_146 : decode cX5_sendsOf 146 = .ok (.if_icmp .ne 10, 3) := by decide +kernel
theorem dX5_sendsOf_149 : decode cX5_sendsOf 149 = .ok (.aload_n 0, 1) := by decide +kernel
theorem dX5_sendsOf_150 : decode cX5_sendsOf 150 = .ok (.getfield 30, 3) := by decide +kernel
theorem dX5_sendsOf_153 : decode cX5_sendsOf 153 = .ok (.iload_n 3, 1) := by decide +kernel
theorem dX5_sendsOf_154 : decode cX5_sendsOf 154 = .ok (.iconst 0, 1) := by decide +kernel
theorem dX5_sendsOf_155 : decode cX5_sendsOf 155 = .ok (.iastore, 1) := by decide +kernel
theorem dX5_sendsOf_156 : decode cX5_sendsOf 156 = .ok (.iinc 3 1, 3) := by decide +kernel
theorem dX5_sendsOf_159 : decode cX5_sendsOf 159 = .ok (.goto (-124), 3) := by decide +kernel
theorem dX5_sendsOf_162 : decode cX5_sendsOf 162 = .ok (.iload_n 2, 1) := by decide +kernel
theorem dX5_sendsOf_163 : decode cX5_sendsOf 163 = .ok (.ireturn, 1) := by decide +kernel
theorem dX5_sendsOfHost_0 : decode cX5_sendsOfHost 0 = .ok (.iconst 0, 1) := by decide +kernel
theorem dX5_sendsOfHost_1 : decode cX5_sendsOfHost 1 = .ok (.istore_n 2, 1) := by decide +kernel
theorem dX5_sendsOfHost_2 : decode cX5_sendsOfHost 2 = .ok (.iconst 4, 1) := by decide +kernel
theorem dX5_sendsOfHost_3 : decode cX5_sendsOfHost 3 = .ok (.iload_n 1, 1) := by decide +kernel
theorem dX5_sendsOfHost_4 : decode cX5_sendsOfHost 4 = .ok (.imul, 1) := by decide +kernel
theorem dX5_sendsOfHost_5 : decode cX5_sendsOfHost 5 = .ok (.istore_n 3, 1) := by decide +kernel
theorem dX5_sendsOfHost_6 : decode cX5_sendsOfHost 6 = .ok (.iload_n 3, 1) := by decide +kernel
theorem dX5_sendsOfHost_7 : decode cX5_sendsOfHost 7 = .ok (.iconst 4, 1) := by decide +kernel
theorem dX5_sendsOfHost_8 : decode cX5_sendsOfHost 8 = .ok (.iload_n 1, 1) := by decide +kernel
theorem dX5_sendsOfHost_9 : decode cX5_sendsOfHost 9 = .ok (.imul, 1) := by decide +kernel
theorem dX5_sendsOfHost_10 : decode cX5_sendsOfHost 10 = .ok (.iconst 4, 1) := by decide +kernel
theorem dX5_sendsOfHost_11 : decode cX5_sendsOfHost 11 = .ok (.iadd, 1) := by decide +kernel
theorem dX5_sendsOfHost_12 : decode cX5_sendsOfHost 12 = .ok (.if_icmp .ge 134, 3) := by decide +kernel
theorem dX5_sendsOfHost_15 : decode cX5_sendsOfHost 15 = .ok (.aload_n 0, 1) := by decide +kernel
theorem dX5_sendsOfHost_16 : decode cX5_sendsOfHost 16 = .ok (.getfield 57, 3) := by decide +kernel
theorem dX5_sendsOfHost_19 : decode cX5_sendsOfHost 19 = .ok (.iload_n 3, 1) := by decide +kernel
theorem dX5_sendsOfHost_20 : decode cX5_sendsOfHost 20 = .ok (.aload_n 0, 1) := by decide +kernel
theorem dX5_sendsOfHost_21 : decode cX5_sendsOfHost 21 = .ok (.getfield 16, 3) := by decide +kernel
theorem dX5_sendsOfHost_24 : decode cX5_sendsOfHost 24 = .ok (.iload_n 1, 1) := by decide +kernel
theorem dX5_sendsOfHost_25 : decode cX5_sendsOfHost 25 = .ok (.baload, 1) := by decide +kernel
theorem dX5_sendsOfHost_26 : decode cX5_sendsOfHost 26 = .ok (.ifCond .eq 7, 3) := by decide +kernel
theorem dX5_sendsOfHost_29 : decode cX5_sendsOfHost 29 = .ok (.iconst 0, 1) := by decide +kernel
theorem dX5_sendsOfHost_30 : decode cX5_sendsOfHost 30 = .ok (.goto 32, 3) := by decide +kernel
theorem dX5_sendsOfHost_33 : decode cX5_sendsOfHost 33 = .ok (.aload_n 0, 1) := by decide +kernel
theorem dX5_sendsOfHost_34 : decode cX5_sendsOfHost 34 = .ok (.getfield 42, 3) := by decide +kernel
theorem dX5_sendsOfHost_37 : decode cX5_sendsOfHost 37 = .ok (.iload_n 3, 1) := by decide +kernel
theorem dX5_sendsOfHost_38 : decode cX5_sendsOfHost 38 = .ok (.iaload, 1) := by decide +kernel
theorem dX5_sendsOfHost_39 : decode cX5_sendsOfHost 39 = .ok (.iconst 1, 1) := by decide +kernel
theorem dX5_sendsOfHost_40 : decode cX5_sendsOfHost 40 = .ok (.if_icmp .ne 7, 3) := by decide +kernel
theorem dX5_sendsOfHost_43 : decode cX5_sendsOfHost 43 = .ok (.iconst 1, 1) := by decide +kernel
theorem dX5_sendsOfHost_44 : decode cX5_sendsOfHost 44 = .ok (.goto 18, 3) := by decide +kernel
theorem dX5_sendsOfHost_47 : decode cX5_sendsOfHost 47 = .ok (.aload_n 0, 1) := by decide +kernel
theorem dX5_sendsOfHost_48 : decode cX5_sendsOfHost 48 = .ok (.getfield 42, 3) := by decide +kernel
theorem dX5_sendsOfHost_51 : decode cX5_sendsOfHost 51 = .ok (.iload_n 3, 1) := by decide +kernel
theorem dX5_sendsOfHost_52 : decode cX5_sendsOfHost 52 = .ok (.iaload, 1) := by decide +kernel
theorem dX5_sendsOfHost_53 : decode cX5_sendsOfHost 53 = .ok (.iconst 3, 1) := by decide +kernel
theorem dX5_sendsOfHost_54 : decode cX5_sendsOfHost 54 = .ok (.if_icmp .ne 7, 3) := by decide +kernel
theorem dX5_sendsOfHost_57 : decode cX5_sendsOfHost 57 = .ok (.iconst 2, 1) := by decide +kernel
theorem dX5_sendsOfHost_58 : decode cX5_sendsOfHost 58 = .ok (.goto 4, 3) := by decide +kernel
theorem dX5_sendsOfHost_61 : decode cX5_sendsOfHost 61 = .ok (.iconst 0, 1) := by decide +kernel
theorem dX5_sendsOfHost_62 : decode cX5_sendsOfHost 62 = .ok (.iastore, 1) := by decide +kernel
theorem dX5_sendsOfHost_63 : decode cX5_sendsOfHost 63 = .ok (.iload_n 2, 1) := by decide +kernel
theorem dX5_sendsOfHost_64 : decode cX5_sendsOfHost 64 = .ok (.aload_n 0, 1) := by decide +kernel
theorem dX5_sendsOfHost_65 : decode cX5_sendsOfHost 65 = .ok (.getfield 57, 3) := by decide +kernel
theorem dX5_sendsOfHost_68 : decode cX5_sendsOfHost 68 = .ok (.iload_n 3, 1) := by decide +kernel
theorem dX5_sendsOfHost_69 : decode cX5_sendsOfHost 69 = .ok (.iaload, 1) := by decide +kernel
theorem dX5_sendsOfHost_70 : decode cX5_sendsOfHost 70 = .ok (.ifCond .ne 7, 3) := by decide +kernel
theorem dX5_sendsOfHost_73 : decode cX5_sendsOfHost 73 = .ok (.iconst 0, 1) := by decide +kernel
theorem dX5_sendsOfHost_74 : decode cX5_sendsOfHost 74 = .ok (.goto 4, 3) := by decide +kernel
theorem dX5_sendsOfHost_77 : decode cX5_sendsOfHost 77 = .ok (.iconst 1, 1) := by decide +kernel
theorem dX5_sendsOfHost_78 : decode cX5_sendsOfHost 78 = .ok (.iadd, 1) := by decide +kernel
theorem dX5_sendsOfHost_79 : decode cX5_sendsOfHost 79 = .ok (.istore_n 2, 1) := by decide +kernel
theorem dX5_sendsOfHost_80 : decode cX5_sendsOfHost 80 = .ok (.aload_n 0, 1) := by decide +kernel
theorem dX5_sendsOfHost_81 : decode cX5_sendsOfHost 81 = .ok (.getfield 57, 3) := by decide +kernel
theorem dX5_sendsOfHost_84 : decode cX5_sendsOfHost 84 = .ok (.iload_n 3, 1) := by decide +kernel
theorem dX5_sendsOfHost_85 : decode cX5_sendsOfHost 85 = .ok (.iaload, 1) := by decide +kernel
theorem dX5_sendsOfHost_86 : decode cX5_sendsOfHost 86 = .ok (.iconst 1, 1) := by decide +kernel
theorem dX5_sendsOfHost_87 : decode cX5_sendsOfHost 87 = .ok (.if_icmp .ne 36, 3) := by decide +kernel
theorem dX5_sendsOfHost_90 : decode cX5_sendsOfHost 90 = .ok (.aload_n 0, 1) := by decide +kernel
theorem dX5_sendsOfHost_91 : decode cX5_sendsOfHost 91 = .ok (.getfield 45, 3) := by decide +kernel
theorem dX5_sendsOfHost_94 : decode cX5_sendsOfHost 94 = .ok (.iload_n 3, 1) := by decide +kernel
theorem dX5_sendsOfHost_95 : decode cX5_sendsOfHost 95 = .ok (.dup2, 1) := by decide +kernel
theorem dX5_sendsOfHost_96 : decode cX5_sendsOfHost 96 = .ok (.iaload, 1) := by decide +kernel
theorem dX5_sendsOfHost_97 : decode cX5_sendsOfHost 97 = .ok (.iconst 1, 1) := by decide +kernel
theorem dX5_sendsOfHost_98 : decode cX5_sendsOfHost 98 = .ok (.isub, 1) := by decide +kernel
theorem dX5_sendsOfHost_99 : decode cX5_sendsOfHost 99 = .ok (.iastore, 1) := by decide +kernel
theorem dX5_sendsOfHost_100 : decode cX5_sendsOfHost 100 = .ok (.aload_n 0, 1) := by decide +kernel
theorem dX5_sendsOfHost_101 : decode cX5_sendsOfHost 101 = .ok (.getfield 42, 3) := by decide +kernel
theorem dX5_sendsOfHost_104 : decode cX5_sendsOfHost 104 = .ok (.iload_n 3, 1) := by decide +kernel
theorem dX5_sendsOfHost_105 : decode cX5_sendsOfHost 105 = .ok (.aload_n 0, 1) := by decide +kernel
theorem dX5_sendsOfHost_106 : decode cX5_sendsOfHost 106 = .ok (.getfield 45, 3) := by decide +kernel
theorem dX5_sendsOfHost_109 : decode cX5_sendsOfHost 109 = .ok (.iload_n 3, 1) := by decide +kernel
theorem dX5_sendsOfHost_110 : decode cX5_sendsOfHost 110 = .ok (.iaload, 1) := by decide +kernel
theorem dX5_sendsOfHost_111 : decode cX5_sendsOfHost 111 = .ok (.ifCond .ne 7, 3) := by decide +kernel
theorem dX5_sendsOfHost_114 : decode cX5_sendsOfHost 114 = .ok (.iconst 2, 1) := by decide +kernel
theorem dX5_sendsOfHost_115 : decode cX5_sendsOfHost 115 = .ok (.goto 4, 3) := by decide +kernel
theorem dX5_sendsOfHost_118 : decode cX5_sendsOfHost 118 = .ok (.iconst 1, 1) := by decide +kernel
theorem dX5_sendsOfHost_119 : decode cX5_sendsOfHost 119 = .ok (.iastore, 1) := by decide +kernel
theorem dX5_sendsOfHost_120 : decode cX5_sendsOfHost 120 = .ok (.goto 20, 3) := by decide +kernel
theorem dX5_sendsOfHost_123 : decode cX5_sendsOfHost 123 = .ok (.aload_n 0, 1) := by decide +kernel
theorem dX5_sendsOfHost_124 : decode cX5_sendsOfHost 124 = .ok (.getfield 57, 3) := by decide +kernel
theorem dX5_sendsOfHost_127 : decode cX5_sendsOfHost 127 = .ok (.iload_n 3, 1) := by decide +kernel
theorem dX5_sendsOfHost_128 : decode cX5_sendsOfHost 128 = .ok (.iaload, 1) := by decide +kernel
theorem dX5_sendsOfHost_129 : decode cX5_sendsOfHost 129 = .ok (.iconst 2, 1) := by decide +kernel
theorem dX5_sendsOfHost_130 : decode cX5_sendsOfHost 130 = .ok (.if_icmp .ne 10, 3) := by decide +kernel
theorem dX5_sendsOfHost_133 : decode cX5_sendsOfHost 133 = .ok (.aload_n 0, 1) := by decide +kernel
theorem dX5_sendsOfHost_134 : decode cX5_sendsOfHost 134 = .ok (.getfield 42, 3) := by decide +kernel
theorem dX5_sendsOfHost_137 : decode cX5_sendsOfHost 137 = .ok (.iload_n 3, 1) := by decide +kernel
theorem dX5_sendsOfHost_138 : decode cX5_sendsOfHost 138 = .ok (.iconst 0, 1) := by decide +kernel
theorem dX5_sendsOfHost_139 : decode cX5_sendsOfHost 139 = .ok (.iastore, 1) := by decide +kernel
theorem dX5_sendsOfHost_140 : decode cX5_sendsOfHost 140 = .ok (.iinc 3 1, 3) := by decide +kernel
theorem dX5_sendsOfHost_143 : decode cX5_sendsOfHost 143 = .ok (.goto (-137), 3) := by decide +kernel
theorem dX5_sendsOfHost_146 : decode cX5_sendsOfHost 146 = .ok (.iload_n 2, 1) := by decide +kernel
theorem dX5_sendsOfHost_147 : decode cX5_sendsOfHost 147 = .ok (.ireturn, 1) := by decide +kernel
theorem dX5_gets_0 : decode cX5_gets 0 = .ok (.iload_n 2, 1) := by decide +kernel
theorem dX5_gets_1 : decode cX5_gets 1 = .ok (.iconst 1, 1) := by decide +kernel
theorem dX5_gets_2 : decode cX5_gets 2 = .ok (.if_icmp .ne 20, 3) := by decide +kernel
theorem dX5_gets_5 : decode cX5_gets 5 = .ok (.aload_n 0, 1) := by decide +kernel
theorem dX5_gets_6 : decode cX5_gets 6 = .ok (.getfield 24, 3) := by decide +kernel
theorem dX5_gets_9 : decode cX5_gets 9 = .ok (.iload_n 1, 1) := by decide +kernel
theorem dX5_gets_10 : decode cX5_gets 10 = .ok (.iconst 1, 1) := by decide +kernel
theorem dX5_gets_11 : decode cX5_gets 11 = .ok (.iastore, 1) := by decide +kernel
theorem dX5_gets_12 : decode cX5_gets 12 = .ok (.aload_n 0, 1) := by decide +kernel
theorem dX5_gets_13 : decode cX5_gets 13 = .ok (.getfield 27, 3) := by decide +kernel
theorem dX5_gets_16 : decode cX5_gets 16 = .ok (.iload_n 1, 1) := by decide +kernel
theorem dX5_gets_17 : decode cX5_gets 17 = .ok (.iconst 0, 1) := by decide +kernel
theorem dX5_gets_18 : decode cX5_gets 18 = .ok (.iastore, 1) := by decide +kernel
theorem dX5_gets_19 : decode cX5_gets 19 = .ok (.goto 35, 3) := by decide +kernel
theorem dX5_gets_22 : decode cX5_gets 22 = .ok (.iload_n 2, 1) := by decide +kernel
theorem dX5_gets_23 : decode cX5_gets 23 = .ok (.iconst 2, 1) := by decide +kernel
theorem dX5_gets_24 : decode cX5_gets 24 = .ok (.if_icmp .ne 30, 3) := by decide +kernel
theorem dX5_gets_27 : decode cX5_gets 27 = .ok (.aload_n 0, 1) := by decide +kernel
theorem dX5_gets_28 : decode cX5_gets 28 = .ok (.getfield 24, 3) := by decide +kernel
theorem dX5_gets_31 : decode cX5_gets 31 = .ok (.iload_n 1, 1) := by decide +kernel
theorem dX5_gets_32 : decode cX5_gets 32 = .ok (.iaload, 1) := by decide +kernel
theorem dX5_gets_33 : decode cX5_gets 33 = .ok (.iconst 1, 1) := by decide +kernel
theorem dX5_gets_34 : decode cX5_gets 34 = .ok (.if_icmp .ne 20, 3) := by decide +kernel
theorem dX5_gets_37 : decode cX5_gets 37 = .ok (.aload_n 0, 1) := by decide +kernel
theorem dX5_gets_38 : decode cX5_gets 38 = .ok (.getfield 24, 3) := by decide +kernel
theorem dX5_gets_41 : decode cX5_gets 41 = .ok (.iload_n 1, 1) := by decide +kernel
theorem dX5_gets_42 : decode cX5_gets 42 = .ok (.iconst 2, 1) := by decide +kernel
theorem dX5_gets_43 : decode cX5_gets 43 = .ok (.iastore, 1) := by decide +kernel
theorem dX5_gets_44 : decode cX5_gets 44 = .ok (.aload_n 0, 1) := by decide +kernel
theorem dX5_gets_45 : decode cX5_gets 45 = .ok (.getfield 27, 3) := by decide +kernel
theorem dX5_gets_48 : decode cX5_gets 48 = .ok (.iload_n 1, 1) := by decide +kernel
theorem dX5_gets_49 : decode cX5_gets 49 = .ok (.aload_n 0, 1) := by decide +kernel
theorem dX5_gets_50 : decode cX5_gets 50 = .ok (.getfield 20, 3) := by decide +kernel
theorem dX5_gets_53 : decode cX5_gets 53 = .ok (.iastore, 1) := by decide +kernel
theorem dX5_gets_54 : decode cX5_gets 54 = .ok (.return_, 1) := by decide +kernel
theorem dX5_hostLeavesAll_0 : decode cX5_hostLeavesAll 0 = .ok (.iconst 4, 1) := by decide +kernel
theorem dX5_hostLeavesAll_1 : decode cX5_hostLeavesAll 1 = .ok (.iload_n 1, 1) := by decide +kernel
theorem dX5_hostLeavesAll_2 : decode cX5_hostLeavesAll 2 = .ok (.imul, 1) := by decide +kernel
theorem dX5_hostLeavesAll_3 : decode cX5_hostLeavesAll 3 = .ok (.istore_n 2, 1) := by decide +kernel
theorem dX5_hostLeavesAll_4 : decode cX5_hostLeavesAll 4 = .ok (.iload_n 2, 1) := by decide +kernel
theorem dX5_hostLeavesAll_5 : decode cX5_hostLeavesAll 5 = .ok (.iconst 4, 1) := by decide +kernel
theorem dX5_hostLeavesAll_6 : decode cX5_hostLeavesAll 6 = .ok (.iload_n 1, 1) := by decide +kernel
theorem dX5_hostLeavesAll_7 : decode cX5_hostLeavesAll 7 = .ok (.imul, 1) := by decide +kernel
theorem dX5_hostLeavesAll_8 : decode cX5_hostLeavesAll 8 = .ok (.iconst 4, 1) := by decide +kernel
theorem dX5_hostLeavesAll_9 : decode cX5_hostLeavesAll 9 = .ok (.iadd, 1) := by decide +kernel
theorem dX5_hostLeavesAll_10 : decode cX5_hostLeavesAll 10 = .ok (.if_icmp .ge 33, 3) := by decide +kernel
theorem dX5_hostLeavesAll_13 : decode cX5_hostLeavesAll 13 = .ok (.aload_n 0, 1) := by decide +kernel
theorem dX5_hostLeavesAll_14 : decode cX5_hostLeavesAll 14 = .ok (.getfield 42, 3) := by decide +kernel
theorem dX5_hostLeavesAll_17 : decode cX5_hostLeavesAll 17 = .ok (.iload_n 2, 1) := by decide +kernel
theorem dX5_hostLeavesAll_18 : decode cX5_hostLeavesAll 18 = .ok (.iaload, 1) := by decide +kernel
theorem dX5_hostLeavesAll_19 : decode cX5_hostLeavesAll 19 = .ok (.iconst 2, 1) := by decide +kernel
theorem dX5_hostLeavesAll_20 : decode cX5_hostLeavesAll 20 = .ok (.if_icmp .ne 17, 3) := by decide +kernel
theorem dX5_hostLeavesAll_23 : decode cX5_hostLeavesAll 23 = .ok (.aload_n 0, 1) := by decide +kernel
theorem dX5_hostLeavesAll_24 : decode cX5_hostLeavesAll 24 = .ok (.getfield 42, 3) := by decide +kernel
theorem dX5_hostLeavesAll_27 : decode cX5_hostLeavesAll 27 = .ok (.iload_n 2, 1) := by decide +kernel
theorem dX5_hostLeavesAll_28 : decode cX5_hostLeavesAll 28 = .ok (.iconst 1, 1) := by decide +kernel
theorem dX5_hostLeavesAll_29 : decode cX5_hostLeavesAll 29 = .ok (.iastore, 1) := by decide +kernel
theorem dX5_hostLeavesAll_30 : decode cX5_hostLeavesAll 30 = .ok (.aload_n 0, 1) := by decide +kernel
theorem dX5_hostLeavesAll_31 : decode cX5_hostLeavesAll 31 = .ok (.getfield 45, 3) := by decide +kernel
theorem dX5_hostLeavesAll_34 : decode cX5_hostLeavesAll 34 = .ok (.iload_n 2, 1) := by decide +kernel
theorem dX5_hostLeavesAll_35 : decode cX5_hostLeavesAll 35 = .ok (.iconst 1, 1) := by decide +kernel
theorem dX5_hostLeavesAll_36 : decode cX5_hostLeavesAll 36 = .ok (.iastore, 1) := by decide +kernel
theorem dX5_hostLeavesAll_37 : decode cX5_hostLeavesAll 37 = .ok (.iinc 2 1, 3) := by decide +kernel
theorem dX5_hostLeavesAll_40 : decode cX5_hostLeavesAll 40 = .ok (.goto (-36), 3) := by decide +kernel
theorem dX5_hostLeavesAll_43 : decode cX5_hostLeavesAll 43 = .ok (.return_, 1) := by decide +kernel
set_option maxRecDepth 20000 in
theorem ggX5_delivers_X5_isLinked : GoodIn wsX5_delivers wsX5_isLinked := goodIn_r _ [9, 2, 10, 11, 8, 12, 32, 33, 34, 35, 36, 37, 38, 39, 40, 41, 42, 43, 44, 45, 46, 47, 48, 49, 50, 51, 52, 53, 54] (by decide +kernel) (by decide +kernel)
set_option maxRecDepth 20000 in
theorem gX5_delivers_X5_isLinked : GoodIn wsX5_delivers (wsV RX5 76 RX5 yX5_isLinked wsX5_isLinked) := goodIn_app (goodIn_of _ (by decide +kernel)) ggX5_delivers_X5_isLinked
set_option maxRecDepth 20000 in
theorem ggX5_delivers_X5_hostLeavesAll : GoodIn wsX5_delivers wsX5_hostLeavesAll := goodIn_r _ [16, 17, 18, 32, 33, 34, 35, 36, 37, 38, 39, 40, 41, 42, 43, 44, 45, 46, 47, 48, 49, 50, 51, 52, 53, 54] (by decide +kernel) (by decide +kernel)
set_option maxRecDepth 20000 in
theorem gX5_delivers_X5_hostLeavesAll : GoodIn wsX5_delivers (wsV RX5 121 RX5 yX5_hostLeavesAll wsX5_hostLeavesAll) := goodIn_app (goodIn_of _ (by decide +kernel)) ggX5_delivers_X5_hostLeavesAll
set_option maxRecDepth 20000 in
theorem ggX5_delivers_X5_leavesAll : GoodIn wsX5_delivers wsX5_leavesAll := goodIn_r _ [22, 23, 24, 25, 26, 27, 32, 33, 34, 35, 36, 37, 38, 39, 40, 41, 42, 43, 44, 45, 46, 47, 48, 49, 50, 51, 52, 53, 54] (by decide +kernel) (by decide +kernel)
set_option maxRecDepth 20000 in
theorem gX5_delivers_X5_leavesAll : GoodIn wsX5_delivers (wsV RX5 117 RX5 yX5_leavesAll wsX5_leavesAll) := goodIn_app (goodIn_of _ (by decide +kernel)) ggX5_delivers_X5_leavesAll
set_option maxRecDepth 20000 in
theorem ggX5_delivers_X5_gets : GoodIn wsX5_delivers wsX5_gets := goodIn_r _ [31, 23, 24, 25, 32, 33, 34, 35, 36, 37, 38, 39, 40, 41, 42, 43, 44, 45, 46, 47, 48, 49, 50, 51, 52, 53, 54] (by decide +kernel) (by decide +kernel)
set_option maxRecDepth 20000 in
theorem gX5_delivers_X5_gets : GoodIn wsX5_delivers (wsV RX5 124 RX5 yX5_gets wsX5_gets) := goodIn_app (goodIn_of _ (by decide +kernel)) ggX5_delivers_X5_gets
theorem dX5_delivers_0 : decode cX5_delivers 0 = .ok (.aload_n 0, 1) := by decide +kernel
theorem dX5_delivers_1 : decode cX5_delivers 1 = .ok (.iload_n 1, 1) := by decide +kernel
theorem dX5_delivers_2 : decode cX5_delivers 2 = .ok (.invokevirtual 76, 3) := by decide +kernel
theorem dX5_delivers_5 : decode cX5_delivers 5 = .ok (.ifCond .ne 26, 3) := by decide +kernel
theorem dX5_delivers_8 : decode cX5_delivers 8 = .ok (.aload_n 0, 1) := by decide +kernel
theorem dX5_delivers_9 : decode cX5_delivers 9 = .ok (.getfield 51, 3) := by decide +kernel
theorem dX5_delivers_12 : decode cX5_delivers 12 = .ok (.iload_n 1, 1) := by decide +kernel
theorem dX5_delivers_13 : decode cX5_delivers 13 = .ok (.baload, 1) := by decide +kernel
theorem dX5_delivers_14 : decode cX5_delivers 14 = .ok (.ifCond .eq 16, 3) := by decide +kernel
theorem dX5_delivers_17 : decode cX5_delivers 17 = .ok (.aload_n 0, 1) := by decide +kernel
theorem dX5_delivers_18 : decode cX5_delivers 18 = .ok (.aload_n 0, 1) := by decide +kernel
theorem dX5_delivers_19 : decode cX5_delivers 19 = .ok (.getfield 7, 3) := by decide +kernel
theorem dX5_delivers_22 : decode cX5_delivers 22 = .ok (.iload_n 1, 1) := by decide +kernel
theorem dX5_delivers_23 : decode cX5_delivers 23 = .ok (.iaload, 1) := by decide +kernel
theorem dX5_delivers_24 : decode cX5_delivers 24 = .ok (.bipush 100, 2) := by decide +kernel
theorem dX5_delivers_26 : decode cX5_delivers 26 = .ok (.isub, 1) := by decide +kernel
theorem dX5_delivers_27 : decode cX5_delivers 27 = .ok (.invokevirtual 121, 3) := by decide +kernel
theorem dX5_delivers_30 : decode cX5_delivers 30 = .ok (.return_, 1) := by decide +kernel
theorem dX5_delivers_31 : decode cX5_delivers 31 = .ok (.aload_n 0, 1) := by decide +kernel
theorem dX5_delivers_32 : decode cX5_delivers 32 = .ok (.getfield 39, 3) := by decide +kernel
theorem dX5_delivers_35 : decode cX5_delivers 35 = .ok (.iload_n 1, 1) := by decide +kernel
theorem dX5_delivers_36 : decode cX5_delivers 36 = .ok (.baload, 1) := by decide +kernel
theorem dX5_delivers_37 : decode cX5_delivers 37 = .ok (.istore_n 2, 1) := by decide +kernel
theorem dX5_delivers_38 : decode cX5_delivers 38 = .ok (.aload_n 0, 1) := by decide +kernel
theorem dX5_delivers_39 : decode cX5_delivers 39 = .ok (.getfield 39, 3) := by decide +kernel
theorem dX5_delivers_42 : decode cX5_delivers 42 = .ok (.iload_n 1, 1) := by decide +kernel
theorem dX5_delivers_43 : decode cX5_delivers 43 = .ok (.iconst 0, 1) := by decide +kernel
theorem dX5_delivers_44 : decode cX5_delivers 44 = .ok (.bastore, 1) := by decide +kernel
theorem dX5_delivers_45 : decode cX5_delivers 45 = .ok (.iload_n 2, 1) := by decide +kernel
theorem dX5_delivers_46 : decode cX5_delivers 46 = .ok (.ifCond .eq 4, 3) := by decide +kernel
theorem dX5_delivers_49 : decode cX5_delivers 49 = .ok (.return_, 1) := by decide +kernel
theorem dX5_delivers_50 : decode cX5_delivers 50 = .ok (.aload_n 0, 1) := by decide +kernel
theorem dX5_delivers_51 : decode cX5_delivers 51 = .ok (.getfield 51, 3) := by decide +kernel
theorem dX5_delivers_54 : decode cX5_delivers 54 = .ok (.iload_n 1, 1) := by decide +kernel
theorem dX5_delivers_55 : decode cX5_delivers 55 = .ok (.baload, 1) := by decide +kernel
theorem dX5_delivers_56 : decode cX5_delivers 56 = .ok (.ifCond .eq 13, 3) := by decide +kernel
theorem dX5_delivers_59 : decode cX5_delivers 59 = .ok (.aload_n 0, 1) := by decide +kernel
theorem dX5_delivers_60 : decode cX5_delivers 60 = .ok (.aload_n 0, 1) := by decide +kernel
theorem dX5_delivers_61 : decode cX5_delivers 61 = .ok (.getfield 7, 3) := by decide +kernel
theorem dX5_delivers_64 : decode cX5_delivers 64 = .ok (.iload_n 1, 1) := by decide +kernel
theorem dX5_delivers_65 : decode cX5_delivers 65 = .ok (.iaload, 1) := by decide +kernel
theorem dX5_delivers_66 : decode cX5_delivers 66 = .ok (.invokevirtual 117, 3) := by decide +kernel
theorem dX5_delivers_69 : decode cX5_delivers 69 = .ok (.iconst 0, 1) := by decide +kernel
theorem dX5_delivers_70 : decode cX5_delivers 70 = .ok (.istore_n 3, 1) := by decide +kernel
theorem dX5_delivers_71 : decode cX5_delivers 71 = .ok (.iload_n 3, 1) := by decide +kernel
theorem dX5_delivers_72 : decode cX5_delivers 72 = .ok (.iconst 4, 1) := by decide +kernel
theorem dX5_delivers_73 : decode cX5_delivers 73 = .ok (.if_icmp .ge 33, 3) := by decide +kernel
theorem dX5_delivers_76 : decode cX5_delivers 76 = .ok (.aload_n 0, 1) := by decide +kernel
theorem dX5_delivers_77 : decode cX5_delivers 77 = .ok (.iconst 4, 1) := by decide +kernel
theorem dX5_delivers_78 : decode cX5_delivers 78 = .ok (.aload_n 0, 1) := by decide +kernel
theorem dX5_delivers_79 : decode cX5_delivers 79 = .ok (.getfield 7, 3) := by decide +kernel
theorem dX5_delivers_82 : decode cX5_delivers 82 = .ok (.iload_n 1, 1) := by decide +kernel
theorem dX5_delivers_83 : decode cX5_delivers 83 = .ok (.iaload, 1) := by decide +kernel
theorem dX5_delivers_84 : decode cX5_delivers 84 = .ok (.imul, 1) := by decide +kernel
theorem dX5_delivers_85 : decode cX5_delivers 85 = .ok (.iload_n 3, 1) := by decide +kernel
theorem dX5_delivers_86 : decode cX5_delivers 86 = .ok (.iadd, 1) := by decide +kernel
theorem dX5_delivers_87 : decode cX5_delivers 87 = .ok (.aload_n 0, 1) := by decide +kernel
theorem dX5_delivers_88 : decode cX5_delivers 88 = .ok (.getfield 54, 3) := by decide +kernel
theorem dX5_delivers_91 : decode cX5_delivers 91 = .ok (.iconst 4, 1) := by decide +kernel
theorem dX5_delivers_92 : decode cX5_delivers 92 = .ok (.iload_n 1, 1) := by decide +kernel
theorem dX5_delivers_93 : decode cX5_delivers 93 = .ok (.imul, 1) := by decide +kernel
theorem dX5_delivers_94 : decode cX5_delivers 94 = .ok (.iload_n 3, 1) := by decide +kernel
theorem dX5_delivers_95 : decode cX5_delivers 95 = .ok (.iadd, 1) := by decide +kernel
theorem dX5_delivers_96 : decode cX5_delivers 96 = .ok (.iaload, 1) := by decide +kernel
theorem dX5_delivers_97 : decode cX5_delivers 97 = .ok (.invokevirtual 124, 3) := by decide +kernel
theorem dX5_delivers_100 : decode cX5_delivers 100 = .ok (.iinc 3 1, 3) := by decide +kernel
theorem dX5_delivers_103 : decode cX5_delivers 103 = .ok (.goto (-32), 3) := by decide +kernel
theorem dX5_delivers_106 : decode cX5_delivers 106 = .ok (.return_, 1) := by decide +kernel
set_option maxRecDepth 20000 in
theorem ggX5_passes_X5_isConnected : GoodIn wsX5_passes wsX5_isConnected := goodIn_r _ [9, 10, 71, 72, 73, 74, 75, 76, 77, 78, 79, 80, 81, 82, 83, 84, 85, 86, 87, 88, 89, 90, 91, 92, 93] (by decide +kernel) (by decide +kernel)
set_option maxRecDepth 20000 in
theorem gX5_passes_X5_isConnected : GoodIn wsX5_passes (wsV RX5 87 RX5 yX5_isConnected wsX5_isConnected) := goodIn_app (goodIn_of _ (by decide +kernel)) ggX5_passes_X5_isConnected
set_option maxRecDepth 20000 in
theorem ggX5_passes_X5_ages : GoodIn wsX5_passes wsX5_ages := goodIn_r _ [14, 15, 16, 17, 18, 19, 71, 72, 73, 74, 75, 76, 77, 78, 79, 80, 81, 82, 83, 84, 85, 86, 87, 88, 89, 90, 91, 92, 93] (by decide +kernel) (by decide +kernel)
set_option maxRecDepth 20000 in
theorem gX5_passes_X5_ages : GoodIn wsX5_passes (wsV RX5 127 RX5 yX5_ages wsX5_ages) := goodIn_app (goodIn_of _ (by decide +kernel)) ggX5_passes_X5_ages
set_option maxRecDepth 20000 in
theorem ggX5_passes_X5_propagates : GoodIn wsX5_passes wsX5_propagates := goodIn_r _ [23, 24, 25, 26, 27, 28, 8, 29, 16, 5, 6, 7, 9, 10, 30, 31, 32, 71, 72, 73, 74, 75, 76, 77, 78, 79, 80, 81, 82, 83, 84, 85, 86, 87, 88, 89, 90, 91, 92, 93] (by decide +kernel) (by decide +kernel)
set_option maxRecDepth 20000 in
theorem gX5_passes_X5_propagates : GoodIn wsX5_passes (wsV RX5 130 RX5 yX5_propagates wsX5_propagates) := goodIn_app (goodIn_of _ (by decide +kernel)) ggX5_passes_X5_propagates
set_option maxRecDepth 20000 in
theorem ggX5_passes_X5_sendsOf : GoodIn wsX5_passes wsX5_sendsOf := goodIn_r _ [36, 37, 15, 38, 24, 25, 39, 40, 41, 8, 42, 16, 17, 43, 71, 72, 73, 74, 75, 76, 77, 78, 79, 80, 81, 82, 83, 84, 85, 86, 87, 88, 89, 90, 91, 92, 93] (by decide +kernel) (by decide +kernel)
set_option maxRecDepth 20000 in
theorem gX5_passes_X5_sendsOf : GoodIn wsX5_passes (wsV RX5 133 RX5 yX5_sendsOf wsX5_sendsOf) := goodIn_app (goodIn_of _ (by decide +kernel)) ggX5_passes_X5_sendsOf
set_option maxRecDepth 20000 in
theorem ggX5_passes_X5_sendsOfHost : GoodIn wsX5_passes wsX5_sendsOfHost := goodIn_r _ [47, 3, 48, 49, 50, 71, 72, 73, 74, 75, 76, 77, 78, 79, 80, 81, 82, 83, 84, 85, 86, 87, 88, 89, 90, 91, 92, 93] (by decide +kernel) (by decide +kernel)
set_option maxRecDepth 20000 in
theorem gX5_passes_X5_sendsOfHost : GoodIn wsX5_passes (wsV RX5 136 RX5 yX5_sendsOfHost wsX5_sendsOfHost) := goodIn_app (goodIn_of _ (by decide +kernel)) ggX5_passes_X5_sendsOfHost
set_option maxRecDepth 20000 in
theorem ggX5_passes_X5_delivers : GoodIn wsX5_passes wsX5_delivers := goodIn_r _ [54, 37, 10, 55, 38, 56, 57, 58, 8, 59, 60, 61, 62, 63, 64, 65, 66, 49, 50, 39, 40, 41, 42, 16, 17, 43, 24, 25, 67, 68, 69, 70, 71, 72, 73, 74, 75, 76, 77, 78, 79, 80, 81, 82, 83, 84, 85, 86, 87, 88, 89, 90, 91, 92, 93] (by decide +kernel) (by decide +kernel)
set_option maxRecDepth 20000 in
theorem gX5_passes_X5_delivers : GoodIn wsX5_passes (wsV RX5 139 RX5 yX5_delivers wsX5_delivers) := goodIn_app (goodIn_of _ (by decide +kernel)) ggX5_passes_X5_delivers
set_option maxRecDepth 20000 in
theorem ggX5_passes_X5_gets : GoodIn wsX5_passes wsX5_gets := goodIn_r _ [70, 16, 17, 43, 71, 72, 73, 74, 75, 76, 77, 78, 79, 80, 81, 82, 83, 84, 85, 86, 87, 88, 89, 90, 91, 92, 93] (by decide +kernel) (by decide +kernel)
set_option maxRecDepth 20000 in
theorem gX5_passes_X5_gets : GoodIn wsX5_passes (wsV RX5 124 RX5 yX5_gets wsX5_gets) := goodIn_app (goodIn_of _ (by decide +kernel)) ggX5_passes_X5_gets
theorem dX5_passes_0 : decode cX5_passes 0 = .ok (.iconst 0, 1) := by decide +kernel
theorem dX5_passes_1 : decode cX5_passes 1 = .ok (.istore_n 1, 1) := by decide +kernel
theorem dX5_passes_2 : decode cX5_passes 2 = .ok (.iconst 0, 1) := by decide +kernel
theorem dX5_passes_3 : decode cX5_passes 3 = .ok (.istore_n 2, 1) := by decide +kernel
theorem dX5_passes_4 : decode cX5_passes 4 = .ok (.iload_n 2, 1) := by decide +kernel
theorem dX5_passes_5 : decode cX5_passes 5 = .ok (.bipush 20, 2) := by decide +kernel
theorem dX5_passes_7 : decode cX5_passes 7 = .ok (.if_icmp .ge 22, 3) := by decide +kernel
theorem dX5_passes_10 : decode cX5_passes 10 = .ok (.aload_n 0, 1) := by decide +kernel
theorem dX5_passes_11 : decode cX5_passes 11 = .ok (.iload_n 2, 1) := by decide +kernel
theorem dX5_passes_12 : decode cX5_passes 12 = .ok (.invokevirtual 87, 3) := by decide +kernel
theorem dX5_passes_15 : decode cX5_passes 15 = .ok (.ifCond .eq 8, 3) := by decide +kernel
theorem dX5_passes_18 : decode cX5_passes 18 = .ok (.aload_n 0, 1) := by decide +kernel
theorem dX5_passes_19 : decode cX5_passes 19 = .ok (.iload_n 2, 1) := by decide +kernel
theorem dX5_passes_20 : decode cX5_passes 20 = .ok (.invokevirtual 127, 3) := by decide +kernel
theorem dX5_passes_23 : decode cX5_passes 23 = .ok (.iinc 2 1, 3) := by decide +kernel
theorem dX5_passes_26 : decode cX5_passes 26 = .ok (.goto (-22), 3) := by decide +kernel
theorem dX5_passes_29 : decode cX5_passes 29 = .ok (.iconst 0, 1) := by decide +kernel
theorem dX5_passes_30 : decode cX5_passes 30 = .ok (.istore_n 2, 1) := by decide +kernel
theorem dX5_passes_31 : decode cX5_passes 31 = .ok (.iload_n 2, 1) := by decide +kernel
theorem dX5_passes_32 : decode cX5_passes 32 = .ok (.bipush 20, 2) := by decide +kernel
theorem dX5_passes_34 : decode cX5_passes 34 = .ok (.if_icmp .ge 22, 3) := by decide +kernel
theorem dX5_passes_37 : decode cX5_passes 37 = .ok (.aload_n 0, 1) := by decide +kernel
theorem dX5_passes_38 : decode cX5_passes 38 = .ok (.iload_n 2, 1) := by decide +kernel
theorem dX5_passes_39 : decode cX5_passes 39 = .ok (.invokevirtual 87, 3) := by decide +kernel
theorem dX5_passes_42 : decode cX5_passes 42 = .ok (.ifCond .eq 8, 3) := by decide +kernel
theorem dX5_passes_45 : decode cX5_passes 45 = .ok (.aload_n 0, 1) := by decide +kernel
theorem dX5_passes_46 : decode cX5_passes 46 = .ok (.iload_n 2, 1) := by decide +kernel
theorem dX5_passes_47 : decode cX5_passes 47 = .ok (.invokevirtual 130, 3) := by decide +kernel
theorem dX5_passes_50 : decode cX5_passes 50 = .ok (.iinc 2 1, 3) := by decide +kernel
theorem dX5_passes_53 : decode cX5_passes 53 = .ok (.goto (-22), 3) := by decide +kernel
theorem dX5_passes_56 : decode cX5_passes 56 = .ok (.iconst 0, 1) := by decide +kernel
theorem dX5_passes_57 : decode cX5_passes 57 = .ok (.istore_n 2, 1) := by decide +kernel
theorem dX5_passes_58 : decode cX5_passes 58 = .ok (.iload_n 2, 1) := by decide +kernel
theorem dX5_passes_59 : decode cX5_passes 59 = .ok (.bipush 20, 2) := by decide +kernel
theorem dX5_passes_61 : decode cX5_passes 61 = .ok (.if_icmp .ge 29, 3) := by decide +kernel
theorem dX5_passes_64 : decode cX5_passes 64 = .ok (.iload_n 1, 1) := by decide +kernel
theorem dX5_passes_65 : decode cX5_passes 65 = .ok (.aload_n 0, 1) := by decide +kernel
theorem dX5_passes_66 : decode cX5_passes 66 = .ok (.iload_n 2, 1) := by decide +kernel
theorem dX5_passes_67 : decode cX5_passes 67 = .ok (.invokevirtual 87, 3) := by decide +kernel
theorem dX5_passes_70 : decode cX5_passes 70 = .ok (.ifCond .eq 11, 3) := by decide +kernel
theorem dX5_passes_73 : decode cX5_passes 73 = .ok (.aload_n 0, 1) := by decide +kernel
theorem dX5_passes_74 : decode cX5_passes 74 = .ok (.iload_n 2, 1) := by decide +kernel
theorem dX5_passes_75 : decode cX5_passes 75 = .ok (.invokevirtual 133, 3) := by decide +kernel
theorem dX5_passes_78 : decode cX5_passes 78 = .ok (.goto 4, 3) := by decide +kernel
theorem dX5_passes_81 : decode cX5_passes 81 = .ok (.iconst 0, 1) := by decide +kernel
theorem dX5_passes_82 : decode cX5_passes 82 = .ok (.iadd, 1) := by decide +kernel
theorem dX5_passes_83 : decode cX5_passes 83 = .ok (.istore_n 1, 1) := by decide +kernel
theorem dX5_passes_84 : decode cX5_passes 84 = .ok (.iinc 2 1, 3) := by decide +kernel
theorem dX5_passes_87 : decode cX5_passes 87 = .ok (.goto (-29), 3) := by decide +kernel
theorem dX5_passes_90 : decode cX5_passes 90 = .ok (.iconst 0, 1) := by decide +kernel
theorem dX5_passes_91 : decode cX5_passes 91 = .ok (.istore_n 2, 1) := by decide +kernel
theorem dX5_passes_92 : decode cX5_passes 92 = .ok (.iload_n 2, 1) := by decide +kernel
theorem dX5_passes_93 : decode cX5_passes 93 = .ok (.aload_n 0, 1) := by decide +kernel
theorem dX5_passes_94 : decode cX5_passes 94 = .ok (.getfield 73, 3) := by decide +kernel
theorem dX5_passes_97 : decode cX5_passes 97 = .ok (.if_icmp .ge 17, 3) := by decide +kernel
theorem dX5_passes_100 : decode cX5_passes 100 = .ok (.iload_n 1, 1) := by decide +kernel
theorem dX5_passes_101 : decode cX5_passes 101 = .ok (.aload_n 0, 1) := by decide +kernel
theorem dX5_passes_102 : decode cX5_passes 102 = .ok (.iload_n 2, 1) := by decide +kernel
theorem dX5_passes_103 : decode cX5_passes 103 = .ok (.invokevirtual 136, 3) := by decide +kernel
theorem dX5_passes_106 : decode cX5_passes 106 = .ok (.iadd, 1) := by decide +kernel
theorem dX5_passes_107 : decode cX5_passes 107 = .ok (.istore_n 1, 1) := by decide +kernel
theorem dX5_passes_108 : decode cX5_passes 108 = .ok (.iinc 2 1, 3) := by decide +kernel
theorem dX5_passes_111 : decode cX5_passes 111 = .ok (.goto (-19), 3) := by decide +kernel
theorem dX5_passes_114 : decode cX5_passes 114 = .ok (.iconst 0, 1) := by decide +kernel
theorem dX5_passes_115 : decode cX5_passes 115 = .ok (.istore_n 2, 1) := by decide +kernel
theorem dX5_passes_116 : decode cX5_passes 116 = .ok (.iload_n 2, 1) := by decide +kernel
theorem dX5_passes_117 : decode cX5_passes 117 = .ok (.bipush 20, 2) := by decide +kernel
theorem dX5_passes_119 : decode cX5_passes 119 = .ok (.if_icmp .ge 22, 3) := by decide +kernel
theorem dX5_passes_122 : decode cX5_passes 122 = .ok (.aload_n 0, 1) := by decide +kernel
theorem dX5_passes_123 : decode cX5_passes 123 = .ok (.iload_n 2, 1) := by decide +kernel
theorem dX5_passes_124 : decode cX5_passes 124 = .ok (.invokevirtual 87, 3) := by decide +kernel
theorem dX5_passes_127 : decode cX5_passes 127 = .ok (.ifCond .eq 8, 3) := by decide +kernel
theorem dX5_passes_130 : decode cX5_passes 130 = .ok (.aload_n 0, 1) := by decide +kernel
theorem dX5_passes_131 : decode cX5_passes 131 = .ok (.iload_n 2, 1) := by decide +kernel
theorem dX5_passes_132 : decode cX5_passes 132 = .ok (.invokevirtual 139, 3) := by decide +kernel
theorem dX5_passes_135 : decode cX5_passes 135 = .ok (.iinc 2 1, 3) := by decide +kernel
theorem dX5_passes_138 : decode cX5_passes 138 = .ok (.goto (-22), 3) := by decide +kernel
theorem dX5_passes_141 : decode cX5_passes 141 = .ok (.iconst 0, 1) := by decide +kernel
theorem dX5_passes_142 : decode cX5_passes 142 = .ok (.istore_n 2, 1) := by decide +kernel
theorem dX5_passes_143 : decode cX5_passes 143 = .ok (.iload_n 2, 1) := by decide +kernel
theorem dX5_passes_144 : decode cX5_passes 144 = .ok (.iconst 4, 1) := by decide +kernel
theorem dX5_passes_145 : decode cX5_passes 145 = .ok (.aload_n 0, 1) := by decide +kernel
theorem dX5_passes_146 : decode cX5_passes 146 = .ok (.getfield 73, 3) := by decide +kernel
theorem dX5_passes_149 : decode cX5_passes 149 = .ok (.imul, 1) := by decide +kernel
theorem dX5_passes_150 : decode cX5_passes 150 = .ok (.if_icmp .ge 33, 3) := by decide +kernel
theorem dX5_passes_153 : decode cX5_passes 153 = .ok (.aload_n 0, 1) := by decide +kernel
theorem dX5_passes_154 : decode cX5_passes 154 = .ok (.iconst 4, 1) := by decide +kernel
theorem dX5_passes_155 : decode cX5_passes 155 = .ok (.aload_n 0, 1) := by decide +kernel
theorem dX5_passes_156 : decode cX5_passes 156 = .ok (.getfield 13, 3) := by decide +kernel
theorem dX5_passes_159 : decode cX5_passes 159 = .ok (.iload_n 2, 1) := by decide +kernel
theorem dX5_passes_160 : decode cX5_passes 160 = .ok (.iconst 4, 1) := by decide +kernel
theorem dX5_passes_161 : decode cX5_passes 161 = .ok (.idiv, 1) := by decide +kernel
theorem dX5_passes_162 : decode cX5_passes 162 = .ok (.iaload, 1) := by decide +kernel
theorem dX5_passes_163 : decode cX5_passes 163 = .ok (.imul, 1) := by decide +kernel
theorem dX5_passes_164 : decode cX5_passes 164 = .ok (.iload_n 2, 1) := by decide +kernel
theorem dX5_passes_165 : decode cX5_passes 165 = .ok (.iconst 4, 1) := by decide +kernel
theorem dX5_passes_166 : decode cX5_passes 166 = .ok (.irem, 1) := by decide +kernel
theorem dX5_passes_167 : decode cX5_passes 167 = .ok (.iadd, 1) := by decide +kernel
theorem dX5_passes_168 : decode cX5_passes 168 = .ok (.aload_n 0, 1) := by decide +kernel
theorem dX5_passes_169 : decode cX5_passes 169 = .ok (.getfield 57, 3) := by decide +kernel
theorem dX5_passes_172 : decode cX5_passes 172 = .ok (.iload_n 2, 1) := by decide +kernel
theorem dX5_passes_173 : decode cX5_passes 173 = .ok (.iaload, 1) := by decide +kernel
theorem dX5_passes_174 : decode cX5_passes 174 = .ok (.invokevirtual 124, 3) := by decide +kernel
theorem dX5_passes_177 : decode cX5_passes 177 = .ok (.iinc 2 1, 3) := by decide +kernel
theorem dX5_passes_180 : decode cX5_passes 180 = .ok (.goto (-37), 3) := by decide +kernel
theorem dX5_passes_183 : decode cX5_passes 183 = .ok (.aload_n 0, 1) := by decide +kernel
theorem dX5_passes_184 : decode cX5_passes 184 = .ok (.dup, 1) := by decide +kernel
theorem dX5_passes_185 : decode cX5_passes 185 = .ok (.getfield 142, 3) := by decide +kernel
theorem dX5_passes_188 : decode cX5_passes 188 = .ok (.iconst 1, 1) := by decide +kernel
theorem dX5_passes_189 : decode cX5_passes 189 = .ok (.iadd, 1) := by decide +kernel
theorem dX5_passes_190 : decode cX5_passes 190 = .ok (.putfield 142, 3) := by decide +kernel
theorem dX5_passes_193 : decode cX5_passes 193 = .ok (.iload_n 1, 1) := by decide +kernel
theorem dX5_passes_194 : decode cX5_passes 194 = .ok (.ireturn, 1) := by decide +kernel
set_option maxRecDepth 20000 in
theorem ggX5_tick_X5_within : GoodIn wsX5_tick wsX5_within := goodIn_r _ [4] (by decide +kernel) (by decide +kernel)
set_option maxRecDepth 20000 in
theorem gX5_tick_X5_within : GoodIn wsX5_tick (va_wsS RX5 69 yX5_within wsX5_within) := goodIn_app (goodIn_of _ (by decide +kernel)) ggX5_tick_X5_within
set_option maxRecDepth 20000 in
theorem ggX5_tick_X5_passes : GoodIn wsX5_tick wsX5_passes := goodIn_r _ [8, 9, 10, 11, 12, 13, 14, 15, 3, 16, 17, 18, 19, 20, 21, 22, 23, 24, 25, 26, 27, 28, 29, 30, 31, 32, 33, 34, 35, 36, 37, 38, 39, 40, 41, 42, 43, 44, 45, 46, 47, 48, 49, 50, 51, 52, 53, 54, 55, 56, 57, 58, 59, 60, 61, 62, 63, 64, 65, 66, 1, 2, 4, 67, 68, 69, 70, 71, 72, 73, 74, 75, 76, 77, 78, 79, 80, 81, 82, 83, 84, 85, 86, 87, 88, 89, 90, 91, 92, 93, 94, 95, 96, 97] (by decide +kernel) (by decide +kernel)
set_option maxRecDepth 20000 in
theorem gX5_tick_X5_passes : GoodIn wsX5_tick (wsV RX5 145 RX5 yX5_passes wsX5_passes) := goodIn_app (goodIn_of _ (by decide +kernel)) ggX5_tick_X5_passes
theorem dX5_tick_0 : decode cX5_tick 0 = .ok (.iload_n 1, 1) := by decide +kernel
theorem dX5_tick_1 : decode cX5_tick 1 = .ok (.iconst 1, 1) := by decide +kernel
theorem dX5_tick_2 : decode cX5_tick 2 = .ok (.bipush 100, 2) := by decide +kernel
theorem dX5_tick_4 : decode cX5_tick 4 = .ok (.invokestatic 69, 3) := by decide +kernel
theorem dX5_tick_7 : decode cX5_tick 7 = .ok (.ifCond .ne 6, 3) := by decide +kernel
theorem dX5_tick_10 : decode cX5_tick 10 = .ok (.bipush (-4), 2) := by decide +kernel
theorem dX5_tick_12 : decode cX5_tick 12 = .ok (.ireturn, 1) := by decide +kernel
theorem dX5_tick_13 : decode cX5_tick 13 = .ok (.iconst 0, 1) := by decide +kernel
theorem dX5_tick_14 : decode cX5_tick 14 = .ok (.istore_n 2, 1) := by decide +kernel
theorem dX5_tick_15 : decode cX5_tick 15 = .ok (.iconst 0, 1) := by decide +kernel
theorem dX5_tick_16 : decode cX5_tick 16 = .ok (.istore_n 3, 1) := by decide +kernel
theorem dX5_tick_17 : decode cX5_tick 17 = .ok (.iload_n 3, 1) := by decide +kernel
theorem dX5_tick_18 : decode cX5_tick 18 = .ok (.iload_n 1, 1) := by decide +kernel
theorem dX5_tick_19 : decode cX5_tick 19 = .ok (.if_icmp .ge 16, 3) := by decide +kernel
theorem dX5_tick_22 : decode cX5_tick 22 = .ok (.iload_n 2, 1) := by decide +kernel
theorem dX5_tick_23 : decode cX5_tick 23 = .ok (.aload_n 0, 1) := by decide +kernel
theorem dX5_tick_24 : decode cX5_tick 24 = .ok (.invokevirtual 145, 3) := by decide +kernel
theorem dX5_tick_27 : decode cX5_tick 27 = .ok (.iadd, 1) := by decide +kernel
theorem dX5_tick_28 : decode cX5_tick 28 = .ok (.istore_n 2, 1) := by decide +kernel
theorem dX5_tick_29 : decode cX5_tick 29 = .ok (.iinc 3 1, 3) := by decide +kernel
theorem dX5_tick_32 : decode cX5_tick 32 = .ok (.goto (-15), 3) := by decide +kernel
theorem dX5_tick_35 : decode cX5_tick 35 = .ok (.iload_n 2, 1) := by decide +kernel
theorem dX5_tick_36 : decode cX5_tick 36 = .ok (.ireturn, 1) := by decide +kernel
theorem dX5_time_0 : decode cX5_time 0 = .ok (.aload_n 0, 1) := by decide +kernel
theorem dX5_time_1 : decode cX5_time 1 = .ok (.getfield 142, 3) := by decide +kernel
theorem dX5_time_4 : decode cX5_time 4 = .ok (.ireturn, 1) := by decide +kernel
set_option maxRecDepth 20000 in
theorem ggX5_refusedPort_X5_isPort : GoodIn wsX5_refusedPort wsX5_isPort := goodIn_r _ [5, 6, 7, 8, 4, 9, 13, 14, 15, 16, 17, 18, 19, 20, 21, 22, 23, 24, 25, 26, 27, 28, 29, 30, 31, 32, 33, 34, 35] (by decide +kernel) (by decide +kernel)
set_option maxRecDepth 20000 in
theorem gX5_refusedPort_X5_isPort : GoodIn wsX5_refusedPort (wsV RX5 83 RX5 yX5_isPort wsX5_isPort) := goodIn_app (goodIn_of _ (by decide +kernel)) ggX5_refusedPort_X5_isPort
set_option maxRecDepth 20000 in
theorem ggX5_refusedPort_X5_isGroup : GoodIn wsX5_refusedPort wsX5_isGroup := goodIn_r _ [12, 7, 8, 4, 9] (by decide +kernel) (by decide +kernel)
set_option maxRecDepth 20000 in
theorem gX5_refusedPort_X5_isGroup : GoodIn wsX5_refusedPort (va_wsS RX5 104 yX5_isGroup wsX5_isGroup) := goodIn_app (goodIn_of _ (by decide +kernel)) ggX5_refusedPort_X5_isGroup
theorem dX5_refusedPort_0 : decode cX5_refusedPort 0 = .ok (.aload_n 0, 1) := by decide +kernel
theorem dX5_refusedPort_1 : decode cX5_refusedPort 1 = .ok (.iload_n 1, 1) := by decide +kernel
theorem dX5_refusedPort_2 : decode cX5_refusedPort 2 = .ok (.iload_n 2, 1) := by decide +kernel
theorem dX5_refusedPort_3 : decode cX5_refusedPort 3 = .ok (.invokevirtual 83, 3) := by decide +kernel
theorem dX5_refusedPort_6 : decode cX5_refusedPort 6 = .ok (.ifCond .ne 7, 3) := by decide +kernel
theorem dX5_refusedPort_9 : decode cX5_refusedPort 9 = .ok (.iconst (-1), 1) := by decide +kernel
theorem dX5_refusedPort_10 : decode cX5_refusedPort 10 = .ok (.goto 16, 3) := by decide +kernel
theorem dX5_refusedPort_13 : decode cX5_refusedPort 13 = .ok (.iload_n 3, 1) := by decide +kernel
theorem dX5_refusedPort_14 : decode cX5_refusedPort 14 = .ok (.invokestatic 104, 3) := by decide +kernel
theorem dX5_refusedPort_17 : decode cX5_refusedPort 17 = .ok (.ifCond .ne 8, 3) := by decide +kernel
theorem dX5_refusedPort_20 : decode cX5_refusedPort 20 = .ok (.bipush (-3), 2) := by decide +kernel
theorem dX5_refusedPort_22 : decode cX5_refusedPort 22 = .ok (.goto 4, 3) := by decide +kernel
theorem dX5_refusedPort_25 : decode cX5_refusedPort 25 = .ok (.iconst 0, 1) := by decide +kernel
theorem dX5_refusedPort_26 : decode cX5_refusedPort 26 = .ok (.ireturn, 1) := by decide +kernel
set_option maxRecDepth 20000 in
theorem ggX5_registrar_X5_refusedPort : GoodIn wsX5_registrar wsX5_refusedPort := goodIn_r _ [6, 7, 8, 9, 5, 10, 11, 12, 13, 14, 15, 16, 17, 18, 19, 20, 21, 22, 23, 24, 25, 26, 27, 28, 29, 30, 31, 32, 33, 34, 35, 36, 37, 38, 39, 40] (by decide +kernel) (by decide +kernel)
set_option maxRecDepth 20000 in
theorem gX5_registrar_X5_refusedPort : GoodIn wsX5_registrar (wsV RX5 149 RX5 yX5_refusedPort wsX5_refusedPort) := goodIn_app (goodIn_of _ (by decide +kernel)) ggX5_registrar_X5_refusedPort
theorem dX5_registrar_0 : decode cX5_registrar 0 = .ok (.aload_n 0, 1) := by decide +kernel
theorem dX5_registrar_1 : decode cX5_registrar 1 = .ok (.iload_n 1, 1) := by decide +kernel
theorem dX5_registrar_2 : decode cX5_registrar 2 = .ok (.iload_n 2, 1) := by decide +kernel
theorem dX5_registrar_3 : decode cX5_registrar 3 = .ok (.iload_n 3, 1) := by decide +kernel
theorem dX5_registrar_4 : decode cX5_registrar 4 = .ok (.invokevirtual 149, 3) := by decide +kernel
theorem dX5_registrar_7 : decode cX5_registrar 7 = .ok (.istore 4, 2) := by decide +kernel
theorem dX5_registrar_9 : decode cX5_registrar 9 = .ok (.iload 4, 2) := by decide +kernel
theorem dX5_registrar_11 : decode cX5_registrar 11 = .ok (.ifCond .eq 8, 3) := by decide +kernel
theorem dX5_registrar_14 : decode cX5_registrar 14 = .ok (.iload 4, 2) := by decide +kernel
theorem dX5_registrar_16 : decode cX5_registrar 16 = .ok (.goto 18, 3) := by decide +kernel
theorem dX5_registrar_19 : decode cX5_registrar 19 = .ok (.aload_n 0, 1) := by decide +kernel
theorem dX5_registrar_20 : decode cX5_registrar 20 = .ok (.getfield 24, 3) := by decide +kernel
theorem dX5_registrar_23 : decode cX5_registrar 23 = .ok (.bipush 16, 2) := by decide +kernel
theorem dX5_registrar_25 : decode cX5_registrar 25 = .ok (.iload_n 1, 1) := by decide +kernel
theorem dX5_registrar_26 : decode cX5_registrar 26 = .ok (.imul, 1) := by decide +kernel
theorem dX5_registrar_27 : decode cX5_registrar 27 = .ok (.iconst 4, 1) := by decide +kernel
theorem dX5_registrar_28 : decode cX5_registrar 28 = .ok (.iload_n 2, 1) := by decide +kernel
theorem dX5_registrar_29 : decode cX5_registrar 29 = .ok (.imul, 1) := by decide +kernel
theorem dX5_registrar_30 : decode cX5_registrar 30 = .ok (.iadd, 1) := by decide +kernel
theorem dX5_registrar_31 : decode cX5_registrar 31 = .ok (.iload_n 3, 1) := by decide +kernel
theorem dX5_registrar_32 : decode cX5_registrar 32 = .ok (.iadd, 1) := by decide +kernel
theorem dX5_registrar_33 : decode cX5_registrar 33 = .ok (.iaload, 1) := by decide +kernel
theorem dX5_registrar_34 : decode cX5_registrar 34 = .ok (.ireturn, 1) := by decide +kernel
set_option maxRecDepth 20000 in
theorem ggX5_registrarTimer_X5_refusedPort : GoodIn wsX5_registrarTimer wsX5_refusedPort := goodIn_r _ [6, 7, 8, 9, 5, 10, 11, 12, 13, 14, 15, 16, 17, 18, 19, 20, 21, 22, 23, 24, 25, 26, 27, 28, 29, 30, 31, 32, 33, 34, 35, 36, 37, 38, 39, 40] (by decide +kernel) (by decide +kernel)
set_option maxRecDepth 20000 in
theorem gX5_registrarTimer_X5_refusedPort : GoodIn wsX5_registrarTimer (wsV RX5 149 RX5 yX5_refusedPort wsX5_refusedPort) := goodIn_app (goodIn_of _ (by decide +kernel)) ggX5_registrarTimer_X5_refusedPort
theorem dX5_registrarTimer_0 : decode cX5_registrarTimer 0 = .ok (.aload_n 0, 1) := by decide +kernel
theorem dX5_registrarTimer_1 : decode cX5_registrarTimer 1 = .ok (.iload_n 1, 1) := by decide +kernel
theorem dX5_registrarTimer_2 : decode cX5_registrarTimer 2 = .ok (.iload_n 2, 1) := by decide +kernel
theorem dX5_registrarTimer_3 : decode cX5_registrarTimer 3 = .ok (.iload_n 3, 1) := by decide +kernel
theorem dX5_registrarTimer_4 : decode cX5_registrarTimer 4 = .ok (.invokevirtual 149, 3) := by decide +kernel
theorem dX5_registrarTimer_7 : decode cX5_registrarTimer 7 = .ok (.istore 4, 2) := by decide +kernel
theorem dX5_registrarTimer_9 : decode cX5_registrarTimer 9 = .ok (.iload 4, 2) := by decide +kernel
theorem dX5_registrarTimer_11 : decode cX5_registrarTimer 11 = .ok (.ifCond .eq 8, 3) := by decide +kernel
theorem dX5_registrarTimer_14 : decode cX5_registrarTimer 14 = .ok (.iload 4, 2) := by decide +kernel
theorem dX5_registrarTimer_16 : decode cX5_registrarTimer 16 = .ok (.goto 18, 3) := by decide +kernel
theorem dX5_registrarTimer_19 : decode cX5_registrarTimer 19 = .ok (.aload_n 0, 1) := by decide +kernel
theorem dX5_registrarTimer_20 : decode cX5_registrarTimer 20 = .ok (.getfield 27, 3) := by decide +kernel
theorem dX5_registrarTimer_23 : decode cX5_registrarTimer 23 = .ok (.bipush 16, 2) := by decide +kernel
theorem dX5_registrarTimer_25 : decode cX5_registrarTimer 25 = .ok (.iload_n 1, 1) := by decide +kernel
theorem dX5_registrarTimer_26 : decode cX5_registrarTimer 26 = .ok (.imul, 1) := by decide +kernel
theorem dX5_registrarTimer_27 : decode cX5_registrarTimer 27 = .ok (.iconst 4, 1) := by decide +kernel
theorem dX5_registrarTimer_28 : decode cX5_registrarTimer 28 = .ok (.iload_n 2, 1) := by decide +kernel
theorem dX5_registrarTimer_29 : decode cX5_registrarTimer 29 = .ok (.imul, 1) := by decide +kernel
theorem dX5_registrarTimer_30 : decode cX5_registrarTimer 30 = .ok (.iadd, 1) := by decide +kernel
theorem dX5_registrarTimer_31 : decode cX5_registrarTimer 31 = .ok (.iload_n 3, 1) := by decide +kernel
theorem dX5_registrarTimer_32 : decode cX5_registrarTimer 32 = .ok (.iadd, 1) := by decide +kernel
theorem dX5_registrarTimer_33 : decode cX5_registrarTimer 33 = .ok (.iaload, 1) := by decide +kernel
theorem dX5_registrarTimer_34 : decode cX5_registrarTimer 34 = .ok (.ireturn, 1) := by decide +kernel
set_option maxRecDepth 20000 in
theorem ggX5_applicant_X5_refusedPort : GoodIn wsX5_applicant wsX5_refusedPort := goodIn_r _ [6, 7, 8, 9, 5, 10, 11, 12, 13, 14, 15, 16, 17, 18, 19, 20, 21, 22, 23, 24, 25, 26, 27, 28, 29, 30, 31, 32, 33, 34, 35, 36, 37, 38, 39, 40] (by decide +kernel) (by decide +kernel)
set_option maxRecDepth 20000 in
theorem gX5_applicant_X5_refusedPort : GoodIn wsX5_applicant (wsV RX5 149 RX5 yX5_refusedPort wsX5_refusedPort) := goodIn_app (goodIn_of _ (by decide +kernel)) ggX5_applicant_X5_refusedPort
theorem dX5_applicant_0 : decode cX5_applicant 0 = .ok (.aload_n 0, 1) := by decide +kernel
theorem dX5_applicant_1 : decode cX5_applicant 1 = .ok (.iload_n 1, 1) := by decide +kernel
theorem dX5_applicant_2 : decode cX5_applicant 2 = .ok (.iload_n 2, 1) := by decide +kernel
theorem dX5_applicant_3 : decode cX5_applicant 3 = .ok (.iload_n 3, 1) := by decide +kernel
theorem dX5_applicant_4 : decode cX5_applicant 4 = .ok (.invokevirtual 149, 3) := by decide +kernel
theorem dX5_applicant_7 : decode cX5_applicant 7 = .ok (.istore 4, 2) := by decide +kernel
theorem dX5_applicant_9 : decode cX5_applicant 9 = .ok (.iload 4, 2) := by decide +kernel
theorem dX5_applicant_11 : decode cX5_applicant 11 = .ok (.ifCond .eq 8, 3) := by decide +kernel
theorem dX5_applicant_14 : decode cX5_applicant 14 = .ok (.iload 4, 2) := by decide +kernel
theorem dX5_applicant_16 : decode cX5_applicant 16 = .ok (.goto 18, 3) := by decide +kernel
theorem dX5_applicant_19 : decode cX5_applicant 19 = .ok (.aload_n 0, 1) := by decide +kernel
theorem dX5_applicant_20 : decode cX5_applicant 20 = .ok (.getfield 30, 3) := by decide +kernel
theorem dX5_applicant_23 : decode cX5_applicant 23 = .ok (.bipush 16, 2) := by decide +kernel
theorem dX5_applicant_25 : decode cX5_applicant 25 = .ok (.iload_n 1, 1) := by decide +kernel
theorem dX5_applicant_26 : decode cX5_applicant 26 = .ok (.imul, 1) := by decide +kernel
theorem dX5_applicant_27 : decode cX5_applicant 27 = .ok (.iconst 4, 1) := by decide +kernel
theorem dX5_applicant_28 : decode cX5_applicant 28 = .ok (.iload_n 2, 1) := by decide +kernel
theorem dX5_applicant_29 : decode cX5_applicant 29 = .ok (.imul, 1) := by decide +kernel
theorem dX5_applicant_30 : decode cX5_applicant 30 = .ok (.iadd, 1) := by decide +kernel
theorem dX5_applicant_31 : decode cX5_applicant 31 = .ok (.iload_n 3, 1) := by decide +kernel
theorem dX5_applicant_32 : decode cX5_applicant 32 = .ok (.iadd, 1) := by decide +kernel
theorem dX5_applicant_33 : decode cX5_applicant 33 = .ok (.iaload, 1) := by decide +kernel
theorem dX5_applicant_34 : decode cX5_applicant 34 = .ok (.ireturn, 1) := by decide +kernel
set_option maxRecDepth 20000 in
theorem ggX5_hostApplicant_X5_refusedHost : GoodIn wsX5_hostApplicant wsX5_refusedHost := goodIn_r _ [6, 7, 8, 9, 5, 10, 11, 12, 13, 14, 15, 16, 17, 18, 19, 20, 21, 22, 23, 24, 25, 26, 27, 28, 29, 30, 31, 32, 33, 34, 35, 36, 37, 38, 39, 40] (by decide +kernel) (by decide +kernel)
set_option maxRecDepth 20000 in
theorem gX5_hostApplicant_X5_refusedHost : GoodIn wsX5_hostApplicant (wsV RX5 107 RX5 yX5_refusedHost wsX5_refusedHost) := goodIn_app (goodIn_of _ (by decide +kernel)) ggX5_hostApplicant_X5_refusedHost
theorem dX5_hostApplicant_0 : decode cX5_hostApplicant 0 = .ok (.aload_n 0, 1) := by decide +kernel
theorem dX5_hostApplicant_1 : decode cX5_hostApplicant 1 = .ok (.iload_n 1, 1) := by decide +kernel
theorem dX5_hostApplicant_2 : decode cX5_hostApplicant 2 = .ok (.iload_n 2, 1) := by decide +kernel
theorem dX5_hostApplicant_3 : decode cX5_hostApplicant 3 = .ok (.invokevirtual 107, 3) := by decide +kernel
theorem dX5_hostApplicant_6 : decode cX5_hostApplicant 6 = .ok (.istore_n 3, 1) := by decide +kernel
theorem dX5_hostApplicant_7 : decode cX5_hostApplicant 7 = .ok (.iload_n 3, 1) := by decide +kernel
theorem dX5_hostApplicant_8 : decode cX5_hostApplicant 8 = .ok (.ifCond .eq 7, 3) := by decide +kernel
theorem dX5_hostApplicant_11 : decode cX5_hostApplicant 11 = .ok (.iload_n 3, 1) := by decide +kernel
theorem dX5_hostApplicant_12 : decode cX5_hostApplicant 12 = .ok (.goto 13, 3) := by decide +kernel
theorem dX5_hostApplicant_15 : decode cX5_hostApplicant 15 = .ok (.aload_n 0, 1) := by decide +kernel
theorem dX5_hostApplicant_16 : decode cX5_hostApplicant 16 = .ok (.getfield 42, 3) := by decide +kernel
theorem dX5_hostApplicant_19 : decode cX5_hostApplicant 19 = .ok (.iconst 4, 1) := by decide +kernel
theorem dX5_hostApplicant_20 : decode cX5_hostApplicant 20 = .ok (.iload_n 1, 1) := by decide +kernel
theorem dX5_hostApplicant_21 : decode cX5_hostApplicant 21 = .ok (.imul, 1) := by decide +kernel
theorem dX5_hostApplicant_22 : decode cX5_hostApplicant 22 = .ok (.iload_n 2, 1) := by decide +kernel
theorem dX5_hostApplicant_23 : decode cX5_hostApplicant 23 = .ok (.iadd, 1) := by decide +kernel
theorem dX5_hostApplicant_24 : decode cX5_hostApplicant 24 = .ok (.iaload, 1) := by decide +kernel
theorem dX5_hostApplicant_25 : decode cX5_hostApplicant 25 = .ok (.ireturn, 1) := by decide +kernel
set_option maxRecDepth 20000 in
theorem ggX5_leaveAllTimer_X5_isPort : GoodIn wsX5_leaveAllTimer wsX5_isPort := goodIn_r _ [6, 7, 8, 9, 5, 10, 11, 12, 13, 14, 15, 16, 17, 18, 19, 20, 21, 22, 23, 24, 25, 26, 27, 28, 29, 30, 31, 32, 33] (by decide +kernel) (by decide +kernel)
set_option maxRecDepth 20000 in
theorem gX5_leaveAllTimer_X5_isPort : GoodIn wsX5_leaveAllTimer (wsV RX5 83 RX5 yX5_isPort wsX5_isPort) := goodIn_app (goodIn_of _ (by decide +kernel)) ggX5_leaveAllTimer_X5_isPort
theorem dX5_leaveAllTimer_0 : decode cX5_leaveAllTimer 0 = .ok (.aload_n 0, 1) := by decide +kernel
theorem dX5_leaveAllTimer_1 : decode cX5_leaveAllTimer 1 = .ok (.iload_n 1, 1) := by decide +kernel
theorem dX5_leaveAllTimer_2 : decode cX5_leaveAllTimer 2 = .ok (.iload_n 2, 1) := by decide +kernel
theorem dX5_leaveAllTimer_3 : decode cX5_leaveAllTimer 3 = .ok (.invokevirtual 83, 3) := by decide +kernel
theorem dX5_leaveAllTimer_6 : decode cX5_leaveAllTimer 6 = .ok (.ifCond .eq 16, 3) := by decide +kernel
theorem dX5_leaveAllTimer_9 : decode cX5_leaveAllTimer 9 = .ok (.aload_n 0, 1) := by decide +kernel
theorem dX5_leaveAllTimer_10 : decode cX5_leaveAllTimer 10 = .ok (.getfield 36, 3) := by decide +kernel
theorem dX5_leaveAllTimer_13 : decode cX5_leaveAllTimer 13 = .ok (.iconst 4, 1) := by decide +kernel
theorem dX5_leaveAllTimer_14 : decode cX5_leaveAllTimer 14 = .ok (.iload_n 1, 1) := by decide +kernel
theorem dX5_leaveAllTimer_15 : decode cX5_leaveAllTimer 15 = .ok (.imul, 1) := by decide +kernel
theorem dX5_leaveAllTimer_16 : decode cX5_leaveAllTimer 16 = .ok (.iload_n 2, 1) := by decide +kernel
theorem dX5_leaveAllTimer_17 : decode cX5_leaveAllTimer 17 = .ok (.iadd, 1) := by decide +kernel
theorem dX5_leaveAllTimer_18 : decode cX5_leaveAllTimer 18 = .ok (.iaload, 1) := by decide +kernel
theorem dX5_leaveAllTimer_19 : decode cX5_leaveAllTimer 19 = .ok (.goto 4, 3) := by decide +kernel
theorem dX5_leaveAllTimer_22 : decode cX5_leaveAllTimer 22 = .ok (.iconst (-1), 1) := by decide +kernel
theorem dX5_leaveAllTimer_23 : decode cX5_leaveAllTimer 23 = .ok (.ireturn, 1) := by decide +kernel
theorem dX5_isBusy_0 : decode cX5_isBusy 0 = .ok (.iload_n 0, 1) := by decide +kernel
theorem dX5_isBusy_1 : decode cX5_isBusy 1 = .ok (.iconst 1, 1) := by decide +kernel
theorem dX5_isBusy_2 : decode cX5_isBusy 2 = .ok (.if_icmp .eq 8, 3) := by decide +kernel
theorem dX5_isBusy_5 : decode cX5_isBusy 5 = .ok (.iload_n 0, 1) := by decide +kernel
theorem dX5_isBusy_6 : decode cX5_isBusy 6 = .ok (.iconst 3, 1) := by decide +kernel
theorem dX5_isBusy_7 : decode cX5_isBusy 7 = .ok (.if_icmp .ne 7, 3) := by decide +kernel
theorem dX5_isBusy_10 : decode cX5_isBusy 10 = .ok (.iconst 1, 1) := by decide +kernel
theorem dX5_isBusy_11 : decode cX5_isBusy 11 = .ok (.goto 4, 3) := by decide +kernel
theorem dX5_isBusy_14 : decode cX5_isBusy 14 = .ok (.iconst 0, 1) := by decide +kernel
theorem dX5_isBusy_15 : decode cX5_isBusy 15 = .ok (.ireturn, 1) := by decide +kernel
set_option maxRecDepth 20000 in
theorem ggX5_isPortSettled_X5_isBusy : GoodIn wsX5_isPortSettled wsX5_isBusy := goodIn_r _ [6] (by decide +kernel) (by decide +kernel)
set_option maxRecDepth 20000 in
theorem gX5_isPortSettled_X5_isBusy : GoodIn wsX5_isPortSettled (va_wsS RX5 153 yX5_isBusy wsX5_isBusy) := goodIn_app (goodIn_of _ (by decide +kernel)) ggX5_isPortSettled_X5_isBusy
set_option maxRecDepth 20000 in
theorem ggX5_isPortSettled_X5_isWanted : GoodIn wsX5_isPortSettled wsX5_isWanted := goodIn_r _ [10, 2, 11, 12, 13, 5, 14, 15, 16, 17, 18, 19, 20, 21, 22, 23, 24, 25, 26, 27, 28, 29, 30, 31, 32, 33, 34, 35, 36, 37, 38] (by decide +kernel) (by decide +kernel)
set_option maxRecDepth 20000 in
theorem gX5_isPortSettled_X5_isWanted : GoodIn wsX5_isPortSettled (wsV RX5 114 RX5 yX5_isWanted wsX5_isWanted) := goodIn_app (goodIn_of _ (by decide +kernel)) ggX5_isPortSettled_X5_isWanted
theorem dX5_isPortSettled_0 : decode cX5_isPortSettled 0 = .ok (.iconst 0, 1) := by decide +kernel
theorem dX5_isPortSettled_1 : decode cX5_isPortSettled 1 = .ok (.istore_n 2, 1) := by decide +kernel
theorem dX5_isPortSettled_2 : decode cX5_isPortSettled 2 = .ok (.iload_n 2, 1) := by decide +kernel
theorem dX5_isPortSettled_3 : decode cX5_isPortSettled 3 = .ok (.iconst 4, 1) := by decide +kernel
theorem dX5_isPortSettled_4 : decode cX5_isPortSettled 4 = .ok (.if_icmp .ge 63, 3) := by decide +kernel
theorem dX5_isPortSettled_7 : decode cX5_isPortSettled 7 = .ok (.iconst 4, 1) := by decide +kernel
theorem dX5_isPortSettled_8 : decode cX5_isPortSettled 8 = .ok (.iload_n 1, 1) := by decide +kernel
theorem dX5_isPortSettled_9 : decode cX5_isPortSettled 9 = .ok (.imul, 1) := by decide +kernel
theorem dX5_isPortSettled_10 : decode cX5_isPortSettled 10 = .ok (.iload_n 2, 1) := by decide +kernel
theorem dX5_isPortSettled_11 : decode cX5_isPortSettled 11 = .ok (.iadd, 1) := by decide +kernel
theorem dX5_isPortSettled_12 : decode cX5_isPortSettled 12 = .ok (.istore_n 3, 1) := by decide +kernel
theorem dX5_isPortSettled_13 : decode cX5_isPortSettled 13 = .ok (.aload_n 0, 1) := by decide +kernel
theorem dX5_isPortSettled_14 : decode cX5_isPortSettled 14 = .ok (.getfield 30, 3) := by decide +kernel
theorem dX5_isPortSettled_17 : decode cX5_isPortSettled 17 = .ok (.iload_n 3, 1) := by decide +kernel
theorem dX5_isPortSettled_18 : decode cX5_isPortSettled 18 = .ok (.iaload, 1) := by decide +kernel
theorem dX5_isPortSettled_19 : decode cX5_isPortSettled 19 = .ok (.invokestatic 153, 3) := by decide +kernel
theorem dX5_isPortSettled_22 : decode cX5_isPortSettled 22 = .ok (.ifCond .ne 37, 3) := by decide +kernel
theorem dX5_isPortSettled_25 : decode cX5_isPortSettled 25 = .ok (.aload_n 0, 1) := by decide +kernel
theorem dX5_isPortSettled_26 : decode cX5_isPortSettled 26 = .ok (.getfield 24, 3) := by decide +kernel
theorem dX5_isPortSettled_29 : decode cX5_isPortSettled 29 = .ok (.iload_n 3, 1) := by decide +kernel
theorem dX5_isPortSettled_30 : decode cX5_isPortSettled 30 = .ok (.iaload, 1) := by decide +kernel
theorem dX5_isPortSettled_31 : decode cX5_isPortSettled 31 = .ok (.iconst 2, 1) := by decide +kernel
theorem dX5_isPortSettled_32 : decode cX5_isPortSettled 32 = .ok (.if_icmp .eq 27, 3) := by decide +kernel
theorem dX5_isPortSettled_35 : decode cX5_isPortSettled 35 = .ok (.aload_n 0, 1) := by decide +kernel
theorem dX5_isPortSettled_36 : decode cX5_isPortSettled 36 = .ok (.getfield 30, 3) := by decide +kernel
theorem dX5_isPortSettled_39 : decode cX5_isPortSettled 39 = .ok (.iload_n 3, 1) := by decide +kernel
theorem dX5_isPortSettled_40 : decode cX5_isPortSettled 40 = .ok (.iaload, 1) := by decide +kernel
theorem dX5_isPortSettled_41 : decode cX5_isPortSettled 41 = .ok (.iconst 2, 1) := by decide +kernel
theorem dX5_isPortSettled_42 : decode cX5_isPortSettled 42 = .ok (.if_icmp .ne 7, 3) := by decide +kernel
theorem dX5_isPortSettled_45 : decode cX5_isPortSettled 45 = .ok (.iconst 1, 1) := by decide +kernel
theorem dX5_isPortSettled_46 : decode cX5_isPortSettled 46 = .ok (.goto 4, 3) := by decide +kernel
theorem dX5_isPortSettled_49 : decode cX5_isPortSettled 49 = .ok (.iconst 0, 1) := by decide +kernel
theorem dX5_isPortSettled_50 : decode cX5_isPortSettled 50 = .ok (.aload_n 0, 1) := by decide +kernel
theorem dX5_isPortSettled_51 : decode cX5_isPortSettled 51 = .ok (.iload_n 1, 1) := by decide +kernel
theorem dX5_isPortSettled_52 : decode cX5_isPortSettled 52 = .ok (.iload_n 2, 1) := by decide +kernel
theorem dX5_isPortSettled_53 : decode cX5_isPortSettled 53 = .ok (.invokevirtual 114, 3) := by decide +kernel
theorem dX5_isPortSettled_56 : decode cX5_isPortSettled 56 = .ok (.if_icmp .eq 5, 3) := by decide +kernel
theorem dX5_isPortSettled_59 : decode cX5_isPortSettled 59 = .ok (.iconst 0, 1) := by decide +kernel
theorem dX5_isPortSettled_60 : decode cX5_isPortSettled 60 = .ok (.ireturn, 1) := by decide +kernel
theorem dX5_isPortSettled_61 : decode cX5_isPortSettled 61 = .ok (.iinc 2 1, 3) := by decide +kernel
theorem dX5_isPortSettled_64 : decode cX5_isPortSettled 64 = .ok (.goto (-62), 3) := by decide +kernel
theorem dX5_isPortSettled_67 : decode cX5_isPortSettled 67 = .ok (.iconst 1, 1) := by decide +kernel
theorem dX5_isPortSettled_68 : decode cX5_isPortSettled 68 = .ok (.ireturn, 1) := by decide +kernel
set_option maxRecDepth 20000 in
theorem ggX5_isSettled_X5_isConnected : GoodIn wsX5_isSettled wsX5_isConnected := goodIn_r _ [8, 9, 23, 24, 25, 26, 27, 28, 29, 30, 31, 32, 33, 34, 35, 36, 37, 38, 39, 40, 41, 42, 43, 44, 45] (by decide +kernel) (by decide +kernel)
set_option maxRecDepth 20000 in
theorem gX5_isSettled_X5_isConnected : GoodIn wsX5_isSettled (wsV RX5 87 RX5 yX5_isConnected wsX5_isConnected) := goodIn_app (goodIn_of _ (by decide +kernel)) ggX5_isSettled_X5_isConnected
set_option maxRecDepth 20000 in
theorem ggX5_isSettled_X5_isPortSettled : GoodIn wsX5_isSettled wsX5_isPortSettled := goodIn_r _ [13, 14, 15, 16, 17, 7, 18, 19, 20, 21, 22, 4, 5, 6, 8, 9, 23, 24, 25, 26, 27, 28, 29, 30, 31, 32, 33, 34, 35, 36, 37, 38, 39, 40, 41, 42, 43, 44, 45] (by decide +kernel) (by decide +kernel)
set_option maxRecDepth 20000 in
theorem gX5_isSettled_X5_isPortSettled : GoodIn wsX5_isSettled (wsV RX5 156 RX5 yX5_isPortSettled wsX5_isPortSettled) := goodIn_app (goodIn_of _ (by decide +kernel)) ggX5_isSettled_X5_isPortSettled
set_option maxRecDepth 20000 in
theorem ggX5_isSettled_X5_isBusy : GoodIn wsX5_isSettled wsX5_isBusy := goodIn_r _ [18] (by decide +kernel) (by decide +kernel)
set_option maxRecDepth 20000 in
theorem gX5_isSettled_X5_isBusy : GoodIn wsX5_isSettled (va_wsS RX5 153 yX5_isBusy wsX5_isBusy) := goodIn_app (goodIn_of _ (by decide +kernel)) ggX5_isSettled_X5_isBusy
theorem dX5_isSettled_0 : decode cX5_isSettled 0 = .ok (.iconst 0, 1) := by decide +kernel
theorem dX5_isSettled_1 : decode cX5_isSettled 1 = .ok (.istore_n 1, 1) := by decide +kernel
theorem dX5_isSettled_2 : decode cX5_isSettled 2 = .ok (.iload_n 1, 1) := by decide +kernel
theorem dX5_isSettled_3 : decode cX5_isSettled 3 = .ok (.bipush 20, 2) := by decide +kernel
theorem dX5_isSettled_5 : decode cX5_isSettled 5 = .ok (.if_icmp .ge 27, 3) := by decide +kernel
theorem dX5_isSettled_8 : decode cX5_isSettled 8 = .ok (.aload_n 0, 1) := by decide +kernel
theorem dX5_isSettled_9 : decode cX5_isSettled 9 = .ok (.iload_n 1, 1) := by decide +kernel
theorem dX5_isSettled_10 : decode cX5_isSettled 10 = .ok (.invokevirtual 87, 3) := by decide +kernel
theorem dX5_isSettled_13 : decode cX5_isSettled 13 = .ok (.ifCond .eq 13, 3) := by decide +kernel
theorem dX5_isSettled_16 : decode cX5_isSettled 16 = .ok (.aload_n 0, 1) := by decide +kernel
theorem dX5_isSettled_17 : decode cX5_isSettled 17 = .ok (.iload_n 1, 1) := by decide +kernel
theorem dX5_isSettled_18 : decode cX5_isSettled 18 = .ok (.invokevirtual 156, 3) := by decide +kernel
theorem dX5_isSettled_21 : decode cX5_isSettled 21 = .ok (.ifCond .ne 5, 3) := by decide +kernel
theorem dX5_isSettled_24 : decode cX5_isSettled 24 = .ok (.iconst 0, 1) := by decide +kernel
theorem dX5_isSettled_25 : decode cX5_isSettled 25 = .ok (.ireturn, 1) := by decide +kernel
theorem dX5_isSettled_26 : decode cX5_isSettled 26 = .ok (.iinc 1 1, 3) := by decide +kernel
theorem dX5_isSettled_29 : decode cX5_isSettled 29 = .ok (.goto (-27), 3) := by decide +kernel
theorem dX5_isSettled_32 : decode cX5_isSettled 32 = .ok (.iconst 0, 1) := by decide +kernel
theorem dX5_isSettled_33 : decode cX5_isSettled 33 = .ok (.istore_n 1, 1) := by decide +kernel
theorem dX5_isSettled_34 : decode cX5_isSettled 34 = .ok (.iload_n 1, 1) := by decide +kernel
theorem dX5_isSettled_35 : decode cX5_isSettled 35 = .ok (.iconst 4, 1) := by decide +kernel
theorem dX5_isSettled_36 : decode cX5_isSettled 36 = .ok (.aload_n 0, 1) := by decide +kernel
theorem dX5_isSettled_37 : decode cX5_isSettled 37 = .ok (.getfield 73, 3) := by decide +kernel
theorem dX5_isSettled_40 : decode cX5_isSettled 40 = .ok (.imul, 1) := by decide +kernel
theorem dX5_isSettled_41 : decode cX5_isSettled 41 = .ok (.if_icmp .ge 34, 3) := by decide +kernel
theorem dX5_isSettled_44 : decode cX5_isSettled 44 = .ok (.aload_n 0, 1) := by decide +kernel
theorem dX5_isSettled_45 : decode cX5_isSettled 45 = .ok (.getfield 16, 3) := by decide +kernel
theorem dX5_isSettled_48 : decode cX5_isSettled 48 = .ok (.iload_n 1, 1) := by decide +kernel
theorem dX5_isSettled_49 : decode cX5_isSettled 49 = .ok (.iconst 4, 1) := by decide +kernel
theorem dX5_isSettled_50 : decode cX5_isSettled 50 = .ok (.idiv, 1) := by decide +kernel
theorem dX5_isSettled_51 : decode cX5_isSettled 51 = .ok (.baload, 1) := by decide +kernel
theorem dX5_isSettled_52 : decode cX5_isSettled 52 = .ok (.ifCond .ne 17, 3) := by decide +kernel
theorem dX5_isSettled_55 : decode cX5_isSettled 55 = .ok (.aload_n 0, 1) := by decide +kernel
theorem dX5_isSettled_56 : decode cX5_isSettled 56 = .ok (.getfield 42, 3) := by decide +kernel
theorem dX5_isSettled_59 : decode cX5_isSettled 59 = .ok (.iload_n 1, 1) := by decide +kernel
theorem dX5_isSettled_60 : decode cX5_isSettled 60 = .ok (.iaload, 1) := by decide +kernel
theorem dX5_isSettled_61 : decode cX5_isSettled 61 = .ok (.invokestatic 153, 3) := by decide +kernel
theorem dX5_isSettled_64 : decode cX5_isSettled 64 = .ok (.ifCond .eq 5, 3) := by decide +kernel
theorem dX5_isSettled_67 : decode cX5_isSettled 67 = .ok (.iconst 0, 1) := by decide +kernel
theorem dX5_isSettled_68 : decode cX5_isSettled 68 = .ok (.ireturn, 1) := by decide +kernel
theorem dX5_isSettled_69 : decode cX5_isSettled 69 = .ok (.iinc 1 1, 3) := by decide +kernel
theorem dX5_isSettled_72 : decode cX5_isSettled 72 = .ok (.goto (-38), 3) := by decide +kernel
theorem dX5_isSettled_75 : decode cX5_isSettled 75 = .ok (.iconst 1, 1) := by decide +kernel
theorem dX5_isSettled_76 : decode cX5_isSettled 76 = .ok (.ireturn, 1) := by decide +kernel
set_option maxRecDepth 20000 in
theorem ggX5_reached_X5_isConnected : GoodIn wsX5_reached wsX5_isConnected := goodIn_r _ [9, 4, 17, 18, 19, 20, 21, 22, 23, 24, 25, 26, 27, 28, 29, 30, 31, 32, 33, 34, 35, 36, 37, 38, 39] (by decide +kernel) (by decide +kernel)
set_option maxRecDepth 20000 in
theorem gX5_reached_X5_isConnected : GoodIn wsX5_reached (wsV RX5 87 RX5 yX5_isConnected wsX5_isConnected) := goodIn_app (goodIn_of _ (by decide +kernel)) ggX5_reached_X5_isConnected
set_option maxRecDepth 20000 in
theorem ggX5_reached_X5_isLinked : GoodIn wsX5_reached wsX5_isLinked := goodIn_r _ [13, 4, 14, 15, 8, 16, 17, 18, 19, 20, 21, 22, 23, 24, 25, 26, 27, 28, 29, 30, 31, 32, 33, 34, 35, 36, 37, 38, 39] (by decide +kernel) (by decide +kernel)
set_option maxRecDepth 20000 in
theorem gX5_reached_X5_isLinked : GoodIn wsX5_reached (wsV RX5 76 RX5 yX5_isLinked wsX5_isLinked) := goodIn_app (goodIn_of _ (by decide +kernel)) ggX5_reached_X5_isLinked
theorem dX5_reached_0 : decode cX5_reached 0 = .ok (.iconst 0, 1) := by decide +kernel
theorem dX5_reached_1 : decode cX5_reached 1 = .ok (.istore_n 3, 1) := by decide +kernel
theorem dX5_reached_2 : decode cX5_reached 2 = .ok (.iconst 1, 1) := by decide +kernel
theorem dX5_reached_3 : decode cX5_reached 3 = .ok (.istore 4, 2) := by decide +kernel
theorem dX5_reached_5 : decode cX5_reached 5 = .ok (.aload_n 0, 1) := by decide +kernel
theorem dX5_reached_6 : decode cX5_reached 6 = .ok (.getfield 60, 3) := by decide +kernel
theorem dX5_reached_9 : decode cX5_reached 9 = .ok (.iconst 0, 1) := by decide +kernel
theorem dX5_reached_10 : decode cX5_reached 10 = .ok (.aload_n 0, 1) := by decide +kernel
theorem dX5_reached_11 : decode cX5_reached 11 = .ok (.getfield 13, 3) := by decide +kernel
theorem dX5_reached_14 : decode cX5_reached 14 = .ok (.iload_n 1, 1) := by decide +kernel
theorem dX5_reached_15 : decode cX5_reached 15 = .ok (.iaload, 1) := by decide +kernel
theorem dX5_reached_16 : decode cX5_reached 16 = .ok (.iastore, 1) := by decide +kernel
theorem dX5_reached_17 : decode cX5_reached 17 = .ok (.iconst 0, 1) := by decide +kernel
theorem dX5_reached_18 : decode cX5_reached 18 = .ok (.istore 5, 2) := by decide +kernel
theorem dX5_reached_20 : decode cX5_reached 20 = .ok (.iload 5, 2) := by decide +kernel
theorem dX5_reached_22 : decode cX5_reached 22 = .ok (.iload 4, 2) := by decide +kernel
theorem dX5_reached_24 : decode cX5_reached 24 = .ok (.if_icmp .ge 125, 3) := by decide +kernel
theorem dX5_reached_27 : decode cX5_reached 27 = .ok (.aload_n 0, 1) := by decide +kernel
theorem dX5_reached_28 : decode cX5_reached 28 = .ok (.getfield 60, 3) := by decide +kernel
theorem dX5_reached_31 : decode cX5_reached 31 = .ok (.iload 5, 2) := by decide +kernel
theorem dX5_reached_33 : decode cX5_reached 33 = .ok (.iaload, 1) := by decide +kernel
theorem dX5_reached_34 : decode cX5_reached 34 = .ok (.iconst 4, 1) := by decide +kernel
theorem dX5_reached_35 : decode cX5_reached 35 = .ok (.idiv, 1) := by decide +kernel
theorem dX5_reached_36 : decode cX5_reached 36 = .ok (.istore 6, 2) := by decide +kernel
theorem dX5_reached_38 : decode cX5_reached 38 = .ok (.iconst 4, 1) := by decide +kernel
theorem dX5_reached_39 : decode cX5_reached 39 = .ok (.iload 6, 2) := by decide +kernel
theorem dX5_reached_41 : decode cX5_reached 41 = .ok (.imul, 1) := by decide +kernel
theorem dX5_reached_42 : decode cX5_reached 42 = .ok (.istore 7, 2) := by decide +kernel
theorem dX5_reached_44 : decode cX5_reached 44 = .ok (.iload 7, 2) := by decide +kernel
theorem dX5_reached_46 : decode cX5_reached 46 = .ok (.iconst 4, 1) := by decide +kernel
theorem dX5_reached_47 : decode cX5_reached 47 = .ok (.iload 6, 2) := by decide +kernel
theorem dX5_reached_49 : decode cX5_reached 49 = .ok (.imul, 1) := by decide +kernel
theorem dX5_reached_50 : decode cX5_reached 50 = .ok (.iconst 4, 1) := by decide +kernel
theorem dX5_reached_51 : decode cX5_reached 51 = .ok (.iadd, 1) := by decide +kernel
theorem dX5_reached_52 : decode cX5_reached 52 = .ok (.if_icmp .ge 91, 3) := by decide +kernel
theorem dX5_reached_55 : decode cX5_reached 55 = .ok (.iload 7, 2) := by decide +kernel
theorem dX5_reached_57 : decode cX5_reached 57 = .ok (.aload_n 0, 1) := by decide +kernel
theorem dX5_reached_58 : decode cX5_reached 58 = .ok (.getfield 60, 3) := by decide +kernel
theorem dX5_reached_61 : decode cX5_reached 61 = .ok (.iload 5, 2) := by decide +kernel
theorem dX5_reached_63 : decode cX5_reached 63 = .ok (.iaload, 1) := by decide +kernel
theorem dX5_reached_64 : decode cX5_reached 64 = .ok (.if_icmp .eq 73, 3) := by decide +kernel
theorem dX5_reached_67 : decode cX5_reached 67 = .ok (.aload_n 0, 1) := by decide +kernel
theorem dX5_reached_68 : decode cX5_reached 68 = .ok (.iload 7, 2) := by decide +kernel
theorem dX5_reached_70 : decode cX5_reached 70 = .ok (.invokevirtual 87, 3) := by decide +kernel
theorem dX5_reached_73 : decode cX5_reached 73 = .ok (.ifCond .eq 64, 3) := by decide +kernel
theorem dX5_reached_76 : decode cX5_reached 76 = .ok (.aload_n 0, 1) := by decide +kernel
theorem dX5_reached_77 : decode cX5_reached 77 = .ok (.getfield 24, 3) := by decide +kernel
theorem dX5_reached_80 : decode cX5_reached 80 = .ok (.iconst 4, 1) := by decide +kernel
theorem dX5_reached_81 : decode cX5_reached 81 = .ok (.iload 7, 2) := by decide +kernel
theorem dX5_reached_83 : decode cX5_reached 83 = .ok (.imul, 1) := by decide +kernel
theorem dX5_reached_84 : decode cX5_reached 84 = .ok (.iload_n 2, 1) := by decide +kernel
theorem dX5_reached_85 : decode cX5_reached 85 = .ok (.iadd, 1) := by decide +kernel
theorem dX5_reached_86 : decode cX5_reached 86 = .ok (.iaload, 1) := by decide +kernel
theorem dX5_reached_87 : decode cX5_reached 87 = .ok (.ifCond .ne 6, 3) := by decide +kernel
theorem dX5_reached_90 : decode cX5_reached 90 = .ok (.goto 47, 3) := by decide +kernel
theorem dX5_reached_93 : decode cX5_reached 93 = .ok (.aload_n 0, 1) := by decide +kernel
theorem dX5_reached_94 : decode cX5_reached 94 = .ok (.iload 7, 2) := by decide +kernel
theorem dX5_reached_96 : decode cX5_reached 96 = .ok (.invokevirtual 76, 3) := by decide +kernel
theorem dX5_reached_99 : decode cX5_reached 99 = .ok (.ifCond .eq 23, 3) := by decide +kernel
theorem dX5_reached_102 : decode cX5_reached 102 = .ok (.aload_n 0, 1) := by decide +kernel
theorem dX5_reached_103 : decode cX5_reached 103 = .ok (.getfield 60, 3) := by decide +kernel
theorem dX5_reached_106 : decode cX5_reached 106 = .ok (.iload 4, 2) := by decide +kernel
theorem dX5_reached_108 : decode cX5_reached 108 = .ok (.aload_n 0, 1) := by decide +kernel
theorem dX5_reached_109 : decode cX5_reached 109 = .ok (.getfield 7, 3) := by decide +kernel
theorem dX5_reached_112 : decode cX5_reached 112 = .ok (.iload 7, 2) := by decide +kernel
theorem dX5_reached_114 : decode cX5_reached 114 = .ok (.iaload, 1) := by decide +kernel
theorem dX5_reached_115 : decode cX5_reached 115 = .ok (.iastore, 1) := by decide +kernel
theorem dX5_reached_116 : decode cX5_reached 116 = .ok (.iinc 4 1, 3) := by decide +kernel
theorem dX5_reached_119 : decode cX5_reached 119 = .ok (.goto 18, 3) := by decide +kernel
theorem dX5_reached_122 : decode cX5_reached 122 = .ok (.iload_n 3, 1) := by decide +kernel
theorem dX5_reached_123 : decode cX5_reached 123 = .ok (.iconst 1, 1) := by decide +kernel
theorem dX5_reached_124 : decode cX5_reached 124 = .ok (.aload_n 0, 1) := by decide +kernel
theorem dX5_reached_125 : decode cX5_reached 125 = .ok (.getfield 7, 3) := by decide +kernel
theorem dX5_reached_128 : decode cX5_reached 128 = .ok (.iload 7, 2) := by decide +kernel
theorem dX5_reached_130 : decode cX5_reached 130 = .ok (.iaload, 1) := by decide +kernel
theorem dX5_reached_131 : decode cX5_reached 131 = .ok (.bipush 100, 2) := by decide +kernel
theorem dX5_reached_133 : decode cX5_reached 133 = .ok (.isub, 1) := by decide +kernel
theorem dX5_reached_134 : decode cX5_reached 134 = .ok (.ishl, 1) := by decide +kernel
theorem dX5_reached_135 : decode cX5_reached 135 = .ok (.ior, 1) := by decide +kernel
theorem dX5_reached_136 : decode cX5_reached 136 = .ok (.istore_n 3, 1) := by decide +kernel
theorem dX5_reached_137 : decode cX5_reached 137 = .ok (.iinc 7 1, 3) := by decide +kernel
theorem dX5_reached_140 : decode cX5_reached 140 = .ok (.goto (-96), 3) := by decide +kernel
theorem dX5_reached_143 : decode cX5_reached 143 = .ok (.iinc 5 1, 3) := by decide +kernel
theorem dX5_reached_146 : decode cX5_reached 146 = .ok (.goto (-126), 3) := by decide +kernel
theorem dX5_reached_149 : decode cX5_reached 149 = .ok (.iload_n 3, 1) := by decide +kernel
theorem dX5_reached_150 : decode cX5_reached 150 = .ok (.ireturn, 1) := by decide +kernel
set_option maxRecDepth 20000 in
theorem ggX5_receivers_X5_refusedHost : GoodIn wsX5_receivers wsX5_refusedHost := goodIn_r _ [5, 6, 7, 8, 4, 9, 10, 11, 12, 13, 14, 15, 16, 33, 34, 35, 36, 37, 38, 39, 40, 41, 42, 43, 44, 45, 46, 47, 48, 49, 50, 51, 52, 53, 54, 55] (by decide +kernel) (by decide +kernel)
set_option maxRecDepth 20000 in
theorem gX5_receivers_X5_refusedHost : GoodIn wsX5_receivers (wsV RX5 107 RX5 yX5_refusedHost wsX5_refusedHost) := goodIn_app (goodIn_of _ (by decide +kernel)) ggX5_receivers_X5_refusedHost
set_option maxRecDepth 20000 in
theorem ggX5_receivers_X5_reached : GoodIn wsX5_receivers wsX5_reached := goodIn_r _ [20, 21, 22, 23, 24, 25, 26, 27, 4, 28, 29, 30, 31, 32, 11, 12, 13, 33, 34, 35, 36, 37, 38, 39, 40, 41, 42, 43, 44, 45, 46, 47, 48, 49, 50, 51, 52, 53, 54, 55] (by decide +kernel) (by decide +kernel)
set_option maxRecDepth 20000 in
theorem gX5_receivers_X5_reached : GoodIn wsX5_receivers (wsV RX5 159 RX5 yX5_reached wsX5_reached) := goodIn_app (goodIn_of _ (by decide +kernel)) ggX5_receivers_X5_reached
theorem dX5_receivers_0 : decode cX5_receivers 0 = .ok (.aload_n 0, 1) := by decide +kernel
theorem dX5_receivers_1 : decode cX5_receivers 1 = .ok (.iload_n 1, 1) := by decide +kernel
theorem dX5_receivers_2 : decode cX5_receivers 2 = .ok (.iload_n 2, 1) := by decide +kernel
theorem dX5_receivers_3 : decode cX5_receivers 3 = .ok (.invokevirtual 107, 3) := by decide +kernel
theorem dX5_receivers_6 : decode cX5_receivers 6 = .ok (.istore_n 3, 1) := by decide +kernel
theorem dX5_receivers_7 : decode cX5_receivers 7 = .ok (.iload_n 3, 1) := by decide +kernel
theorem dX5_receivers_8 : decode cX5_receivers 8 = .ok (.ifCond .eq 7, 3) := by decide +kernel
theorem dX5_receivers_11 : decode cX5_receivers 11 = .ok (.iload_n 3, 1) := by decide +kernel
theorem dX5_receivers_12 : decode cX5_receivers 12 = .ok (.goto 9, 3) := by decide +kernel
theorem dX5_receivers_15 : decode cX5_receivers 15 = .ok (.aload_n 0, 1) := by decide +kernel
theorem dX5_receivers_16 : decode cX5_receivers 16 = .ok (.iload_n 1, 1) := by decide +kernel
theorem dX5_receivers_17 : decode cX5_receivers 17 = .ok (.iload_n 2, 1) := by decide +kernel
theorem dX5_receivers_18 : decode cX5_receivers 18 = .ok (.invokevirtual 159, 3) := by decide +kernel
theorem dX5_receivers_21 : decode cX5_receivers 21 = .ok (.ireturn, 1) := by decide +kernel
set_option maxRecDepth 20000 in
theorem ggX5_missedCount_X5_refusedHost : GoodIn wsX5_missedCount wsX5_refusedHost := goodIn_r _ [8, 9, 10, 11, 7, 12, 2, 13, 14, 15, 16, 17, 18, 41, 42, 43, 44, 45, 46, 47, 48, 49, 50, 51, 52, 53, 54, 55, 56, 57, 58, 59, 60, 61, 62, 63] (by decide +kernel) (by decide +kernel)
set_option maxRecDepth 20000 in
theorem gX5_missedCount_X5_refusedHost : GoodIn wsX5_missedCount (wsV RX5 107 RX5 yX5_refusedHost wsX5_refusedHost) := goodIn_app (goodIn_of _ (by decide +kernel)) ggX5_missedCount_X5_refusedHost
set_option maxRecDepth 20000 in
theorem ggX5_missedCount_X5_reached : GoodIn wsX5_missedCount wsX5_reached := goodIn_r _ [22, 23, 1, 24, 25, 26, 27, 28, 7, 29, 30, 31, 32, 33, 13, 14, 15, 41, 42, 43, 44, 45, 46, 47, 48, 49, 50, 51, 52, 53, 54, 55, 56, 57, 58, 59, 60, 61, 62, 63] (by decide +kernel) (by decide +kernel)
set_option maxRecDepth 20000 in
theorem gX5_missedCount_X5_reached : GoodIn wsX5_missedCount (wsV RX5 159 RX5 yX5_reached wsX5_reached) := goodIn_app (goodIn_of _ (by decide +kernel)) ggX5_missedCount_X5_reached
set_option maxRecDepth 20000 in
theorem ggX5_missedCount_X5_partOf : GoodIn wsX5_missedCount wsX5_partOf := goodIn_r _ [37, 25, 30, 31, 32, 7, 33, 13, 14, 15, 41, 42, 43, 44, 45, 46, 47, 48, 49, 50, 51, 52, 53, 54, 55, 56, 57, 58, 59, 60, 61, 62, 63] (by decide +kernel) (by decide +kernel)
set_option maxRecDepth 20000 in
theorem gX5_missedCount_X5_partOf : GoodIn wsX5_missedCount (wsV RX5 90 RX5 yX5_partOf wsX5_partOf) := goodIn_app (goodIn_of _ (by decide +kernel)) ggX5_missedCount_X5_partOf
set_option maxRecDepth 20000 in
theorem ggX5_missedCount_X5_declares : GoodIn wsX5_missedCount wsX5_declares := goodIn_r _ [40] (by decide +kernel) (by decide +kernel)
set_option maxRecDepth 20000 in
theorem gX5_missedCount_X5_declares : GoodIn wsX5_missedCount (va_wsS RX5 111 yX5_declares wsX5_declares) := goodIn_app (goodIn_of _ (by decide +kernel)) ggX5_missedCount_X5_declares
theorem dX5_missedCount_0 : decode cX5_missedCount 0 = .ok (.aload_n 0, 1) := by decide +kernel
theorem dX5_missedCount_1 : decode cX5_missedCount 1 = .ok (.iload_n 1, 1) := by decide +kernel
theorem dX5_missedCount_2 : decode cX5_missedCount 2 = .ok (.iload_n 2, 1) := by decide +kernel
theorem dX5_missedCount_3 : decode cX5_missedCount 3 = .ok (.invokevirtual 107, 3) := by decide +kernel
theorem dX5_missedCount_6 : decode cX5_missedCount 6 = .ok (.istore_n 3, 1) := by decide +kernel
theorem dX5_missedCount_7 : decode cX5_missedCount 7 = .ok (.iload_n 3, 1) := by decide +kernel
theorem dX5_missedCount_8 : decode cX5_missedCount 8 = .ok (.ifCond .eq 5, 3) := by decide +kernel
theorem dX5_missedCount_11 : decode cX5_missedCount 11 = .ok (.iload_n 3, 1) := by decide +kernel
theorem dX5_missedCount_12 : decode cX5_missedCount 12 = .ok (.ireturn, 1) := by decide +kernel
theorem dX5_missedCount_13 : decode cX5_missedCount 13 = .ok (.aload_n 0, 1) := by decide +kernel
theorem dX5_missedCount_14 : decode cX5_missedCount 14 = .ok (.iload_n 1, 1) := by decide +kernel
theorem dX5_missedCount_15 : decode cX5_missedCount 15 = .ok (.iload_n 2, 1) := by decide +kernel
theorem dX5_missedCount_16 : decode cX5_missedCount 16 = .ok (.invokevirtual 159, 3) := by decide +kernel
theorem dX5_missedCount_19 : decode cX5_missedCount 19 = .ok (.istore 4, 2) := by decide +kernel
theorem dX5_missedCount_21 : decode cX5_missedCount 21 = .ok (.aload_n 0, 1) := by decide +kernel
theorem dX5_missedCount_22 : decode cX5_missedCount 22 = .ok (.aload_n 0, 1) := by decide +kernel
theorem dX5_missedCount_23 : decode cX5_missedCount 23 = .ok (.getfield 13, 3) := by decide +kernel
theorem dX5_missedCount_26 : decode cX5_missedCount 26 = .ok (.iload_n 1, 1) := by decide +kernel
theorem dX5_missedCount_27 : decode cX5_missedCount 27 = .ok (.iaload, 1) := by decide +kernel
theorem dX5_missedCount_28 : decode cX5_missedCount 28 = .ok (.iconst 4, 1) := by decide +kernel
theorem dX5_missedCount_29 : decode cX5_missedCount 29 = .ok (.idiv, 1) := by decide +kernel
theorem dX5_missedCount_30 : decode cX5_missedCount 30 = .ok (.invokevirtual 90, 3) := by decide +kernel
theorem dX5_missedCount_33 : decode cX5_missedCount 33 = .ok (.istore 5, 2) := by decide +kernel
theorem dX5_missedCount_35 : decode cX5_missedCount 35 = .ok (.iconst 0, 1) := by decide +kernel
theorem dX5_missedCount_36 : decode cX5_missedCount 36 = .ok (.istore 6, 2) := by decide +kernel
theorem dX5_missedCount_38 : decode cX5_missedCount 38 = .ok (.iconst 0, 1) := by decide +kernel
theorem dX5_missedCount_39 : decode cX5_missedCount 39 = .ok (.istore 7, 2) := by decide +kernel
theorem dX5_missedCount_41 : decode cX5_missedCount 41 = .ok (.iload 7, 2) := by decide +kernel
theorem dX5_missedCount_43 : decode cX5_missedCount 43 = .ok (.aload_n 0, 1) := by decide +kernel
theorem dX5_missedCount_44 : decode cX5_missedCount 44 = .ok (.getfield 73, 3) := by decide +kernel
theorem dX5_missedCount_47 : decode cX5_missedCount 47 = .ok (.if_icmp .ge 82, 3) := by decide +kernel
theorem dX5_missedCount_50 : decode cX5_missedCount 50 = .ok (.iload 7, 2) := by decide +kernel
theorem dX5_missedCount_52 : decode cX5_missedCount 52 = .ok (.iload_n 1, 1) := by decide +kernel
theorem dX5_missedCount_53 : decode cX5_missedCount 53 = .ok (.if_icmp .eq 42, 3) := by decide +kernel
theorem dX5_missedCount_56 : decode cX5_missedCount 56 = .ok (.iload 5, 2) := by decide +kernel
theorem dX5_missedCount_58 : decode cX5_missedCount 58 = .ok (.aload_n 0, 1) := by decide +kernel
theorem dX5_missedCount_59 : decode cX5_missedCount 59 = .ok (.getfield 13, 3) := by decide +kernel
theorem dX5_missedCount_62 : decode cX5_missedCount 62 = .ok (.iload 7, 2) := by decide +kernel
theorem dX5_missedCount_64 : decode cX5_missedCount 64 = .ok (.iaload, 1) := by decide +kernel
theorem dX5_missedCount_65 : decode cX5_missedCount 65 = .ok (.iconst 4, 1) := by decide +kernel
theorem dX5_missedCount_66 : decode cX5_missedCount 66 = .ok (.idiv, 1) := by decide +kernel
theorem dX5_missedCount_67 : decode cX5_missedCount 67 = .ok (.ishr, 1) := by decide +kernel
theorem dX5_missedCount_68 : decode cX5_missedCount 68 = .ok (.iconst 1, 1) := by decide +kernel
theorem dX5_missedCount_69 : decode cX5_missedCount 69 = .ok (.iand, 1) := by decide +kernel
theorem dX5_missedCount_70 : decode cX5_missedCount 70 = .ok (.iconst 1, 1) := by decide +kernel
theorem dX5_missedCount_71 : decode cX5_missedCount 71 = .ok (.if_icmp .ne 24, 3) := by decide +kernel
theorem dX5_missedCount_74 : decode cX5_missedCount 74 = .ok (.aload_n 0, 1) := by decide +kernel
theorem dX5_missedCount_75 : decode cX5_missedCount 75 = .ok (.getfield 42, 3) := by decide +kernel
theorem dX5_missedCount_78 : decode cX5_missedCount 78 = .ok (.iconst 4, 1) := by decide +kernel
theorem dX5_missedCount_79 : decode cX5_missedCount 79 = .ok (.iload 7, 2) := by decide +kernel
theorem dX5_missedCount_81 : decode cX5_missedCount 81 = .ok (.imul, 1) := by decide +kernel
theorem dX5_missedCount_82 : decode cX5_missedCount 82 = .ok (.iload_n 2, 1) := by decide +kernel
theorem dX5_missedCount_83 : decode cX5_missedCount 83 = .ok (.iadd, 1) := by decide +kernel
theorem dX5_missedCount_84 : decode cX5_missedCount 84 = .ok (.iaload, 1) := by decide +kernel
theorem dX5_missedCount_85 : decode cX5_missedCount 85 = .ok (.invokestatic 111, 3) := by decide +kernel
theorem dX5_missedCount_88 : decode cX5_missedCount 88 = .ok (.ifCond .eq 7, 3) := by decide +kernel
theorem dX5_missedCount_91 : decode cX5_missedCount 91 = .ok (.iconst 1, 1) := by decide +kernel
theorem dX5_missedCount_92 : decode cX5_missedCount 92 = .ok (.goto 4, 3) := by decide +kernel
theorem dX5_missedCount_95 : decode cX5_missedCount 95 = .ok (.iconst 0, 1) := by decide +kernel
theorem dX5_missedCount_96 : decode cX5_missedCount 96 = .ok (.istore 8, 2) := by decide +kernel
theorem dX5_missedCount_98 : decode cX5_missedCount 98 = .ok (.iload 6, 2) := by decide +kernel
theorem dX5_missedCount_100 : decode cX5_missedCount 100 = .ok (.iload 8, 2) := by decide +kernel
theorem dX5_missedCount_102 : decode cX5_missedCount 102 = .ok (.ifCond .eq 17, 3) := by decide +kernel
theorem dX5_missedCount_105 : decode cX5_missedCount 105 = .ok (.iload 4, 2) := by decide +kernel
theorem dX5_missedCount_107 : decode cX5_missedCount 107 = .ok (.iload 7, 2) := by decide +kernel
theorem dX5_missedCount_109 : decode cX5_missedCount 109 = .ok (.ishr, 1) := by decide +kernel
theorem dX5_missedCount_110 : decode cX5_missedCount 110 = .ok (.iconst 1, 1) := by decide +kernel
theorem dX5_missedCount_111 : decode cX5_missedCount 111 = .ok (.iand, 1) := by decide +kernel
theorem dX5_missedCount_112 : decode cX5_missedCount 112 = .ok (.ifCond .ne 7, 3) := by decide +kernel
theorem dX5_missedCount_115 : decode cX5_missedCount 115 = .ok (.iconst 1, 1) := by decide +kernel
theorem dX5_missedCount_116 : decode cX5_missedCount 116 = .ok (.goto 4, 3) := by decide +kernel
theorem dX5_missedCount_119 : decode cX5_missedCount 119 = .ok (.iconst 0, 1) := by decide +kernel
theorem dX5_missedCount_120 : decode cX5_missedCount 120 = .ok (.iadd, 1) := by decide +kernel
theorem dX5_missedCount_121 : decode cX5_missedCount 121 = .ok (.istore 6, 2) := by decide +kernel
theorem dX5_missedCount_123 : decode cX5_missedCount 123 = .ok (.iinc 7 1, 3) := by decide +kernel
theorem dX5_missedCount_126 : decode cX5_missedCount 126 = .ok (.goto (-85), 3) := by decide +kernel
theorem dX5_missedCount_129 : decode cX5_missedCount 129 = .ok (.iload 6, 2) := by decide +kernel
theorem dX5_missedCount_131 : decode cX5_missedCount 131 = .ok (.ireturn, 1) := by decide +kernel
set_option maxRecDepth 20000 in
theorem ggX5_needlessCount_X5_refusedHost : GoodIn wsX5_needlessCount wsX5_refusedHost := goodIn_r _ [7, 8, 9, 10, 6, 11, 1, 12, 13, 14, 15, 16, 17, 37, 38, 39, 40, 41, 42, 43, 44, 45, 46, 47, 48, 49, 50, 51, 52, 53, 54, 55, 56, 57, 58, 59] (by decide +kernel) (by decide +kernel)
set_option maxRecDepth 20000 in
theorem gX5_needlessCount_X5_refusedHost : GoodIn wsX5_needlessCount (wsV RX5 107 RX5 yX5_refusedHost wsX5_refusedHost) := goodIn_app (goodIn_of _ (by decide +kernel)) ggX5_needlessCount_X5_refusedHost
set_option maxRecDepth 20000 in
theorem ggX5_needlessCount_X5_reached : GoodIn wsX5_needlessCount wsX5_reached := goodIn_r _ [21, 22, 23, 24, 25, 26, 27, 28, 6, 29, 30, 31, 32, 33, 12, 13, 14, 37, 38, 39, 40, 41, 42, 43, 44, 45, 46, 47, 48, 49, 50, 51, 52, 53, 54, 55, 56, 57, 58, 59] (by decide +kernel) (by decide +kernel)
set_option maxRecDepth 20000 in
theorem gX5_needlessCount_X5_reached : GoodIn wsX5_needlessCount (wsV RX5 159 RX5 yX5_reached wsX5_reached) := goodIn_app (goodIn_of _ (by decide +kernel)) ggX5_needlessCount_X5_reached
set_option maxRecDepth 20000 in
theorem ggX5_needlessCount_X5_declares : GoodIn wsX5_needlessCount wsX5_declares := goodIn_r _ [36] (by decide +kernel) (by decide +kernel)
set_option maxRecDepth 20000 in
theorem gX5_needlessCount_X5_declares : GoodIn wsX5_needlessCount (va_wsS RX5 111 yX5_declares wsX5_declares) := goodIn_app (goodIn_of _ (by decide +kernel)) ggX5_needlessCount_X5_declares
theorem dX5_needlessCount_0 : decode cX5_needlessCount 0 = .ok (.aload_n 0, 1) := by decide +kernel
theorem dX5_needlessCount_1 : decode cX5_needlessCount 1 = .ok (.iload_n 1, 1) := by decide +kernel
theorem dX5_needlessCount_2 : decode cX5_needlessCount 2 = .ok (.iload_n 2, 1) := by decide +kernel
theorem dX5_needlessCount_3 : decode cX5_needlessCount 3 = .ok (.invokevirtual 107, 3) := by decide +kernel
theorem dX5_needlessCount_6 : decode cX5_needlessCount 6 = .ok (.istore_n 3, 1) := by decide +kernel
theorem dX5_needlessCount_7 : decode cX5_needlessCount 7 = .ok (.iload_n 3, 1) := by decide +kernel
theorem dX5_needlessCount_8 : decode cX5_needlessCount 8 = .ok (.ifCond .eq 5, 3) := by decide +kernel
theorem dX5_needlessCount_11 : decode cX5_needlessCount 11 = .ok (.iload_n 3, 1) := by decide +kernel
theorem dX5_needlessCount_12 : decode cX5_needlessCount 12 = .ok (.ireturn, 1) := by decide +kernel
theorem dX5_needlessCount_13 : decode cX5_needlessCount 13 = .ok (.aload_n 0, 1) := by decide +kernel
theorem dX5_needlessCount_14 : decode cX5_needlessCount 14 = .ok (.iload_n 1, 1) := by decide +kernel
theorem dX5_needlessCount_15 : decode cX5_needlessCount 15 = .ok (.iload_n 2, 1) := by decide +kernel
theorem dX5_needlessCount_16 : decode cX5_needlessCount 16 = .ok (.invokevirtual 159, 3) := by decide +kernel
theorem dX5_needlessCount_19 : decode cX5_needlessCount 19 = .ok (.istore 4, 2) := by decide +kernel
theorem dX5_needlessCount_21 : decode cX5_needlessCount 21 = .ok (.iconst 0, 1) := by decide +kernel
theorem dX5_needlessCount_22 : decode cX5_needlessCount 22 = .ok (.istore 5, 2) := by decide +kernel
theorem dX5_needlessCount_24 : decode cX5_needlessCount 24 = .ok (.iconst 0, 1) := by decide +kernel
theorem dX5_needlessCount_25 : decode cX5_needlessCount 25 = .ok (.istore 6, 2) := by decide +kernel
theorem dX5_needlessCount_27 : decode cX5_needlessCount 27 = .ok (.iload 6, 2) := by decide +kernel
theorem dX5_needlessCount_29 : decode cX5_needlessCount 29 = .ok (.aload_n 0, 1) := by decide +kernel
theorem dX5_needlessCount_30 : decode cX5_needlessCount 30 = .ok (.getfield 73, 3) := by decide +kernel
theorem dX5_needlessCount_33 : decode cX5_needlessCount 33 = .ok (.if_icmp .ge 47, 3) := by decide +kernel
theorem dX5_needlessCount_36 : decode cX5_needlessCount 36 = .ok (.iload 5, 2) := by decide +kernel
theorem dX5_needlessCount_38 : decode cX5_needlessCount 38 = .ok (.iload 4, 2) := by decide +kernel
theorem dX5_needlessCount_40 : decode cX5_needlessCount 40 = .ok (.iload 6, 2) := by decide +kernel
theorem dX5_needlessCount_42 : decode cX5_needlessCount 42 = .ok (.ishr, 1) := by decide +kernel
theorem dX5_needlessCount_43 : decode cX5_needlessCount 43 = .ok (.iconst 1, 1) := by decide +kernel
theorem dX5_needlessCount_44 : decode cX5_needlessCount 44 = .ok (.iand, 1) := by decide +kernel
theorem dX5_needlessCount_45 : decode cX5_needlessCount 45 = .ok (.iconst 1, 1) := by decide +kernel
theorem dX5_needlessCount_46 : decode cX5_needlessCount 46 = .ok (.if_icmp .ne 24, 3) := by decide +kernel
theorem dX5_needlessCount_49 : decode cX5_needlessCount 49 = .ok (.aload_n 0, 1) := by decide +kernel
theorem dX5_needlessCount_50 : decode cX5_needlessCount 50 = .ok (.getfield 42, 3) := by decide +kernel
theorem dX5_needlessCount_53 : decode cX5_needlessCount 53 = .ok (.iconst 4, 1) := by decide +kernel
theorem dX5_needlessCount_54 : decode cX5_needlessCount 54 = .ok (.iload 6, 2) := by decide +kernel
theorem dX5_needlessCount_56 : decode cX5_needlessCount 56 = .ok (.imul, 1) := by decide +kernel
theorem dX5_needlessCount_57 : decode cX5_needlessCount 57 = .ok (.iload_n 2, 1) := by decide +kernel
theorem dX5_needlessCount_58 : decode cX5_needlessCount 58 = .ok (.iadd, 1) := by decide +kernel
theorem dX5_needlessCount_59 : decode cX5_needlessCount 59 = .ok (.iaload, 1) := by decide +kernel
theorem dX5_needlessCount_60 : decode cX5_needlessCount 60 = .ok (.invokestatic 111, 3) := by decide +kernel
theorem dX5_needlessCount_63 : decode cX5_needlessCount 63 = .ok (.ifCond .ne 7, 3) := by decide +kernel
theorem dX5_needlessCount_66 : decode cX5_needlessCount 66 = .ok (.iconst 1, 1) := by decide +kernel
theorem dX5_needlessCount_67 : decode cX5_needlessCount 67 = .ok (.goto 4, 3) := by decide +kernel
theorem dX5_needlessCount_70 : decode cX5_needlessCount 70 = .ok (.iconst 0, 1) := by decide +kernel
theorem dX5_needlessCount_71 : decode cX5_needlessCount 71 = .ok (.iadd, 1) := by decide +kernel
theorem dX5_needlessCount_72 : decode cX5_needlessCount 72 = .ok (.istore 5, 2) := by decide +kernel
theorem dX5_needlessCount_74 : decode cX5_needlessCount 74 = .ok (.iinc 6 1, 3) := by decide +kernel
theorem dX5_needlessCount_77 : decode cX5_needlessCount 77 = .ok (.goto (-50), 3) := by decide +kernel
theorem dX5_needlessCount_80 : decode cX5_needlessCount 80 = .ok (.iload 5, 2) := by decide +kernel
theorem dX5_needlessCount_82 : decode cX5_needlessCount 82 = .ok (.ireturn, 1) := by decide +kernel
set_option maxRecDepth 20000 in
theorem ggX5_distance_X5_isHost : GoodIn wsX5_distance wsX5_isHost := goodIn_r _ [8, 9, 10, 11, 7, 12, 17, 18, 19, 20, 21, 22, 23, 24, 25, 26, 27, 28, 29, 30, 31, 32, 33, 34, 35, 36, 37, 38, 39] (by decide +kernel) (by decide +kernel)
set_option maxRecDepth 20000 in
theorem gX5_distance_X5_isHost : GoodIn wsX5_distance (wsV RX5 101 RX5 yX5_isHost wsX5_isHost) := goodIn_app (goodIn_of _ (by decide +kernel)) ggX5_distance_X5_isHost
set_option maxRecDepth 20000 in
theorem ggX5_distance_X5_isLinked : GoodIn wsX5_distance wsX5_isLinked := goodIn_r _ [16, 3, 10, 11, 7, 12, 17, 18, 19, 20, 21, 22, 23, 24, 25, 26, 27, 28, 29, 30, 31, 32, 33, 34, 35, 36, 37, 38, 39] (by decide +kernel) (by decide +kernel)
set_option maxRecDepth 20000 in
theorem gX5_distance_X5_isLinked : GoodIn wsX5_distance (wsV RX5 76 RX5 yX5_isLinked wsX5_isLinked) := goodIn_app (goodIn_of _ (by decide +kernel)) ggX5_distance_X5_isLinked
theorem dX5_distance_0 : decode cX5_distance 0 = .ok (.aload_n 0, 1) := by decide +kernel
theorem dX5_distance_1 : decode cX5_distance 1 = .ok (.iload_n 1, 1) := by decide +kernel
theorem dX5_distance_2 : decode cX5_distance 2 = .ok (.invokevirtual 101, 3) := by decide +kernel
theorem dX5_distance_5 : decode cX5_distance 5 = .ok (.ifCond .eq 11, 3) := by decide +kernel
theorem dX5_distance_8 : decode cX5_distance 8 = .ok (.aload_n 0, 1) := by decide +kernel
theorem dX5_distance_9 : decode cX5_distance 9 = .ok (.iload_n 2, 1) := by decide +kernel
theorem dX5_distance_10 : decode cX5_distance 10 = .ok (.invokevirtual 101, 3) := by decide +kernel
theorem dX5_distance_13 : decode cX5_distance 13 = .ok (.ifCond .ne 6, 3) := by decide +kernel
theorem dX5_distance_16 : decode cX5_distance 16 = .ok (.bipush (-2), 2) := by decide +kernel
theorem dX5_distance_18 : decode cX5_distance 18 = .ok (.ireturn, 1) := by decide +kernel
theorem dX5_distance_19 : decode cX5_distance 19 = .ok (.iconst 0, 1) := by decide +kernel
theorem dX5_distance_20 : decode cX5_distance 20 = .ok (.istore_n 3, 1) := by decide +kernel
theorem dX5_distance_21 : decode cX5_distance 21 = .ok (.iload_n 3, 1) := by decide +kernel
theorem dX5_distance_22 : decode cX5_distance 22 = .ok (.iconst 5, 1) := by decide +kernel
theorem dX5_distance_23 : decode cX5_distance 23 = .ok (.if_icmp .ge 16, 3) := by decide +kernel
theorem dX5_distance_26 : decode cX5_distance 26 = .ok (.aload_n 0, 1) := by decide +kernel
theorem dX5_distance_27 : decode cX5_distance 27 = .ok (.getfield 63, 3) := by decide +kernel
theorem dX5_distance_30 : decode cX5_distance 30 = .ok (.iload_n 3, 1) := by decide +kernel
theorem dX5_distance_31 : decode cX5_distance 31 = .ok (.iconst 0, 1) := by decide +kernel
theorem dX5_distance_32 : decode cX5_distance 32 = .ok (.iastore, 1) := by decide +kernel
theorem dX5_distance_33 : decode cX5_distance 33 = .ok (.iinc 3 1, 3) := by decide +kernel
theorem dX5_distance_36 : decode cX5_distance 36 = .ok (.goto (-15), 3) := by decide +kernel
theorem dX5_distance_39 : decode cX5_distance 39 = .ok (.aload_n 0, 1) := by decide +kernel
theorem dX5_distance_40 : decode cX5_distance 40 = .ok (.getfield 63, 3) := by decide +kernel
theorem dX5_distance_43 : decode cX5_distance 43 = .ok (.aload_n 0, 1) := by decide +kernel
theorem dX5_distance_44 : decode cX5_distance 44 = .ok (.getfield 13, 3) := by decide +kernel
theorem dX5_distance_47 : decode cX5_distance 47 = .ok (.iload_n 1, 1) := by decide +kernel
theorem dX5_distance_48 : decode cX5_distance 48 = .ok (.iaload, 1) := by decide +kernel
theorem dX5_distance_49 : decode cX5_distance 49 = .ok (.iconst 4, 1) := by decide +kernel
theorem dX5_distance_50 : decode cX5_distance 50 = .ok (.idiv, 1) := by decide +kernel
theorem dX5_distance_51 : decode cX5_distance 51 = .ok (.iconst 1, 1) := by decide +kernel
theorem dX5_distance_52 : decode cX5_distance 52 = .ok (.iastore, 1) := by decide +kernel
theorem dX5_distance_53 : decode cX5_distance 53 = .ok (.iconst 0, 1) := by decide +kernel
theorem dX5_distance_54 : decode cX5_distance 54 = .ok (.istore_n 3, 1) := by decide +kernel
theorem dX5_distance_55 : decode cX5_distance 55 = .ok (.iload_n 3, 1) := by decide +kernel
theorem dX5_distance_56 : decode cX5_distance 56 = .ok (.iconst 5, 1) := by decide +kernel
theorem dX5_distance_57 : decode cX5_distance 57 = .ok (.if_icmp .ge 88, 3) := by decide +kernel
theorem dX5_distance_60 : decode cX5_distance 60 = .ok (.iconst 0, 1) := by decide +kernel
theorem dX5_distance_61 : decode cX5_distance 61 = .ok (.istore 4, 2) := by decide +kernel
theorem dX5_distance_63 : decode cX5_distance 63 = .ok (.iload 4, 2) := by decide +kernel
theorem dX5_distance_65 : decode cX5_distance 65 = .ok (.bipush 20, 2) := by decide +kernel
theorem dX5_distance_67 : decode cX5_distance 67 = .ok (.if_icmp .ge 72, 3) := by decide +kernel
theorem dX5_distance_70 : decode cX5_distance 70 = .ok (.aload_n 0, 1) := by decide +kernel
theorem dX5_distance_71 : decode cX5_distance 71 = .ok (.iload 4, 2) := by decide +kernel
theorem dX5_distance_73 : decode cX5_distance 73 = .ok (.invokevirtual 76, 3) := by decide +kernel
theorem dX5_distance_76 : decode cX5_distance 76 = .ok (.ifCond .eq 57, 3) := by decide +kernel
theorem dX5_distance_79 : decode cX5_distance 79 = .ok (.aload_n 0, 1) := by decide +kernel
theorem dX5_distance_80 : decode cX5_distance 80 = .ok (.getfield 63, 3) := by decide +kernel
theorem dX5_distance_83 : decode cX5_distance 83 = .ok (.iload 4, 2) := by decide +kernel
theorem dX5_distance_85 : decode cX5_distance 85 = .ok (.iconst 4, 1) := by decide +kernel
theorem dX5_distance_86 : decode cX5_distance 86 = .ok (.idiv, 1) := by decide +kernel
theorem dX5_distance_87 : decode cX5_distance 87 = .ok (.iaload, 1) := by decide +kernel
theorem dX5_distance_88 : decode cX5_distance 88 = .ok (.ifCond .le 45, 3) := by decide +kernel
theorem dX5_distance_91 : decode cX5_distance 91 = .ok (.aload_n 0, 1) := by decide +kernel
theorem dX5_distance_92 : decode cX5_distance 92 = .ok (.getfield 63, 3) := by decide +kernel
theorem dX5_distance_95 : decode cX5_distance 95 = .ok (.aload_n 0, 1) := by decide +kernel
theorem dX5_distance_96 : decode cX5_distance 96 = .ok (.getfield 7, 3) := by decide +kernel
theorem dX5_distance_99 : decode cX5_distance 99 = .ok (.iload 4, 2) := by decide +kernel
theorem dX5_distance_101 : decode cX5_distance 101 = .ok (.iaload, 1) := by decide +kernel
theorem dX5_distance_102 : decode cX5_distance 102 = .ok (.iconst 4, 1) := by decide +kernel
theorem dX5_distance_103 : decode cX5_distance 103 = .ok (.idiv, 1) := by decide +kernel
theorem dX5_distance_104 : decode cX5_distance 104 = .ok (.iaload, 1) := by decide +kernel
theorem dX5_distance_105 : decode cX5_distance 105 = .ok (.ifCond .ne 28, 3) := by decide +kernel
theorem dX5_distance_108 : decode cX5_distance 108 = .ok (.aload_n 0, 1) := by decide +kernel
theorem dX5_distance_109 : decode cX5_distance 109 = .ok (.getfield 63, 3) := by decide +kernel
theorem dX5_distance_112 : decode cX5_distance 112 = .ok (.aload_n 0, 1) := by decide +kernel
theorem dX5_distance_113 : decode cX5_distance 113 = .ok (.getfield 7, 3) := by decide +kernel
theorem dX5_distance_116 : decode cX5_distance 116 = .ok (.iload 4, 2) := by decide +kernel
theorem dX5_distance_118 : decode cX5_distance 118 = .ok (.iaload, 1) := by decide +kernel
theorem dX5_distance_119 : decode cX5_distance 119 = .ok (.iconst 4, 1) := by decide +kernel
theorem dX5_distance_120 : decode cX5_distance 120 = .ok (.idiv, 1) := by decide +kernel
theorem dX5_distance_121 : decode cX5_distance 121 = .ok (.aload_n 0, 1) := by decide +kernel
theorem dX5_distance_122 : decode cX5_distance 122 = .ok (.getfield 63, 3) := by decide +kernel
theorem dX5_distance_125 : decode cX5_distance 125 = .ok (.iload 4, 2) := by decide +kernel
theorem dX5_distance_127 : decode cX5_distance 127 = .ok (.iconst 4, 1) := by decide +kernel
theorem dX5_distance_128 : decode cX5_distance 128 = .ok (.idiv, 1) := by decide +kernel
theorem dX5_distance_129 : decode cX5_distance 129 = .ok (.iaload, 1) := by decide +kernel
theorem dX5_distance_130 : decode cX5_distance 130 = .ok (.iconst 1, 1) := by decide +kernel
theorem dX5_distance_131 : decode cX5_distance 131 = .ok (.iadd, 1) := by decide +kernel
theorem dX5_distance_132 : decode cX5_distance 132 = .ok (.iastore, 1) := by decide +kernel
theorem dX5_distance_133 : decode cX5_distance 133 = .ok (.iinc 4 1, 3) := by decide +kernel
theorem dX5_distance_136 : decode cX5_distance 136 = .ok (.goto (-73), 3) := by decide +kernel
theorem dX5_distance_139 : decode cX5_distance 139 = .ok (.iinc 3 1, 3) := by decide +kernel
theorem dX5_distance_142 : decode cX5_distance 142 = .ok (.goto (-87), 3) := by decide +kernel
theorem dX5_distance_145 : decode cX5_distance 145 = .ok (.aload_n 0, 1) := by decide +kernel
theorem dX5_distance_146 : decode cX5_distance 146 = .ok (.getfield 63, 3) := by decide +kernel
theorem dX5_distance_149 : decode cX5_distance 149 = .ok (.aload_n 0, 1) := by decide +kernel
theorem dX5_distance_150 : decode cX5_distance 150 = .ok (.getfield 13, 3) := by decide +kernel
theorem dX5_distance_153 : decode cX5_distance 153 = .ok (.iload_n 2, 1) := by decide +kernel
theorem dX5_distance_154 : decode cX5_distance 154 = .ok (.iaload, 1) := by decide +kernel
theorem dX5_distance_155 : decode cX5_distance 155 = .ok (.iconst 4, 1) := by decide +kernel
theorem dX5_distance_156 : decode cX5_distance 156 = .ok (.idiv, 1) := by decide +kernel
theorem dX5_distance_157 : decode cX5_distance 157 = .ok (.iaload, 1) := by decide +kernel
theorem dX5_distance_158 : decode cX5_distance 158 = .ok (.ireturn, 1) := by decide +kernel
theorem dJ7_fill_53178_0 : decode cJ7_fill_53178 0 = .ok (.iconst 0, 1) := by decide +kernel
theorem dJ7_fill_53178_1 : decode cJ7_fill_53178 1 = .ok (.istore_n 2, 1) := by decide +kernel
theorem dJ7_fill_53178_2 : decode cJ7_fill_53178 2 = .ok (.aload_n 0, 1) := by decide +kernel
theorem dJ7_fill_53178_3 : decode cJ7_fill_53178 3 = .ok (.arraylength, 1) := by decide +kernel
theorem dJ7_fill_53178_4 : decode cJ7_fill_53178 4 = .ok (.istore_n 3, 1) := by decide +kernel
theorem dJ7_fill_53178_5 : decode cJ7_fill_53178 5 = .ok (.iload_n 2, 1) := by decide +kernel
theorem dJ7_fill_53178_6 : decode cJ7_fill_53178 6 = .ok (.iload_n 3, 1) := by decide +kernel
theorem dJ7_fill_53178_7 : decode cJ7_fill_53178 7 = .ok (.if_icmp .ge 13, 3) := by decide +kernel
theorem dJ7_fill_53178_10 : decode cJ7_fill_53178 10 = .ok (.aload_n 0, 1) := by decide +kernel
theorem dJ7_fill_53178_11 : decode cJ7_fill_53178 11 = .ok (.iload_n 2, 1) := by decide +kernel
theorem dJ7_fill_53178_12 : decode cJ7_fill_53178 12 = .ok (.iload_n 1, 1) := by decide +kernel
theorem dJ7_fill_53178_13 : decode cJ7_fill_53178 13 = .ok (.iastore, 1) := by decide +kernel
theorem dJ7_fill_53178_14 : decode cJ7_fill_53178 14 = .ok (.iinc 2 1, 3) := by decide +kernel
theorem dJ7_fill_53178_17 : decode cJ7_fill_53178 17 = .ok (.goto (-12), 3) := by decide +kernel
theorem dJ7_fill_53178_20 : decode cJ7_fill_53178 20 = .ok (.return_, 1) := by decide +kernel
