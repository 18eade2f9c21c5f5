set_option maxRecDepth 20000 in
theorem ggX0_init_X2_init : GoodIn wsX0_init wsX2_init := goodIn_r _ [14, 15, 2, 3, 6, 16, 17, 26, 27, 28, 29, 30, 31, 32, 33, 34, 35, 36, 37, 38, 39, 40] (by decide +kernel) (by decide +kernel)
set_option maxRecDepth 20000 in
theorem gX0_init_X2_init_n30 : GoodIn wsX0_init (wsX2_init) := ggX0_init_X2_init
theorem dX0_init_0 : decode cX0_init 0 = .ok (.aload_n 0, 1) := by decide +kernel
theorem dX0_init_1 : decode cX0_init 1 = .ok (.invokespecial 3, 3) := by decide +kernel
theorem dX0_init_4 : decode cX0_init 4 = .ok (.aload_n 0, 1) := by decide +kernel
theorem dX0_init_5 : decode cX0_init 5 = .ok (.bipush 8, 2) := by decide +kernel
theorem dX0_init_7 : decode cX0_init 7 = .ok (.anewarray 9, 3) := by decide +kernel
theorem dX0_init_10 : decode cX0_init 10 = .ok (.putfield 11, 3) := by decide +kernel
theorem dX0_init_13 : decode cX0_init 13 = .ok (.aload_n 0, 1) := by decide +kernel
theorem dX0_init_14 : decode cX0_init 14 = .ok (.iconst 2, 1) := by decide +kernel
theorem dX0_init_15 : decode cX0_init 15 = .ok (.newarray .int, 2) := by decide +kernel
theorem dX0_init_17 : decode cX0_init 17 = .ok (.putfield 17, 3) := by decide +kernel
theorem dX0_init_20 : decode cX0_init 20 = .ok (.aload_n 0, 1) := by decide +kernel
theorem dX0_init_21 : decode cX0_init 21 = .ok (.bipush 12, 2) := by decide +kernel
theorem dX0_init_23 : decode cX0_init 23 = .ok (.newarray .int, 2) := by decide +kernel
theorem dX0_init_25 : decode cX0_init 25 = .ok (.putfield 21, 3) := by decide +kernel
theorem dX0_init_28 : decode cX0_init 28 = .ok (.aload_n 0, 1) := by decide +kernel
theorem dX0_init_29 : decode cX0_init 29 = .ok (.bipush 12, 2) := by decide +kernel
theorem dX0_init_31 : decode cX0_init 31 = .ok (.newarray .int, 2) := by decide +kernel
theorem dX0_init_33 : decode cX0_init 33 = .ok (.putfield 24, 3) := by decide +kernel
theorem dX0_init_36 : decode cX0_init 36 = .ok (.aload_n 0, 1) := by decide +kernel
theorem dX0_init_37 : decode cX0_init 37 = .ok (.bipush 12, 2) := by decide +kernel
theorem dX0_init_39 : decode cX0_init 39 = .ok (.newarray .int, 2) := by decide +kernel
theorem dX0_init_41 : decode cX0_init 41 = .ok (.putfield 27, 3) := by decide +kernel
theorem dX0_init_44 : decode cX0_init 44 = .ok (.iconst 0, 1) := by decide +kernel
theorem dX0_init_45 : decode cX0_init 45 = .ok (.istore_n 1, 1) := by decide +kernel
theorem dX0_init_46 : decode cX0_init 46 = .ok (.iload_n 1, 1) := by decide +kernel
theorem dX0_init_47 : decode cX0_init 47 = .ok (.bipush 8, 2) := by decide +kernel
theorem dX0_init_49 : decode cX0_init 49 = .ok (.if_icmp .ge 22, 3) := by decide +kernel
theorem dX0_init_52 : decode cX0_init 52 = .ok (.aload_n 0, 1) := by decide +kernel
theorem dX0_init_53 : decode cX0_init 53 = .ok (.getfield 11, 3) := by decide +kernel
theorem dX0_init_56 : decode cX0_init 56 = .ok (.iload_n 1, 1) := by decide +kernel
theorem dX0_init_57 : decode cX0_init 57 = .ok (.new 9, 3) := by decide +kernel
theorem dX0_init_60 : decode cX0_init 60 = .ok (.dup, 1) := by decide +kernel
theorem dX0_init_61 : decode cX0_init 61 = .ok (.invokespecial 30, 3) := by decide +kernel
theorem dX0_init_64 : decode cX0_init 64 = .ok (.aastore, 1) := by decide +kernel
theorem dX0_init_65 : decode cX0_init 65 = .ok (.iinc 1 1, 3) := by decide +kernel
theorem dX0_init_68 : decode cX0_init 68 = .ok (.goto (-22), 3) := by decide +kernel
theorem dX0_init_71 : decode cX0_init 71 = .ok (.iconst 0, 1) := by decide +kernel
theorem dX0_init_72 : decode cX0_init 72 = .ok (.istore_n 1, 1) := by decide +kernel
theorem dX0_init_73 : decode cX0_init 73 = .ok (.iload_n 1, 1) := by decide +kernel
theorem dX0_init_74 : decode cX0_init 74 = .ok (.iconst 2, 1) := by decide +kernel
theorem dX0_init_75 : decode cX0_init 75 = .ok (.if_icmp .ge 16, 3) := by decide +kernel
theorem dX0_init_78 : decode cX0_init 78 = .ok (.aload_n 0, 1) := by decide +kernel
theorem dX0_init_79 : decode cX0_init 79 = .ok (.getfield 17, 3) := by decide +kernel
theorem dX0_init_82 : decode cX0_init 82 = .ok (.iload_n 1, 1) := by decide +kernel
theorem dX0_init_83 : decode cX0_init 83 = .ok (.iconst 2, 1) := by decide +kernel
theorem dX0_init_84 : decode cX0_init 84 = .ok (.iastore, 1) := by decide +kernel
theorem dX0_init_85 : decode cX0_init 85 = .ok (.iinc 1 1, 3) := by decide +kernel
theorem dX0_init_88 : decode cX0_init 88 = .ok (.goto (-15), 3) := by decide +kernel
theorem dX0_init_91 : decode cX0_init 91 = .ok (.return_, 1) := by decide +kernel
set_option maxRecDepth 20000 in
theorem ggX0_copyFrom_X2_copyFrom : GoodIn wsX0_copyFrom wsX2_copyFrom := goodIn_r _ [17, 18, 19, 5, 6, 7, 20, 21, 22, 23, 24, 25, 26, 27, 28, 29, 30, 31, 32, 33, 42, 43, 44, 45, 46, 47, 48, 49, 50, 51, 52, 53, 54, 55, 56] (by decide +kernel) (by decide +kernel)
set_option maxRecDepth 20000 in
theorem gX0_copyFrom_X2_copyFrom : GoodIn wsX0_copyFrom (wsV RX0 35 RX2 yX2_copyFrom wsX2_copyFrom) := goodIn_app (goodIn_of _ (by decide +kernel)) ggX0_copyFrom_X2_copyFrom
theorem dX0_copyFrom_0 : decode cX0_copyFrom 0 = .ok (.iconst 0, 1) := by decide +kernel
theorem dX0_copyFrom_1 : decode cX0_copyFrom 1 = .ok (.istore_n 2, 1) := by decide +kernel
theorem dX0_copyFrom_2 : decode cX0_copyFrom 2 = .ok (.iload_n 2, 1) := by decide +kernel
theorem dX0_copyFrom_3 : decode cX0_copyFrom 3 = .ok (.aload_n 1, 1) := by decide +kernel
theorem dX0_copyFrom_4 : decode cX0_copyFrom 4 = .ok (.getfield 31, 3) := by decide +kernel
theorem dX0_copyFrom_7 : decode cX0_copyFrom 7 = .ok (.if_icmp .ge 24, 3) := by decide +kernel
theorem dX0_copyFrom_10 : decode cX0_copyFrom 10 = .ok (.aload_n 0, 1) := by decide +kernel
theorem dX0_copyFrom_11 : decode cX0_copyFrom 11 = .ok (.getfield 11, 3) := by decide +kernel
theorem dX0_copyFrom_14 : decode cX0_copyFrom 14 = .ok (.iload_n 2, 1) := by decide +kernel
theorem dX0_copyFrom_15 : decode cX0_copyFrom 15 = .ok (.aaload, 1) := by decide +kernel
theorem dX0_copyFrom_16 : decode cX0_copyFrom 16 = .ok (.aload_n 1, 1) := by decide +kernel
theorem dX0_copyFrom_17 : decode cX0_copyFrom 17 = .ok (.getfield 11, 3) := by decide +kernel
theorem dX0_copyFrom_20 : decode cX0_copyFrom 20 = .ok (.iload_n 2, 1) := by decide +kernel
theorem dX0_copyFrom_21 : decode cX0_copyFrom 21 = .ok (.aaload, 1) := by decide +kernel
theorem dX0_copyFrom_22 : decode cX0_copyFrom 22 = .ok (.invokevirtual 35, 3) := by decide +kernel
theorem dX0_copyFrom_25 : decode cX0_copyFrom 25 = .ok (.iinc 2 1, 3) := by decide +kernel
theorem dX0_copyFrom_28 : decode cX0_copyFrom 28 = .ok (.goto (-26), 3) := by decide +kernel
theorem dX0_copyFrom_31 : decode cX0_copyFrom 31 = .ok (.aload_n 0, 1) := by decide +kernel
theorem dX0_copyFrom_32 : decode cX0_copyFrom 32 = .ok (.aload_n 1, 1) := by decide +kernel
theorem dX0_copyFrom_33 : decode cX0_copyFrom 33 = .ok (.getfield 31, 3) := by decide +kernel
theorem dX0_copyFrom_36 : decode cX0_copyFrom 36 = .ok (.putfield 31, 3) := by decide +kernel
theorem dX0_copyFrom_39 : decode cX0_copyFrom 39 = .ok (.aload_n 1, 1) := by decide +kernel
theorem dX0_copyFrom_40 : decode cX0_copyFrom 40 = .ok (.getfield 17, 3) := by decide +kernel
theorem dX0_copyFrom_43 : decode cX0_copyFrom 43 = .ok (.iconst 0, 1) := by decide +kernel
theorem dX0_copyFrom_44 : decode cX0_copyFrom 44 = .ok (.aload_n 0, 1) := by decide +kernel
theorem dX0_copyFrom_45 : decode cX0_copyFrom 45 = .ok (.getfield 17, 3) := by decide +kernel
theorem dX0_copyFrom_48 : decode cX0_copyFrom 48 = .ok (.iconst 0, 1) := by decide +kernel
theorem dX0_copyFrom_49 : decode cX0_copyFrom 49 = .ok (.iconst 2, 1) := by decide +kernel
theorem dX0_copyFrom_50 : decode cX0_copyFrom 50 = .ok (.invokestatic 39, 3) := by decide +kernel
theorem dX0_copyFrom_53 : decode cX0_copyFrom 53 = .ok (.aload_n 1, 1) := by decide +kernel
theorem dX0_copyFrom_54 : decode cX0_copyFrom 54 = .ok (.getfield 21, 3) := by decide +kernel
theorem dX0_copyFrom_57 : decode cX0_copyFrom 57 = .ok (.iconst 0, 1) := by decide +kernel
theorem dX0_copyFrom_58 : decode cX0_copyFrom 58 = .ok (.aload_n 0, 1) := by decide +kernel
theorem dX0_copyFrom_59 : decode cX0_copyFrom 59 = .ok (.getfield 21, 3) := by decide +kernel
theorem dX0_copyFrom_62 : decode cX0_copyFrom 62 = .ok (.iconst 0, 1) := by decide +kernel
theorem dX0_copyFrom_63 : decode cX0_copyFrom 63 = .ok (.bipush 12, 2) := by decide +kernel
theorem dX0_copyFrom_65 : decode cX0_copyFrom 65 = .ok (.invokestatic 39, 3) := by decide +kernel
theorem dX0_copyFrom_68 : decode cX0_copyFrom 68 = .ok (.aload_n 1, 1) := by decide +kernel
theorem dX0_copyFrom_69 : decode cX0_copyFrom 69 = .ok (.getfield 24, 3) := by decide +kernel
theorem dX0_copyFrom_72 : decode cX0_copyFrom 72 = .ok (.iconst 0, 1) := by decide +kernel
theorem dX0_copyFrom_73 : decode cX0_copyFrom 73 = .ok (.aload_n 0, 1) := by decide +kernel
theorem dX0_copyFrom_74 : decode cX0_copyFrom 74 = .ok (.getfield 24, 3) := by decide +kernel
theorem dX0_copyFrom_77 : decode cX0_copyFrom 77 = .ok (.iconst 0, 1) := by decide +kernel
theorem dX0_copyFrom_78 : decode cX0_copyFrom 78 = .ok (.bipush 12, 2) := by decide +kernel
theorem dX0_copyFrom_80 : decode cX0_copyFrom 80 = .ok (.invokestatic 39, 3) := by decide +kernel
theorem dX0_copyFrom_83 : decode cX0_copyFrom 83 = .ok (.aload_n 1, 1) := by decide +kernel
theorem dX0_copyFrom_84 : decode cX0_copyFrom 84 = .ok (.getfield 27, 3) := by decide +kernel
theorem dX0_copyFrom_87 : decode cX0_copyFrom 87 = .ok (.iconst 0, 1) := by decide +kernel
theorem dX0_copyFrom_88 : decode cX0_copyFrom 88 = .ok (.aload_n 0, 1) := by decide +kernel
theorem dX0_copyFrom_89 : decode cX0_copyFrom 89 = .ok (.getfield 27, 3) := by decide +kernel
theorem dX0_copyFrom_92 : decode cX0_copyFrom 92 = .ok (.iconst 0, 1) := by decide +kernel
theorem dX0_copyFrom_93 : decode cX0_copyFrom 93 = .ok (.bipush 12, 2) := by decide +kernel
theorem dX0_copyFrom_95 : decode cX0_copyFrom 95 = .ok (.invokestatic 39, 3) := by decide +kernel
theorem dX0_copyFrom_98 : decode cX0_copyFrom 98 = .ok (.aload_n 0, 1) := by decide +kernel
theorem dX0_copyFrom_99 : decode cX0_copyFrom 99 = .ok (.aload_n 1, 1) := by decide +kernel
theorem dX0_copyFrom_100 : decode cX0_copyFrom 100 = .ok (.getfield 45, 3) := by decide +kernel
theorem dX0_copyFrom_103 : decode cX0_copyFrom 103 = .ok (.putfield 45, 3) := by decide +kernel
theorem dX0_copyFrom_106 : decode cX0_copyFrom 106 = .ok (.aload_n 0, 1) := by decide +kernel
theorem dX0_copyFrom_107 : decode cX0_copyFrom 107 = .ok (.aload_n 1, 1) := by decide +kernel
theorem dX0_copyFrom_108 : decode cX0_copyFrom 108 = .ok (.getfield 48, 3) := by decide +kernel
theorem dX0_copyFrom_111 : decode cX0_copyFrom 111 = .ok (.putfield 48, 3) := by decide +kernel
theorem dX0_copyFrom_114 : decode cX0_copyFrom 114 = .ok (.return_, 1) := by decide +kernel
theorem dX0_hasRoom_0 : decode cX0_hasRoom 0 = .ok (.iload_n 1, 1) := by decide +kernel
theorem dX0_hasRoom_1 : decode cX0_hasRoom 1 = .ok (.ifCond .lt 15, 3) := by decide +kernel
theorem dX0_hasRoom_4 : decode cX0_hasRoom 4 = .ok (.iload_n 1, 1) := by decide +kernel
theorem dX0_hasRoom_5 : decode cX0_hasRoom 5 = .ok (.aload_n 0, 1) := by decide +kernel
theorem dX0_hasRoom_6 : decode cX0_hasRoom 6 = .ok (.getfield 31, 3) := by decide +kernel
theorem dX0_hasRoom_9 : decode cX0_hasRoom 9 = .ok (.if_icmp .ge 7, 3) := by decide +kernel
theorem dX0_hasRoom_12 : decode cX0_hasRoom 12 = .ok (.iconst 1, 1) := by decide +kernel
theorem dX0_hasRoom_13 : decode cX0_hasRoom 13 = .ok (.goto 4, 3) := by decide +kernel
theorem dX0_hasRoom_16 : decode cX0_hasRoom 16 = .ok (.iconst 0, 1) := by decide +kernel
theorem dX0_hasRoom_17 : decode cX0_hasRoom 17 = .ok (.ireturn, 1) := by decide +kernel
theorem dX0_hasUse_0 : decode cX0_hasUse 0 = .ok (.iload_n 1, 1) := by decide +kernel
theorem dX0_hasUse_1 : decode cX0_hasUse 1 = .ok (.ifCond .lt 15, 3) := by decide +kernel
theorem dX0_hasUse_4 : decode cX0_hasUse 4 = .ok (.iload_n 1, 1) := by decide +kernel
theorem dX0_hasUse_5 : decode cX0_hasUse 5 = .ok (.aload_n 0, 1) := by decide +kernel
theorem dX0_hasUse_6 : decode cX0_hasUse 6 = .ok (.getfield 45, 3) := by decide +kernel
theorem dX0_hasUse_9 : decode cX0_hasUse 9 = .ok (.if_icmp .ge 7, 3) := by decide +kernel
theorem dX0_hasUse_12 : decode cX0_hasUse 12 = .ok (.iconst 1, 1) := by decide +kernel
theorem dX0_hasUse_13 : decode cX0_hasUse 13 = .ok (.goto 4, 3) := by decide +kernel
theorem dX0_hasUse_16 : decode cX0_hasUse 16 = .ok (.iconst 0, 1) := by decide +kernel
theorem dX0_hasUse_17 : decode cX0_hasUse 17 = .ok (.ireturn, 1) := by decide +kernel
set_option maxRecDepth 20000 in
theorem ggX0_tell_X0_roomsIn : GoodIn wsX0_tell wsX0_roomsIn := goodIn_r _ [8, 1, 9, 10, 31, 32, 33, 34, 35, 36, 37, 38, 39, 40, 41, 42, 43, 44, 45, 46, 47, 48, 49, 50, 51, 52, 53] (by decide +kernel) (by decide +kernel)
set_option maxRecDepth 20000 in
theorem gX0_tell_X0_roomsIn : GoodIn wsX0_tell (wsV RX0 51 RX0 yX0_roomsIn wsX0_roomsIn) := goodIn_app (goodIn_of _ (by decide +kernel)) ggX0_tell_X0_roomsIn
set_option maxRecDepth 20000 in
theorem ggX0_tell_X0_paidInAll : GoodIn wsX0_tell wsX0_paidInAll := goodIn_r _ [14, 1, 9, 15, 16, 17, 18, 19, 20, 31, 32, 33, 34, 35, 36, 37, 38, 39, 40, 41, 42, 43, 44, 45, 46, 47, 48, 49, 50, 51, 52, 53] (by decide +kernel) (by decide +kernel)
set_option maxRecDepth 20000 in
theorem gX0_tell_X0_paidInAll : GoodIn wsX0_tell (wsV RX0 55 RX0 yX0_paidInAll wsX0_paidInAll) := goodIn_app (goodIn_of _ (by decide +kernel)) ggX0_tell_X0_paidInAll
set_option maxRecDepth 20000 in
theorem ggX0_tell_X0_begunInAll : GoodIn wsX0_tell wsX0_begunInAll := goodIn_r _ [24, 1, 9, 25, 31, 32, 33, 34, 35, 36, 37, 38, 39, 40, 41, 42, 43, 44, 45, 46, 47, 48, 49, 50, 51, 52, 53] (by decide +kernel) (by decide +kernel)
set_option maxRecDepth 20000 in
theorem gX0_tell_X0_begunInAll : GoodIn wsX0_tell (wsV RX0 59 RX0 yX0_begunInAll wsX0_begunInAll) := goodIn_app (goodIn_of _ (by decide +kernel)) ggX0_tell_X0_begunInAll
set_option maxRecDepth 20000 in
theorem ggX0_tell_X0_lateInAll : GoodIn wsX0_tell wsX0_lateInAll := goodIn_r _ [29, 1, 9, 30, 31, 32, 33, 34, 35, 36, 37, 38, 39, 40, 41, 42, 43, 44, 45, 46, 47, 48, 49, 50, 51, 52, 53] (by decide +kernel) (by decide +kernel)
set_option maxRecDepth 20000 in
theorem gX0_tell_X0_lateInAll : GoodIn wsX0_tell (wsV RX0 62 RX0 yX0_lateInAll wsX0_lateInAll) := goodIn_app (goodIn_of _ (by decide +kernel)) ggX0_tell_X0_lateInAll
theorem dX0_tell_0 : decode cX0_tell 0 = .ok (.iload_n 1, 1) := by decide +kernel
theorem dX0_tell_1 : decode cX0_tell 1 = .ok (.tableswitch 100 0 8 #[51, 56, 61, 66, 72, 78, 84, 90, 95], 51) := by decide +kernel
theorem dX0_tell_52 : decode cX0_tell 52 = .ok (.aload_n 0, 1) := by decide +kernel
theorem dX0_tell_53 : decode cX0_tell 53 = .ok (.getfield 31, 3) := by decide +kernel
theorem dX0_tell_56 : decode cX0_tell 56 = .ok (.ireturn, 1) := by decide +kernel
theorem dX0_tell_57 : decode cX0_tell 57 = .ok (.aload_n 0, 1) := by decide +kernel
theorem dX0_tell_58 : decode cX0_tell 58 = .ok (.getfield 45, 3) := by decide +kernel
theorem dX0_tell_61 : decode cX0_tell 61 = .ok (.ireturn, 1) := by decide +kernel
theorem dX0_tell_62 : decode cX0_tell 62 = .ok (.aload_n 0, 1) := by decide +kernel
theorem dX0_tell_63 : decode cX0_tell 63 = .ok (.getfield 48, 3) := by decide +kernel
theorem dX0_tell_66 : decode cX0_tell 66 = .ok (.ireturn, 1) := by decide +kernel
theorem dX0_tell_67 : decode cX0_tell 67 = .ok (.aload_n 0, 1) := by decide +kernel
theorem dX0_tell_68 : decode cX0_tell 68 = .ok (.iconst 0, 1) := by decide +kernel
theorem dX0_tell_69 : decode cX0_tell 69 = .ok (.invokevirtual 51, 3) := by decide +kernel
theorem dX0_tell_72 : decode cX0_tell 72 = .ok (.ireturn, 1) := by decide +kernel
theorem dX0_tell_73 : decode cX0_tell 73 = .ok (.aload_n 0, 1) := by decide +kernel
theorem dX0_tell_74 : decode cX0_tell 74 = .ok (.iconst 1, 1) := by decide +kernel
theorem dX0_tell_75 : decode cX0_tell 75 = .ok (.invokevirtual 51, 3) := by decide +kernel
theorem dX0_tell_78 : decode cX0_tell 78 = .ok (.ireturn, 1) := by decide +kernel
theorem dX0_tell_79 : decode cX0_tell 79 = .ok (.aload_n 0, 1) := by decide +kernel
theorem dX0_tell_80 : decode cX0_tell 80 = .ok (.iconst 2, 1) := by decide +kernel
theorem dX0_tell_81 : decode cX0_tell 81 = .ok (.invokevirtual 51, 3) := by decide +kernel
theorem dX0_tell_84 : decode cX0_tell 84 = .ok (.ireturn, 1) := by decide +kernel
theorem dX0_tell_85 : decode cX0_tell 85 = .ok (.aload_n 0, 1) := by decide +kernel
theorem dX0_tell_86 : decode cX0_tell 86 = .ok (.iconst 3, 1) := by decide +kernel
theorem dX0_tell_87 : decode cX0_tell 87 = .ok (.invokevirtual 51, 3) := by decide +kernel
theorem dX0_tell_90 : decode cX0_tell 90 = .ok (.ireturn, 1) := by decide +kernel
theorem dX0_tell_91 : decode cX0_tell 91 = .ok (.aload_n 0, 1) := by decide +kernel
theorem dX0_tell_92 : decode cX0_tell 92 = .ok (.invokevirtual 55, 3) := by decide +kernel
theorem dX0_tell_95 : decode cX0_tell 95 = .ok (.ireturn, 1) := by decide +kernel
theorem dX0_tell_96 : decode cX0_tell 96 = .ok (.aload_n 0, 1) := by decide +kernel
theorem dX0_tell_97 : decode cX0_tell 97 = .ok (.invokevirtual 59, 3) := by decide +kernel
theorem dX0_tell_100 : decode cX0_tell 100 = .ok (.ireturn, 1) := by decide +kernel
theorem dX0_tell_101 : decode cX0_tell 101 = .ok (.aload_n 0, 1) := by decide +kernel
theorem dX0_tell_102 : decode cX0_tell 102 = .ok (.invokevirtual 62, 3) := by decide +kernel
theorem dX0_tell_105 : decode cX0_tell 105 = .ok (.ireturn, 1) := by decide +kernel
theorem dX0_roomsIn_0 : decode cX0_roomsIn 0 = .ok (.iconst 0, 1) := by decide +kernel
theorem dX0_roomsIn_1 : decode cX0_roomsIn 1 = .ok (.istore_n 2, 1) := by decide +kernel
theorem dX0_roomsIn_2 : decode cX0_roomsIn 2 = .ok (.iconst 0, 1) := by decide +kernel
theorem dX0_roomsIn_3 : decode cX0_roomsIn 3 = .ok (.istore_n 3, 1) := by decide +kernel
theorem dX0_roomsIn_4 : decode cX0_roomsIn 4 = .ok (.iload_n 3, 1) := by decide +kernel
theorem dX0_roomsIn_5 : decode cX0_roomsIn 5 = .ok (.aload_n 0, 1) := by decide +kernel
theorem dX0_roomsIn_6 : decode cX0_roomsIn 6 = .ok (.getfield 31, 3) := by decide +kernel
theorem dX0_roomsIn_9 : decode cX0_roomsIn 9 = .ok (.if_icmp .ge 25, 3) := by decide +kernel
theorem dX0_roomsIn_12 : decode cX0_roomsIn 12 = .ok (.aload_n 0, 1) := by decide +kernel
theorem dX0_roomsIn_13 : decode cX0_roomsIn 13 = .ok (.getfield 11, 3) := by decide +kernel
theorem dX0_roomsIn_16 : decode cX0_roomsIn 16 = .ok (.iload_n 3, 1) := by decide +kernel
theorem dX0_roomsIn_17 : decode cX0_roomsIn 17 = .ok (.aaload, 1) := by decide +kernel
theorem dX0_roomsIn_18 : decode cX0_roomsIn 18 = .ok (.getfield 65, 3) := by decide +kernel
theorem dX0_roomsIn_21 : decode cX0_roomsIn 21 = .ok (.iload_n 1, 1) := by decide +kernel
theorem dX0_roomsIn_22 : decode cX0_roomsIn 22 = .ok (.if_icmp .ne 6, 3) := by decide +kernel
theorem dX0_roomsIn_25 : decode cX0_roomsIn 25 = .ok (.iinc 2 1, 3) := by decide +kernel
theorem dX0_roomsIn_28 : decode cX0_roomsIn 28 = .ok (.iinc 3 1, 3) := by decide +kernel
theorem dX0_roomsIn_31 : decode cX0_roomsIn 31 = .ok (.goto (-27), 3) := by decide +kernel
theorem dX0_roomsIn_34 : decode cX0_roomsIn 34 = .ok (.iload_n 2, 1) := by decide +kernel
theorem dX0_roomsIn_35 : decode cX0_roomsIn 35 = .ok (.ireturn, 1) := by decide +kernel
set_option maxRecDepth 20000 in
theorem ggX0_paidInAll_X2_paidInAll : GoodIn wsX0_paidInAll wsX2_paidInAll := goodIn_r _ [7, 8, 17, 18, 19, 20, 21, 22, 23, 24, 25, 26, 27, 28, 29, 30, 31] (by decide +kernel) (by decide +kernel)
set_option maxRecDepth 20000 in
theorem gX0_paidInAll_X2_paidInAll : GoodIn wsX0_paidInAll (wsV RX0 68 RX2 yX2_paidInAll wsX2_paidInAll) := goodIn_app (goodIn_of _ (by decide +kernel)) ggX0_paidInAll_X2_paidInAll
theorem dX0_paidInAll_0 : decode cX0_paidInAll 0 = .ok (.iconst 0, 1) := by decide +kernel
theorem dX0_paidInAll_1 : decode cX0_paidInAll 1 = .ok (.istore_n 1, 1) := by decide +kernel
theorem dX0_paidInAll_2 : decode cX0_paidInAll 2 = .ok (.iconst 0, 1) := by decide +kernel
theorem dX0_paidInAll_3 : decode cX0_paidInAll 3 = .ok (.istore_n 2, 1) := by decide +kernel
theorem dX0_paidInAll_4 : decode cX0_paidInAll 4 = .ok (.iload_n 2, 1) := by decide +kernel
theorem dX0_paidInAll_5 : decode cX0_paidInAll 5 = .ok (.aload_n 0, 1) := by decide +kernel
theorem dX0_paidInAll_6 : decode cX0_paidInAll 6 = .ok (.getfield 31, 3) := by decide +kernel
theorem dX0_paidInAll_9 : decode cX0_paidInAll 9 = .ok (.if_icmp .ge 21, 3) := by decide +kernel
theorem dX0_paidInAll_12 : decode cX0_paidInAll 12 = .ok (.iload_n 1, 1) := by decide +kernel
theorem dX0_paidInAll_13 : decode cX0_paidInAll 13 = .ok (.aload_n 0, 1) := by decide +kernel
theorem dX0_paidInAll_14 : decode cX0_paidInAll 14 = .ok (.getfield 11, 3) := by decide +kernel
theorem dX0_paidInAll_17 : decode cX0_paidInAll 17 = .ok (.iload_n 2, 1) := by decide +kernel
theorem dX0_paidInAll_18 : decode cX0_paidInAll 18 = .ok (.aaload, 1) := by decide +kernel
theorem dX0_paidInAll_19 : decode cX0_paidInAll 19 = .ok (.invokevirtual 68, 3) := by decide +kernel
theorem dX0_paidInAll_22 : decode cX0_paidInAll 22 = .ok (.iadd, 1) := by decide +kernel
theorem dX0_paidInAll_23 : decode cX0_paidInAll 23 = .ok (.istore_n 1, 1) := by decide +kernel
theorem dX0_paidInAll_24 : decode cX0_paidInAll 24 = .ok (.iinc 2 1, 3) := by decide +kernel
theorem dX0_paidInAll_27 : decode cX0_paidInAll 27 = .ok (.goto (-23), 3) := by decide +kernel
theorem dX0_paidInAll_30 : decode cX0_paidInAll 30 = .ok (.iload_n 1, 1) := by decide +kernel
theorem dX0_paidInAll_31 : decode cX0_paidInAll 31 = .ok (.ireturn, 1) := by decide +kernel
theorem dX0_begunInAll_0 : decode cX0_begunInAll 0 = .ok (.iconst 0, 1) := by decide +kernel
theorem dX0_begunInAll_1 : decode cX0_begunInAll 1 = .ok (.istore_n 1, 1) := by decide +kernel
theorem dX0_begunInAll_2 : decode cX0_begunInAll 2 = .ok (.iconst 0, 1) := by decide +kernel
theorem dX0_begunInAll_3 : decode cX0_begunInAll 3 = .ok (.istore_n 2, 1) := by decide +kernel
theorem dX0_begunInAll_4 : decode cX0_begunInAll 4 = .ok (.iload_n 2, 1) := by decide +kernel
theorem dX0_begunInAll_5 : decode cX0_begunInAll 5 = .ok (.aload_n 0, 1) := by decide +kernel
theorem dX0_begunInAll_6 : decode cX0_begunInAll 6 = .ok (.getfield 31, 3) := by decide +kernel
theorem dX0_begunInAll_9 : decode cX0_begunInAll 9 = .ok (.if_icmp .ge 21, 3) := by decide +kernel
theorem dX0_begunInAll_12 : decode cX0_begunInAll 12 = .ok (.iload_n 1, 1) := by decide +kernel
theorem dX0_begunInAll_13 : decode cX0_begunInAll 13 = .ok (.aload_n 0, 1) := by decide +kernel
theorem dX0_begunInAll_14 : decode cX0_begunInAll 14 = .ok (.getfield 11, 3) := by decide +kernel
theorem dX0_begunInAll_17 : decode cX0_begunInAll 17 = .ok (.iload_n 2, 1) := by decide +kernel
theorem dX0_begunInAll_18 : decode cX0_begunInAll 18 = .ok (.aaload, 1) := by decide +kernel
theorem dX0_begunInAll_19 : decode cX0_begunInAll 19 = .ok (.getfield 72, 3) := by decide +kernel
theorem dX0_begunInAll_22 : decode cX0_begunInAll 22 = .ok (.iadd, 1) := by decide +kernel
theorem dX0_begunInAll_23 : decode cX0_begunInAll 23 = .ok (.istore_n 1, 1) := by decide +kernel
theorem dX0_begunInAll_24 : decode cX0_begunInAll 24 = .ok (.iinc 2 1, 3) := by decide +kernel
theorem dX0_begunInAll_27 : decode cX0_begunInAll 27 = .ok (.goto (-23), 3) := by decide +kernel
theorem dX0_begunInAll_30 : decode cX0_begunInAll 30 = .ok (.iload_n 1, 1) := by decide +kernel
theorem dX0_begunInAll_31 : decode cX0_begunInAll 31 = .ok (.ireturn, 1) := by decide +kernel
theorem dX0_lateInAll_0 : decode cX0_lateInAll 0 = .ok (.iconst 0, 1) := by decide +kernel
theorem dX0_lateInAll_1 : decode cX0_lateInAll 1 = .ok (.istore_n 1, 1) := by decide +kernel
theorem dX0_lateInAll_2 : decode cX0_lateInAll 2 = .ok (.iconst 0, 1) := by decide +kernel
theorem dX0_lateInAll_3 : decode cX0_lateInAll 3 = .ok (.istore_n 2, 1) := by decide +kernel
theorem dX0_lateInAll_4 : decode cX0_lateInAll 4 = .ok (.iload_n 2, 1) := by decide +kernel
theorem dX0_lateInAll_5 : decode cX0_lateInAll 5 = .ok (.aload_n 0, 1) := by decide +kernel
theorem dX0_lateInAll_6 : decode cX0_lateInAll 6 = .ok (.getfield 31, 3) := by decide +kernel
theorem dX0_lateInAll_9 : decode cX0_lateInAll 9 = .ok (.if_icmp .ge 21, 3) := by decide +kernel
theorem dX0_lateInAll_12 : decode cX0_lateInAll 12 = .ok (.iload_n 1, 1) := by decide +kernel
theorem dX0_lateInAll_13 : decode cX0_lateInAll 13 = .ok (.aload_n 0, 1) := by decide +kernel
theorem dX0_lateInAll_14 : decode cX0_lateInAll 14 = .ok (.getfield 11, 3) := by decide +kernel
theorem dX0_lateInAll_17 : decode cX0_lateInAll 17 = .ok (.iload_n 2, 1) := by decide +kernel
theorem dX0_lateInAll_18 : decode cX0_lateInAll 18 = .ok (.aaload, 1) := by decide +kernel
theorem dX0_lateInAll_19 : decode cX0_lateInAll 19 = .ok (.getfield 75, 3) := by decide +kernel
theorem dX0_lateInAll_22 : decode cX0_lateInAll 22 = .ok (.iadd, 1) := by decide +kernel
theorem dX0_lateInAll_23 : decode cX0_lateInAll 23 = .ok (.istore_n 1, 1) := by decide +kernel
theorem dX0_lateInAll_24 : decode cX0_lateInAll 24 = .ok (.iinc 2 1, 3) := by decide +kernel
theorem dX0_lateInAll_27 : decode cX0_lateInAll 27 = .ok (.goto (-23), 3) := by decide +kernel
theorem dX0_lateInAll_30 : decode cX0_lateInAll 30 = .ok (.iload_n 1, 1) := by decide +kernel
theorem dX0_lateInAll_31 : decode cX0_lateInAll 31 = .ok (.ireturn, 1) := by decide +kernel
set_option maxRecDepth 20000 in
theorem ggX0_setNeed_X0_hasRoom : GoodIn wsX0_setNeed wsX0_hasRoom := goodIn_r _ [8, 9, 13, 14, 15, 16, 17, 18, 19, 20] (by decide +kernel) (by decide +kernel)
set_option maxRecDepth 20000 in
theorem gX0_setNeed_X0_hasRoom : GoodIn wsX0_setNeed (wsV RX0 78 RX0 yX0_hasRoom wsX0_hasRoom) := goodIn_app (goodIn_of _ (by decide +kernel)) ggX0_setNeed_X0_hasRoom
set_option maxRecDepth 20000 in
theorem ggX0_setNeed_X3_outside : GoodIn wsX0_setNeed wsX3_outside := goodIn_r _ [12] (by decide +kernel) (by decide +kernel)
set_option maxRecDepth 20000 in
theorem gX0_setNeed_X3_outside_n82 : GoodIn wsX0_setNeed (wsX3_outside) := ggX0_setNeed_X3_outside
theorem dX0_setNeed_0 : decode cX0_setNeed 0 = .ok (.aload_n 0, 1) := by decide +kernel
theorem dX0_setNeed_1 : decode cX0_setNeed 1 = .ok (.iload_n 1, 1) := by decide +kernel
theorem dX0_setNeed_2 : decode cX0_setNeed 2 = .ok (.invokevirtual 78, 3) := by decide +kernel
theorem dX0_setNeed_5 : decode cX0_setNeed 5 = .ok (.ifCond .eq 14, 3) := by decide +kernel
theorem dX0_setNeed_8 : decode cX0_setNeed 8 = .ok (.iload_n 2, 1) := by decide +kernel
theorem dX0_setNeed_9 : decode cX0_setNeed 9 = .ok (.iconst (-1), 1) := by decide +kernel
theorem dX0_setNeed_10 : decode cX0_setNeed 10 = .ok (.iload_n 1, 1) := by decide +kernel
theorem dX0_setNeed_11 : decode cX0_setNeed 11 = .ok (.iconst 1, 1) := by decide +kernel
theorem dX0_setNeed_12 : decode cX0_setNeed 12 = .ok (.isub, 1) := by decide +kernel
theorem dX0_setNeed_13 : decode cX0_setNeed 13 = .ok (.invokestatic 82, 3) := by decide +kernel
theorem dX0_setNeed_16 : decode cX0_setNeed 16 = .ok (.ifCond .eq 5, 3) := by decide +kernel
theorem dX0_setNeed_19 : decode cX0_setNeed 19 = .ok (.iconst (-1), 1) := by decide +kernel
theorem dX0_setNeed_20 : decode cX0_setNeed 20 = .ok (.ireturn, 1) := by decide +kernel
theorem dX0_setNeed_21 : decode cX0_setNeed 21 = .ok (.aload_n 0, 1) := by decide +kernel
theorem dX0_setNeed_22 : decode cX0_setNeed 22 = .ok (.getfield 11, 3) := by decide +kernel
theorem dX0_setNeed_25 : decode cX0_setNeed 25 = .ok (.iload_n 1, 1) := by decide +kernel
theorem dX0_setNeed_26 : decode cX0_setNeed 26 = .ok (.aaload, 1) := by decide +kernel
theorem dX0_setNeed_27 : decode cX0_setNeed 27 = .ok (.astore_n 3, 1) := by decide +kernel
theorem dX0_setNeed_28 : decode cX0_setNeed 28 = .ok (.aload_n 3, 1) := by decide +kernel
theorem dX0_setNeed_29 : decode cX0_setNeed 29 = .ok (.getfield 65, 3) := by decide +kernel
theorem dX0_setNeed_32 : decode cX0_setNeed 32 = .ok (.ifCond .eq 6, 3) := by decide +kernel
theorem dX0_setNeed_35 : decode cX0_setNeed 35 = .ok (.bipush (-2), 2) := by decide +kernel
theorem dX0_setNeed_37 : decode cX0_setNeed 37 = .ok (.ireturn, 1) := by decide +kernel
theorem dX0_setNeed_38 : decode cX0_setNeed 38 = .ok (.aload_n 3, 1) := by decide +kernel
theorem dX0_setNeed_39 : decode cX0_setNeed 39 = .ok (.getfield 86, 3) := by decide +kernel
theorem dX0_setNeed_42 : decode cX0_setNeed 42 = .ok (.istore 4, 2) := by decide +kernel
theorem dX0_setNeed_44 : decode cX0_setNeed 44 = .ok (.aload_n 3, 1) := by decide +kernel
theorem dX0_setNeed_45 : decode cX0_setNeed 45 = .ok (.iload_n 2, 1) := by decide +kernel
theorem dX0_setNeed_46 : decode cX0_setNeed 46 = .ok (.putfield 86, 3) := by decide +kernel
theorem dX0_setNeed_49 : decode cX0_setNeed 49 = .ok (.iload 4, 2) := by decide +kernel
theorem dX0_setNeed_51 : decode cX0_setNeed 51 = .ok (.iconst 1, 1) := by decide +kernel
theorem dX0_setNeed_52 : decode cX0_setNeed 52 = .ok (.iadd, 1) := by decide +kernel
theorem dX0_setNeed_53 : decode cX0_setNeed 53 = .ok (.ireturn, 1) := by decide +kernel
set_option maxRecDepth 20000 in
theorem ggX0_plugIn_X0_hasRoom : GoodIn wsX0_plugIn wsX0_hasRoom := goodIn_r _ [8, 9, 17, 18, 19, 20, 21, 22, 23, 24] (by decide +kernel) (by decide +kernel)
set_option maxRecDepth 20000 in
theorem gX0_plugIn_X0_hasRoom : GoodIn wsX0_plugIn (wsV RX0 78 RX0 yX0_hasRoom wsX0_hasRoom) := goodIn_app (goodIn_of _ (by decide +kernel)) ggX0_plugIn_X0_hasRoom
set_option maxRecDepth 20000 in
theorem ggX0_plugIn_X3_outside : GoodIn wsX0_plugIn wsX3_outside := goodIn_r _ [12] (by decide +kernel) (by decide +kernel)
set_option maxRecDepth 20000 in
theorem gX0_plugIn_X3_outside_n82 : GoodIn wsX0_plugIn (wsX3_outside) := ggX0_plugIn_X3_outside
set_option maxRecDepth 20000 in
theorem ggX0_plugIn_X0_pluggedInto : GoodIn wsX0_plugIn wsX0_pluggedInto := goodIn_r _ [16, 9, 1, 2, 17, 18, 19, 20, 21, 22, 23, 24, 25, 26, 27, 28, 29, 30, 31, 32, 33, 34, 35, 36, 37, 38, 39] (by decide +kernel) (by decide +kernel)
set_option maxRecDepth 20000 in
theorem gX0_plugIn_X0_pluggedInto : GoodIn wsX0_plugIn (wsV RX0 95 RX0 yX0_pluggedInto wsX0_pluggedInto) := goodIn_app (goodIn_of _ (by decide +kernel)) ggX0_plugIn_X0_pluggedInto
theorem dX0_plugIn_0 : decode cX0_plugIn 0 = .ok (.aload_n 0, 1) := by decide +kernel
theorem dX0_plugIn_1 : decode cX0_plugIn 1 = .ok (.iload_n 1, 1) := by decide +kernel
theorem dX0_plugIn_2 : decode cX0_plugIn 2 = .ok (.invokevirtual 78, 3) := by decide +kernel
theorem dX0_plugIn_5 : decode cX0_plugIn 5 = .ok (.ifCond .eq 12, 3) := by decide +kernel
theorem dX0_plugIn_8 : decode cX0_plugIn 8 = .ok (.iload_n 2, 1) := by decide +kernel
theorem dX0_plugIn_9 : decode cX0_plugIn 9 = .ok (.iconst 0, 1) := by decide +kernel
theorem dX0_plugIn_10 : decode cX0_plugIn 10 = .ok (.iconst 1, 1) := by decide +kernel
theorem dX0_plugIn_11 : decode cX0_plugIn 11 = .ok (.invokestatic 82, 3) := by decide +kernel
theorem dX0_plugIn_14 : decode cX0_plugIn 14 = .ok (.ifCond .eq 5, 3) := by decide +kernel
theorem dX0_plugIn_17 : decode cX0_plugIn 17 = .ok (.iconst (-1), 1) := by decide +kernel
theorem dX0_plugIn_18 : decode cX0_plugIn 18 = .ok (.ireturn, 1) := by decide +kernel
theorem dX0_plugIn_19 : decode cX0_plugIn 19 = .ok (.aload_n 0, 1) := by decide +kernel
theorem dX0_plugIn_20 : decode cX0_plugIn 20 = .ok (.getfield 11, 3) := by decide +kernel
theorem dX0_plugIn_23 : decode cX0_plugIn 23 = .ok (.iload_n 1, 1) := by decide +kernel
theorem dX0_plugIn_24 : decode cX0_plugIn 24 = .ok (.aaload, 1) := by decide +kernel
theorem dX0_plugIn_25 : decode cX0_plugIn 25 = .ok (.astore_n 3, 1) := by decide +kernel
theorem dX0_plugIn_26 : decode cX0_plugIn 26 = .ok (.aload_n 3, 1) := by decide +kernel
theorem dX0_plugIn_27 : decode cX0_plugIn 27 = .ok (.getfield 89, 3) := by decide +kernel
theorem dX0_plugIn_30 : decode cX0_plugIn 30 = .ok (.iconst (-1), 1) := by decide +kernel
theorem dX0_plugIn_31 : decode cX0_plugIn 31 = .ok (.if_icmp .ne 11, 3) := by decide +kernel
theorem dX0_plugIn_34 : decode cX0_plugIn 34 = .ok (.aload_n 3, 1) := by decide +kernel
theorem dX0_plugIn_35 : decode cX0_plugIn 35 = .ok (.getfield 92, 3) := by decide +kernel
theorem dX0_plugIn_38 : decode cX0_plugIn 38 = .ok (.iload_n 2, 1) := by decide +kernel
theorem dX0_plugIn_39 : decode cX0_plugIn 39 = .ok (.if_icmp .eq 6, 3) := by decide +kernel
theorem dX0_plugIn_42 : decode cX0_plugIn 42 = .ok (.bipush (-2), 2) := by decide +kernel
theorem dX0_plugIn_44 : decode cX0_plugIn 44 = .ok (.ireturn, 1) := by decide +kernel
theorem dX0_plugIn_45 : decode cX0_plugIn 45 = .ok (.aload_n 0, 1) := by decide +kernel
theorem dX0_plugIn_46 : decode cX0_plugIn 46 = .ok (.iload_n 2, 1) := by decide +kernel
theorem dX0_plugIn_47 : decode cX0_plugIn 47 = .ok (.invokevirtual 95, 3) := by decide +kernel
theorem dX0_plugIn_50 : decode cX0_plugIn 50 = .ok (.iconst 4, 1) := by decide +kernel
theorem dX0_plugIn_51 : decode cX0_plugIn 51 = .ok (.if_icmp .lt 6, 3) := by decide +kernel
theorem dX0_plugIn_54 : decode cX0_plugIn 54 = .ok (.bipush (-3), 2) := by decide +kernel
theorem dX0_plugIn_56 : decode cX0_plugIn 56 = .ok (.ireturn, 1) := by decide +kernel
theorem dX0_plugIn_57 : decode cX0_plugIn 57 = .ok (.aload_n 3, 1) := by decide +kernel
theorem dX0_plugIn_58 : decode cX0_plugIn 58 = .ok (.iload_n 2, 1) := by decide +kernel
theorem dX0_plugIn_59 : decode cX0_plugIn 59 = .ok (.putfield 89, 3) := by decide +kernel
theorem dX0_plugIn_62 : decode cX0_plugIn 62 = .ok (.aload_n 0, 1) := by decide +kernel
theorem dX0_plugIn_63 : decode cX0_plugIn 63 = .ok (.iload_n 2, 1) := by decide +kernel
theorem dX0_plugIn_64 : decode cX0_plugIn 64 = .ok (.invokevirtual 95, 3) := by decide +kernel
theorem dX0_plugIn_67 : decode cX0_plugIn 67 = .ok (.ireturn, 1) := by decide +kernel
set_option maxRecDepth 20000 in
theorem ggX0_plugOut_X0_hasRoom : GoodIn wsX0_plugOut wsX0_hasRoom := goodIn_r _ [8, 9, 14, 15, 16, 17, 18, 19, 20, 21] (by decide +kernel) (by decide +kernel)
set_option maxRecDepth 20000 in
theorem gX0_plugOut_X0_hasRoom : GoodIn wsX0_plugOut (wsV RX0 78 RX0 yX0_hasRoom wsX0_hasRoom) := goodIn_app (goodIn_of _ (by decide +kernel)) ggX0_plugOut_X0_hasRoom
set_option maxRecDepth 20000 in
theorem ggX0_plugOut_X0_pluggedInto : GoodIn wsX0_plugOut wsX0_pluggedInto := goodIn_r _ [13, 9, 1, 2, 14, 15, 16, 17, 18, 19, 20, 21, 22, 23, 24, 25, 26, 27, 28, 29, 30, 31, 32, 33, 34, 35, 36] (by decide +kernel) (by decide +kernel)
set_option maxRecDepth 20000 in
theorem gX0_plugOut_X0_pluggedInto : GoodIn wsX0_plugOut (wsV RX0 95 RX0 yX0_pluggedInto wsX0_pluggedInto) := goodIn_app (goodIn_of _ (by decide +kernel)) ggX0_plugOut_X0_pluggedInto
theorem dX0_plugOut_0 : decode cX0_plugOut 0 = .ok (.aload_n 0, 1) := by decide +kernel
theorem dX0_plugOut_1 : decode cX0_plugOut 1 = .ok (.iload_n 1, 1) := by decide +kernel
theorem dX0_plugOut_2 : decode cX0_plugOut 2 = .ok (.invokevirtual 78, 3) := by decide +kernel
theorem dX0_plugOut_5 : decode cX0_plugOut 5 = .ok (.ifCond .ne 5, 3) := by decide +kernel
theorem dX0_plugOut_8 : decode cX0_plugOut 8 = .ok (.iconst (-1), 1) := by decide +kernel
theorem dX0_plugOut_9 : decode cX0_plugOut 9 = .ok (.ireturn, 1) := by decide +kernel
theorem dX0_plugOut_10 : decode cX0_plugOut 10 = .ok (.aload_n 0, 1) := by decide +kernel
theorem dX0_plugOut_11 : decode cX0_plugOut 11 = .ok (.getfield 11, 3) := by decide +kernel
theorem dX0_plugOut_14 : decode cX0_plugOut 14 = .ok (.iload_n 1, 1) := by decide +kernel
theorem dX0_plugOut_15 : decode cX0_plugOut 15 = .ok (.aaload, 1) := by decide +kernel
theorem dX0_plugOut_16 : decode cX0_plugOut 16 = .ok (.astore_n 2, 1) := by decide +kernel
theorem dX0_plugOut_17 : decode cX0_plugOut 17 = .ok (.aload_n 2, 1) := by decide +kernel
theorem dX0_plugOut_18 : decode cX0_plugOut 18 = .ok (.getfield 89, 3) := by decide +kernel
theorem dX0_plugOut_21 : decode cX0_plugOut 21 = .ok (.iconst (-1), 1) := by decide +kernel
theorem dX0_plugOut_22 : decode cX0_plugOut 22 = .ok (.if_icmp .eq 10, 3) := by decide +kernel
theorem dX0_plugOut_25 : decode cX0_plugOut 25 = .ok (.aload_n 2, 1) := by decide +kernel
theorem dX0_plugOut_26 : decode cX0_plugOut 26 = .ok (.getfield 65, 3) := by decide +kernel
theorem dX0_plugOut_29 : decode cX0_plugOut 29 = .ok (.ifCond .eq 6, 3) := by decide +kernel
theorem dX0_plugOut_32 : decode cX0_plugOut 32 = .ok (.bipush (-2), 2) := by decide +kernel
theorem dX0_plugOut_34 : decode cX0_plugOut 34 = .ok (.ireturn, 1) := by decide +kernel
theorem dX0_plugOut_35 : decode cX0_plugOut 35 = .ok (.aload_n 2, 1) := by decide +kernel
theorem dX0_plugOut_36 : decode cX0_plugOut 36 = .ok (.getfield 89, 3) := by decide +kernel
theorem dX0_plugOut_39 : decode cX0_plugOut 39 = .ok (.istore_n 3, 1) := by decide +kernel
theorem dX0_plugOut_40 : decode cX0_plugOut 40 = .ok (.aload_n 2, 1) := by decide +kernel
theorem dX0_plugOut_41 : decode cX0_plugOut 41 = .ok (.iconst (-1), 1) := by decide +kernel
theorem dX0_plugOut_42 : decode cX0_plugOut 42 = .ok (.putfield 89, 3) := by decide +kernel
theorem dX0_plugOut_45 : decode cX0_plugOut 45 = .ok (.aload_n 0, 1) := by decide +kernel
theorem dX0_plugOut_46 : decode cX0_plugOut 46 = .ok (.iload_n 3, 1) := by decide +kernel
theorem dX0_plugOut_47 : decode cX0_plugOut 47 = .ok (.invokevirtual 95, 3) := by decide +kernel
theorem dX0_plugOut_50 : decode cX0_plugOut 50 = .ok (.ireturn, 1) := by decide +kernel
theorem dX0_pluggedInto_0 : decode cX0_pluggedInto 0 = .ok (.iconst 0, 1) := by decide +kernel
theorem dX0_pluggedInto_1 : decode cX0_pluggedInto 1 = .ok (.istore_n 2, 1) := by decide +kernel
theorem dX0_pluggedInto_2 : decode cX0_pluggedInto 2 = .ok (.iconst 0, 1) := by decide +kernel
theorem dX0_pluggedInto_3 : decode cX0_pluggedInto 3 = .ok (.istore_n 3, 1) := by decide +kernel
theorem dX0_pluggedInto_4 : decode cX0_pluggedInto 4 = .ok (.iload_n 3, 1) := by decide +kernel
theorem dX0_pluggedInto_5 : decode cX0_pluggedInto 5 = .ok (.aload_n 0, 1) := by decide +kernel
theorem dX0_pluggedInto_6 : decode cX0_pluggedInto 6 = .ok (.getfield 31, 3) := by decide +kernel
theorem dX0_pluggedInto_9 : decode cX0_pluggedInto 9 = .ok (.if_icmp .ge 25, 3) := by decide +kernel
theorem dX0_pluggedInto_12 : decode cX0_pluggedInto 12 = .ok (.aload_n 0, 1) := by decide +kernel
theorem dX0_pluggedInto_13 : decode cX0_pluggedInto 13 = .ok (.getfield 11, 3) := by decide +kernel
theorem dX0_pluggedInto_16 : decode cX0_pluggedInto 16 = .ok (.iload_n 3, 1) := by decide +kernel
theorem dX0_pluggedInto_17 : decode cX0_pluggedInto 17 = .ok (.aaload, 1) := by decide +kernel
theorem dX0_pluggedInto_18 : decode cX0_pluggedInto 18 = .ok (.getfield 89, 3) := by decide +kernel
theorem dX0_pluggedInto_21 : decode cX0_pluggedInto 21 = .ok (.iload_n 1, 1) := by decide +kernel
theorem dX0_pluggedInto_22 : decode cX0_pluggedInto 22 = .ok (.if_icmp .ne 6, 3) := by decide +kernel
theorem dX0_pluggedInto_25 : decode cX0_pluggedInto 25 = .ok (.iinc 2 1, 3) := by decide +kernel
theorem dX0_pluggedInto_28 : decode cX0_pluggedInto 28 = .ok (.iinc 3 1, 3) := by decide +kernel
theorem dX0_pluggedInto_31 : decode cX0_pluggedInto 31 = .ok (.goto (-27), 3) := by decide +kernel
theorem dX0_pluggedInto_34 : decode cX0_pluggedInto 34 = .ok (.iload_n 2, 1) := by decide +kernel
theorem dX0_pluggedInto_35 : decode cX0_pluggedInto 35 = .ok (.ireturn, 1) := by decide +kernel
theorem dX0_roomOnRail_0 : decode cX0_roomOnRail 0 = .ok (.iconst 0, 1) := by decide +kernel
theorem dX0_roomOnRail_1 : decode cX0_roomOnRail 1 = .ok (.istore_n 3, 1) := by decide +kernel
theorem dX0_roomOnRail_2 : decode cX0_roomOnRail 2 = .ok (.iconst 0, 1) := by decide +kernel
theorem dX0_roomOnRail_3 : decode cX0_roomOnRail 3 = .ok (.istore 4, 2) := by decide +kernel
theorem dX0_roomOnRail_5 : decode cX0_roomOnRail 5 = .ok (.iload 4, 2) := by decide +kernel
theorem dX0_roomOnRail_7 : decode cX0_roomOnRail 7 = .ok (.aload_n 0, 1) := by decide +kernel
theorem dX0_roomOnRail_8 : decode cX0_roomOnRail 8 = .ok (.getfield 31, 3) := by decide +kernel
theorem dX0_roomOnRail_11 : decode cX0_roomOnRail 11 = .ok (.if_icmp .ge 34, 3) := by decide +kernel
theorem dX0_roomOnRail_14 : decode cX0_roomOnRail 14 = .ok (.aload_n 0, 1) := by decide +kernel
theorem dX0_roomOnRail_15 : decode cX0_roomOnRail 15 = .ok (.getfield 11, 3) := by decide +kernel
theorem dX0_roomOnRail_18 : decode cX0_roomOnRail 18 = .ok (.iload 4, 2) := by decide +kernel
theorem dX0_roomOnRail_20 : decode cX0_roomOnRail 20 = .ok (.aaload, 1) := by decide +kernel
theorem dX0_roomOnRail_21 : decode cX0_roomOnRail 21 = .ok (.getfield 89, 3) := by decide +kernel
theorem dX0_roomOnRail_24 : decode cX0_roomOnRail 24 = .ok (.iload_n 1, 1) := by decide +kernel
theorem dX0_roomOnRail_25 : decode cX0_roomOnRail 25 = .ok (.if_icmp .ne 14, 3) := by decide +kernel
theorem dX0_roomOnRail_28 : decode cX0_roomOnRail 28 = .ok (.iload_n 3, 1) := by decide +kernel
theorem dX0_roomOnRail_29 : decode cX0_roomOnRail 29 = .ok (.iload_n 2, 1) := by decide +kernel
theorem dX0_roomOnRail_30 : decode cX0_roomOnRail 30 = .ok (.if_icmp .ne 6, 3) := by decide +kernel
theorem dX0_roomOnRail_33 : decode cX0_roomOnRail 33 = .ok (.iload 4, 2) := by decide +kernel
theorem dX0_roomOnRail_35 : decode cX0_roomOnRail 35 = .ok (.ireturn, 1) := by decide +kernel
theorem dX0_roomOnRail_36 : decode cX0_roomOnRail 36 = .ok (.iinc 3 1, 3) := by decide +kernel
theorem dX0_roomOnRail_39 : decode cX0_roomOnRail 39 = .ok (.iinc 4 1, 3) := by decide +kernel
theorem dX0_roomOnRail_42 : decode cX0_roomOnRail 42 = .ok (.goto (-37), 3) := by decide +kernel
theorem dX0_roomOnRail_45 : decode cX0_roomOnRail 45 = .ok (.bipush (-4), 2) := by decide +kernel
theorem dX0_roomOnRail_47 : decode cX0_roomOnRail 47 = .ok (.ireturn, 1) := by decide +kernel
set_option maxRecDepth 20000 in
theorem ggX0_setLimit_X3_outside : GoodIn wsX0_setLimit wsX3_outside := goodIn_r _ [4] (by decide +kernel) (by decide +kernel)
set_option maxRecDepth 20000 in
theorem gX0_setLimit_X3_outside_n82 : GoodIn wsX0_setLimit (wsX3_outside) := ggX0_setLimit_X3_outside
theorem dX0_setLimit_0 : decode cX0_setLimit 0 = .ok (.iload_n 1, 1) := by decide +kernel
theorem dX0_setLimit_1 : decode cX0_setLimit 1 = .ok (.iconst 0, 1) := by decide +kernel
theorem dX0_setLimit_2 : decode cX0_setLimit 2 = .ok (.iconst 1, 1) := by decide +kernel
theorem dX0_setLimit_3 : decode cX0_setLimit 3 = .ok (.invokestatic 82, 3) := by decide +kernel
theorem dX0_setLimit_6 : decode cX0_setLimit 6 = .ok (.ifCond .ne 12, 3) := by decide +kernel
theorem dX0_setLimit_9 : decode cX0_setLimit 9 = .ok (.iload_n 2, 1) := by decide +kernel
theorem dX0_setLimit_10 : decode cX0_setLimit 10 = .ok (.iconst 1, 1) := by decide +kernel
theorem dX0_setLimit_11 : decode cX0_setLimit 11 = .ok (.iconst 4, 1) := by decide +kernel
theorem dX0_setLimit_12 : decode cX0_setLimit 12 = .ok (.invokestatic 82, 3) := by decide +kernel
theorem dX0_setLimit_15 : decode cX0_setLimit 15 = .ok (.ifCond .eq 5, 3) := by decide +kernel
theorem dX0_setLimit_18 : decode cX0_setLimit 18 = .ok (.iconst (-1), 1) := by decide +kernel
theorem dX0_setLimit_19 : decode cX0_setLimit 19 = .ok (.ireturn, 1) := by decide +kernel
theorem dX0_setLimit_20 : decode cX0_setLimit 20 = .ok (.aload_n 0, 1) := by decide +kernel
theorem dX0_setLimit_21 : decode cX0_setLimit 21 = .ok (.getfield 17, 3) := by decide +kernel
theorem dX0_setLimit_24 : decode cX0_setLimit 24 = .ok (.iload_n 1, 1) := by decide +kernel
theorem dX0_setLimit_25 : decode cX0_setLimit 25 = .ok (.iaload, 1) := by decide +kernel
theorem dX0_setLimit_26 : decode cX0_setLimit 26 = .ok (.istore_n 3, 1) := by decide +kernel
theorem dX0_setLimit_27 : decode cX0_setLimit 27 = .ok (.aload_n 0, 1) := by decide +kernel
theorem dX0_setLimit_28 : decode cX0_setLimit 28 = .ok (.getfield 17, 3) := by decide +kernel
theorem dX0_setLimit_31 : decode cX0_setLimit 31 = .ok (.iload_n 1, 1) := by decide +kernel
theorem dX0_setLimit_32 : decode cX0_setLimit 32 = .ok (.iload_n 2, 1) := by decide +kernel
theorem dX0_setLimit_33 : decode cX0_setLimit 33 = .ok (.iastore, 1) := by decide +kernel
theorem dX0_setLimit_34 : decode cX0_setLimit 34 = .ok (.iload_n 3, 1) := by decide +kernel
theorem dX0_setLimit_35 : decode cX0_setLimit 35 = .ok (.ireturn, 1) := by decide +kernel
set_option maxRecDepth 20000 in
theorem ggX0_setPolicy_X0_hasRoom : GoodIn wsX0_setPolicy wsX0_hasRoom := goodIn_r _ [8, 9, 13, 14, 15, 16, 17, 18, 19, 20] (by decide +kernel) (by decide +kernel)
set_option maxRecDepth 20000 in
theorem gX0_setPolicy_X0_hasRoom : GoodIn wsX0_setPolicy (wsV RX0 78 RX0 yX0_hasRoom wsX0_hasRoom) := goodIn_app (goodIn_of _ (by decide +kernel)) ggX0_setPolicy_X0_hasRoom
set_option maxRecDepth 20000 in
theorem ggX0_setPolicy_X3_outside : GoodIn wsX0_setPolicy wsX3_outside := goodIn_r _ [12] (by decide +kernel) (by decide +kernel)
set_option maxRecDepth 20000 in
theorem gX0_setPolicy_X3_outside_n82 : GoodIn wsX0_setPolicy (wsX3_outside) := ggX0_setPolicy_X3_outside
theorem dX0_setPolicy_0 : decode cX0_setPolicy 0 = .ok (.aload_n 0, 1) := by decide +kernel
theorem dX0_setPolicy_1 : decode cX0_setPolicy 1 = .ok (.iload_n 1, 1) := by decide +kernel
theorem dX0_setPolicy_2 : decode cX0_setPolicy 2 = .ok (.invokevirtual 78, 3) := by decide +kernel
theorem dX0_setPolicy_5 : decode cX0_setPolicy 5 = .ok (.ifCond .eq 22, 3) := by decide +kernel
theorem dX0_setPolicy_8 : decode cX0_setPolicy 8 = .ok (.iload_n 2, 1) := by decide +kernel
theorem dX0_setPolicy_9 : decode cX0_setPolicy 9 = .ok (.iconst 0, 1) := by decide +kernel
theorem dX0_setPolicy_10 : decode cX0_setPolicy 10 = .ok (.bipush 99, 2) := by decide +kernel
theorem dX0_setPolicy_12 : decode cX0_setPolicy 12 = .ok (.invokestatic 82, 3) := by decide +kernel
theorem dX0_setPolicy_15 : decode cX0_setPolicy 15 = .ok (.ifCond .ne 12, 3) := by decide +kernel
theorem dX0_setPolicy_18 : decode cX0_setPolicy 18 = .ok (.iload_n 3, 1) := by decide +kernel
theorem dX0_setPolicy_19 : decode cX0_setPolicy 19 = .ok (.iconst 0, 1) := by decide +kernel
theorem dX0_setPolicy_20 : decode cX0_setPolicy 20 = .ok (.iconst 2, 1) := by decide +kernel
theorem dX0_setPolicy_21 : decode cX0_setPolicy 21 = .ok (.invokestatic 82, 3) := by decide +kernel
theorem dX0_setPolicy_24 : decode cX0_setPolicy 24 = .ok (.ifCond .eq 5, 3) := by decide +kernel
theorem dX0_setPolicy_27 : decode cX0_setPolicy 27 = .ok (.iconst (-1), 1) := by decide +kernel
theorem dX0_setPolicy_28 : decode cX0_setPolicy 28 = .ok (.ireturn, 1) := by decide +kernel
theorem dX0_setPolicy_29 : decode cX0_setPolicy 29 = .ok (.aload_n 0, 1) := by decide +kernel
theorem dX0_setPolicy_30 : decode cX0_setPolicy 30 = .ok (.getfield 11, 3) := by decide +kernel
theorem dX0_setPolicy_33 : decode cX0_setPolicy 33 = .ok (.iload_n 1, 1) := by decide +kernel
theorem dX0_setPolicy_34 : decode cX0_setPolicy 34 = .ok (.aaload, 1) := by decide +kernel
theorem dX0_setPolicy_35 : decode cX0_setPolicy 35 = .ok (.astore 4, 2) := by decide +kernel
theorem dX0_setPolicy_37 : decode cX0_setPolicy 37 = .ok (.bipush 10, 2) := by decide +kernel
theorem dX0_setPolicy_39 : decode cX0_setPolicy 39 = .ok (.aload 4, 2) := by decide +kernel
theorem dX0_setPolicy_41 : decode cX0_setPolicy 41 = .ok (.getfield 98, 3) := by decide +kernel
theorem dX0_setPolicy_44 : decode cX0_setPolicy 44 = .ok (.imul, 1) := by decide +kernel
theorem dX0_setPolicy_45 : decode cX0_setPolicy 45 = .ok (.aload 4, 2) := by decide +kernel
theorem dX0_setPolicy_47 : decode cX0_setPolicy 47 = .ok (.getfield 101, 3) := by decide +kernel
theorem dX0_setPolicy_50 : decode cX0_setPolicy 50 = .ok (.iadd, 1) := by decide +kernel
theorem dX0_setPolicy_51 : decode cX0_setPolicy 51 = .ok (.istore 5, 2) := by decide +kernel
theorem dX0_setPolicy_53 : decode cX0_setPolicy 53 = .ok (.aload 4, 2) := by decide +kernel
theorem dX0_setPolicy_55 : decode cX0_setPolicy 55 = .ok (.iload_n 2, 1) := by decide +kernel
theorem dX0_setPolicy_56 : decode cX0_setPolicy 56 = .ok (.putfield 98, 3) := by decide +kernel
theorem dX0_setPolicy_59 : decode cX0_setPolicy 59 = .ok (.aload 4, 2) := by decide +kernel
theorem dX0_setPolicy_61 : decode cX0_setPolicy 61 = .ok (.iload_n 3, 1) := by decide +kernel
theorem dX0_setPolicy_62 : decode cX0_setPolicy 62 = .ok (.putfield 101, 3) := by decide +kernel
theorem dX0_setPolicy_65 : decode cX0_setPolicy 65 = .ok (.iload 5, 2) := by decide +kernel
theorem dX0_setPolicy_67 : decode cX0_setPolicy 67 = .ok (.ireturn, 1) := by decide +kernel
set_option maxRecDepth 20000 in
theorem ggX0_planUse_X0_hasRoom : GoodIn wsX0_planUse wsX0_hasRoom := goodIn_r _ [11, 12, 16, 17, 18, 19, 20, 21, 22, 23] (by decide +kernel) (by decide +kernel)
set_option maxRecDepth 20000 in
theorem gX0_planUse_X0_hasRoom : GoodIn wsX0_planUse (wsV RX0 78 RX0 yX0_hasRoom wsX0_hasRoom) := goodIn_app (goodIn_of _ (by decide +kernel)) ggX0_planUse_X0_hasRoom
set_option maxRecDepth 20000 in
theorem ggX0_planUse_X3_outside : GoodIn wsX0_planUse wsX3_outside := goodIn_r _ [15] (by decide +kernel) (by decide +kernel)
set_option maxRecDepth 20000 in
theorem gX0_planUse_X3_outside_n82 : GoodIn wsX0_planUse (wsX3_outside) := ggX0_planUse_X3_outside
theorem dX0_planUse_0 : decode cX0_planUse 0 = .ok (.aload_n 0, 1) := by decide +kernel
theorem dX0_planUse_1 : decode cX0_planUse 1 = .ok (.iload_n 1, 1) := by decide +kernel
theorem dX0_planUse_2 : decode cX0_planUse 2 = .ok (.invokevirtual 78, 3) := by decide +kernel
theorem dX0_planUse_5 : decode cX0_planUse 5 = .ok (.ifCond .eq 26, 3) := by decide +kernel
theorem dX0_planUse_8 : decode cX0_planUse 8 = .ok (.iload_n 2, 1) := by decide +kernel
theorem dX0_planUse_9 : decode cX0_planUse 9 = .ok (.aload_n 0, 1) := by decide +kernel
theorem dX0_planUse_10 : decode cX0_planUse 10 = .ok (.getfield 48, 3) := by decide +kernel
theorem dX0_planUse_13 : decode cX0_planUse 13 = .ok (.ldc 104, 2) := by decide +kernel
theorem dX0_planUse_15 : decode cX0_planUse 15 = .ok (.invokestatic 82, 3) := by decide +kernel
theorem dX0_planUse_18 : decode cX0_planUse 18 = .ok (.ifCond .ne 13, 3) := by decide +kernel
theorem dX0_planUse_21 : decode cX0_planUse 21 = .ok (.iload_n 3, 1) := by decide +kernel
theorem dX0_planUse_22 : decode cX0_planUse 22 = .ok (.iconst 1, 1) := by decide +kernel
theorem dX0_planUse_23 : decode cX0_planUse 23 = .ok (.bipush 50, 2) := by decide +kernel
theorem dX0_planUse_25 : decode cX0_planUse 25 = .ok (.invokestatic 82, 3) := by decide +kernel
theorem dX0_planUse_28 : decode cX0_planUse 28 = .ok (.ifCond .eq 5, 3) := by decide +kernel
theorem dX0_planUse_31 : decode cX0_planUse 31 = .ok (.iconst (-1), 1) := by decide +kernel
theorem dX0_planUse_32 : decode cX0_planUse 32 = .ok (.ireturn, 1) := by decide +kernel
theorem dX0_planUse_33 : decode cX0_planUse 33 = .ok (.aload_n 0, 1) := by decide +kernel
theorem dX0_planUse_34 : decode cX0_planUse 34 = .ok (.getfield 45, 3) := by decide +kernel
theorem dX0_planUse_37 : decode cX0_planUse 37 = .ok (.bipush 12, 2) := by decide +kernel
theorem dX0_planUse_39 : decode cX0_planUse 39 = .ok (.if_icmp .lt 6, 3) := by decide +kernel
theorem dX0_planUse_42 : decode cX0_planUse 42 = .ok (.bipush (-3), 2) := by decide +kernel
theorem dX0_planUse_44 : decode cX0_planUse 44 = .ok (.ireturn, 1) := by decide +kernel
theorem dX0_planUse_45 : decode cX0_planUse 45 = .ok (.aload_n 0, 1) := by decide +kernel
theorem dX0_planUse_46 : decode cX0_planUse 46 = .ok (.getfield 21, 3) := by decide +kernel
theorem dX0_planUse_49 : decode cX0_planUse 49 = .ok (.aload_n 0, 1) := by decide +kernel
theorem dX0_planUse_50 : decode cX0_planUse 50 = .ok (.getfield 45, 3) := by decide +kernel
theorem dX0_planUse_53 : decode cX0_planUse 53 = .ok (.iload_n 1, 1) := by decide +kernel
theorem dX0_planUse_54 : decode cX0_planUse 54 = .ok (.iastore, 1) := by decide +kernel
theorem dX0_planUse_55 : decode cX0_planUse 55 = .ok (.aload_n 0, 1) := by decide +kernel
theorem dX0_planUse_56 : decode cX0_planUse 56 = .ok (.getfield 24, 3) := by decide +kernel
theorem dX0_planUse_59 : decode cX0_planUse 59 = .ok (.aload_n 0, 1) := by decide +kernel
theorem dX0_planUse_60 : decode cX0_planUse 60 = .ok (.getfield 45, 3) := by decide +kernel
theorem dX0_planUse_63 : decode cX0_planUse 63 = .ok (.iload_n 2, 1) := by decide +kernel
theorem dX0_planUse_64 : decode cX0_planUse 64 = .ok (.iastore, 1) := by decide +kernel
theorem dX0_planUse_65 : decode cX0_planUse 65 = .ok (.aload_n 0, 1) := by decide +kernel
theorem dX0_planUse_66 : decode cX0_planUse 66 = .ok (.getfield 27, 3) := by decide +kernel
theorem dX0_planUse_69 : decode cX0_planUse 69 = .ok (.aload_n 0, 1) := by decide +kernel
theorem dX0_planUse_70 : decode cX0_planUse 70 = .ok (.getfield 45, 3) := by decide +kernel
theorem dX0_planUse_73 : decode cX0_planUse 73 = .ok (.iload_n 3, 1) := by decide +kernel
theorem dX0_planUse_74 : decode cX0_planUse 74 = .ok (.iastore, 1) := by decide +kernel
theorem dX0_planUse_75 : decode cX0_planUse 75 = .ok (.aload_n 0, 1) := by decide +kernel
theorem dX0_planUse_76 : decode cX0_planUse 76 = .ok (.dup, 1) := by decide +kernel
theorem dX0_planUse_77 : decode cX0_planUse 77 = .ok (.getfield 45, 3) := by decide +kernel
theorem dX0_planUse_80 : decode cX0_planUse 80 = .ok (.iconst 1, 1) := by decide +kernel
theorem dX0_planUse_81 : decode cX0_planUse 81 = .ok (.iadd, 1) := by decide +kernel
theorem dX0_planUse_82 : decode cX0_planUse 82 = .ok (.putfield 45, 3) := by decide +kernel
theorem dX0_planUse_85 : decode cX0_planUse 85 = .ok (.aload_n 0, 1) := by decide +kernel
theorem dX0_planUse_86 : decode cX0_planUse 86 = .ok (.getfield 45, 3) := by decide +kernel
theorem dX0_planUse_89 : decode cX0_planUse 89 = .ok (.ireturn, 1) := by decide +kernel
set_option maxRecDepth 20000 in
theorem ggX0_dropUse_X0_hasUse : GoodIn wsX0_dropUse wsX0_hasUse := goodIn_r _ [6, 7, 14, 15, 16, 17, 18, 19, 20, 21] (by decide +kernel) (by decide +kernel)
set_option maxRecDepth 20000 in
theorem gX0_dropUse_X0_hasUse : GoodIn wsX0_dropUse (wsV RX0 105 RX0 yX0_hasUse wsX0_hasUse) := goodIn_app (goodIn_of _ (by decide +kernel)) ggX0_dropUse_X0_hasUse
set_option maxRecDepth 20000 in
theorem ggX0_dropUse_X0_removeUse : GoodIn wsX0_dropUse wsX0_removeUse := goodIn_r _ [11, 7, 1, 12, 13, 14, 15, 16, 17, 18, 19, 20, 21] (by decide +kernel) (by decide +kernel)
set_option maxRecDepth 20000 in
theorem gX0_dropUse_X0_removeUse : GoodIn wsX0_dropUse (wsV RX0 108 RX0 yX0_removeUse wsX0_removeUse) := goodIn_app (goodIn_of _ (by decide +kernel)) ggX0_dropUse_X0_removeUse
theorem dX0_dropUse_0 : decode cX0_dropUse 0 = .ok (.aload_n 0, 1) := by decide +kernel
theorem dX0_dropUse_1 : decode cX0_dropUse 1 = .ok (.iload_n 1, 1) := by decide +kernel
theorem dX0_dropUse_2 : decode cX0_dropUse 2 = .ok (.invokevirtual 105, 3) := by decide +kernel
theorem dX0_dropUse_5 : decode cX0_dropUse 5 = .ok (.ifCond .ne 5, 3) := by decide +kernel
theorem dX0_dropUse_8 : decode cX0_dropUse 8 = .ok (.iconst (-1), 1) := by decide +kernel
theorem dX0_dropUse_9 : decode cX0_dropUse 9 = .ok (.ireturn, 1) := by decide +kernel
theorem dX0_dropUse_10 : decode cX0_dropUse 10 = .ok (.aload_n 0, 1) := by decide +kernel
theorem dX0_dropUse_11 : decode cX0_dropUse 11 = .ok (.getfield 21, 3) := by decide +kernel
theorem dX0_dropUse_14 : decode cX0_dropUse 14 = .ok (.iload_n 1, 1) := by decide +kernel
theorem dX0_dropUse_15 : decode cX0_dropUse 15 = .ok (.iaload, 1) := by decide +kernel
theorem dX0_dropUse_16 : decode cX0_dropUse 16 = .ok (.istore_n 2, 1) := by decide +kernel
theorem dX0_dropUse_17 : decode cX0_dropUse 17 = .ok (.aload_n 0, 1) := by decide +kernel
theorem dX0_dropUse_18 : decode cX0_dropUse 18 = .ok (.iload_n 1, 1) := by decide +kernel
theorem dX0_dropUse_19 : decode cX0_dropUse 19 = .ok (.invokevirtual 108, 3) := by decide +kernel
theorem dX0_dropUse_22 : decode cX0_dropUse 22 = .ok (.iload_n 2, 1) := by decide +kernel
theorem dX0_dropUse_23 : decode cX0_dropUse 23 = .ok (.ireturn, 1) := by decide +kernel
theorem dX0_removeUse_0 : decode cX0_removeUse 0 = .ok (.iload_n 1, 1) := by decide +kernel
theorem dX0_removeUse_1 : decode cX0_removeUse 1 = .ok (.istore_n 2, 1) := by decide +kernel
theorem dX0_removeUse_2 : decode cX0_removeUse 2 = .ok (.iload_n 2, 1) := by decide +kernel
theorem dX0_removeUse_3 : decode cX0_removeUse 3 = .ok (.iconst 1, 1) := by decide +kernel
theorem dX0_removeUse_4 : decode cX0_removeUse 4 = .ok (.iadd, 1) := by decide +kernel
theorem dX0_removeUse_5 : decode cX0_removeUse 5 = .ok (.aload_n 0, 1) := by decide +kernel
theorem dX0_removeUse_6 : decode cX0_removeUse 6 = .ok (.getfield 45, 3) := by decide +kernel
theorem dX0_removeUse_9 : decode cX0_removeUse 9 = .ok (.if_icmp .ge 51, 3) := by decide +kernel
theorem dX0_removeUse_12 : decode cX0_removeUse 12 = .ok (.aload_n 0, 1) := by decide +kernel
theorem dX0_removeUse_13 : decode cX0_removeUse 13 = .ok (.getfield 21, 3) := by decide +kernel
theorem dX0_removeUse_16 : decode cX0_removeUse 16 = .ok (.iload_n 2, 1) := by decide +kernel
theorem dX0_removeUse_17 : decode cX0_removeUse 17 = .ok (.aload_n 0, 1) := by decide +kernel
theorem dX0_removeUse_18 : decode cX0_removeUse 18 = .ok (.getfield 21, 3) := by decide +kernel
theorem dX0_removeUse_21 : decode cX0_removeUse 21 = .ok (.iload_n 2, 1) := by decide +kernel
theorem dX0_removeUse_22 : decode cX0_removeUse 22 = .ok (.iconst 1, 1) := by decide +kernel
theorem dX0_removeUse_23 : decode cX0_removeUse 23 = .ok (.iadd, 1) := by decide +kernel
theorem dX0_removeUse_24 : decode cX0_removeUse 24 = .ok (.iaload, 1) := by decide +kernel
theorem dX0_removeUse_25 : decode cX0_removeUse 25 = .ok (.iastore, 1) := by decide +kernel
theorem dX0_removeUse_26 : decode cX0_removeUse 26 = .ok (.aload_n 0, 1) := by decide +kernel
theorem dX0_removeUse_27 : decode cX0_removeUse 27 = .ok (.getfield 24, 3) := by decide +kernel
theorem dX0_removeUse_30 : decode cX0_removeUse 30 = .ok (.iload_n 2, 1) := by decide +kernel
theorem dX0_removeUse_31 : decode cX0_removeUse 31 = .ok (.aload_n 0, 1) := by decide +kernel
theorem dX0_removeUse_32 : decode cX0_removeUse 32 = .ok (.getfield 24, 3) := by decide +kernel
theorem dX0_removeUse_35 : decode cX0_removeUse 35 = .ok (.iload_n 2, 1) := by decide +kernel
theorem dX0_removeUse_36 : decode cX0_removeUse 36 = .ok (.iconst 1, 1) := by decide +kernel
theorem dX0_removeUse_37 : decode cX0_removeUse 37 = .ok (.iadd, 1) := by decide +kernel
theorem dX0_removeUse_38 : decode cX0_removeUse 38 = .ok (.iaload, 1) := by decide +kernel
theorem dX0_removeUse_39 : decode cX0_removeUse 39 = .ok (.iastore, 1) := by decide +kernel
theorem dX0_removeUse_40 : decode cX0_removeUse 40 = .ok (.aload_n 0, 1) := by decide +kernel
theorem dX0_removeUse_41 : decode cX0_removeUse 41 = .ok (.getfield 27, 3) := by decide +kernel
theorem dX0_removeUse_44 : decode cX0_removeUse 44 = .ok (.iload_n 2, 1) := by decide +kernel
theorem dX0_removeUse_45 : decode cX0_removeUse 45 = .ok (.aload_n 0, 1) := by decide +kernel
theorem dX0_removeUse_46 : decode cX0_removeUse 46 = .ok (.getfield 27, 3) := by decide +kernel
theorem dX0_removeUse_49 : decode cX0_removeUse 49 = .ok (.iload_n 2, 1) := by decide +kernel
theorem dX0_removeUse_50 : decode cX0_removeUse 50 = .ok (.iconst 1, 1) := by decide +kernel
theorem dX0_removeUse_51 : decode cX0_removeUse 51 = .ok (.iadd, 1) := by decide +kernel
theorem dX0_removeUse_52 : decode cX0_removeUse 52 = .ok (.iaload, 1) := by decide +kernel
theorem dX0_removeUse_53 : decode cX0_removeUse 53 = .ok (.iastore, 1) := by decide +kernel
theorem dX0_removeUse_54 : decode cX0_removeUse 54 = .ok (.iinc 2 1, 3) := by decide +kernel
theorem dX0_removeUse_57 : decode cX0_removeUse 57 = .ok (.goto (-55), 3) := by decide +kernel
theorem dX0_removeUse_60 : decode cX0_removeUse 60 = .ok (.aload_n 0, 1) := by decide +kernel
theorem dX0_removeUse_61 : decode cX0_removeUse 61 = .ok (.dup, 1) := by decide +kernel
theorem dX0_removeUse_62 : decode cX0_removeUse 62 = .ok (.getfield 45, 3) := by decide +kernel
theorem dX0_removeUse_65 : decode cX0_removeUse 65 = .ok (.iconst 1, 1) := by decide +kernel
theorem dX0_removeUse_66 : decode cX0_removeUse 66 = .ok (.isub, 1) := by decide +kernel
theorem dX0_removeUse_67 : decode cX0_removeUse 67 = .ok (.putfield 45, 3) := by decide +kernel
theorem dX0_removeUse_70 : decode cX0_removeUse 70 = .ok (.return_, 1) := by decide +kernel
theorem dX0_usesOf_0 : decode cX0_usesOf 0 = .ok (.iconst 0, 1) := by decide +kernel
theorem dX0_usesOf_1 : decode cX0_usesOf 1 = .ok (.istore_n 2, 1) := by decide +kernel
theorem dX0_usesOf_2 : decode cX0_usesOf 2 = .ok (.iconst 0, 1) := by decide +kernel
theorem dX0_usesOf_3 : decode cX0_usesOf 3 = .ok (.istore_n 3, 1) := by decide +kernel
theorem dX0_usesOf_4 : decode cX0_usesOf 4 = .ok (.iload_n 3, 1) := by decide +kernel
theorem dX0_usesOf_5 : decode cX0_usesOf 5 = .ok (.aload_n 0, 1) := by decide +kernel
theorem dX0_usesOf_6 : decode cX0_usesOf 6 = .ok (.getfield 45, 3) := by decide +kernel
theorem dX0_usesOf_9 : decode cX0_usesOf 9 = .ok (.if_icmp .ge 22, 3) := by decide +kernel
theorem dX0_usesOf_12 : decode cX0_usesOf 12 = .ok (.aload_n 0, 1) := by decide +kernel
theorem dX0_usesOf_13 : decode cX0_usesOf 13 = .ok (.getfield 21, 3) := by decide +kernel
theorem dX0_usesOf_16 : decode cX0_usesOf 16 = .ok (.iload_n 3, 1) := by decide +kernel
theorem dX0_usesOf_17 : decode cX0_usesOf 17 = .ok (.iaload, 1) := by decide +kernel
theorem dX0_usesOf_18 : decode cX0_usesOf 18 = .ok (.iload_n 1, 1) := by decide +kernel
theorem dX0_usesOf_19 : decode cX0_usesOf 19 = .ok (.if_icmp .ne 6, 3) := by decide +kernel
theorem dX0_usesOf_22 : decode cX0_usesOf 22 = .ok (.iinc 2 1, 3) := by decide +kernel
theorem dX0_usesOf_25 : decode cX0_usesOf 25 = .ok (.iinc 3 1, 3) := by decide +kernel
theorem dX0_usesOf_28 : decode cX0_usesOf 28 = .ok (.goto (-24), 3) := by decide +kernel
theorem dX0_usesOf_31 : decode cX0_usesOf 31 = .ok (.iload_n 2, 1) := by decide +kernel
theorem dX0_usesOf_32 : decode cX0_usesOf 32 = .ok (.ireturn, 1) := by decide +kernel
theorem dX0_firstUseOf_0 : decode cX0_firstUseOf 0 = .ok (.iconst (-1), 1) := by decide +kernel
theorem dX0_firstUseOf_1 : decode cX0_firstUseOf 1 = .ok (.istore_n 2, 1) := by decide +kernel
theorem dX0_firstUseOf_2 : decode cX0_firstUseOf 2 = .ok (.iconst 0, 1) := by decide +kernel
theorem dX0_firstUseOf_3 : decode cX0_firstUseOf 3 = .ok (.istore_n 3, 1) := by decide +kernel
theorem dX0_firstUseOf_4 : decode cX0_firstUseOf 4 = .ok (.iconst 0, 1) := by decide +kernel
theorem dX0_firstUseOf_5 : decode cX0_firstUseOf 5 = .ok (.istore 4, 2) := by decide +kernel
theorem dX0_firstUseOf_7 : decode cX0_firstUseOf 7 = .ok (.iload 4, 2) := by decide +kernel
theorem dX0_firstUseOf_9 : decode cX0_firstUseOf 9 = .ok (.aload_n 0, 1) := by decide +kernel
theorem dX0_firstUseOf_10 : decode cX0_firstUseOf 10 = .ok (.getfield 45, 3) := by decide +kernel
theorem dX0_firstUseOf_13 : decode cX0_firstUseOf 13 = .ok (.if_icmp .ge 47, 3) := by decide +kernel
theorem dX0_firstUseOf_16 : decode cX0_firstUseOf 16 = .ok (.aload_n 0, 1) := by decide +kernel
theorem dX0_firstUseOf_17 : decode cX0_firstUseOf 17 = .ok (.getfield 21, 3) := by decide +kernel
theorem dX0_firstUseOf_20 : decode cX0_firstUseOf 20 = .ok (.iload 4, 2) := by decide +kernel
theorem dX0_firstUseOf_22 : decode cX0_firstUseOf 22 = .ok (.iaload, 1) := by decide +kernel
theorem dX0_firstUseOf_23 : decode cX0_firstUseOf 23 = .ok (.iload_n 1, 1) := by decide +kernel
theorem dX0_firstUseOf_24 : decode cX0_firstUseOf 24 = .ok (.if_icmp .ne 30, 3) := by decide +kernel
theorem dX0_firstUseOf_27 : decode cX0_firstUseOf 27 = .ok (.iload_n 2, 1) := by decide +kernel
theorem dX0_firstUseOf_28 : decode cX0_firstUseOf 28 = .ok (.iconst (-1), 1) := by decide +kernel
theorem dX0_firstUseOf_29 : decode cX0_firstUseOf 29 = .ok (.if_icmp .eq 14, 3) := by decide +kernel
theorem dX0_firstUseOf_32 : decode cX0_firstUseOf 32 = .ok (.aload_n 0, 1) := by decide +kernel
theorem dX0_firstUseOf_33 : decode cX0_firstUseOf 33 = .ok (.getfield 24, 3) := by decide +kernel
theorem dX0_firstUseOf_36 : decode cX0_firstUseOf 36 = .ok (.iload 4, 2) := by decide +kernel
theorem dX0_firstUseOf_38 : decode cX0_firstUseOf 38 = .ok (.iaload, 1) := by decide +kernel
theorem dX0_firstUseOf_39 : decode cX0_firstUseOf 39 = .ok (.iload_n 3, 1) := by decide +kernel
theorem dX0_firstUseOf_40 : decode cX0_firstUseOf 40 = .ok (.if_icmp .ge 14, 3) := by decide +kernel
theorem dX0_firstUseOf_43 : decode cX0_firstUseOf 43 = .ok (.iload 4, 2) := by decide +kernel
theorem dX0_firstUseOf_45 : decode cX0_firstUseOf 45 = .ok (.istore_n 2, 1) := by decide +kernel
theorem dX0_firstUseOf_46 : decode cX0_firstUseOf 46 = .ok (.aload_n 0, 1) := by decide +kernel
theorem dX0_firstUseOf_47 : decode cX0_firstUseOf 47 = .ok (.getfield 24, 3) := by decide +kernel
theorem dX0_firstUseOf_50 : decode cX0_firstUseOf 50 = .ok (.iload 4, 2) := by decide +kernel
theorem dX0_firstUseOf_52 : decode cX0_firstUseOf 52 = .ok (.iaload, 1) := by decide +kernel
theorem dX0_firstUseOf_53 : decode cX0_firstUseOf 53 = .ok (.istore_n 3, 1) := by decide +kernel
theorem dX0_firstUseOf_54 : decode cX0_firstUseOf 54 = .ok (.iinc 4 1, 3) := by decide +kernel
theorem dX0_firstUseOf_57 : decode cX0_firstUseOf 57 = .ok (.goto (-50), 3) := by decide +kernel
theorem dX0_firstUseOf_60 : decode cX0_firstUseOf 60 = .ok (.iload_n 2, 1) := by decide +kernel
theorem dX0_firstUseOf_61 : decode cX0_firstUseOf 61 = .ok (.ireturn, 1) := by decide +kernel
set_option maxRecDepth 20000 in
theorem ggX0_isCalled_X0_firstUseOf : GoodIn wsX0_isCalled wsX0_firstUseOf := goodIn_r _ [10, 11, 12, 4, 28, 29, 30, 31, 32, 33, 34, 35] (by decide +kernel) (by decide +kernel)
set_option maxRecDepth 20000 in
theorem gX0_isCalled_X0_firstUseOf : GoodIn wsX0_isCalled (wsV RX0 112 RX0 yX0_firstUseOf wsX0_firstUseOf) := goodIn_app (goodIn_of _ (by decide +kernel)) ggX0_isCalled_X0_firstUseOf
set_option maxRecDepth 20000 in
theorem ggX0_isCalled_X0_hasUse : GoodIn wsX0_isCalled wsX0_hasUse := goodIn_r _ [16, 11, 28, 29, 30, 31, 32, 33, 34, 35] (by decide +kernel) (by decide +kernel)
set_option maxRecDepth 20000 in
theorem gX0_isCalled_X0_hasUse : GoodIn wsX0_isCalled (wsV RX0 105 RX0 yX0_hasUse wsX0_hasUse) := goodIn_app (goodIn_of _ (by decide +kernel)) ggX0_isCalled_X0_hasUse
set_option maxRecDepth 20000 in
theorem ggX0_isCalled_X2_isGuessedByGap : GoodIn wsX0_isCalled wsX2_isGuessedByGap := goodIn_r _ [21, 22, 23, 24, 25, 26, 27, 36, 37, 38, 39, 40, 41, 42, 43, 44, 45, 46, 47, 48, 49, 50] (by decide +kernel) (by decide +kernel)
set_option maxRecDepth 20000 in
theorem gX0_isCalled_X2_isGuessedByGap : GoodIn wsX0_isCalled (wsV RX0 118 RX2 yX2_isGuessedByGap wsX2_isGuessedByGap) := goodIn_app (goodIn_of _ (by decide +kernel)) ggX0_isCalled_X2_isGuessedByGap
theorem dX0_isCalled_0 : decode cX0_isCalled 0 = .ok (.aload_n 0, 1) := by decide +kernel
theorem dX0_isCalled_1 : decode cX0_isCalled 1 = .ok (.getfield 11, 3) := by decide +kernel
theorem dX0_isCalled_4 : decode cX0_isCalled 4 = .ok (.iload_n 1, 1) := by decide +kernel
theorem dX0_isCalled_5 : decode cX0_isCalled 5 = .ok (.aaload, 1) := by decide +kernel
theorem dX0_isCalled_6 : decode cX0_isCalled 6 = .ok (.astore_n 2, 1) := by decide +kernel
theorem dX0_isCalled_7 : decode cX0_isCalled 7 = .ok (.aload_n 0, 1) := by decide +kernel
theorem dX0_isCalled_8 : decode cX0_isCalled 8 = .ok (.iload_n 1, 1) := by decide +kernel
theorem dX0_isCalled_9 : decode cX0_isCalled 9 = .ok (.invokevirtual 112, 3) := by decide +kernel
theorem dX0_isCalled_12 : decode cX0_isCalled 12 = .ok (.istore_n 3, 1) := by decide +kernel
theorem dX0_isCalled_13 : decode cX0_isCalled 13 = .ok (.aload_n 0, 1) := by decide +kernel
theorem dX0_isCalled_14 : decode cX0_isCalled 14 = .ok (.iload_n 3, 1) := by decide +kernel
theorem dX0_isCalled_15 : decode cX0_isCalled 15 = .ok (.invokevirtual 105, 3) := by decide +kernel
theorem dX0_isCalled_18 : decode cX0_isCalled 18 = .ok (.ifCond .eq 41, 3) := by decide +kernel
theorem dX0_isCalled_21 : decode cX0_isCalled 21 = .ok (.aload_n 2, 1) := by decide +kernel
theorem dX0_isCalled_22 : decode cX0_isCalled 22 = .ok (.getfield 101, 3) := by decide +kernel
theorem dX0_isCalled_25 : decode cX0_isCalled 25 = .ok (.iconst 1, 1) := by decide +kernel
theorem dX0_isCalled_26 : decode cX0_isCalled 26 = .ok (.if_icmp .ne 12, 3) := by decide +kernel
theorem dX0_isCalled_29 : decode cX0_isCalled 29 = .ok (.aload_n 2, 1) := by decide +kernel
theorem dX0_isCalled_30 : decode cX0_isCalled 30 = .ok (.getfield 115, 3) := by decide +kernel
theorem dX0_isCalled_33 : decode cX0_isCalled 33 = .ok (.iconst 1, 1) := by decide +kernel
theorem dX0_isCalled_34 : decode cX0_isCalled 34 = .ok (.iaload, 1) := by decide +kernel
theorem dX0_isCalled_35 : decode cX0_isCalled 35 = .ok (.goto 4, 3) := by decide +kernel
theorem dX0_isCalled_38 : decode cX0_isCalled 38 = .ok (.iconst 0, 1) := by decide +kernel
theorem dX0_isCalled_39 : decode cX0_isCalled 39 = .ok (.istore 4, 2) := by decide +kernel
theorem dX0_isCalled_41 : decode cX0_isCalled 41 = .ok (.aload_n 0, 1) := by decide +kernel
theorem dX0_isCalled_42 : decode cX0_isCalled 42 = .ok (.getfield 24, 3) := by decide +kernel
theorem dX0_isCalled_45 : decode cX0_isCalled 45 = .ok (.iload_n 3, 1) := by decide +kernel
theorem dX0_isCalled_46 : decode cX0_isCalled 46 = .ok (.iaload, 1) := by decide +kernel
theorem dX0_isCalled_47 : decode cX0_isCalled 47 = .ok (.iload 4, 2) := by decide +kernel
theorem dX0_isCalled_49 : decode cX0_isCalled 49 = .ok (.isub, 1) := by decide +kernel
theorem dX0_isCalled_50 : decode cX0_isCalled 50 = .ok (.aload_n 0, 1) := by decide +kernel
theorem dX0_isCalled_51 : decode cX0_isCalled 51 = .ok (.getfield 48, 3) := by decide +kernel
theorem dX0_isCalled_54 : decode cX0_isCalled 54 = .ok (.if_icmp .gt 5, 3) := by decide +kernel
theorem dX0_isCalled_57 : decode cX0_isCalled 57 = .ok (.iconst 1, 1) := by decide +kernel
theorem dX0_isCalled_58 : decode cX0_isCalled 58 = .ok (.ireturn, 1) := by decide +kernel
theorem dX0_isCalled_59 : decode cX0_isCalled 59 = .ok (.aload_n 2, 1) := by decide +kernel
theorem dX0_isCalled_60 : decode cX0_isCalled 60 = .ok (.aload_n 0, 1) := by decide +kernel
theorem dX0_isCalled_61 : decode cX0_isCalled 61 = .ok (.getfield 48, 3) := by decide +kernel
theorem dX0_isCalled_64 : decode cX0_isCalled 64 = .ok (.invokevirtual 118, 3) := by decide +kernel
theorem dX0_isCalled_67 : decode cX0_isCalled 67 = .ok (.ireturn, 1) := by decide +kernel
theorem dX0_isReady_0 : decode cX0_isReady 0 = .ok (.aload_n 0, 1) := by decide +kernel
theorem dX0_isReady_1 : decode cX0_isReady 1 = .ok (.getfield 11, 3) := by decide +kernel
theorem dX0_isReady_4 : decode cX0_isReady 4 = .ok (.iload_n 1, 1) := by decide +kernel
theorem dX0_isReady_5 : decode cX0_isReady 5 = .ok (.aaload, 1) := by decide +kernel
theorem dX0_isReady_6 : decode cX0_isReady 6 = .ok (.getfield 86, 3) := by decide +kernel
theorem dX0_isReady_9 : decode cX0_isReady 9 = .ok (.istore_n 2, 1) := by decide +kernel
theorem dX0_isReady_10 : decode cX0_isReady 10 = .ok (.iload_n 2, 1) := by decide +kernel
theorem dX0_isReady_11 : decode cX0_isReady 11 = .ok (.ifCond .lt 11, 3) := by decide +kernel
theorem dX0_isReady_14 : decode cX0_isReady 14 = .ok (.iload_n 2, 1) := by decide +kernel
theorem dX0_isReady_15 : decode cX0_isReady 15 = .ok (.aload_n 0, 1) := by decide +kernel
theorem dX0_isReady_16 : decode cX0_isReady 16 = .ok (.getfield 31, 3) := by decide +kernel
theorem dX0_isReady_19 : decode cX0_isReady 19 = .ok (.if_icmp .lt 5, 3) := by decide +kernel
theorem dX0_isReady_22 : decode cX0_isReady 22 = .ok (.iconst 1, 1) := by decide +kernel
theorem dX0_isReady_23 : decode cX0_isReady 23 = .ok (.ireturn, 1) := by decide +kernel
theorem dX0_isReady_24 : decode cX0_isReady 24 = .ok (.aload_n 0, 1) := by decide +kernel
theorem dX0_isReady_25 : decode cX0_isReady 25 = .ok (.getfield 11, 3) := by decide +kernel
theorem dX0_isReady_28 : decode cX0_isReady 28 = .ok (.iload_n 2, 1) := by decide +kernel
theorem dX0_isReady_29 : decode cX0_isReady 29 = .ok (.aaload, 1) := by decide +kernel
theorem dX0_isReady_30 : decode cX0_isReady 30 = .ok (.getfield 65, 3) := by decide +kernel
theorem dX0_isReady_33 : decode cX0_isReady 33 = .ok (.iconst 2, 1) := by decide +kernel
theorem dX0_isReady_34 : decode cX0_isReady 34 = .ok (.if_icmp .eq 16, 3) := by decide +kernel
theorem dX0_isReady_37 : decode cX0_isReady 37 = .ok (.aload_n 0, 1) := by decide +kernel
theorem dX0_isReady_38 : decode cX0_isReady 38 = .ok (.getfield 11, 3) := by decide +kernel
theorem dX0_isReady_41 : decode cX0_isReady 41 = .ok (.iload_n 2, 1) := by decide +kernel
theorem dX0_isReady_42 : decode cX0_isReady 42 = .ok (.aaload, 1) := by decide +kernel
theorem dX0_isReady_43 : decode cX0_isReady 43 = .ok (.getfield 65, 3) := by decide +kernel
theorem dX0_isReady_46 : decode cX0_isReady 46 = .ok (.iconst 3, 1) := by decide +kernel
theorem dX0_isReady_47 : decode cX0_isReady 47 = .ok (.if_icmp .ne 7, 3) := by decide +kernel
theorem dX0_isReady_50 : decode cX0_isReady 50 = .ok (.iconst 1, 1) := by decide +kernel
theorem dX0_isReady_51 : decode cX0_isReady 51 = .ok (.goto 4, 3) := by decide +kernel
theorem dX0_isReady_54 : decode cX0_isReady 54 = .ok (.iconst 0, 1) := by decide +kernel
theorem dX0_isReady_55 : decode cX0_isReady 55 = .ok (.ireturn, 1) := by decide +kernel
theorem dX0_railLetsWake_0 : decode cX0_railLetsWake 0 = .ok (.aload_n 0, 1) := by decide +kernel
theorem dX0_railLetsWake_1 : decode cX0_railLetsWake 1 = .ok (.getfield 11, 3) := by decide +kernel
theorem dX0_railLetsWake_4 : decode cX0_railLetsWake 4 = .ok (.iload_n 1, 1) := by decide +kernel
theorem dX0_railLetsWake_5 : decode cX0_railLetsWake 5 = .ok (.aaload, 1) := by decide +kernel
theorem dX0_railLetsWake_6 : decode cX0_railLetsWake 6 = .ok (.getfield 89, 3) := by decide +kernel
theorem dX0_railLetsWake_9 : decode cX0_railLetsWake 9 = .ok (.istore_n 2, 1) := by decide +kernel
theorem dX0_railLetsWake_10 : decode cX0_railLetsWake 10 = .ok (.iload_n 2, 1) := by decide +kernel
theorem dX0_railLetsWake_11 : decode cX0_railLetsWake 11 = .ok (.ifCond .lt 8, 3) := by decide +kernel
theorem dX0_railLetsWake_14 : decode cX0_railLetsWake 14 = .ok (.iload_n 2, 1) := by decide +kernel
theorem dX0_railLetsWake_15 : decode cX0_railLetsWake 15 = .ok (.iconst 2, 1) := by decide +kernel
theorem dX0_railLetsWake_16 : decode cX0_railLetsWake 16 = .ok (.if_icmp .lt 5, 3) := by decide +kernel
theorem dX0_railLetsWake_19 : decode cX0_railLetsWake 19 = .ok (.iconst 0, 1) := by decide +kernel
theorem dX0_railLetsWake_20 : decode cX0_railLetsWake 20 = .ok (.ireturn, 1) := by decide +kernel
theorem dX0_railLetsWake_21 : decode cX0_railLetsWake 21 = .ok (.iconst 0, 1) := by decide +kernel
theorem dX0_railLetsWake_22 : decode cX0_railLetsWake 22 = .ok (.istore_n 3, 1) := by decide +kernel
theorem dX0_railLetsWake_23 : decode cX0_railLetsWake 23 = .ok (.iconst 0, 1) := by decide +kernel
theorem dX0_railLetsWake_24 : decode cX0_railLetsWake 24 = .ok (.istore 4, 2) := by decide +kernel
theorem dX0_railLetsWake_26 : decode cX0_railLetsWake 26 = .ok (.iload 4, 2) := by decide +kernel
theorem dX0_railLetsWake_28 : decode cX0_railLetsWake 28 = .ok (.aload_n 0, 1) := by decide +kernel
theorem dX0_railLetsWake_29 : decode cX0_railLetsWake 29 = .ok (.getfield 31, 3) := by decide +kernel
theorem dX0_railLetsWake_32 : decode cX0_railLetsWake 32 = .ok (.if_icmp .ge 40, 3) := by decide +kernel
theorem dX0_railLetsWake_35 : decode cX0_railLetsWake 35 = .ok (.aload_n 0, 1) := by decide +kernel
theorem dX0_railLetsWake_36 : decode cX0_railLetsWake 36 = .ok (.getfield 11, 3) := by decide +kernel
theorem dX0_railLetsWake_39 : decode cX0_railLetsWake 39 = .ok (.iload 4, 2) := by decide +kernel
theorem dX0_railLetsWake_41 : decode cX0_railLetsWake 41 = .ok (.aaload, 1) := by decide +kernel
theorem dX0_railLetsWake_42 : decode cX0_railLetsWake 42 = .ok (.getfield 89, 3) := by decide +kernel
theorem dX0_railLetsWake_45 : decode cX0_railLetsWake 45 = .ok (.iload_n 2, 1) := by decide +kernel
theorem dX0_railLetsWake_46 : decode cX0_railLetsWake 46 = .ok (.if_icmp .ne 20, 3) := by decide +kernel
theorem dX0_railLetsWake_49 : decode cX0_railLetsWake 49 = .ok (.aload_n 0, 1) := by decide +kernel
theorem dX0_railLetsWake_50 : decode cX0_railLetsWake 50 = .ok (.getfield 11, 3) := by decide +kernel
theorem dX0_railLetsWake_53 : decode cX0_railLetsWake 53 = .ok (.iload 4, 2) := by decide +kernel
theorem dX0_railLetsWake_55 : decode cX0_railLetsWake 55 = .ok (.aaload, 1) := by decide +kernel
theorem dX0_railLetsWake_56 : decode cX0_railLetsWake 56 = .ok (.getfield 65, 3) := by decide +kernel
theorem dX0_railLetsWake_59 : decode cX0_railLetsWake 59 = .ok (.iconst 1, 1) := by decide +kernel
theorem dX0_railLetsWake_60 : decode cX0_railLetsWake 60 = .ok (.if_icmp .ne 6, 3) := by decide +kernel
theorem dX0_railLetsWake_63 : decode cX0_railLetsWake 63 = .ok (.iinc 3 1, 3) := by decide +kernel
theorem dX0_railLetsWake_66 : decode cX0_railLetsWake 66 = .ok (.iinc 4 1, 3) := by decide +kernel
theorem dX0_railLetsWake_69 : decode cX0_railLetsWake 69 = .ok (.goto (-43), 3) := by decide +kernel
theorem dX0_railLetsWake_72 : decode cX0_railLetsWake 72 = .ok (.iload_n 3, 1) := by decide +kernel
theorem dX0_railLetsWake_73 : decode cX0_railLetsWake 73 = .ok (.aload_n 0, 1) := by decide +kernel
theorem dX0_railLetsWake_74 : decode cX0_railLetsWake 74 = .ok (.getfield 17, 3) := by decide +kernel
theorem dX0_railLetsWake_77 : decode cX0_railLetsWake 77 = .ok (.iload_n 2, 1) := by decide +kernel
theorem dX0_railLetsWake_78 : decode cX0_railLetsWake 78 = .ok (.iaload, 1) := by decide +kernel
theorem dX0_railLetsWake_79 : decode cX0_railLetsWake 79 = .ok (.if_icmp .ge 7, 3) := by decide +kernel
theorem dX0_railLetsWake_82 : decode cX0_railLetsWake 82 = .ok (.iconst 1, 1) := by decide +kernel
theorem dX0_railLetsWake_83 : decode cX0_railLetsWake 83 = .ok (.goto 4, 3) := by decide +kernel
theorem dX0_railLetsWake_86 : decode cX0_railLetsWake 86 = .ok (.iconst 0, 1) := by decide +kernel
theorem dX0_railLetsWake_87 : decode cX0_railLetsWake 87 = .ok (.ireturn, 1) := by decide +kernel
theorem dX0_hasDependentsUp_0 : decode cX0_hasDependentsUp 0 = .ok (.iconst 0, 1) := by decide +kernel
theorem dX0_hasDependentsUp_1 : decode cX0_hasDependentsUp 1 = .ok (.istore_n 2, 1) := by decide +kernel
theorem dX0_hasDependentsUp_2 : decode cX0_hasDependentsUp 2 = .ok (.iload_n 2, 1) := by decide +kernel
theorem dX0_hasDependentsUp_3 : decode cX0_hasDependentsUp 3 = .ok (.aload_n 0, 1) := by decide +kernel
theorem dX0_hasDependentsUp_4 : decode cX0_hasDependentsUp 4 = .ok (.getfield 31, 3) := by decide +kernel
theorem dX0_hasDependentsUp_7 : decode cX0_hasDependentsUp 7 = .ok (.if_icmp .ge 36, 3) := by decide +kernel
theorem dX0_hasDependentsUp_10 : decode cX0_hasDependentsUp 10 = .ok (.aload_n 0, 1) := by decide +kernel
theorem dX0_hasDependentsUp_11 : decode cX0_hasDependentsUp 11 = .ok (.getfield 11, 3) := by decide +kernel
theorem dX0_hasDependentsUp_14 : decode cX0_hasDependentsUp 14 = .ok (.iload_n 2, 1) := by decide +kernel
theorem dX0_hasDependentsUp_15 : decode cX0_hasDependentsUp 15 = .ok (.aaload, 1) := by decide +kernel
theorem dX0_hasDependentsUp_16 : decode cX0_hasDependentsUp 16 = .ok (.getfield 86, 3) := by decide +kernel
theorem dX0_hasDependentsUp_19 : decode cX0_hasDependentsUp 19 = .ok (.iload_n 1, 1) := by decide +kernel
theorem dX0_hasDependentsUp_20 : decode cX0_hasDependentsUp 20 = .ok (.if_icmp .ne 17, 3) := by decide +kernel
theorem dX0_hasDependentsUp_23 : decode cX0_hasDependentsUp 23 = .ok (.aload_n 0, 1) := by decide +kernel
theorem dX0_hasDependentsUp_24 : decode cX0_hasDependentsUp 24 = .ok (.getfield 11, 3) := by decide +kernel
theorem dX0_hasDependentsUp_27 : decode cX0_hasDependentsUp 27 = .ok (.iload_n 2, 1) := by decide +kernel
theorem dX0_hasDependentsUp_28 : decode cX0_hasDependentsUp 28 = .ok (.aaload, 1) := by decide +kernel
theorem dX0_hasDependentsUp_29 : decode cX0_hasDependentsUp 29 = .ok (.getfield 65, 3) := by decide +kernel
theorem dX0_hasDependentsUp_32 : decode cX0_hasDependentsUp 32 = .ok (.ifCond .eq 5, 3) := by decide +kernel
theorem dX0_hasDependentsUp_35 : decode cX0_hasDependentsUp 35 = .ok (.iconst 1, 1) := by decide +kernel
theorem dX0_hasDependentsUp_36 : decode cX0_hasDependentsUp 36 = .ok (.ireturn, 1) := by decide +kernel
theorem dX0_hasDependentsUp_37 : decode cX0_hasDependentsUp 37 = .ok (.iinc 2 1, 3) := by decide +kernel
theorem dX0_hasDependentsUp_40 : decode cX0_hasDependentsUp 40 = .ok (.goto (-38), 3) := by decide +kernel
theorem dX0_hasDependentsUp_43 : decode cX0_hasDependentsUp 43 = .ok (.iconst 0, 1) := by decide +kernel
theorem dX0_hasDependentsUp_44 : decode cX0_hasDependentsUp 44 = .ok (.ireturn, 1) := by decide +kernel
set_option maxRecDepth 20000 in
theorem ggX0_wakeRoom_X0_hasRoom : GoodIn wsX0_wakeRoom wsX0_hasRoom := goodIn_r _ [8, 9, 31, 32, 33, 34, 35, 36, 37, 38] (by decide +kernel) (by decide +kernel)
set_option maxRecDepth 20000 in
theorem gX0_wakeRoom_X0_hasRoom : GoodIn wsX0_wakeRoom (wsV RX0 78 RX0 yX0_hasRoom wsX0_hasRoom) := goodIn_app (goodIn_of _ (by decide +kernel)) ggX0_wakeRoom_X0_hasRoom
set_option maxRecDepth 20000 in
theorem ggX0_wakeRoom_X0_isReady : GoodIn wsX0_wakeRoom wsX0_isReady := goodIn_r _ [13, 1, 14, 9, 2, 31, 32, 33, 34, 35, 36, 37, 38, 39, 40, 41, 42, 43, 44, 45, 46, 47, 48, 49, 50, 51, 52, 53] (by decide +kernel) (by decide +kernel)
set_option maxRecDepth 20000 in
theorem gX0_wakeRoom_X0_isReady : GoodIn wsX0_wakeRoom (wsV RX0 121 RX0 yX0_isReady wsX0_isReady) := goodIn_app (goodIn_of _ (by decide +kernel)) ggX0_wakeRoom_X0_isReady
set_option maxRecDepth 20000 in
theorem ggX0_wakeRoom_X0_railLetsWake : GoodIn wsX0_wakeRoom wsX0_railLetsWake := goodIn_r _ [18, 1, 19, 9, 2, 20, 31, 32, 33, 34, 35, 36, 37, 38, 39, 40, 41, 42, 43, 44, 45, 46, 47, 48, 49, 50, 51, 52, 53] (by decide +kernel) (by decide +kernel)
set_option maxRecDepth 20000 in
theorem gX0_wakeRoom_X0_railLetsWake : GoodIn wsX0_wakeRoom (wsV RX0 124 RX0 yX0_railLetsWake wsX0_railLetsWake) := goodIn_app (goodIn_of _ (by decide +kernel)) ggX0_wakeRoom_X0_railLetsWake
set_option maxRecDepth 20000 in
theorem ggX0_wakeRoom_X2_startWaking : GoodIn wsX0_wakeRoom wsX2_startWaking := goodIn_r _ [25, 26, 27, 28, 29, 30, 39, 40, 41, 42, 43, 44, 45, 46, 47, 48, 49, 50, 51, 52, 53] (by decide +kernel) (by decide +kernel)
set_option maxRecDepth 20000 in
theorem gX0_wakeRoom_X2_startWaking : GoodIn wsX0_wakeRoom (wsV RX0 127 RX2 yX2_startWaking wsX2_startWaking) := goodIn_app (goodIn_of _ (by decide +kernel)) ggX0_wakeRoom_X2_startWaking
theorem dX0_wakeRoom_0 : decode cX0_wakeRoom 0 = .ok (.aload_n 0, 1) := by decide +kernel
theorem dX0_wakeRoom_1 : decode cX0_wakeRoom 1 = .ok (.iload_n 1, 1) := by decide +kernel
theorem dX0_wakeRoom_2 : decode cX0_wakeRoom 2 = .ok (.invokevirtual 78, 3) := by decide +kernel
theorem dX0_wakeRoom_5 : decode cX0_wakeRoom 5 = .ok (.ifCond .ne 5, 3) := by decide +kernel
theorem dX0_wakeRoom_8 : decode cX0_wakeRoom 8 = .ok (.iconst (-1), 1) := by decide +kernel
theorem dX0_wakeRoom_9 : decode cX0_wakeRoom 9 = .ok (.ireturn, 1) := by decide +kernel
theorem dX0_wakeRoom_10 : decode cX0_wakeRoom 10 = .ok (.aload_n 0, 1) := by decide +kernel
theorem dX0_wakeRoom_11 : decode cX0_wakeRoom 11 = .ok (.getfield 11, 3) := by decide +kernel
theorem dX0_wakeRoom_14 : decode cX0_wakeRoom 14 = .ok (.iload_n 1, 1) := by decide +kernel
theorem dX0_wakeRoom_15 : decode cX0_wakeRoom 15 = .ok (.aaload, 1) := by decide +kernel
theorem dX0_wakeRoom_16 : decode cX0_wakeRoom 16 = .ok (.astore_n 2, 1) := by decide +kernel
theorem dX0_wakeRoom_17 : decode cX0_wakeRoom 17 = .ok (.aload_n 2, 1) := by decide +kernel
theorem dX0_wakeRoom_18 : decode cX0_wakeRoom 18 = .ok (.getfield 65, 3) := by decide +kernel
theorem dX0_wakeRoom_21 : decode cX0_wakeRoom 21 = .ok (.ifCond .ne 19, 3) := by decide +kernel
theorem dX0_wakeRoom_24 : decode cX0_wakeRoom 24 = .ok (.aload_n 0, 1) := by decide +kernel
theorem dX0_wakeRoom_25 : decode cX0_wakeRoom 25 = .ok (.iload_n 1, 1) := by decide +kernel
theorem dX0_wakeRoom_26 : decode cX0_wakeRoom 26 = .ok (.invokevirtual 121, 3) := by decide +kernel
theorem dX0_wakeRoom_29 : decode cX0_wakeRoom 29 = .ok (.ifCond .eq 11, 3) := by decide +kernel
theorem dX0_wakeRoom_32 : decode cX0_wakeRoom 32 = .ok (.aload_n 0, 1) := by decide +kernel
theorem dX0_wakeRoom_33 : decode cX0_wakeRoom 33 = .ok (.iload_n 1, 1) := by decide +kernel
theorem dX0_wakeRoom_34 : decode cX0_wakeRoom 34 = .ok (.invokevirtual 124, 3) := by decide +kernel
theorem dX0_wakeRoom_37 : decode cX0_wakeRoom 37 = .ok (.ifCond .ne 6, 3) := by decide +kernel
theorem dX0_wakeRoom_40 : decode cX0_wakeRoom 40 = .ok (.bipush (-2), 2) := by decide +kernel
theorem dX0_wakeRoom_42 : decode cX0_wakeRoom 42 = .ok (.ireturn, 1) := by decide +kernel
theorem dX0_wakeRoom_43 : decode cX0_wakeRoom 43 = .ok (.aload_n 2, 1) := by decide +kernel
theorem dX0_wakeRoom_44 : decode cX0_wakeRoom 44 = .ok (.invokevirtual 127, 3) := by decide +kernel
theorem dX0_wakeRoom_47 : decode cX0_wakeRoom 47 = .ok (.aload_n 2, 1) := by decide +kernel
theorem dX0_wakeRoom_48 : decode cX0_wakeRoom 48 = .ok (.getfield 115, 3) := by decide +kernel
theorem dX0_wakeRoom_51 : decode cX0_wakeRoom 51 = .ok (.iconst 1, 1) := by decide +kernel
theorem dX0_wakeRoom_52 : decode cX0_wakeRoom 52 = .ok (.iaload, 1) := by decide +kernel
theorem dX0_wakeRoom_53 : decode cX0_wakeRoom 53 = .ok (.ireturn, 1) := by decide +kernel
set_option maxRecDepth 20000 in
theorem ggX0_sendToSleep_X0_hasRoom : GoodIn wsX0_sendToSleep wsX0_hasRoom := goodIn_r _ [8, 9, 15, 16, 17, 18, 19, 20, 21, 22] (by decide +kernel) (by decide +kernel)
set_option maxRecDepth 20000 in
theorem gX0_sendToSleep_X0_hasRoom : GoodIn wsX0_sendToSleep (wsV RX0 78 RX0 yX0_hasRoom wsX0_hasRoom) := goodIn_app (goodIn_of _ (by decide +kernel)) ggX0_sendToSleep_X0_hasRoom
set_option maxRecDepth 20000 in
theorem ggX0_sendToSleep_X0_hasDependentsUp : GoodIn wsX0_sendToSleep wsX0_hasDependentsUp := goodIn_r _ [13, 9, 1, 14, 2, 15, 16, 17, 18, 19, 20, 21, 22, 23, 24, 25, 26, 27, 28, 29, 30, 31, 32, 33, 34, 35, 36, 37] (by decide +kernel) (by decide +kernel)
set_option maxRecDepth 20000 in
theorem gX0_sendToSleep_X0_hasDependentsUp : GoodIn wsX0_sendToSleep (wsV RX0 130 RX0 yX0_hasDependentsUp wsX0_hasDependentsUp) := goodIn_app (goodIn_of _ (by decide +kernel)) ggX0_sendToSleep_X0_hasDependentsUp
theorem dX0_sendToSleep_0 : decode cX0_sendToSleep 0 = .ok (.aload_n 0, 1) := by decide +kernel
theorem dX0_sendToSleep_1 : decode cX0_sendToSleep 1 = .ok (.iload_n 1, 1) := by decide +kernel
theorem dX0_sendToSleep_2 : decode cX0_sendToSleep 2 = .ok (.invokevirtual 78, 3) := by decide +kernel
theorem dX0_sendToSleep_5 : decode cX0_sendToSleep 5 = .ok (.ifCond .ne 5, 3) := by decide +kernel
theorem dX0_sendToSleep_8 : decode cX0_sendToSleep 8 = .ok (.iconst (-1), 1) := by decide +kernel
theorem dX0_sendToSleep_9 : decode cX0_sendToSleep 9 = .ok (.ireturn, 1) := by decide +kernel
theorem dX0_sendToSleep_10 : decode cX0_sendToSleep 10 = .ok (.aload_n 0, 1) := by decide +kernel
theorem dX0_sendToSleep_11 : decode cX0_sendToSleep 11 = .ok (.getfield 11, 3) := by decide +kernel
theorem dX0_sendToSleep_14 : decode cX0_sendToSleep 14 = .ok (.iload_n 1, 1) := by decide +kernel
theorem dX0_sendToSleep_15 : decode cX0_sendToSleep 15 = .ok (.aaload, 1) := by decide +kernel
theorem dX0_sendToSleep_16 : decode cX0_sendToSleep 16 = .ok (.astore_n 2, 1) := by decide +kernel
theorem dX0_sendToSleep_17 : decode cX0_sendToSleep 17 = .ok (.aload_n 2, 1) := by decide +kernel
theorem dX0_sendToSleep_18 : decode cX0_sendToSleep 18 = .ok (.getfield 65, 3) := by decide +kernel
theorem dX0_sendToSleep_21 : decode cX0_sendToSleep 21 = .ok (.iconst 2, 1) := by decide +kernel
theorem dX0_sendToSleep_22 : decode cX0_sendToSleep 22 = .ok (.if_icmp .ne 11, 3) := by decide +kernel
theorem dX0_sendToSleep_25 : decode cX0_sendToSleep 25 = .ok (.aload_n 0, 1) := by decide +kernel
theorem dX0_sendToSleep_26 : decode cX0_sendToSleep 26 = .ok (.iload_n 1, 1) := by decide +kernel
theorem dX0_sendToSleep_27 : decode cX0_sendToSleep 27 = .ok (.invokevirtual 130, 3) := by decide +kernel
theorem dX0_sendToSleep_30 : decode cX0_sendToSleep 30 = .ok (.ifCond .eq 6, 3) := by decide +kernel
theorem dX0_sendToSleep_33 : decode cX0_sendToSleep 33 = .ok (.bipush (-2), 2) := by decide +kernel
theorem dX0_sendToSleep_35 : decode cX0_sendToSleep 35 = .ok (.ireturn, 1) := by decide +kernel
theorem dX0_sendToSleep_36 : decode cX0_sendToSleep 36 = .ok (.aload_n 2, 1) := by decide +kernel
theorem dX0_sendToSleep_37 : decode cX0_sendToSleep 37 = .ok (.iconst 0, 1) := by decide +kernel
theorem dX0_sendToSleep_38 : decode cX0_sendToSleep 38 = .ok (.putfield 65, 3) := by decide +kernel
theorem dX0_sendToSleep_41 : decode cX0_sendToSleep 41 = .ok (.aload_n 2, 1) := by decide +kernel
theorem dX0_sendToSleep_42 : decode cX0_sendToSleep 42 = .ok (.getfield 133, 3) := by decide +kernel
theorem dX0_sendToSleep_45 : decode cX0_sendToSleep 45 = .ok (.ireturn, 1) := by decide +kernel
set_option maxRecDepth 20000 in
theorem ggX0_letTicksGoBy_X3_outside : GoodIn wsX0_letTicksGoBy wsX3_outside := goodIn_r _ [5] (by decide +kernel) (by decide +kernel)
set_option maxRecDepth 20000 in
theorem gX0_letTicksGoBy_X3_outside_n82 : GoodIn wsX0_letTicksGoBy (wsX3_outside) := ggX0_letTicksGoBy_X3_outside
set_option maxRecDepth 20000 in
theorem ggX0_letTicksGoBy_X0_begunInAll : GoodIn wsX0_letTicksGoBy wsX0_begunInAll := goodIn_r _ [10, 11, 12, 13, 114, 115, 116, 117, 118, 119, 120, 121, 122, 123, 124, 125, 126, 127, 128, 129, 130, 131, 132, 133, 134, 135, 136] (by decide +kernel) (by decide +kernel)
set_option maxRecDepth 20000 in
theorem gX0_letTicksGoBy_X0_begunInAll : GoodIn wsX0_letTicksGoBy (wsV RX0 59 RX0 yX0_begunInAll wsX0_begunInAll) := goodIn_app (goodIn_of _ (by decide +kernel)) ggX0_letTicksGoBy_X0_begunInAll
set_option maxRecDepth 20000 in
theorem ggX0_letTicksGoBy_X0_passTick : GoodIn wsX0_letTicksGoBy wsX0_passTick := goodIn_r _ [17, 11, 12, 18, 1, 19, 20, 21, 9, 22, 23, 24, 25, 26, 27, 28, 29, 30, 31, 32, 33, 34, 35, 36, 37, 38, 39, 40, 41, 42, 43, 44, 45, 46, 47, 48, 49, 50, 51, 52, 53, 54, 55, 56, 57, 58, 59, 60, 61, 62, 63, 64, 65, 66, 67, 68, 69, 70, 71, 72, 73, 74, 75, 76, 77, 78, 79, 80, 81, 82, 83, 84, 85, 86, 87, 88, 89, 90, 91, 92, 93, 94, 95, 96, 97, 98, 99, 100, 101, 102, 103, 104, 105, 106, 107, 108, 109, 110, 111, 112, 113, 114, 115, 116, 117, 118, 119, 120, 121, 122, 123, 124, 125, 126, 127, 128, 129, 130, 131, 132, 133, 134, 135, 136] (by decide +kernel) (by decide +kernel)
set_option maxRecDepth 20000 in
theorem gX0_letTicksGoBy_X0_passTick : GoodIn wsX0_letTicksGoBy (wsV RX0 136 RX0 yX0_passTick wsX0_passTick) := goodIn_app (goodIn_of _ (by decide +kernel)) ggX0_letTicksGoBy_X0_passTick
theorem dX0_letTicksGoBy_0 : decode cX0_letTicksGoBy 0 = .ok (.iload_n 1, 1) := by decide +kernel
theorem dX0_letTicksGoBy_1 : decode cX0_letTicksGoBy 1 = .ok (.iconst 1, 1) := by decide +kernel
theorem dX0_letTicksGoBy_2 : decode cX0_letTicksGoBy 2 = .ok (.sipush 200, 3) := by decide +kernel
theorem dX0_letTicksGoBy_5 : decode cX0_letTicksGoBy 5 = .ok (.invokestatic 82, 3) := by decide +kernel
theorem dX0_letTicksGoBy_8 : decode cX0_letTicksGoBy 8 = .ok (.ifCond .eq 5, 3) := by decide +kernel
theorem dX0_letTicksGoBy_11 : decode cX0_letTicksGoBy 11 = .ok (.iconst (-1), 1) := by decide +kernel
theorem dX0_letTicksGoBy_12 : decode cX0_letTicksGoBy 12 = .ok (.ireturn, 1) := by decide +kernel
theorem dX0_letTicksGoBy_13 : decode cX0_letTicksGoBy 13 = .ok (.aload_n 0, 1) := by decide +kernel
theorem dX0_letTicksGoBy_14 : decode cX0_letTicksGoBy 14 = .ok (.getfield 48, 3) := by decide +kernel
theorem dX0_letTicksGoBy_17 : decode cX0_letTicksGoBy 17 = .ok (.iload_n 1, 1) := by decide +kernel
theorem dX0_letTicksGoBy_18 : decode cX0_letTicksGoBy 18 = .ok (.iadd, 1) := by decide +kernel
theorem dX0_letTicksGoBy_19 : decode cX0_letTicksGoBy 19 = .ok (.ldc 104, 2) := by decide +kernel
theorem dX0_letTicksGoBy_21 : decode cX0_letTicksGoBy 21 = .ok (.if_icmp .le 6, 3) := by decide +kernel
theorem dX0_letTicksGoBy_24 : decode cX0_letTicksGoBy 24 = .ok (.bipush (-3), 2) := by decide +kernel
theorem dX0_letTicksGoBy_26 : decode cX0_letTicksGoBy 26 = .ok (.ireturn, 1) := by decide +kernel
theorem dX0_letTicksGoBy_27 : decode cX0_letTicksGoBy 27 = .ok (.aload_n 0, 1) := by decide +kernel
theorem dX0_letTicksGoBy_28 : decode cX0_letTicksGoBy 28 = .ok (.invokevirtual 59, 3) := by decide +kernel
theorem dX0_letTicksGoBy_31 : decode cX0_letTicksGoBy 31 = .ok (.istore_n 2, 1) := by decide +kernel
theorem dX0_letTicksGoBy_32 : decode cX0_letTicksGoBy 32 = .ok (.iconst 0, 1) := by decide +kernel
theorem dX0_letTicksGoBy_33 : decode cX0_letTicksGoBy 33 = .ok (.istore_n 3, 1) := by decide +kernel
theorem dX0_letTicksGoBy_34 : decode cX0_letTicksGoBy 34 = .ok (.iload_n 3, 1) := by decide +kernel
theorem dX0_letTicksGoBy_35 : decode cX0_letTicksGoBy 35 = .ok (.iload_n 1, 1) := by decide +kernel
theorem dX0_letTicksGoBy_36 : decode cX0_letTicksGoBy 36 = .ok (.if_icmp .ge 13, 3) := by decide +kernel
theorem dX0_letTicksGoBy_39 : decode cX0_letTicksGoBy 39 = .ok (.aload_n 0, 1) := by decide +kernel
theorem dX0_letTicksGoBy_40 : decode cX0_letTicksGoBy 40 = .ok (.invokevirtual 136, 3) := by decide +kernel
theorem dX0_letTicksGoBy_43 : decode cX0_letTicksGoBy 43 = .ok (.iinc 3 1, 3) := by decide +kernel
theorem dX0_letTicksGoBy_46 : decode cX0_letTicksGoBy 46 = .ok (.goto (-12), 3) := by decide +kernel
theorem dX0_letTicksGoBy_49 : decode cX0_letTicksGoBy 49 = .ok (.aload_n 0, 1) := by decide +kernel
theorem dX0_letTicksGoBy_50 : decode cX0_letTicksGoBy 50 = .ok (.invokevirtual 59, 3) := by decide +kernel
theorem dX0_letTicksGoBy_53 : decode cX0_letTicksGoBy 53 = .ok (.iload_n 2, 1) := by decide +kernel
theorem dX0_letTicksGoBy_54 : decode cX0_letTicksGoBy 54 = .ok (.isub, 1) := by decide +kernel
theorem dX0_letTicksGoBy_55 : decode cX0_letTicksGoBy 55 = .ok (.ireturn, 1) := by decide +kernel
set_option maxRecDepth 20000 in
theorem ggX0_passTick_X0_isCalled : GoodIn wsX0_passTick wsX0_isCalled := goodIn_r _ [9, 2, 10, 11, 12, 4, 13, 14, 15, 8, 16, 17, 18, 19, 20, 21, 22, 23, 24, 25, 26, 27, 28, 29, 30, 31, 32, 33, 101, 102, 103, 104, 105, 106, 107, 108, 109, 110, 111, 112, 113, 114, 115, 116, 117, 118, 119, 120, 121, 122, 123] (by decide +kernel) (by decide +kernel)
set_option maxRecDepth 20000 in
theorem gX0_passTick_X0_isCalled : GoodIn wsX0_passTick (wsV RX0 139 RX0 yX0_isCalled wsX0_isCalled) := goodIn_app (goodIn_of _ (by decide +kernel)) ggX0_passTick_X0_isCalled
set_option maxRecDepth 20000 in
theorem ggX0_passTick_X0_soughtFor : GoodIn wsX0_passTick wsX0_soughtFor := goodIn_r _ [37, 2, 3, 38, 39, 40, 41, 8, 42, 1, 43, 44, 45, 46, 101, 102, 103, 104, 105, 106, 107, 108, 109, 110, 111, 112, 113, 114, 115, 116, 117, 118, 119, 120, 121, 122, 123] (by decide +kernel) (by decide +kernel)
set_option maxRecDepth 20000 in
theorem gX0_passTick_X0_soughtFor : GoodIn wsX0_passTick (wsV RX0 142 RX0 yX0_soughtFor wsX0_soughtFor) := goodIn_app (goodIn_of _ (by decide +kernel)) ggX0_passTick_X0_soughtFor
set_option maxRecDepth 20000 in
theorem ggX0_passTick_X0_wakeIfPossible : GoodIn wsX0_passTick wsX0_wakeIfPossible := goodIn_r _ [50, 2, 39, 40, 41, 8, 42, 1, 51, 52, 53, 54, 55, 3, 56, 57, 58, 59, 26, 60, 61, 33, 30, 62, 63, 101, 102, 103, 104, 105, 106, 107, 108, 109, 110, 111, 112, 113, 114, 115, 116, 117, 118, 119, 120, 121, 122, 123] (by decide +kernel) (by decide +kernel)
set_option maxRecDepth 20000 in
theorem gX0_passTick_X0_wakeIfPossible : GoodIn wsX0_passTick (wsV RX0 145 RX0 yX0_wakeIfPossible wsX0_wakeIfPossible) := goodIn_app (goodIn_of _ (by decide +kernel)) ggX0_passTick_X0_wakeIfPossible
set_option maxRecDepth 20000 in
theorem ggX0_passTick_X0_beginDueUse : GoodIn wsX0_passTick wsX0_beginDueUse := goodIn_r _ [67, 2, 3, 12, 4, 68, 13, 14, 15, 8, 16, 17, 18, 19, 20, 21, 22, 69, 70, 71, 26, 72, 29, 31, 32, 73, 30, 62, 74, 75, 76, 77, 101, 102, 103, 104, 105, 106, 107, 108, 109, 110, 111, 112, 113, 114, 115, 116, 117, 118, 119, 120, 121, 122, 123] (by decide +kernel) (by decide +kernel)
set_option maxRecDepth 20000 in
theorem gX0_passTick_X0_beginDueUse : GoodIn wsX0_passTick (wsV RX0 148 RX0 yX0_beginDueUse wsX0_beginDueUse) := goodIn_app (goodIn_of _ (by decide +kernel)) ggX0_passTick_X0_beginDueUse
set_option maxRecDepth 20000 in
theorem ggX0_passTick_X2_payForTick : GoodIn wsX0_passTick wsX2_payForTick := goodIn_r _ [81, 30, 61, 33, 109, 110, 111, 112, 113, 114, 115, 116, 117, 118, 119, 120, 121, 122, 123] (by decide +kernel) (by decide +kernel)
set_option maxRecDepth 20000 in
theorem gX0_passTick_X2_payForTick : GoodIn wsX0_passTick (wsV RX0 151 RX2 yX2_payForTick wsX2_payForTick) := goodIn_app (goodIn_of _ (by decide +kernel)) ggX0_passTick_X2_payForTick
set_option maxRecDepth 20000 in
theorem ggX0_passTick_X0_goOn : GoodIn wsX0_passTick wsX0_goOn := goodIn_r _ [85, 2, 3, 86, 87, 88, 89, 26, 90, 62, 30, 91, 92, 93, 94, 95, 96, 97, 98, 99, 8, 100, 1, 38, 101, 102, 103, 104, 105, 106, 107, 108, 109, 110, 111, 112, 113, 114, 115, 116, 117, 118, 119, 120, 121, 122, 123] (by decide +kernel) (by decide +kernel)
set_option maxRecDepth 20000 in
theorem gX0_passTick_X0_goOn : GoodIn wsX0_passTick (wsV RX0 154 RX0 yX0_goOn wsX0_goOn) := goodIn_app (goodIn_of _ (by decide +kernel)) ggX0_passTick_X0_goOn
theorem dX0_passTick_0 : decode cX0_passTick 0 = .ok (.iconst 0, 1) := by decide +kernel
theorem dX0_passTick_1 : decode cX0_passTick 1 = .ok (.istore_n 1, 1) := by decide +kernel
theorem dX0_passTick_2 : decode cX0_passTick 2 = .ok (.iload_n 1, 1) := by decide +kernel
theorem dX0_passTick_3 : decode cX0_passTick 3 = .ok (.aload_n 0, 1) := by decide +kernel
theorem dX0_passTick_4 : decode cX0_passTick 4 = .ok (.getfield 31, 3) := by decide +kernel
theorem dX0_passTick_7 : decode cX0_passTick 7 = .ok (.if_icmp .ge 43, 3) := by decide +kernel
theorem dX0_passTick_10 : decode cX0_passTick 10 = .ok (.aload_n 0, 1) := by decide +kernel
theorem dX0_passTick_11 : decode cX0_passTick 11 = .ok (.getfield 11, 3) := by decide +kernel
theorem dX0_passTick_14 : decode cX0_passTick 14 = .ok (.iload_n 1, 1) := by decide +kernel
theorem dX0_passTick_15 : decode cX0_passTick 15 = .ok (.aaload, 1) := by decide +kernel
theorem dX0_passTick_16 : decode cX0_passTick 16 = .ok (.getfield 65, 3) := by decide +kernel
theorem dX0_passTick_19 : decode cX0_passTick 19 = .ok (.ifCond .ne 20, 3) := by decide +kernel
theorem dX0_passTick_22 : decode cX0_passTick 22 = .ok (.aload_n 0, 1) := by decide +kernel
theorem dX0_passTick_23 : decode cX0_passTick 23 = .ok (.iload_n 1, 1) := by decide +kernel
theorem dX0_passTick_24 : decode cX0_passTick 24 = .ok (.invokevirtual 139, 3) := by decide +kernel
theorem dX0_passTick_27 : decode cX0_passTick 27 = .ok (.ifCond .eq 12, 3) := by decide +kernel
theorem dX0_passTick_30 : decode cX0_passTick 30 = .ok (.aload_n 0, 1) := by decide +kernel
theorem dX0_passTick_31 : decode cX0_passTick 31 = .ok (.aload_n 0, 1) := by decide +kernel
theorem dX0_passTick_32 : decode cX0_passTick 32 = .ok (.iload_n 1, 1) := by decide +kernel
theorem dX0_passTick_33 : decode cX0_passTick 33 = .ok (.invokevirtual 142, 3) := by decide +kernel
theorem dX0_passTick_36 : decode cX0_passTick 36 = .ok (.invokevirtual 145, 3) := by decide +kernel
theorem dX0_passTick_39 : decode cX0_passTick 39 = .ok (.aload_n 0, 1) := by decide +kernel
theorem dX0_passTick_40 : decode cX0_passTick 40 = .ok (.iload_n 1, 1) := by decide +kernel
theorem dX0_passTick_41 : decode cX0_passTick 41 = .ok (.invokevirtual 148, 3) := by decide +kernel
theorem dX0_passTick_44 : decode cX0_passTick 44 = .ok (.iinc 1 1, 3) := by decide +kernel
theorem dX0_passTick_47 : decode cX0_passTick 47 = .ok (.goto (-45), 3) := by decide +kernel
theorem dX0_passTick_50 : decode cX0_passTick 50 = .ok (.iconst 0, 1) := by decide +kernel
theorem dX0_passTick_51 : decode cX0_passTick 51 = .ok (.istore_n 1, 1) := by decide +kernel
theorem dX0_passTick_52 : decode cX0_passTick 52 = .ok (.iload_n 1, 1) := by decide +kernel
theorem dX0_passTick_53 : decode cX0_passTick 53 = .ok (.aload_n 0, 1) := by decide +kernel
theorem dX0_passTick_54 : decode cX0_passTick 54 = .ok (.getfield 31, 3) := by decide +kernel
theorem dX0_passTick_57 : decode cX0_passTick 57 = .ok (.if_icmp .ge 18, 3) := by decide +kernel
theorem dX0_passTick_60 : decode cX0_passTick 60 = .ok (.aload_n 0, 1) := by decide +kernel
theorem dX0_passTick_61 : decode cX0_passTick 61 = .ok (.getfield 11, 3) := by decide +kernel
theorem dX0_passTick_64 : decode cX0_passTick 64 = .ok (.iload_n 1, 1) := by decide +kernel
theorem dX0_passTick_65 : decode cX0_passTick 65 = .ok (.aaload, 1) := by decide +kernel
theorem dX0_passTick_66 : decode cX0_passTick 66 = .ok (.invokevirtual 151, 3) := by decide +kernel
theorem dX0_passTick_69 : decode cX0_passTick 69 = .ok (.iinc 1 1, 3) := by decide +kernel
theorem dX0_passTick_72 : decode cX0_passTick 72 = .ok (.goto (-20), 3) := by decide +kernel
theorem dX0_passTick_75 : decode cX0_passTick 75 = .ok (.iconst 0, 1) := by decide +kernel
theorem dX0_passTick_76 : decode cX0_passTick 76 = .ok (.istore_n 1, 1) := by decide +kernel
theorem dX0_passTick_77 : decode cX0_passTick 77 = .ok (.iload_n 1, 1) := by decide +kernel
theorem dX0_passTick_78 : decode cX0_passTick 78 = .ok (.aload_n 0, 1) := by decide +kernel
theorem dX0_passTick_79 : decode cX0_passTick 79 = .ok (.getfield 31, 3) := by decide +kernel
theorem dX0_passTick_82 : decode cX0_passTick 82 = .ok (.if_icmp .ge 14, 3) := by decide +kernel
theorem dX0_passTick_85 : decode cX0_passTick 85 = .ok (.aload_n 0, 1) := by decide +kernel
theorem dX0_passTick_86 : decode cX0_passTick 86 = .ok (.iload_n 1, 1) := by decide +kernel
theorem dX0_passTick_87 : decode cX0_passTick 87 = .ok (.invokevirtual 154, 3) := by decide +kernel
theorem dX0_passTick_90 : decode cX0_passTick 90 = .ok (.iinc 1 1, 3) := by decide +kernel
theorem dX0_passTick_93 : decode cX0_passTick 93 = .ok (.goto (-16), 3) := by decide +kernel
theorem dX0_passTick_96 : decode cX0_passTick 96 = .ok (.aload_n 0, 1) := by decide +kernel
theorem dX0_passTick_97 : decode cX0_passTick 97 = .ok (.dup, 1) := by decide +kernel
theorem dX0_passTick_98 : decode cX0_passTick 98 = .ok (.getfield 48, 3) := by decide +kernel
theorem dX0_passTick_101 : decode cX0_passTick 101 = .ok (.iconst 1, 1) := by decide +kernel
theorem dX0_passTick_102 : decode cX0_passTick 102 = .ok (.iadd, 1) := by decide +kernel
theorem dX0_passTick_103 : decode cX0_passTick 103 = .ok (.putfield 48, 3) := by decide +kernel
theorem dX0_passTick_106 : decode cX0_passTick 106 = .ok (.return_, 1) := by decide +kernel
set_option maxRecDepth 20000 in
theorem ggX0_soughtFor_X0_hasRoom : GoodIn wsX0_soughtFor wsX0_hasRoom := goodIn_r _ [8, 9, 14, 15, 16, 17, 18, 19, 20, 21] (by decide +kernel) (by decide +kernel)
set_option maxRecDepth 20000 in
theorem gX0_soughtFor_X0_hasRoom : GoodIn wsX0_soughtFor (wsV RX0 78 RX0 yX0_hasRoom wsX0_hasRoom) := goodIn_app (goodIn_of _ (by decide +kernel)) ggX0_soughtFor_X0_hasRoom
set_option maxRecDepth 20000 in
theorem ggX0_soughtFor_X0_isReady : GoodIn wsX0_soughtFor wsX0_isReady := goodIn_r _ [13, 1, 3, 9, 2, 14, 15, 16, 17, 18, 19, 20, 21, 22, 23, 24, 25, 26, 27, 28, 29, 30, 31, 32, 33, 34, 35, 36] (by decide +kernel) (by decide +kernel)
set_option maxRecDepth 20000 in
theorem gX0_soughtFor_X0_isReady : GoodIn wsX0_soughtFor (wsV RX0 121 RX0 yX0_isReady wsX0_isReady) := goodIn_app (goodIn_of _ (by decide +kernel)) ggX0_soughtFor_X0_isReady
theorem dX0_soughtFor_0 : decode cX0_soughtFor 0 = .ok (.iload_n 1, 1) := by decide +kernel
theorem dX0_soughtFor_1 : decode cX0_soughtFor 1 = .ok (.istore_n 2, 1) := by decide +kernel
theorem dX0_soughtFor_2 : decode cX0_soughtFor 2 = .ok (.iconst 0, 1) := by decide +kernel
theorem dX0_soughtFor_3 : decode cX0_soughtFor 3 = .ok (.istore_n 3, 1) := by decide +kernel
theorem dX0_soughtFor_4 : decode cX0_soughtFor 4 = .ok (.iload_n 3, 1) := by decide +kernel
theorem dX0_soughtFor_5 : decode cX0_soughtFor 5 = .ok (.bipush 8, 2) := by decide +kernel
theorem dX0_soughtFor_7 : decode cX0_soughtFor 7 = .ok (.if_icmp .ge 51, 3) := by decide +kernel
theorem dX0_soughtFor_10 : decode cX0_soughtFor 10 = .ok (.aload_n 0, 1) := by decide +kernel
theorem dX0_soughtFor_11 : decode cX0_soughtFor 11 = .ok (.iload_n 2, 1) := by decide +kernel
theorem dX0_soughtFor_12 : decode cX0_soughtFor 12 = .ok (.invokevirtual 78, 3) := by decide +kernel
theorem dX0_soughtFor_15 : decode cX0_soughtFor 15 = .ok (.ifCond .eq 43, 3) := by decide +kernel
theorem dX0_soughtFor_18 : decode cX0_soughtFor 18 = .ok (.aload_n 0, 1) := by decide +kernel
theorem dX0_soughtFor_19 : decode cX0_soughtFor 19 = .ok (.getfield 11, 3) := by decide +kernel
theorem dX0_soughtFor_22 : decode cX0_soughtFor 22 = .ok (.iload_n 2, 1) := by decide +kernel
theorem dX0_soughtFor_23 : decode cX0_soughtFor 23 = .ok (.aaload, 1) := by decide +kernel
theorem dX0_soughtFor_24 : decode cX0_soughtFor 24 = .ok (.getfield 65, 3) := by decide +kernel
theorem dX0_soughtFor_27 : decode cX0_soughtFor 27 = .ok (.ifCond .eq 5, 3) := by decide +kernel
theorem dX0_soughtFor_30 : decode cX0_soughtFor 30 = .ok (.iconst (-1), 1) := by decide +kernel
theorem dX0_soughtFor_31 : decode cX0_soughtFor 31 = .ok (.ireturn, 1) := by decide +kernel
theorem dX0_soughtFor_32 : decode cX0_soughtFor 32 = .ok (.aload_n 0, 1) := by decide +kernel
theorem dX0_soughtFor_33 : decode cX0_soughtFor 33 = .ok (.iload_n 2, 1) := by decide +kernel
theorem dX0_soughtFor_34 : decode cX0_soughtFor 34 = .ok (.invokevirtual 121, 3) := by decide +kernel
theorem dX0_soughtFor_37 : decode cX0_soughtFor 37 = .ok (.ifCond .eq 5, 3) := by decide +kernel
theorem dX0_soughtFor_40 : decode cX0_soughtFor 40 = .ok (.iload_n 2, 1) := by decide +kernel
theorem dX0_soughtFor_41 : decode cX0_soughtFor 41 = .ok (.ireturn, 1) := by decide +kernel
theorem dX0_soughtFor_42 : decode cX0_soughtFor 42 = .ok (.aload_n 0, 1) := by decide +kernel
theorem dX0_soughtFor_43 : decode cX0_soughtFor 43 = .ok (.getfield 11, 3) := by decide +kernel
theorem dX0_soughtFor_46 : decode cX0_soughtFor 46 = .ok (.iload_n 2, 1) := by decide +kernel
theorem dX0_soughtFor_47 : decode cX0_soughtFor 47 = .ok (.aaload, 1) := by decide +kernel
theorem dX0_soughtFor_48 : decode cX0_soughtFor 48 = .ok (.getfield 86, 3) := by decide +kernel
theorem dX0_soughtFor_51 : decode cX0_soughtFor 51 = .ok (.istore_n 2, 1) := by decide +kernel
theorem dX0_soughtFor_52 : decode cX0_soughtFor 52 = .ok (.iinc 3 1, 3) := by decide +kernel
theorem dX0_soughtFor_55 : decode cX0_soughtFor 55 = .ok (.goto (-51), 3) := by decide +kernel
theorem dX0_soughtFor_58 : decode cX0_soughtFor 58 = .ok (.iconst (-1), 1) := by decide +kernel
theorem dX0_soughtFor_59 : decode cX0_soughtFor 59 = .ok (.ireturn, 1) := by decide +kernel
set_option maxRecDepth 20000 in
theorem ggX0_wakeIfPossible_X0_hasRoom : GoodIn wsX0_wakeIfPossible wsX0_hasRoom := goodIn_r _ [6, 7, 25, 26, 27, 28, 29, 30, 31, 32] (by decide +kernel) (by decide +kernel)
set_option maxRecDepth 20000 in
theorem gX0_wakeIfPossible_X0_hasRoom : GoodIn wsX0_wakeIfPossible (wsV RX0 78 RX0 yX0_hasRoom wsX0_hasRoom) := goodIn_app (goodIn_of _ (by decide +kernel)) ggX0_wakeIfPossible_X0_hasRoom
set_option maxRecDepth 20000 in
theorem ggX0_wakeIfPossible_X0_railLetsWake : GoodIn wsX0_wakeIfPossible wsX0_railLetsWake := goodIn_r _ [11, 1, 12, 7, 13, 14, 25, 26, 27, 28, 29, 30, 31, 32, 33, 34, 35, 36, 37, 38, 39, 40, 41, 42, 43, 44, 45, 46, 47] (by decide +kernel) (by decide +kernel)
set_option maxRecDepth 20000 in
theorem gX0_wakeIfPossible_X0_railLetsWake : GoodIn wsX0_wakeIfPossible (wsV RX0 124 RX0 yX0_railLetsWake wsX0_railLetsWake) := goodIn_app (goodIn_of _ (by decide +kernel)) ggX0_wakeIfPossible_X0_railLetsWake
set_option maxRecDepth 20000 in
theorem ggX0_wakeIfPossible_X2_startWaking : GoodIn wsX0_wakeIfPossible wsX2_startWaking := goodIn_r _ [19, 20, 21, 22, 23, 24, 33, 34, 35, 36, 37, 38, 39, 40, 41, 42, 43, 44, 45, 46, 47] (by decide +kernel) (by decide +kernel)
set_option maxRecDepth 20000 in
theorem gX0_wakeIfPossible_X2_startWaking : GoodIn wsX0_wakeIfPossible (wsV RX0 127 RX2 yX2_startWaking wsX2_startWaking) := goodIn_app (goodIn_of _ (by decide +kernel)) ggX0_wakeIfPossible_X2_startWaking
theorem dX0_wakeIfPossible_0 : decode cX0_wakeIfPossible 0 = .ok (.aload_n 0, 1) := by decide +kernel
theorem dX0_wakeIfPossible_1 : decode cX0_wakeIfPossible 1 = .ok (.iload_n 1, 1) := by decide +kernel
theorem dX0_wakeIfPossible_2 : decode cX0_wakeIfPossible 2 = .ok (.invokevirtual 78, 3) := by decide +kernel
theorem dX0_wakeIfPossible_5 : decode cX0_wakeIfPossible 5 = .ok (.ifCond .eq 20, 3) := by decide +kernel
theorem dX0_wakeIfPossible_8 : decode cX0_wakeIfPossible 8 = .ok (.aload_n 0, 1) := by decide +kernel
theorem dX0_wakeIfPossible_9 : decode cX0_wakeIfPossible 9 = .ok (.iload_n 1, 1) := by decide +kernel
theorem dX0_wakeIfPossible_10 : decode cX0_wakeIfPossible 10 = .ok (.invokevirtual 124, 3) := by decide +kernel
theorem dX0_wakeIfPossible_13 : decode cX0_wakeIfPossible 13 = .ok (.ifCond .eq 12, 3) := by decide +kernel
theorem dX0_wakeIfPossible_16 : decode cX0_wakeIfPossible 16 = .ok (.aload_n 0, 1) := by decide +kernel
theorem dX0_wakeIfPossible_17 : decode cX0_wakeIfPossible 17 = .ok (.getfield 11, 3) := by decide +kernel
theorem dX0_wakeIfPossible_20 : decode cX0_wakeIfPossible 20 = .ok (.iload_n 1, 1) := by decide +kernel
theorem dX0_wakeIfPossible_21 : decode cX0_wakeIfPossible 21 = .ok (.aaload, 1) := by decide +kernel
theorem dX0_wakeIfPossible_22 : decode cX0_wakeIfPossible 22 = .ok (.invokevirtual 127, 3) := by decide +kernel
theorem dX0_wakeIfPossible_25 : decode cX0_wakeIfPossible 25 = .ok (.return_, 1) := by decide +kernel
set_option maxRecDepth 20000 in
theorem ggX0_beginDueUse_X0_firstUseOf : GoodIn wsX0_beginDueUse wsX0_firstUseOf := goodIn_r _ [10, 11, 12, 3, 32, 33, 34, 35, 36, 37, 38, 39] (by decide +kernel) (by decide +kernel)
set_option maxRecDepth 20000 in
theorem gX0_beginDueUse_X0_firstUseOf : GoodIn wsX0_beginDueUse (wsV RX0 112 RX0 yX0_firstUseOf wsX0_firstUseOf) := goodIn_app (goodIn_of _ (by decide +kernel)) ggX0_beginDueUse_X0_firstUseOf
set_option maxRecDepth 20000 in
theorem ggX0_beginDueUse_X0_hasUse : GoodIn wsX0_beginDueUse wsX0_hasUse := goodIn_r _ [16, 11, 32, 33, 34, 35, 36, 37, 38, 39] (by decide +kernel) (by decide +kernel)
set_option maxRecDepth 20000 in
theorem gX0_beginDueUse_X0_hasUse : GoodIn wsX0_beginDueUse (wsV RX0 105 RX0 yX0_hasUse wsX0_hasUse) := goodIn_app (goodIn_of _ (by decide +kernel)) ggX0_beginDueUse_X0_hasUse
set_option maxRecDepth 20000 in
theorem ggX0_beginDueUse_X2_begin : GoodIn wsX0_beginDueUse wsX2_begin := goodIn_r _ [21, 22, 23, 24, 25, 26, 27, 40, 41, 42, 43, 44, 45, 46, 47, 48, 49, 50, 51, 52, 53, 54] (by decide +kernel) (by decide +kernel)
set_option maxRecDepth 20000 in
theorem gX0_beginDueUse_X2_begin : GoodIn wsX0_beginDueUse (wsV RX0 157 RX2 yX2_begin wsX2_begin) := goodIn_app (goodIn_of _ (by decide +kernel)) ggX0_beginDueUse_X2_begin
set_option maxRecDepth 20000 in
theorem ggX0_beginDueUse_X0_removeUse : GoodIn wsX0_beginDueUse wsX0_removeUse := goodIn_r _ [31, 11, 12, 3, 5, 32, 33, 34, 35, 36, 37, 38, 39] (by decide +kernel) (by decide +kernel)
set_option maxRecDepth 20000 in
theorem gX0_beginDueUse_X0_removeUse : GoodIn wsX0_beginDueUse (wsV RX0 108 RX0 yX0_removeUse wsX0_removeUse) := goodIn_app (goodIn_of _ (by decide +kernel)) ggX0_beginDueUse_X0_removeUse
theorem dX0_beginDueUse_0 : decode cX0_beginDueUse 0 = .ok (.aload_n 0, 1) := by decide +kernel
theorem dX0_beginDueUse_1 : decode cX0_beginDueUse 1 = .ok (.getfield 11, 3) := by decide +kernel
theorem dX0_beginDueUse_4 : decode cX0_beginDueUse 4 = .ok (.iload_n 1, 1) := by decide +kernel
theorem dX0_beginDueUse_5 : decode cX0_beginDueUse 5 = .ok (.aaload, 1) := by decide +kernel
theorem dX0_beginDueUse_6 : decode cX0_beginDueUse 6 = .ok (.getfield 65, 3) := by decide +kernel
theorem dX0_beginDueUse_9 : decode cX0_beginDueUse 9 = .ok (.iconst 2, 1) := by decide +kernel
theorem dX0_beginDueUse_10 : decode cX0_beginDueUse 10 = .ok (.if_icmp .eq 4, 3) := by decide +kernel
theorem dX0_beginDueUse_13 : decode cX0_beginDueUse 13 = .ok (.return_, 1) := by decide +kernel
theorem dX0_beginDueUse_14 : decode cX0_beginDueUse 14 = .ok (.aload_n 0, 1) := by decide +kernel
theorem dX0_beginDueUse_15 : decode cX0_beginDueUse 15 = .ok (.iload_n 1, 1) := by decide +kernel
theorem dX0_beginDueUse_16 : decode cX0_beginDueUse 16 = .ok (.invokevirtual 112, 3) := by decide +kernel
theorem dX0_beginDueUse_19 : decode cX0_beginDueUse 19 = .ok (.istore_n 2, 1) := by decide +kernel
theorem dX0_beginDueUse_20 : decode cX0_beginDueUse 20 = .ok (.aload_n 0, 1) := by decide +kernel
theorem dX0_beginDueUse_21 : decode cX0_beginDueUse 21 = .ok (.iload_n 2, 1) := by decide +kernel
theorem dX0_beginDueUse_22 : decode cX0_beginDueUse 22 = .ok (.invokevirtual 105, 3) := by decide +kernel
theorem dX0_beginDueUse_25 : decode cX0_beginDueUse 25 = .ok (.ifCond .eq 46, 3) := by decide +kernel
theorem dX0_beginDueUse_28 : decode cX0_beginDueUse 28 = .ok (.aload_n 0, 1) := by decide +kernel
theorem dX0_beginDueUse_29 : decode cX0_beginDueUse 29 = .ok (.getfield 24, 3) := by decide +kernel
theorem dX0_beginDueUse_32 : decode cX0_beginDueUse 32 = .ok (.iload_n 2, 1) := by decide +kernel
theorem dX0_beginDueUse_33 : decode cX0_beginDueUse 33 = .ok (.iaload, 1) := by decide +kernel
theorem dX0_beginDueUse_34 : decode cX0_beginDueUse 34 = .ok (.aload_n 0, 1) := by decide +kernel
theorem dX0_beginDueUse_35 : decode cX0_beginDueUse 35 = .ok (.getfield 48, 3) := by decide +kernel
theorem dX0_beginDueUse_38 : decode cX0_beginDueUse 38 = .ok (.if_icmp .gt 33, 3) := by decide +kernel
theorem dX0_beginDueUse_41 : decode cX0_beginDueUse 41 = .ok (.aload_n 0, 1) := by decide +kernel
theorem dX0_beginDueUse_42 : decode cX0_beginDueUse 42 = .ok (.getfield 11, 3) := by decide +kernel
theorem dX0_beginDueUse_45 : decode cX0_beginDueUse 45 = .ok (.iload_n 1, 1) := by decide +kernel
theorem dX0_beginDueUse_46 : decode cX0_beginDueUse 46 = .ok (.aaload, 1) := by decide +kernel
theorem dX0_beginDueUse_47 : decode cX0_beginDueUse 47 = .ok (.aload_n 0, 1) := by decide +kernel
theorem dX0_beginDueUse_48 : decode cX0_beginDueUse 48 = .ok (.getfield 48, 3) := by decide +kernel
theorem dX0_beginDueUse_51 : decode cX0_beginDueUse 51 = .ok (.aload_n 0, 1) := by decide +kernel
theorem dX0_beginDueUse_52 : decode cX0_beginDueUse 52 = .ok (.getfield 24, 3) := by decide +kernel
theorem dX0_beginDueUse_55 : decode cX0_beginDueUse 55 = .ok (.iload_n 2, 1) := by decide +kernel
theorem dX0_beginDueUse_56 : decode cX0_beginDueUse 56 = .ok (.iaload, 1) := by decide +kernel
theorem dX0_beginDueUse_57 : decode cX0_beginDueUse 57 = .ok (.aload_n 0, 1) := by decide +kernel
theorem dX0_beginDueUse_58 : decode cX0_beginDueUse 58 = .ok (.getfield 27, 3) := by decide +kernel
theorem dX0_beginDueUse_61 : decode cX0_beginDueUse 61 = .ok (.iload_n 2, 1) := by decide +kernel
theorem dX0_beginDueUse_62 : decode cX0_beginDueUse 62 = .ok (.iaload, 1) := by decide +kernel
theorem dX0_beginDueUse_63 : decode cX0_beginDueUse 63 = .ok (.invokevirtual 157, 3) := by decide +kernel
theorem dX0_beginDueUse_66 : decode cX0_beginDueUse 66 = .ok (.aload_n 0, 1) := by decide +kernel
theorem dX0_beginDueUse_67 : decode cX0_beginDueUse 67 = .ok (.iload_n 2, 1) := by decide +kernel
theorem dX0_beginDueUse_68 : decode cX0_beginDueUse 68 = .ok (.invokevirtual 108, 3) := by decide +kernel
theorem dX0_beginDueUse_71 : decode cX0_beginDueUse 71 = .ok (.return_, 1) := by decide +kernel
set_option maxRecDepth 20000 in
theorem ggX0_goOn_X2_workOn : GoodIn wsX0_goOn wsX2_workOn := goodIn_r _ [8, 9, 10, 11, 32, 33, 34, 35, 36, 37, 38, 39, 40, 41, 42, 43, 44, 45, 46] (by decide +kernel) (by decide +kernel)
set_option maxRecDepth 20000 in
theorem gX0_goOn_X2_workOn : GoodIn wsX0_goOn (wsV RX0 161 RX2 yX2_workOn wsX2_workOn) := goodIn_app (goodIn_of _ (by decide +kernel)) ggX0_goOn_X2_workOn
set_option maxRecDepth 20000 in
theorem ggX0_goOn_X2_isTimedOut : GoodIn wsX0_goOn wsX2_isTimedOut := goodIn_r _ [15, 16, 11, 32, 33, 34, 35, 36, 37, 38, 39, 40, 41, 42, 43, 44, 45, 46] (by decide +kernel) (by decide +kernel)
set_option maxRecDepth 20000 in
theorem gX0_goOn_X2_isTimedOut : GoodIn wsX0_goOn (wsV RX0 164 RX2 yX2_isTimedOut wsX2_isTimedOut) := goodIn_app (goodIn_of _ (by decide +kernel)) ggX0_goOn_X2_isTimedOut
set_option maxRecDepth 20000 in
theorem ggX0_goOn_X0_hasDependentsUp : GoodIn wsX0_goOn wsX0_hasDependentsUp := goodIn_r _ [21, 22, 1, 23, 2, 24, 25, 26, 27, 28, 29, 30, 31, 32, 33, 34, 35, 36, 37, 38, 39, 40, 41, 42, 43, 44, 45, 46] (by decide +kernel) (by decide +kernel)
set_option maxRecDepth 20000 in
theorem gX0_goOn_X0_hasDependentsUp : GoodIn wsX0_goOn (wsV RX0 130 RX0 yX0_hasDependentsUp wsX0_hasDependentsUp) := goodIn_app (goodIn_of _ (by decide +kernel)) ggX0_goOn_X0_hasDependentsUp
theorem dX0_goOn_0 : decode cX0_goOn 0 = .ok (.aload_n 0, 1) := by decide +kernel
theorem dX0_goOn_1 : decode cX0_goOn 1 = .ok (.getfield 11, 3) := by decide +kernel
theorem dX0_goOn_4 : decode cX0_goOn 4 = .ok (.iload_n 1, 1) := by decide +kernel
theorem dX0_goOn_5 : decode cX0_goOn 5 = .ok (.aaload, 1) := by decide +kernel
theorem dX0_goOn_6 : decode cX0_goOn 6 = .ok (.astore_n 2, 1) := by decide +kernel
theorem dX0_goOn_7 : decode cX0_goOn 7 = .ok (.aload_n 2, 1) := by decide +kernel
theorem dX0_goOn_8 : decode cX0_goOn 8 = .ok (.getfield 65, 3) := by decide +kernel
theorem dX0_goOn_11 : decode cX0_goOn 11 = .ok (.iconst 1, 1) := by decide +kernel
theorem dX0_goOn_12 : decode cX0_goOn 12 = .ok (.if_icmp .eq 11, 3) := by decide +kernel
theorem dX0_goOn_15 : decode cX0_goOn 15 = .ok (.aload_n 2, 1) := by decide +kernel
theorem dX0_goOn_16 : decode cX0_goOn 16 = .ok (.getfield 65, 3) := by decide +kernel
theorem dX0_goOn_19 : decode cX0_goOn 19 = .ok (.iconst 3, 1) := by decide +kernel
theorem dX0_goOn_20 : decode cX0_goOn 20 = .ok (.if_icmp .ne 10, 3) := by decide +kernel
theorem dX0_goOn_23 : decode cX0_goOn 23 = .ok (.aload_n 2, 1) := by decide +kernel
theorem dX0_goOn_24 : decode cX0_goOn 24 = .ok (.invokevirtual 161, 3) := by decide +kernel
theorem dX0_goOn_27 : decode cX0_goOn 27 = .ok (.goto 41, 3) := by decide +kernel
theorem dX0_goOn_30 : decode cX0_goOn 30 = .ok (.aload_n 2, 1) := by decide +kernel
theorem dX0_goOn_31 : decode cX0_goOn 31 = .ok (.getfield 65, 3) := by decide +kernel
theorem dX0_goOn_34 : decode cX0_goOn 34 = .ok (.iconst 2, 1) := by decide +kernel
theorem dX0_goOn_35 : decode cX0_goOn 35 = .ok (.if_icmp .ne 33, 3) := by decide +kernel
theorem dX0_goOn_38 : decode cX0_goOn 38 = .ok (.aload_n 2, 1) := by decide +kernel
theorem dX0_goOn_39 : decode cX0_goOn 39 = .ok (.dup, 1) := by decide +kernel
theorem dX0_goOn_40 : decode cX0_goOn 40 = .ok (.getfield 133, 3) := by decide +kernel
theorem dX0_goOn_43 : decode cX0_goOn 43 = .ok (.iconst 1, 1) := by decide +kernel
theorem dX0_goOn_44 : decode cX0_goOn 44 = .ok (.iadd, 1) := by decide +kernel
theorem dX0_goOn_45 : decode cX0_goOn 45 = .ok (.putfield 133, 3) := by decide +kernel
theorem dX0_goOn_48 : decode cX0_goOn 48 = .ok (.aload_n 2, 1) := by decide +kernel
theorem dX0_goOn_49 : decode cX0_goOn 49 = .ok (.invokevirtual 164, 3) := by decide +kernel
theorem dX0_goOn_52 : decode cX0_goOn 52 = .ok (.ifCond .eq 16, 3) := by decide +kernel
theorem dX0_goOn_55 : decode cX0_goOn 55 = .ok (.aload_n 0, 1) := by decide +kernel
theorem dX0_goOn_56 : decode cX0_goOn 56 = .ok (.iload_n 1, 1) := by decide +kernel
theorem dX0_goOn_57 : decode cX0_goOn 57 = .ok (.invokevirtual 130, 3) := by decide +kernel
theorem dX0_goOn_60 : decode cX0_goOn 60 = .ok (.ifCond .ne 8, 3) := by decide +kernel
theorem dX0_goOn_63 : decode cX0_goOn 63 = .ok (.aload_n 2, 1) := by decide +kernel
theorem dX0_goOn_64 : decode cX0_goOn 64 = .ok (.iconst 0, 1) := by decide +kernel
theorem dX0_goOn_65 : decode cX0_goOn 65 = .ok (.putfield 65, 3) := by decide +kernel
theorem dX0_goOn_68 : decode cX0_goOn 68 = .ok (.return_, 1) := by decide +kernel
theorem dX1_init_0 : decode cX1_init 0 = .ok (.aload_n 0, 1) := by decide +kernel
theorem dX1_init_1 : decode cX1_init 1 = .ok (.invokespecial 3, 3) := by decide +kernel
theorem dX1_init_4 : decode cX1_init 4 = .ok (.aload_n 0, 1) := by decide +kernel
theorem dX1_init_5 : decode cX1_init 5 = .ok (.bipush 60, 2) := by decide +kernel
theorem dX1_init_7 : decode cX1_init 7 = .ok (.newarray .char, 2) := by decide +kernel
theorem dX1_init_9 : decode cX1_init 9 = .ok (.putfield 9, 3) := by decide +kernel
theorem dX1_init_12 : decode cX1_init 12 = .ok (.aload_n 0, 1) := by decide +kernel
theorem dX1_init_13 : decode cX1_init 13 = .ok (.iconst 3, 1) := by decide +kernel
theorem dX1_init_14 : decode cX1_init 14 = .ok (.newarray .int, 2) := by decide +kernel
theorem dX1_init_16 : decode cX1_init 16 = .ok (.putfield 15, 3) := by decide +kernel
theorem dX1_init_19 : decode cX1_init 19 = .ok (.return_, 1) := by decide +kernel
theorem dX2_init_0 : decode cX2_init 0 = .ok (.aload_n 0, 1) := by decide +kernel
theorem dX2_init_1 : decode cX2_init 1 = .ok (.invokespecial 3, 3) := by decide +kernel
theorem dX2_init_4 : decode cX2_init 4 = .ok (.aload_n 0, 1) := by decide +kernel
theorem dX2_init_5 : decode cX2_init 5 = .ok (.iconst 5, 1) := by decide +kernel
theorem dX2_init_6 : decode cX2_init 6 = .ok (.newarray .int, 2) := by decide +kernel
theorem dX2_init_8 : decode cX2_init 8 = .ok (.putfield 9, 3) := by decide +kernel
theorem dX2_init_11 : decode cX2_init 11 = .ok (.aload_n 0, 1) := by decide +kernel
theorem dX2_init_12 : decode cX2_init 12 = .ok (.iconst 4, 1) := by decide +kernel
theorem dX2_init_13 : decode cX2_init 13 = .ok (.newarray .int, 2) := by decide +kernel
theorem dX2_init_15 : decode cX2_init 15 = .ok (.putfield 15, 3) := by decide +kernel
theorem dX2_init_18 : decode cX2_init 18 = .ok (.return_, 1) := by decide +kernel
theorem dX2_startAnew_0 : decode cX2_startAnew 0 = .ok (.iconst 0, 1) := by decide +kernel
theorem dX2_startAnew_1 : decode cX2_startAnew 1 = .ok (.istore_n 2, 1) := by decide +kernel
theorem dX2_startAnew_2 : decode cX2_startAnew 2 = .ok (.iload_n 2, 1) := by decide +kernel
theorem dX2_startAnew_3 : decode cX2_startAnew 3 = .ok (.iconst 4, 1) := by decide +kernel
theorem dX2_startAnew_4 : decode cX2_startAnew 4 = .ok (.if_icmp .ge 16, 3) := by decide +kernel
theorem dX2_startAnew_7 : decode cX2_startAnew 7 = .ok (.aload_n 0, 1) := by decide +kernel
theorem dX2_startAnew_8 : decode cX2_startAnew 8 = .ok (.getfield 15, 3) := by decide +kernel
theorem dX2_startAnew_11 : decode cX2_startAnew 11 = .ok (.iload_n 2, 1) := by decide +kernel
theorem dX2_startAnew_12 : decode cX2_startAnew 12 = .ok (.iconst 0, 1) := by decide +kernel
theorem dX2_startAnew_13 : decode cX2_startAnew 13 = .ok (.iastore, 1) := by decide +kernel
theorem dX2_startAnew_14 : decode cX2_startAnew 14 = .ok (.iinc 2 1, 3) := by decide +kernel
theorem dX2_startAnew_17 : decode cX2_startAnew 17 = .ok (.goto (-15), 3) := by decide +kernel
theorem dX2_startAnew_20 : decode cX2_startAnew 20 = .ok (.aload_n 0, 1) := by decide +kernel
theorem dX2_startAnew_21 : decode cX2_startAnew 21 = .ok (.iload_n 1, 1) := by decide +kernel
theorem dX2_startAnew_22 : decode cX2_startAnew 22 = .ok (.putfield 18, 3) := by decide +kernel
theorem dX2_startAnew_25 : decode cX2_startAnew 25 = .ok (.aload_n 0, 1) := by decide +kernel
theorem dX2_startAnew_26 : decode cX2_startAnew 26 = .ok (.iconst (-1), 1) := by decide +kernel
theorem dX2_startAnew_27 : decode cX2_startAnew 27 = .ok (.putfield 22, 3) := by decide +kernel
theorem dX2_startAnew_30 : decode cX2_startAnew 30 = .ok (.aload_n 0, 1) := by decide +kernel
theorem dX2_startAnew_31 : decode cX2_startAnew 31 = .ok (.iconst (-1), 1) := by decide +kernel
theorem dX2_startAnew_32 : decode cX2_startAnew 32 = .ok (.putfield 25, 3) := by decide +kernel
theorem dX2_startAnew_35 : decode cX2_startAnew 35 = .ok (.aload_n 0, 1) := by decide +kernel
theorem dX2_startAnew_36 : decode cX2_startAnew 36 = .ok (.iconst 0, 1) := by decide +kernel
theorem dX2_startAnew_37 : decode cX2_startAnew 37 = .ok (.putfield 28, 3) := by decide +kernel
theorem dX2_startAnew_40 : decode cX2_startAnew 40 = .ok (.aload_n 0, 1) := by decide +kernel
theorem dX2_startAnew_41 : decode cX2_startAnew 41 = .ok (.iconst 0, 1) := by decide +kernel
theorem dX2_startAnew_42 : decode cX2_startAnew 42 = .ok (.putfield 31, 3) := by decide +kernel
theorem dX2_startAnew_45 : decode cX2_startAnew 45 = .ok (.aload_n 0, 1) := by decide +kernel
theorem dX2_startAnew_46 : decode cX2_startAnew 46 = .ok (.iconst 0, 1) := by decide +kernel
theorem dX2_startAnew_47 : decode cX2_startAnew 47 = .ok (.putfield 34, 3) := by decide +kernel
theorem dX2_startAnew_50 : decode cX2_startAnew 50 = .ok (.aload_n 0, 1) := by decide +kernel
theorem dX2_startAnew_51 : decode cX2_startAnew 51 = .ok (.iconst 0, 1) := by decide +kernel
theorem dX2_startAnew_52 : decode cX2_startAnew 52 = .ok (.putfield 37, 3) := by decide +kernel
theorem dX2_startAnew_55 : decode cX2_startAnew 55 = .ok (.aload_n 0, 1) := by decide +kernel
theorem dX2_startAnew_56 : decode cX2_startAnew 56 = .ok (.iconst 0, 1) := by decide +kernel
theorem dX2_startAnew_57 : decode cX2_startAnew 57 = .ok (.putfield 40, 3) := by decide +kernel
theorem dX2_startAnew_60 : decode cX2_startAnew 60 = .ok (.aload_n 0, 1) := by decide +kernel
theorem dX2_startAnew_61 : decode cX2_startAnew 61 = .ok (.iconst 0, 1) := by decide +kernel
theorem dX2_startAnew_62 : decode cX2_startAnew 62 = .ok (.putfield 43, 3) := by decide +kernel
theorem dX2_startAnew_65 : decode cX2_startAnew 65 = .ok (.aload_n 0, 1) := by decide +kernel
theorem dX2_startAnew_66 : decode cX2_startAnew 66 = .ok (.iconst 0, 1) := by decide +kernel
theorem dX2_startAnew_67 : decode cX2_startAnew 67 = .ok (.putfield 46, 3) := by decide +kernel
theorem dX2_startAnew_70 : decode cX2_startAnew 70 = .ok (.aload_n 0, 1) := by decide +kernel
theorem dX2_startAnew_71 : decode cX2_startAnew 71 = .ok (.iconst 0, 1) := by decide +kernel
theorem dX2_startAnew_72 : decode cX2_startAnew 72 = .ok (.putfield 49, 3) := by decide +kernel
theorem dX2_startAnew_75 : decode cX2_startAnew 75 = .ok (.aload_n 0, 1) := by decide +kernel
theorem dX2_startAnew_76 : decode cX2_startAnew 76 = .ok (.iconst 0, 1) := by decide +kernel
theorem dX2_startAnew_77 : decode cX2_startAnew 77 = .ok (.putfield 52, 3) := by decide +kernel
theorem dX2_startAnew_80 : decode cX2_startAnew 80 = .ok (.aload_n 0, 1) := by decide +kernel
theorem dX2_startAnew_81 : decode cX2_startAnew 81 = .ok (.iconst 0, 1) := by decide +kernel
theorem dX2_startAnew_82 : decode cX2_startAnew 82 = .ok (.putfield 55, 3) := by decide +kernel
theorem dX2_startAnew_85 : decode cX2_startAnew 85 = .ok (.return_, 1) := by decide +kernel
theorem dX2_copyFrom_0 : decode cX2_copyFrom 0 = .ok (.aload_n 1, 1) := by decide +kernel
theorem dX2_copyFrom_1 : decode cX2_copyFrom 1 = .ok (.getfield 9, 3) := by decide +kernel
theorem dX2_copyFrom_4 : decode cX2_copyFrom 4 = .ok (.iconst 0, 1) := by decide +kernel
theorem dX2_copyFrom_5 : decode cX2_copyFrom 5 = .ok (.aload_n 0, 1) := by decide +kernel
theorem dX2_copyFrom_6 : decode cX2_copyFrom 6 = .ok (.getfield 9, 3) := by decide +kernel
theorem dX2_copyFrom_9 : decode cX2_copyFrom 9 = .ok (.iconst 0, 1) := by decide +kernel
theorem dX2_copyFrom_10 : decode cX2_copyFrom 10 = .ok (.iconst 5, 1) := by decide +kernel
theorem dX2_copyFrom_11 : decode cX2_copyFrom 11 = .ok (.invokestatic 58, 3) := by decide +kernel
theorem dX2_copyFrom_14 : decode cX2_copyFrom 14 = .ok (.aload_n 1, 1) := by decide +kernel
theorem dX2_copyFrom_15 : decode cX2_copyFrom 15 = .ok (.getfield 15, 3) := by decide +kernel
theorem dX2_copyFrom_18 : decode cX2_copyFrom 18 = .ok (.iconst 0, 1) := by decide +kernel
theorem dX2_copyFrom_19 : decode cX2_copyFrom 19 = .ok (.aload_n 0, 1) := by decide +kernel
theorem dX2_copyFrom_20 : decode cX2_copyFrom 20 = .ok (.getfield 15, 3) := by decide +kernel
theorem dX2_copyFrom_23 : decode cX2_copyFrom 23 = .ok (.iconst 0, 1) := by decide +kernel
theorem dX2_copyFrom_24 : decode cX2_copyFrom 24 = .ok (.iconst 4, 1) := by decide +kernel
theorem dX2_copyFrom_25 : decode cX2_copyFrom 25 = .ok (.invokestatic 58, 3) := by decide +kernel
theorem dX2_copyFrom_28 : decode cX2_copyFrom 28 = .ok (.aload_n 0, 1) := by decide +kernel
theorem dX2_copyFrom_29 : decode cX2_copyFrom 29 = .ok (.aload_n 1, 1) := by decide +kernel
theorem dX2_copyFrom_30 : decode cX2_copyFrom 30 = .ok (.getfield 18, 3) := by decide +kernel
theorem dX2_copyFrom_33 : decode cX2_copyFrom 33 = .ok (.putfield 18, 3) := by decide +kernel
theorem dX2_copyFrom_36 : decode cX2_copyFrom 36 = .ok (.aload_n 0, 1) := by decide +kernel
theorem dX2_copyFrom_37 : decode cX2_copyFrom 37 = .ok (.aload_n 1, 1) := by decide +kernel
theorem dX2_copyFrom_38 : decode cX2_copyFrom 38 = .ok (.getfield 22, 3) := by decide +kernel
theorem dX2_copyFrom_41 : decode cX2_copyFrom 41 = .ok (.putfield 22, 3) := by decide +kernel
theorem dX2_copyFrom_44 : decode cX2_copyFrom 44 = .ok (.aload_n 0, 1) := by decide +kernel
theorem dX2_copyFrom_45 : decode cX2_copyFrom 45 = .ok (.aload_n 1, 1) := by decide +kernel
theorem dX2_copyFrom_46 : decode cX2_copyFrom 46 = .ok (.getfield 25, 3) := by decide +kernel
theorem dX2_copyFrom_49 : decode cX2_copyFrom 49 = .ok (.putfield 25, 3) := by decide +kernel
theorem dX2_copyFrom_52 : decode cX2_copyFrom 52 = .ok (.aload_n 0, 1) := by decide +kernel
theorem dX2_copyFrom_53 : decode cX2_copyFrom 53 = .ok (.aload_n 1, 1) := by decide +kernel
theorem dX2_copyFrom_54 : decode cX2_copyFrom 54 = .ok (.getfield 28, 3) := by decide +kernel
theorem dX2_copyFrom_57 : decode cX2_copyFrom 57 = .ok (.putfield 28, 3) := by decide +kernel
theorem dX2_copyFrom_60 : decode cX2_copyFrom 60 = .ok (.aload_n 0, 1) := by decide +kernel
theorem dX2_copyFrom_61 : decode cX2_copyFrom 61 = .ok (.aload_n 1, 1) := by decide +kernel
theorem dX2_copyFrom_62 : decode cX2_copyFrom 62 = .ok (.getfield 31, 3) := by decide +kernel
theorem dX2_copyFrom_65 : decode cX2_copyFrom 65 = .ok (.putfield 31, 3) := by decide +kernel
theorem dX2_copyFrom_68 : decode cX2_copyFrom 68 = .ok (.aload_n 0, 1) := by decide +kernel
theorem dX2_copyFrom_69 : decode cX2_copyFrom 69 = .ok (.aload_n 1, 1) := by decide +kernel
theorem dX2_copyFrom_70 : decode cX2_copyFrom 70 = .ok (.getfield 34, 3) := by decide +kernel
theorem dX2_copyFrom_73 : decode cX2_copyFrom 73 = .ok (.putfield 34, 3) := by decide +kernel
theorem dX2_copyFrom_76 : decode cX2_copyFrom 76 = .ok (.aload_n 0, 1) := by decide +kernel
theorem dX2_copyFrom_77 : decode cX2_copyFrom 77 = .ok (.aload_n 1, 1) := by decide +kernel
theorem dX2_copyFrom_78 : decode cX2_copyFrom 78 = .ok (.getfield 37, 3) := by decide +kernel
theorem dX2_copyFrom_81 : decode cX2_copyFrom 81 = .ok (.putfield 37, 3) := by decide +kernel
theorem dX2_copyFrom_84 : decode cX2_copyFrom 84 = .ok (.aload_n 0, 1) := by decide +kernel
theorem dX2_copyFrom_85 : decode cX2_copyFrom 85 = .ok (.aload_n 1, 1) := by decide +kernel
theorem dX2_copyFrom_86 : decode cX2_copyFrom 86 = .ok (.getfield 40, 3) := by decide +kernel
theorem dX2_copyFrom_89 : decode cX2_copyFrom 89 = .ok (.putfield 40, 3) := by decide +kernel
theorem dX2_copyFrom_92 : decode cX2_copyFrom 92 = .ok (.aload_n 0, 1) := by decide +kernel
theorem dX2_copyFrom_93 : decode cX2_copyFrom 93 = .ok (.aload_n 1, 1) := by decide +kernel
theorem dX2_copyFrom_94 : decode cX2_copyFrom 94 = .ok (.getfield 43, 3) := by decide +kernel
theorem dX2_copyFrom_97 : decode cX2_copyFrom 97 = .ok (.putfield 43, 3) := by decide +kernel
theorem dX2_copyFrom_100 : decode cX2_copyFrom 100 = .ok (.aload_n 0, 1) := by decide +kernel
theorem dX2_copyFrom_101 : decode cX2_copyFrom 101 = .ok (.aload_n 1, 1) := by decide +kernel
theorem dX2_copyFrom_102 : decode cX2_copyFrom 102 = .ok (.getfield 46, 3) := by decide +kernel
theorem dX2_copyFrom_105 : decode cX2_copyFrom 105 = .ok (.putfield 46, 3) := by decide +kernel
theorem dX2_copyFrom_108 : decode cX2_copyFrom 108 = .ok (.aload_n 0, 1) := by decide +kernel
theorem dX2_copyFrom_109 : decode cX2_copyFrom 109 = .ok (.aload_n 1, 1) := by decide +kernel
theorem dX2_copyFrom_110 : decode cX2_copyFrom 110 = .ok (.getfield 49, 3) := by decide +kernel
theorem dX2_copyFrom_113 : decode cX2_copyFrom 113 = .ok (.putfield 49, 3) := by decide +kernel
theorem dX2_copyFrom_116 : decode cX2_copyFrom 116 = .ok (.aload_n 0, 1) := by decide +kernel
theorem dX2_copyFrom_117 : decode cX2_copyFrom 117 = .ok (.aload_n 1, 1) := by decide +kernel
theorem dX2_copyFrom_118 : decode cX2_copyFrom 118 = .ok (.getfield 52, 3) := by decide +kernel
theorem dX2_copyFrom_121 : decode cX2_copyFrom 121 = .ok (.putfield 52, 3) := by decide +kernel
theorem dX2_copyFrom_124 : decode cX2_copyFrom 124 = .ok (.aload_n 0, 1) := by decide +kernel
theorem dX2_copyFrom_125 : decode cX2_copyFrom 125 = .ok (.aload_n 1, 1) := by decide +kernel
theorem dX2_copyFrom_126 : decode cX2_copyFrom 126 = .ok (.getfield 55, 3) := by decide +kernel
theorem dX2_copyFrom_129 : decode cX2_copyFrom 129 = .ok (.putfield 55, 3) := by decide +kernel
theorem dX2_copyFrom_132 : decode cX2_copyFrom 132 = .ok (.return_, 1) := by decide +kernel
theorem dX2_tell_0 : decode cX2_tell 0 = .ok (.iload_n 1, 1) := by decide +kernel
theorem dX2_tell_1 : decode cX2_tell 1 = .ok (.tableswitch 176 0 11 #[63, 68, 73, 91, 109, 134, 151, 156, 176, 161, 166, 171], 63) := by decide +kernel
theorem dX2_tell_64 : decode cX2_tell 64 = .ok (.aload_n 0, 1) := by decide +kernel
theorem dX2_tell_65 : decode cX2_tell 65 = .ok (.getfield 18, 3) := by decide +kernel
theorem dX2_tell_68 : decode cX2_tell 68 = .ok (.ireturn, 1) := by decide +kernel
theorem dX2_tell_69 : decode cX2_tell 69 = .ok (.aload_n 0, 1) := by decide +kernel
theorem dX2_tell_70 : decode cX2_tell 70 = .ok (.getfield 34, 3) := by decide +kernel
theorem dX2_tell_73 : decode cX2_tell 73 = .ok (.ireturn, 1) := by decide +kernel
theorem dX2_tell_74 : decode cX2_tell 74 = .ok (.aload_n 0, 1) := by decide +kernel
theorem dX2_tell_75 : decode cX2_tell 75 = .ok (.getfield 22, 3) := by decide +kernel
theorem dX2_tell_78 : decode cX2_tell 78 = .ok (.iconst (-1), 1) := by decide +kernel
theorem dX2_tell_79 : decode cX2_tell 79 = .ok (.if_icmp .ne 8, 3) := by decide +kernel
theorem dX2_tell_82 : decode cX2_tell 82 = .ok (.bipush (-4), 2) := by decide +kernel
theorem dX2_tell_84 : decode cX2_tell 84 = .ok (.goto 7, 3) := by decide +kernel
theorem dX2_tell_87 : decode cX2_tell 87 = .ok (.aload_n 0, 1) := by decide +kernel
theorem dX2_tell_88 : decode cX2_tell 88 = .ok (.getfield 22, 3) := by decide +kernel
theorem dX2_tell_91 : decode cX2_tell 91 = .ok (.ireturn, 1) := by decide +kernel
theorem dX2_tell_92 : decode cX2_tell 92 = .ok (.aload_n 0, 1) := by decide +kernel
theorem dX2_tell_93 : decode cX2_tell 93 = .ok (.getfield 25, 3) := by decide +kernel
theorem dX2_tell_96 : decode cX2_tell 96 = .ok (.iconst (-1), 1) := by decide +kernel
theorem dX2_tell_97 : decode cX2_tell 97 = .ok (.if_icmp .ne 8, 3) := by decide +kernel
theorem dX2_tell_100 : decode cX2_tell 100 = .ok (.bipush (-4), 2) := by decide +kernel
theorem dX2_tell_102 : decode cX2_tell 102 = .ok (.goto 7, 3) := by decide +kernel
theorem dX2_tell_105 : decode cX2_tell 105 = .ok (.aload_n 0, 1) := by decide +kernel
theorem dX2_tell_106 : decode cX2_tell 106 = .ok (.getfield 25, 3) := by decide +kernel
theorem dX2_tell_109 : decode cX2_tell 109 = .ok (.ireturn, 1) := by decide +kernel
theorem dX2_tell_110 : decode cX2_tell 110 = .ok (.aload_n 0, 1) := by decide +kernel
theorem dX2_tell_111 : decode cX2_tell 111 = .ok (.getfield 34, 3) := by decide +kernel
theorem dX2_tell_114 : decode cX2_tell 114 = .ok (.iconst 1, 1) := by decide +kernel
theorem dX2_tell_115 : decode cX2_tell 115 = .ok (.if_icmp .eq 11, 3) := by decide +kernel
theorem dX2_tell_118 : decode cX2_tell 118 = .ok (.aload_n 0, 1) := by decide +kernel
theorem dX2_tell_119 : decode cX2_tell 119 = .ok (.getfield 34, 3) := by decide +kernel
theorem dX2_tell_122 : decode cX2_tell 122 = .ok (.iconst 3, 1) := by decide +kernel
theorem dX2_tell_123 : decode cX2_tell 123 = .ok (.if_icmp .ne 10, 3) := by decide +kernel
theorem dX2_tell_126 : decode cX2_tell 126 = .ok (.aload_n 0, 1) := by decide +kernel
theorem dX2_tell_127 : decode cX2_tell 127 = .ok (.getfield 37, 3) := by decide +kernel
theorem dX2_tell_130 : decode cX2_tell 130 = .ok (.goto 4, 3) := by decide +kernel
theorem dX2_tell_133 : decode cX2_tell 133 = .ok (.iconst 0, 1) := by decide +kernel
theorem dX2_tell_134 : decode cX2_tell 134 = .ok (.ireturn, 1) := by decide +kernel
theorem dX2_tell_135 : decode cX2_tell 135 = .ok (.aload_n 0, 1) := by decide +kernel
theorem dX2_tell_136 : decode cX2_tell 136 = .ok (.getfield 34, 3) := by decide +kernel
theorem dX2_tell_139 : decode cX2_tell 139 = .ok (.iconst 2, 1) := by decide +kernel
theorem dX2_tell_140 : decode cX2_tell 140 = .ok (.if_icmp .ne 10, 3) := by decide +kernel
theorem dX2_tell_143 : decode cX2_tell 143 = .ok (.aload_n 0, 1) := by decide +kernel
theorem dX2_tell_144 : decode cX2_tell 144 = .ok (.getfield 40, 3) := by decide +kernel
theorem dX2_tell_147 : decode cX2_tell 147 = .ok (.goto 4, 3) := by decide +kernel
theorem dX2_tell_150 : decode cX2_tell 150 = .ok (.iconst 0, 1) := by decide +kernel
theorem dX2_tell_151 : decode cX2_tell 151 = .ok (.ireturn, 1) := by decide +kernel
theorem dX2_tell_152 : decode cX2_tell 152 = .ok (.aload_n 0, 1) := by decide +kernel
theorem dX2_tell_153 : decode cX2_tell 153 = .ok (.getfield 28, 3) := by decide +kernel
theorem dX2_tell_156 : decode cX2_tell 156 = .ok (.ireturn, 1) := by decide +kernel
theorem dX2_tell_157 : decode cX2_tell 157 = .ok (.aload_n 0, 1) := by decide +kernel
theorem dX2_tell_158 : decode cX2_tell 158 = .ok (.getfield 31, 3) := by decide +kernel
theorem dX2_tell_161 : decode cX2_tell 161 = .ok (.ireturn, 1) := by decide +kernel
theorem dX2_tell_162 : decode cX2_tell 162 = .ok (.aload_n 0, 1) := by decide +kernel
theorem dX2_tell_163 : decode cX2_tell 163 = .ok (.getfield 43, 3) := by decide +kernel
theorem dX2_tell_166 : decode cX2_tell 166 = .ok (.ireturn, 1) := by decide +kernel
theorem dX2_tell_167 : decode cX2_tell 167 = .ok (.aload_n 0, 1) := by decide +kernel
theorem dX2_tell_168 : decode cX2_tell 168 = .ok (.getfield 46, 3) := by decide +kernel
theorem dX2_tell_171 : decode cX2_tell 171 = .ok (.ireturn, 1) := by decide +kernel
theorem dX2_tell_172 : decode cX2_tell 172 = .ok (.aload_n 0, 1) := by decide +kernel
theorem dX2_tell_173 : decode cX2_tell 173 = .ok (.getfield 49, 3) := by decide +kernel
theorem dX2_tell_176 : decode cX2_tell 176 = .ok (.ireturn, 1) := by decide +kernel
theorem dX2_tell_177 : decode cX2_tell 177 = .ok (.aload_n 0, 1) := by decide +kernel
theorem dX2_tell_178 : decode cX2_tell 178 = .ok (.getfield 43, 3) := by decide +kernel
theorem dX2_tell_181 : decode cX2_tell 181 = .ok (.iconst 2, 1) := by decide +kernel
theorem dX2_tell_182 : decode cX2_tell 182 = .ok (.if_icmp .ge 8, 3) := by decide +kernel
theorem dX2_tell_185 : decode cX2_tell 185 = .ok (.bipush (-4), 2) := by decide +kernel
theorem dX2_tell_187 : decode cX2_tell 187 = .ok (.goto 7, 3) := by decide +kernel
theorem dX2_tell_190 : decode cX2_tell 190 = .ok (.aload_n 0, 1) := by decide +kernel
theorem dX2_tell_191 : decode cX2_tell 191 = .ok (.getfield 55, 3) := by decide +kernel
theorem dX2_tell_194 : decode cX2_tell 194 = .ok (.ireturn, 1) := by decide +kernel
theorem dX2_paidInAll_0 : decode cX2_paidInAll 0 = .ok (.aload_n 0, 1) := by decide +kernel
theorem dX2_paidInAll_1 : decode cX2_paidInAll 1 = .ok (.getfield 15, 3) := by decide +kernel
theorem dX2_paidInAll_4 : decode cX2_paidInAll 4 = .ok (.iconst 0, 1) := by decide +kernel
theorem dX2_paidInAll_5 : decode cX2_paidInAll 5 = .ok (.iaload, 1) := by decide +kernel
theorem dX2_paidInAll_6 : decode cX2_paidInAll 6 = .ok (.aload_n 0, 1) := by decide +kernel
theorem dX2_paidInAll_7 : decode cX2_paidInAll 7 = .ok (.getfield 15, 3) := by decide +kernel
theorem dX2_paidInAll_10 : decode cX2_paidInAll 10 = .ok (.iconst 1, 1) := by decide +kernel
theorem dX2_paidInAll_11 : decode cX2_paidInAll 11 = .ok (.iaload, 1) := by decide +kernel
theorem dX2_paidInAll_12 : decode cX2_paidInAll 12 = .ok (.iadd, 1) := by decide +kernel
theorem dX2_paidInAll_13 : decode cX2_paidInAll 13 = .ok (.aload_n 0, 1) := by decide +kernel
theorem dX2_paidInAll_14 : decode cX2_paidInAll 14 = .ok (.getfield 15, 3) := by decide +kernel
theorem dX2_paidInAll_17 : decode cX2_paidInAll 17 = .ok (.iconst 2, 1) := by decide +kernel
theorem dX2_paidInAll_18 : decode cX2_paidInAll 18 = .ok (.iaload, 1) := by decide +kernel
theorem dX2_paidInAll_19 : decode cX2_paidInAll 19 = .ok (.iadd, 1) := by decide +kernel
theorem dX2_paidInAll_20 : decode cX2_paidInAll 20 = .ok (.aload_n 0, 1) := by decide +kernel
theorem dX2_paidInAll_21 : decode cX2_paidInAll 21 = .ok (.getfield 15, 3) := by decide +kernel
theorem dX2_paidInAll_24 : decode cX2_paidInAll 24 = .ok (.iconst 3, 1) := by decide +kernel
theorem dX2_paidInAll_25 : decode cX2_paidInAll 25 = .ok (.iaload, 1) := by decide +kernel
theorem dX2_paidInAll_26 : decode cX2_paidInAll 26 = .ok (.iadd, 1) := by decide +kernel
theorem dX2_paidInAll_27 : decode cX2_paidInAll 27 = .ok (.ireturn, 1) := by decide +kernel
theorem dX2_startWaking_0 : decode cX2_startWaking 0 = .ok (.aload_n 0, 1) := by decide +kernel
theorem dX2_startWaking_1 : decode cX2_startWaking 1 = .ok (.getfield 15, 3) := by decide +kernel
theorem dX2_startWaking_4 : decode cX2_startWaking 4 = .ok (.iconst 0, 1) := by decide +kernel
theorem dX2_startWaking_5 : decode cX2_startWaking 5 = .ok (.dup2, 1) := by decide +kernel
theorem dX2_startWaking_6 : decode cX2_startWaking 6 = .ok (.iaload, 1) := by decide +kernel
theorem dX2_startWaking_7 : decode cX2_startWaking 7 = .ok (.aload_n 0, 1) := by decide +kernel
theorem dX2_startWaking_8 : decode cX2_startWaking 8 = .ok (.getfield 9, 3) := by decide +kernel
theorem dX2_startWaking_11 : decode cX2_startWaking 11 = .ok (.iconst 0, 1) := by decide +kernel
theorem dX2_startWaking_12 : decode cX2_startWaking 12 = .ok (.iaload, 1) := by decide +kernel
theorem dX2_startWaking_13 : decode cX2_startWaking 13 = .ok (.iadd, 1) := by decide +kernel
theorem dX2_startWaking_14 : decode cX2_startWaking 14 = .ok (.iastore, 1) := by decide +kernel
theorem dX2_startWaking_15 : decode cX2_startWaking 15 = .ok (.aload_n 0, 1) := by decide +kernel
theorem dX2_startWaking_16 : decode cX2_startWaking 16 = .ok (.iconst 1, 1) := by decide +kernel
theorem dX2_startWaking_17 : decode cX2_startWaking 17 = .ok (.putfield 34, 3) := by decide +kernel
theorem dX2_startWaking_20 : decode cX2_startWaking 20 = .ok (.aload_n 0, 1) := by decide +kernel
theorem dX2_startWaking_21 : decode cX2_startWaking 21 = .ok (.aload_n 0, 1) := by decide +kernel
theorem dX2_startWaking_22 : decode cX2_startWaking 22 = .ok (.getfield 9, 3) := by decide +kernel
theorem dX2_startWaking_25 : decode cX2_startWaking 25 = .ok (.iconst 1, 1) := by decide +kernel
theorem dX2_startWaking_26 : decode cX2_startWaking 26 = .ok (.iaload, 1) := by decide +kernel
theorem dX2_startWaking_27 : decode cX2_startWaking 27 = .ok (.putfield 37, 3) := by decide +kernel
theorem dX2_startWaking_30 : decode cX2_startWaking 30 = .ok (.aload_n 0, 1) := by decide +kernel
theorem dX2_startWaking_31 : decode cX2_startWaking 31 = .ok (.dup, 1) := by decide +kernel
theorem dX2_startWaking_32 : decode cX2_startWaking 32 = .ok (.getfield 49, 3) := by decide +kernel
theorem dX2_startWaking_35 : decode cX2_startWaking 35 = .ok (.iconst 1, 1) := by decide +kernel
theorem dX2_startWaking_36 : decode cX2_startWaking 36 = .ok (.iadd, 1) := by decide +kernel
theorem dX2_startWaking_37 : decode cX2_startWaking 37 = .ok (.putfield 49, 3) := by decide +kernel
theorem dX2_startWaking_40 : decode cX2_startWaking 40 = .ok (.return_, 1) := by decide +kernel
theorem dX2_begin_0 : decode cX2_begin 0 = .ok (.aload_n 0, 1) := by decide +kernel
theorem dX2_begin_1 : decode cX2_begin 1 = .ok (.getfield 43, 3) := by decide +kernel
theorem dX2_begin_4 : decode cX2_begin 4 = .ok (.ifCond .le 13, 3) := by decide +kernel
theorem dX2_begin_7 : decode cX2_begin 7 = .ok (.aload_n 0, 1) := by decide +kernel
theorem dX2_begin_8 : decode cX2_begin 8 = .ok (.iload_n 1, 1) := by decide +kernel
theorem dX2_begin_9 : decode cX2_begin 9 = .ok (.aload_n 0, 1) := by decide +kernel
theorem dX2_begin_10 : decode cX2_begin 10 = .ok (.getfield 52, 3) := by decide +kernel
theorem dX2_begin_13 : decode cX2_begin 13 = .ok (.isub, 1) := by decide +kernel
theorem dX2_begin_14 : decode cX2_begin 14 = .ok (.putfield 55, 3) := by decide +kernel
theorem dX2_begin_17 : decode cX2_begin 17 = .ok (.aload_n 0, 1) := by decide +kernel
theorem dX2_begin_18 : decode cX2_begin 18 = .ok (.iload_n 1, 1) := by decide +kernel
theorem dX2_begin_19 : decode cX2_begin 19 = .ok (.iload_n 3, 1) := by decide +kernel
theorem dX2_begin_20 : decode cX2_begin 20 = .ok (.iadd, 1) := by decide +kernel
theorem dX2_begin_21 : decode cX2_begin 21 = .ok (.putfield 52, 3) := by decide +kernel
theorem dX2_begin_24 : decode cX2_begin 24 = .ok (.aload_n 0, 1) := by decide +kernel
theorem dX2_begin_25 : decode cX2_begin 25 = .ok (.dup, 1) := by decide +kernel
theorem dX2_begin_26 : decode cX2_begin 26 = .ok (.getfield 43, 3) := by decide +kernel
theorem dX2_begin_29 : decode cX2_begin 29 = .ok (.iconst 1, 1) := by decide +kernel
theorem dX2_begin_30 : decode cX2_begin 30 = .ok (.iadd, 1) := by decide +kernel
theorem dX2_begin_31 : decode cX2_begin 31 = .ok (.putfield 43, 3) := by decide +kernel
theorem dX2_begin_34 : decode cX2_begin 34 = .ok (.aload_n 0, 1) := by decide +kernel
theorem dX2_begin_35 : decode cX2_begin 35 = .ok (.dup, 1) := by decide +kernel
theorem dX2_begin_36 : decode cX2_begin 36 = .ok (.getfield 46, 3) := by decide +kernel
theorem dX2_begin_39 : decode cX2_begin 39 = .ok (.iload_n 1, 1) := by decide +kernel
theorem dX2_begin_40 : decode cX2_begin 40 = .ok (.iload_n 2, 1) := by decide +kernel
theorem dX2_begin_41 : decode cX2_begin 41 = .ok (.isub, 1) := by decide +kernel
theorem dX2_begin_42 : decode cX2_begin 42 = .ok (.iadd, 1) := by decide +kernel
theorem dX2_begin_43 : decode cX2_begin 43 = .ok (.putfield 46, 3) := by decide +kernel
theorem dX2_begin_46 : decode cX2_begin 46 = .ok (.aload_n 0, 1) := by decide +kernel
theorem dX2_begin_47 : decode cX2_begin 47 = .ok (.iconst 3, 1) := by decide +kernel
theorem dX2_begin_48 : decode cX2_begin 48 = .ok (.putfield 34, 3) := by decide +kernel
theorem dX2_begin_51 : decode cX2_begin 51 = .ok (.aload_n 0, 1) := by decide +kernel
theorem dX2_begin_52 : decode cX2_begin 52 = .ok (.iload_n 3, 1) := by decide +kernel
theorem dX2_begin_53 : decode cX2_begin 53 = .ok (.putfield 37, 3) := by decide +kernel
theorem dX2_begin_56 : decode cX2_begin 56 = .ok (.return_, 1) := by decide +kernel
theorem dX2_isGuessedByGap_0 : decode cX2_isGuessedByGap 0 = .ok (.aload_n 0, 1) := by decide +kernel
theorem dX2_isGuessedByGap_1 : decode cX2_isGuessedByGap 1 = .ok (.getfield 31, 3) := by decide +kernel
theorem dX2_isGuessedByGap_4 : decode cX2_isGuessedByGap 4 = .ok (.iconst 2, 1) := by decide +kernel
theorem dX2_isGuessedByGap_5 : decode cX2_isGuessedByGap 5 = .ok (.if_icmp .ne 43, 3) := by decide +kernel
theorem dX2_isGuessedByGap_8 : decode cX2_isGuessedByGap 8 = .ok (.aload_n 0, 1) := by decide +kernel
theorem dX2_isGuessedByGap_9 : decode cX2_isGuessedByGap 9 = .ok (.getfield 43, 3) := by decide +kernel
theorem dX2_isGuessedByGap_12 : decode cX2_isGuessedByGap 12 = .ok (.iconst 2, 1) := by decide +kernel
theorem dX2_isGuessedByGap_13 : decode cX2_isGuessedByGap 13 = .ok (.if_icmp .lt 35, 3) := by decide +kernel
theorem dX2_isGuessedByGap_16 : decode cX2_isGuessedByGap 16 = .ok (.aload_n 0, 1) := by decide +kernel
theorem dX2_isGuessedByGap_17 : decode cX2_isGuessedByGap 17 = .ok (.getfield 34, 3) := by decide +kernel
theorem dX2_isGuessedByGap_20 : decode cX2_isGuessedByGap 20 = .ok (.iconst 3, 1) := by decide +kernel
theorem dX2_isGuessedByGap_21 : decode cX2_isGuessedByGap 21 = .ok (.if_icmp .eq 27, 3) := by decide +kernel
theorem dX2_isGuessedByGap_24 : decode cX2_isGuessedByGap 24 = .ok (.iload_n 1, 1) := by decide +kernel
theorem dX2_isGuessedByGap_25 : decode cX2_isGuessedByGap 25 = .ok (.aload_n 0, 1) := by decide +kernel
theorem dX2_isGuessedByGap_26 : decode cX2_isGuessedByGap 26 = .ok (.getfield 52, 3) := by decide +kernel
theorem dX2_isGuessedByGap_29 : decode cX2_isGuessedByGap 29 = .ok (.aload_n 0, 1) := by decide +kernel
theorem dX2_isGuessedByGap_30 : decode cX2_isGuessedByGap 30 = .ok (.getfield 55, 3) := by decide +kernel
theorem dX2_isGuessedByGap_33 : decode cX2_isGuessedByGap 33 = .ok (.iadd, 1) := by decide +kernel
theorem dX2_isGuessedByGap_34 : decode cX2_isGuessedByGap 34 = .ok (.aload_n 0, 1) := by decide +kernel
theorem dX2_isGuessedByGap_35 : decode cX2_isGuessedByGap 35 = .ok (.getfield 9, 3) := by decide +kernel
theorem dX2_isGuessedByGap_38 : decode cX2_isGuessedByGap 38 = .ok (.iconst 1, 1) := by decide +kernel
theorem dX2_isGuessedByGap_39 : decode cX2_isGuessedByGap 39 = .ok (.iaload, 1) := by decide +kernel
theorem dX2_isGuessedByGap_40 : decode cX2_isGuessedByGap 40 = .ok (.isub, 1) := by decide +kernel
theorem dX2_isGuessedByGap_41 : decode cX2_isGuessedByGap 41 = .ok (.if_icmp .ne 7, 3) := by decide +kernel
theorem dX2_isGuessedByGap_44 : decode cX2_isGuessedByGap 44 = .ok (.iconst 1, 1) := by decide +kernel
theorem dX2_isGuessedByGap_45 : decode cX2_isGuessedByGap 45 = .ok (.goto 4, 3) := by decide +kernel
theorem dX2_isGuessedByGap_48 : decode cX2_isGuessedByGap 48 = .ok (.iconst 0, 1) := by decide +kernel
theorem dX2_isGuessedByGap_49 : decode cX2_isGuessedByGap 49 = .ok (.ireturn, 1) := by decide +kernel
theorem dX2_payForTick_0 : decode cX2_payForTick 0 = .ok (.aload_n 0, 1) := by decide +kernel
theorem dX2_payForTick_1 : decode cX2_payForTick 1 = .ok (.getfield 34, 3) := by decide +kernel
theorem dX2_payForTick_4 : decode cX2_payForTick 4 = .ok (.tableswitch 86 0 3 #[32, 86, 50, 68], 32) := by decide +kernel
theorem dX2_payForTick_36 : decode cX2_payForTick 36 = .ok (.aload_n 0, 1) := by decide +kernel
theorem dX2_payForTick_37 : decode cX2_payForTick 37 = .ok (.getfield 15, 3) := by decide +kernel
theorem dX2_payForTick_40 : decode cX2_payForTick 40 = .ok (.iconst 3, 1) := by decide +kernel
theorem dX2_payForTick_41 : decode cX2_payForTick 41 = .ok (.dup2, 1) := by decide +kernel
theorem dX2_payForTick_42 : decode cX2_payForTick 42 = .ok (.iaload, 1) := by decide +kernel
theorem dX2_payForTick_43 : decode cX2_payForTick 43 = .ok (.aload_n 0, 1) := by decide +kernel
theorem dX2_payForTick_44 : decode cX2_payForTick 44 = .ok (.getfield 9, 3) := by decide +kernel
theorem dX2_payForTick_47 : decode cX2_payForTick 47 = .ok (.iconst 4, 1) := by decide +kernel
theorem dX2_payForTick_48 : decode cX2_payForTick 48 = .ok (.iaload, 1) := by decide +kernel
theorem dX2_payForTick_49 : decode cX2_payForTick 49 = .ok (.iadd, 1) := by decide +kernel
theorem dX2_payForTick_50 : decode cX2_payForTick 50 = .ok (.iastore, 1) := by decide +kernel
theorem dX2_payForTick_51 : decode cX2_payForTick 51 = .ok (.goto 39, 3) := by decide +kernel
theorem dX2_payForTick_54 : decode cX2_payForTick 54 = .ok (.aload_n 0, 1) := by decide +kernel
theorem dX2_payForTick_55 : decode cX2_payForTick 55 = .ok (.getfield 15, 3) := by decide +kernel
theorem dX2_payForTick_58 : decode cX2_payForTick 58 = .ok (.iconst 2, 1) := by decide +kernel
theorem dX2_payForTick_59 : decode cX2_payForTick 59 = .ok (.dup2, 1) := by decide +kernel
theorem dX2_payForTick_60 : decode cX2_payForTick 60 = .ok (.iaload, 1) := by decide +kernel
theorem dX2_payForTick_61 : decode cX2_payForTick 61 = .ok (.aload_n 0, 1) := by decide +kernel
theorem dX2_payForTick_62 : decode cX2_payForTick 62 = .ok (.getfield 9, 3) := by decide +kernel
theorem dX2_payForTick_65 : decode cX2_payForTick 65 = .ok (.iconst 3, 1) := by decide +kernel
theorem dX2_payForTick_66 : decode cX2_payForTick 66 = .ok (.iaload, 1) := by decide +kernel
theorem dX2_payForTick_67 : decode cX2_payForTick 67 = .ok (.iadd, 1) := by decide +kernel
theorem dX2_payForTick_68 : decode cX2_payForTick 68 = .ok (.iastore, 1) := by decide +kernel
theorem dX2_payForTick_69 : decode cX2_payForTick 69 = .ok (.goto 21, 3) := by decide +kernel
theorem dX2_payForTick_72 : decode cX2_payForTick 72 = .ok (.aload_n 0, 1) := by decide +kernel
theorem dX2_payForTick_73 : decode cX2_payForTick 73 = .ok (.getfield 15, 3) := by decide +kernel
theorem dX2_payForTick_76 : decode cX2_payForTick 76 = .ok (.iconst 1, 1) := by decide +kernel
theorem dX2_payForTick_77 : decode cX2_payForTick 77 = .ok (.dup2, 1) := by decide +kernel
theorem dX2_payForTick_78 : decode cX2_payForTick 78 = .ok (.iaload, 1) := by decide +kernel
theorem dX2_payForTick_79 : decode cX2_payForTick 79 = .ok (.aload_n 0, 1) := by decide +kernel
theorem dX2_payForTick_80 : decode cX2_payForTick 80 = .ok (.getfield 9, 3) := by decide +kernel
theorem dX2_payForTick_83 : decode cX2_payForTick 83 = .ok (.iconst 2, 1) := by decide +kernel
theorem dX2_payForTick_84 : decode cX2_payForTick 84 = .ok (.iaload, 1) := by decide +kernel
theorem dX2_payForTick_85 : decode cX2_payForTick 85 = .ok (.iadd, 1) := by decide +kernel
theorem dX2_payForTick_86 : decode cX2_payForTick 86 = .ok (.iastore, 1) := by decide +kernel
theorem dX2_payForTick_87 : decode cX2_payForTick 87 = .ok (.goto 3, 3) := by decide +kernel
theorem dX2_payForTick_90 : decode cX2_payForTick 90 = .ok (.return_, 1) := by decide +kernel
theorem dX2_workOn_0 : decode cX2_workOn 0 = .ok (.aload_n 0, 1) := by decide +kernel
theorem dX2_workOn_1 : decode cX2_workOn 1 = .ok (.dup, 1) := by decide +kernel
theorem dX2_workOn_2 : decode cX2_workOn 2 = .ok (.getfield 37, 3) := by decide +kernel
theorem dX2_workOn_5 : decode cX2_workOn 5 = .ok (.iconst 1, 1) := by decide +kernel
theorem dX2_workOn_6 : decode cX2_workOn 6 = .ok (.isub, 1) := by decide +kernel
theorem dX2_workOn_7 : decode cX2_workOn 7 = .ok (.putfield 37, 3) := by decide +kernel
theorem dX2_workOn_10 : decode cX2_workOn 10 = .ok (.aload_n 0, 1) := by decide +kernel
theorem dX2_workOn_11 : decode cX2_workOn 11 = .ok (.getfield 37, 3) := by decide +kernel
theorem dX2_workOn_14 : decode cX2_workOn 14 = .ok (.ifCond .gt 13, 3) := by decide +kernel
theorem dX2_workOn_17 : decode cX2_workOn 17 = .ok (.aload_n 0, 1) := by decide +kernel
theorem dX2_workOn_18 : decode cX2_workOn 18 = .ok (.iconst 2, 1) := by decide +kernel
theorem dX2_workOn_19 : decode cX2_workOn 19 = .ok (.putfield 34, 3) := by decide +kernel
theorem dX2_workOn_22 : decode cX2_workOn 22 = .ok (.aload_n 0, 1) := by decide +kernel
theorem dX2_workOn_23 : decode cX2_workOn 23 = .ok (.iconst 0, 1) := by decide +kernel
theorem dX2_workOn_24 : decode cX2_workOn 24 = .ok (.putfield 40, 3) := by decide +kernel
theorem dX2_workOn_27 : decode cX2_workOn 27 = .ok (.return_, 1) := by decide +kernel
theorem dX2_isTimedOut_0 : decode cX2_isTimedOut 0 = .ok (.aload_n 0, 1) := by decide +kernel
theorem dX2_isTimedOut_1 : decode cX2_isTimedOut 1 = .ok (.getfield 28, 3) := by decide +kernel
theorem dX2_isTimedOut_4 : decode cX2_isTimedOut 4 = .ok (.ifCond .le 18, 3) := by decide +kernel
theorem dX2_isTimedOut_7 : decode cX2_isTimedOut 7 = .ok (.aload_n 0, 1) := by decide +kernel
theorem dX2_isTimedOut_8 : decode cX2_isTimedOut 8 = .ok (.getfield 40, 3) := by decide +kernel
theorem dX2_isTimedOut_11 : decode cX2_isTimedOut 11 = .ok (.aload_n 0, 1) := by decide +kernel
theorem dX2_isTimedOut_12 : decode cX2_isTimedOut 12 = .ok (.getfield 28, 3) := by decide +kernel
theorem dX2_isTimedOut_15 : decode cX2_isTimedOut 15 = .ok (.if_icmp .lt 7, 3) := by decide +kernel
theorem dX2_isTimedOut_18 : decode cX2_isTimedOut 18 = .ok (.iconst 1, 1) := by decide +kernel
theorem dX2_isTimedOut_19 : decode cX2_isTimedOut 19 = .ok (.goto 4, 3) := by decide +kernel
theorem dX2_isTimedOut_22 : decode cX2_isTimedOut 22 = .ok (.iconst 0, 1) := by decide +kernel
theorem dX2_isTimedOut_23 : decode cX2_isTimedOut 23 = .ok (.ireturn, 1) := by decide +kernel
