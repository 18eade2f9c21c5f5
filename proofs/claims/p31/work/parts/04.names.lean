set_option maxRecDepth 20000 in
theorem ggX3_init_X0_init : GoodIn wsX3_init wsX0_init := goodIn_r _ [16, 17, 2, 3, 18, 19, 20, 21, 22, 23, 24, 25, 26, 27, 28, 29, 30, 31, 38, 39, 40, 41, 42, 43, 44, 45, 60, 61, 62, 63, 64, 65, 66, 67, 68, 69, 70, 71, 72, 73, 74] (by decide +kernel) (by decide +kernel)
set_option maxRecDepth 20000 in
theorem gX3_init_X0_init : GoodIn wsX3_init (wsX0_init) := ggX3_init_X0_init
set_option maxRecDepth 20000 in
theorem ggX3_init_X1_init : GoodIn wsX3_init wsX1_init := goodIn_r _ [33, 34, 2, 3, 35, 36, 20, 37, 51, 52, 53, 54, 55, 56, 57, 58, 59] (by decide +kernel) (by decide +kernel)
set_option maxRecDepth 20000 in
theorem gX3_init_X1_init_n25 : GoodIn wsX3_init (wsX1_init) := ggX3_init_X1_init
theorem dX3_init_0 : decode cX3_init 0 = .ok (.aload_n 0, 1) := by decide +kernel
theorem dX3_init_1 : decode cX3_init 1 = .ok (.invokespecial 1, 3) := by decide +kernel
theorem dX3_init_4 : decode cX3_init 4 = .ok (.aload_n 0, 1) := by decide +kernel
theorem dX3_init_5 : decode cX3_init 5 = .ok (.new 7, 3) := by decide +kernel
theorem dX3_init_8 : decode cX3_init 8 = .ok (.dup, 1) := by decide +kernel
theorem dX3_init_9 : decode cX3_init 9 = .ok (.invokespecial 9, 3) := by decide +kernel
theorem dX3_init_12 : decode cX3_init 12 = .ok (.putfield 10, 3) := by decide +kernel
theorem dX3_init_15 : decode cX3_init 15 = .ok (.aload_n 0, 1) := by decide +kernel
theorem dX3_init_16 : decode cX3_init 16 = .ok (.new 7, 3) := by decide +kernel
theorem dX3_init_19 : decode cX3_init 19 = .ok (.dup, 1) := by decide +kernel
theorem dX3_init_20 : decode cX3_init 20 = .ok (.invokespecial 9, 3) := by decide +kernel
theorem dX3_init_23 : decode cX3_init 23 = .ok (.putfield 16, 3) := by decide +kernel
theorem dX3_init_26 : decode cX3_init 26 = .ok (.aload_n 0, 1) := by decide +kernel
theorem dX3_init_27 : decode cX3_init 27 = .ok (.iconst 5, 1) := by decide +kernel
theorem dX3_init_28 : decode cX3_init 28 = .ok (.anewarray 7, 3) := by decide +kernel
theorem dX3_init_31 : decode cX3_init 31 = .ok (.putfield 19, 3) := by decide +kernel
theorem dX3_init_34 : decode cX3_init 34 = .ok (.iconst 0, 1) := by decide +kernel
theorem dX3_init_35 : decode cX3_init 35 = .ok (.istore_n 1, 1) := by decide +kernel
theorem dX3_init_36 : decode cX3_init 36 = .ok (.iload_n 1, 1) := by decide +kernel
theorem dX3_init_37 : decode cX3_init 37 = .ok (.aload_n 0, 1) := by decide +kernel
theorem dX3_init_38 : decode cX3_init 38 = .ok (.getfield 19, 3) := by decide +kernel
theorem dX3_init_41 : decode cX3_init 41 = .ok (.arraylength, 1) := by decide +kernel
theorem dX3_init_42 : decode cX3_init 42 = .ok (.if_icmp .ge 22, 3) := by decide +kernel
theorem dX3_init_45 : decode cX3_init 45 = .ok (.aload_n 0, 1) := by decide +kernel
theorem dX3_init_46 : decode cX3_init 46 = .ok (.getfield 19, 3) := by decide +kernel
theorem dX3_init_49 : decode cX3_init 49 = .ok (.iload_n 1, 1) := by decide +kernel
theorem dX3_init_50 : decode cX3_init 50 = .ok (.new 7, 3) := by decide +kernel
theorem dX3_init_53 : decode cX3_init 53 = .ok (.dup, 1) := by decide +kernel
theorem dX3_init_54 : decode cX3_init 54 = .ok (.invokespecial 9, 3) := by decide +kernel
theorem dX3_init_57 : decode cX3_init 57 = .ok (.aastore, 1) := by decide +kernel
theorem dX3_init_58 : decode cX3_init 58 = .ok (.iinc 1 1, 3) := by decide +kernel
theorem dX3_init_61 : decode cX3_init 61 = .ok (.goto (-25), 3) := by decide +kernel
theorem dX3_init_64 : decode cX3_init 64 = .ok (.aload_n 0, 1) := by decide +kernel
theorem dX3_init_65 : decode cX3_init 65 = .ok (.new 23, 3) := by decide +kernel
theorem dX3_init_68 : decode cX3_init 68 = .ok (.dup, 1) := by decide +kernel
theorem dX3_init_69 : decode cX3_init 69 = .ok (.invokespecial 25, 3) := by decide +kernel
theorem dX3_init_72 : decode cX3_init 72 = .ok (.putfield 26, 3) := by decide +kernel
theorem dX3_init_75 : decode cX3_init 75 = .ok (.return_, 1) := by decide +kernel
set_option maxRecDepth 20000 in
theorem ggX3_room_X3_outside : GoodIn wsX3_room wsX3_outside := goodIn_r _ [8] (by decide +kernel) (by decide +kernel)
set_option maxRecDepth 20000 in
theorem gX3_room_X3_outside : GoodIn wsX3_room (va_wsS RX3 30 yX3_outside wsX3_outside) := goodIn_app (goodIn_of _ (by decide +kernel)) ggX3_room_X3_outside
set_option maxRecDepth 20000 in
theorem ggX3_room_X3_note : GoodIn wsX3_room wsX3_note := goodIn_r _ [12, 13, 14, 1, 15, 16, 17, 18, 19, 20, 21, 22, 23, 24, 25, 26, 27, 28, 29, 30, 31, 32, 33, 34, 35, 36, 37, 38, 39, 40, 41, 42, 43, 44, 45, 46, 47, 48, 49, 50, 51, 52, 65, 66, 67, 68, 69, 70, 71, 72, 73, 74, 75, 76, 77, 78, 79, 80, 81, 82, 83, 84, 85, 86, 87, 88, 89, 90, 91, 92] (by decide +kernel) (by decide +kernel)
set_option maxRecDepth 20000 in
theorem gX3_room_X3_note : GoodIn wsX3_room (wsV RX3 38 RX3 yX3_note wsX3_note) := goodIn_app (goodIn_of _ (by decide +kernel)) ggX3_room_X3_note
set_option maxRecDepth 20000 in
theorem ggX3_room_X2_startAnew : GoodIn wsX3_room wsX2_startAnew := goodIn_r _ [56, 39, 40, 41, 42, 43, 44, 45, 46, 47, 48, 49, 50, 51, 52, 78, 79, 80, 81, 82, 83, 84, 85, 86, 87, 88, 89, 90, 91, 92] (by decide +kernel) (by decide +kernel)
set_option maxRecDepth 20000 in
theorem gX3_room_X2_startAnew : GoodIn wsX3_room (wsV RX3 45 RX2 yX2_startAnew wsX2_startAnew) := goodIn_app (goodIn_of _ (by decide +kernel)) ggX3_room_X2_startAnew
set_option maxRecDepth 20000 in
theorem ggX3_room_X3_kept : GoodIn wsX3_room wsX3_kept := goodIn_r _ [60, 13, 61, 62, 63, 7, 64, 14, 65, 66, 67, 68, 69] (by decide +kernel) (by decide +kernel)
set_option maxRecDepth 20000 in
theorem gX3_room_X3_kept : GoodIn wsX3_room (wsV RX3 55 RX3 yX3_kept wsX3_kept) := goodIn_app (goodIn_of _ (by decide +kernel)) ggX3_room_X3_kept
theorem dX3_room_0 : decode cX3_room 0 = .ok (.iload_n 1, 1) := by decide +kernel
theorem dX3_room_1 : decode cX3_room 1 = .ok (.iconst 0, 1) := by decide +kernel
theorem dX3_room_2 : decode cX3_room 2 = .ok (.iconst 1, 1) := by decide +kernel
theorem dX3_room_3 : decode cX3_room 3 = .ok (.invokestatic 30, 3) := by decide +kernel
theorem dX3_room_6 : decode cX3_room 6 = .ok (.ifCond .ne 57, 3) := by decide +kernel
theorem dX3_room_9 : decode cX3_room 9 = .ok (.iload_n 2, 1) := by decide +kernel
theorem dX3_room_10 : decode cX3_room 10 = .ok (.iconst 0, 1) := by decide +kernel
theorem dX3_room_11 : decode cX3_room 11 = .ok (.sipush 500, 3) := by decide +kernel
theorem dX3_room_14 : decode cX3_room 14 = .ok (.invokestatic 30, 3) := by decide +kernel
theorem dX3_room_17 : decode cX3_room 17 = .ok (.ifCond .ne 46, 3) := by decide +kernel
theorem dX3_room_20 : decode cX3_room 20 = .ok (.iload_n 3, 1) := by decide +kernel
theorem dX3_room_21 : decode cX3_room 21 = .ok (.iconst 1, 1) := by decide +kernel
theorem dX3_room_22 : decode cX3_room 22 = .ok (.bipush 20, 2) := by decide +kernel
theorem dX3_room_24 : decode cX3_room 24 = .ok (.invokestatic 30, 3) := by decide +kernel
theorem dX3_room_27 : decode cX3_room 27 = .ok (.ifCond .ne 36, 3) := by decide +kernel
theorem dX3_room_30 : decode cX3_room 30 = .ok (.iload 4, 2) := by decide +kernel
theorem dX3_room_32 : decode cX3_room 32 = .ok (.iconst 1, 1) := by decide +kernel
theorem dX3_room_33 : decode cX3_room 33 = .ok (.bipush 50, 2) := by decide +kernel
theorem dX3_room_35 : decode cX3_room 35 = .ok (.invokestatic 30, 3) := by decide +kernel
theorem dX3_room_38 : decode cX3_room 38 = .ok (.ifCond .ne 25, 3) := by decide +kernel
theorem dX3_room_41 : decode cX3_room 41 = .ok (.iload 5, 2) := by decide +kernel
theorem dX3_room_43 : decode cX3_room 43 = .ok (.iconst 0, 1) := by decide +kernel
theorem dX3_room_44 : decode cX3_room 44 = .ok (.bipush 50, 2) := by decide +kernel
theorem dX3_room_46 : decode cX3_room 46 = .ok (.invokestatic 30, 3) := by decide +kernel
theorem dX3_room_49 : decode cX3_room 49 = .ok (.ifCond .ne 14, 3) := by decide +kernel
theorem dX3_room_52 : decode cX3_room 52 = .ok (.iload 6, 2) := by decide +kernel
theorem dX3_room_54 : decode cX3_room 54 = .ok (.iconst 0, 1) := by decide +kernel
theorem dX3_room_55 : decode cX3_room 55 = .ok (.bipush 20, 2) := by decide +kernel
theorem dX3_room_57 : decode cX3_room 57 = .ok (.invokestatic 30, 3) := by decide +kernel
theorem dX3_room_60 : decode cX3_room 60 = .ok (.ifCond .eq 5, 3) := by decide +kernel
theorem dX3_room_63 : decode cX3_room 63 = .ok (.iconst (-1), 1) := by decide +kernel
theorem dX3_room_64 : decode cX3_room 64 = .ok (.ireturn, 1) := by decide +kernel
theorem dX3_room_65 : decode cX3_room 65 = .ok (.aload_n 0, 1) := by decide +kernel
theorem dX3_room_66 : decode cX3_room 66 = .ok (.getfield 10, 3) := by decide +kernel
theorem dX3_room_69 : decode cX3_room 69 = .ok (.getfield 34, 3) := by decide +kernel
theorem dX3_room_72 : decode cX3_room 72 = .ok (.bipush 8, 2) := by decide +kernel
theorem dX3_room_74 : decode cX3_room 74 = .ok (.if_icmp .lt 6, 3) := by decide +kernel
theorem dX3_room_77 : decode cX3_room 77 = .ok (.bipush (-3), 2) := by decide +kernel
theorem dX3_room_79 : decode cX3_room 79 = .ok (.ireturn, 1) := by decide +kernel
theorem dX3_room_80 : decode cX3_room 80 = .ok (.aload_n 0, 1) := by decide +kernel
theorem dX3_room_81 : decode cX3_room 81 = .ok (.invokevirtual 38, 3) := by decide +kernel
theorem dX3_room_84 : decode cX3_room 84 = .ok (.aload_n 0, 1) := by decide +kernel
theorem dX3_room_85 : decode cX3_room 85 = .ok (.getfield 10, 3) := by decide +kernel
theorem dX3_room_88 : decode cX3_room 88 = .ok (.getfield 41, 3) := by decide +kernel
theorem dX3_room_91 : decode cX3_room 91 = .ok (.aload_n 0, 1) := by decide +kernel
theorem dX3_room_92 : decode cX3_room 92 = .ok (.getfield 10, 3) := by decide +kernel
theorem dX3_room_95 : decode cX3_room 95 = .ok (.getfield 34, 3) := by decide +kernel
theorem dX3_room_98 : decode cX3_room 98 = .ok (.aaload, 1) := by decide +kernel
theorem dX3_room_99 : decode cX3_room 99 = .ok (.astore 7, 2) := by decide +kernel
theorem dX3_room_101 : decode cX3_room 101 = .ok (.aload 7, 2) := by decide +kernel
theorem dX3_room_103 : decode cX3_room 103 = .ok (.iload_n 1, 1) := by decide +kernel
theorem dX3_room_104 : decode cX3_room 104 = .ok (.invokevirtual 45, 3) := by decide +kernel
theorem dX3_room_107 : decode cX3_room 107 = .ok (.aload 7, 2) := by decide +kernel
theorem dX3_room_109 : decode cX3_room 109 = .ok (.getfield 51, 3) := by decide +kernel
theorem dX3_room_112 : decode cX3_room 112 = .ok (.iconst 0, 1) := by decide +kernel
theorem dX3_room_113 : decode cX3_room 113 = .ok (.iload_n 2, 1) := by decide +kernel
theorem dX3_room_114 : decode cX3_room 114 = .ok (.iastore, 1) := by decide +kernel
theorem dX3_room_115 : decode cX3_room 115 = .ok (.aload 7, 2) := by decide +kernel
theorem dX3_room_117 : decode cX3_room 117 = .ok (.getfield 51, 3) := by decide +kernel
theorem dX3_room_120 : decode cX3_room 120 = .ok (.iconst 1, 1) := by decide +kernel
theorem dX3_room_121 : decode cX3_room 121 = .ok (.iload_n 3, 1) := by decide +kernel
theorem dX3_room_122 : decode cX3_room 122 = .ok (.iastore, 1) := by decide +kernel
theorem dX3_room_123 : decode cX3_room 123 = .ok (.aload 7, 2) := by decide +kernel
theorem dX3_room_125 : decode cX3_room 125 = .ok (.getfield 51, 3) := by decide +kernel
theorem dX3_room_128 : decode cX3_room 128 = .ok (.iconst 2, 1) := by decide +kernel
theorem dX3_room_129 : decode cX3_room 129 = .ok (.iload 4, 2) := by decide +kernel
theorem dX3_room_131 : decode cX3_room 131 = .ok (.iastore, 1) := by decide +kernel
theorem dX3_room_132 : decode cX3_room 132 = .ok (.aload 7, 2) := by decide +kernel
theorem dX3_room_134 : decode cX3_room 134 = .ok (.getfield 51, 3) := by decide +kernel
theorem dX3_room_137 : decode cX3_room 137 = .ok (.iconst 3, 1) := by decide +kernel
theorem dX3_room_138 : decode cX3_room 138 = .ok (.iload 5, 2) := by decide +kernel
theorem dX3_room_140 : decode cX3_room 140 = .ok (.iastore, 1) := by decide +kernel
theorem dX3_room_141 : decode cX3_room 141 = .ok (.aload 7, 2) := by decide +kernel
theorem dX3_room_143 : decode cX3_room 143 = .ok (.getfield 51, 3) := by decide +kernel
theorem dX3_room_146 : decode cX3_room 146 = .ok (.iconst 4, 1) := by decide +kernel
theorem dX3_room_147 : decode cX3_room 147 = .ok (.iload 6, 2) := by decide +kernel
theorem dX3_room_149 : decode cX3_room 149 = .ok (.iastore, 1) := by decide +kernel
theorem dX3_room_150 : decode cX3_room 150 = .ok (.aload_n 0, 1) := by decide +kernel
theorem dX3_room_151 : decode cX3_room 151 = .ok (.getfield 10, 3) := by decide +kernel
theorem dX3_room_154 : decode cX3_room 154 = .ok (.dup, 1) := by decide +kernel
theorem dX3_room_155 : decode cX3_room 155 = .ok (.getfield 34, 3) := by decide +kernel
theorem dX3_room_158 : decode cX3_room 158 = .ok (.iconst 1, 1) := by decide +kernel
theorem dX3_room_159 : decode cX3_room 159 = .ok (.iadd, 1) := by decide +kernel
theorem dX3_room_160 : decode cX3_room 160 = .ok (.putfield 34, 3) := by decide +kernel
theorem dX3_room_163 : decode cX3_room 163 = .ok (.aload_n 0, 1) := by decide +kernel
theorem dX3_room_164 : decode cX3_room 164 = .ok (.aload_n 0, 1) := by decide +kernel
theorem dX3_room_165 : decode cX3_room 165 = .ok (.getfield 10, 3) := by decide +kernel
theorem dX3_room_168 : decode cX3_room 168 = .ok (.getfield 34, 3) := by decide +kernel
theorem dX3_room_171 : decode cX3_room 171 = .ok (.iconst 1, 1) := by decide +kernel
theorem dX3_room_172 : decode cX3_room 172 = .ok (.isub, 1) := by decide +kernel
theorem dX3_room_173 : decode cX3_room 173 = .ok (.invokevirtual 55, 3) := by decide +kernel
theorem dX3_room_176 : decode cX3_room 176 = .ok (.ireturn, 1) := by decide +kernel
set_option maxRecDepth 20000 in
theorem ggX3_need_X3_note : GoodIn wsX3_need wsX3_note := goodIn_r _ [6, 7, 8, 1, 9, 10, 11, 12, 13, 14, 15, 16, 17, 18, 19, 20, 21, 22, 23, 24, 25, 26, 27, 28, 29, 30, 31, 32, 33, 34, 35, 36, 37, 38, 39, 40, 41, 42, 43, 44, 45, 46, 67, 68, 69, 70, 71, 72, 73, 74, 75, 76, 77, 78, 79, 80, 81, 82, 83, 84, 85, 86, 87, 88, 89, 90, 91, 92, 93, 94] (by decide +kernel) (by decide +kernel)
set_option maxRecDepth 20000 in
theorem gX3_need_X3_note : GoodIn wsX3_need (wsV RX3 38 RX3 yX3_note wsX3_note) := goodIn_app (goodIn_of _ (by decide +kernel)) ggX3_need_X3_note
set_option maxRecDepth 20000 in
theorem ggX3_need_X0_setNeed : GoodIn wsX3_need wsX0_setNeed := goodIn_r _ [50, 15, 51, 52, 53, 54, 55, 12, 56, 14, 57, 5, 58, 72, 73, 74, 75, 76, 77, 78, 79, 80, 81, 82, 83, 84, 85, 86, 87, 88, 89, 90, 91, 92, 93, 94] (by decide +kernel) (by decide +kernel)
set_option maxRecDepth 20000 in
theorem gX3_need_X0_setNeed : GoodIn wsX3_need (wsV RX3 59 RX0 yX0_setNeed wsX0_setNeed) := goodIn_app (goodIn_of _ (by decide +kernel)) ggX3_need_X0_setNeed
set_option maxRecDepth 20000 in
theorem ggX3_need_X3_kept : GoodIn wsX3_need wsX3_kept := goodIn_r _ [62, 7, 63, 64, 65, 5, 66, 8, 67, 68, 69, 70, 71] (by decide +kernel) (by decide +kernel)
set_option maxRecDepth 20000 in
theorem gX3_need_X3_kept : GoodIn wsX3_need (wsV RX3 55 RX3 yX3_kept wsX3_kept) := goodIn_app (goodIn_of _ (by decide +kernel)) ggX3_need_X3_kept
theorem dX3_need_0 : decode cX3_need 0 = .ok (.aload_n 0, 1) := by decide +kernel
theorem dX3_need_1 : decode cX3_need 1 = .ok (.invokevirtual 38, 3) := by decide +kernel
theorem dX3_need_4 : decode cX3_need 4 = .ok (.aload_n 0, 1) := by decide +kernel
theorem dX3_need_5 : decode cX3_need 5 = .ok (.aload_n 0, 1) := by decide +kernel
theorem dX3_need_6 : decode cX3_need 6 = .ok (.getfield 10, 3) := by decide +kernel
theorem dX3_need_9 : decode cX3_need 9 = .ok (.iload_n 1, 1) := by decide +kernel
theorem dX3_need_10 : decode cX3_need 10 = .ok (.iload_n 2, 1) := by decide +kernel
theorem dX3_need_11 : decode cX3_need 11 = .ok (.invokevirtual 59, 3) := by decide +kernel
theorem dX3_need_14 : decode cX3_need 14 = .ok (.invokevirtual 55, 3) := by decide +kernel
theorem dX3_need_17 : decode cX3_need 17 = .ok (.ireturn, 1) := by decide +kernel
set_option maxRecDepth 20000 in
theorem ggX3_plug_X3_note : GoodIn wsX3_plug wsX3_note := goodIn_r _ [6, 7, 8, 1, 9, 10, 11, 12, 13, 14, 15, 16, 17, 18, 19, 20, 21, 22, 23, 24, 25, 26, 27, 28, 29, 30, 31, 32, 33, 34, 35, 36, 37, 38, 39, 40, 41, 42, 43, 44, 45, 46, 71, 72, 73, 74, 75, 76, 77, 78, 79, 80, 81, 82, 83, 84, 85, 86, 87, 88, 89, 90, 91, 92, 93, 94, 95, 96, 97, 98] (by decide +kernel) (by decide +kernel)
set_option maxRecDepth 20000 in
theorem gX3_plug_X3_note : GoodIn wsX3_plug (wsV RX3 38 RX3 yX3_note wsX3_note) := goodIn_app (goodIn_of _ (by decide +kernel)) ggX3_plug_X3_note
set_option maxRecDepth 20000 in
theorem ggX3_plug_X0_plugIn : GoodIn wsX3_plug wsX0_plugIn := goodIn_r _ [50, 15, 51, 52, 53, 54, 55, 12, 56, 14, 57, 5, 58, 59, 60, 61, 62, 76, 77, 78, 79, 80, 81, 82, 83, 84, 85, 86, 87, 88, 89, 90, 91, 92, 93, 94, 95, 96, 97, 98] (by decide +kernel) (by decide +kernel)
set_option maxRecDepth 20000 in
theorem gX3_plug_X0_plugIn : GoodIn wsX3_plug (wsV RX3 63 RX0 yX0_plugIn wsX0_plugIn) := goodIn_app (goodIn_of _ (by decide +kernel)) ggX3_plug_X0_plugIn
set_option maxRecDepth 20000 in
theorem ggX3_plug_X3_kept : GoodIn wsX3_plug wsX3_kept := goodIn_r _ [66, 7, 67, 68, 69, 5, 70, 8, 71, 72, 73, 74, 75] (by decide +kernel) (by decide +kernel)
set_option maxRecDepth 20000 in
theorem gX3_plug_X3_kept : GoodIn wsX3_plug (wsV RX3 55 RX3 yX3_kept wsX3_kept) := goodIn_app (goodIn_of _ (by decide +kernel)) ggX3_plug_X3_kept
theorem dX3_plug_0 : decode cX3_plug 0 = .ok (.aload_n 0, 1) := by decide +kernel
theorem dX3_plug_1 : decode cX3_plug 1 = .ok (.invokevirtual 38, 3) := by decide +kernel
theorem dX3_plug_4 : decode cX3_plug 4 = .ok (.aload_n 0, 1) := by decide +kernel
theorem dX3_plug_5 : decode cX3_plug 5 = .ok (.aload_n 0, 1) := by decide +kernel
theorem dX3_plug_6 : decode cX3_plug 6 = .ok (.getfield 10, 3) := by decide +kernel
theorem dX3_plug_9 : decode cX3_plug 9 = .ok (.iload_n 1, 1) := by decide +kernel
theorem dX3_plug_10 : decode cX3_plug 10 = .ok (.iload_n 2, 1) := by decide +kernel
theorem dX3_plug_11 : decode cX3_plug 11 = .ok (.invokevirtual 63, 3) := by decide +kernel
theorem dX3_plug_14 : decode cX3_plug 14 = .ok (.invokevirtual 55, 3) := by decide +kernel
theorem dX3_plug_17 : decode cX3_plug 17 = .ok (.ireturn, 1) := by decide +kernel
set_option maxRecDepth 20000 in
theorem ggX3_unplug_X3_note : GoodIn wsX3_unplug wsX3_note := goodIn_r _ [6, 7, 8, 1, 9, 10, 11, 12, 13, 14, 15, 16, 17, 18, 19, 20, 21, 22, 23, 24, 25, 26, 27, 28, 29, 30, 31, 32, 33, 34, 35, 36, 37, 38, 39, 40, 41, 42, 43, 44, 45, 46, 69, 70, 71, 72, 73, 74, 75, 76, 77, 78, 79, 80, 81, 82, 83, 84, 85, 86, 87, 88, 89, 90, 91, 92, 93, 94, 95, 96] (by decide +kernel) (by decide +kernel)
set_option maxRecDepth 20000 in
theorem gX3_unplug_X3_note : GoodIn wsX3_unplug (wsV RX3 38 RX3 yX3_note wsX3_note) := goodIn_app (goodIn_of _ (by decide +kernel)) ggX3_unplug_X3_note
set_option maxRecDepth 20000 in
theorem ggX3_unplug_X0_plugOut : GoodIn wsX3_unplug wsX0_plugOut := goodIn_r _ [50, 15, 51, 52, 53, 54, 55, 12, 56, 14, 57, 58, 59, 60, 74, 75, 76, 77, 78, 79, 80, 81, 82, 83, 84, 85, 86, 87, 88, 89, 90, 91, 92, 93, 94, 95, 96] (by decide +kernel) (by decide +kernel)
set_option maxRecDepth 20000 in
theorem gX3_unplug_X0_plugOut : GoodIn wsX3_unplug (wsV RX3 66 RX0 yX0_plugOut wsX0_plugOut) := goodIn_app (goodIn_of _ (by decide +kernel)) ggX3_unplug_X0_plugOut
set_option maxRecDepth 20000 in
theorem ggX3_unplug_X3_kept : GoodIn wsX3_unplug wsX3_kept := goodIn_r _ [64, 7, 65, 66, 67, 5, 68, 8, 69, 70, 71, 72, 73] (by decide +kernel) (by decide +kernel)
set_option maxRecDepth 20000 in
theorem gX3_unplug_X3_kept : GoodIn wsX3_unplug (wsV RX3 55 RX3 yX3_kept wsX3_kept) := goodIn_app (goodIn_of _ (by decide +kernel)) ggX3_unplug_X3_kept
theorem dX3_unplug_0 : decode cX3_unplug 0 = .ok (.aload_n 0, 1) := by decide +kernel
theorem dX3_unplug_1 : decode cX3_unplug 1 = .ok (.invokevirtual 38, 3) := by decide +kernel
theorem dX3_unplug_4 : decode cX3_unplug 4 = .ok (.aload_n 0, 1) := by decide +kernel
theorem dX3_unplug_5 : decode cX3_unplug 5 = .ok (.aload_n 0, 1) := by decide +kernel
theorem dX3_unplug_6 : decode cX3_unplug 6 = .ok (.getfield 10, 3) := by decide +kernel
theorem dX3_unplug_9 : decode cX3_unplug 9 = .ok (.iload_n 1, 1) := by decide +kernel
theorem dX3_unplug_10 : decode cX3_unplug 10 = .ok (.invokevirtual 66, 3) := by decide +kernel
theorem dX3_unplug_13 : decode cX3_unplug 13 = .ok (.invokevirtual 55, 3) := by decide +kernel
theorem dX3_unplug_16 : decode cX3_unplug 16 = .ok (.ireturn, 1) := by decide +kernel
set_option maxRecDepth 20000 in
theorem ggX3_limit_X3_note : GoodIn wsX3_limit wsX3_note := goodIn_r _ [6, 7, 8, 1, 9, 10, 11, 12, 13, 14, 15, 16, 17, 18, 19, 20, 21, 22, 23, 24, 25, 26, 27, 28, 29, 30, 31, 32, 33, 34, 35, 36, 37, 38, 39, 40, 41, 42, 43, 44, 45, 46, 61, 62, 63, 64, 65, 66, 67, 68, 69, 70, 71, 72, 73, 74, 75, 76, 77, 78, 79, 80, 81, 82, 83, 84, 85, 86, 87, 88] (by decide +kernel) (by decide +kernel)
set_option maxRecDepth 20000 in
theorem gX3_limit_X3_note : GoodIn wsX3_limit (wsV RX3 38 RX3 yX3_note wsX3_note) := goodIn_app (goodIn_of _ (by decide +kernel)) ggX3_limit_X3_note
set_option maxRecDepth 20000 in
theorem ggX3_limit_X0_setLimit : GoodIn wsX3_limit wsX0_setLimit := goodIn_r _ [50, 16, 51, 5, 52, 66, 67, 68, 69, 70, 71, 72, 73] (by decide +kernel) (by decide +kernel)
set_option maxRecDepth 20000 in
theorem gX3_limit_X0_setLimit : GoodIn wsX3_limit (wsV RX3 69 RX0 yX0_setLimit wsX0_setLimit) := goodIn_app (goodIn_of _ (by decide +kernel)) ggX3_limit_X0_setLimit
set_option maxRecDepth 20000 in
theorem ggX3_limit_X3_kept : GoodIn wsX3_limit wsX3_kept := goodIn_r _ [56, 7, 57, 58, 59, 5, 60, 8, 61, 62, 63, 64, 65] (by decide +kernel) (by decide +kernel)
set_option maxRecDepth 20000 in
theorem gX3_limit_X3_kept : GoodIn wsX3_limit (wsV RX3 55 RX3 yX3_kept wsX3_kept) := goodIn_app (goodIn_of _ (by decide +kernel)) ggX3_limit_X3_kept
theorem dX3_limit_0 : decode cX3_limit 0 = .ok (.aload_n 0, 1) := by decide +kernel
theorem dX3_limit_1 : decode cX3_limit 1 = .ok (.invokevirtual 38, 3) := by decide +kernel
theorem dX3_limit_4 : decode cX3_limit 4 = .ok (.aload_n 0, 1) := by decide +kernel
theorem dX3_limit_5 : decode cX3_limit 5 = .ok (.aload_n 0, 1) := by decide +kernel
theorem dX3_limit_6 : decode cX3_limit 6 = .ok (.getfield 10, 3) := by decide +kernel
theorem dX3_limit_9 : decode cX3_limit 9 = .ok (.iload_n 1, 1) := by decide +kernel
theorem dX3_limit_10 : decode cX3_limit 10 = .ok (.iload_n 2, 1) := by decide +kernel
theorem dX3_limit_11 : decode cX3_limit 11 = .ok (.invokevirtual 69, 3) := by decide +kernel
theorem dX3_limit_14 : decode cX3_limit 14 = .ok (.invokevirtual 55, 3) := by decide +kernel
theorem dX3_limit_17 : decode cX3_limit 17 = .ok (.ireturn, 1) := by decide +kernel
set_option maxRecDepth 20000 in
theorem ggX3_policy_X3_note : GoodIn wsX3_policy wsX3_note := goodIn_r _ [6, 7, 8, 1, 9, 10, 11, 12, 13, 14, 15, 16, 17, 18, 19, 20, 21, 22, 23, 24, 25, 26, 27, 28, 29, 30, 31, 32, 33, 34, 35, 36, 37, 38, 39, 40, 41, 42, 43, 44, 45, 46, 67, 68, 69, 70, 71, 72, 73, 74, 75, 76, 77, 78, 79, 80, 81, 82, 83, 84, 85, 86, 87, 88, 89, 90, 91, 92, 93, 94] (by decide +kernel) (by decide +kernel)
set_option maxRecDepth 20000 in
theorem gX3_policy_X3_note : GoodIn wsX3_policy (wsV RX3 38 RX3 yX3_note wsX3_note) := goodIn_app (goodIn_of _ (by decide +kernel)) ggX3_policy_X3_note
set_option maxRecDepth 20000 in
theorem ggX3_policy_X0_setPolicy : GoodIn wsX3_policy wsX0_setPolicy := goodIn_r _ [50, 15, 51, 52, 53, 54, 55, 12, 56, 14, 57, 5, 58, 72, 73, 74, 75, 76, 77, 78, 79, 80, 81, 82, 83, 84, 85, 86, 87, 88, 89, 90, 91, 92, 93, 94] (by decide +kernel) (by decide +kernel)
set_option maxRecDepth 20000 in
theorem gX3_policy_X0_setPolicy : GoodIn wsX3_policy (wsV RX3 72 RX0 yX0_setPolicy wsX0_setPolicy) := goodIn_app (goodIn_of _ (by decide +kernel)) ggX3_policy_X0_setPolicy
set_option maxRecDepth 20000 in
theorem ggX3_policy_X3_kept : GoodIn wsX3_policy wsX3_kept := goodIn_r _ [62, 7, 63, 64, 65, 5, 66, 8, 67, 68, 69, 70, 71] (by decide +kernel) (by decide +kernel)
set_option maxRecDepth 20000 in
theorem gX3_policy_X3_kept : GoodIn wsX3_policy (wsV RX3 55 RX3 yX3_kept wsX3_kept) := goodIn_app (goodIn_of _ (by decide +kernel)) ggX3_policy_X3_kept
theorem dX3_policy_0 : decode cX3_policy 0 = .ok (.aload_n 0, 1) := by decide +kernel
theorem dX3_policy_1 : decode cX3_policy 1 = .ok (.invokevirtual 38, 3) := by decide +kernel
theorem dX3_policy_4 : decode cX3_policy 4 = .ok (.aload_n 0, 1) := by decide +kernel
theorem dX3_policy_5 : decode cX3_policy 5 = .ok (.aload_n 0, 1) := by decide +kernel
theorem dX3_policy_6 : decode cX3_policy 6 = .ok (.getfield 10, 3) := by decide +kernel
theorem dX3_policy_9 : decode cX3_policy 9 = .ok (.iload_n 1, 1) := by decide +kernel
theorem dX3_policy_10 : decode cX3_policy 10 = .ok (.iload_n 2, 1) := by decide +kernel
theorem dX3_policy_11 : decode cX3_policy 11 = .ok (.iload_n 3, 1) := by decide +kernel
theorem dX3_policy_12 : decode cX3_policy 12 = .ok (.invokevirtual 72, 3) := by decide +kernel
theorem dX3_policy_15 : decode cX3_policy 15 = .ok (.invokevirtual 55, 3) := by decide +kernel
theorem dX3_policy_18 : decode cX3_policy 18 = .ok (.ireturn, 1) := by decide +kernel
set_option maxRecDepth 20000 in
theorem ggX3_roomOf_X0_hasRoom : GoodIn wsX3_roomOf wsX0_hasRoom := goodIn_r _ [7, 8, 64, 65, 66, 67, 68, 69, 70, 71] (by decide +kernel) (by decide +kernel)
set_option maxRecDepth 20000 in
theorem gX3_roomOf_X0_hasRoom : GoodIn wsX3_roomOf (wsV RX3 76 RX0 yX0_hasRoom wsX0_hasRoom) := goodIn_app (goodIn_of _ (by decide +kernel)) ggX3_roomOf_X0_hasRoom
set_option maxRecDepth 20000 in
theorem ggX3_roomOf_X3_outside : GoodIn wsX3_roomOf wsX3_outside := goodIn_r _ [12] (by decide +kernel) (by decide +kernel)
set_option maxRecDepth 20000 in
theorem gX3_roomOf_X3_outside : GoodIn wsX3_roomOf (va_wsS RX3 30 yX3_outside wsX3_outside) := goodIn_app (goodIn_of _ (by decide +kernel)) ggX3_roomOf_X3_outside
set_option maxRecDepth 20000 in
theorem ggX3_roomOf_X0_usesOf : GoodIn wsX3_roomOf wsX0_usesOf := goodIn_r _ [16, 17, 18, 64, 65, 66, 67, 68, 69, 70, 71] (by decide +kernel) (by decide +kernel)
set_option maxRecDepth 20000 in
theorem gX3_roomOf_X0_usesOf : GoodIn wsX3_roomOf (wsV RX3 80 RX0 yX0_usesOf wsX0_usesOf) := goodIn_app (goodIn_of _ (by decide +kernel)) ggX3_roomOf_X0_usesOf
set_option maxRecDepth 20000 in
theorem ggX3_roomOf_X0_isCalled : GoodIn wsX3_roomOf wsX0_isCalled := goodIn_r _ [22, 23, 24, 25, 26, 27, 28, 29, 30, 6, 31, 17, 18, 32, 33, 34, 35, 36, 37, 38, 39, 40, 41, 42, 43, 44, 45, 46, 64, 65, 66, 67, 68, 69, 70, 71, 72, 73, 74, 75, 76, 77, 78, 79, 80, 81, 82, 83, 84, 85, 86] (by decide +kernel) (by decide +kernel)
set_option maxRecDepth 20000 in
theorem gX3_roomOf_X0_isCalled : GoodIn wsX3_roomOf (wsV RX3 83 RX0 yX0_isCalled wsX0_isCalled) := goodIn_app (goodIn_of _ (by decide +kernel)) ggX3_roomOf_X0_isCalled
set_option maxRecDepth 20000 in
theorem ggX3_roomOf_X2_tell : GoodIn wsX3_roomOf wsX2_tell := goodIn_r _ [50, 51, 43, 52, 53, 54, 55, 56, 41, 42, 57, 58, 45, 72, 73, 74, 75, 76, 77, 78, 79, 80, 81, 82, 83, 84, 85, 86] (by decide +kernel) (by decide +kernel)
set_option maxRecDepth 20000 in
theorem gX3_roomOf_X2_tell : GoodIn wsX3_roomOf (wsV RX3 86 RX2 yX2_tell wsX2_tell) := goodIn_app (goodIn_of _ (by decide +kernel)) ggX3_roomOf_X2_tell
theorem dX3_roomOf_0 : decode cX3_roomOf 0 = .ok (.aload_n 0, 1) := by decide +kernel
theorem dX3_roomOf_1 : decode cX3_roomOf 1 = .ok (.getfield 10, 3) := by decide +kernel
theorem dX3_roomOf_4 : decode cX3_roomOf 4 = .ok (.iload_n 1, 1) := by decide +kernel
theorem dX3_roomOf_5 : decode cX3_roomOf 5 = .ok (.invokevirtual 76, 3) := by decide +kernel
theorem dX3_roomOf_8 : decode cX3_roomOf 8 = .ok (.ifCond .eq 13, 3) := by decide +kernel
theorem dX3_roomOf_11 : decode cX3_roomOf 11 = .ok (.iload_n 2, 1) := by decide +kernel
theorem dX3_roomOf_12 : decode cX3_roomOf 12 = .ok (.iconst 0, 1) := by decide +kernel
theorem dX3_roomOf_13 : decode cX3_roomOf 13 = .ok (.bipush 13, 2) := by decide +kernel
theorem dX3_roomOf_15 : decode cX3_roomOf 15 = .ok (.invokestatic 30, 3) := by decide +kernel
theorem dX3_roomOf_18 : decode cX3_roomOf 18 = .ok (.ifCond .eq 5, 3) := by decide +kernel
theorem dX3_roomOf_21 : decode cX3_roomOf 21 = .ok (.iconst (-1), 1) := by decide +kernel
theorem dX3_roomOf_22 : decode cX3_roomOf 22 = .ok (.ireturn, 1) := by decide +kernel
theorem dX3_roomOf_23 : decode cX3_roomOf 23 = .ok (.iload_n 2, 1) := by decide +kernel
theorem dX3_roomOf_24 : decode cX3_roomOf 24 = .ok (.bipush 8, 2) := by decide +kernel
theorem dX3_roomOf_26 : decode cX3_roomOf 26 = .ok (.if_icmp .ne 12, 3) := by decide +kernel
theorem dX3_roomOf_29 : decode cX3_roomOf 29 = .ok (.aload_n 0, 1) := by decide +kernel
theorem dX3_roomOf_30 : decode cX3_roomOf 30 = .ok (.getfield 10, 3) := by decide +kernel
theorem dX3_roomOf_33 : decode cX3_roomOf 33 = .ok (.iload_n 1, 1) := by decide +kernel
theorem dX3_roomOf_34 : decode cX3_roomOf 34 = .ok (.invokevirtual 80, 3) := by decide +kernel
theorem dX3_roomOf_37 : decode cX3_roomOf 37 = .ok (.ireturn, 1) := by decide +kernel
theorem dX3_roomOf_38 : decode cX3_roomOf 38 = .ok (.iload_n 2, 1) := by decide +kernel
theorem dX3_roomOf_39 : decode cX3_roomOf 39 = .ok (.bipush 12, 2) := by decide +kernel
theorem dX3_roomOf_41 : decode cX3_roomOf 41 = .ok (.if_icmp .ne 20, 3) := by decide +kernel
theorem dX3_roomOf_44 : decode cX3_roomOf 44 = .ok (.aload_n 0, 1) := by decide +kernel
theorem dX3_roomOf_45 : decode cX3_roomOf 45 = .ok (.getfield 10, 3) := by decide +kernel
theorem dX3_roomOf_48 : decode cX3_roomOf 48 = .ok (.iload_n 1, 1) := by decide +kernel
theorem dX3_roomOf_49 : decode cX3_roomOf 49 = .ok (.invokevirtual 83, 3) := by decide +kernel
theorem dX3_roomOf_52 : decode cX3_roomOf 52 = .ok (.ifCond .eq 7, 3) := by decide +kernel
theorem dX3_roomOf_55 : decode cX3_roomOf 55 = .ok (.iconst 1, 1) := by decide +kernel
theorem dX3_roomOf_56 : decode cX3_roomOf 56 = .ok (.goto 4, 3) := by decide +kernel
theorem dX3_roomOf_59 : decode cX3_roomOf 59 = .ok (.iconst 0, 1) := by decide +kernel
theorem dX3_roomOf_60 : decode cX3_roomOf 60 = .ok (.ireturn, 1) := by decide +kernel
theorem dX3_roomOf_61 : decode cX3_roomOf 61 = .ok (.aload_n 0, 1) := by decide +kernel
theorem dX3_roomOf_62 : decode cX3_roomOf 62 = .ok (.getfield 10, 3) := by decide +kernel
theorem dX3_roomOf_65 : decode cX3_roomOf 65 = .ok (.getfield 41, 3) := by decide +kernel
theorem dX3_roomOf_68 : decode cX3_roomOf 68 = .ok (.iload_n 1, 1) := by decide +kernel
theorem dX3_roomOf_69 : decode cX3_roomOf 69 = .ok (.aaload, 1) := by decide +kernel
theorem dX3_roomOf_70 : decode cX3_roomOf 70 = .ok (.iload_n 2, 1) := by decide +kernel
theorem dX3_roomOf_71 : decode cX3_roomOf 71 = .ok (.invokevirtual 86, 3) := by decide +kernel
theorem dX3_roomOf_74 : decode cX3_roomOf 74 = .ok (.ireturn, 1) := by decide +kernel
set_option maxRecDepth 20000 in
theorem ggX3_costOf_X0_hasRoom : GoodIn wsX3_costOf wsX0_hasRoom := goodIn_r _ [8, 9, 19, 20, 21, 22, 23, 24, 25, 26] (by decide +kernel) (by decide +kernel)
set_option maxRecDepth 20000 in
theorem gX3_costOf_X0_hasRoom : GoodIn wsX3_costOf (wsV RX3 76 RX0 yX0_hasRoom wsX0_hasRoom) := goodIn_app (goodIn_of _ (by decide +kernel)) ggX3_costOf_X0_hasRoom
set_option maxRecDepth 20000 in
theorem ggX3_costOf_X3_outside : GoodIn wsX3_costOf wsX3_outside := goodIn_r _ [13] (by decide +kernel) (by decide +kernel)
set_option maxRecDepth 20000 in
theorem gX3_costOf_X3_outside : GoodIn wsX3_costOf (va_wsS RX3 30 yX3_outside wsX3_outside) := goodIn_app (goodIn_of _ (by decide +kernel)) ggX3_costOf_X3_outside
theorem dX3_costOf_0 : decode cX3_costOf 0 = .ok (.aload_n 0, 1) := by decide +kernel
theorem dX3_costOf_1 : decode cX3_costOf 1 = .ok (.getfield 10, 3) := by decide +kernel
theorem dX3_costOf_4 : decode cX3_costOf 4 = .ok (.iload_n 1, 1) := by decide +kernel
theorem dX3_costOf_5 : decode cX3_costOf 5 = .ok (.invokevirtual 76, 3) := by decide +kernel
theorem dX3_costOf_8 : decode cX3_costOf 8 = .ok (.ifCond .eq 12, 3) := by decide +kernel
theorem dX3_costOf_11 : decode cX3_costOf 11 = .ok (.iload_n 2, 1) := by decide +kernel
theorem dX3_costOf_12 : decode cX3_costOf 12 = .ok (.iconst 0, 1) := by decide +kernel
theorem dX3_costOf_13 : decode cX3_costOf 13 = .ok (.iconst 4, 1) := by decide +kernel
theorem dX3_costOf_14 : decode cX3_costOf 14 = .ok (.invokestatic 30, 3) := by decide +kernel
theorem dX3_costOf_17 : decode cX3_costOf 17 = .ok (.ifCond .eq 5, 3) := by decide +kernel
theorem dX3_costOf_20 : decode cX3_costOf 20 = .ok (.iconst (-1), 1) := by decide +kernel
theorem dX3_costOf_21 : decode cX3_costOf 21 = .ok (.ireturn, 1) := by decide +kernel
theorem dX3_costOf_22 : decode cX3_costOf 22 = .ok (.aload_n 0, 1) := by decide +kernel
theorem dX3_costOf_23 : decode cX3_costOf 23 = .ok (.getfield 10, 3) := by decide +kernel
theorem dX3_costOf_26 : decode cX3_costOf 26 = .ok (.getfield 41, 3) := by decide +kernel
theorem dX3_costOf_29 : decode cX3_costOf 29 = .ok (.iload_n 1, 1) := by decide +kernel
theorem dX3_costOf_30 : decode cX3_costOf 30 = .ok (.aaload, 1) := by decide +kernel
theorem dX3_costOf_31 : decode cX3_costOf 31 = .ok (.getfield 51, 3) := by decide +kernel
theorem dX3_costOf_34 : decode cX3_costOf 34 = .ok (.iload_n 2, 1) := by decide +kernel
theorem dX3_costOf_35 : decode cX3_costOf 35 = .ok (.iaload, 1) := by decide +kernel
theorem dX3_costOf_36 : decode cX3_costOf 36 = .ok (.ireturn, 1) := by decide +kernel
set_option maxRecDepth 20000 in
theorem ggX3_pluggedAt_X3_outside : GoodIn wsX3_pluggedAt wsX3_outside := goodIn_r _ [5] (by decide +kernel) (by decide +kernel)
set_option maxRecDepth 20000 in
theorem gX3_pluggedAt_X3_outside : GoodIn wsX3_pluggedAt (va_wsS RX3 30 yX3_outside wsX3_outside) := goodIn_app (goodIn_of _ (by decide +kernel)) ggX3_pluggedAt_X3_outside
set_option maxRecDepth 20000 in
theorem ggX3_pluggedAt_X0_roomOnRail : GoodIn wsX3_pluggedAt wsX0_roomOnRail := goodIn_r _ [10, 11, 12, 13, 19, 20, 21, 22, 23, 24, 25, 26, 27, 28, 29, 30, 31, 32, 33, 34, 35, 36, 37, 38, 39, 40, 41] (by decide +kernel) (by decide +kernel)
set_option maxRecDepth 20000 in
theorem gX3_pluggedAt_X0_roomOnRail : GoodIn wsX3_pluggedAt (wsV RX3 89 RX0 yX0_roomOnRail wsX0_roomOnRail) := goodIn_app (goodIn_of _ (by decide +kernel)) ggX3_pluggedAt_X0_roomOnRail
theorem dX3_pluggedAt_0 : decode cX3_pluggedAt 0 = .ok (.iload_n 1, 1) := by decide +kernel
theorem dX3_pluggedAt_1 : decode cX3_pluggedAt 1 = .ok (.iconst 0, 1) := by decide +kernel
theorem dX3_pluggedAt_2 : decode cX3_pluggedAt 2 = .ok (.iconst 1, 1) := by decide +kernel
theorem dX3_pluggedAt_3 : decode cX3_pluggedAt 3 = .ok (.invokestatic 30, 3) := by decide +kernel
theorem dX3_pluggedAt_6 : decode cX3_pluggedAt 6 = .ok (.ifCond .ne 7, 3) := by decide +kernel
theorem dX3_pluggedAt_9 : decode cX3_pluggedAt 9 = .ok (.iload_n 2, 1) := by decide +kernel
theorem dX3_pluggedAt_10 : decode cX3_pluggedAt 10 = .ok (.ifCond .ge 5, 3) := by decide +kernel
theorem dX3_pluggedAt_13 : decode cX3_pluggedAt 13 = .ok (.iconst (-1), 1) := by decide +kernel
theorem dX3_pluggedAt_14 : decode cX3_pluggedAt 14 = .ok (.ireturn, 1) := by decide +kernel
theorem dX3_pluggedAt_15 : decode cX3_pluggedAt 15 = .ok (.aload_n 0, 1) := by decide +kernel
theorem dX3_pluggedAt_16 : decode cX3_pluggedAt 16 = .ok (.getfield 10, 3) := by decide +kernel
theorem dX3_pluggedAt_19 : decode cX3_pluggedAt 19 = .ok (.iload_n 1, 1) := by decide +kernel
theorem dX3_pluggedAt_20 : decode cX3_pluggedAt 20 = .ok (.iload_n 2, 1) := by decide +kernel
theorem dX3_pluggedAt_21 : decode cX3_pluggedAt 21 = .ok (.invokevirtual 89, 3) := by decide +kernel
theorem dX3_pluggedAt_24 : decode cX3_pluggedAt 24 = .ok (.ireturn, 1) := by decide +kernel
set_option maxRecDepth 20000 in
theorem ggX3_use_X3_note : GoodIn wsX3_use wsX3_note := goodIn_r _ [6, 7, 8, 1, 9, 10, 11, 12, 13, 14, 15, 16, 17, 18, 19, 20, 21, 22, 23, 24, 25, 26, 27, 28, 29, 30, 31, 32, 33, 34, 35, 36, 37, 38, 39, 40, 41, 42, 43, 44, 45, 46, 66, 67, 68, 69, 70, 71, 72, 73, 74, 75, 76, 77, 78, 79, 80, 81, 82, 83, 84, 85, 86, 87, 88, 89, 90, 91, 92, 93] (by decide +kernel) (by decide +kernel)
set_option maxRecDepth 20000 in
theorem gX3_use_X3_note : GoodIn wsX3_use (wsV RX3 38 RX3 yX3_note wsX3_note) := goodIn_app (goodIn_of _ (by decide +kernel)) ggX3_use_X3_note
set_option maxRecDepth 20000 in
theorem ggX3_use_X0_planUse : GoodIn wsX3_use wsX0_planUse := goodIn_r _ [50, 25, 51, 24, 21, 22, 23, 52, 53, 54, 12, 55, 14, 56, 5, 57, 71, 72, 73, 74, 75, 76, 77, 78] (by decide +kernel) (by decide +kernel)
set_option maxRecDepth 20000 in
theorem gX3_use_X0_planUse : GoodIn wsX3_use (wsV RX3 92 RX0 yX0_planUse wsX0_planUse) := goodIn_app (goodIn_of _ (by decide +kernel)) ggX3_use_X0_planUse
set_option maxRecDepth 20000 in
theorem ggX3_use_X3_kept : GoodIn wsX3_use wsX3_kept := goodIn_r _ [61, 7, 62, 63, 64, 5, 65, 8, 66, 67, 68, 69, 70] (by decide +kernel) (by decide +kernel)
set_option maxRecDepth 20000 in
theorem gX3_use_X3_kept : GoodIn wsX3_use (wsV RX3 55 RX3 yX3_kept wsX3_kept) := goodIn_app (goodIn_of _ (by decide +kernel)) ggX3_use_X3_kept
theorem dX3_use_0 : decode cX3_use 0 = .ok (.aload_n 0, 1) := by decide +kernel
theorem dX3_use_1 : decode cX3_use 1 = .ok (.invokevirtual 38, 3) := by decide +kernel
theorem dX3_use_4 : decode cX3_use 4 = .ok (.aload_n 0, 1) := by decide +kernel
theorem dX3_use_5 : decode cX3_use 5 = .ok (.aload_n 0, 1) := by decide +kernel
theorem dX3_use_6 : decode cX3_use 6 = .ok (.getfield 10, 3) := by decide +kernel
theorem dX3_use_9 : decode cX3_use 9 = .ok (.iload_n 1, 1) := by decide +kernel
theorem dX3_use_10 : decode cX3_use 10 = .ok (.iload_n 2, 1) := by decide +kernel
theorem dX3_use_11 : decode cX3_use 11 = .ok (.iload_n 3, 1) := by decide +kernel
theorem dX3_use_12 : decode cX3_use 12 = .ok (.invokevirtual 92, 3) := by decide +kernel
theorem dX3_use_15 : decode cX3_use 15 = .ok (.invokevirtual 55, 3) := by decide +kernel
theorem dX3_use_18 : decode cX3_use 18 = .ok (.ireturn, 1) := by decide +kernel
set_option maxRecDepth 20000 in
theorem ggX3_useOf_X0_hasUse : GoodIn wsX3_useOf wsX0_hasUse := goodIn_r _ [9, 10, 26, 27, 28, 29, 30, 31, 32, 33] (by decide +kernel) (by decide +kernel)
set_option maxRecDepth 20000 in
theorem gX3_useOf_X0_hasUse : GoodIn wsX3_useOf (wsV RX3 95 RX0 yX0_hasUse wsX0_hasUse) := goodIn_app (goodIn_of _ (by decide +kernel)) ggX3_useOf_X0_hasUse
set_option maxRecDepth 20000 in
theorem ggX3_useOf_X3_outside : GoodIn wsX3_useOf wsX3_outside := goodIn_r _ [14] (by decide +kernel) (by decide +kernel)
set_option maxRecDepth 20000 in
theorem gX3_useOf_X3_outside : GoodIn wsX3_useOf (va_wsS RX3 30 yX3_outside wsX3_outside) := goodIn_app (goodIn_of _ (by decide +kernel)) ggX3_useOf_X3_outside
set_option maxRecDepth 20000 in
theorem ggX3_useOf_X0_firstUseOf : GoodIn wsX3_useOf wsX0_firstUseOf := goodIn_r _ [18, 10, 19, 20, 26, 27, 28, 29, 30, 31, 32, 33] (by decide +kernel) (by decide +kernel)
set_option maxRecDepth 20000 in
theorem gX3_useOf_X0_firstUseOf : GoodIn wsX3_useOf (wsV RX3 107 RX0 yX0_firstUseOf wsX0_firstUseOf) := goodIn_app (goodIn_of _ (by decide +kernel)) ggX3_useOf_X0_firstUseOf
theorem dX3_useOf_0 : decode cX3_useOf 0 = .ok (.aload_n 0, 1) := by decide +kernel
theorem dX3_useOf_1 : decode cX3_useOf 1 = .ok (.getfield 10, 3) := by decide +kernel
theorem dX3_useOf_4 : decode cX3_useOf 4 = .ok (.iload_n 1, 1) := by decide +kernel
theorem dX3_useOf_5 : decode cX3_useOf 5 = .ok (.invokevirtual 95, 3) := by decide +kernel
theorem dX3_useOf_8 : decode cX3_useOf 8 = .ok (.ifCond .eq 12, 3) := by decide +kernel
theorem dX3_useOf_11 : decode cX3_useOf 11 = .ok (.iload_n 2, 1) := by decide +kernel
theorem dX3_useOf_12 : decode cX3_useOf 12 = .ok (.iconst 0, 1) := by decide +kernel
theorem dX3_useOf_13 : decode cX3_useOf 13 = .ok (.iconst 3, 1) := by decide +kernel
theorem dX3_useOf_14 : decode cX3_useOf 14 = .ok (.invokestatic 30, 3) := by decide +kernel
theorem dX3_useOf_17 : decode cX3_useOf 17 = .ok (.ifCond .eq 5, 3) := by decide +kernel
theorem dX3_useOf_20 : decode cX3_useOf 20 = .ok (.iconst (-1), 1) := by decide +kernel
theorem dX3_useOf_21 : decode cX3_useOf 21 = .ok (.ireturn, 1) := by decide +kernel
theorem dX3_useOf_22 : decode cX3_useOf 22 = .ok (.iload_n 2, 1) := by decide +kernel
theorem dX3_useOf_23 : decode cX3_useOf 23 = .ok (.tableswitch 55 0 2 #[25, 35, 45], 25) := by decide +kernel
theorem dX3_useOf_48 : decode cX3_useOf 48 = .ok (.aload_n 0, 1) := by decide +kernel
theorem dX3_useOf_49 : decode cX3_useOf 49 = .ok (.getfield 10, 3) := by decide +kernel
theorem dX3_useOf_52 : decode cX3_useOf 52 = .ok (.getfield 98, 3) := by decide +kernel
theorem dX3_useOf_55 : decode cX3_useOf 55 = .ok (.iload_n 1, 1) := by decide +kernel
theorem dX3_useOf_56 : decode cX3_useOf 56 = .ok (.iaload, 1) := by decide +kernel
theorem dX3_useOf_57 : decode cX3_useOf 57 = .ok (.ireturn, 1) := by decide +kernel
theorem dX3_useOf_58 : decode cX3_useOf 58 = .ok (.aload_n 0, 1) := by decide +kernel
theorem dX3_useOf_59 : decode cX3_useOf 59 = .ok (.getfield 10, 3) := by decide +kernel
theorem dX3_useOf_62 : decode cX3_useOf 62 = .ok (.getfield 101, 3) := by decide +kernel
theorem dX3_useOf_65 : decode cX3_useOf 65 = .ok (.iload_n 1, 1) := by decide +kernel
theorem dX3_useOf_66 : decode cX3_useOf 66 = .ok (.iaload, 1) := by decide +kernel
theorem dX3_useOf_67 : decode cX3_useOf 67 = .ok (.ireturn, 1) := by decide +kernel
theorem dX3_useOf_68 : decode cX3_useOf 68 = .ok (.aload_n 0, 1) := by decide +kernel
theorem dX3_useOf_69 : decode cX3_useOf 69 = .ok (.getfield 10, 3) := by decide +kernel
theorem dX3_useOf_72 : decode cX3_useOf 72 = .ok (.getfield 104, 3) := by decide +kernel
theorem dX3_useOf_75 : decode cX3_useOf 75 = .ok (.iload_n 1, 1) := by decide +kernel
theorem dX3_useOf_76 : decode cX3_useOf 76 = .ok (.iaload, 1) := by decide +kernel
theorem dX3_useOf_77 : decode cX3_useOf 77 = .ok (.ireturn, 1) := by decide +kernel
theorem dX3_useOf_78 : decode cX3_useOf 78 = .ok (.aload_n 0, 1) := by decide +kernel
theorem dX3_useOf_79 : decode cX3_useOf 79 = .ok (.getfield 10, 3) := by decide +kernel
theorem dX3_useOf_82 : decode cX3_useOf 82 = .ok (.aload_n 0, 1) := by decide +kernel
theorem dX3_useOf_83 : decode cX3_useOf 83 = .ok (.getfield 10, 3) := by decide +kernel
theorem dX3_useOf_86 : decode cX3_useOf 86 = .ok (.getfield 98, 3) := by decide +kernel
theorem dX3_useOf_89 : decode cX3_useOf 89 = .ok (.iload_n 1, 1) := by decide +kernel
theorem dX3_useOf_90 : decode cX3_useOf 90 = .ok (.iaload, 1) := by decide +kernel
theorem dX3_useOf_91 : decode cX3_useOf 91 = .ok (.invokevirtual 107, 3) := by decide +kernel
theorem dX3_useOf_94 : decode cX3_useOf 94 = .ok (.iload_n 1, 1) := by decide +kernel
theorem dX3_useOf_95 : decode cX3_useOf 95 = .ok (.if_icmp .ne 7, 3) := by decide +kernel
theorem dX3_useOf_98 : decode cX3_useOf 98 = .ok (.iconst 1, 1) := by decide +kernel
theorem dX3_useOf_99 : decode cX3_useOf 99 = .ok (.goto 4, 3) := by decide +kernel
theorem dX3_useOf_102 : decode cX3_useOf 102 = .ok (.iconst 0, 1) := by decide +kernel
theorem dX3_useOf_103 : decode cX3_useOf 103 = .ok (.ireturn, 1) := by decide +kernel
set_option maxRecDepth 20000 in
theorem ggX3_drop_X3_note : GoodIn wsX3_drop wsX3_note := goodIn_r _ [6, 7, 8, 1, 9, 10, 11, 12, 13, 14, 15, 16, 17, 18, 19, 20, 21, 22, 23, 24, 25, 26, 27, 28, 29, 30, 31, 32, 33, 34, 35, 36, 37, 38, 39, 40, 41, 42, 43, 44, 45, 46, 67, 68, 69, 70, 71, 72, 73, 74, 75, 76, 77, 78, 79, 80, 81, 82, 83, 84, 85, 86, 87, 88, 89, 90, 91, 92, 93, 94] (by decide +kernel) (by decide +kernel)
set_option maxRecDepth 20000 in
theorem gX3_drop_X3_note : GoodIn wsX3_drop (wsV RX3 38 RX3 yX3_note wsX3_note) := goodIn_app (goodIn_of _ (by decide +kernel)) ggX3_drop_X3_note
set_option maxRecDepth 20000 in
theorem ggX3_drop_X0_dropUse : GoodIn wsX3_drop wsX0_dropUse := goodIn_r _ [50, 21, 51, 52, 53, 12, 54, 24, 55, 56, 57, 58, 22, 23, 72, 73, 74, 75, 76, 77, 78, 79] (by decide +kernel) (by decide +kernel)
set_option maxRecDepth 20000 in
theorem gX3_drop_X0_dropUse : GoodIn wsX3_drop (wsV RX3 110 RX0 yX0_dropUse wsX0_dropUse) := goodIn_app (goodIn_of _ (by decide +kernel)) ggX3_drop_X0_dropUse
set_option maxRecDepth 20000 in
theorem ggX3_drop_X3_kept : GoodIn wsX3_drop wsX3_kept := goodIn_r _ [62, 7, 63, 64, 65, 5, 66, 8, 67, 68, 69, 70, 71] (by decide +kernel) (by decide +kernel)
set_option maxRecDepth 20000 in
theorem gX3_drop_X3_kept : GoodIn wsX3_drop (wsV RX3 55 RX3 yX3_kept wsX3_kept) := goodIn_app (goodIn_of _ (by decide +kernel)) ggX3_drop_X3_kept
theorem dX3_drop_0 : decode cX3_drop 0 = .ok (.aload_n 0, 1) := by decide +kernel
theorem dX3_drop_1 : decode cX3_drop 1 = .ok (.invokevirtual 38, 3) := by decide +kernel
theorem dX3_drop_4 : decode cX3_drop 4 = .ok (.aload_n 0, 1) := by decide +kernel
theorem dX3_drop_5 : decode cX3_drop 5 = .ok (.aload_n 0, 1) := by decide +kernel
theorem dX3_drop_6 : decode cX3_drop 6 = .ok (.getfield 10, 3) := by decide +kernel
theorem dX3_drop_9 : decode cX3_drop 9 = .ok (.iload_n 1, 1) := by decide +kernel
theorem dX3_drop_10 : decode cX3_drop 10 = .ok (.invokevirtual 110, 3) := by decide +kernel
theorem dX3_drop_13 : decode cX3_drop 13 = .ok (.invokevirtual 55, 3) := by decide +kernel
theorem dX3_drop_16 : decode cX3_drop 16 = .ok (.ireturn, 1) := by decide +kernel
set_option maxRecDepth 20000 in
theorem ggX3_wake_X3_note : GoodIn wsX3_wake wsX3_note := goodIn_r _ [6, 7, 8, 1, 9, 10, 11, 12, 13, 14, 15, 16, 17, 18, 19, 20, 21, 22, 23, 24, 25, 26, 27, 28, 29, 30, 31, 32, 33, 34, 35, 36, 37, 38, 39, 40, 41, 42, 43, 44, 45, 46, 79, 80, 81, 82, 83, 84, 85, 86, 87, 88, 89, 90, 91, 92, 93, 94, 95, 96, 97, 98, 99, 100, 101, 102, 103, 104, 105, 106] (by decide +kernel) (by decide +kernel)
set_option maxRecDepth 20000 in
theorem gX3_wake_X3_note : GoodIn wsX3_wake (wsV RX3 38 RX3 yX3_note wsX3_note) := goodIn_app (goodIn_of _ (by decide +kernel)) ggX3_wake_X3_note
set_option maxRecDepth 20000 in
theorem ggX3_wake_X0_wakeRoom : GoodIn wsX3_wake wsX0_wakeRoom := goodIn_r _ [50, 15, 51, 52, 53, 54, 55, 12, 56, 14, 57, 58, 59, 60, 61, 62, 63, 64, 65, 66, 16, 67, 68, 69, 29, 70, 33, 31, 39, 40, 44, 84, 85, 86, 87, 88, 89, 90, 91, 92, 93, 94, 95, 96, 97, 98, 99, 100, 101, 102, 103, 104, 105, 106] (by decide +kernel) (by decide +kernel)
set_option maxRecDepth 20000 in
theorem gX3_wake_X0_wakeRoom : GoodIn wsX3_wake (wsV RX3 113 RX0 yX0_wakeRoom wsX0_wakeRoom) := goodIn_app (goodIn_of _ (by decide +kernel)) ggX3_wake_X0_wakeRoom
set_option maxRecDepth 20000 in
theorem ggX3_wake_X3_kept : GoodIn wsX3_wake wsX3_kept := goodIn_r _ [74, 7, 75, 76, 77, 5, 78, 8, 79, 80, 81, 82, 83] (by decide +kernel) (by decide +kernel)
set_option maxRecDepth 20000 in
theorem gX3_wake_X3_kept : GoodIn wsX3_wake (wsV RX3 55 RX3 yX3_kept wsX3_kept) := goodIn_app (goodIn_of _ (by decide +kernel)) ggX3_wake_X3_kept
theorem dX3_wake_0 : decode cX3_wake 0 = .ok (.aload_n 0, 1) := by decide +kernel
theorem dX3_wake_1 : decode cX3_wake 1 = .ok (.invokevirtual 38, 3) := by decide +kernel
theorem dX3_wake_4 : decode cX3_wake 4 = .ok (.aload_n 0, 1) := by decide +kernel
theorem dX3_wake_5 : decode cX3_wake 5 = .ok (.aload_n 0, 1) := by decide +kernel
theorem dX3_wake_6 : decode cX3_wake 6 = .ok (.getfield 10, 3) := by decide +kernel
theorem dX3_wake_9 : decode cX3_wake 9 = .ok (.iload_n 1, 1) := by decide +kernel
theorem dX3_wake_10 : decode cX3_wake 10 = .ok (.invokevirtual 113, 3) := by decide +kernel
theorem dX3_wake_13 : decode cX3_wake 13 = .ok (.invokevirtual 55, 3) := by decide +kernel
theorem dX3_wake_16 : decode cX3_wake 16 = .ok (.ireturn, 1) := by decide +kernel
set_option maxRecDepth 20000 in
theorem ggX3_sleep_X3_note : GoodIn wsX3_sleep wsX3_note := goodIn_r _ [6, 7, 8, 1, 9, 10, 11, 12, 13, 14, 15, 16, 17, 18, 19, 20, 21, 22, 23, 24, 25, 26, 27, 28, 29, 30, 31, 32, 33, 34, 35, 36, 37, 38, 39, 40, 41, 42, 43, 44, 45, 46, 70, 71, 72, 73, 74, 75, 76, 77, 78, 79, 80, 81, 82, 83, 84, 85, 86, 87, 88, 89, 90, 91, 92, 93, 94, 95, 96, 97] (by decide +kernel) (by decide +kernel)
set_option maxRecDepth 20000 in
theorem gX3_sleep_X3_note : GoodIn wsX3_sleep (wsV RX3 38 RX3 yX3_note wsX3_note) := goodIn_app (goodIn_of _ (by decide +kernel)) ggX3_sleep_X3_note
set_option maxRecDepth 20000 in
theorem ggX3_sleep_X0_sendToSleep : GoodIn wsX3_sleep wsX0_sendToSleep := goodIn_r _ [50, 15, 51, 52, 53, 54, 55, 12, 56, 14, 57, 58, 59, 60, 61, 75, 76, 77, 78, 79, 80, 81, 82, 83, 84, 85, 86, 87, 88, 89, 90, 91, 92, 93, 94, 95, 96, 97] (by decide +kernel) (by decide +kernel)
set_option maxRecDepth 20000 in
theorem gX3_sleep_X0_sendToSleep : GoodIn wsX3_sleep (wsV RX3 116 RX0 yX0_sendToSleep wsX0_sendToSleep) := goodIn_app (goodIn_of _ (by decide +kernel)) ggX3_sleep_X0_sendToSleep
set_option maxRecDepth 20000 in
theorem ggX3_sleep_X3_kept : GoodIn wsX3_sleep wsX3_kept := goodIn_r _ [65, 7, 66, 67, 68, 5, 69, 8, 70, 71, 72, 73, 74] (by decide +kernel) (by decide +kernel)
set_option maxRecDepth 20000 in
theorem gX3_sleep_X3_kept : GoodIn wsX3_sleep (wsV RX3 55 RX3 yX3_kept wsX3_kept) := goodIn_app (goodIn_of _ (by decide +kernel)) ggX3_sleep_X3_kept
theorem dX3_sleep_0 : decode cX3_sleep 0 = .ok (.aload_n 0, 1) := by decide +kernel
theorem dX3_sleep_1 : decode cX3_sleep 1 = .ok (.invokevirtual 38, 3) := by decide +kernel
theorem dX3_sleep_4 : decode cX3_sleep 4 = .ok (.aload_n 0, 1) := by decide +kernel
theorem dX3_sleep_5 : decode cX3_sleep 5 = .ok (.aload_n 0, 1) := by decide +kernel
theorem dX3_sleep_6 : decode cX3_sleep 6 = .ok (.getfield 10, 3) := by decide +kernel
theorem dX3_sleep_9 : decode cX3_sleep 9 = .ok (.iload_n 1, 1) := by decide +kernel
theorem dX3_sleep_10 : decode cX3_sleep 10 = .ok (.invokevirtual 116, 3) := by decide +kernel
theorem dX3_sleep_13 : decode cX3_sleep 13 = .ok (.invokevirtual 55, 3) := by decide +kernel
theorem dX3_sleep_16 : decode cX3_sleep 16 = .ok (.ireturn, 1) := by decide +kernel
set_option maxRecDepth 20000 in
theorem ggX3_tick_X3_note : GoodIn wsX3_tick wsX3_note := goodIn_r _ [6, 7, 8, 1, 9, 10, 11, 12, 13, 14, 15, 16, 17, 18, 19, 20, 21, 22, 23, 24, 25, 26, 27, 28, 29, 30, 31, 32, 33, 34, 35, 36, 37, 38, 39, 40, 41, 42, 43, 44, 45, 46, 149, 150, 151, 152, 153, 154, 155, 156, 157, 158, 159, 160, 161, 162, 163, 164, 165, 166, 167, 168, 169, 170, 171, 172, 173, 174, 175, 176] (by decide +kernel) (by decide +kernel)
set_option maxRecDepth 20000 in
theorem gX3_tick_X3_note : GoodIn wsX3_tick (wsV RX3 38 RX3 yX3_note wsX3_note) := goodIn_app (goodIn_of _ (by decide +kernel)) ggX3_tick_X3_note
set_option maxRecDepth 20000 in
theorem ggX3_tick_X0_letTicksGoBy : GoodIn wsX3_tick wsX0_letTicksGoBy := goodIn_r _ [50, 25, 51, 52, 5, 53, 54, 55, 56, 12, 57, 14, 15, 58, 59, 60, 61, 62, 63, 64, 65, 66, 67, 68, 69, 22, 70, 71, 72, 73, 24, 21, 74, 75, 76, 77, 78, 79, 80, 29, 81, 38, 42, 39, 45, 46, 31, 82, 83, 84, 85, 86, 87, 88, 89, 90, 91, 92, 93, 94, 95, 96, 97, 98, 99, 100, 101, 102, 103, 16, 104, 105, 106, 107, 33, 40, 44, 108, 109, 110, 111, 23, 112, 113, 114, 115, 43, 116, 117, 118, 119, 120, 121, 122, 123, 124, 125, 126, 127, 128, 129, 130, 131, 132, 41, 133, 134, 135, 136, 37, 137, 138, 139, 140, 154, 155, 156, 157, 158, 159, 160, 161, 162, 163, 164, 165, 166, 167, 168, 169, 170, 171, 172, 173, 174, 175, 176] (by decide +kernel) (by decide +kernel)
set_option maxRecDepth 20000 in
theorem gX3_tick_X0_letTicksGoBy : GoodIn wsX3_tick (wsV RX3 119 RX0 yX0_letTicksGoBy wsX0_letTicksGoBy) := goodIn_app (goodIn_of _ (by decide +kernel)) ggX3_tick_X0_letTicksGoBy
set_option maxRecDepth 20000 in
theorem ggX3_tick_X3_kept : GoodIn wsX3_tick wsX3_kept := goodIn_r _ [144, 7, 145, 146, 147, 5, 148, 8, 149, 150, 151, 152, 153] (by decide +kernel) (by decide +kernel)
set_option maxRecDepth 20000 in
theorem gX3_tick_X3_kept : GoodIn wsX3_tick (wsV RX3 55 RX3 yX3_kept wsX3_kept) := goodIn_app (goodIn_of _ (by decide +kernel)) ggX3_tick_X3_kept
theorem dX3_tick_0 : decode cX3_tick 0 = .ok (.aload_n 0, 1) := by decide +kernel
theorem dX3_tick_1 : decode cX3_tick 1 = .ok (.invokevirtual 38, 3) := by decide +kernel
theorem dX3_tick_4 : decode cX3_tick 4 = .ok (.aload_n 0, 1) := by decide +kernel
theorem dX3_tick_5 : decode cX3_tick 5 = .ok (.aload_n 0, 1) := by decide +kernel
theorem dX3_tick_6 : decode cX3_tick 6 = .ok (.getfield 10, 3) := by decide +kernel
theorem dX3_tick_9 : decode cX3_tick 9 = .ok (.iload_n 1, 1) := by decide +kernel
theorem dX3_tick_10 : decode cX3_tick 10 = .ok (.invokevirtual 119, 3) := by decide +kernel
theorem dX3_tick_13 : decode cX3_tick 13 = .ok (.invokevirtual 55, 3) := by decide +kernel
theorem dX3_tick_16 : decode cX3_tick 16 = .ok (.ireturn, 1) := by decide +kernel
set_option maxRecDepth 20000 in
theorem ggX3_energy_X0_hasRoom : GoodIn wsX3_energy wsX0_hasRoom := goodIn_r _ [8, 9, 25, 26, 27, 28, 29, 30, 31, 32] (by decide +kernel) (by decide +kernel)
set_option maxRecDepth 20000 in
theorem gX3_energy_X0_hasRoom : GoodIn wsX3_energy (wsV RX3 76 RX0 yX0_hasRoom wsX0_hasRoom) := goodIn_app (goodIn_of _ (by decide +kernel)) ggX3_energy_X0_hasRoom
set_option maxRecDepth 20000 in
theorem ggX3_energy_X3_outside : GoodIn wsX3_energy wsX3_outside := goodIn_r _ [13] (by decide +kernel) (by decide +kernel)
set_option maxRecDepth 20000 in
theorem gX3_energy_X3_outside : GoodIn wsX3_energy (va_wsS RX3 30 yX3_outside wsX3_outside) := goodIn_app (goodIn_of _ (by decide +kernel)) ggX3_energy_X3_outside
set_option maxRecDepth 20000 in
theorem ggX3_energy_X2_paidInAll : GoodIn wsX3_energy wsX2_paidInAll := goodIn_r _ [18, 19, 33, 34, 35, 36, 37, 38, 39, 40, 41, 42, 43, 44, 45, 46, 47] (by decide +kernel) (by decide +kernel)
set_option maxRecDepth 20000 in
theorem gX3_energy_X2_paidInAll : GoodIn wsX3_energy (wsV RX3 122 RX2 yX2_paidInAll wsX2_paidInAll) := goodIn_app (goodIn_of _ (by decide +kernel)) ggX3_energy_X2_paidInAll
theorem dX3_energy_0 : decode cX3_energy 0 = .ok (.aload_n 0, 1) := by decide +kernel
theorem dX3_energy_1 : decode cX3_energy 1 = .ok (.getfield 10, 3) := by decide +kernel
theorem dX3_energy_4 : decode cX3_energy 4 = .ok (.iload_n 1, 1) := by decide +kernel
theorem dX3_energy_5 : decode cX3_energy 5 = .ok (.invokevirtual 76, 3) := by decide +kernel
theorem dX3_energy_8 : decode cX3_energy 8 = .ok (.ifCond .eq 12, 3) := by decide +kernel
theorem dX3_energy_11 : decode cX3_energy 11 = .ok (.iload_n 2, 1) := by decide +kernel
theorem dX3_energy_12 : decode cX3_energy 12 = .ok (.iconst 0, 1) := by decide +kernel
theorem dX3_energy_13 : decode cX3_energy 13 = .ok (.iconst 4, 1) := by decide +kernel
theorem dX3_energy_14 : decode cX3_energy 14 = .ok (.invokestatic 30, 3) := by decide +kernel
theorem dX3_energy_17 : decode cX3_energy 17 = .ok (.ifCond .eq 5, 3) := by decide +kernel
theorem dX3_energy_20 : decode cX3_energy 20 = .ok (.iconst (-1), 1) := by decide +kernel
theorem dX3_energy_21 : decode cX3_energy 21 = .ok (.ireturn, 1) := by decide +kernel
theorem dX3_energy_22 : decode cX3_energy 22 = .ok (.aload_n 0, 1) := by decide +kernel
theorem dX3_energy_23 : decode cX3_energy 23 = .ok (.getfield 10, 3) := by decide +kernel
theorem dX3_energy_26 : decode cX3_energy 26 = .ok (.getfield 41, 3) := by decide +kernel
theorem dX3_energy_29 : decode cX3_energy 29 = .ok (.iload_n 1, 1) := by decide +kernel
theorem dX3_energy_30 : decode cX3_energy 30 = .ok (.aaload, 1) := by decide +kernel
theorem dX3_energy_31 : decode cX3_energy 31 = .ok (.astore_n 3, 1) := by decide +kernel
theorem dX3_energy_32 : decode cX3_energy 32 = .ok (.iload_n 2, 1) := by decide +kernel
theorem dX3_energy_33 : decode cX3_energy 33 = .ok (.iconst 4, 1) := by decide +kernel
theorem dX3_energy_34 : decode cX3_energy 34 = .ok (.if_icmp .ne 10, 3) := by decide +kernel
theorem dX3_energy_37 : decode cX3_energy 37 = .ok (.aload_n 3, 1) := by decide +kernel
theorem dX3_energy_38 : decode cX3_energy 38 = .ok (.invokevirtual 122, 3) := by decide +kernel
theorem dX3_energy_41 : decode cX3_energy 41 = .ok (.goto 9, 3) := by decide +kernel
theorem dX3_energy_44 : decode cX3_energy 44 = .ok (.aload_n 3, 1) := by decide +kernel
theorem dX3_energy_45 : decode cX3_energy 45 = .ok (.getfield 126, 3) := by decide +kernel
theorem dX3_energy_48 : decode cX3_energy 48 = .ok (.iload_n 2, 1) := by decide +kernel
theorem dX3_energy_49 : decode cX3_energy 49 = .ok (.iaload, 1) := by decide +kernel
theorem dX3_energy_50 : decode cX3_energy 50 = .ok (.ireturn, 1) := by decide +kernel
set_option maxRecDepth 20000 in
theorem ggX3_count_X3_outside : GoodIn wsX3_count wsX3_outside := goodIn_r _ [9] (by decide +kernel) (by decide +kernel)
set_option maxRecDepth 20000 in
theorem gX3_count_X3_outside : GoodIn wsX3_count (va_wsS RX3 30 yX3_outside wsX3_outside) := goodIn_app (goodIn_of _ (by decide +kernel)) ggX3_count_X3_outside
set_option maxRecDepth 20000 in
theorem ggX3_count_X0_tell : GoodIn wsX3_count wsX0_tell := goodIn_r _ [14, 15, 16, 17, 18, 19, 20, 13, 21, 22, 23, 24, 25, 26, 27, 28, 29, 30, 31, 32, 33, 34, 35, 36, 37, 38, 39, 40, 41, 42, 43, 58, 59, 60, 61, 62, 63, 64, 65, 66, 67, 68, 69, 70, 71, 72, 73, 74, 75, 76, 77, 78, 79, 80] (by decide +kernel) (by decide +kernel)
set_option maxRecDepth 20000 in
theorem gX3_count_X0_tell : GoodIn wsX3_count (wsV RX3 152 RX0 yX0_tell wsX0_tell) := goodIn_app (goodIn_of _ (by decide +kernel)) ggX3_count_X0_tell
theorem dX3_count_0 : decode cX3_count 0 = .ok (.iload_n 1, 1) := by decide +kernel
theorem dX3_count_1 : decode cX3_count 1 = .ok (.lookupswitch 76 #[(10, 43), (11, 48), (20, 56), (21, 66)], 43) := by decide +kernel
theorem dX3_count_44 : decode cX3_count 44 = .ok (.aload_n 0, 1) := by decide +kernel
theorem dX3_count_45 : decode cX3_count 45 = .ok (.getfield 143, 3) := by decide +kernel
theorem dX3_count_48 : decode cX3_count 48 = .ok (.ireturn, 1) := by decide +kernel
theorem dX3_count_49 : decode cX3_count 49 = .ok (.aload_n 0, 1) := by decide +kernel
theorem dX3_count_50 : decode cX3_count 50 = .ok (.getfield 26, 3) := by decide +kernel
theorem dX3_count_53 : decode cX3_count 53 = .ok (.getfield 146, 3) := by decide +kernel
theorem dX3_count_56 : decode cX3_count 56 = .ok (.ireturn, 1) := by decide +kernel
theorem dX3_count_57 : decode cX3_count 57 = .ok (.aload_n 0, 1) := by decide +kernel
theorem dX3_count_58 : decode cX3_count 58 = .ok (.getfield 10, 3) := by decide +kernel
theorem dX3_count_61 : decode cX3_count 61 = .ok (.getfield 149, 3) := by decide +kernel
theorem dX3_count_64 : decode cX3_count 64 = .ok (.iconst 0, 1) := by decide +kernel
theorem dX3_count_65 : decode cX3_count 65 = .ok (.iaload, 1) := by decide +kernel
theorem dX3_count_66 : decode cX3_count 66 = .ok (.ireturn, 1) := by decide +kernel
theorem dX3_count_67 : decode cX3_count 67 = .ok (.aload_n 0, 1) := by decide +kernel
theorem dX3_count_68 : decode cX3_count 68 = .ok (.getfield 10, 3) := by decide +kernel
theorem dX3_count_71 : decode cX3_count 71 = .ok (.getfield 149, 3) := by decide +kernel
theorem dX3_count_74 : decode cX3_count 74 = .ok (.iconst 1, 1) := by decide +kernel
theorem dX3_count_75 : decode cX3_count 75 = .ok (.iaload, 1) := by decide +kernel
theorem dX3_count_76 : decode cX3_count 76 = .ok (.ireturn, 1) := by decide +kernel
theorem dX3_count_77 : decode cX3_count 77 = .ok (.iload_n 1, 1) := by decide +kernel
theorem dX3_count_78 : decode cX3_count 78 = .ok (.iconst 0, 1) := by decide +kernel
theorem dX3_count_79 : decode cX3_count 79 = .ok (.bipush 9, 2) := by decide +kernel
theorem dX3_count_81 : decode cX3_count 81 = .ok (.invokestatic 30, 3) := by decide +kernel
theorem dX3_count_84 : decode cX3_count 84 = .ok (.ifCond .eq 7, 3) := by decide +kernel
theorem dX3_count_87 : decode cX3_count 87 = .ok (.iconst (-1), 1) := by decide +kernel
theorem dX3_count_88 : decode cX3_count 88 = .ok (.goto 11, 3) := by decide +kernel
theorem dX3_count_91 : decode cX3_count 91 = .ok (.aload_n 0, 1) := by decide +kernel
theorem dX3_count_92 : decode cX3_count 92 = .ok (.getfield 10, 3) := by decide +kernel
theorem dX3_count_95 : decode cX3_count 95 = .ok (.iload_n 1, 1) := by decide +kernel
theorem dX3_count_96 : decode cX3_count 96 = .ok (.invokevirtual 152, 3) := by decide +kernel
theorem dX3_count_99 : decode cX3_count 99 = .ok (.ireturn, 1) := by decide +kernel
theorem dX3_outside_0 : decode cX3_outside 0 = .ok (.iload_n 0, 1) := by decide +kernel
theorem dX3_outside_1 : decode cX3_outside 1 = .ok (.iload_n 1, 1) := by decide +kernel
theorem dX3_outside_2 : decode cX3_outside 2 = .ok (.if_icmp .lt 8, 3) := by decide +kernel
theorem dX3_outside_5 : decode cX3_outside 5 = .ok (.iload_n 0, 1) := by decide +kernel
theorem dX3_outside_6 : decode cX3_outside 6 = .ok (.iload_n 2, 1) := by decide +kernel
theorem dX3_outside_7 : decode cX3_outside 7 = .ok (.if_icmp .le 7, 3) := by decide +kernel
theorem dX3_outside_10 : decode cX3_outside 10 = .ok (.iconst 1, 1) := by decide +kernel
theorem dX3_outside_11 : decode cX3_outside 11 = .ok (.goto 4, 3) := by decide +kernel
theorem dX3_outside_14 : decode cX3_outside 14 = .ok (.iconst 0, 1) := by decide +kernel
theorem dX3_outside_15 : decode cX3_outside 15 = .ok (.ireturn, 1) := by decide +kernel
set_option maxRecDepth 20000 in
theorem ggX3_note_X0_copyFrom : GoodIn wsX3_note wsX0_copyFrom := goodIn_r _ [8, 9, 10, 11, 12, 13, 14, 15, 16, 17, 18, 19, 20, 21, 22, 23, 24, 25, 26, 27, 28, 29, 30, 31, 32, 33, 34, 35, 36, 37, 38, 39, 40, 41, 47, 48, 49, 50, 51, 52, 53, 54, 55, 56, 57, 58, 59, 60, 61, 62, 63, 64, 65, 66, 67, 68, 69] (by decide +kernel) (by decide +kernel)
set_option maxRecDepth 20000 in
theorem gX3_note_X0_copyFrom : GoodIn wsX3_note (wsV RX3 153 RX0 yX0_copyFrom wsX0_copyFrom) := goodIn_app (goodIn_of _ (by decide +kernel)) ggX3_note_X0_copyFrom
theorem dX3_note_0 : decode cX3_note 0 = .ok (.aload_n 0, 1) := by decide +kernel
theorem dX3_note_1 : decode cX3_note 1 = .ok (.getfield 143, 3) := by decide +kernel
theorem dX3_note_4 : decode cX3_note 4 = .ok (.aload_n 0, 1) := by decide +kernel
theorem dX3_note_5 : decode cX3_note 5 = .ok (.getfield 19, 3) := by decide +kernel
theorem dX3_note_8 : decode cX3_note 8 = .ok (.arraylength, 1) := by decide +kernel
theorem dX3_note_9 : decode cX3_note 9 = .ok (.if_icmp .ge 19, 3) := by decide +kernel
theorem dX3_note_12 : decode cX3_note 12 = .ok (.aload_n 0, 1) := by decide +kernel
theorem dX3_note_13 : decode cX3_note 13 = .ok (.getfield 19, 3) := by decide +kernel
theorem dX3_note_16 : decode cX3_note 16 = .ok (.aload_n 0, 1) := by decide +kernel
theorem dX3_note_17 : decode cX3_note 17 = .ok (.getfield 143, 3) := by decide +kernel
theorem dX3_note_20 : decode cX3_note 20 = .ok (.aaload, 1) := by decide +kernel
theorem dX3_note_21 : decode cX3_note 21 = .ok (.aload_n 0, 1) := by decide +kernel
theorem dX3_note_22 : decode cX3_note 22 = .ok (.getfield 10, 3) := by decide +kernel
theorem dX3_note_25 : decode cX3_note 25 = .ok (.invokevirtual 153, 3) := by decide +kernel
theorem dX3_note_28 : decode cX3_note 28 = .ok (.return_, 1) := by decide +kernel
set_option maxRecDepth 20000 in
theorem ggX3_kept_X3_dropOldest : GoodIn wsX3_kept wsX3_dropOldest := goodIn_r _ [6, 7, 1, 8, 9, 10, 11, 12] (by decide +kernel) (by decide +kernel)
set_option maxRecDepth 20000 in
theorem gX3_kept_X3_dropOldest : GoodIn wsX3_kept (wsV RX3 195 RX3 yX3_dropOldest wsX3_dropOldest) := goodIn_app (goodIn_of _ (by decide +kernel)) ggX3_kept_X3_dropOldest
theorem dX3_kept_0 : decode cX3_kept 0 = .ok (.iload_n 1, 1) := by decide +kernel
theorem dX3_kept_1 : decode cX3_kept 1 = .ok (.ifCond .ge 5, 3) := by decide +kernel
theorem dX3_kept_4 : decode cX3_kept 4 = .ok (.iload_n 1, 1) := by decide +kernel
theorem dX3_kept_5 : decode cX3_kept 5 = .ok (.ireturn, 1) := by decide +kernel
theorem dX3_kept_6 : decode cX3_kept 6 = .ok (.aload_n 0, 1) := by decide +kernel
theorem dX3_kept_7 : decode cX3_kept 7 = .ok (.dup, 1) := by decide +kernel
theorem dX3_kept_8 : decode cX3_kept 8 = .ok (.getfield 143, 3) := by decide +kernel
theorem dX3_kept_11 : decode cX3_kept 11 = .ok (.iconst 1, 1) := by decide +kernel
theorem dX3_kept_12 : decode cX3_kept 12 = .ok (.iadd, 1) := by decide +kernel
theorem dX3_kept_13 : decode cX3_kept 13 = .ok (.putfield 143, 3) := by decide +kernel
theorem dX3_kept_16 : decode cX3_kept 16 = .ok (.aload_n 0, 1) := by decide +kernel
theorem dX3_kept_17 : decode cX3_kept 17 = .ok (.getfield 143, 3) := by decide +kernel
theorem dX3_kept_20 : decode cX3_kept 20 = .ok (.iconst 4, 1) := by decide +kernel
theorem dX3_kept_21 : decode cX3_kept 21 = .ok (.if_icmp .le 7, 3) := by decide +kernel
theorem dX3_kept_24 : decode cX3_kept 24 = .ok (.aload_n 0, 1) := by decide +kernel
theorem dX3_kept_25 : decode cX3_kept 25 = .ok (.invokevirtual 195, 3) := by decide +kernel
theorem dX3_kept_28 : decode cX3_kept 28 = .ok (.iload_n 1, 1) := by decide +kernel
theorem dX3_kept_29 : decode cX3_kept 29 = .ok (.ireturn, 1) := by decide +kernel
theorem dX3_dropOldest_0 : decode cX3_dropOldest 0 = .ok (.aload_n 0, 1) := by decide +kernel
theorem dX3_dropOldest_1 : decode cX3_dropOldest 1 = .ok (.getfield 19, 3) := by decide +kernel
theorem dX3_dropOldest_4 : decode cX3_dropOldest 4 = .ok (.iconst 0, 1) := by decide +kernel
theorem dX3_dropOldest_5 : decode cX3_dropOldest 5 = .ok (.aaload, 1) := by decide +kernel
theorem dX3_dropOldest_6 : decode cX3_dropOldest 6 = .ok (.astore_n 1, 1) := by decide +kernel
theorem dX3_dropOldest_7 : decode cX3_dropOldest 7 = .ok (.iconst 0, 1) := by decide +kernel
theorem dX3_dropOldest_8 : decode cX3_dropOldest 8 = .ok (.istore_n 2, 1) := by decide +kernel
theorem dX3_dropOldest_9 : decode cX3_dropOldest 9 = .ok (.iload_n 2, 1) := by decide +kernel
theorem dX3_dropOldest_10 : decode cX3_dropOldest 10 = .ok (.iconst 4, 1) := by decide +kernel
theorem dX3_dropOldest_11 : decode cX3_dropOldest 11 = .ok (.if_icmp .ge 23, 3) := by decide +kernel
theorem dX3_dropOldest_14 : decode cX3_dropOldest 14 = .ok (.aload_n 0, 1) := by decide +kernel
theorem dX3_dropOldest_15 : decode cX3_dropOldest 15 = .ok (.getfield 19, 3) := by decide +kernel
theorem dX3_dropOldest_18 : decode cX3_dropOldest 18 = .ok (.iload_n 2, 1) := by decide +kernel
theorem dX3_dropOldest_19 : decode cX3_dropOldest 19 = .ok (.aload_n 0, 1) := by decide +kernel
theorem dX3_dropOldest_20 : decode cX3_dropOldest 20 = .ok (.getfield 19, 3) := by decide +kernel
theorem dX3_dropOldest_23 : decode cX3_dropOldest 23 = .ok (.iload_n 2, 1) := by decide +kernel
theorem dX3_dropOldest_24 : decode cX3_dropOldest 24 = .ok (.iconst 1, 1) := by decide +kernel
theorem dX3_dropOldest_25 : decode cX3_dropOldest 25 = .ok (.iadd, 1) := by decide +kernel
theorem dX3_dropOldest_26 : decode cX3_dropOldest 26 = .ok (.aaload, 1) := by decide +kernel
theorem dX3_dropOldest_27 : decode cX3_dropOldest 27 = .ok (.aastore, 1) := by decide +kernel
theorem dX3_dropOldest_28 : decode cX3_dropOldest 28 = .ok (.iinc 2 1, 3) := by decide +kernel
theorem dX3_dropOldest_31 : decode cX3_dropOldest 31 = .ok (.goto (-22), 3) := by decide +kernel
theorem dX3_dropOldest_34 : decode cX3_dropOldest 34 = .ok (.aload_n 0, 1) := by decide +kernel
theorem dX3_dropOldest_35 : decode cX3_dropOldest 35 = .ok (.getfield 19, 3) := by decide +kernel
theorem dX3_dropOldest_38 : decode cX3_dropOldest 38 = .ok (.iconst 4, 1) := by decide +kernel
theorem dX3_dropOldest_39 : decode cX3_dropOldest 39 = .ok (.aload_n 1, 1) := by decide +kernel
theorem dX3_dropOldest_40 : decode cX3_dropOldest 40 = .ok (.aastore, 1) := by decide +kernel
theorem dX3_dropOldest_41 : decode cX3_dropOldest 41 = .ok (.aload_n 0, 1) := by decide +kernel
theorem dX3_dropOldest_42 : decode cX3_dropOldest 42 = .ok (.iconst 4, 1) := by decide +kernel
theorem dX3_dropOldest_43 : decode cX3_dropOldest 43 = .ok (.putfield 143, 3) := by decide +kernel
theorem dX3_dropOldest_46 : decode cX3_dropOldest 46 = .ok (.return_, 1) := by decide +kernel
