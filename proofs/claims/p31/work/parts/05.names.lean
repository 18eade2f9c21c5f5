theorem dL_cell_0 : decode cL_cell 0 = .ok (.iload_n 1, 1) := by decide +kernel
theorem dL_cell_1 : decode cL_cell 1 = .ok (.aload_n 0, 1) := by decide +kernel
theorem dL_cell_2 : decode cL_cell 2 = .ok (.arraylength, 1) := by decide +kernel
theorem dL_cell_3 : decode cL_cell 3 = .ok (.if_icmp .ge 9, 3) := by decide +kernel
theorem dL_cell_6 : decode cL_cell 6 = .ok (.aload_n 0, 1) := by decide +kernel
theorem dL_cell_7 : decode cL_cell 7 = .ok (.iload_n 1, 1) := by decide +kernel
theorem dL_cell_8 : decode cL_cell 8 = .ok (.iaload, 1) := by decide +kernel
theorem dL_cell_9 : decode cL_cell 9 = .ok (.goto 9, 3) := by decide +kernel
theorem dL_cell_12 : decode cL_cell 12 = .ok (.ldc 7, 2) := by decide +kernel
theorem dL_cell_14 : decode cL_cell 14 = .ok (.iload_n 1, 1) := by decide +kernel
theorem dL_cell_15 : decode cL_cell 15 = .ok (.iconst 3, 1) := by decide +kernel
theorem dL_cell_16 : decode cL_cell 16 = .ok (.iadd, 1) := by decide +kernel
theorem dL_cell_17 : decode cL_cell 17 = .ok (.imul, 1) := by decide +kernel
theorem dL_cell_18 : decode cL_cell 18 = .ok (.ireturn, 1) := by decide +kernel
theorem dL_low_0 : decode cL_low 0 = .ok (.iload_n 0, 1) := by decide +kernel
theorem dL_low_1 : decode cL_low 1 = .ok (.ldc 8, 2) := by decide +kernel
theorem dL_low_3 : decode cL_low 3 = .ok (.iand, 1) := by decide +kernel
theorem dL_low_4 : decode cL_low 4 = .ok (.iload_n 1, 1) := by decide +kernel
theorem dL_low_5 : decode cL_low 5 = .ok (.irem, 1) := by decide +kernel
theorem dL_low_6 : decode cL_low 6 = .ok (.ireturn, 1) := by decide +kernel
theorem dL_first_0 : decode cL_first 0 = .ok (.iconst (-1), 1) := by decide +kernel
theorem dL_first_1 : decode cL_first 1 = .ok (.istore_n 3, 1) := by decide +kernel
theorem dL_first_2 : decode cL_first 2 = .ok (.aload_n 0, 1) := by decide +kernel
theorem dL_first_3 : decode cL_first 3 = .ok (.iconst 1, 1) := by decide +kernel
theorem dL_first_4 : decode cL_first 4 = .ok (.iaload, 1) := by decide +kernel
theorem dL_first_5 : decode cL_first 5 = .ok (.iconst 1, 1) := by decide +kernel
theorem dL_first_6 : decode cL_first 6 = .ok (.isub, 1) := by decide +kernel
theorem dL_first_7 : decode cL_first 7 = .ok (.istore 4, 2) := by decide +kernel
theorem dL_first_9 : decode cL_first 9 = .ok (.iload 4, 2) := by decide +kernel
theorem dL_first_11 : decode cL_first 11 = .ok (.ifCond .lt 48, 3) := by decide +kernel
theorem dL_first_14 : decode cL_first 14 = .ok (.aload_n 1, 1) := by decide +kernel
theorem dL_first_15 : decode cL_first 15 = .ok (.iconst 3, 1) := by decide +kernel
theorem dL_first_16 : decode cL_first 16 = .ok (.iload 4, 2) := by decide +kernel
theorem dL_first_18 : decode cL_first 18 = .ok (.imul, 1) := by decide +kernel
theorem dL_first_19 : decode cL_first 19 = .ok (.iaload, 1) := by decide +kernel
theorem dL_first_20 : decode cL_first 20 = .ok (.iload_n 2, 1) := by decide +kernel
theorem dL_first_21 : decode cL_first 21 = .ok (.if_icmp .ne 30, 3) := by decide +kernel
theorem dL_first_24 : decode cL_first 24 = .ok (.iload_n 3, 1) := by decide +kernel
theorem dL_first_25 : decode cL_first 25 = .ok (.ifCond .lt 21, 3) := by decide +kernel
theorem dL_first_28 : decode cL_first 28 = .ok (.aload_n 1, 1) := by decide +kernel
theorem dL_first_29 : decode cL_first 29 = .ok (.iconst 3, 1) := by decide +kernel
theorem dL_first_30 : decode cL_first 30 = .ok (.iload 4, 2) := by decide +kernel
theorem dL_first_32 : decode cL_first 32 = .ok (.imul, 1) := by decide +kernel
theorem dL_first_33 : decode cL_first 33 = .ok (.iconst 1, 1) := by decide +kernel
theorem dL_first_34 : decode cL_first 34 = .ok (.iadd, 1) := by decide +kernel
theorem dL_first_35 : decode cL_first 35 = .ok (.iaload, 1) := by decide +kernel
theorem dL_first_36 : decode cL_first 36 = .ok (.aload_n 1, 1) := by decide +kernel
theorem dL_first_37 : decode cL_first 37 = .ok (.iconst 3, 1) := by decide +kernel
theorem dL_first_38 : decode cL_first 38 = .ok (.iload_n 3, 1) := by decide +kernel
theorem dL_first_39 : decode cL_first 39 = .ok (.imul, 1) := by decide +kernel
theorem dL_first_40 : decode cL_first 40 = .ok (.iconst 1, 1) := by decide +kernel
theorem dL_first_41 : decode cL_first 41 = .ok (.iadd, 1) := by decide +kernel
theorem dL_first_42 : decode cL_first 42 = .ok (.iaload, 1) := by decide +kernel
theorem dL_first_43 : decode cL_first 43 = .ok (.if_icmp .gt 8, 3) := by decide +kernel
theorem dL_first_46 : decode cL_first 46 = .ok (.iload 4, 2) := by decide +kernel
theorem dL_first_48 : decode cL_first 48 = .ok (.goto 4, 3) := by decide +kernel
theorem dL_first_51 : decode cL_first 51 = .ok (.iload_n 3, 1) := by decide +kernel
theorem dL_first_52 : decode cL_first 52 = .ok (.istore_n 3, 1) := by decide +kernel
theorem dL_first_53 : decode cL_first 53 = .ok (.iinc 4 (-1), 3) := by decide +kernel
theorem dL_first_56 : decode cL_first 56 = .ok (.goto (-47), 3) := by decide +kernel
theorem dL_first_59 : decode cL_first 59 = .ok (.iload_n 3, 1) := by decide +kernel
theorem dL_first_60 : decode cL_first 60 = .ok (.ireturn, 1) := by decide +kernel
set_option maxRecDepth 20000 in
theorem ggL_due_L_first : GoodIn wsL_due wsL_first := goodIn_sub (List.forall_mem_cons.mpr ⟨List.mem_of_getElem? (i := 4) rfl, wk_mn⟩) (by decide +kernel)
set_option maxRecDepth 20000 in
theorem gL_due_L_first : GoodIn wsL_due (va_wsS RL 9 yL_first wsL_first) := goodIn_app (goodIn_sub (List.forall_mem_cons.mpr ⟨List.mem_of_getElem? (i := 1) rfl, List.forall_mem_cons.mpr ⟨List.mem_of_getElem? (i := 2) rfl, List.forall_mem_cons.mpr ⟨List.mem_of_getElem? (i := 3) rfl, wk_mn⟩⟩⟩) (by decide +kernel)) ggL_due_L_first
theorem dL_due_0 : decode cL_due 0 = .ok (.aload_n 0, 1) := by decide +kernel
theorem dL_due_1 : decode cL_due 1 = .ok (.aload_n 1, 1) := by decide +kernel
theorem dL_due_2 : decode cL_due 2 = .ok (.iload_n 2, 1) := by decide +kernel
theorem dL_due_3 : decode cL_due 3 = .ok (.invokestatic 9, 3) := by decide +kernel
theorem dL_due_6 : decode cL_due 6 = .ok (.istore 4, 2) := by decide +kernel
theorem dL_due_8 : decode cL_due 8 = .ok (.iload 4, 2) := by decide +kernel
theorem dL_due_10 : decode cL_due 10 = .ok (.ifCond .lt 23, 3) := by decide +kernel
theorem dL_due_13 : decode cL_due 13 = .ok (.aload_n 1, 1) := by decide +kernel
theorem dL_due_14 : decode cL_due 14 = .ok (.iconst 3, 1) := by decide +kernel
theorem dL_due_15 : decode cL_due 15 = .ok (.iload 4, 2) := by decide +kernel
theorem dL_due_17 : decode cL_due 17 = .ok (.imul, 1) := by decide +kernel
theorem dL_due_18 : decode cL_due 18 = .ok (.iconst 1, 1) := by decide +kernel
theorem dL_due_19 : decode cL_due 19 = .ok (.iadd, 1) := by decide +kernel
theorem dL_due_20 : decode cL_due 20 = .ok (.iaload, 1) := by decide +kernel
theorem dL_due_21 : decode cL_due 21 = .ok (.iload_n 3, 1) := by decide +kernel
theorem dL_due_22 : decode cL_due 22 = .ok (.isub, 1) := by decide +kernel
theorem dL_due_23 : decode cL_due 23 = .ok (.aload_n 0, 1) := by decide +kernel
theorem dL_due_24 : decode cL_due 24 = .ok (.iconst 2, 1) := by decide +kernel
theorem dL_due_25 : decode cL_due 25 = .ok (.iaload, 1) := by decide +kernel
theorem dL_due_26 : decode cL_due 26 = .ok (.if_icmp .gt 7, 3) := by decide +kernel
theorem dL_due_29 : decode cL_due 29 = .ok (.iconst 1, 1) := by decide +kernel
theorem dL_due_30 : decode cL_due 30 = .ok (.goto 4, 3) := by decide +kernel
theorem dL_due_33 : decode cL_due 33 = .ok (.iconst 0, 1) := by decide +kernel
theorem dL_due_34 : decode cL_due 34 = .ok (.ireturn, 1) := by decide +kernel
set_option maxRecDepth 20000 in
theorem ggL_called_L_due : GoodIn wsL_called wsL_due := goodIn_sub (List.forall_mem_cons.mpr ⟨List.mem_of_getElem? (i := 4) rfl, List.forall_mem_cons.mpr ⟨List.mem_of_getElem? (i := 5) rfl, List.forall_mem_cons.mpr ⟨List.mem_of_getElem? (i := 6) rfl, List.forall_mem_cons.mpr ⟨List.mem_of_getElem? (i := 3) rfl, List.forall_mem_cons.mpr ⟨List.mem_of_getElem? (i := 7) rfl, wk_mn⟩⟩⟩⟩⟩) (by decide +kernel)
set_option maxRecDepth 20000 in
theorem gL_called_L_due : GoodIn wsL_called (va_wsS RL 15 yL_due wsL_due) := goodIn_app (goodIn_sub (List.forall_mem_cons.mpr ⟨List.mem_of_getElem? (i := 1) rfl, List.forall_mem_cons.mpr ⟨List.mem_of_getElem? (i := 2) rfl, List.forall_mem_cons.mpr ⟨List.mem_of_getElem? (i := 3) rfl, wk_mn⟩⟩⟩) (by decide +kernel)) ggL_called_L_due
theorem dL_called_0 : decode cL_called 0 = .ok (.aload_n 0, 1) := by decide +kernel
theorem dL_called_1 : decode cL_called 1 = .ok (.aload 4, 2) := by decide +kernel
theorem dL_called_3 : decode cL_called 3 = .ok (.iload 5, 2) := by decide +kernel
theorem dL_called_5 : decode cL_called 5 = .ok (.aload_n 2, 1) := by decide +kernel
theorem dL_called_6 : decode cL_called 6 = .ok (.bipush 8, 2) := by decide +kernel
theorem dL_called_8 : decode cL_called 8 = .ok (.iload 5, 2) := by decide +kernel
theorem dL_called_10 : decode cL_called 10 = .ok (.imul, 1) := by decide +kernel
theorem dL_called_11 : decode cL_called 11 = .ok (.iconst 4, 1) := by decide +kernel
theorem dL_called_12 : decode cL_called 12 = .ok (.iadd, 1) := by decide +kernel
theorem dL_called_13 : decode cL_called 13 = .ok (.iaload, 1) := by decide +kernel
theorem dL_called_14 : decode cL_called 14 = .ok (.iconst 1, 1) := by decide +kernel
theorem dL_called_15 : decode cL_called 15 = .ok (.if_icmp .ne 15, 3) := by decide +kernel
theorem dL_called_18 : decode cL_called 18 = .ok (.aload_n 1, 1) := by decide +kernel
theorem dL_called_19 : decode cL_called 19 = .ok (.bipush 8, 2) := by decide +kernel
theorem dL_called_21 : decode cL_called 21 = .ok (.iload 5, 2) := by decide +kernel
theorem dL_called_23 : decode cL_called 23 = .ok (.imul, 1) := by decide +kernel
theorem dL_called_24 : decode cL_called 24 = .ok (.iconst 2, 1) := by decide +kernel
theorem dL_called_25 : decode cL_called 25 = .ok (.iadd, 1) := by decide +kernel
theorem dL_called_26 : decode cL_called 26 = .ok (.iaload, 1) := by decide +kernel
theorem dL_called_27 : decode cL_called 27 = .ok (.goto 4, 3) := by decide +kernel
theorem dL_called_30 : decode cL_called 30 = .ok (.iconst 0, 1) := by decide +kernel
theorem dL_called_31 : decode cL_called 31 = .ok (.invokestatic 15, 3) := by decide +kernel
theorem dL_called_34 : decode cL_called 34 = .ok (.ifCond .eq 5, 3) := by decide +kernel
theorem dL_called_37 : decode cL_called 37 = .ok (.iconst 1, 1) := by decide +kernel
theorem dL_called_38 : decode cL_called 38 = .ok (.ireturn, 1) := by decide +kernel
theorem dL_called_39 : decode cL_called 39 = .ok (.aload_n 2, 1) := by decide +kernel
theorem dL_called_40 : decode cL_called 40 = .ok (.bipush 8, 2) := by decide +kernel
theorem dL_called_42 : decode cL_called 42 = .ok (.iload 5, 2) := by decide +kernel
theorem dL_called_44 : decode cL_called 44 = .ok (.imul, 1) := by decide +kernel
theorem dL_called_45 : decode cL_called 45 = .ok (.iconst 4, 1) := by decide +kernel
theorem dL_called_46 : decode cL_called 46 = .ok (.iadd, 1) := by decide +kernel
theorem dL_called_47 : decode cL_called 47 = .ok (.iaload, 1) := by decide +kernel
theorem dL_called_48 : decode cL_called 48 = .ok (.iconst 2, 1) := by decide +kernel
theorem dL_called_49 : decode cL_called 49 = .ok (.if_icmp .ne 66, 3) := by decide +kernel
theorem dL_called_52 : decode cL_called 52 = .ok (.aload_n 2, 1) := by decide +kernel
theorem dL_called_53 : decode cL_called 53 = .ok (.bipush 8, 2) := by decide +kernel
theorem dL_called_55 : decode cL_called 55 = .ok (.iload 5, 2) := by decide +kernel
theorem dL_called_57 : decode cL_called 57 = .ok (.imul, 1) := by decide +kernel
theorem dL_called_58 : decode cL_called 58 = .ok (.iconst 5, 1) := by decide +kernel
theorem dL_called_59 : decode cL_called 59 = .ok (.iadd, 1) := by decide +kernel
theorem dL_called_60 : decode cL_called 60 = .ok (.iaload, 1) := by decide +kernel
theorem dL_called_61 : decode cL_called 61 = .ok (.iconst 1, 1) := by decide +kernel
theorem dL_called_62 : decode cL_called 62 = .ok (.if_icmp .le 53, 3) := by decide +kernel
theorem dL_called_65 : decode cL_called 65 = .ok (.aload_n 2, 1) := by decide +kernel
theorem dL_called_66 : decode cL_called 66 = .ok (.bipush 8, 2) := by decide +kernel
theorem dL_called_68 : decode cL_called 68 = .ok (.iload 5, 2) := by decide +kernel
theorem dL_called_70 : decode cL_called 70 = .ok (.imul, 1) := by decide +kernel
theorem dL_called_71 : decode cL_called 71 = .ok (.iaload, 1) := by decide +kernel
theorem dL_called_72 : decode cL_called 72 = .ok (.iconst 3, 1) := by decide +kernel
theorem dL_called_73 : decode cL_called 73 = .ok (.if_icmp .eq 42, 3) := by decide +kernel
theorem dL_called_76 : decode cL_called 76 = .ok (.aload_n 0, 1) := by decide +kernel
theorem dL_called_77 : decode cL_called 77 = .ok (.iconst 2, 1) := by decide +kernel
theorem dL_called_78 : decode cL_called 78 = .ok (.iaload, 1) := by decide +kernel
theorem dL_called_79 : decode cL_called 79 = .ok (.aload_n 3, 1) := by decide +kernel
theorem dL_called_80 : decode cL_called 80 = .ok (.bipush 32, 2) := by decide +kernel
theorem dL_called_82 : decode cL_called 82 = .ok (.iconst 2, 1) := by decide +kernel
theorem dL_called_83 : decode cL_called 83 = .ok (.iload 5, 2) := by decide +kernel
theorem dL_called_85 : decode cL_called 85 = .ok (.imul, 1) := by decide +kernel
theorem dL_called_86 : decode cL_called 86 = .ok (.iadd, 1) := by decide +kernel
theorem dL_called_87 : decode cL_called 87 = .ok (.iaload, 1) := by decide +kernel
theorem dL_called_88 : decode cL_called 88 = .ok (.aload_n 3, 1) := by decide +kernel
theorem dL_called_89 : decode cL_called 89 = .ok (.bipush 33, 2) := by decide +kernel
theorem dL_called_91 : decode cL_called 91 = .ok (.iconst 2, 1) := by decide +kernel
theorem dL_called_92 : decode cL_called 92 = .ok (.iload 5, 2) := by decide +kernel
theorem dL_called_94 : decode cL_called 94 = .ok (.imul, 1) := by decide +kernel
theorem dL_called_95 : decode cL_called 95 = .ok (.iadd, 1) := by decide +kernel
theorem dL_called_96 : decode cL_called 96 = .ok (.iaload, 1) := by decide +kernel
theorem dL_called_97 : decode cL_called 97 = .ok (.iadd, 1) := by decide +kernel
theorem dL_called_98 : decode cL_called 98 = .ok (.aload_n 1, 1) := by decide +kernel
theorem dL_called_99 : decode cL_called 99 = .ok (.bipush 8, 2) := by decide +kernel
theorem dL_called_101 : decode cL_called 101 = .ok (.iload 5, 2) := by decide +kernel
theorem dL_called_103 : decode cL_called 103 = .ok (.imul, 1) := by decide +kernel
theorem dL_called_104 : decode cL_called 104 = .ok (.iconst 2, 1) := by decide +kernel
theorem dL_called_105 : decode cL_called 105 = .ok (.iadd, 1) := by decide +kernel
theorem dL_called_106 : decode cL_called 106 = .ok (.iaload, 1) := by decide +kernel
theorem dL_called_107 : decode cL_called 107 = .ok (.isub, 1) := by decide +kernel
theorem dL_called_108 : decode cL_called 108 = .ok (.if_icmp .ne 7, 3) := by decide +kernel
theorem dL_called_111 : decode cL_called 111 = .ok (.iconst 1, 1) := by decide +kernel
theorem dL_called_112 : decode cL_called 112 = .ok (.goto 4, 3) := by decide +kernel
theorem dL_called_115 : decode cL_called 115 = .ok (.iconst 0, 1) := by decide +kernel
theorem dL_called_116 : decode cL_called 116 = .ok (.ireturn, 1) := by decide +kernel
theorem dL_ready_0 : decode cL_ready 0 = .ok (.aload_n 0, 1) := by decide +kernel
theorem dL_ready_1 : decode cL_ready 1 = .ok (.bipush 8, 2) := by decide +kernel
theorem dL_ready_3 : decode cL_ready 3 = .ok (.iload_n 2, 1) := by decide +kernel
theorem dL_ready_4 : decode cL_ready 4 = .ok (.imul, 1) := by decide +kernel
theorem dL_ready_5 : decode cL_ready 5 = .ok (.bipush 6, 2) := by decide +kernel
theorem dL_ready_7 : decode cL_ready 7 = .ok (.iadd, 1) := by decide +kernel
theorem dL_ready_8 : decode cL_ready 8 = .ok (.iaload, 1) := by decide +kernel
theorem dL_ready_9 : decode cL_ready 9 = .ok (.ifCond .lt 21, 3) := by decide +kernel
theorem dL_ready_12 : decode cL_ready 12 = .ok (.aload_n 1, 1) := by decide +kernel
theorem dL_ready_13 : decode cL_ready 13 = .ok (.bipush 8, 2) := by decide +kernel
theorem dL_ready_15 : decode cL_ready 15 = .ok (.aload_n 0, 1) := by decide +kernel
theorem dL_ready_16 : decode cL_ready 16 = .ok (.bipush 8, 2) := by decide +kernel
theorem dL_ready_18 : decode cL_ready 18 = .ok (.iload_n 2, 1) := by decide +kernel
theorem dL_ready_19 : decode cL_ready 19 = .ok (.imul, 1) := by decide +kernel
theorem dL_ready_20 : decode cL_ready 20 = .ok (.bipush 6, 2) := by decide +kernel
theorem dL_ready_22 : decode cL_ready 22 = .ok (.iadd, 1) := by decide +kernel
theorem dL_ready_23 : decode cL_ready 23 = .ok (.iaload, 1) := by decide +kernel
theorem dL_ready_24 : decode cL_ready 24 = .ok (.imul, 1) := by decide +kernel
theorem dL_ready_25 : decode cL_ready 25 = .ok (.iaload, 1) := by decide +kernel
theorem dL_ready_26 : decode cL_ready 26 = .ok (.iconst 1, 1) := by decide +kernel
theorem dL_ready_27 : decode cL_ready 27 = .ok (.if_icmp .le 7, 3) := by decide +kernel
theorem dL_ready_30 : decode cL_ready 30 = .ok (.iconst 1, 1) := by decide +kernel
theorem dL_ready_31 : decode cL_ready 31 = .ok (.goto 4, 3) := by decide +kernel
theorem dL_ready_34 : decode cL_ready 34 = .ok (.iconst 0, 1) := by decide +kernel
theorem dL_ready_35 : decode cL_ready 35 = .ok (.ireturn, 1) := by decide +kernel
set_option maxRecDepth 20000 in
theorem ggL_can_L_ready : GoodIn wsL_can wsL_ready := goodIn_sub (List.forall_mem_cons.mpr ⟨List.mem_of_getElem? (i := 4) rfl, wk_mn⟩) (by decide +kernel)
set_option maxRecDepth 20000 in
theorem gL_can_L_ready : GoodIn wsL_can (va_wsS RL 19 yL_ready wsL_ready) := goodIn_app (goodIn_sub (List.forall_mem_cons.mpr ⟨List.mem_of_getElem? (i := 1) rfl, List.forall_mem_cons.mpr ⟨List.mem_of_getElem? (i := 2) rfl, List.forall_mem_cons.mpr ⟨List.mem_of_getElem? (i := 3) rfl, wk_mn⟩⟩⟩) (by decide +kernel)) ggL_can_L_ready
theorem dL_can_0 : decode cL_can 0 = .ok (.iconst 0, 1) := by decide +kernel
theorem dL_can_1 : decode cL_can 1 = .ok (.istore 4, 2) := by decide +kernel
theorem dL_can_3 : decode cL_can 3 = .ok (.aload_n 1, 1) := by decide +kernel
theorem dL_can_4 : decode cL_can 4 = .ok (.bipush 8, 2) := by decide +kernel
theorem dL_can_6 : decode cL_can 6 = .ok (.iload_n 3, 1) := by decide +kernel
theorem dL_can_7 : decode cL_can 7 = .ok (.imul, 1) := by decide +kernel
theorem dL_can_8 : decode cL_can 8 = .ok (.bipush 7, 2) := by decide +kernel
theorem dL_can_10 : decode cL_can 10 = .ok (.iadd, 1) := by decide +kernel
theorem dL_can_11 : decode cL_can 11 = .ok (.iaload, 1) := by decide +kernel
theorem dL_can_12 : decode cL_can 12 = .ok (.istore 5, 2) := by decide +kernel
theorem dL_can_14 : decode cL_can 14 = .ok (.iconst 0, 1) := by decide +kernel
theorem dL_can_15 : decode cL_can 15 = .ok (.istore 6, 2) := by decide +kernel
theorem dL_can_17 : decode cL_can 17 = .ok (.iload 6, 2) := by decide +kernel
theorem dL_can_19 : decode cL_can 19 = .ok (.aload_n 0, 1) := by decide +kernel
theorem dL_can_20 : decode cL_can 20 = .ok (.iconst 0, 1) := by decide +kernel
theorem dL_can_21 : decode cL_can 21 = .ok (.iaload, 1) := by decide +kernel
theorem dL_can_22 : decode cL_can 22 = .ok (.if_icmp .ge 45, 3) := by decide +kernel
theorem dL_can_25 : decode cL_can 25 = .ok (.iload 4, 2) := by decide +kernel
theorem dL_can_27 : decode cL_can 27 = .ok (.aload_n 1, 1) := by decide +kernel
theorem dL_can_28 : decode cL_can 28 = .ok (.bipush 8, 2) := by decide +kernel
theorem dL_can_30 : decode cL_can 30 = .ok (.iload 6, 2) := by decide +kernel
theorem dL_can_32 : decode cL_can 32 = .ok (.imul, 1) := by decide +kernel
theorem dL_can_33 : decode cL_can 33 = .ok (.bipush 7, 2) := by decide +kernel
theorem dL_can_35 : decode cL_can 35 = .ok (.iadd, 1) := by decide +kernel
theorem dL_can_36 : decode cL_can 36 = .ok (.iaload, 1) := by decide +kernel
theorem dL_can_37 : decode cL_can 37 = .ok (.iload 5, 2) := by decide +kernel
theorem dL_can_39 : decode cL_can 39 = .ok (.if_icmp .ne 18, 3) := by decide +kernel
theorem dL_can_42 : decode cL_can 42 = .ok (.aload_n 2, 1) := by decide +kernel
theorem dL_can_43 : decode cL_can 43 = .ok (.bipush 8, 2) := by decide +kernel
theorem dL_can_45 : decode cL_can 45 = .ok (.iload 6, 2) := by decide +kernel
theorem dL_can_47 : decode cL_can 47 = .ok (.imul, 1) := by decide +kernel
theorem dL_can_48 : decode cL_can 48 = .ok (.iaload, 1) := by decide +kernel
theorem dL_can_49 : decode cL_can 49 = .ok (.iconst 1, 1) := by decide +kernel
theorem dL_can_50 : decode cL_can 50 = .ok (.if_icmp .ne 7, 3) := by decide +kernel
theorem dL_can_53 : decode cL_can 53 = .ok (.iconst 1, 1) := by decide +kernel
theorem dL_can_54 : decode cL_can 54 = .ok (.goto 4, 3) := by decide +kernel
theorem dL_can_57 : decode cL_can 57 = .ok (.iconst 0, 1) := by decide +kernel
theorem dL_can_58 : decode cL_can 58 = .ok (.iadd, 1) := by decide +kernel
theorem dL_can_59 : decode cL_can 59 = .ok (.istore 4, 2) := by decide +kernel
theorem dL_can_61 : decode cL_can 61 = .ok (.iinc 6 1, 3) := by decide +kernel
theorem dL_can_64 : decode cL_can 64 = .ok (.goto (-47), 3) := by decide +kernel
theorem dL_can_67 : decode cL_can 67 = .ok (.aload_n 2, 1) := by decide +kernel
theorem dL_can_68 : decode cL_can 68 = .ok (.bipush 8, 2) := by decide +kernel
theorem dL_can_70 : decode cL_can 70 = .ok (.iload_n 3, 1) := by decide +kernel
theorem dL_can_71 : decode cL_can 71 = .ok (.imul, 1) := by decide +kernel
theorem dL_can_72 : decode cL_can 72 = .ok (.iaload, 1) := by decide +kernel
theorem dL_can_73 : decode cL_can 73 = .ok (.ifCond .ne 32, 3) := by decide +kernel
theorem dL_can_76 : decode cL_can 76 = .ok (.aload_n 1, 1) := by decide +kernel
theorem dL_can_77 : decode cL_can 77 = .ok (.aload_n 2, 1) := by decide +kernel
theorem dL_can_78 : decode cL_can 78 = .ok (.iload_n 3, 1) := by decide +kernel
theorem dL_can_79 : decode cL_can 79 = .ok (.invokestatic 19, 3) := by decide +kernel
theorem dL_can_82 : decode cL_can 82 = .ok (.ifCond .eq 23, 3) := by decide +kernel
theorem dL_can_85 : decode cL_can 85 = .ok (.iload 5, 2) := by decide +kernel
theorem dL_can_87 : decode cL_can 87 = .ok (.ifCond .lt 18, 3) := by decide +kernel
theorem dL_can_90 : decode cL_can 90 = .ok (.iload 4, 2) := by decide +kernel
theorem dL_can_92 : decode cL_can 92 = .ok (.aload_n 0, 1) := by decide +kernel
theorem dL_can_93 : decode cL_can 93 = .ok (.iconst 3, 1) := by decide +kernel
theorem dL_can_94 : decode cL_can 94 = .ok (.iload 5, 2) := by decide +kernel
theorem dL_can_96 : decode cL_can 96 = .ok (.iadd, 1) := by decide +kernel
theorem dL_can_97 : decode cL_can 97 = .ok (.iaload, 1) := by decide +kernel
theorem dL_can_98 : decode cL_can 98 = .ok (.if_icmp .ge 7, 3) := by decide +kernel
theorem dL_can_101 : decode cL_can 101 = .ok (.iconst 1, 1) := by decide +kernel
theorem dL_can_102 : decode cL_can 102 = .ok (.goto 4, 3) := by decide +kernel
theorem dL_can_105 : decode cL_can 105 = .ok (.iconst 0, 1) := by decide +kernel
theorem dL_can_106 : decode cL_can 106 = .ok (.ireturn, 1) := by decide +kernel
theorem dL_wake_0 : decode cL_wake 0 = .ok (.aload_n 1, 1) := by decide +kernel
theorem dL_wake_1 : decode cL_wake 1 = .ok (.bipush 8, 2) := by decide +kernel
theorem dL_wake_3 : decode cL_wake 3 = .ok (.iload_n 3, 1) := by decide +kernel
theorem dL_wake_4 : decode cL_wake 4 = .ok (.imul, 1) := by decide +kernel
theorem dL_wake_5 : decode cL_wake 5 = .ok (.iconst 1, 1) := by decide +kernel
theorem dL_wake_6 : decode cL_wake 6 = .ok (.iastore, 1) := by decide +kernel
theorem dL_wake_7 : decode cL_wake 7 = .ok (.aload_n 1, 1) := by decide +kernel
theorem dL_wake_8 : decode cL_wake 8 = .ok (.bipush 8, 2) := by decide +kernel
theorem dL_wake_10 : decode cL_wake 10 = .ok (.iload_n 3, 1) := by decide +kernel
theorem dL_wake_11 : decode cL_wake 11 = .ok (.imul, 1) := by decide +kernel
theorem dL_wake_12 : decode cL_wake 12 = .ok (.iconst 1, 1) := by decide +kernel
theorem dL_wake_13 : decode cL_wake 13 = .ok (.iadd, 1) := by decide +kernel
theorem dL_wake_14 : decode cL_wake 14 = .ok (.aload_n 0, 1) := by decide +kernel
theorem dL_wake_15 : decode cL_wake 15 = .ok (.bipush 8, 2) := by decide +kernel
theorem dL_wake_17 : decode cL_wake 17 = .ok (.iload_n 3, 1) := by decide +kernel
theorem dL_wake_18 : decode cL_wake 18 = .ok (.imul, 1) := by decide +kernel
theorem dL_wake_19 : decode cL_wake 19 = .ok (.iconst 2, 1) := by decide +kernel
theorem dL_wake_20 : decode cL_wake 20 = .ok (.iadd, 1) := by decide +kernel
theorem dL_wake_21 : decode cL_wake 21 = .ok (.iaload, 1) := by decide +kernel
theorem dL_wake_22 : decode cL_wake 22 = .ok (.iastore, 1) := by decide +kernel
theorem dL_wake_23 : decode cL_wake 23 = .ok (.aload_n 1, 1) := by decide +kernel
theorem dL_wake_24 : decode cL_wake 24 = .ok (.bipush 8, 2) := by decide +kernel
theorem dL_wake_26 : decode cL_wake 26 = .ok (.iload_n 3, 1) := by decide +kernel
theorem dL_wake_27 : decode cL_wake 27 = .ok (.imul, 1) := by decide +kernel
theorem dL_wake_28 : decode cL_wake 28 = .ok (.bipush 7, 2) := by decide +kernel
theorem dL_wake_30 : decode cL_wake 30 = .ok (.iadd, 1) := by decide +kernel
theorem dL_wake_31 : decode cL_wake 31 = .ok (.dup2, 1) := by decide +kernel
theorem dL_wake_32 : decode cL_wake 32 = .ok (.iaload, 1) := by decide +kernel
theorem dL_wake_33 : decode cL_wake 33 = .ok (.iconst 1, 1) := by decide +kernel
theorem dL_wake_34 : decode cL_wake 34 = .ok (.iadd, 1) := by decide +kernel
theorem dL_wake_35 : decode cL_wake 35 = .ok (.iastore, 1) := by decide +kernel
theorem dL_wake_36 : decode cL_wake 36 = .ok (.aload_n 2, 1) := by decide +kernel
theorem dL_wake_37 : decode cL_wake 37 = .ok (.iconst 4, 1) := by decide +kernel
theorem dL_wake_38 : decode cL_wake 38 = .ok (.iload_n 3, 1) := by decide +kernel
theorem dL_wake_39 : decode cL_wake 39 = .ok (.imul, 1) := by decide +kernel
theorem dL_wake_40 : decode cL_wake 40 = .ok (.dup2, 1) := by decide +kernel
theorem dL_wake_41 : decode cL_wake 41 = .ok (.iaload, 1) := by decide +kernel
theorem dL_wake_42 : decode cL_wake 42 = .ok (.aload_n 0, 1) := by decide +kernel
theorem dL_wake_43 : decode cL_wake 43 = .ok (.bipush 8, 2) := by decide +kernel
theorem dL_wake_45 : decode cL_wake 45 = .ok (.iload_n 3, 1) := by decide +kernel
theorem dL_wake_46 : decode cL_wake 46 = .ok (.imul, 1) := by decide +kernel
theorem dL_wake_47 : decode cL_wake 47 = .ok (.iconst 1, 1) := by decide +kernel
theorem dL_wake_48 : decode cL_wake 48 = .ok (.iadd, 1) := by decide +kernel
theorem dL_wake_49 : decode cL_wake 49 = .ok (.iaload, 1) := by decide +kernel
theorem dL_wake_50 : decode cL_wake 50 = .ok (.iadd, 1) := by decide +kernel
theorem dL_wake_51 : decode cL_wake 51 = .ok (.iastore, 1) := by decide +kernel
theorem dL_wake_52 : decode cL_wake 52 = .ok (.return_, 1) := by decide +kernel
theorem dL_drop_0 : decode cL_drop 0 = .ok (.aload_n 0, 1) := by decide +kernel
theorem dL_drop_1 : decode cL_drop 1 = .ok (.iconst 1, 1) := by decide +kernel
theorem dL_drop_2 : decode cL_drop 2 = .ok (.dup2, 1) := by decide +kernel
theorem dL_drop_3 : decode cL_drop 3 = .ok (.iaload, 1) := by decide +kernel
theorem dL_drop_4 : decode cL_drop 4 = .ok (.iconst 1, 1) := by decide +kernel
theorem dL_drop_5 : decode cL_drop 5 = .ok (.isub, 1) := by decide +kernel
theorem dL_drop_6 : decode cL_drop 6 = .ok (.iastore, 1) := by decide +kernel
theorem dL_drop_7 : decode cL_drop 7 = .ok (.iconst 3, 1) := by decide +kernel
theorem dL_drop_8 : decode cL_drop 8 = .ok (.iload_n 2, 1) := by decide +kernel
theorem dL_drop_9 : decode cL_drop 9 = .ok (.imul, 1) := by decide +kernel
theorem dL_drop_10 : decode cL_drop 10 = .ok (.istore_n 3, 1) := by decide +kernel
theorem dL_drop_11 : decode cL_drop 11 = .ok (.iload_n 3, 1) := by decide +kernel
theorem dL_drop_12 : decode cL_drop 12 = .ok (.iconst 3, 1) := by decide +kernel
theorem dL_drop_13 : decode cL_drop 13 = .ok (.aload_n 0, 1) := by decide +kernel
theorem dL_drop_14 : decode cL_drop 14 = .ok (.iconst 1, 1) := by decide +kernel
theorem dL_drop_15 : decode cL_drop 15 = .ok (.iaload, 1) := by decide +kernel
theorem dL_drop_16 : decode cL_drop 16 = .ok (.imul, 1) := by decide +kernel
theorem dL_drop_17 : decode cL_drop 17 = .ok (.if_icmp .ge 17, 3) := by decide +kernel
theorem dL_drop_20 : decode cL_drop 20 = .ok (.aload_n 1, 1) := by decide +kernel
theorem dL_drop_21 : decode cL_drop 21 = .ok (.iload_n 3, 1) := by decide +kernel
theorem dL_drop_22 : decode cL_drop 22 = .ok (.aload_n 1, 1) := by decide +kernel
theorem dL_drop_23 : decode cL_drop 23 = .ok (.iload_n 3, 1) := by decide +kernel
theorem dL_drop_24 : decode cL_drop 24 = .ok (.iconst 3, 1) := by decide +kernel
theorem dL_drop_25 : decode cL_drop 25 = .ok (.iadd, 1) := by decide +kernel
theorem dL_drop_26 : decode cL_drop 26 = .ok (.iaload, 1) := by decide +kernel
theorem dL_drop_27 : decode cL_drop 27 = .ok (.iastore, 1) := by decide +kernel
theorem dL_drop_28 : decode cL_drop 28 = .ok (.iinc 3 1, 3) := by decide +kernel
theorem dL_drop_31 : decode cL_drop 31 = .ok (.goto (-20), 3) := by decide +kernel
theorem dL_drop_34 : decode cL_drop 34 = .ok (.return_, 1) := by decide +kernel
theorem dL_needed_0 : decode cL_needed 0 = .ok (.iconst 0, 1) := by decide +kernel
theorem dL_needed_1 : decode cL_needed 1 = .ok (.istore 4, 2) := by decide +kernel
theorem dL_needed_3 : decode cL_needed 3 = .ok (.iload_n 3, 1) := by decide +kernel
theorem dL_needed_4 : decode cL_needed 4 = .ok (.iconst 1, 1) := by decide +kernel
theorem dL_needed_5 : decode cL_needed 5 = .ok (.iadd, 1) := by decide +kernel
theorem dL_needed_6 : decode cL_needed 6 = .ok (.istore 5, 2) := by decide +kernel
theorem dL_needed_8 : decode cL_needed 8 = .ok (.iload 5, 2) := by decide +kernel
theorem dL_needed_10 : decode cL_needed 10 = .ok (.aload_n 0, 1) := by decide +kernel
theorem dL_needed_11 : decode cL_needed 11 = .ok (.iconst 0, 1) := by decide +kernel
theorem dL_needed_12 : decode cL_needed 12 = .ok (.iaload, 1) := by decide +kernel
theorem dL_needed_13 : decode cL_needed 13 = .ok (.if_icmp .ge 45, 3) := by decide +kernel
theorem dL_needed_16 : decode cL_needed 16 = .ok (.iload 4, 2) := by decide +kernel
theorem dL_needed_18 : decode cL_needed 18 = .ok (.ifCond .ne 27, 3) := by decide +kernel
theorem dL_needed_21 : decode cL_needed 21 = .ok (.aload_n 1, 1) := by decide +kernel
theorem dL_needed_22 : decode cL_needed 22 = .ok (.bipush 8, 2) := by decide +kernel
theorem dL_needed_24 : decode cL_needed 24 = .ok (.iload 5, 2) := by decide +kernel
theorem dL_needed_26 : decode cL_needed 26 = .ok (.imul, 1) := by decide +kernel
theorem dL_needed_27 : decode cL_needed 27 = .ok (.bipush 6, 2) := by decide +kernel
theorem dL_needed_29 : decode cL_needed 29 = .ok (.iadd, 1) := by decide +kernel
theorem dL_needed_30 : decode cL_needed 30 = .ok (.iaload, 1) := by decide +kernel
theorem dL_needed_31 : decode cL_needed 31 = .ok (.iload_n 3, 1) := by decide +kernel
theorem dL_needed_32 : decode cL_needed 32 = .ok (.if_icmp .ne 17, 3) := by decide +kernel
theorem dL_needed_35 : decode cL_needed 35 = .ok (.aload_n 2, 1) := by decide +kernel
theorem dL_needed_36 : decode cL_needed 36 = .ok (.bipush 8, 2) := by decide +kernel
theorem dL_needed_38 : decode cL_needed 38 = .ok (.iload 5, 2) := by decide +kernel
theorem dL_needed_40 : decode cL_needed 40 = .ok (.imul, 1) := by decide +kernel
theorem dL_needed_41 : decode cL_needed 41 = .ok (.iaload, 1) := by decide +kernel
theorem dL_needed_42 : decode cL_needed 42 = .ok (.ifCond .le 7, 3) := by decide +kernel
theorem dL_needed_45 : decode cL_needed 45 = .ok (.iconst 1, 1) := by decide +kernel
theorem dL_needed_46 : decode cL_needed 46 = .ok (.goto 4, 3) := by decide +kernel
theorem dL_needed_49 : decode cL_needed 49 = .ok (.iconst 0, 1) := by decide +kernel
theorem dL_needed_50 : decode cL_needed 50 = .ok (.istore 4, 2) := by decide +kernel
theorem dL_needed_52 : decode cL_needed 52 = .ok (.iinc 5 1, 3) := by decide +kernel
theorem dL_needed_55 : decode cL_needed 55 = .ok (.goto (-47), 3) := by decide +kernel
theorem dL_needed_58 : decode cL_needed 58 = .ok (.iload 4, 2) := by decide +kernel
theorem dL_needed_60 : decode cL_needed 60 = .ok (.ireturn, 1) := by decide +kernel
set_option maxRecDepth 20000 in
theorem ggL_tick_L_called : GoodIn wsL_tick wsL_called := goodIn_sub (List.forall_mem_cons.mpr ⟨List.mem_of_getElem? (i := 5) rfl, List.forall_mem_cons.mpr ⟨List.mem_of_getElem? (i := 6) rfl, List.forall_mem_cons.mpr ⟨List.mem_of_getElem? (i := 7) rfl, List.forall_mem_cons.mpr ⟨List.mem_of_getElem? (i := 4) rfl, List.forall_mem_cons.mpr ⟨List.mem_of_getElem? (i := 8) rfl, List.forall_mem_cons.mpr ⟨List.mem_of_getElem? (i := 9) rfl, List.forall_mem_cons.mpr ⟨List.mem_of_getElem? (i := 10) rfl, List.forall_mem_cons.mpr ⟨List.mem_of_getElem? (i := 11) rfl, wk_mn⟩⟩⟩⟩⟩⟩⟩⟩) (by decide +kernel)
set_option maxRecDepth 20000 in
theorem gL_tick_L_called : GoodIn wsL_tick (va_wsS RL 23 yL_called wsL_called) := goodIn_app (goodIn_sub (List.forall_mem_cons.mpr ⟨List.mem_of_getElem? (i := 2) rfl, List.forall_mem_cons.mpr ⟨List.mem_of_getElem? (i := 3) rfl, List.forall_mem_cons.mpr ⟨List.mem_of_getElem? (i := 4) rfl, wk_mn⟩⟩⟩) (by decide +kernel)) ggL_tick_L_called
set_option maxRecDepth 20000 in
theorem ggL_tick_L_can : GoodIn wsL_tick wsL_can := goodIn_sub (List.forall_mem_cons.mpr ⟨List.mem_of_getElem? (i := 14) rfl, List.forall_mem_cons.mpr ⟨List.mem_of_getElem? (i := 15) rfl, List.forall_mem_cons.mpr ⟨List.mem_of_getElem? (i := 16) rfl, List.forall_mem_cons.mpr ⟨List.mem_of_getElem? (i := 4) rfl, List.forall_mem_cons.mpr ⟨List.mem_of_getElem? (i := 17) rfl, wk_mn⟩⟩⟩⟩⟩) (by decide +kernel)
set_option maxRecDepth 20000 in
theorem gL_tick_L_can : GoodIn wsL_tick (va_wsS RL 27 yL_can wsL_can) := goodIn_app (goodIn_sub (List.forall_mem_cons.mpr ⟨List.mem_of_getElem? (i := 12) rfl, List.forall_mem_cons.mpr ⟨List.mem_of_getElem? (i := 13) rfl, List.forall_mem_cons.mpr ⟨List.mem_of_getElem? (i := 4) rfl, wk_mn⟩⟩⟩) (by decide +kernel)) ggL_tick_L_can
set_option maxRecDepth 20000 in
theorem ggL_tick_L_wake : GoodIn wsL_tick wsL_wake := goodIn_sub (List.forall_mem_cons.mpr ⟨List.mem_of_getElem? (i := 20) rfl, wk_mn⟩) (by decide +kernel)
set_option maxRecDepth 20000 in
theorem gL_tick_L_wake : GoodIn wsL_tick (va_wsS RL 31 yL_wake wsL_wake) := goodIn_app (goodIn_sub (List.forall_mem_cons.mpr ⟨List.mem_of_getElem? (i := 18) rfl, List.forall_mem_cons.mpr ⟨List.mem_of_getElem? (i := 19) rfl, List.forall_mem_cons.mpr ⟨List.mem_of_getElem? (i := 4) rfl, wk_mn⟩⟩⟩) (by decide +kernel)) ggL_tick_L_wake
set_option maxRecDepth 20000 in
theorem ggL_tick_L_ready : GoodIn wsL_tick wsL_ready := goodIn_sub (List.forall_mem_cons.mpr ⟨List.mem_of_getElem? (i := 17) rfl, wk_mn⟩) (by decide +kernel)
set_option maxRecDepth 20000 in
theorem gL_tick_L_ready : GoodIn wsL_tick (va_wsS RL 19 yL_ready wsL_ready) := goodIn_app (goodIn_sub (List.forall_mem_cons.mpr ⟨List.mem_of_getElem? (i := 15) rfl, List.forall_mem_cons.mpr ⟨List.mem_of_getElem? (i := 16) rfl, List.forall_mem_cons.mpr ⟨List.mem_of_getElem? (i := 4) rfl, wk_mn⟩⟩⟩) (by decide +kernel)) ggL_tick_L_ready
set_option maxRecDepth 20000 in
theorem ggL_tick_L_due : GoodIn wsL_tick wsL_due := goodIn_sub (List.forall_mem_cons.mpr ⟨List.mem_of_getElem? (i := 8) rfl, List.forall_mem_cons.mpr ⟨List.mem_of_getElem? (i := 9) rfl, List.forall_mem_cons.mpr ⟨List.mem_of_getElem? (i := 10) rfl, List.forall_mem_cons.mpr ⟨List.mem_of_getElem? (i := 4) rfl, List.forall_mem_cons.mpr ⟨List.mem_of_getElem? (i := 11) rfl, wk_mn⟩⟩⟩⟩⟩) (by decide +kernel)
set_option maxRecDepth 20000 in
theorem gL_tick_L_due : GoodIn wsL_tick (va_wsS RL 15 yL_due wsL_due) := goodIn_app (goodIn_sub (List.forall_mem_cons.mpr ⟨List.mem_of_getElem? (i := 6) rfl, List.forall_mem_cons.mpr ⟨List.mem_of_getElem? (i := 7) rfl, List.forall_mem_cons.mpr ⟨List.mem_of_getElem? (i := 4) rfl, wk_mn⟩⟩⟩) (by decide +kernel)) ggL_tick_L_due
set_option maxRecDepth 20000 in
theorem ggL_tick_L_first : GoodIn wsL_tick wsL_first := goodIn_sub (List.forall_mem_cons.mpr ⟨List.mem_of_getElem? (i := 11) rfl, wk_mn⟩) (by decide +kernel)
set_option maxRecDepth 20000 in
theorem gL_tick_L_first : GoodIn wsL_tick (va_wsS RL 9 yL_first wsL_first) := goodIn_app (goodIn_sub (List.forall_mem_cons.mpr ⟨List.mem_of_getElem? (i := 9) rfl, List.forall_mem_cons.mpr ⟨List.mem_of_getElem? (i := 10) rfl, List.forall_mem_cons.mpr ⟨List.mem_of_getElem? (i := 4) rfl, wk_mn⟩⟩⟩) (by decide +kernel)) ggL_tick_L_first
set_option maxRecDepth 20000 in
theorem ggL_tick_L_drop : GoodIn wsL_tick wsL_drop := goodIn_sub (List.forall_mem_cons.mpr ⟨List.mem_of_getElem? (i := 23) rfl, wk_mn⟩) (by decide +kernel)
set_option maxRecDepth 20000 in
theorem gL_tick_L_drop : GoodIn wsL_tick (va_wsS RL 37 yL_drop wsL_drop) := goodIn_app (goodIn_sub (List.forall_mem_cons.mpr ⟨List.mem_of_getElem? (i := 21) rfl, List.forall_mem_cons.mpr ⟨List.mem_of_getElem? (i := 22) rfl, List.forall_mem_cons.mpr ⟨List.mem_of_getElem? (i := 4) rfl, wk_mn⟩⟩⟩) (by decide +kernel)) ggL_tick_L_drop
set_option maxRecDepth 20000 in
theorem ggL_tick_L_needed : GoodIn wsL_tick wsL_needed := goodIn_sub (List.forall_mem_cons.mpr ⟨List.mem_of_getElem? (i := 26) rfl, wk_mn⟩) (by decide +kernel)
set_option maxRecDepth 20000 in
theorem gL_tick_L_needed : GoodIn wsL_tick (va_wsS RL 41 yL_needed wsL_needed) := goodIn_app (goodIn_sub (List.forall_mem_cons.mpr ⟨List.mem_of_getElem? (i := 24) rfl, List.forall_mem_cons.mpr ⟨List.mem_of_getElem? (i := 25) rfl, List.forall_mem_cons.mpr ⟨List.mem_of_getElem? (i := 4) rfl, wk_mn⟩⟩⟩) (by decide +kernel)) ggL_tick_L_needed
theorem dL_tick_0 : decode cL_tick 0 = .ok (.lconst 0, 1) := by decide +kernel
theorem dL_tick_1 : decode cL_tick 1 = .ok (.lstore 5, 2) := by decide +kernel
theorem dL_tick_3 : decode cL_tick 3 = .ok (.iconst 0, 1) := by decide +kernel
theorem dL_tick_4 : decode cL_tick 4 = .ok (.istore 7, 2) := by decide +kernel
theorem dL_tick_6 : decode cL_tick 6 = .ok (.iload 7, 2) := by decide +kernel
theorem dL_tick_8 : decode cL_tick 8 = .ok (.aload_n 0, 1) := by decide +kernel
theorem dL_tick_9 : decode cL_tick 9 = .ok (.iconst 0, 1) := by decide +kernel
theorem dL_tick_10 : decode cL_tick 10 = .ok (.iaload, 1) := by decide +kernel
theorem dL_tick_11 : decode cL_tick 11 = .ok (.if_icmp .ge 258, 3) := by decide +kernel
theorem dL_tick_14 : decode cL_tick 14 = .ok (.iload 7, 2) := by decide +kernel
theorem dL_tick_16 : decode cL_tick 16 = .ok (.istore 8, 2) := by decide +kernel
theorem dL_tick_18 : decode cL_tick 18 = .ok (.aload_n 0, 1) := by decide +kernel
theorem dL_tick_19 : decode cL_tick 19 = .ok (.aload_n 1, 1) := by decide +kernel
theorem dL_tick_20 : decode cL_tick 20 = .ok (.aload_n 2, 1) := by decide +kernel
theorem dL_tick_21 : decode cL_tick 21 = .ok (.aload_n 3, 1) := by decide +kernel
theorem dL_tick_22 : decode cL_tick 22 = .ok (.aload 4, 2) := by decide +kernel
theorem dL_tick_24 : decode cL_tick 24 = .ok (.iload 7, 2) := by decide +kernel
theorem dL_tick_26 : decode cL_tick 26 = .ok (.invokestatic 23, 3) := by decide +kernel
theorem dL_tick_29 : decode cL_tick 29 = .ok (.ifCond .eq 66, 3) := by decide +kernel
theorem dL_tick_32 : decode cL_tick 32 = .ok (.iload 8, 2) := by decide +kernel
theorem dL_tick_34 : decode cL_tick 34 = .ok (.ifCond .lt 61, 3) := by decide +kernel
theorem dL_tick_37 : decode cL_tick 37 = .ok (.aload_n 2, 1) := by decide +kernel
theorem dL_tick_38 : decode cL_tick 38 = .ok (.bipush 8, 2) := by decide +kernel
theorem dL_tick_40 : decode cL_tick 40 = .ok (.iload 8, 2) := by decide +kernel
theorem dL_tick_42 : decode cL_tick 42 = .ok (.imul, 1) := by decide +kernel
theorem dL_tick_43 : decode cL_tick 43 = .ok (.iaload, 1) := by decide +kernel
theorem dL_tick_44 : decode cL_tick 44 = .ok (.ifCond .ne 51, 3) := by decide +kernel
theorem dL_tick_47 : decode cL_tick 47 = .ok (.aload_n 0, 1) := by decide +kernel
theorem dL_tick_48 : decode cL_tick 48 = .ok (.aload_n 1, 1) := by decide +kernel
theorem dL_tick_49 : decode cL_tick 49 = .ok (.aload_n 2, 1) := by decide +kernel
theorem dL_tick_50 : decode cL_tick 50 = .ok (.iload 8, 2) := by decide +kernel
theorem dL_tick_52 : decode cL_tick 52 = .ok (.invokestatic 27, 3) := by decide +kernel
theorem dL_tick_55 : decode cL_tick 55 = .ok (.ifCond .eq 11, 3) := by decide +kernel
theorem dL_tick_58 : decode cL_tick 58 = .ok (.aload_n 1, 1) := by decide +kernel
theorem dL_tick_59 : decode cL_tick 59 = .ok (.aload_n 2, 1) := by decide +kernel
theorem dL_tick_60 : decode cL_tick 60 = .ok (.aload_n 3, 1) := by decide +kernel
theorem dL_tick_61 : decode cL_tick 61 = .ok (.iload 8, 2) := by decide +kernel
theorem dL_tick_63 : decode cL_tick 63 = .ok (.invokestatic 31, 3) := by decide +kernel
theorem dL_tick_66 : decode cL_tick 66 = .ok (.aload_n 1, 1) := by decide +kernel
theorem dL_tick_67 : decode cL_tick 67 = .ok (.aload_n 2, 1) := by decide +kernel
theorem dL_tick_68 : decode cL_tick 68 = .ok (.iload 8, 2) := by decide +kernel
theorem dL_tick_70 : decode cL_tick 70 = .ok (.invokestatic 19, 3) := by decide +kernel
theorem dL_tick_73 : decode cL_tick 73 = .ok (.ifCond .eq 7, 3) := by decide +kernel
theorem dL_tick_76 : decode cL_tick 76 = .ok (.iconst (-1), 1) := by decide +kernel
theorem dL_tick_77 : decode cL_tick 77 = .ok (.goto 13, 3) := by decide +kernel
theorem dL_tick_80 : decode cL_tick 80 = .ok (.aload_n 1, 1) := by decide +kernel
theorem dL_tick_81 : decode cL_tick 81 = .ok (.bipush 8, 2) := by decide +kernel
theorem dL_tick_83 : decode cL_tick 83 = .ok (.iload 8, 2) := by decide +kernel
theorem dL_tick_85 : decode cL_tick 85 = .ok (.imul, 1) := by decide +kernel
theorem dL_tick_86 : decode cL_tick 86 = .ok (.bipush 6, 2) := by decide +kernel
theorem dL_tick_88 : decode cL_tick 88 = .ok (.iadd, 1) := by decide +kernel
theorem dL_tick_89 : decode cL_tick 89 = .ok (.iaload, 1) := by decide +kernel
theorem dL_tick_90 : decode cL_tick 90 = .ok (.istore 8, 2) := by decide +kernel
theorem dL_tick_92 : decode cL_tick 92 = .ok (.goto (-74), 3) := by decide +kernel
theorem dL_tick_95 : decode cL_tick 95 = .ok (.aload_n 2, 1) := by decide +kernel
theorem dL_tick_96 : decode cL_tick 96 = .ok (.bipush 8, 2) := by decide +kernel
theorem dL_tick_98 : decode cL_tick 98 = .ok (.iload 7, 2) := by decide +kernel
theorem dL_tick_100 : decode cL_tick 100 = .ok (.imul, 1) := by decide +kernel
theorem dL_tick_101 : decode cL_tick 101 = .ok (.iaload, 1) := by decide +kernel
theorem dL_tick_102 : decode cL_tick 102 = .ok (.iconst 2, 1) := by decide +kernel
theorem dL_tick_103 : decode cL_tick 103 = .ok (.if_icmp .ne 160, 3) := by decide +kernel
theorem dL_tick_106 : decode cL_tick 106 = .ok (.aload_n 0, 1) := by decide +kernel
theorem dL_tick_107 : decode cL_tick 107 = .ok (.aload 4, 2) := by decide +kernel
theorem dL_tick_109 : decode cL_tick 109 = .ok (.iload 7, 2) := by decide +kernel
theorem dL_tick_111 : decode cL_tick 111 = .ok (.iconst 0, 1) := by decide +kernel
theorem dL_tick_112 : decode cL_tick 112 = .ok (.invokestatic 15, 3) := by decide +kernel
theorem dL_tick_115 : decode cL_tick 115 = .ok (.ifCond .eq 148, 3) := by decide +kernel
theorem dL_tick_118 : decode cL_tick 118 = .ok (.aload_n 0, 1) := by decide +kernel
theorem dL_tick_119 : decode cL_tick 119 = .ok (.aload 4, 2) := by decide +kernel
theorem dL_tick_121 : decode cL_tick 121 = .ok (.iload 7, 2) := by decide +kernel
theorem dL_tick_123 : decode cL_tick 123 = .ok (.invokestatic 9, 3) := by decide +kernel
theorem dL_tick_126 : decode cL_tick 126 = .ok (.istore 9, 2) := by decide +kernel
theorem dL_tick_128 : decode cL_tick 128 = .ok (.aload_n 0, 1) := by decide +kernel
theorem dL_tick_129 : decode cL_tick 129 = .ok (.iconst 2, 1) := by decide +kernel
theorem dL_tick_130 : decode cL_tick 130 = .ok (.iaload, 1) := by decide +kernel
theorem dL_tick_131 : decode cL_tick 131 = .ok (.aload 4, 2) := by decide +kernel
theorem dL_tick_133 : decode cL_tick 133 = .ok (.iconst 3, 1) := by decide +kernel
theorem dL_tick_134 : decode cL_tick 134 = .ok (.iload 9, 2) := by decide +kernel
theorem dL_tick_136 : decode cL_tick 136 = .ok (.imul, 1) := by decide +kernel
theorem dL_tick_137 : decode cL_tick 137 = .ok (.iconst 1, 1) := by decide +kernel
theorem dL_tick_138 : decode cL_tick 138 = .ok (.iadd, 1) := by decide +kernel
theorem dL_tick_139 : decode cL_tick 139 = .ok (.iaload, 1) := by decide +kernel
theorem dL_tick_140 : decode cL_tick 140 = .ok (.isub, 1) := by decide +kernel
theorem dL_tick_141 : decode cL_tick 141 = .ok (.istore 10, 2) := by decide +kernel
theorem dL_tick_143 : decode cL_tick 143 = .ok (.lload 5, 2) := by decide +kernel
theorem dL_tick_145 : decode cL_tick 145 = .ok (.lconst 1, 1) := by decide +kernel
theorem dL_tick_146 : decode cL_tick 146 = .ok (.ldc2_w 35, 3) := by decide +kernel
theorem dL_tick_149 : decode cL_tick 149 = .ok (.iload 10, 2) := by decide +kernel
theorem dL_tick_151 : decode cL_tick 151 = .ok (.i2l, 1) := by decide +kernel
theorem dL_tick_152 : decode cL_tick 152 = .ok (.lmul, 1) := by decide +kernel
theorem dL_tick_153 : decode cL_tick 153 = .ok (.ladd, 1) := by decide +kernel
theorem dL_tick_154 : decode cL_tick 154 = .ok (.ladd, 1) := by decide +kernel
theorem dL_tick_155 : decode cL_tick 155 = .ok (.lstore 5, 2) := by decide +kernel
theorem dL_tick_157 : decode cL_tick 157 = .ok (.aload_n 2, 1) := by decide +kernel
theorem dL_tick_158 : decode cL_tick 158 = .ok (.bipush 8, 2) := by decide +kernel
theorem dL_tick_160 : decode cL_tick 160 = .ok (.iload 7, 2) := by decide +kernel
theorem dL_tick_162 : decode cL_tick 162 = .ok (.imul, 1) := by decide +kernel
theorem dL_tick_163 : decode cL_tick 163 = .ok (.iconst 3, 1) := by decide +kernel
theorem dL_tick_164 : decode cL_tick 164 = .ok (.iastore, 1) := by decide +kernel
theorem dL_tick_165 : decode cL_tick 165 = .ok (.aload_n 2, 1) := by decide +kernel
theorem dL_tick_166 : decode cL_tick 166 = .ok (.bipush 8, 2) := by decide +kernel
theorem dL_tick_168 : decode cL_tick 168 = .ok (.iload 7, 2) := by decide +kernel
theorem dL_tick_170 : decode cL_tick 170 = .ok (.imul, 1) := by decide +kernel
theorem dL_tick_171 : decode cL_tick 171 = .ok (.iconst 1, 1) := by decide +kernel
theorem dL_tick_172 : decode cL_tick 172 = .ok (.iadd, 1) := by decide +kernel
theorem dL_tick_173 : decode cL_tick 173 = .ok (.aload 4, 2) := by decide +kernel
theorem dL_tick_175 : decode cL_tick 175 = .ok (.iconst 3, 1) := by decide +kernel
theorem dL_tick_176 : decode cL_tick 176 = .ok (.iload 9, 2) := by decide +kernel
theorem dL_tick_178 : decode cL_tick 178 = .ok (.imul, 1) := by decide +kernel
theorem dL_tick_179 : decode cL_tick 179 = .ok (.iconst 2, 1) := by decide +kernel
theorem dL_tick_180 : decode cL_tick 180 = .ok (.iadd, 1) := by decide +kernel
theorem dL_tick_181 : decode cL_tick 181 = .ok (.iaload, 1) := by decide +kernel
theorem dL_tick_182 : decode cL_tick 182 = .ok (.iastore, 1) := by decide +kernel
theorem dL_tick_183 : decode cL_tick 183 = .ok (.aload_n 2, 1) := by decide +kernel
theorem dL_tick_184 : decode cL_tick 184 = .ok (.bipush 8, 2) := by decide +kernel
theorem dL_tick_186 : decode cL_tick 186 = .ok (.iload 7, 2) := by decide +kernel
theorem dL_tick_188 : decode cL_tick 188 = .ok (.imul, 1) := by decide +kernel
theorem dL_tick_189 : decode cL_tick 189 = .ok (.iconst 5, 1) := by decide +kernel
theorem dL_tick_190 : decode cL_tick 190 = .ok (.iadd, 1) := by decide +kernel
theorem dL_tick_191 : decode cL_tick 191 = .ok (.dup2, 1) := by decide +kernel
theorem dL_tick_192 : decode cL_tick 192 = .ok (.iaload, 1) := by decide +kernel
theorem dL_tick_193 : decode cL_tick 193 = .ok (.iconst 1, 1) := by decide +kernel
theorem dL_tick_194 : decode cL_tick 194 = .ok (.iadd, 1) := by decide +kernel
theorem dL_tick_195 : decode cL_tick 195 = .ok (.iastore, 1) := by decide +kernel
theorem dL_tick_196 : decode cL_tick 196 = .ok (.aload_n 2, 1) := by decide +kernel
theorem dL_tick_197 : decode cL_tick 197 = .ok (.bipush 8, 2) := by decide +kernel
theorem dL_tick_199 : decode cL_tick 199 = .ok (.iload 7, 2) := by decide +kernel
theorem dL_tick_201 : decode cL_tick 201 = .ok (.imul, 1) := by decide +kernel
theorem dL_tick_202 : decode cL_tick 202 = .ok (.bipush 6, 2) := by decide +kernel
theorem dL_tick_204 : decode cL_tick 204 = .ok (.iadd, 1) := by decide +kernel
theorem dL_tick_205 : decode cL_tick 205 = .ok (.dup2, 1) := by decide +kernel
theorem dL_tick_206 : decode cL_tick 206 = .ok (.iaload, 1) := by decide +kernel
theorem dL_tick_207 : decode cL_tick 207 = .ok (.iload 10, 2) := by decide +kernel
theorem dL_tick_209 : decode cL_tick 209 = .ok (.iadd, 1) := by decide +kernel
theorem dL_tick_210 : decode cL_tick 210 = .ok (.iastore, 1) := by decide +kernel
theorem dL_tick_211 : decode cL_tick 211 = .ok (.aload_n 3, 1) := by decide +kernel
theorem dL_tick_212 : decode cL_tick 212 = .ok (.bipush 33, 2) := by decide +kernel
theorem dL_tick_214 : decode cL_tick 214 = .ok (.iconst 2, 1) := by decide +kernel
theorem dL_tick_215 : decode cL_tick 215 = .ok (.iload 7, 2) := by decide +kernel
theorem dL_tick_217 : decode cL_tick 217 = .ok (.imul, 1) := by decide +kernel
theorem dL_tick_218 : decode cL_tick 218 = .ok (.iadd, 1) := by decide +kernel
theorem dL_tick_219 : decode cL_tick 219 = .ok (.aload_n 0, 1) := by decide +kernel
theorem dL_tick_220 : decode cL_tick 220 = .ok (.iconst 2, 1) := by decide +kernel
theorem dL_tick_221 : decode cL_tick 221 = .ok (.iaload, 1) := by decide +kernel
theorem dL_tick_222 : decode cL_tick 222 = .ok (.aload_n 3, 1) := by decide +kernel
theorem dL_tick_223 : decode cL_tick 223 = .ok (.bipush 32, 2) := by decide +kernel
theorem dL_tick_225 : decode cL_tick 225 = .ok (.iconst 2, 1) := by decide +kernel
theorem dL_tick_226 : decode cL_tick 226 = .ok (.iload 7, 2) := by decide +kernel
theorem dL_tick_228 : decode cL_tick 228 = .ok (.imul, 1) := by decide +kernel
theorem dL_tick_229 : decode cL_tick 229 = .ok (.iadd, 1) := by decide +kernel
theorem dL_tick_230 : decode cL_tick 230 = .ok (.iaload, 1) := by decide +kernel
theorem dL_tick_231 : decode cL_tick 231 = .ok (.isub, 1) := by decide +kernel
theorem dL_tick_232 : decode cL_tick 232 = .ok (.iastore, 1) := by decide +kernel
theorem dL_tick_233 : decode cL_tick 233 = .ok (.aload_n 3, 1) := by decide +kernel
theorem dL_tick_234 : decode cL_tick 234 = .ok (.bipush 32, 2) := by decide +kernel
theorem dL_tick_236 : decode cL_tick 236 = .ok (.iconst 2, 1) := by decide +kernel
theorem dL_tick_237 : decode cL_tick 237 = .ok (.iload 7, 2) := by decide +kernel
theorem dL_tick_239 : decode cL_tick 239 = .ok (.imul, 1) := by decide +kernel
theorem dL_tick_240 : decode cL_tick 240 = .ok (.iadd, 1) := by decide +kernel
theorem dL_tick_241 : decode cL_tick 241 = .ok (.aload_n 0, 1) := by decide +kernel
theorem dL_tick_242 : decode cL_tick 242 = .ok (.iconst 2, 1) := by decide +kernel
theorem dL_tick_243 : decode cL_tick 243 = .ok (.iaload, 1) := by decide +kernel
theorem dL_tick_244 : decode cL_tick 244 = .ok (.aload 4, 2) := by decide +kernel
theorem dL_tick_246 : decode cL_tick 246 = .ok (.iconst 3, 1) := by decide +kernel
theorem dL_tick_247 : decode cL_tick 247 = .ok (.iload 9, 2) := by decide +kernel
theorem dL_tick_249 : decode cL_tick 249 = .ok (.imul, 1) := by decide +kernel
theorem dL_tick_250 : decode cL_tick 250 = .ok (.iconst 2, 1) := by decide +kernel
theorem dL_tick_251 : decode cL_tick 251 = .ok (.iadd, 1) := by decide +kernel
theorem dL_tick_252 : decode cL_tick 252 = .ok (.iaload, 1) := by decide +kernel
theorem dL_tick_253 : decode cL_tick 253 = .ok (.iadd, 1) := by decide +kernel
theorem dL_tick_254 : decode cL_tick 254 = .ok (.iastore, 1) := by decide +kernel
theorem dL_tick_255 : decode cL_tick 255 = .ok (.aload_n 0, 1) := by decide +kernel
theorem dL_tick_256 : decode cL_tick 256 = .ok (.aload 4, 2) := by decide +kernel
theorem dL_tick_258 : decode cL_tick 258 = .ok (.iload 9, 2) := by decide +kernel
theorem dL_tick_260 : decode cL_tick 260 = .ok (.invokestatic 37, 3) := by decide +kernel
theorem dL_tick_263 : decode cL_tick 263 = .ok (.iinc 7 1, 3) := by decide +kernel
theorem dL_tick_266 : decode cL_tick 266 = .ok (.goto (-260), 3) := by decide +kernel
theorem dL_tick_269 : decode cL_tick 269 = .ok (.iconst 0, 1) := by decide +kernel
theorem dL_tick_270 : decode cL_tick 270 = .ok (.istore 7, 2) := by decide +kernel
theorem dL_tick_272 : decode cL_tick 272 = .ok (.iload 7, 2) := by decide +kernel
theorem dL_tick_274 : decode cL_tick 274 = .ok (.aload_n 0, 1) := by decide +kernel
theorem dL_tick_275 : decode cL_tick 275 = .ok (.iconst 0, 1) := by decide +kernel
theorem dL_tick_276 : decode cL_tick 276 = .ok (.iaload, 1) := by decide +kernel
theorem dL_tick_277 : decode cL_tick 277 = .ok (.if_icmp .ge 86, 3) := by decide +kernel
theorem dL_tick_280 : decode cL_tick 280 = .ok (.aload_n 2, 1) := by decide +kernel
theorem dL_tick_281 : decode cL_tick 281 = .ok (.bipush 8, 2) := by decide +kernel
theorem dL_tick_283 : decode cL_tick 283 = .ok (.iload 7, 2) := by decide +kernel
theorem dL_tick_285 : decode cL_tick 285 = .ok (.imul, 1) := by decide +kernel
theorem dL_tick_286 : decode cL_tick 286 = .ok (.iaload, 1) := by decide +kernel
theorem dL_tick_287 : decode cL_tick 287 = .ok (.istore 8, 2) := by decide +kernel
theorem dL_tick_289 : decode cL_tick 289 = .ok (.aload_n 3, 1) := by decide +kernel
theorem dL_tick_290 : decode cL_tick 290 = .ok (.iconst 4, 1) := by decide +kernel
theorem dL_tick_291 : decode cL_tick 291 = .ok (.iload 7, 2) := by decide +kernel
theorem dL_tick_293 : decode cL_tick 293 = .ok (.imul, 1) := by decide +kernel
theorem dL_tick_294 : decode cL_tick 294 = .ok (.iload 8, 2) := by decide +kernel
theorem dL_tick_296 : decode cL_tick 296 = .ok (.ifCond .ne 7, 3) := by decide +kernel
theorem dL_tick_299 : decode cL_tick 299 = .ok (.iconst 3, 1) := by decide +kernel
theorem dL_tick_300 : decode cL_tick 300 = .ok (.goto 14, 3) := by decide +kernel
theorem dL_tick_303 : decode cL_tick 303 = .ok (.iload 8, 2) := by decide +kernel
theorem dL_tick_305 : decode cL_tick 305 = .ok (.iconst 2, 1) := by decide +kernel
theorem dL_tick_306 : decode cL_tick 306 = .ok (.if_icmp .ne 7, 3) := by decide +kernel
theorem dL_tick_309 : decode cL_tick 309 = .ok (.iconst 2, 1) := by decide +kernel
theorem dL_tick_310 : decode cL_tick 310 = .ok (.goto 4, 3) := by decide +kernel
theorem dL_tick_313 : decode cL_tick 313 = .ok (.iconst 1, 1) := by decide +kernel
theorem dL_tick_314 : decode cL_tick 314 = .ok (.iadd, 1) := by decide +kernel
theorem dL_tick_315 : decode cL_tick 315 = .ok (.dup2, 1) := by decide +kernel
theorem dL_tick_316 : decode cL_tick 316 = .ok (.iaload, 1) := by decide +kernel
theorem dL_tick_317 : decode cL_tick 317 = .ok (.iload 8, 2) := by decide +kernel
theorem dL_tick_319 : decode cL_tick 319 = .ok (.iconst 1, 1) := by decide +kernel
theorem dL_tick_320 : decode cL_tick 320 = .ok (.if_icmp .ne 7, 3) := by decide +kernel
theorem dL_tick_323 : decode cL_tick 323 = .ok (.iconst 0, 1) := by decide +kernel
theorem dL_tick_324 : decode cL_tick 324 = .ok (.goto 31, 3) := by decide +kernel
theorem dL_tick_327 : decode cL_tick 327 = .ok (.aload_n 1, 1) := by decide +kernel
theorem dL_tick_328 : decode cL_tick 328 = .ok (.bipush 8, 2) := by decide +kernel
theorem dL_tick_330 : decode cL_tick 330 = .ok (.iload 7, 2) := by decide +kernel
theorem dL_tick_332 : decode cL_tick 332 = .ok (.imul, 1) := by decide +kernel
theorem dL_tick_333 : decode cL_tick 333 = .ok (.iload 8, 2) := by decide +kernel
theorem dL_tick_335 : decode cL_tick 335 = .ok (.ifCond .ne 7, 3) := by decide +kernel
theorem dL_tick_338 : decode cL_tick 338 = .ok (.iconst 5, 1) := by decide +kernel
theorem dL_tick_339 : decode cL_tick 339 = .ok (.goto 14, 3) := by decide +kernel
theorem dL_tick_342 : decode cL_tick 342 = .ok (.iload 8, 2) := by decide +kernel
theorem dL_tick_344 : decode cL_tick 344 = .ok (.iconst 2, 1) := by decide +kernel
theorem dL_tick_345 : decode cL_tick 345 = .ok (.if_icmp .ne 7, 3) := by decide +kernel
theorem dL_tick_348 : decode cL_tick 348 = .ok (.iconst 4, 1) := by decide +kernel
theorem dL_tick_349 : decode cL_tick 349 = .ok (.goto 4, 3) := by decide +kernel
theorem dL_tick_352 : decode cL_tick 352 = .ok (.iconst 3, 1) := by decide +kernel
theorem dL_tick_353 : decode cL_tick 353 = .ok (.iadd, 1) := by decide +kernel
theorem dL_tick_354 : decode cL_tick 354 = .ok (.iaload, 1) := by decide +kernel
theorem dL_tick_355 : decode cL_tick 355 = .ok (.iadd, 1) := by decide +kernel
theorem dL_tick_356 : decode cL_tick 356 = .ok (.iastore, 1) := by decide +kernel
theorem dL_tick_357 : decode cL_tick 357 = .ok (.iinc 7 1, 3) := by decide +kernel
theorem dL_tick_360 : decode cL_tick 360 = .ok (.goto (-88), 3) := by decide +kernel
theorem dL_tick_363 : decode cL_tick 363 = .ok (.iconst 0, 1) := by decide +kernel
theorem dL_tick_364 : decode cL_tick 364 = .ok (.istore 7, 2) := by decide +kernel
theorem dL_tick_366 : decode cL_tick 366 = .ok (.iload 7, 2) := by decide +kernel
theorem dL_tick_368 : decode cL_tick 368 = .ok (.aload_n 0, 1) := by decide +kernel
theorem dL_tick_369 : decode cL_tick 369 = .ok (.iconst 0, 1) := by decide +kernel
theorem dL_tick_370 : decode cL_tick 370 = .ok (.iaload, 1) := by decide +kernel
theorem dL_tick_371 : decode cL_tick 371 = .ok (.if_icmp .ge 149, 3) := by decide +kernel
theorem dL_tick_374 : decode cL_tick 374 = .ok (.aload_n 2, 1) := by decide +kernel
theorem dL_tick_375 : decode cL_tick 375 = .ok (.bipush 8, 2) := by decide +kernel
theorem dL_tick_377 : decode cL_tick 377 = .ok (.iload 7, 2) := by decide +kernel
theorem dL_tick_379 : decode cL_tick 379 = .ok (.imul, 1) := by decide +kernel
theorem dL_tick_380 : decode cL_tick 380 = .ok (.iaload, 1) := by decide +kernel
theorem dL_tick_381 : decode cL_tick 381 = .ok (.istore 8, 2) := by decide +kernel
theorem dL_tick_383 : decode cL_tick 383 = .ok (.iload 8, 2) := by decide +kernel
theorem dL_tick_385 : decode cL_tick 385 = .ok (.iconst 2, 1) := by decide +kernel
theorem dL_tick_386 : decode cL_tick 386 = .ok (.irem, 1) := by decide +kernel
theorem dL_tick_387 : decode cL_tick 387 = .ok (.iconst 1, 1) := by decide +kernel
theorem dL_tick_388 : decode cL_tick 388 = .ok (.if_icmp .ne 54, 3) := by decide +kernel
theorem dL_tick_391 : decode cL_tick 391 = .ok (.aload_n 2, 1) := by decide +kernel
theorem dL_tick_392 : decode cL_tick 392 = .ok (.bipush 8, 2) := by decide +kernel
theorem dL_tick_394 : decode cL_tick 394 = .ok (.iload 7, 2) := by decide +kernel
theorem dL_tick_396 : decode cL_tick 396 = .ok (.imul, 1) := by decide +kernel
theorem dL_tick_397 : decode cL_tick 397 = .ok (.iconst 1, 1) := by decide +kernel
theorem dL_tick_398 : decode cL_tick 398 = .ok (.iadd, 1) := by decide +kernel
theorem dL_tick_399 : decode cL_tick 399 = .ok (.dup2, 1) := by decide +kernel
theorem dL_tick_400 : decode cL_tick 400 = .ok (.iaload, 1) := by decide +kernel
theorem dL_tick_401 : decode cL_tick 401 = .ok (.iconst 1, 1) := by decide +kernel
theorem dL_tick_402 : decode cL_tick 402 = .ok (.isub, 1) := by decide +kernel
theorem dL_tick_403 : decode cL_tick 403 = .ok (.iastore, 1) := by decide +kernel
theorem dL_tick_404 : decode cL_tick 404 = .ok (.aload_n 2, 1) := by decide +kernel
theorem dL_tick_405 : decode cL_tick 405 = .ok (.bipush 8, 2) := by decide +kernel
theorem dL_tick_407 : decode cL_tick 407 = .ok (.iload 7, 2) := by decide +kernel
theorem dL_tick_409 : decode cL_tick 409 = .ok (.imul, 1) := by decide +kernel
theorem dL_tick_410 : decode cL_tick 410 = .ok (.iconst 2, 1) := by decide +kernel
theorem dL_tick_411 : decode cL_tick 411 = .ok (.iadd, 1) := by decide +kernel
theorem dL_tick_412 : decode cL_tick 412 = .ok (.iconst 0, 1) := by decide +kernel
theorem dL_tick_413 : decode cL_tick 413 = .ok (.iastore, 1) := by decide +kernel
theorem dL_tick_414 : decode cL_tick 414 = .ok (.aload_n 2, 1) := by decide +kernel
theorem dL_tick_415 : decode cL_tick 415 = .ok (.bipush 8, 2) := by decide +kernel
theorem dL_tick_417 : decode cL_tick 417 = .ok (.iload 7, 2) := by decide +kernel
theorem dL_tick_419 : decode cL_tick 419 = .ok (.imul, 1) := by decide +kernel
theorem dL_tick_420 : decode cL_tick 420 = .ok (.aload_n 2, 1) := by decide +kernel
theorem dL_tick_421 : decode cL_tick 421 = .ok (.bipush 8, 2) := by decide +kernel
theorem dL_tick_423 : decode cL_tick 423 = .ok (.iload 7, 2) := by decide +kernel
theorem dL_tick_425 : decode cL_tick 425 = .ok (.imul, 1) := by decide +kernel
theorem dL_tick_426 : decode cL_tick 426 = .ok (.iconst 1, 1) := by decide +kernel
theorem dL_tick_427 : decode cL_tick 427 = .ok (.iadd, 1) := by decide +kernel
theorem dL_tick_428 : decode cL_tick 428 = .ok (.iaload, 1) := by decide +kernel
theorem dL_tick_429 : decode cL_tick 429 = .ok (.ifCond .ne 7, 3) := by decide +kernel
theorem dL_tick_432 : decode cL_tick 432 = .ok (.iconst 2, 1) := by decide +kernel
theorem dL_tick_433 : decode cL_tick 433 = .ok (.goto 5, 3) := by decide +kernel
theorem dL_tick_436 : decode cL_tick 436 = .ok (.iload 8, 2) := by decide +kernel
theorem dL_tick_438 : decode cL_tick 438 = .ok (.iastore, 1) := by decide +kernel
theorem dL_tick_439 : decode cL_tick 439 = .ok (.goto 75, 3) := by decide +kernel
theorem dL_tick_442 : decode cL_tick 442 = .ok (.iload 8, 2) := by decide +kernel
theorem dL_tick_444 : decode cL_tick 444 = .ok (.iconst 2, 1) := by decide +kernel
