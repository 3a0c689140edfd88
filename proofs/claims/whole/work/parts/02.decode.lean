/-! methods: names, bytes, decode rows -/
abbrev y_A_fill : MethodName := ⟨"java/util/Arrays", "fill", "([II)V"⟩
abbrev b_A_fill : ByteArray := prog_15_method_103_code
theorem d_A_fill_0 : decode b_A_fill 0 = .ok (.iconst 0, 1) := by decide +kernel
theorem d_A_fill_1 : decode b_A_fill 1 = .ok (.istore_n 2, 1) := by decide +kernel
theorem d_A_fill_2 : decode b_A_fill 2 = .ok (.aload_n 0, 1) := by decide +kernel
theorem d_A_fill_3 : decode b_A_fill 3 = .ok (.arraylength, 1) := by decide +kernel
theorem d_A_fill_4 : decode b_A_fill 4 = .ok (.istore_n 3, 1) := by decide +kernel
theorem d_A_fill_5 : decode b_A_fill 5 = .ok (.iload_n 2, 1) := by decide +kernel
theorem d_A_fill_6 : decode b_A_fill 6 = .ok (.iload_n 3, 1) := by decide +kernel
theorem d_A_fill_7 : decode b_A_fill 7 = .ok (.if_icmp .ge 13, 3) := by decide +kernel
theorem d_A_fill_10 : decode b_A_fill 10 = .ok (.aload_n 0, 1) := by decide +kernel
theorem d_A_fill_11 : decode b_A_fill 11 = .ok (.iload_n 2, 1) := by decide +kernel
theorem d_A_fill_12 : decode b_A_fill 12 = .ok (.iload_n 1, 1) := by decide +kernel
theorem d_A_fill_13 : decode b_A_fill 13 = .ok (.iastore, 1) := by decide +kernel
theorem d_A_fill_14 : decode b_A_fill 14 = .ok (.iinc 2 1, 3) := by decide +kernel
theorem d_A_fill_17 : decode b_A_fill 17 = .ok (.goto (-12), 3) := by decide +kernel
theorem d_A_fill_20 : decode b_A_fill 20 = .ok (.return_, 1) := by decide +kernel
abbrev y_C_find : MethodName := ⟨"HistoryJudge$CycleSearch", "find", "(LHistoryJudge$Graph;I)I"⟩
abbrev b_C_find : ByteArray := prog_2_method_2_code
theorem d_C_find_0 : decode b_C_find 0 = .ok (.aload_n 0, 1) := by decide +kernel
theorem d_C_find_1 : decode b_C_find 1 = .ok (.aload_n 1, 1) := by decide +kernel
theorem d_C_find_2 : decode b_C_find 2 = .ok (.iload_n 2, 1) := by decide +kernel
theorem d_C_find_3 : decode b_C_find 3 = .ok (.invokevirtual 27, 3) := by decide +kernel
theorem d_C_find_6 : decode b_C_find 6 = .ok (.iload_n 2, 1) := by decide +kernel
theorem d_C_find_7 : decode b_C_find 7 = .ok (.iconst 2, 1) := by decide +kernel
theorem d_C_find_8 : decode b_C_find 8 = .ok (.if_icmp .lt 7, 3) := by decide +kernel
theorem d_C_find_11 : decode b_C_find 11 = .ok (.iconst 1, 1) := by decide +kernel
theorem d_C_find_12 : decode b_C_find 12 = .ok (.goto 4, 3) := by decide +kernel
theorem d_C_find_15 : decode b_C_find 15 = .ok (.iconst 0, 1) := by decide +kernel
theorem d_C_find_16 : decode b_C_find 16 = .ok (.istore_n 3, 1) := by decide +kernel
theorem d_C_find_17 : decode b_C_find 17 = .ok (.iconst 0, 1) := by decide +kernel
theorem d_C_find_18 : decode b_C_find 18 = .ok (.istore 4, 2) := by decide +kernel
theorem d_C_find_20 : decode b_C_find 20 = .ok (.iconst 0, 1) := by decide +kernel
theorem d_C_find_21 : decode b_C_find 21 = .ok (.istore 5, 2) := by decide +kernel
theorem d_C_find_23 : decode b_C_find 23 = .ok (.iconst 0, 1) := by decide +kernel
theorem d_C_find_24 : decode b_C_find 24 = .ok (.istore 6, 2) := by decide +kernel
theorem d_C_find_26 : decode b_C_find 26 = .ok (.iload 6, 2) := by decide +kernel
theorem d_C_find_28 : decode b_C_find 28 = .ok (.bipush 8, 2) := by decide +kernel
theorem d_C_find_30 : decode b_C_find 30 = .ok (.if_icmp .ge 62, 3) := by decide +kernel
theorem d_C_find_33 : decode b_C_find 33 = .ok (.aload_n 0, 1) := by decide +kernel
theorem d_C_find_34 : decode b_C_find 34 = .ok (.iload 6, 2) := by decide +kernel
theorem d_C_find_36 : decode b_C_find 36 = .ok (.invokevirtual 31, 3) := by decide +kernel
theorem d_C_find_39 : decode b_C_find 39 = .ok (.iload_n 3, 1) := by decide +kernel
theorem d_C_find_40 : decode b_C_find 40 = .ok (.ifCond .eq 10, 3) := by decide +kernel
theorem d_C_find_43 : decode b_C_find 43 = .ok (.aload_n 0, 1) := by decide +kernel
theorem d_C_find_44 : decode b_C_find 44 = .ok (.getfield 21, 3) := by decide +kernel
theorem d_C_find_47 : decode b_C_find 47 = .ok (.goto 7, 3) := by decide +kernel
theorem d_C_find_50 : decode b_C_find 50 = .ok (.aload_n 0, 1) := by decide +kernel
theorem d_C_find_51 : decode b_C_find 51 = .ok (.getfield 18, 3) := by decide +kernel
theorem d_C_find_54 : decode b_C_find 54 = .ok (.iload 6, 2) := by decide +kernel
theorem d_C_find_56 : decode b_C_find 56 = .ok (.invokestatic 35, 3) := by decide +kernel
theorem d_C_find_59 : decode b_C_find 59 = .ok (.istore 7, 2) := by decide +kernel
theorem d_C_find_61 : decode b_C_find 61 = .ok (.iload 7, 2) := by decide +kernel
theorem d_C_find_63 : decode b_C_find 63 = .ok (.ifCond .eq 23, 3) := by decide +kernel
theorem d_C_find_66 : decode b_C_find 66 = .ok (.iload 4, 2) := by decide +kernel
theorem d_C_find_68 : decode b_C_find 68 = .ok (.ifCond .eq 10, 3) := by decide +kernel
theorem d_C_find_71 : decode b_C_find 71 = .ok (.iload 7, 2) := by decide +kernel
theorem d_C_find_73 : decode b_C_find 73 = .ok (.iload 4, 2) := by decide +kernel
theorem d_C_find_75 : decode b_C_find 75 = .ok (.if_icmp .ge 11, 3) := by decide +kernel
theorem d_C_find_78 : decode b_C_find 78 = .ok (.iload 7, 2) := by decide +kernel
theorem d_C_find_80 : decode b_C_find 80 = .ok (.istore 4, 2) := by decide +kernel
theorem d_C_find_82 : decode b_C_find 82 = .ok (.iload 6, 2) := by decide +kernel
theorem d_C_find_84 : decode b_C_find 84 = .ok (.istore 5, 2) := by decide +kernel
theorem d_C_find_86 : decode b_C_find 86 = .ok (.iinc 6 1, 3) := by decide +kernel
theorem d_C_find_89 : decode b_C_find 89 = .ok (.goto (-63), 3) := by decide +kernel
theorem d_C_find_92 : decode b_C_find 92 = .ok (.iload 4, 2) := by decide +kernel
theorem d_C_find_94 : decode b_C_find 94 = .ok (.ifCond .eq 18, 3) := by decide +kernel
theorem d_C_find_97 : decode b_C_find 97 = .ok (.aload_n 0, 1) := by decide +kernel
theorem d_C_find_98 : decode b_C_find 98 = .ok (.iload 5, 2) := by decide +kernel
theorem d_C_find_100 : decode b_C_find 100 = .ok (.invokevirtual 31, 3) := by decide +kernel
theorem d_C_find_103 : decode b_C_find 103 = .ok (.aload_n 0, 1) := by decide +kernel
theorem d_C_find_104 : decode b_C_find 104 = .ok (.iload 5, 2) := by decide +kernel
theorem d_C_find_106 : decode b_C_find 106 = .ok (.iload 4, 2) := by decide +kernel
theorem d_C_find_108 : decode b_C_find 108 = .ok (.iload_n 3, 1) := by decide +kernel
theorem d_C_find_109 : decode b_C_find 109 = .ok (.invokevirtual 39, 3) := by decide +kernel
theorem d_C_find_112 : decode b_C_find 112 = .ok (.iload 4, 2) := by decide +kernel
theorem d_C_find_114 : decode b_C_find 114 = .ok (.ireturn, 1) := by decide +kernel
abbrev y_C_init : MethodName := ⟨"HistoryJudge$CycleSearch", "<init>", "()V"⟩
abbrev b_C_init : ByteArray := prog_2_method_1_code
theorem d_C_init_0 : decode b_C_init 0 = .ok (.aload_n 0, 1) := by decide +kernel
theorem d_C_init_1 : decode b_C_init 1 = .ok (.invokespecial 3, 3) := by decide +kernel
theorem d_C_init_4 : decode b_C_init 4 = .ok (.aload_n 0, 1) := by decide +kernel
theorem d_C_init_5 : decode b_C_init 5 = .ok (.bipush 8, 2) := by decide +kernel
theorem d_C_init_7 : decode b_C_init 7 = .ok (.newarray .int, 2) := by decide +kernel
theorem d_C_init_9 : decode b_C_init 9 = .ok (.putfield 9, 3) := by decide +kernel
theorem d_C_init_12 : decode b_C_init 12 = .ok (.aload_n 0, 1) := by decide +kernel
theorem d_C_init_13 : decode b_C_init 13 = .ok (.bipush 8, 2) := by decide +kernel
theorem d_C_init_15 : decode b_C_init 15 = .ok (.newarray .int, 2) := by decide +kernel
theorem d_C_init_17 : decode b_C_init 17 = .ok (.putfield 15, 3) := by decide +kernel
theorem d_C_init_20 : decode b_C_init 20 = .ok (.aload_n 0, 1) := by decide +kernel
theorem d_C_init_21 : decode b_C_init 21 = .ok (.bipush 9, 2) := by decide +kernel
theorem d_C_init_23 : decode b_C_init 23 = .ok (.newarray .int, 2) := by decide +kernel
theorem d_C_init_25 : decode b_C_init 25 = .ok (.putfield 18, 3) := by decide +kernel
theorem d_C_init_28 : decode b_C_init 28 = .ok (.aload_n 0, 1) := by decide +kernel
theorem d_C_init_29 : decode b_C_init 29 = .ok (.bipush 9, 2) := by decide +kernel
theorem d_C_init_31 : decode b_C_init 31 = .ok (.newarray .int, 2) := by decide +kernel
theorem d_C_init_33 : decode b_C_init 33 = .ok (.putfield 21, 3) := by decide +kernel
theorem d_C_init_36 : decode b_C_init 36 = .ok (.aload_n 0, 1) := by decide +kernel
theorem d_C_init_37 : decode b_C_init 37 = .ok (.bipush 8, 2) := by decide +kernel
theorem d_C_init_39 : decode b_C_init 39 = .ok (.newarray .int, 2) := by decide +kernel
theorem d_C_init_41 : decode b_C_init 41 = .ok (.putfield 24, 3) := by decide +kernel
theorem d_C_init_44 : decode b_C_init 44 = .ok (.return_, 1) := by decide +kernel
abbrev y_C_leadingInto : MethodName := ⟨"HistoryJudge$CycleSearch", "leadingInto", "([II)I"⟩
abbrev b_C_leadingInto : ByteArray := prog_2_method_5_code
theorem d_C_leadingInto_0 : decode b_C_leadingInto 0 = .ok (.iconst 0, 1) := by decide +kernel
theorem d_C_leadingInto_1 : decode b_C_leadingInto 1 = .ok (.istore_n 2, 1) := by decide +kernel
theorem d_C_leadingInto_2 : decode b_C_leadingInto 2 = .ok (.iconst 0, 1) := by decide +kernel
theorem d_C_leadingInto_3 : decode b_C_leadingInto 3 = .ok (.istore_n 3, 1) := by decide +kernel
theorem d_C_leadingInto_4 : decode b_C_leadingInto 4 = .ok (.iload_n 3, 1) := by decide +kernel
theorem d_C_leadingInto_5 : decode b_C_leadingInto 5 = .ok (.bipush 8, 2) := by decide +kernel
theorem d_C_leadingInto_7 : decode b_C_leadingInto 7 = .ok (.if_icmp .ge 24, 3) := by decide +kernel
theorem d_C_leadingInto_10 : decode b_C_leadingInto 10 = .ok (.aload_n 0, 1) := by decide +kernel
theorem d_C_leadingInto_11 : decode b_C_leadingInto 11 = .ok (.iload_n 3, 1) := by decide +kernel
theorem d_C_leadingInto_12 : decode b_C_leadingInto 12 = .ok (.iaload, 1) := by decide +kernel
theorem d_C_leadingInto_13 : decode b_C_leadingInto 13 = .ok (.iload_n 1, 1) := by decide +kernel
theorem d_C_leadingInto_14 : decode b_C_leadingInto 14 = .ok (.iand, 1) := by decide +kernel
theorem d_C_leadingInto_15 : decode b_C_leadingInto 15 = .ok (.ifCond .eq 10, 3) := by decide +kernel
theorem d_C_leadingInto_18 : decode b_C_leadingInto 18 = .ok (.iload_n 2, 1) := by decide +kernel
theorem d_C_leadingInto_19 : decode b_C_leadingInto 19 = .ok (.iload_n 3, 1) := by decide +kernel
theorem d_C_leadingInto_20 : decode b_C_leadingInto 20 = .ok (.invokestatic 54, 3) := by decide +kernel
theorem d_C_leadingInto_23 : decode b_C_leadingInto 23 = .ok (.ior, 1) := by decide +kernel
theorem d_C_leadingInto_24 : decode b_C_leadingInto 24 = .ok (.istore_n 2, 1) := by decide +kernel
theorem d_C_leadingInto_25 : decode b_C_leadingInto 25 = .ok (.iinc 3 1, 3) := by decide +kernel
theorem d_C_leadingInto_28 : decode b_C_leadingInto 28 = .ok (.goto (-24), 3) := by decide +kernel
theorem d_C_leadingInto_31 : decode b_C_leadingInto 31 = .ok (.iload_n 2, 1) := by decide +kernel
theorem d_C_leadingInto_32 : decode b_C_leadingInto 32 = .ok (.ireturn, 1) := by decide +kernel
abbrev y_C_measure : MethodName := ⟨"HistoryJudge$CycleSearch", "measure", "(I)V"⟩
abbrev b_C_measure : ByteArray := prog_2_method_4_code
theorem d_C_measure_0 : decode b_C_measure 0 = .ok (.aload_n 0, 1) := by decide +kernel
theorem d_C_measure_1 : decode b_C_measure 1 = .ok (.getfield 18, 3) := by decide +kernel
theorem d_C_measure_4 : decode b_C_measure 4 = .ok (.iconst 0, 1) := by decide +kernel
theorem d_C_measure_5 : decode b_C_measure 5 = .ok (.iload_n 1, 1) := by decide +kernel
theorem d_C_measure_6 : decode b_C_measure 6 = .ok (.invokestatic 54, 3) := by decide +kernel
theorem d_C_measure_9 : decode b_C_measure 9 = .ok (.iastore, 1) := by decide +kernel
theorem d_C_measure_10 : decode b_C_measure 10 = .ok (.aload_n 0, 1) := by decide +kernel
theorem d_C_measure_11 : decode b_C_measure 11 = .ok (.getfield 21, 3) := by decide +kernel
theorem d_C_measure_14 : decode b_C_measure 14 = .ok (.iconst 0, 1) := by decide +kernel
theorem d_C_measure_15 : decode b_C_measure 15 = .ok (.iconst 0, 1) := by decide +kernel
theorem d_C_measure_16 : decode b_C_measure 16 = .ok (.iastore, 1) := by decide +kernel
theorem d_C_measure_17 : decode b_C_measure 17 = .ok (.iconst 1, 1) := by decide +kernel
theorem d_C_measure_18 : decode b_C_measure 18 = .ok (.istore_n 2, 1) := by decide +kernel
theorem d_C_measure_19 : decode b_C_measure 19 = .ok (.iload_n 2, 1) := by decide +kernel
theorem d_C_measure_20 : decode b_C_measure 20 = .ok (.bipush 8, 2) := by decide +kernel
theorem d_C_measure_22 : decode b_C_measure 22 = .ok (.if_icmp .gt 67, 3) := by decide +kernel
theorem d_C_measure_25 : decode b_C_measure 25 = .ok (.aload_n 0, 1) := by decide +kernel
theorem d_C_measure_26 : decode b_C_measure 26 = .ok (.getfield 18, 3) := by decide +kernel
theorem d_C_measure_29 : decode b_C_measure 29 = .ok (.iload_n 2, 1) := by decide +kernel
theorem d_C_measure_30 : decode b_C_measure 30 = .ok (.aload_n 0, 1) := by decide +kernel
theorem d_C_measure_31 : decode b_C_measure 31 = .ok (.getfield 9, 3) := by decide +kernel
theorem d_C_measure_34 : decode b_C_measure 34 = .ok (.aload_n 0, 1) := by decide +kernel
theorem d_C_measure_35 : decode b_C_measure 35 = .ok (.getfield 18, 3) := by decide +kernel
theorem d_C_measure_38 : decode b_C_measure 38 = .ok (.iload_n 2, 1) := by decide +kernel
theorem d_C_measure_39 : decode b_C_measure 39 = .ok (.iconst 1, 1) := by decide +kernel
theorem d_C_measure_40 : decode b_C_measure 40 = .ok (.isub, 1) := by decide +kernel
theorem d_C_measure_41 : decode b_C_measure 41 = .ok (.iaload, 1) := by decide +kernel
theorem d_C_measure_42 : decode b_C_measure 42 = .ok (.invokestatic 58, 3) := by decide +kernel
theorem d_C_measure_45 : decode b_C_measure 45 = .ok (.iastore, 1) := by decide +kernel
theorem d_C_measure_46 : decode b_C_measure 46 = .ok (.aload_n 0, 1) := by decide +kernel
theorem d_C_measure_47 : decode b_C_measure 47 = .ok (.getfield 21, 3) := by decide +kernel
theorem d_C_measure_50 : decode b_C_measure 50 = .ok (.iload_n 2, 1) := by decide +kernel
theorem d_C_measure_51 : decode b_C_measure 51 = .ok (.aload_n 0, 1) := by decide +kernel
theorem d_C_measure_52 : decode b_C_measure 52 = .ok (.getfield 9, 3) := by decide +kernel
theorem d_C_measure_55 : decode b_C_measure 55 = .ok (.aload_n 0, 1) := by decide +kernel
theorem d_C_measure_56 : decode b_C_measure 56 = .ok (.getfield 21, 3) := by decide +kernel
theorem d_C_measure_59 : decode b_C_measure 59 = .ok (.iload_n 2, 1) := by decide +kernel
theorem d_C_measure_60 : decode b_C_measure 60 = .ok (.iconst 1, 1) := by decide +kernel
theorem d_C_measure_61 : decode b_C_measure 61 = .ok (.isub, 1) := by decide +kernel
theorem d_C_measure_62 : decode b_C_measure 62 = .ok (.iaload, 1) := by decide +kernel
theorem d_C_measure_63 : decode b_C_measure 63 = .ok (.invokestatic 58, 3) := by decide +kernel
theorem d_C_measure_66 : decode b_C_measure 66 = .ok (.aload_n 0, 1) := by decide +kernel
theorem d_C_measure_67 : decode b_C_measure 67 = .ok (.getfield 15, 3) := by decide +kernel
theorem d_C_measure_70 : decode b_C_measure 70 = .ok (.aload_n 0, 1) := by decide +kernel
theorem d_C_measure_71 : decode b_C_measure 71 = .ok (.getfield 18, 3) := by decide +kernel
theorem d_C_measure_74 : decode b_C_measure 74 = .ok (.iload_n 2, 1) := by decide +kernel
theorem d_C_measure_75 : decode b_C_measure 75 = .ok (.iconst 1, 1) := by decide +kernel
theorem d_C_measure_76 : decode b_C_measure 76 = .ok (.isub, 1) := by decide +kernel
theorem d_C_measure_77 : decode b_C_measure 77 = .ok (.iaload, 1) := by decide +kernel
theorem d_C_measure_78 : decode b_C_measure 78 = .ok (.invokestatic 58, 3) := by decide +kernel
theorem d_C_measure_81 : decode b_C_measure 81 = .ok (.ior, 1) := by decide +kernel
theorem d_C_measure_82 : decode b_C_measure 82 = .ok (.iastore, 1) := by decide +kernel
theorem d_C_measure_83 : decode b_C_measure 83 = .ok (.iinc 2 1, 3) := by decide +kernel
theorem d_C_measure_86 : decode b_C_measure 86 = .ok (.goto (-67), 3) := by decide +kernel
theorem d_C_measure_89 : decode b_C_measure 89 = .ok (.return_, 1) := by decide +kernel
abbrev y_C_shortest : MethodName := ⟨"HistoryJudge$CycleSearch", "shortest", "([II)I"⟩
abbrev b_C_shortest : ByteArray := prog_2_method_6_code
theorem d_C_shortest_0 : decode b_C_shortest 0 = .ok (.iconst 2, 1) := by decide +kernel
theorem d_C_shortest_1 : decode b_C_shortest 1 = .ok (.istore_n 2, 1) := by decide +kernel
theorem d_C_shortest_2 : decode b_C_shortest 2 = .ok (.iload_n 2, 1) := by decide +kernel
theorem d_C_shortest_3 : decode b_C_shortest 3 = .ok (.bipush 8, 2) := by decide +kernel
theorem d_C_shortest_5 : decode b_C_shortest 5 = .ok (.if_icmp .gt 21, 3) := by decide +kernel
theorem d_C_shortest_8 : decode b_C_shortest 8 = .ok (.aload_n 0, 1) := by decide +kernel
theorem d_C_shortest_9 : decode b_C_shortest 9 = .ok (.iload_n 2, 1) := by decide +kernel
theorem d_C_shortest_10 : decode b_C_shortest 10 = .ok (.iaload, 1) := by decide +kernel
theorem d_C_shortest_11 : decode b_C_shortest 11 = .ok (.iload_n 1, 1) := by decide +kernel
theorem d_C_shortest_12 : decode b_C_shortest 12 = .ok (.invokestatic 61, 3) := by decide +kernel
theorem d_C_shortest_15 : decode b_C_shortest 15 = .ok (.ifCond .eq 5, 3) := by decide +kernel
theorem d_C_shortest_18 : decode b_C_shortest 18 = .ok (.iload_n 2, 1) := by decide +kernel
theorem d_C_shortest_19 : decode b_C_shortest 19 = .ok (.ireturn, 1) := by decide +kernel
theorem d_C_shortest_20 : decode b_C_shortest 20 = .ok (.iinc 2 1, 3) := by decide +kernel
theorem d_C_shortest_23 : decode b_C_shortest 23 = .ok (.goto (-21), 3) := by decide +kernel
theorem d_C_shortest_26 : decode b_C_shortest 26 = .ok (.iconst 0, 1) := by decide +kernel
theorem d_C_shortest_27 : decode b_C_shortest 27 = .ok (.ireturn, 1) := by decide +kernel
abbrev y_C_sortEdges : MethodName := ⟨"HistoryJudge$CycleSearch", "sortEdges", "(LHistoryJudge$Graph;I)V"⟩
abbrev b_C_sortEdges : ByteArray := prog_2_method_3_code
theorem d_C_sortEdges_0 : decode b_C_sortEdges 0 = .ok (.iconst 0, 1) := by decide +kernel
theorem d_C_sortEdges_1 : decode b_C_sortEdges 1 = .ok (.istore_n 3, 1) := by decide +kernel
theorem d_C_sortEdges_2 : decode b_C_sortEdges 2 = .ok (.iload_n 3, 1) := by decide +kernel
theorem d_C_sortEdges_3 : decode b_C_sortEdges 3 = .ok (.bipush 8, 2) := by decide +kernel
theorem d_C_sortEdges_5 : decode b_C_sortEdges 5 = .ok (.if_icmp .ge 73, 3) := by decide +kernel
theorem d_C_sortEdges_8 : decode b_C_sortEdges 8 = .ok (.iload_n 2, 1) := by decide +kernel
theorem d_C_sortEdges_9 : decode b_C_sortEdges 9 = .ok (.iconst 1, 1) := by decide +kernel
theorem d_C_sortEdges_10 : decode b_C_sortEdges 10 = .ok (.if_icmp .lt 12, 3) := by decide +kernel
theorem d_C_sortEdges_13 : decode b_C_sortEdges 13 = .ok (.aload_n 1, 1) := by decide +kernel
theorem d_C_sortEdges_14 : decode b_C_sortEdges 14 = .ok (.getfield 43, 3) := by decide +kernel
theorem d_C_sortEdges_17 : decode b_C_sortEdges 17 = .ok (.iload_n 3, 1) := by decide +kernel
theorem d_C_sortEdges_18 : decode b_C_sortEdges 18 = .ok (.iaload, 1) := by decide +kernel
theorem d_C_sortEdges_19 : decode b_C_sortEdges 19 = .ok (.goto 4, 3) := by decide +kernel
theorem d_C_sortEdges_22 : decode b_C_sortEdges 22 = .ok (.iconst 0, 1) := by decide +kernel
theorem d_C_sortEdges_23 : decode b_C_sortEdges 23 = .ok (.istore 4, 2) := by decide +kernel
theorem d_C_sortEdges_25 : decode b_C_sortEdges 25 = .ok (.iload_n 2, 1) := by decide +kernel
theorem d_C_sortEdges_26 : decode b_C_sortEdges 26 = .ok (.iconst 3, 1) := by decide +kernel
theorem d_C_sortEdges_27 : decode b_C_sortEdges 27 = .ok (.if_icmp .lt 12, 3) := by decide +kernel
theorem d_C_sortEdges_30 : decode b_C_sortEdges 30 = .ok (.aload_n 1, 1) := by decide +kernel
theorem d_C_sortEdges_31 : decode b_C_sortEdges 31 = .ok (.getfield 48, 3) := by decide +kernel
theorem d_C_sortEdges_34 : decode b_C_sortEdges 34 = .ok (.iload_n 3, 1) := by decide +kernel
theorem d_C_sortEdges_35 : decode b_C_sortEdges 35 = .ok (.iaload, 1) := by decide +kernel
theorem d_C_sortEdges_36 : decode b_C_sortEdges 36 = .ok (.goto 4, 3) := by decide +kernel
theorem d_C_sortEdges_39 : decode b_C_sortEdges 39 = .ok (.iconst 0, 1) := by decide +kernel
theorem d_C_sortEdges_40 : decode b_C_sortEdges 40 = .ok (.istore 5, 2) := by decide +kernel
theorem d_C_sortEdges_42 : decode b_C_sortEdges 42 = .ok (.aload_n 0, 1) := by decide +kernel
theorem d_C_sortEdges_43 : decode b_C_sortEdges 43 = .ok (.getfield 9, 3) := by decide +kernel
theorem d_C_sortEdges_46 : decode b_C_sortEdges 46 = .ok (.iload_n 3, 1) := by decide +kernel
theorem d_C_sortEdges_47 : decode b_C_sortEdges 47 = .ok (.aload_n 1, 1) := by decide +kernel
theorem d_C_sortEdges_48 : decode b_C_sortEdges 48 = .ok (.getfield 51, 3) := by decide +kernel
theorem d_C_sortEdges_51 : decode b_C_sortEdges 51 = .ok (.iload_n 3, 1) := by decide +kernel
theorem d_C_sortEdges_52 : decode b_C_sortEdges 52 = .ok (.iaload, 1) := by decide +kernel
theorem d_C_sortEdges_53 : decode b_C_sortEdges 53 = .ok (.iload 4, 2) := by decide +kernel
theorem d_C_sortEdges_55 : decode b_C_sortEdges 55 = .ok (.ior, 1) := by decide +kernel
theorem d_C_sortEdges_56 : decode b_C_sortEdges 56 = .ok (.iload 5, 2) := by decide +kernel
theorem d_C_sortEdges_58 : decode b_C_sortEdges 58 = .ok (.ior, 1) := by decide +kernel
theorem d_C_sortEdges_59 : decode b_C_sortEdges 59 = .ok (.iastore, 1) := by decide +kernel
theorem d_C_sortEdges_60 : decode b_C_sortEdges 60 = .ok (.aload_n 0, 1) := by decide +kernel
theorem d_C_sortEdges_61 : decode b_C_sortEdges 61 = .ok (.getfield 15, 3) := by decide +kernel
theorem d_C_sortEdges_64 : decode b_C_sortEdges 64 = .ok (.iload_n 3, 1) := by decide +kernel
theorem d_C_sortEdges_65 : decode b_C_sortEdges 65 = .ok (.aload_n 1, 1) := by decide +kernel
theorem d_C_sortEdges_66 : decode b_C_sortEdges 66 = .ok (.getfield 48, 3) := by decide +kernel
theorem d_C_sortEdges_69 : decode b_C_sortEdges 69 = .ok (.iload_n 3, 1) := by decide +kernel
theorem d_C_sortEdges_70 : decode b_C_sortEdges 70 = .ok (.iaload, 1) := by decide +kernel
theorem d_C_sortEdges_71 : decode b_C_sortEdges 71 = .ok (.iastore, 1) := by decide +kernel
theorem d_C_sortEdges_72 : decode b_C_sortEdges 72 = .ok (.iinc 3 1, 3) := by decide +kernel
theorem d_C_sortEdges_75 : decode b_C_sortEdges 75 = .ok (.goto (-73), 3) := by decide +kernel
theorem d_C_sortEdges_78 : decode b_C_sortEdges 78 = .ok (.return_, 1) := by decide +kernel
abbrev y_C_trace : MethodName := ⟨"HistoryJudge$CycleSearch", "trace", "(IIZ)V"⟩
abbrev b_C_trace : ByteArray := prog_2_method_7_code
theorem d_C_trace_0 : decode b_C_trace 0 = .ok (.iload_n 3, 1) := by decide +kernel
theorem d_C_trace_1 : decode b_C_trace 1 = .ok (.istore 4, 2) := by decide +kernel
theorem d_C_trace_3 : decode b_C_trace 3 = .ok (.iload_n 3, 1) := by decide +kernel
theorem d_C_trace_4 : decode b_C_trace 4 = .ok (.ifCond .ne 7, 3) := by decide +kernel
theorem d_C_trace_7 : decode b_C_trace 7 = .ok (.iconst 1, 1) := by decide +kernel
theorem d_C_trace_8 : decode b_C_trace 8 = .ok (.goto 4, 3) := by decide +kernel
theorem d_C_trace_11 : decode b_C_trace 11 = .ok (.iconst 0, 1) := by decide +kernel
theorem d_C_trace_12 : decode b_C_trace 12 = .ok (.istore 5, 2) := by decide +kernel
theorem d_C_trace_14 : decode b_C_trace 14 = .ok (.aload_n 0, 1) := by decide +kernel
theorem d_C_trace_15 : decode b_C_trace 15 = .ok (.getfield 24, 3) := by decide +kernel
theorem d_C_trace_18 : decode b_C_trace 18 = .ok (.iconst 0, 1) := by decide +kernel
theorem d_C_trace_19 : decode b_C_trace 19 = .ok (.iload_n 1, 1) := by decide +kernel
theorem d_C_trace_20 : decode b_C_trace 20 = .ok (.iastore, 1) := by decide +kernel
theorem d_C_trace_21 : decode b_C_trace 21 = .ok (.iconst 1, 1) := by decide +kernel
theorem d_C_trace_22 : decode b_C_trace 22 = .ok (.istore 6, 2) := by decide +kernel
theorem d_C_trace_24 : decode b_C_trace 24 = .ok (.iload 6, 2) := by decide +kernel
theorem d_C_trace_26 : decode b_C_trace 26 = .ok (.iload_n 2, 1) := by decide +kernel
theorem d_C_trace_27 : decode b_C_trace 27 = .ok (.if_icmp .ge 147, 3) := by decide +kernel
theorem d_C_trace_30 : decode b_C_trace 30 = .ok (.aload_n 0, 1) := by decide +kernel
theorem d_C_trace_31 : decode b_C_trace 31 = .ok (.getfield 24, 3) := by decide +kernel
theorem d_C_trace_34 : decode b_C_trace 34 = .ok (.iload 6, 2) := by decide +kernel
theorem d_C_trace_36 : decode b_C_trace 36 = .ok (.iconst 1, 1) := by decide +kernel
theorem d_C_trace_37 : decode b_C_trace 37 = .ok (.isub, 1) := by decide +kernel
theorem d_C_trace_38 : decode b_C_trace 38 = .ok (.iaload, 1) := by decide +kernel
theorem d_C_trace_39 : decode b_C_trace 39 = .ok (.istore 7, 2) := by decide +kernel
theorem d_C_trace_41 : decode b_C_trace 41 = .ok (.iload_n 2, 1) := by decide +kernel
theorem d_C_trace_42 : decode b_C_trace 42 = .ok (.iload 6, 2) := by decide +kernel
theorem d_C_trace_44 : decode b_C_trace 44 = .ok (.isub, 1) := by decide +kernel
theorem d_C_trace_45 : decode b_C_trace 45 = .ok (.istore 8, 2) := by decide +kernel
theorem d_C_trace_47 : decode b_C_trace 47 = .ok (.iload 4, 2) := by decide +kernel
theorem d_C_trace_49 : decode b_C_trace 49 = .ok (.ifCond .eq 21, 3) := by decide +kernel
theorem d_C_trace_52 : decode b_C_trace 52 = .ok (.aload_n 0, 1) := by decide +kernel
theorem d_C_trace_53 : decode b_C_trace 53 = .ok (.getfield 9, 3) := by decide +kernel
theorem d_C_trace_56 : decode b_C_trace 56 = .ok (.iload 7, 2) := by decide +kernel
theorem d_C_trace_58 : decode b_C_trace 58 = .ok (.iaload, 1) := by decide +kernel
theorem d_C_trace_59 : decode b_C_trace 59 = .ok (.aload_n 0, 1) := by decide +kernel
theorem d_C_trace_60 : decode b_C_trace 60 = .ok (.getfield 21, 3) := by decide +kernel
theorem d_C_trace_63 : decode b_C_trace 63 = .ok (.iload 8, 2) := by decide +kernel
theorem d_C_trace_65 : decode b_C_trace 65 = .ok (.iaload, 1) := by decide +kernel
theorem d_C_trace_66 : decode b_C_trace 66 = .ok (.iand, 1) := by decide +kernel
theorem d_C_trace_67 : decode b_C_trace 67 = .ok (.goto 4, 3) := by decide +kernel
theorem d_C_trace_70 : decode b_C_trace 70 = .ok (.iconst 0, 1) := by decide +kernel
theorem d_C_trace_71 : decode b_C_trace 71 = .ok (.istore 9, 2) := by decide +kernel
theorem d_C_trace_73 : decode b_C_trace 73 = .ok (.iload 4, 2) := by decide +kernel
theorem d_C_trace_75 : decode b_C_trace 75 = .ok (.ifCond .eq 21, 3) := by decide +kernel
theorem d_C_trace_78 : decode b_C_trace 78 = .ok (.aload_n 0, 1) := by decide +kernel
theorem d_C_trace_79 : decode b_C_trace 79 = .ok (.getfield 15, 3) := by decide +kernel
theorem d_C_trace_82 : decode b_C_trace 82 = .ok (.iload 7, 2) := by decide +kernel
theorem d_C_trace_84 : decode b_C_trace 84 = .ok (.iaload, 1) := by decide +kernel
theorem d_C_trace_85 : decode b_C_trace 85 = .ok (.aload_n 0, 1) := by decide +kernel
theorem d_C_trace_86 : decode b_C_trace 86 = .ok (.getfield 18, 3) := by decide +kernel
theorem d_C_trace_89 : decode b_C_trace 89 = .ok (.iload 8, 2) := by decide +kernel
theorem d_C_trace_91 : decode b_C_trace 91 = .ok (.iaload, 1) := by decide +kernel
theorem d_C_trace_92 : decode b_C_trace 92 = .ok (.iand, 1) := by decide +kernel
theorem d_C_trace_93 : decode b_C_trace 93 = .ok (.goto 4, 3) := by decide +kernel
theorem d_C_trace_96 : decode b_C_trace 96 = .ok (.iconst 0, 1) := by decide +kernel
theorem d_C_trace_97 : decode b_C_trace 97 = .ok (.istore 10, 2) := by decide +kernel
theorem d_C_trace_99 : decode b_C_trace 99 = .ok (.iload 5, 2) := by decide +kernel
theorem d_C_trace_101 : decode b_C_trace 101 = .ok (.ifCond .eq 21, 3) := by decide +kernel
theorem d_C_trace_104 : decode b_C_trace 104 = .ok (.aload_n 0, 1) := by decide +kernel
theorem d_C_trace_105 : decode b_C_trace 105 = .ok (.getfield 9, 3) := by decide +kernel
theorem d_C_trace_108 : decode b_C_trace 108 = .ok (.iload 7, 2) := by decide +kernel
theorem d_C_trace_110 : decode b_C_trace 110 = .ok (.iaload, 1) := by decide +kernel
theorem d_C_trace_111 : decode b_C_trace 111 = .ok (.aload_n 0, 1) := by decide +kernel
theorem d_C_trace_112 : decode b_C_trace 112 = .ok (.getfield 18, 3) := by decide +kernel
theorem d_C_trace_115 : decode b_C_trace 115 = .ok (.iload 8, 2) := by decide +kernel
theorem d_C_trace_117 : decode b_C_trace 117 = .ok (.iaload, 1) := by decide +kernel
theorem d_C_trace_118 : decode b_C_trace 118 = .ok (.iand, 1) := by decide +kernel
theorem d_C_trace_119 : decode b_C_trace 119 = .ok (.goto 4, 3) := by decide +kernel
theorem d_C_trace_122 : decode b_C_trace 122 = .ok (.iconst 0, 1) := by decide +kernel
theorem d_C_trace_123 : decode b_C_trace 123 = .ok (.istore 11, 2) := by decide +kernel
theorem d_C_trace_125 : decode b_C_trace 125 = .ok (.iload 9, 2) := by decide +kernel
theorem d_C_trace_127 : decode b_C_trace 127 = .ok (.iload 10, 2) := by decide +kernel
theorem d_C_trace_129 : decode b_C_trace 129 = .ok (.ior, 1) := by decide +kernel
theorem d_C_trace_130 : decode b_C_trace 130 = .ok (.iload 11, 2) := by decide +kernel
theorem d_C_trace_132 : decode b_C_trace 132 = .ok (.ior, 1) := by decide +kernel
theorem d_C_trace_133 : decode b_C_trace 133 = .ok (.invokestatic 65, 3) := by decide +kernel
theorem d_C_trace_136 : decode b_C_trace 136 = .ok (.istore 12, 2) := by decide +kernel
theorem d_C_trace_138 : decode b_C_trace 138 = .ok (.iload 9, 2) := by decide +kernel
theorem d_C_trace_140 : decode b_C_trace 140 = .ok (.iload 12, 2) := by decide +kernel
theorem d_C_trace_142 : decode b_C_trace 142 = .ok (.invokestatic 61, 3) := by decide +kernel
theorem d_C_trace_145 : decode b_C_trace 145 = .ok (.istore 4, 2) := by decide +kernel
theorem d_C_trace_147 : decode b_C_trace 147 = .ok (.iload 10, 2) := by decide +kernel
theorem d_C_trace_149 : decode b_C_trace 149 = .ok (.iload 11, 2) := by decide +kernel
theorem d_C_trace_151 : decode b_C_trace 151 = .ok (.ior, 1) := by decide +kernel
theorem d_C_trace_152 : decode b_C_trace 152 = .ok (.iload 12, 2) := by decide +kernel
theorem d_C_trace_154 : decode b_C_trace 154 = .ok (.invokestatic 61, 3) := by decide +kernel
theorem d_C_trace_157 : decode b_C_trace 157 = .ok (.istore 5, 2) := by decide +kernel
theorem d_C_trace_159 : decode b_C_trace 159 = .ok (.aload_n 0, 1) := by decide +kernel
theorem d_C_trace_160 : decode b_C_trace 160 = .ok (.getfield 24, 3) := by decide +kernel
theorem d_C_trace_163 : decode b_C_trace 163 = .ok (.iload 6, 2) := by decide +kernel
theorem d_C_trace_165 : decode b_C_trace 165 = .ok (.iload 12, 2) := by decide +kernel
theorem d_C_trace_167 : decode b_C_trace 167 = .ok (.iastore, 1) := by decide +kernel
theorem d_C_trace_168 : decode b_C_trace 168 = .ok (.iinc 6 1, 3) := by decide +kernel
theorem d_C_trace_171 : decode b_C_trace 171 = .ok (.goto (-147), 3) := by decide +kernel
theorem d_C_trace_174 : decode b_C_trace 174 = .ok (.return_, 1) := by decide +kernel
abbrev y_G_draw : MethodName := ⟨"HistoryJudge$Graph", "draw", "(LHistoryJudge$History;)V"⟩
abbrev b_G_draw : ByteArray := prog_3_method_2_code
theorem d_G_draw_0 : decode b_G_draw 0 = .ok (.aload_n 0, 1) := by decide +kernel
theorem d_G_draw_1 : decode b_G_draw 1 = .ok (.getfield 9, 3) := by decide +kernel
theorem d_G_draw_4 : decode b_G_draw 4 = .ok (.iconst 0, 1) := by decide +kernel
theorem d_G_draw_5 : decode b_G_draw 5 = .ok (.invokestatic 21, 3) := by decide +kernel
theorem d_G_draw_8 : decode b_G_draw 8 = .ok (.aload_n 0, 1) := by decide +kernel
theorem d_G_draw_9 : decode b_G_draw 9 = .ok (.getfield 15, 3) := by decide +kernel
theorem d_G_draw_12 : decode b_G_draw 12 = .ok (.iconst 0, 1) := by decide +kernel
theorem d_G_draw_13 : decode b_G_draw 13 = .ok (.invokestatic 21, 3) := by decide +kernel
theorem d_G_draw_16 : decode b_G_draw 16 = .ok (.aload_n 0, 1) := by decide +kernel
theorem d_G_draw_17 : decode b_G_draw 17 = .ok (.getfield 18, 3) := by decide +kernel
theorem d_G_draw_20 : decode b_G_draw 20 = .ok (.iconst 0, 1) := by decide +kernel
theorem d_G_draw_21 : decode b_G_draw 21 = .ok (.invokestatic 21, 3) := by decide +kernel
theorem d_G_draw_24 : decode b_G_draw 24 = .ok (.iconst 0, 1) := by decide +kernel
theorem d_G_draw_25 : decode b_G_draw 25 = .ok (.istore_n 2, 1) := by decide +kernel
theorem d_G_draw_26 : decode b_G_draw 26 = .ok (.iload_n 2, 1) := by decide +kernel
theorem d_G_draw_27 : decode b_G_draw 27 = .ok (.bipush 6, 2) := by decide +kernel
theorem d_G_draw_29 : decode b_G_draw 29 = .ok (.if_icmp .ge 15, 3) := by decide +kernel
theorem d_G_draw_32 : decode b_G_draw 32 = .ok (.aload_n 0, 1) := by decide +kernel
theorem d_G_draw_33 : decode b_G_draw 33 = .ok (.aload_n 1, 1) := by decide +kernel
theorem d_G_draw_34 : decode b_G_draw 34 = .ok (.iload_n 2, 1) := by decide +kernel
theorem d_G_draw_35 : decode b_G_draw 35 = .ok (.invokevirtual 27, 3) := by decide +kernel
theorem d_G_draw_38 : decode b_G_draw 38 = .ok (.iinc 2 1, 3) := by decide +kernel
theorem d_G_draw_41 : decode b_G_draw 41 = .ok (.goto (-15), 3) := by decide +kernel
theorem d_G_draw_44 : decode b_G_draw 44 = .ok (.iconst 0, 1) := by decide +kernel
theorem d_G_draw_45 : decode b_G_draw 45 = .ok (.istore_n 2, 1) := by decide +kernel
theorem d_G_draw_46 : decode b_G_draw 46 = .ok (.iload_n 2, 1) := by decide +kernel
theorem d_G_draw_47 : decode b_G_draw 47 = .ok (.aload_n 1, 1) := by decide +kernel
theorem d_G_draw_48 : decode b_G_draw 48 = .ok (.getfield 31, 3) := by decide +kernel
theorem d_G_draw_51 : decode b_G_draw 51 = .ok (.if_icmp .ge 28, 3) := by decide +kernel
theorem d_G_draw_54 : decode b_G_draw 54 = .ok (.aload_n 1, 1) := by decide +kernel
theorem d_G_draw_55 : decode b_G_draw 55 = .ok (.aload_n 1, 1) := by decide +kernel
theorem d_G_draw_56 : decode b_G_draw 56 = .ok (.getfield 37, 3) := by decide +kernel
theorem d_G_draw_59 : decode b_G_draw 59 = .ok (.iload_n 2, 1) := by decide +kernel
theorem d_G_draw_60 : decode b_G_draw 60 = .ok (.iaload, 1) := by decide +kernel
theorem d_G_draw_61 : decode b_G_draw 61 = .ok (.invokevirtual 40, 3) := by decide +kernel
theorem d_G_draw_64 : decode b_G_draw 64 = .ok (.ifCond .eq 9, 3) := by decide +kernel
theorem d_G_draw_67 : decode b_G_draw 67 = .ok (.aload_n 0, 1) := by decide +kernel
theorem d_G_draw_68 : decode b_G_draw 68 = .ok (.aload_n 1, 1) := by decide +kernel
theorem d_G_draw_69 : decode b_G_draw 69 = .ok (.iload_n 2, 1) := by decide +kernel
theorem d_G_draw_70 : decode b_G_draw 70 = .ok (.invokevirtual 44, 3) := by decide +kernel
theorem d_G_draw_73 : decode b_G_draw 73 = .ok (.iinc 2 1, 3) := by decide +kernel
theorem d_G_draw_76 : decode b_G_draw 76 = .ok (.goto (-30), 3) := by decide +kernel
theorem d_G_draw_79 : decode b_G_draw 79 = .ok (.return_, 1) := by decide +kernel
abbrev y_G_drawOrder : MethodName := ⟨"HistoryJudge$Graph", "drawOrder", "(LHistoryJudge$History;I)V"⟩
abbrev b_G_drawOrder : ByteArray := prog_3_method_3_code
theorem d_G_drawOrder_0 : decode b_G_drawOrder 0 = .ok (.aload_n 1, 1) := by decide +kernel
theorem d_G_drawOrder_1 : decode b_G_drawOrder 1 = .ok (.getfield 47, 3) := by decide +kernel
theorem d_G_drawOrder_4 : decode b_G_drawOrder 4 = .ok (.iload_n 2, 1) := by decide +kernel
theorem d_G_drawOrder_5 : decode b_G_drawOrder 5 = .ok (.aaload, 1) := by decide +kernel
theorem d_G_drawOrder_6 : decode b_G_drawOrder 6 = .ok (.astore_n 3, 1) := by decide +kernel
theorem d_G_drawOrder_7 : decode b_G_drawOrder 7 = .ok (.iconst 1, 1) := by decide +kernel
theorem d_G_drawOrder_8 : decode b_G_drawOrder 8 = .ok (.istore 4, 2) := by decide +kernel
theorem d_G_drawOrder_10 : decode b_G_drawOrder 10 = .ok (.iload 4, 2) := by decide +kernel
theorem d_G_drawOrder_12 : decode b_G_drawOrder 12 = .ok (.aload_n 1, 1) := by decide +kernel
theorem d_G_drawOrder_13 : decode b_G_drawOrder 13 = .ok (.getfield 51, 3) := by decide +kernel
theorem d_G_drawOrder_16 : decode b_G_drawOrder 16 = .ok (.iload_n 2, 1) := by decide +kernel
theorem d_G_drawOrder_17 : decode b_G_drawOrder 17 = .ok (.iaload, 1) := by decide +kernel
theorem d_G_drawOrder_18 : decode b_G_drawOrder 18 = .ok (.if_icmp .ge 36, 3) := by decide +kernel
theorem d_G_drawOrder_21 : decode b_G_drawOrder 21 = .ok (.aload_n 0, 1) := by decide +kernel
theorem d_G_drawOrder_22 : decode b_G_drawOrder 22 = .ok (.getfield 9, 3) := by decide +kernel
theorem d_G_drawOrder_25 : decode b_G_drawOrder 25 = .ok (.aload_n 1, 1) := by decide +kernel
theorem d_G_drawOrder_26 : decode b_G_drawOrder 26 = .ok (.getfield 54, 3) := by decide +kernel
theorem d_G_drawOrder_29 : decode b_G_drawOrder 29 = .ok (.aload_n 3, 1) := by decide +kernel
theorem d_G_drawOrder_30 : decode b_G_drawOrder 30 = .ok (.iload 4, 2) := by decide +kernel
theorem d_G_drawOrder_32 : decode b_G_drawOrder 32 = .ok (.iconst 1, 1) := by decide +kernel
theorem d_G_drawOrder_33 : decode b_G_drawOrder 33 = .ok (.isub, 1) := by decide +kernel
theorem d_G_drawOrder_34 : decode b_G_drawOrder 34 = .ok (.iaload, 1) := by decide +kernel
theorem d_G_drawOrder_35 : decode b_G_drawOrder 35 = .ok (.iaload, 1) := by decide +kernel
theorem d_G_drawOrder_36 : decode b_G_drawOrder 36 = .ok (.aload_n 1, 1) := by decide +kernel
theorem d_G_drawOrder_37 : decode b_G_drawOrder 37 = .ok (.getfield 54, 3) := by decide +kernel
theorem d_G_drawOrder_40 : decode b_G_drawOrder 40 = .ok (.aload_n 3, 1) := by decide +kernel
theorem d_G_drawOrder_41 : decode b_G_drawOrder 41 = .ok (.iload 4, 2) := by decide +kernel
theorem d_G_drawOrder_43 : decode b_G_drawOrder 43 = .ok (.iaload, 1) := by decide +kernel
theorem d_G_drawOrder_44 : decode b_G_drawOrder 44 = .ok (.iaload, 1) := by decide +kernel
theorem d_G_drawOrder_45 : decode b_G_drawOrder 45 = .ok (.invokestatic 57, 3) := by decide +kernel
theorem d_G_drawOrder_48 : decode b_G_drawOrder 48 = .ok (.iinc 4 1, 3) := by decide +kernel
theorem d_G_drawOrder_51 : decode b_G_drawOrder 51 = .ok (.goto (-41), 3) := by decide +kernel
theorem d_G_drawOrder_54 : decode b_G_drawOrder 54 = .ok (.return_, 1) := by decide +kernel
abbrev y_G_drawRead : MethodName := ⟨"HistoryJudge$Graph", "drawRead", "(LHistoryJudge$History;I)V"⟩
abbrev b_G_drawRead : ByteArray := prog_3_method_4_code
theorem d_G_drawRead_0 : decode b_G_drawRead 0 = .ok (.aload_n 1, 1) := by decide +kernel
theorem d_G_drawRead_1 : decode b_G_drawRead 1 = .ok (.getfield 37, 3) := by decide +kernel
theorem d_G_drawRead_4 : decode b_G_drawRead 4 = .ok (.iload_n 2, 1) := by decide +kernel
theorem d_G_drawRead_5 : decode b_G_drawRead 5 = .ok (.iaload, 1) := by decide +kernel
theorem d_G_drawRead_6 : decode b_G_drawRead 6 = .ok (.istore_n 3, 1) := by decide +kernel
theorem d_G_drawRead_7 : decode b_G_drawRead 7 = .ok (.aload_n 1, 1) := by decide +kernel
theorem d_G_drawRead_8 : decode b_G_drawRead 8 = .ok (.getfield 61, 3) := by decide +kernel
theorem d_G_drawRead_11 : decode b_G_drawRead 11 = .ok (.iload_n 2, 1) := by decide +kernel
theorem d_G_drawRead_12 : decode b_G_drawRead 12 = .ok (.iaload, 1) := by decide +kernel
theorem d_G_drawRead_13 : decode b_G_drawRead 13 = .ok (.istore 4, 2) := by decide +kernel
theorem d_G_drawRead_15 : decode b_G_drawRead 15 = .ok (.iload 4, 2) := by decide +kernel
theorem d_G_drawRead_17 : decode b_G_drawRead 17 = .ok (.iconst (-1), 1) := by decide +kernel
theorem d_G_drawRead_18 : decode b_G_drawRead 18 = .ok (.if_icmp .eq 32, 3) := by decide +kernel
theorem d_G_drawRead_21 : decode b_G_drawRead 21 = .ok (.aload_n 1, 1) := by decide +kernel
theorem d_G_drawRead_22 : decode b_G_drawRead 22 = .ok (.aload_n 1, 1) := by decide +kernel
theorem d_G_drawRead_23 : decode b_G_drawRead 23 = .ok (.getfield 54, 3) := by decide +kernel
theorem d_G_drawRead_26 : decode b_G_drawRead 26 = .ok (.iload 4, 2) := by decide +kernel
theorem d_G_drawRead_28 : decode b_G_drawRead 28 = .ok (.iaload, 1) := by decide +kernel
theorem d_G_drawRead_29 : decode b_G_drawRead 29 = .ok (.invokevirtual 40, 3) := by decide +kernel
theorem d_G_drawRead_32 : decode b_G_drawRead 32 = .ok (.ifCond .eq 18, 3) := by decide +kernel
theorem d_G_drawRead_35 : decode b_G_drawRead 35 = .ok (.aload_n 0, 1) := by decide +kernel
theorem d_G_drawRead_36 : decode b_G_drawRead 36 = .ok (.getfield 15, 3) := by decide +kernel
theorem d_G_drawRead_39 : decode b_G_drawRead 39 = .ok (.aload_n 1, 1) := by decide +kernel
theorem d_G_drawRead_40 : decode b_G_drawRead 40 = .ok (.getfield 54, 3) := by decide +kernel
theorem d_G_drawRead_43 : decode b_G_drawRead 43 = .ok (.iload 4, 2) := by decide +kernel
theorem d_G_drawRead_45 : decode b_G_drawRead 45 = .ok (.iaload, 1) := by decide +kernel
theorem d_G_drawRead_46 : decode b_G_drawRead 46 = .ok (.iload_n 3, 1) := by decide +kernel
theorem d_G_drawRead_47 : decode b_G_drawRead 47 = .ok (.invokestatic 57, 3) := by decide +kernel
theorem d_G_drawRead_50 : decode b_G_drawRead 50 = .ok (.aload_n 1, 1) := by decide +kernel
theorem d_G_drawRead_51 : decode b_G_drawRead 51 = .ok (.aload_n 1, 1) := by decide +kernel
theorem d_G_drawRead_52 : decode b_G_drawRead 52 = .ok (.getfield 64, 3) := by decide +kernel
theorem d_G_drawRead_55 : decode b_G_drawRead 55 = .ok (.iload_n 2, 1) := by decide +kernel
theorem d_G_drawRead_56 : decode b_G_drawRead 56 = .ok (.iaload, 1) := by decide +kernel
theorem d_G_drawRead_57 : decode b_G_drawRead 57 = .ok (.iload 4, 2) := by decide +kernel
theorem d_G_drawRead_59 : decode b_G_drawRead 59 = .ok (.invokevirtual 67, 3) := by decide +kernel
theorem d_G_drawRead_62 : decode b_G_drawRead 62 = .ok (.istore 5, 2) := by decide +kernel
theorem d_G_drawRead_64 : decode b_G_drawRead 64 = .ok (.iload 5, 2) := by decide +kernel
theorem d_G_drawRead_66 : decode b_G_drawRead 66 = .ok (.iconst (-1), 1) := by decide +kernel
theorem d_G_drawRead_67 : decode b_G_drawRead 67 = .ok (.if_icmp .eq 13, 3) := by decide +kernel
theorem d_G_drawRead_70 : decode b_G_drawRead 70 = .ok (.aload_n 0, 1) := by decide +kernel
theorem d_G_drawRead_71 : decode b_G_drawRead 71 = .ok (.getfield 18, 3) := by decide +kernel
theorem d_G_drawRead_74 : decode b_G_drawRead 74 = .ok (.iload_n 3, 1) := by decide +kernel
theorem d_G_drawRead_75 : decode b_G_drawRead 75 = .ok (.iload 5, 2) := by decide +kernel
theorem d_G_drawRead_77 : decode b_G_drawRead 77 = .ok (.invokestatic 57, 3) := by decide +kernel
theorem d_G_drawRead_80 : decode b_G_drawRead 80 = .ok (.return_, 1) := by decide +kernel
abbrev y_G_init : MethodName := ⟨"HistoryJudge$Graph", "<init>", "()V"⟩
abbrev b_G_init : ByteArray := prog_3_method_1_code
theorem d_G_init_0 : decode b_G_init 0 = .ok (.aload_n 0, 1) := by decide +kernel
theorem d_G_init_1 : decode b_G_init 1 = .ok (.invokespecial 3, 3) := by decide +kernel
theorem d_G_init_4 : decode b_G_init 4 = .ok (.aload_n 0, 1) := by decide +kernel
theorem d_G_init_5 : decode b_G_init 5 = .ok (.bipush 8, 2) := by decide +kernel
theorem d_G_init_7 : decode b_G_init 7 = .ok (.newarray .int, 2) := by decide +kernel
theorem d_G_init_9 : decode b_G_init 9 = .ok (.putfield 9, 3) := by decide +kernel
theorem d_G_init_12 : decode b_G_init 12 = .ok (.aload_n 0, 1) := by decide +kernel
theorem d_G_init_13 : decode b_G_init 13 = .ok (.bipush 8, 2) := by decide +kernel
theorem d_G_init_15 : decode b_G_init 15 = .ok (.newarray .int, 2) := by decide +kernel
theorem d_G_init_17 : decode b_G_init 17 = .ok (.putfield 15, 3) := by decide +kernel
theorem d_G_init_20 : decode b_G_init 20 = .ok (.aload_n 0, 1) := by decide +kernel
theorem d_G_init_21 : decode b_G_init 21 = .ok (.bipush 8, 2) := by decide +kernel
theorem d_G_init_23 : decode b_G_init 23 = .ok (.newarray .int, 2) := by decide +kernel
theorem d_G_init_25 : decode b_G_init 25 = .ok (.putfield 18, 3) := by decide +kernel
theorem d_G_init_28 : decode b_G_init 28 = .ok (.return_, 1) := by decide +kernel
abbrev y_G_join : MethodName := ⟨"HistoryJudge$Graph", "join", "([III)V"⟩
abbrev b_G_join : ByteArray := prog_3_method_5_code
theorem d_G_join_0 : decode b_G_join 0 = .ok (.iload_n 1, 1) := by decide +kernel
theorem d_G_join_1 : decode b_G_join 1 = .ok (.iload_n 2, 1) := by decide +kernel
theorem d_G_join_2 : decode b_G_join 2 = .ok (.if_icmp .eq 13, 3) := by decide +kernel
theorem d_G_join_5 : decode b_G_join 5 = .ok (.aload_n 0, 1) := by decide +kernel
theorem d_G_join_6 : decode b_G_join 6 = .ok (.iload_n 1, 1) := by decide +kernel
theorem d_G_join_7 : decode b_G_join 7 = .ok (.dup2, 1) := by decide +kernel
theorem d_G_join_8 : decode b_G_join 8 = .ok (.iaload, 1) := by decide +kernel
theorem d_G_join_9 : decode b_G_join 9 = .ok (.iload_n 2, 1) := by decide +kernel
theorem d_G_join_10 : decode b_G_join 10 = .ok (.invokestatic 71, 3) := by decide +kernel
theorem d_G_join_13 : decode b_G_join 13 = .ok (.ior, 1) := by decide +kernel
theorem d_G_join_14 : decode b_G_join 14 = .ok (.iastore, 1) := by decide +kernel
theorem d_G_join_15 : decode b_G_join 15 = .ok (.return_, 1) := by decide +kernel
abbrev y_H_addRead : MethodName := ⟨"HistoryJudge$History", "addRead", "(III)I"⟩
abbrev b_H_addRead : ByteArray := prog_4_method_7_code
theorem d_H_addRead_0 : decode b_H_addRead 0 = .ok (.aload_n 0, 1) := by decide +kernel
theorem d_H_addRead_1 : decode b_H_addRead 1 = .ok (.getfield 21, 3) := by decide +kernel
theorem d_H_addRead_4 : decode b_H_addRead 4 = .ok (.aload_n 0, 1) := by decide +kernel
theorem d_H_addRead_5 : decode b_H_addRead 5 = .ok (.getfield 51, 3) := by decide +kernel
theorem d_H_addRead_8 : decode b_H_addRead 8 = .ok (.iload_n 1, 1) := by decide +kernel
theorem d_H_addRead_9 : decode b_H_addRead 9 = .ok (.iastore, 1) := by decide +kernel
theorem d_H_addRead_10 : decode b_H_addRead 10 = .ok (.aload_n 0, 1) := by decide +kernel
theorem d_H_addRead_11 : decode b_H_addRead 11 = .ok (.getfield 24, 3) := by decide +kernel
theorem d_H_addRead_14 : decode b_H_addRead 14 = .ok (.aload_n 0, 1) := by decide +kernel
theorem d_H_addRead_15 : decode b_H_addRead 15 = .ok (.getfield 51, 3) := by decide +kernel
theorem d_H_addRead_18 : decode b_H_addRead 18 = .ok (.iload_n 2, 1) := by decide +kernel
theorem d_H_addRead_19 : decode b_H_addRead 19 = .ok (.iastore, 1) := by decide +kernel
theorem d_H_addRead_20 : decode b_H_addRead 20 = .ok (.aload_n 0, 1) := by decide +kernel
theorem d_H_addRead_21 : decode b_H_addRead 21 = .ok (.getfield 27, 3) := by decide +kernel
theorem d_H_addRead_24 : decode b_H_addRead 24 = .ok (.aload_n 0, 1) := by decide +kernel
theorem d_H_addRead_25 : decode b_H_addRead 25 = .ok (.getfield 51, 3) := by decide +kernel
theorem d_H_addRead_28 : decode b_H_addRead 28 = .ok (.iload_n 3, 1) := by decide +kernel
theorem d_H_addRead_29 : decode b_H_addRead 29 = .ok (.iastore, 1) := by decide +kernel
theorem d_H_addRead_30 : decode b_H_addRead 30 = .ok (.aload_n 0, 1) := by decide +kernel
theorem d_H_addRead_31 : decode b_H_addRead 31 = .ok (.getfield 30, 3) := by decide +kernel
theorem d_H_addRead_34 : decode b_H_addRead 34 = .ok (.aload_n 0, 1) := by decide +kernel
theorem d_H_addRead_35 : decode b_H_addRead 35 = .ok (.getfield 51, 3) := by decide +kernel
theorem d_H_addRead_38 : decode b_H_addRead 38 = .ok (.aload_n 0, 1) := by decide +kernel
theorem d_H_addRead_39 : decode b_H_addRead 39 = .ok (.getfield 35, 3) := by decide +kernel
theorem d_H_addRead_42 : decode b_H_addRead 42 = .ok (.iload_n 1, 1) := by decide +kernel
theorem d_H_addRead_43 : decode b_H_addRead 43 = .ok (.aaload, 1) := by decide +kernel
theorem d_H_addRead_44 : decode b_H_addRead 44 = .ok (.iload_n 2, 1) := by decide +kernel
theorem d_H_addRead_45 : decode b_H_addRead 45 = .ok (.iaload, 1) := by decide +kernel
theorem d_H_addRead_46 : decode b_H_addRead 46 = .ok (.iastore, 1) := by decide +kernel
theorem d_H_addRead_47 : decode b_H_addRead 47 = .ok (.aload_n 0, 1) := by decide +kernel
theorem d_H_addRead_48 : decode b_H_addRead 48 = .ok (.getfield 9, 3) := by decide +kernel
theorem d_H_addRead_51 : decode b_H_addRead 51 = .ok (.iload_n 1, 1) := by decide +kernel
theorem d_H_addRead_52 : decode b_H_addRead 52 = .ok (.iconst 1, 1) := by decide +kernel
theorem d_H_addRead_53 : decode b_H_addRead 53 = .ok (.iastore, 1) := by decide +kernel
theorem d_H_addRead_54 : decode b_H_addRead 54 = .ok (.aload_n 0, 1) := by decide +kernel
theorem d_H_addRead_55 : decode b_H_addRead 55 = .ok (.dup, 1) := by decide +kernel
theorem d_H_addRead_56 : decode b_H_addRead 56 = .ok (.getfield 51, 3) := by decide +kernel
theorem d_H_addRead_59 : decode b_H_addRead 59 = .ok (.iconst 1, 1) := by decide +kernel
theorem d_H_addRead_60 : decode b_H_addRead 60 = .ok (.iadd, 1) := by decide +kernel
theorem d_H_addRead_61 : decode b_H_addRead 61 = .ok (.putfield 51, 3) := by decide +kernel
theorem d_H_addRead_64 : decode b_H_addRead 64 = .ok (.aload_n 0, 1) := by decide +kernel
theorem d_H_addRead_65 : decode b_H_addRead 65 = .ok (.getfield 51, 3) := by decide +kernel
theorem d_H_addRead_68 : decode b_H_addRead 68 = .ok (.ireturn, 1) := by decide +kernel
abbrev y_H_addVersion : MethodName := ⟨"HistoryJudge$History", "addVersion", "(II)I"⟩
abbrev b_H_addVersion : ByteArray := prog_4_method_6_code
theorem d_H_addVersion_0 : decode b_H_addVersion 0 = .ok (.aload_n 0, 1) := by decide +kernel
theorem d_H_addVersion_1 : decode b_H_addVersion 1 = .ok (.getfield 47, 3) := by decide +kernel
theorem d_H_addVersion_4 : decode b_H_addVersion 4 = .ok (.istore_n 3, 1) := by decide +kernel
theorem d_H_addVersion_5 : decode b_H_addVersion 5 = .ok (.aload_n 0, 1) := by decide +kernel
theorem d_H_addVersion_6 : decode b_H_addVersion 6 = .ok (.getfield 15, 3) := by decide +kernel
theorem d_H_addVersion_9 : decode b_H_addVersion 9 = .ok (.iload_n 3, 1) := by decide +kernel
theorem d_H_addVersion_10 : decode b_H_addVersion 10 = .ok (.iload_n 1, 1) := by decide +kernel
theorem d_H_addVersion_11 : decode b_H_addVersion 11 = .ok (.iastore, 1) := by decide +kernel
theorem d_H_addVersion_12 : decode b_H_addVersion 12 = .ok (.aload_n 0, 1) := by decide +kernel
theorem d_H_addVersion_13 : decode b_H_addVersion 13 = .ok (.getfield 18, 3) := by decide +kernel
theorem d_H_addVersion_16 : decode b_H_addVersion 16 = .ok (.iload_n 3, 1) := by decide +kernel
theorem d_H_addVersion_17 : decode b_H_addVersion 17 = .ok (.iload_n 2, 1) := by decide +kernel
theorem d_H_addVersion_18 : decode b_H_addVersion 18 = .ok (.iastore, 1) := by decide +kernel
theorem d_H_addVersion_19 : decode b_H_addVersion 19 = .ok (.aload_n 0, 1) := by decide +kernel
theorem d_H_addVersion_20 : decode b_H_addVersion 20 = .ok (.getfield 35, 3) := by decide +kernel
theorem d_H_addVersion_23 : decode b_H_addVersion 23 = .ok (.iload_n 1, 1) := by decide +kernel
theorem d_H_addVersion_24 : decode b_H_addVersion 24 = .ok (.aaload, 1) := by decide +kernel
theorem d_H_addVersion_25 : decode b_H_addVersion 25 = .ok (.iload_n 2, 1) := by decide +kernel
theorem d_H_addVersion_26 : decode b_H_addVersion 26 = .ok (.iload_n 3, 1) := by decide +kernel
theorem d_H_addVersion_27 : decode b_H_addVersion 27 = .ok (.iastore, 1) := by decide +kernel
theorem d_H_addVersion_28 : decode b_H_addVersion 28 = .ok (.aload_n 0, 1) := by decide +kernel
theorem d_H_addVersion_29 : decode b_H_addVersion 29 = .ok (.getfield 9, 3) := by decide +kernel
theorem d_H_addVersion_32 : decode b_H_addVersion 32 = .ok (.iload_n 1, 1) := by decide +kernel
theorem d_H_addVersion_33 : decode b_H_addVersion 33 = .ok (.iconst 1, 1) := by decide +kernel
theorem d_H_addVersion_34 : decode b_H_addVersion 34 = .ok (.iastore, 1) := by decide +kernel
theorem d_H_addVersion_35 : decode b_H_addVersion 35 = .ok (.aload_n 0, 1) := by decide +kernel
theorem d_H_addVersion_36 : decode b_H_addVersion 36 = .ok (.dup, 1) := by decide +kernel
theorem d_H_addVersion_37 : decode b_H_addVersion 37 = .ok (.getfield 47, 3) := by decide +kernel
theorem d_H_addVersion_40 : decode b_H_addVersion 40 = .ok (.iconst 1, 1) := by decide +kernel
theorem d_H_addVersion_41 : decode b_H_addVersion 41 = .ok (.iadd, 1) := by decide +kernel
theorem d_H_addVersion_42 : decode b_H_addVersion 42 = .ok (.putfield 47, 3) := by decide +kernel
theorem d_H_addVersion_45 : decode b_H_addVersion 45 = .ok (.iload_n 3, 1) := by decide +kernel
theorem d_H_addVersion_46 : decode b_H_addVersion 46 = .ok (.ireturn, 1) := by decide +kernel
abbrev y_H_commit : MethodName := ⟨"HistoryJudge$History", "commit", "(I)V"⟩
abbrev b_H_commit : ByteArray := prog_4_method_8_code
theorem d_H_commit_0 : decode b_H_commit 0 = .ok (.aload_n 0, 1) := by decide +kernel
theorem d_H_commit_1 : decode b_H_commit 1 = .ok (.getfield 9, 3) := by decide +kernel
theorem d_H_commit_4 : decode b_H_commit 4 = .ok (.iload_n 1, 1) := by decide +kernel
theorem d_H_commit_5 : decode b_H_commit 5 = .ok (.iconst 2, 1) := by decide +kernel
theorem d_H_commit_6 : decode b_H_commit 6 = .ok (.iastore, 1) := by decide +kernel
theorem d_H_commit_7 : decode b_H_commit 7 = .ok (.iconst 0, 1) := by decide +kernel
theorem d_H_commit_8 : decode b_H_commit 8 = .ok (.istore_n 2, 1) := by decide +kernel
theorem d_H_commit_9 : decode b_H_commit 9 = .ok (.iload_n 2, 1) := by decide +kernel
theorem d_H_commit_10 : decode b_H_commit 10 = .ok (.bipush 6, 2) := by decide +kernel
theorem d_H_commit_12 : decode b_H_commit 12 = .ok (.if_icmp .ge 63, 3) := by decide +kernel
theorem d_H_commit_15 : decode b_H_commit 15 = .ok (.aload_n 0, 1) := by decide +kernel
theorem d_H_commit_16 : decode b_H_commit 16 = .ok (.getfield 35, 3) := by decide +kernel
theorem d_H_commit_19 : decode b_H_commit 19 = .ok (.iload_n 1, 1) := by decide +kernel
theorem d_H_commit_20 : decode b_H_commit 20 = .ok (.aaload, 1) := by decide +kernel
theorem d_H_commit_21 : decode b_H_commit 21 = .ok (.iload_n 2, 1) := by decide +kernel
theorem d_H_commit_22 : decode b_H_commit 22 = .ok (.iaload, 1) := by decide +kernel
theorem d_H_commit_23 : decode b_H_commit 23 = .ok (.iconst (-1), 1) := by decide +kernel
theorem d_H_commit_24 : decode b_H_commit 24 = .ok (.if_icmp .eq 45, 3) := by decide +kernel
theorem d_H_commit_27 : decode b_H_commit 27 = .ok (.aload_n 0, 1) := by decide +kernel
theorem d_H_commit_28 : decode b_H_commit 28 = .ok (.getfield 41, 3) := by decide +kernel
theorem d_H_commit_31 : decode b_H_commit 31 = .ok (.iload_n 2, 1) := by decide +kernel
theorem d_H_commit_32 : decode b_H_commit 32 = .ok (.iaload, 1) := by decide +kernel
theorem d_H_commit_33 : decode b_H_commit 33 = .ok (.bipush 8, 2) := by decide +kernel
theorem d_H_commit_35 : decode b_H_commit 35 = .ok (.if_icmp .ge 34, 3) := by decide +kernel
theorem d_H_commit_38 : decode b_H_commit 38 = .ok (.aload_n 0, 1) := by decide +kernel
theorem d_H_commit_39 : decode b_H_commit 39 = .ok (.getfield 38, 3) := by decide +kernel
theorem d_H_commit_42 : decode b_H_commit 42 = .ok (.iload_n 2, 1) := by decide +kernel
theorem d_H_commit_43 : decode b_H_commit 43 = .ok (.aaload, 1) := by decide +kernel
theorem d_H_commit_44 : decode b_H_commit 44 = .ok (.aload_n 0, 1) := by decide +kernel
theorem d_H_commit_45 : decode b_H_commit 45 = .ok (.getfield 41, 3) := by decide +kernel
theorem d_H_commit_48 : decode b_H_commit 48 = .ok (.iload_n 2, 1) := by decide +kernel
theorem d_H_commit_49 : decode b_H_commit 49 = .ok (.iaload, 1) := by decide +kernel
theorem d_H_commit_50 : decode b_H_commit 50 = .ok (.aload_n 0, 1) := by decide +kernel
theorem d_H_commit_51 : decode b_H_commit 51 = .ok (.getfield 35, 3) := by decide +kernel
theorem d_H_commit_54 : decode b_H_commit 54 = .ok (.iload_n 1, 1) := by decide +kernel
theorem d_H_commit_55 : decode b_H_commit 55 = .ok (.aaload, 1) := by decide +kernel
theorem d_H_commit_56 : decode b_H_commit 56 = .ok (.iload_n 2, 1) := by decide +kernel
theorem d_H_commit_57 : decode b_H_commit 57 = .ok (.iaload, 1) := by decide +kernel
theorem d_H_commit_58 : decode b_H_commit 58 = .ok (.iastore, 1) := by decide +kernel
theorem d_H_commit_59 : decode b_H_commit 59 = .ok (.aload_n 0, 1) := by decide +kernel
theorem d_H_commit_60 : decode b_H_commit 60 = .ok (.getfield 41, 3) := by decide +kernel
theorem d_H_commit_63 : decode b_H_commit 63 = .ok (.iload_n 2, 1) := by decide +kernel
theorem d_H_commit_64 : decode b_H_commit 64 = .ok (.dup2, 1) := by decide +kernel
theorem d_H_commit_65 : decode b_H_commit 65 = .ok (.iaload, 1) := by decide +kernel
theorem d_H_commit_66 : decode b_H_commit 66 = .ok (.iconst 1, 1) := by decide +kernel
theorem d_H_commit_67 : decode b_H_commit 67 = .ok (.iadd, 1) := by decide +kernel
theorem d_H_commit_68 : decode b_H_commit 68 = .ok (.iastore, 1) := by decide +kernel
theorem d_H_commit_69 : decode b_H_commit 69 = .ok (.iinc 2 1, 3) := by decide +kernel
theorem d_H_commit_72 : decode b_H_commit 72 = .ok (.goto (-63), 3) := by decide +kernel
theorem d_H_commit_75 : decode b_H_commit 75 = .ok (.return_, 1) := by decide +kernel
abbrev y_H_committedSet : MethodName := ⟨"HistoryJudge$History", "committedSet", "()I"⟩
abbrev b_H_committedSet : ByteArray := prog_4_method_9_code
theorem d_H_committedSet_0 : decode b_H_committedSet 0 = .ok (.iconst 0, 1) := by decide +kernel
theorem d_H_committedSet_1 : decode b_H_committedSet 1 = .ok (.istore_n 1, 1) := by decide +kernel
theorem d_H_committedSet_2 : decode b_H_committedSet 2 = .ok (.iconst 0, 1) := by decide +kernel
theorem d_H_committedSet_3 : decode b_H_committedSet 3 = .ok (.istore_n 2, 1) := by decide +kernel
theorem d_H_committedSet_4 : decode b_H_committedSet 4 = .ok (.iload_n 2, 1) := by decide +kernel
theorem d_H_committedSet_5 : decode b_H_committedSet 5 = .ok (.bipush 8, 2) := by decide +kernel
theorem d_H_committedSet_7 : decode b_H_committedSet 7 = .ok (.if_icmp .ge 24, 3) := by decide +kernel
theorem d_H_committedSet_10 : decode b_H_committedSet 10 = .ok (.aload_n 0, 1) := by decide +kernel
theorem d_H_committedSet_11 : decode b_H_committedSet 11 = .ok (.iload_n 2, 1) := by decide +kernel
theorem d_H_committedSet_12 : decode b_H_committedSet 12 = .ok (.invokevirtual 60, 3) := by decide +kernel
theorem d_H_committedSet_15 : decode b_H_committedSet 15 = .ok (.ifCond .eq 10, 3) := by decide +kernel
theorem d_H_committedSet_18 : decode b_H_committedSet 18 = .ok (.iload_n 1, 1) := by decide +kernel
theorem d_H_committedSet_19 : decode b_H_committedSet 19 = .ok (.iload_n 2, 1) := by decide +kernel
theorem d_H_committedSet_20 : decode b_H_committedSet 20 = .ok (.invokestatic 64, 3) := by decide +kernel
theorem d_H_committedSet_23 : decode b_H_committedSet 23 = .ok (.ior, 1) := by decide +kernel
theorem d_H_committedSet_24 : decode b_H_committedSet 24 = .ok (.istore_n 1, 1) := by decide +kernel
theorem d_H_committedSet_25 : decode b_H_committedSet 25 = .ok (.iinc 2 1, 3) := by decide +kernel
theorem d_H_committedSet_28 : decode b_H_committedSet 28 = .ok (.goto (-24), 3) := by decide +kernel
theorem d_H_committedSet_31 : decode b_H_committedSet 31 = .ok (.iload_n 1, 1) := by decide +kernel
theorem d_H_committedSet_32 : decode b_H_committedSet 32 = .ok (.ireturn, 1) := by decide +kernel
abbrev y_H_hasAbortedRead : MethodName := ⟨"HistoryJudge$History", "hasAbortedRead", "()Z"⟩
abbrev b_H_hasAbortedRead : ByteArray := prog_4_method_14_code
theorem d_H_hasAbortedRead_0 : decode b_H_hasAbortedRead 0 = .ok (.iconst 0, 1) := by decide +kernel
theorem d_H_hasAbortedRead_1 : decode b_H_hasAbortedRead 1 = .ok (.istore_n 1, 1) := by decide +kernel
theorem d_H_hasAbortedRead_2 : decode b_H_hasAbortedRead 2 = .ok (.iload_n 1, 1) := by decide +kernel
theorem d_H_hasAbortedRead_3 : decode b_H_hasAbortedRead 3 = .ok (.aload_n 0, 1) := by decide +kernel
theorem d_H_hasAbortedRead_4 : decode b_H_hasAbortedRead 4 = .ok (.getfield 51, 3) := by decide +kernel
theorem d_H_hasAbortedRead_7 : decode b_H_hasAbortedRead 7 = .ok (.if_icmp .ge 37, 3) := by decide +kernel
theorem d_H_hasAbortedRead_10 : decode b_H_hasAbortedRead 10 = .ok (.aload_n 0, 1) := by decide +kernel
theorem d_H_hasAbortedRead_11 : decode b_H_hasAbortedRead 11 = .ok (.iload_n 1, 1) := by decide +kernel
theorem d_H_hasAbortedRead_12 : decode b_H_hasAbortedRead 12 = .ok (.invokevirtual 72, 3) := by decide +kernel
theorem d_H_hasAbortedRead_15 : decode b_H_hasAbortedRead 15 = .ok (.ifCond .eq 23, 3) := by decide +kernel
theorem d_H_hasAbortedRead_18 : decode b_H_hasAbortedRead 18 = .ok (.aload_n 0, 1) := by decide +kernel
theorem d_H_hasAbortedRead_19 : decode b_H_hasAbortedRead 19 = .ok (.aload_n 0, 1) := by decide +kernel
theorem d_H_hasAbortedRead_20 : decode b_H_hasAbortedRead 20 = .ok (.getfield 15, 3) := by decide +kernel
theorem d_H_hasAbortedRead_23 : decode b_H_hasAbortedRead 23 = .ok (.aload_n 0, 1) := by decide +kernel
theorem d_H_hasAbortedRead_24 : decode b_H_hasAbortedRead 24 = .ok (.getfield 27, 3) := by decide +kernel
theorem d_H_hasAbortedRead_27 : decode b_H_hasAbortedRead 27 = .ok (.iload_n 1, 1) := by decide +kernel
theorem d_H_hasAbortedRead_28 : decode b_H_hasAbortedRead 28 = .ok (.iaload, 1) := by decide +kernel
theorem d_H_hasAbortedRead_29 : decode b_H_hasAbortedRead 29 = .ok (.iaload, 1) := by decide +kernel
theorem d_H_hasAbortedRead_30 : decode b_H_hasAbortedRead 30 = .ok (.invokevirtual 60, 3) := by decide +kernel
theorem d_H_hasAbortedRead_33 : decode b_H_hasAbortedRead 33 = .ok (.ifCond .ne 5, 3) := by decide +kernel
theorem d_H_hasAbortedRead_36 : decode b_H_hasAbortedRead 36 = .ok (.iconst 1, 1) := by decide +kernel
theorem d_H_hasAbortedRead_37 : decode b_H_hasAbortedRead 37 = .ok (.ireturn, 1) := by decide +kernel
theorem d_H_hasAbortedRead_38 : decode b_H_hasAbortedRead 38 = .ok (.iinc 1 1, 3) := by decide +kernel
theorem d_H_hasAbortedRead_41 : decode b_H_hasAbortedRead 41 = .ok (.goto (-39), 3) := by decide +kernel
theorem d_H_hasAbortedRead_44 : decode b_H_hasAbortedRead 44 = .ok (.iconst 0, 1) := by decide +kernel
theorem d_H_hasAbortedRead_45 : decode b_H_hasAbortedRead 45 = .ok (.ireturn, 1) := by decide +kernel
abbrev y_H_hasEnded : MethodName := ⟨"HistoryJudge$History", "hasEnded", "(I)Z"⟩
abbrev b_H_hasEnded : ByteArray := prog_4_method_3_code
theorem d_H_hasEnded_0 : decode b_H_hasEnded 0 = .ok (.aload_n 0, 1) := by decide +kernel
theorem d_H_hasEnded_1 : decode b_H_hasEnded 1 = .ok (.getfield 9, 3) := by decide +kernel
theorem d_H_hasEnded_4 : decode b_H_hasEnded 4 = .ok (.iload_n 1, 1) := by decide +kernel
theorem d_H_hasEnded_5 : decode b_H_hasEnded 5 = .ok (.iaload, 1) := by decide +kernel
theorem d_H_hasEnded_6 : decode b_H_hasEnded 6 = .ok (.iconst 2, 1) := by decide +kernel
theorem d_H_hasEnded_7 : decode b_H_hasEnded 7 = .ok (.if_icmp .eq 13, 3) := by decide +kernel
theorem d_H_hasEnded_10 : decode b_H_hasEnded 10 = .ok (.aload_n 0, 1) := by decide +kernel
theorem d_H_hasEnded_11 : decode b_H_hasEnded 11 = .ok (.getfield 9, 3) := by decide +kernel
theorem d_H_hasEnded_14 : decode b_H_hasEnded 14 = .ok (.iload_n 1, 1) := by decide +kernel
theorem d_H_hasEnded_15 : decode b_H_hasEnded 15 = .ok (.iaload, 1) := by decide +kernel
theorem d_H_hasEnded_16 : decode b_H_hasEnded 16 = .ok (.iconst 3, 1) := by decide +kernel
theorem d_H_hasEnded_17 : decode b_H_hasEnded 17 = .ok (.if_icmp .ne 7, 3) := by decide +kernel
theorem d_H_hasEnded_20 : decode b_H_hasEnded 20 = .ok (.iconst 1, 1) := by decide +kernel
theorem d_H_hasEnded_21 : decode b_H_hasEnded 21 = .ok (.goto 4, 3) := by decide +kernel
theorem d_H_hasEnded_24 : decode b_H_hasEnded 24 = .ok (.iconst 0, 1) := by decide +kernel
theorem d_H_hasEnded_25 : decode b_H_hasEnded 25 = .ok (.ireturn, 1) := by decide +kernel
abbrev y_H_hasUnfinishedRead : MethodName := ⟨"HistoryJudge$History", "hasUnfinishedRead", "()Z"⟩
abbrev b_H_hasUnfinishedRead : ByteArray := prog_4_method_15_code
theorem d_H_hasUnfinishedRead_0 : decode b_H_hasUnfinishedRead 0 = .ok (.iconst 0, 1) := by decide +kernel
theorem d_H_hasUnfinishedRead_1 : decode b_H_hasUnfinishedRead 1 = .ok (.istore_n 1, 1) := by decide +kernel
theorem d_H_hasUnfinishedRead_2 : decode b_H_hasUnfinishedRead 2 = .ok (.iload_n 1, 1) := by decide +kernel
theorem d_H_hasUnfinishedRead_3 : decode b_H_hasUnfinishedRead 3 = .ok (.aload_n 0, 1) := by decide +kernel
theorem d_H_hasUnfinishedRead_4 : decode b_H_hasUnfinishedRead 4 = .ok (.getfield 51, 3) := by decide +kernel
theorem d_H_hasUnfinishedRead_7 : decode b_H_hasUnfinishedRead 7 = .ok (.if_icmp .ge 40, 3) := by decide +kernel
theorem d_H_hasUnfinishedRead_10 : decode b_H_hasUnfinishedRead 10 = .ok (.aload_n 0, 1) := by decide +kernel
theorem d_H_hasUnfinishedRead_11 : decode b_H_hasUnfinishedRead 11 = .ok (.iload_n 1, 1) := by decide +kernel
theorem d_H_hasUnfinishedRead_12 : decode b_H_hasUnfinishedRead 12 = .ok (.invokevirtual 72, 3) := by decide +kernel
theorem d_H_hasUnfinishedRead_15 : decode b_H_hasUnfinishedRead 15 = .ok (.ifCond .eq 26, 3) := by decide +kernel
theorem d_H_hasUnfinishedRead_18 : decode b_H_hasUnfinishedRead 18 = .ok (.aload_n 0, 1) := by decide +kernel
theorem d_H_hasUnfinishedRead_19 : decode b_H_hasUnfinishedRead 19 = .ok (.iload_n 1, 1) := by decide +kernel
theorem d_H_hasUnfinishedRead_20 : decode b_H_hasUnfinishedRead 20 = .ok (.invokevirtual 75, 3) := by decide +kernel
theorem d_H_hasUnfinishedRead_23 : decode b_H_hasUnfinishedRead 23 = .ok (.ifCond .eq 18, 3) := by decide +kernel
theorem d_H_hasUnfinishedRead_26 : decode b_H_hasUnfinishedRead 26 = .ok (.aload_n 0, 1) := by decide +kernel
theorem d_H_hasUnfinishedRead_27 : decode b_H_hasUnfinishedRead 27 = .ok (.aload_n 0, 1) := by decide +kernel
theorem d_H_hasUnfinishedRead_28 : decode b_H_hasUnfinishedRead 28 = .ok (.getfield 27, 3) := by decide +kernel
theorem d_H_hasUnfinishedRead_31 : decode b_H_hasUnfinishedRead 31 = .ok (.iload_n 1, 1) := by decide +kernel
theorem d_H_hasUnfinishedRead_32 : decode b_H_hasUnfinishedRead 32 = .ok (.iaload, 1) := by decide +kernel
theorem d_H_hasUnfinishedRead_33 : decode b_H_hasUnfinishedRead 33 = .ok (.invokevirtual 78, 3) := by decide +kernel
theorem d_H_hasUnfinishedRead_36 : decode b_H_hasUnfinishedRead 36 = .ok (.ifCond .ne 5, 3) := by decide +kernel
theorem d_H_hasUnfinishedRead_39 : decode b_H_hasUnfinishedRead 39 = .ok (.iconst 1, 1) := by decide +kernel
theorem d_H_hasUnfinishedRead_40 : decode b_H_hasUnfinishedRead 40 = .ok (.ireturn, 1) := by decide +kernel
theorem d_H_hasUnfinishedRead_41 : decode b_H_hasUnfinishedRead 41 = .ok (.iinc 1 1, 3) := by decide +kernel
theorem d_H_hasUnfinishedRead_44 : decode b_H_hasUnfinishedRead 44 = .ok (.goto (-42), 3) := by decide +kernel
theorem d_H_hasUnfinishedRead_47 : decode b_H_hasUnfinishedRead 47 = .ok (.iconst 0, 1) := by decide +kernel
theorem d_H_hasUnfinishedRead_48 : decode b_H_hasUnfinishedRead 48 = .ok (.ireturn, 1) := by decide +kernel
abbrev y_H_hasVersion : MethodName := ⟨"HistoryJudge$History", "hasVersion", "(II)Z"⟩
abbrev b_H_hasVersion : ByteArray := prog_4_method_5_code
theorem d_H_hasVersion_0 : decode b_H_hasVersion 0 = .ok (.iload_n 2, 1) := by decide +kernel
theorem d_H_hasVersion_1 : decode b_H_hasVersion 1 = .ok (.iconst (-1), 1) := by decide +kernel
theorem d_H_hasVersion_2 : decode b_H_hasVersion 2 = .ok (.if_icmp .ne 5, 3) := by decide +kernel
theorem d_H_hasVersion_5 : decode b_H_hasVersion 5 = .ok (.iconst 1, 1) := by decide +kernel
theorem d_H_hasVersion_6 : decode b_H_hasVersion 6 = .ok (.ireturn, 1) := by decide +kernel
theorem d_H_hasVersion_7 : decode b_H_hasVersion 7 = .ok (.iload_n 2, 1) := by decide +kernel
theorem d_H_hasVersion_8 : decode b_H_hasVersion 8 = .ok (.ifCond .lt 25, 3) := by decide +kernel
theorem d_H_hasVersion_11 : decode b_H_hasVersion 11 = .ok (.iload_n 2, 1) := by decide +kernel
theorem d_H_hasVersion_12 : decode b_H_hasVersion 12 = .ok (.aload_n 0, 1) := by decide +kernel
theorem d_H_hasVersion_13 : decode b_H_hasVersion 13 = .ok (.getfield 47, 3) := by decide +kernel
theorem d_H_hasVersion_16 : decode b_H_hasVersion 16 = .ok (.if_icmp .ge 17, 3) := by decide +kernel
theorem d_H_hasVersion_19 : decode b_H_hasVersion 19 = .ok (.aload_n 0, 1) := by decide +kernel
theorem d_H_hasVersion_20 : decode b_H_hasVersion 20 = .ok (.getfield 18, 3) := by decide +kernel
theorem d_H_hasVersion_23 : decode b_H_hasVersion 23 = .ok (.iload_n 2, 1) := by decide +kernel
theorem d_H_hasVersion_24 : decode b_H_hasVersion 24 = .ok (.iaload, 1) := by decide +kernel
theorem d_H_hasVersion_25 : decode b_H_hasVersion 25 = .ok (.iload_n 1, 1) := by decide +kernel
theorem d_H_hasVersion_26 : decode b_H_hasVersion 26 = .ok (.if_icmp .ne 7, 3) := by decide +kernel
theorem d_H_hasVersion_29 : decode b_H_hasVersion 29 = .ok (.iconst 1, 1) := by decide +kernel
theorem d_H_hasVersion_30 : decode b_H_hasVersion 30 = .ok (.goto 4, 3) := by decide +kernel
theorem d_H_hasVersion_33 : decode b_H_hasVersion 33 = .ok (.iconst 0, 1) := by decide +kernel
theorem d_H_hasVersion_34 : decode b_H_hasVersion 34 = .ok (.ireturn, 1) := by decide +kernel
abbrev y_H_hasWritten : MethodName := ⟨"HistoryJudge$History", "hasWritten", "(II)Z"⟩
abbrev b_H_hasWritten : ByteArray := prog_4_method_10_code
theorem d_H_hasWritten_0 : decode b_H_hasWritten 0 = .ok (.aload_n 0, 1) := by decide +kernel
theorem d_H_hasWritten_1 : decode b_H_hasWritten 1 = .ok (.getfield 35, 3) := by decide +kernel
theorem d_H_hasWritten_4 : decode b_H_hasWritten 4 = .ok (.iload_n 1, 1) := by decide +kernel
theorem d_H_hasWritten_5 : decode b_H_hasWritten 5 = .ok (.aaload, 1) := by decide +kernel
theorem d_H_hasWritten_6 : decode b_H_hasWritten 6 = .ok (.iload_n 2, 1) := by decide +kernel
theorem d_H_hasWritten_7 : decode b_H_hasWritten 7 = .ok (.iaload, 1) := by decide +kernel
theorem d_H_hasWritten_8 : decode b_H_hasWritten 8 = .ok (.iconst (-1), 1) := by decide +kernel
theorem d_H_hasWritten_9 : decode b_H_hasWritten 9 = .ok (.if_icmp .eq 7, 3) := by decide +kernel
theorem d_H_hasWritten_12 : decode b_H_hasWritten 12 = .ok (.iconst 1, 1) := by decide +kernel
theorem d_H_hasWritten_13 : decode b_H_hasWritten 13 = .ok (.goto 4, 3) := by decide +kernel
theorem d_H_hasWritten_16 : decode b_H_hasWritten 16 = .ok (.iconst 0, 1) := by decide +kernel
theorem d_H_hasWritten_17 : decode b_H_hasWritten 17 = .ok (.ireturn, 1) := by decide +kernel
abbrev y_H_init : MethodName := ⟨"HistoryJudge$History", "<init>", "()V"⟩
abbrev b_H_init : ByteArray := prog_4_method_1_code
theorem d_H_init_0 : decode b_H_init 0 = .ok (.aload_n 0, 1) := by decide +kernel
theorem d_H_init_1 : decode b_H_init 1 = .ok (.invokespecial 3, 3) := by decide +kernel
theorem d_H_init_4 : decode b_H_init 4 = .ok (.aload_n 0, 1) := by decide +kernel
theorem d_H_init_5 : decode b_H_init 5 = .ok (.bipush 8, 2) := by decide +kernel
theorem d_H_init_7 : decode b_H_init 7 = .ok (.newarray .int, 2) := by decide +kernel
theorem d_H_init_9 : decode b_H_init 9 = .ok (.putfield 9, 3) := by decide +kernel
theorem d_H_init_12 : decode b_H_init 12 = .ok (.aload_n 0, 1) := by decide +kernel
theorem d_H_init_13 : decode b_H_init 13 = .ok (.bipush 40, 2) := by decide +kernel
theorem d_H_init_15 : decode b_H_init 15 = .ok (.newarray .int, 2) := by decide +kernel
theorem d_H_init_17 : decode b_H_init 17 = .ok (.putfield 15, 3) := by decide +kernel
theorem d_H_init_20 : decode b_H_init 20 = .ok (.aload_n 0, 1) := by decide +kernel
theorem d_H_init_21 : decode b_H_init 21 = .ok (.bipush 40, 2) := by decide +kernel
theorem d_H_init_23 : decode b_H_init 23 = .ok (.newarray .int, 2) := by decide +kernel
theorem d_H_init_25 : decode b_H_init 25 = .ok (.putfield 18, 3) := by decide +kernel
theorem d_H_init_28 : decode b_H_init 28 = .ok (.aload_n 0, 1) := by decide +kernel
theorem d_H_init_29 : decode b_H_init 29 = .ok (.bipush 60, 2) := by decide +kernel
theorem d_H_init_31 : decode b_H_init 31 = .ok (.newarray .int, 2) := by decide +kernel
theorem d_H_init_33 : decode b_H_init 33 = .ok (.putfield 21, 3) := by decide +kernel
theorem d_H_init_36 : decode b_H_init 36 = .ok (.aload_n 0, 1) := by decide +kernel
theorem d_H_init_37 : decode b_H_init 37 = .ok (.bipush 60, 2) := by decide +kernel
theorem d_H_init_39 : decode b_H_init 39 = .ok (.newarray .int, 2) := by decide +kernel
theorem d_H_init_41 : decode b_H_init 41 = .ok (.putfield 24, 3) := by decide +kernel
theorem d_H_init_44 : decode b_H_init 44 = .ok (.aload_n 0, 1) := by decide +kernel
theorem d_H_init_45 : decode b_H_init 45 = .ok (.bipush 60, 2) := by decide +kernel
theorem d_H_init_47 : decode b_H_init 47 = .ok (.newarray .int, 2) := by decide +kernel
theorem d_H_init_49 : decode b_H_init 49 = .ok (.putfield 27, 3) := by decide +kernel
theorem d_H_init_52 : decode b_H_init 52 = .ok (.aload_n 0, 1) := by decide +kernel
theorem d_H_init_53 : decode b_H_init 53 = .ok (.bipush 60, 2) := by decide +kernel
theorem d_H_init_55 : decode b_H_init 55 = .ok (.newarray .int, 2) := by decide +kernel
theorem d_H_init_57 : decode b_H_init 57 = .ok (.putfield 30, 3) := by decide +kernel
theorem d_H_init_60 : decode b_H_init 60 = .ok (.aload_n 0, 1) := by decide +kernel
theorem d_H_init_61 : decode b_H_init 61 = .ok (.bipush 8, 2) := by decide +kernel
theorem d_H_init_63 : decode b_H_init 63 = .ok (.bipush 6, 2) := by decide +kernel
theorem d_H_init_65 : decode b_H_init 65 = .ok (.multianewarray 33 2, 4) := by decide +kernel
theorem d_H_init_69 : decode b_H_init 69 = .ok (.putfield 35, 3) := by decide +kernel
theorem d_H_init_72 : decode b_H_init 72 = .ok (.aload_n 0, 1) := by decide +kernel
theorem d_H_init_73 : decode b_H_init 73 = .ok (.bipush 6, 2) := by decide +kernel
theorem d_H_init_75 : decode b_H_init 75 = .ok (.bipush 8, 2) := by decide +kernel
theorem d_H_init_77 : decode b_H_init 77 = .ok (.multianewarray 33 2, 4) := by decide +kernel
theorem d_H_init_81 : decode b_H_init 81 = .ok (.putfield 38, 3) := by decide +kernel
theorem d_H_init_84 : decode b_H_init 84 = .ok (.aload_n 0, 1) := by decide +kernel
theorem d_H_init_85 : decode b_H_init 85 = .ok (.bipush 6, 2) := by decide +kernel
theorem d_H_init_87 : decode b_H_init 87 = .ok (.newarray .int, 2) := by decide +kernel
theorem d_H_init_89 : decode b_H_init 89 = .ok (.putfield 41, 3) := by decide +kernel
theorem d_H_init_92 : decode b_H_init 92 = .ok (.aload_n 0, 1) := by decide +kernel
theorem d_H_init_93 : decode b_H_init 93 = .ok (.invokevirtual 44, 3) := by decide +kernel
theorem d_H_init_96 : decode b_H_init 96 = .ok (.return_, 1) := by decide +kernel
abbrev y_H_isCommitted : MethodName := ⟨"HistoryJudge$History", "isCommitted", "(I)Z"⟩
abbrev b_H_isCommitted : ByteArray := prog_4_method_4_code
theorem d_H_isCommitted_0 : decode b_H_isCommitted 0 = .ok (.aload_n 0, 1) := by decide +kernel
theorem d_H_isCommitted_1 : decode b_H_isCommitted 1 = .ok (.getfield 9, 3) := by decide +kernel
theorem d_H_isCommitted_4 : decode b_H_isCommitted 4 = .ok (.iload_n 1, 1) := by decide +kernel
theorem d_H_isCommitted_5 : decode b_H_isCommitted 5 = .ok (.iaload, 1) := by decide +kernel
theorem d_H_isCommitted_6 : decode b_H_isCommitted 6 = .ok (.iconst 2, 1) := by decide +kernel
theorem d_H_isCommitted_7 : decode b_H_isCommitted 7 = .ok (.if_icmp .ne 7, 3) := by decide +kernel
theorem d_H_isCommitted_10 : decode b_H_isCommitted 10 = .ok (.iconst 1, 1) := by decide +kernel
theorem d_H_isCommitted_11 : decode b_H_isCommitted 11 = .ok (.goto 4, 3) := by decide +kernel
theorem d_H_isCommitted_14 : decode b_H_isCommitted 14 = .ok (.iconst 0, 1) := by decide +kernel
theorem d_H_isCommitted_15 : decode b_H_isCommitted 15 = .ok (.ireturn, 1) := by decide +kernel
abbrev y_H_isFinal : MethodName := ⟨"HistoryJudge$History", "isFinal", "(I)Z"⟩
abbrev b_H_isFinal : ByteArray := prog_4_method_11_code
theorem d_H_isFinal_0 : decode b_H_isFinal 0 = .ok (.aload_n 0, 1) := by decide +kernel
theorem d_H_isFinal_1 : decode b_H_isFinal 1 = .ok (.getfield 35, 3) := by decide +kernel
theorem d_H_isFinal_4 : decode b_H_isFinal 4 = .ok (.aload_n 0, 1) := by decide +kernel
theorem d_H_isFinal_5 : decode b_H_isFinal 5 = .ok (.getfield 15, 3) := by decide +kernel
theorem d_H_isFinal_8 : decode b_H_isFinal 8 = .ok (.iload_n 1, 1) := by decide +kernel
theorem d_H_isFinal_9 : decode b_H_isFinal 9 = .ok (.iaload, 1) := by decide +kernel
theorem d_H_isFinal_10 : decode b_H_isFinal 10 = .ok (.aaload, 1) := by decide +kernel
theorem d_H_isFinal_11 : decode b_H_isFinal 11 = .ok (.aload_n 0, 1) := by decide +kernel
theorem d_H_isFinal_12 : decode b_H_isFinal 12 = .ok (.getfield 18, 3) := by decide +kernel
theorem d_H_isFinal_15 : decode b_H_isFinal 15 = .ok (.iload_n 1, 1) := by decide +kernel
theorem d_H_isFinal_16 : decode b_H_isFinal 16 = .ok (.iaload, 1) := by decide +kernel
theorem d_H_isFinal_17 : decode b_H_isFinal 17 = .ok (.iaload, 1) := by decide +kernel
theorem d_H_isFinal_18 : decode b_H_isFinal 18 = .ok (.iload_n 1, 1) := by decide +kernel
theorem d_H_isFinal_19 : decode b_H_isFinal 19 = .ok (.if_icmp .ne 7, 3) := by decide +kernel
theorem d_H_isFinal_22 : decode b_H_isFinal 22 = .ok (.iconst 1, 1) := by decide +kernel
theorem d_H_isFinal_23 : decode b_H_isFinal 23 = .ok (.goto 4, 3) := by decide +kernel
theorem d_H_isFinal_26 : decode b_H_isFinal 26 = .ok (.iconst 0, 1) := by decide +kernel
theorem d_H_isFinal_27 : decode b_H_isFinal 27 = .ok (.ireturn, 1) := by decide +kernel
abbrev y_H_isJudgedRead : MethodName := ⟨"HistoryJudge$History", "isJudgedRead", "(I)Z"⟩
abbrev b_H_isJudgedRead : ByteArray := prog_4_method_16_code
theorem d_H_isJudgedRead_0 : decode b_H_isJudgedRead 0 = .ok (.aload_n 0, 1) := by decide +kernel
theorem d_H_isJudgedRead_1 : decode b_H_isJudgedRead 1 = .ok (.aload_n 0, 1) := by decide +kernel
theorem d_H_isJudgedRead_2 : decode b_H_isJudgedRead 2 = .ok (.getfield 21, 3) := by decide +kernel
theorem d_H_isJudgedRead_5 : decode b_H_isJudgedRead 5 = .ok (.iload_n 1, 1) := by decide +kernel
theorem d_H_isJudgedRead_6 : decode b_H_isJudgedRead 6 = .ok (.iaload, 1) := by decide +kernel
theorem d_H_isJudgedRead_7 : decode b_H_isJudgedRead 7 = .ok (.invokevirtual 60, 3) := by decide +kernel
theorem d_H_isJudgedRead_10 : decode b_H_isJudgedRead 10 = .ok (.ifCond .eq 17, 3) := by decide +kernel
theorem d_H_isJudgedRead_13 : decode b_H_isJudgedRead 13 = .ok (.aload_n 0, 1) := by decide +kernel
theorem d_H_isJudgedRead_14 : decode b_H_isJudgedRead 14 = .ok (.getfield 27, 3) := by decide +kernel
theorem d_H_isJudgedRead_17 : decode b_H_isJudgedRead 17 = .ok (.iload_n 1, 1) := by decide +kernel
theorem d_H_isJudgedRead_18 : decode b_H_isJudgedRead 18 = .ok (.iaload, 1) := by decide +kernel
theorem d_H_isJudgedRead_19 : decode b_H_isJudgedRead 19 = .ok (.iconst (-1), 1) := by decide +kernel
theorem d_H_isJudgedRead_20 : decode b_H_isJudgedRead 20 = .ok (.if_icmp .eq 7, 3) := by decide +kernel
theorem d_H_isJudgedRead_23 : decode b_H_isJudgedRead 23 = .ok (.iconst 1, 1) := by decide +kernel
theorem d_H_isJudgedRead_24 : decode b_H_isJudgedRead 24 = .ok (.goto 4, 3) := by decide +kernel
theorem d_H_isJudgedRead_27 : decode b_H_isJudgedRead 27 = .ok (.iconst 0, 1) := by decide +kernel
theorem d_H_isJudgedRead_28 : decode b_H_isJudgedRead 28 = .ok (.ireturn, 1) := by decide +kernel
abbrev y_H_isOfAnotherCommitted : MethodName := ⟨"HistoryJudge$History", "isOfAnotherCommitted", "(I)Z"⟩
abbrev b_H_isOfAnotherCommitted : ByteArray := prog_4_method_17_code
theorem d_H_isOfAnotherCommitted_0 : decode b_H_isOfAnotherCommitted 0 = .ok (.aload_n 0, 1) := by decide +kernel
theorem d_H_isOfAnotherCommitted_1 : decode b_H_isOfAnotherCommitted 1 = .ok (.getfield 15, 3) := by decide +kernel
theorem d_H_isOfAnotherCommitted_4 : decode b_H_isOfAnotherCommitted 4 = .ok (.aload_n 0, 1) := by decide +kernel
theorem d_H_isOfAnotherCommitted_5 : decode b_H_isOfAnotherCommitted 5 = .ok (.getfield 27, 3) := by decide +kernel
theorem d_H_isOfAnotherCommitted_8 : decode b_H_isOfAnotherCommitted 8 = .ok (.iload_n 1, 1) := by decide +kernel
theorem d_H_isOfAnotherCommitted_9 : decode b_H_isOfAnotherCommitted 9 = .ok (.iaload, 1) := by decide +kernel
theorem d_H_isOfAnotherCommitted_10 : decode b_H_isOfAnotherCommitted 10 = .ok (.iaload, 1) := by decide +kernel
theorem d_H_isOfAnotherCommitted_11 : decode b_H_isOfAnotherCommitted 11 = .ok (.istore_n 2, 1) := by decide +kernel
theorem d_H_isOfAnotherCommitted_12 : decode b_H_isOfAnotherCommitted 12 = .ok (.iload_n 2, 1) := by decide +kernel
theorem d_H_isOfAnotherCommitted_13 : decode b_H_isOfAnotherCommitted 13 = .ok (.aload_n 0, 1) := by decide +kernel
theorem d_H_isOfAnotherCommitted_14 : decode b_H_isOfAnotherCommitted 14 = .ok (.getfield 21, 3) := by decide +kernel
theorem d_H_isOfAnotherCommitted_17 : decode b_H_isOfAnotherCommitted 17 = .ok (.iload_n 1, 1) := by decide +kernel
theorem d_H_isOfAnotherCommitted_18 : decode b_H_isOfAnotherCommitted 18 = .ok (.iaload, 1) := by decide +kernel
theorem d_H_isOfAnotherCommitted_19 : decode b_H_isOfAnotherCommitted 19 = .ok (.if_icmp .eq 15, 3) := by decide +kernel
theorem d_H_isOfAnotherCommitted_22 : decode b_H_isOfAnotherCommitted 22 = .ok (.aload_n 0, 1) := by decide +kernel
theorem d_H_isOfAnotherCommitted_23 : decode b_H_isOfAnotherCommitted 23 = .ok (.iload_n 2, 1) := by decide +kernel
theorem d_H_isOfAnotherCommitted_24 : decode b_H_isOfAnotherCommitted 24 = .ok (.invokevirtual 60, 3) := by decide +kernel
theorem d_H_isOfAnotherCommitted_27 : decode b_H_isOfAnotherCommitted 27 = .ok (.ifCond .eq 7, 3) := by decide +kernel
theorem d_H_isOfAnotherCommitted_30 : decode b_H_isOfAnotherCommitted 30 = .ok (.iconst 1, 1) := by decide +kernel
theorem d_H_isOfAnotherCommitted_31 : decode b_H_isOfAnotherCommitted 31 = .ok (.goto 4, 3) := by decide +kernel
theorem d_H_isOfAnotherCommitted_34 : decode b_H_isOfAnotherCommitted 34 = .ok (.iconst 0, 1) := by decide +kernel
theorem d_H_isOfAnotherCommitted_35 : decode b_H_isOfAnotherCommitted 35 = .ok (.ireturn, 1) := by decide +kernel
abbrev y_H_placeBehind : MethodName := ⟨"HistoryJudge$History", "placeBehind", "(II)I"⟩
abbrev b_H_placeBehind : ByteArray := prog_4_method_13_code
theorem d_H_placeBehind_0 : decode b_H_placeBehind 0 = .ok (.iconst 0, 1) := by decide +kernel
theorem d_H_placeBehind_1 : decode b_H_placeBehind 1 = .ok (.istore_n 3, 1) := by decide +kernel
theorem d_H_placeBehind_2 : decode b_H_placeBehind 2 = .ok (.iload_n 3, 1) := by decide +kernel
theorem d_H_placeBehind_3 : decode b_H_placeBehind 3 = .ok (.aload_n 0, 1) := by decide +kernel
theorem d_H_placeBehind_4 : decode b_H_placeBehind 4 = .ok (.getfield 41, 3) := by decide +kernel
theorem d_H_placeBehind_7 : decode b_H_placeBehind 7 = .ok (.iload_n 1, 1) := by decide +kernel
theorem d_H_placeBehind_8 : decode b_H_placeBehind 8 = .ok (.iaload, 1) := by decide +kernel
theorem d_H_placeBehind_9 : decode b_H_placeBehind 9 = .ok (.if_icmp .ge 25, 3) := by decide +kernel
theorem d_H_placeBehind_12 : decode b_H_placeBehind 12 = .ok (.aload_n 0, 1) := by decide +kernel
theorem d_H_placeBehind_13 : decode b_H_placeBehind 13 = .ok (.getfield 38, 3) := by decide +kernel
theorem d_H_placeBehind_16 : decode b_H_placeBehind 16 = .ok (.iload_n 1, 1) := by decide +kernel
theorem d_H_placeBehind_17 : decode b_H_placeBehind 17 = .ok (.aaload, 1) := by decide +kernel
theorem d_H_placeBehind_18 : decode b_H_placeBehind 18 = .ok (.iload_n 3, 1) := by decide +kernel
theorem d_H_placeBehind_19 : decode b_H_placeBehind 19 = .ok (.iaload, 1) := by decide +kernel
theorem d_H_placeBehind_20 : decode b_H_placeBehind 20 = .ok (.iload_n 2, 1) := by decide +kernel
theorem d_H_placeBehind_21 : decode b_H_placeBehind 21 = .ok (.if_icmp .ne 7, 3) := by decide +kernel
theorem d_H_placeBehind_24 : decode b_H_placeBehind 24 = .ok (.iload_n 3, 1) := by decide +kernel
theorem d_H_placeBehind_25 : decode b_H_placeBehind 25 = .ok (.iconst 1, 1) := by decide +kernel
theorem d_H_placeBehind_26 : decode b_H_placeBehind 26 = .ok (.iadd, 1) := by decide +kernel
theorem d_H_placeBehind_27 : decode b_H_placeBehind 27 = .ok (.ireturn, 1) := by decide +kernel
theorem d_H_placeBehind_28 : decode b_H_placeBehind 28 = .ok (.iinc 3 1, 3) := by decide +kernel
theorem d_H_placeBehind_31 : decode b_H_placeBehind 31 = .ok (.goto (-29), 3) := by decide +kernel
theorem d_H_placeBehind_34 : decode b_H_placeBehind 34 = .ok (.aload_n 0, 1) := by decide +kernel
theorem d_H_placeBehind_35 : decode b_H_placeBehind 35 = .ok (.getfield 41, 3) := by decide +kernel
theorem d_H_placeBehind_38 : decode b_H_placeBehind 38 = .ok (.iload_n 1, 1) := by decide +kernel
theorem d_H_placeBehind_39 : decode b_H_placeBehind 39 = .ok (.iaload, 1) := by decide +kernel
theorem d_H_placeBehind_40 : decode b_H_placeBehind 40 = .ok (.ireturn, 1) := by decide +kernel
abbrev y_H_reset : MethodName := ⟨"HistoryJudge$History", "reset", "()V"⟩
abbrev b_H_reset : ByteArray := prog_4_method_2_code
theorem d_H_reset_0 : decode b_H_reset 0 = .ok (.aload_n 0, 1) := by decide +kernel
theorem d_H_reset_1 : decode b_H_reset 1 = .ok (.iconst 0, 1) := by decide +kernel
theorem d_H_reset_2 : decode b_H_reset 2 = .ok (.putfield 47, 3) := by decide +kernel
theorem d_H_reset_5 : decode b_H_reset 5 = .ok (.aload_n 0, 1) := by decide +kernel
theorem d_H_reset_6 : decode b_H_reset 6 = .ok (.iconst 0, 1) := by decide +kernel
theorem d_H_reset_7 : decode b_H_reset 7 = .ok (.putfield 51, 3) := by decide +kernel
theorem d_H_reset_10 : decode b_H_reset 10 = .ok (.aload_n 0, 1) := by decide +kernel
theorem d_H_reset_11 : decode b_H_reset 11 = .ok (.getfield 9, 3) := by decide +kernel
theorem d_H_reset_14 : decode b_H_reset 14 = .ok (.iconst 0, 1) := by decide +kernel
theorem d_H_reset_15 : decode b_H_reset 15 = .ok (.invokestatic 54, 3) := by decide +kernel
theorem d_H_reset_18 : decode b_H_reset 18 = .ok (.aload_n 0, 1) := by decide +kernel
theorem d_H_reset_19 : decode b_H_reset 19 = .ok (.getfield 41, 3) := by decide +kernel
theorem d_H_reset_22 : decode b_H_reset 22 = .ok (.iconst 0, 1) := by decide +kernel
theorem d_H_reset_23 : decode b_H_reset 23 = .ok (.invokestatic 54, 3) := by decide +kernel
theorem d_H_reset_26 : decode b_H_reset 26 = .ok (.iconst 0, 1) := by decide +kernel
theorem d_H_reset_27 : decode b_H_reset 27 = .ok (.istore_n 1, 1) := by decide +kernel
theorem d_H_reset_28 : decode b_H_reset 28 = .ok (.iload_n 1, 1) := by decide +kernel
theorem d_H_reset_29 : decode b_H_reset 29 = .ok (.bipush 8, 2) := by decide +kernel
theorem d_H_reset_31 : decode b_H_reset 31 = .ok (.if_icmp .ge 19, 3) := by decide +kernel
theorem d_H_reset_34 : decode b_H_reset 34 = .ok (.aload_n 0, 1) := by decide +kernel
theorem d_H_reset_35 : decode b_H_reset 35 = .ok (.getfield 35, 3) := by decide +kernel
theorem d_H_reset_38 : decode b_H_reset 38 = .ok (.iload_n 1, 1) := by decide +kernel
theorem d_H_reset_39 : decode b_H_reset 39 = .ok (.aaload, 1) := by decide +kernel
theorem d_H_reset_40 : decode b_H_reset 40 = .ok (.iconst (-1), 1) := by decide +kernel
theorem d_H_reset_41 : decode b_H_reset 41 = .ok (.invokestatic 54, 3) := by decide +kernel
theorem d_H_reset_44 : decode b_H_reset 44 = .ok (.iinc 1 1, 3) := by decide +kernel
theorem d_H_reset_47 : decode b_H_reset 47 = .ok (.goto (-19), 3) := by decide +kernel
theorem d_H_reset_50 : decode b_H_reset 50 = .ok (.return_, 1) := by decide +kernel
abbrev y_H_writerOfNext : MethodName := ⟨"HistoryJudge$History", "writerOfNext", "(II)I"⟩
abbrev b_H_writerOfNext : ByteArray := prog_4_method_12_code
theorem d_H_writerOfNext_0 : decode b_H_writerOfNext 0 = .ok (.iload_n 2, 1) := by decide +kernel
theorem d_H_writerOfNext_1 : decode b_H_writerOfNext 1 = .ok (.iconst (-1), 1) := by decide +kernel
theorem d_H_writerOfNext_2 : decode b_H_writerOfNext 2 = .ok (.if_icmp .ne 7, 3) := by decide +kernel
theorem d_H_writerOfNext_5 : decode b_H_writerOfNext 5 = .ok (.iconst 0, 1) := by decide +kernel
theorem d_H_writerOfNext_6 : decode b_H_writerOfNext 6 = .ok (.goto 9, 3) := by decide +kernel
theorem d_H_writerOfNext_9 : decode b_H_writerOfNext 9 = .ok (.aload_n 0, 1) := by decide +kernel
theorem d_H_writerOfNext_10 : decode b_H_writerOfNext 10 = .ok (.iload_n 1, 1) := by decide +kernel
theorem d_H_writerOfNext_11 : decode b_H_writerOfNext 11 = .ok (.iload_n 2, 1) := by decide +kernel
theorem d_H_writerOfNext_12 : decode b_H_writerOfNext 12 = .ok (.invokevirtual 68, 3) := by decide +kernel
theorem d_H_writerOfNext_15 : decode b_H_writerOfNext 15 = .ok (.istore_n 3, 1) := by decide +kernel
theorem d_H_writerOfNext_16 : decode b_H_writerOfNext 16 = .ok (.iload_n 3, 1) := by decide +kernel
theorem d_H_writerOfNext_17 : decode b_H_writerOfNext 17 = .ok (.aload_n 0, 1) := by decide +kernel
theorem d_H_writerOfNext_18 : decode b_H_writerOfNext 18 = .ok (.getfield 41, 3) := by decide +kernel
theorem d_H_writerOfNext_21 : decode b_H_writerOfNext 21 = .ok (.iload_n 1, 1) := by decide +kernel
theorem d_H_writerOfNext_22 : decode b_H_writerOfNext 22 = .ok (.iaload, 1) := by decide +kernel
theorem d_H_writerOfNext_23 : decode b_H_writerOfNext 23 = .ok (.if_icmp .ge 19, 3) := by decide +kernel
theorem d_H_writerOfNext_26 : decode b_H_writerOfNext 26 = .ok (.aload_n 0, 1) := by decide +kernel
theorem d_H_writerOfNext_27 : decode b_H_writerOfNext 27 = .ok (.getfield 15, 3) := by decide +kernel
theorem d_H_writerOfNext_30 : decode b_H_writerOfNext 30 = .ok (.aload_n 0, 1) := by decide +kernel
theorem d_H_writerOfNext_31 : decode b_H_writerOfNext 31 = .ok (.getfield 38, 3) := by decide +kernel
theorem d_H_writerOfNext_34 : decode b_H_writerOfNext 34 = .ok (.iload_n 1, 1) := by decide +kernel
theorem d_H_writerOfNext_35 : decode b_H_writerOfNext 35 = .ok (.aaload, 1) := by decide +kernel
theorem d_H_writerOfNext_36 : decode b_H_writerOfNext 36 = .ok (.iload_n 3, 1) := by decide +kernel
theorem d_H_writerOfNext_37 : decode b_H_writerOfNext 37 = .ok (.iaload, 1) := by decide +kernel
theorem d_H_writerOfNext_38 : decode b_H_writerOfNext 38 = .ok (.iaload, 1) := by decide +kernel
theorem d_H_writerOfNext_39 : decode b_H_writerOfNext 39 = .ok (.goto 4, 3) := by decide +kernel
theorem d_H_writerOfNext_42 : decode b_H_writerOfNext 42 = .ok (.iconst (-1), 1) := by decide +kernel
theorem d_H_writerOfNext_43 : decode b_H_writerOfNext 43 = .ok (.ireturn, 1) := by decide +kernel
abbrev y_I_bitCount : MethodName := ⟨"java/lang/Integer", "bitCount", "(I)I"⟩
abbrev b_I_bitCount : ByteArray := prog_11_method_49_code
theorem d_I_bitCount_0 : decode b_I_bitCount 0 = .ok (.iload_n 0, 1) := by decide +kernel
theorem d_I_bitCount_1 : decode b_I_bitCount 1 = .ok (.iload_n 0, 1) := by decide +kernel
theorem d_I_bitCount_2 : decode b_I_bitCount 2 = .ok (.iconst 1, 1) := by decide +kernel
theorem d_I_bitCount_3 : decode b_I_bitCount 3 = .ok (.iushr, 1) := by decide +kernel
theorem d_I_bitCount_4 : decode b_I_bitCount 4 = .ok (.ldc_w 265, 3) := by decide +kernel
theorem d_I_bitCount_7 : decode b_I_bitCount 7 = .ok (.iand, 1) := by decide +kernel
theorem d_I_bitCount_8 : decode b_I_bitCount 8 = .ok (.isub, 1) := by decide +kernel
theorem d_I_bitCount_9 : decode b_I_bitCount 9 = .ok (.istore_n 0, 1) := by decide +kernel
theorem d_I_bitCount_10 : decode b_I_bitCount 10 = .ok (.iload_n 0, 1) := by decide +kernel
theorem d_I_bitCount_11 : decode b_I_bitCount 11 = .ok (.ldc_w 266, 3) := by decide +kernel
theorem d_I_bitCount_14 : decode b_I_bitCount 14 = .ok (.iand, 1) := by decide +kernel
theorem d_I_bitCount_15 : decode b_I_bitCount 15 = .ok (.iload_n 0, 1) := by decide +kernel
theorem d_I_bitCount_16 : decode b_I_bitCount 16 = .ok (.iconst 2, 1) := by decide +kernel
theorem d_I_bitCount_17 : decode b_I_bitCount 17 = .ok (.iushr, 1) := by decide +kernel
theorem d_I_bitCount_18 : decode b_I_bitCount 18 = .ok (.ldc_w 266, 3) := by decide +kernel
theorem d_I_bitCount_21 : decode b_I_bitCount 21 = .ok (.iand, 1) := by decide +kernel
theorem d_I_bitCount_22 : decode b_I_bitCount 22 = .ok (.iadd, 1) := by decide +kernel
theorem d_I_bitCount_23 : decode b_I_bitCount 23 = .ok (.istore_n 0, 1) := by decide +kernel
theorem d_I_bitCount_24 : decode b_I_bitCount 24 = .ok (.iload_n 0, 1) := by decide +kernel
theorem d_I_bitCount_25 : decode b_I_bitCount 25 = .ok (.iload_n 0, 1) := by decide +kernel
theorem d_I_bitCount_26 : decode b_I_bitCount 26 = .ok (.iconst 4, 1) := by decide +kernel
theorem d_I_bitCount_27 : decode b_I_bitCount 27 = .ok (.iushr, 1) := by decide +kernel
theorem d_I_bitCount_28 : decode b_I_bitCount 28 = .ok (.iadd, 1) := by decide +kernel
theorem d_I_bitCount_29 : decode b_I_bitCount 29 = .ok (.ldc_w 267, 3) := by decide +kernel
theorem d_I_bitCount_32 : decode b_I_bitCount 32 = .ok (.iand, 1) := by decide +kernel
theorem d_I_bitCount_33 : decode b_I_bitCount 33 = .ok (.istore_n 0, 1) := by decide +kernel
theorem d_I_bitCount_34 : decode b_I_bitCount 34 = .ok (.iload_n 0, 1) := by decide +kernel
theorem d_I_bitCount_35 : decode b_I_bitCount 35 = .ok (.iload_n 0, 1) := by decide +kernel
theorem d_I_bitCount_36 : decode b_I_bitCount 36 = .ok (.bipush 8, 2) := by decide +kernel
theorem d_I_bitCount_38 : decode b_I_bitCount 38 = .ok (.iushr, 1) := by decide +kernel
theorem d_I_bitCount_39 : decode b_I_bitCount 39 = .ok (.iadd, 1) := by decide +kernel
theorem d_I_bitCount_40 : decode b_I_bitCount 40 = .ok (.istore_n 0, 1) := by decide +kernel
theorem d_I_bitCount_41 : decode b_I_bitCount 41 = .ok (.iload_n 0, 1) := by decide +kernel
theorem d_I_bitCount_42 : decode b_I_bitCount 42 = .ok (.iload_n 0, 1) := by decide +kernel
theorem d_I_bitCount_43 : decode b_I_bitCount 43 = .ok (.bipush 16, 2) := by decide +kernel
theorem d_I_bitCount_45 : decode b_I_bitCount 45 = .ok (.iushr, 1) := by decide +kernel
theorem d_I_bitCount_46 : decode b_I_bitCount 46 = .ok (.iadd, 1) := by decide +kernel
theorem d_I_bitCount_47 : decode b_I_bitCount 47 = .ok (.istore_n 0, 1) := by decide +kernel
theorem d_I_bitCount_48 : decode b_I_bitCount 48 = .ok (.iload_n 0, 1) := by decide +kernel
theorem d_I_bitCount_49 : decode b_I_bitCount 49 = .ok (.bipush 63, 2) := by decide +kernel
theorem d_I_bitCount_51 : decode b_I_bitCount 51 = .ok (.iand, 1) := by decide +kernel
theorem d_I_bitCount_52 : decode b_I_bitCount 52 = .ok (.ireturn, 1) := by decide +kernel
abbrev y_J_beginnings : MethodName := ⟨"HistoryJudge", "beginnings", "()I"⟩
abbrev b_J_beginnings : ByteArray := prog_1_method_15_code
theorem d_J_beginnings_0 : decode b_J_beginnings 0 = .ok (.aload_n 0, 1) := by decide +kernel
theorem d_J_beginnings_1 : decode b_J_beginnings 1 = .ok (.getfield 33, 3) := by decide +kernel
theorem d_J_beginnings_4 : decode b_J_beginnings 4 = .ok (.aload_n 0, 1) := by decide +kernel
theorem d_J_beginnings_5 : decode b_J_beginnings 5 = .ok (.getfield 10, 3) := by decide +kernel
theorem d_J_beginnings_8 : decode b_J_beginnings 8 = .ok (.invokevirtual 131, 3) := by decide +kernel
theorem d_J_beginnings_11 : decode b_J_beginnings 11 = .ok (.aload_n 0, 1) := by decide +kernel
theorem d_J_beginnings_12 : decode b_J_beginnings 12 = .ok (.getfield 33, 3) := by decide +kernel
theorem d_J_beginnings_15 : decode b_J_beginnings 15 = .ok (.getfield 140, 3) := by decide +kernel
theorem d_J_beginnings_18 : decode b_J_beginnings 18 = .ok (.iconst 0, 1) := by decide +kernel
theorem d_J_beginnings_19 : decode b_J_beginnings 19 = .ok (.iaload, 1) := by decide +kernel
theorem d_J_beginnings_20 : decode b_J_beginnings 20 = .ok (.invokestatic 143, 3) := by decide +kernel
theorem d_J_beginnings_23 : decode b_J_beginnings 23 = .ok (.ireturn, 1) := by decide +kernel
abbrev y_J_clear : MethodName := ⟨"HistoryJudge", "clear", "()I"⟩
abbrev b_J_clear : ByteArray := prog_1_method_16_code
theorem d_J_clear_0 : decode b_J_clear 0 = .ok (.aload_n 0, 1) := by decide +kernel
theorem d_J_clear_1 : decode b_J_clear 1 = .ok (.getfield 10, 3) := by decide +kernel
theorem d_J_clear_4 : decode b_J_clear 4 = .ok (.getfield 53, 3) := by decide +kernel
theorem d_J_clear_7 : decode b_J_clear 7 = .ok (.istore_n 1, 1) := by decide +kernel
theorem d_J_clear_8 : decode b_J_clear 8 = .ok (.aload_n 0, 1) := by decide +kernel
theorem d_J_clear_9 : decode b_J_clear 9 = .ok (.getfield 10, 3) := by decide +kernel
theorem d_J_clear_12 : decode b_J_clear 12 = .ok (.invokevirtual 148, 3) := by decide +kernel
theorem d_J_clear_15 : decode b_J_clear 15 = .ok (.iload_n 1, 1) := by decide +kernel
theorem d_J_clear_16 : decode b_J_clear 16 = .ok (.ireturn, 1) := by decide +kernel
abbrev y_J_cycle : MethodName := ⟨"HistoryJudge", "cycle", "(I)I"⟩
abbrev b_J_cycle : ByteArray := prog_1_method_11_code
theorem d_J_cycle_0 : decode b_J_cycle 0 = .ok (.iload_n 1, 1) := by decide +kernel
theorem d_J_cycle_1 : decode b_J_cycle 1 = .ok (.ifCond .lt 8, 3) := by decide +kernel
theorem d_J_cycle_4 : decode b_J_cycle 4 = .ok (.iload_n 1, 1) := by decide +kernel
theorem d_J_cycle_5 : decode b_J_cycle 5 = .ok (.iconst 4, 1) := by decide +kernel
theorem d_J_cycle_6 : decode b_J_cycle 6 = .ok (.if_icmp .lt 5, 3) := by decide +kernel
theorem d_J_cycle_9 : decode b_J_cycle 9 = .ok (.iconst 0, 1) := by decide +kernel
theorem d_J_cycle_10 : decode b_J_cycle 10 = .ok (.ireturn, 1) := by decide +kernel
theorem d_J_cycle_11 : decode b_J_cycle 11 = .ok (.aload_n 0, 1) := by decide +kernel
theorem d_J_cycle_12 : decode b_J_cycle 12 = .ok (.getfield 19, 3) := by decide +kernel
theorem d_J_cycle_15 : decode b_J_cycle 15 = .ok (.aload_n 0, 1) := by decide +kernel
theorem d_J_cycle_16 : decode b_J_cycle 16 = .ok (.getfield 10, 3) := by decide +kernel
theorem d_J_cycle_19 : decode b_J_cycle 19 = .ok (.invokevirtual 93, 3) := by decide +kernel
theorem d_J_cycle_22 : decode b_J_cycle 22 = .ok (.aload_n 0, 1) := by decide +kernel
theorem d_J_cycle_23 : decode b_J_cycle 23 = .ok (.getfield 26, 3) := by decide +kernel
theorem d_J_cycle_26 : decode b_J_cycle 26 = .ok (.aload_n 0, 1) := by decide +kernel
theorem d_J_cycle_27 : decode b_J_cycle 27 = .ok (.getfield 19, 3) := by decide +kernel
theorem d_J_cycle_30 : decode b_J_cycle 30 = .ok (.iload_n 1, 1) := by decide +kernel
theorem d_J_cycle_31 : decode b_J_cycle 31 = .ok (.invokevirtual 109, 3) := by decide +kernel
theorem d_J_cycle_34 : decode b_J_cycle 34 = .ok (.ireturn, 1) := by decide +kernel
abbrev y_J_edges : MethodName := ⟨"HistoryJudge", "edges", "(II)I"⟩
abbrev b_J_edges : ByteArray := prog_1_method_8_code
theorem d_J_edges_0 : decode b_J_edges 0 = .ok (.iload_n 1, 1) := by decide +kernel
theorem d_J_edges_1 : decode b_J_edges 1 = .ok (.invokestatic 37, 3) := by decide +kernel
theorem d_J_edges_4 : decode b_J_edges 4 = .ok (.ifCond .eq 10, 3) := by decide +kernel
theorem d_J_edges_7 : decode b_J_edges 7 = .ok (.iload_n 2, 1) := by decide +kernel
theorem d_J_edges_8 : decode b_J_edges 8 = .ok (.invokestatic 37, 3) := by decide +kernel
theorem d_J_edges_11 : decode b_J_edges 11 = .ok (.ifCond .ne 5, 3) := by decide +kernel
theorem d_J_edges_14 : decode b_J_edges 14 = .ok (.iconst 0, 1) := by decide +kernel
theorem d_J_edges_15 : decode b_J_edges 15 = .ok (.ireturn, 1) := by decide +kernel
theorem d_J_edges_16 : decode b_J_edges 16 = .ok (.aload_n 0, 1) := by decide +kernel
theorem d_J_edges_17 : decode b_J_edges 17 = .ok (.getfield 19, 3) := by decide +kernel
theorem d_J_edges_20 : decode b_J_edges 20 = .ok (.aload_n 0, 1) := by decide +kernel
theorem d_J_edges_21 : decode b_J_edges 21 = .ok (.getfield 10, 3) := by decide +kernel
theorem d_J_edges_24 : decode b_J_edges 24 = .ok (.invokevirtual 93, 3) := by decide +kernel
theorem d_J_edges_27 : decode b_J_edges 27 = .ok (.aload_n 0, 1) := by decide +kernel
theorem d_J_edges_28 : decode b_J_edges 28 = .ok (.getfield 19, 3) := by decide +kernel
theorem d_J_edges_31 : decode b_J_edges 31 = .ok (.getfield 97, 3) := by decide +kernel
theorem d_J_edges_34 : decode b_J_edges 34 = .ok (.iload_n 1, 1) := by decide +kernel
theorem d_J_edges_35 : decode b_J_edges 35 = .ok (.iaload, 1) := by decide +kernel
theorem d_J_edges_36 : decode b_J_edges 36 = .ok (.iload_n 2, 1) := by decide +kernel
theorem d_J_edges_37 : decode b_J_edges 37 = .ok (.invokestatic 100, 3) := by decide +kernel
theorem d_J_edges_40 : decode b_J_edges 40 = .ok (.ifCond .eq 7, 3) := by decide +kernel
theorem d_J_edges_43 : decode b_J_edges 43 = .ok (.iconst 1, 1) := by decide +kernel
theorem d_J_edges_44 : decode b_J_edges 44 = .ok (.goto 4, 3) := by decide +kernel
theorem d_J_edges_47 : decode b_J_edges 47 = .ok (.iconst 0, 1) := by decide +kernel
theorem d_J_edges_48 : decode b_J_edges 48 = .ok (.aload_n 0, 1) := by decide +kernel
theorem d_J_edges_49 : decode b_J_edges 49 = .ok (.getfield 19, 3) := by decide +kernel
theorem d_J_edges_52 : decode b_J_edges 52 = .ok (.getfield 103, 3) := by decide +kernel
theorem d_J_edges_55 : decode b_J_edges 55 = .ok (.iload_n 1, 1) := by decide +kernel
theorem d_J_edges_56 : decode b_J_edges 56 = .ok (.iaload, 1) := by decide +kernel
theorem d_J_edges_57 : decode b_J_edges 57 = .ok (.iload_n 2, 1) := by decide +kernel
theorem d_J_edges_58 : decode b_J_edges 58 = .ok (.invokestatic 100, 3) := by decide +kernel
theorem d_J_edges_61 : decode b_J_edges 61 = .ok (.ifCond .eq 7, 3) := by decide +kernel
theorem d_J_edges_64 : decode b_J_edges 64 = .ok (.iconst 2, 1) := by decide +kernel
theorem d_J_edges_65 : decode b_J_edges 65 = .ok (.goto 4, 3) := by decide +kernel
theorem d_J_edges_68 : decode b_J_edges 68 = .ok (.iconst 0, 1) := by decide +kernel
theorem d_J_edges_69 : decode b_J_edges 69 = .ok (.iadd, 1) := by decide +kernel
theorem d_J_edges_70 : decode b_J_edges 70 = .ok (.aload_n 0, 1) := by decide +kernel
theorem d_J_edges_71 : decode b_J_edges 71 = .ok (.getfield 19, 3) := by decide +kernel
theorem d_J_edges_74 : decode b_J_edges 74 = .ok (.getfield 106, 3) := by decide +kernel
theorem d_J_edges_77 : decode b_J_edges 77 = .ok (.iload_n 1, 1) := by decide +kernel
theorem d_J_edges_78 : decode b_J_edges 78 = .ok (.iaload, 1) := by decide +kernel
theorem d_J_edges_79 : decode b_J_edges 79 = .ok (.iload_n 2, 1) := by decide +kernel
theorem d_J_edges_80 : decode b_J_edges 80 = .ok (.invokestatic 100, 3) := by decide +kernel
theorem d_J_edges_83 : decode b_J_edges 83 = .ok (.ifCond .eq 7, 3) := by decide +kernel
theorem d_J_edges_86 : decode b_J_edges 86 = .ok (.iconst 4, 1) := by decide +kernel
theorem d_J_edges_87 : decode b_J_edges 87 = .ok (.goto 4, 3) := by decide +kernel
theorem d_J_edges_90 : decode b_J_edges 90 = .ok (.iconst 0, 1) := by decide +kernel
theorem d_J_edges_91 : decode b_J_edges 91 = .ok (.iadd, 1) := by decide +kernel
theorem d_J_edges_92 : decode b_J_edges 92 = .ok (.ireturn, 1) := by decide +kernel
abbrev y_J_end : MethodName := ⟨"HistoryJudge", "end", "(IZ)V"⟩
abbrev b_J_end : ByteArray := prog_1_method_4_code
theorem d_J_end_0 : decode b_J_end 0 = .ok (.iload_n 1, 1) := by decide +kernel
theorem d_J_end_1 : decode b_J_end 1 = .ok (.invokestatic 37, 3) := by decide +kernel
theorem d_J_end_4 : decode b_J_end 4 = .ok (.ifCond .ne 11, 3) := by decide +kernel
theorem d_J_end_7 : decode b_J_end 7 = .ok (.new 44, 3) := by decide +kernel
theorem d_J_end_10 : decode b_J_end 10 = .ok (.dup, 1) := by decide +kernel
theorem d_J_end_11 : decode b_J_end 11 = .ok (.invokespecial 46, 3) := by decide +kernel
theorem d_J_end_14 : decode b_J_end 14 = .ok (.athrow, 1) := by decide +kernel
theorem d_J_end_15 : decode b_J_end 15 = .ok (.aload_n 0, 1) := by decide +kernel
theorem d_J_end_16 : decode b_J_end 16 = .ok (.getfield 10, 3) := by decide +kernel
theorem d_J_end_19 : decode b_J_end 19 = .ok (.getfield 78, 3) := by decide +kernel
theorem d_J_end_22 : decode b_J_end 22 = .ok (.iload_n 1, 1) := by decide +kernel
theorem d_J_end_23 : decode b_J_end 23 = .ok (.iaload, 1) := by decide +kernel
theorem d_J_end_24 : decode b_J_end 24 = .ok (.iconst 1, 1) := by decide +kernel
theorem d_J_end_25 : decode b_J_end 25 = .ok (.if_icmp .eq 11, 3) := by decide +kernel
theorem d_J_end_28 : decode b_J_end 28 = .ok (.new 50, 3) := by decide +kernel
theorem d_J_end_31 : decode b_J_end 31 = .ok (.dup, 1) := by decide +kernel
theorem d_J_end_32 : decode b_J_end 32 = .ok (.invokespecial 52, 3) := by decide +kernel
theorem d_J_end_35 : decode b_J_end 35 = .ok (.athrow, 1) := by decide +kernel
theorem d_J_end_36 : decode b_J_end 36 = .ok (.iload_n 2, 1) := by decide +kernel
theorem d_J_end_37 : decode b_J_end 37 = .ok (.ifCond .eq 14, 3) := by decide +kernel
theorem d_J_end_40 : decode b_J_end 40 = .ok (.aload_n 0, 1) := by decide +kernel
theorem d_J_end_41 : decode b_J_end 41 = .ok (.getfield 10, 3) := by decide +kernel
theorem d_J_end_44 : decode b_J_end 44 = .ok (.iload_n 1, 1) := by decide +kernel
theorem d_J_end_45 : decode b_J_end 45 = .ok (.invokevirtual 82, 3) := by decide +kernel
theorem d_J_end_48 : decode b_J_end 48 = .ok (.goto 13, 3) := by decide +kernel
theorem d_J_end_51 : decode b_J_end 51 = .ok (.aload_n 0, 1) := by decide +kernel
theorem d_J_end_52 : decode b_J_end 52 = .ok (.getfield 10, 3) := by decide +kernel
theorem d_J_end_55 : decode b_J_end 55 = .ok (.getfield 78, 3) := by decide +kernel
theorem d_J_end_58 : decode b_J_end 58 = .ok (.iload_n 1, 1) := by decide +kernel
theorem d_J_end_59 : decode b_J_end 59 = .ok (.iconst 3, 1) := by decide +kernel
theorem d_J_end_60 : decode b_J_end 60 = .ok (.iastore, 1) := by decide +kernel
theorem d_J_end_61 : decode b_J_end 61 = .ok (.return_, 1) := by decide +kernel
abbrev y_J_exchange : MethodName := ⟨"HistoryJudge", "exchange", "(II)Z"⟩
abbrev b_J_exchange : ByteArray := prog_1_method_7_code
theorem d_J_exchange_0 : decode b_J_exchange 0 = .ok (.iload_n 1, 1) := by decide +kernel
theorem d_J_exchange_1 : decode b_J_exchange 1 = .ok (.invokestatic 41, 3) := by decide +kernel
theorem d_J_exchange_4 : decode b_J_exchange 4 = .ok (.ifCond .eq 22, 3) := by decide +kernel
theorem d_J_exchange_7 : decode b_J_exchange 7 = .ok (.iload_n 2, 1) := by decide +kernel
theorem d_J_exchange_8 : decode b_J_exchange 8 = .ok (.ifCond .lt 18, 3) := by decide +kernel
theorem d_J_exchange_11 : decode b_J_exchange 11 = .ok (.iload_n 2, 1) := by decide +kernel
theorem d_J_exchange_12 : decode b_J_exchange 12 = .ok (.aload_n 0, 1) := by decide +kernel
theorem d_J_exchange_13 : decode b_J_exchange 13 = .ok (.getfield 10, 3) := by decide +kernel
theorem d_J_exchange_16 : decode b_J_exchange 16 = .ok (.getfield 86, 3) := by decide +kernel
theorem d_J_exchange_19 : decode b_J_exchange 19 = .ok (.iload_n 1, 1) := by decide +kernel
theorem d_J_exchange_20 : decode b_J_exchange 20 = .ok (.iaload, 1) := by decide +kernel
theorem d_J_exchange_21 : decode b_J_exchange 21 = .ok (.iconst 1, 1) := by decide +kernel
theorem d_J_exchange_22 : decode b_J_exchange 22 = .ok (.isub, 1) := by decide +kernel
theorem d_J_exchange_23 : decode b_J_exchange 23 = .ok (.if_icmp .lt 5, 3) := by decide +kernel
theorem d_J_exchange_26 : decode b_J_exchange 26 = .ok (.iconst 0, 1) := by decide +kernel
theorem d_J_exchange_27 : decode b_J_exchange 27 = .ok (.ireturn, 1) := by decide +kernel
theorem d_J_exchange_28 : decode b_J_exchange 28 = .ok (.aload_n 0, 1) := by decide +kernel
theorem d_J_exchange_29 : decode b_J_exchange 29 = .ok (.getfield 10, 3) := by decide +kernel
theorem d_J_exchange_32 : decode b_J_exchange 32 = .ok (.getfield 89, 3) := by decide +kernel
theorem d_J_exchange_35 : decode b_J_exchange 35 = .ok (.iload_n 1, 1) := by decide +kernel
theorem d_J_exchange_36 : decode b_J_exchange 36 = .ok (.aaload, 1) := by decide +kernel
theorem d_J_exchange_37 : decode b_J_exchange 37 = .ok (.astore_n 3, 1) := by decide +kernel
theorem d_J_exchange_38 : decode b_J_exchange 38 = .ok (.aload_n 3, 1) := by decide +kernel
theorem d_J_exchange_39 : decode b_J_exchange 39 = .ok (.iload_n 2, 1) := by decide +kernel
theorem d_J_exchange_40 : decode b_J_exchange 40 = .ok (.iaload, 1) := by decide +kernel
theorem d_J_exchange_41 : decode b_J_exchange 41 = .ok (.istore 4, 2) := by decide +kernel
theorem d_J_exchange_43 : decode b_J_exchange 43 = .ok (.aload_n 3, 1) := by decide +kernel
theorem d_J_exchange_44 : decode b_J_exchange 44 = .ok (.iload_n 2, 1) := by decide +kernel
theorem d_J_exchange_45 : decode b_J_exchange 45 = .ok (.aload_n 3, 1) := by decide +kernel
theorem d_J_exchange_46 : decode b_J_exchange 46 = .ok (.iload_n 2, 1) := by decide +kernel
theorem d_J_exchange_47 : decode b_J_exchange 47 = .ok (.iconst 1, 1) := by decide +kernel
theorem d_J_exchange_48 : decode b_J_exchange 48 = .ok (.iadd, 1) := by decide +kernel
theorem d_J_exchange_49 : decode b_J_exchange 49 = .ok (.iaload, 1) := by decide +kernel
theorem d_J_exchange_50 : decode b_J_exchange 50 = .ok (.iastore, 1) := by decide +kernel
theorem d_J_exchange_51 : decode b_J_exchange 51 = .ok (.aload_n 3, 1) := by decide +kernel
theorem d_J_exchange_52 : decode b_J_exchange 52 = .ok (.iload_n 2, 1) := by decide +kernel
theorem d_J_exchange_53 : decode b_J_exchange 53 = .ok (.iconst 1, 1) := by decide +kernel
theorem d_J_exchange_54 : decode b_J_exchange 54 = .ok (.iadd, 1) := by decide +kernel
theorem d_J_exchange_55 : decode b_J_exchange 55 = .ok (.iload 4, 2) := by decide +kernel
theorem d_J_exchange_57 : decode b_J_exchange 57 = .ok (.iastore, 1) := by decide +kernel
theorem d_J_exchange_58 : decode b_J_exchange 58 = .ok (.iconst 1, 1) := by decide +kernel
theorem d_J_exchange_59 : decode b_J_exchange 59 = .ok (.ireturn, 1) := by decide +kernel
abbrev y_J_flaws : MethodName := ⟨"HistoryJudge", "flaws", "()I"⟩
abbrev b_J_flaws : ByteArray := prog_1_method_9_code
theorem d_J_flaws_0 : decode b_J_flaws 0 = .ok (.aload_n 0, 1) := by decide +kernel
theorem d_J_flaws_1 : decode b_J_flaws 1 = .ok (.getfield 19, 3) := by decide +kernel
theorem d_J_flaws_4 : decode b_J_flaws 4 = .ok (.aload_n 0, 1) := by decide +kernel
theorem d_J_flaws_5 : decode b_J_flaws 5 = .ok (.getfield 10, 3) := by decide +kernel
theorem d_J_flaws_8 : decode b_J_flaws 8 = .ok (.invokevirtual 93, 3) := by decide +kernel
theorem d_J_flaws_11 : decode b_J_flaws 11 = .ok (.aload_n 0, 1) := by decide +kernel
theorem d_J_flaws_12 : decode b_J_flaws 12 = .ok (.getfield 26, 3) := by decide +kernel
theorem d_J_flaws_15 : decode b_J_flaws 15 = .ok (.aload_n 0, 1) := by decide +kernel
theorem d_J_flaws_16 : decode b_J_flaws 16 = .ok (.getfield 19, 3) := by decide +kernel
theorem d_J_flaws_19 : decode b_J_flaws 19 = .ok (.iconst 0, 1) := by decide +kernel
theorem d_J_flaws_20 : decode b_J_flaws 20 = .ok (.invokevirtual 109, 3) := by decide +kernel
theorem d_J_flaws_23 : decode b_J_flaws 23 = .ok (.ifCond .eq 7, 3) := by decide +kernel
theorem d_J_flaws_26 : decode b_J_flaws 26 = .ok (.iconst 1, 1) := by decide +kernel
theorem d_J_flaws_27 : decode b_J_flaws 27 = .ok (.goto 4, 3) := by decide +kernel
theorem d_J_flaws_30 : decode b_J_flaws 30 = .ok (.iconst 0, 1) := by decide +kernel
theorem d_J_flaws_31 : decode b_J_flaws 31 = .ok (.aload_n 0, 1) := by decide +kernel
theorem d_J_flaws_32 : decode b_J_flaws 32 = .ok (.getfield 10, 3) := by decide +kernel
theorem d_J_flaws_35 : decode b_J_flaws 35 = .ok (.invokevirtual 113, 3) := by decide +kernel
theorem d_J_flaws_38 : decode b_J_flaws 38 = .ok (.ifCond .eq 7, 3) := by decide +kernel
theorem d_J_flaws_41 : decode b_J_flaws 41 = .ok (.iconst 2, 1) := by decide +kernel
theorem d_J_flaws_42 : decode b_J_flaws 42 = .ok (.goto 4, 3) := by decide +kernel
theorem d_J_flaws_45 : decode b_J_flaws 45 = .ok (.iconst 0, 1) := by decide +kernel
theorem d_J_flaws_46 : decode b_J_flaws 46 = .ok (.iadd, 1) := by decide +kernel
theorem d_J_flaws_47 : decode b_J_flaws 47 = .ok (.aload_n 0, 1) := by decide +kernel
theorem d_J_flaws_48 : decode b_J_flaws 48 = .ok (.getfield 10, 3) := by decide +kernel
theorem d_J_flaws_51 : decode b_J_flaws 51 = .ok (.invokevirtual 117, 3) := by decide +kernel
theorem d_J_flaws_54 : decode b_J_flaws 54 = .ok (.ifCond .eq 7, 3) := by decide +kernel
theorem d_J_flaws_57 : decode b_J_flaws 57 = .ok (.iconst 4, 1) := by decide +kernel
theorem d_J_flaws_58 : decode b_J_flaws 58 = .ok (.goto 4, 3) := by decide +kernel
theorem d_J_flaws_61 : decode b_J_flaws 61 = .ok (.iconst 0, 1) := by decide +kernel
theorem d_J_flaws_62 : decode b_J_flaws 62 = .ok (.iadd, 1) := by decide +kernel
theorem d_J_flaws_63 : decode b_J_flaws 63 = .ok (.aload_n 0, 1) := by decide +kernel
theorem d_J_flaws_64 : decode b_J_flaws 64 = .ok (.getfield 26, 3) := by decide +kernel
theorem d_J_flaws_67 : decode b_J_flaws 67 = .ok (.aload_n 0, 1) := by decide +kernel
theorem d_J_flaws_68 : decode b_J_flaws 68 = .ok (.getfield 19, 3) := by decide +kernel
theorem d_J_flaws_71 : decode b_J_flaws 71 = .ok (.iconst 1, 1) := by decide +kernel
theorem d_J_flaws_72 : decode b_J_flaws 72 = .ok (.invokevirtual 109, 3) := by decide +kernel
theorem d_J_flaws_75 : decode b_J_flaws 75 = .ok (.ifCond .eq 8, 3) := by decide +kernel
theorem d_J_flaws_78 : decode b_J_flaws 78 = .ok (.bipush 8, 2) := by decide +kernel
theorem d_J_flaws_80 : decode b_J_flaws 80 = .ok (.goto 4, 3) := by decide +kernel
theorem d_J_flaws_83 : decode b_J_flaws 83 = .ok (.iconst 0, 1) := by decide +kernel
theorem d_J_flaws_84 : decode b_J_flaws 84 = .ok (.iadd, 1) := by decide +kernel
theorem d_J_flaws_85 : decode b_J_flaws 85 = .ok (.aload_n 0, 1) := by decide +kernel
theorem d_J_flaws_86 : decode b_J_flaws 86 = .ok (.getfield 26, 3) := by decide +kernel
theorem d_J_flaws_89 : decode b_J_flaws 89 = .ok (.aload_n 0, 1) := by decide +kernel
theorem d_J_flaws_90 : decode b_J_flaws 90 = .ok (.getfield 19, 3) := by decide +kernel
theorem d_J_flaws_93 : decode b_J_flaws 93 = .ok (.iconst 2, 1) := by decide +kernel
theorem d_J_flaws_94 : decode b_J_flaws 94 = .ok (.invokevirtual 109, 3) := by decide +kernel
theorem d_J_flaws_97 : decode b_J_flaws 97 = .ok (.ifCond .eq 8, 3) := by decide +kernel
theorem d_J_flaws_100 : decode b_J_flaws 100 = .ok (.bipush 16, 2) := by decide +kernel
theorem d_J_flaws_102 : decode b_J_flaws 102 = .ok (.goto 4, 3) := by decide +kernel
theorem d_J_flaws_105 : decode b_J_flaws 105 = .ok (.iconst 0, 1) := by decide +kernel
theorem d_J_flaws_106 : decode b_J_flaws 106 = .ok (.iadd, 1) := by decide +kernel
theorem d_J_flaws_107 : decode b_J_flaws 107 = .ok (.aload_n 0, 1) := by decide +kernel
theorem d_J_flaws_108 : decode b_J_flaws 108 = .ok (.getfield 26, 3) := by decide +kernel
theorem d_J_flaws_111 : decode b_J_flaws 111 = .ok (.aload_n 0, 1) := by decide +kernel
theorem d_J_flaws_112 : decode b_J_flaws 112 = .ok (.getfield 19, 3) := by decide +kernel
theorem d_J_flaws_115 : decode b_J_flaws 115 = .ok (.iconst 3, 1) := by decide +kernel
theorem d_J_flaws_116 : decode b_J_flaws 116 = .ok (.invokevirtual 109, 3) := by decide +kernel
theorem d_J_flaws_119 : decode b_J_flaws 119 = .ok (.ifCond .eq 8, 3) := by decide +kernel
theorem d_J_flaws_122 : decode b_J_flaws 122 = .ok (.bipush 32, 2) := by decide +kernel
theorem d_J_flaws_124 : decode b_J_flaws 124 = .ok (.goto 4, 3) := by decide +kernel
theorem d_J_flaws_127 : decode b_J_flaws 127 = .ok (.iconst 0, 1) := by decide +kernel
theorem d_J_flaws_128 : decode b_J_flaws 128 = .ok (.iadd, 1) := by decide +kernel
theorem d_J_flaws_129 : decode b_J_flaws 129 = .ok (.ireturn, 1) := by decide +kernel
abbrev y_J_has : MethodName := ⟨"HistoryJudge", "has", "(II)Z"⟩
abbrev b_J_has : ByteArray := prog_1_method_20_code
theorem d_J_has_0 : decode b_J_has 0 = .ok (.iload_n 0, 1) := by decide +kernel
theorem d_J_has_1 : decode b_J_has 1 = .ok (.iload_n 1, 1) := by decide +kernel
theorem d_J_has_2 : decode b_J_has 2 = .ok (.invokestatic 151, 3) := by decide +kernel
theorem d_J_has_5 : decode b_J_has 5 = .ok (.iand, 1) := by decide +kernel
theorem d_J_has_6 : decode b_J_has 6 = .ok (.ifCond .eq 7, 3) := by decide +kernel
theorem d_J_has_9 : decode b_J_has 9 = .ok (.iconst 1, 1) := by decide +kernel
theorem d_J_has_10 : decode b_J_has 10 = .ok (.goto 4, 3) := by decide +kernel
theorem d_J_has_13 : decode b_J_has 13 = .ok (.iconst 0, 1) := by decide +kernel
theorem d_J_has_14 : decode b_J_has 14 = .ok (.ireturn, 1) := by decide +kernel
abbrev y_J_init : MethodName := ⟨"HistoryJudge", "<init>", "()V"⟩
abbrev b_J_init : ByteArray := prog_1_method_1_code
theorem d_J_init_0 : decode b_J_init 0 = .ok (.aload_n 0, 1) := by decide +kernel
theorem d_J_init_1 : decode b_J_init 1 = .ok (.invokespecial 1, 3) := by decide +kernel
theorem d_J_init_4 : decode b_J_init 4 = .ok (.aload_n 0, 1) := by decide +kernel
theorem d_J_init_5 : decode b_J_init 5 = .ok (.new 7, 3) := by decide +kernel
theorem d_J_init_8 : decode b_J_init 8 = .ok (.dup, 1) := by decide +kernel
theorem d_J_init_9 : decode b_J_init 9 = .ok (.invokespecial 9, 3) := by decide +kernel
theorem d_J_init_12 : decode b_J_init 12 = .ok (.putfield 10, 3) := by decide +kernel
theorem d_J_init_15 : decode b_J_init 15 = .ok (.aload_n 0, 1) := by decide +kernel
theorem d_J_init_16 : decode b_J_init 16 = .ok (.new 16, 3) := by decide +kernel
theorem d_J_init_19 : decode b_J_init 19 = .ok (.dup, 1) := by decide +kernel
theorem d_J_init_20 : decode b_J_init 20 = .ok (.invokespecial 18, 3) := by decide +kernel
theorem d_J_init_23 : decode b_J_init 23 = .ok (.putfield 19, 3) := by decide +kernel
theorem d_J_init_26 : decode b_J_init 26 = .ok (.aload_n 0, 1) := by decide +kernel
theorem d_J_init_27 : decode b_J_init 27 = .ok (.new 23, 3) := by decide +kernel
theorem d_J_init_30 : decode b_J_init 30 = .ok (.dup, 1) := by decide +kernel
theorem d_J_init_31 : decode b_J_init 31 = .ok (.invokespecial 25, 3) := by decide +kernel
theorem d_J_init_34 : decode b_J_init 34 = .ok (.putfield 26, 3) := by decide +kernel
theorem d_J_init_37 : decode b_J_init 37 = .ok (.aload_n 0, 1) := by decide +kernel
theorem d_J_init_38 : decode b_J_init 38 = .ok (.new 30, 3) := by decide +kernel
theorem d_J_init_41 : decode b_J_init 41 = .ok (.dup, 1) := by decide +kernel
theorem d_J_init_42 : decode b_J_init 42 = .ok (.invokespecial 32, 3) := by decide +kernel
theorem d_J_init_45 : decode b_J_init 45 = .ok (.putfield 33, 3) := by decide +kernel
theorem d_J_init_48 : decode b_J_init 48 = .ok (.return_, 1) := by decide +kernel
abbrev y_J_isItem : MethodName := ⟨"HistoryJudge", "isItem", "(I)Z"⟩
abbrev b_J_isItem : ByteArray := prog_1_method_18_code
theorem d_J_isItem_0 : decode b_J_isItem 0 = .ok (.iload_n 0, 1) := by decide +kernel
theorem d_J_isItem_1 : decode b_J_isItem 1 = .ok (.ifCond .lt 13, 3) := by decide +kernel
theorem d_J_isItem_4 : decode b_J_isItem 4 = .ok (.iload_n 0, 1) := by decide +kernel
theorem d_J_isItem_5 : decode b_J_isItem 5 = .ok (.bipush 6, 2) := by decide +kernel
theorem d_J_isItem_7 : decode b_J_isItem 7 = .ok (.if_icmp .ge 7, 3) := by decide +kernel
theorem d_J_isItem_10 : decode b_J_isItem 10 = .ok (.iconst 1, 1) := by decide +kernel
theorem d_J_isItem_11 : decode b_J_isItem 11 = .ok (.goto 4, 3) := by decide +kernel
theorem d_J_isItem_14 : decode b_J_isItem 14 = .ok (.iconst 0, 1) := by decide +kernel
theorem d_J_isItem_15 : decode b_J_isItem 15 = .ok (.ireturn, 1) := by decide +kernel
abbrev y_J_isTransaction : MethodName := ⟨"HistoryJudge", "isTransaction", "(I)Z"⟩
abbrev b_J_isTransaction : ByteArray := prog_1_method_17_code
theorem d_J_isTransaction_0 : decode b_J_isTransaction 0 = .ok (.iload_n 0, 1) := by decide +kernel
theorem d_J_isTransaction_1 : decode b_J_isTransaction 1 = .ok (.ifCond .lt 13, 3) := by decide +kernel
theorem d_J_isTransaction_4 : decode b_J_isTransaction 4 = .ok (.iload_n 0, 1) := by decide +kernel
theorem d_J_isTransaction_5 : decode b_J_isTransaction 5 = .ok (.bipush 8, 2) := by decide +kernel
theorem d_J_isTransaction_7 : decode b_J_isTransaction 7 = .ok (.if_icmp .ge 7, 3) := by decide +kernel
theorem d_J_isTransaction_10 : decode b_J_isTransaction 10 = .ok (.iconst 1, 1) := by decide +kernel
theorem d_J_isTransaction_11 : decode b_J_isTransaction 11 = .ok (.goto 4, 3) := by decide +kernel
theorem d_J_isTransaction_14 : decode b_J_isTransaction 14 = .ok (.iconst 0, 1) := by decide +kernel
theorem d_J_isTransaction_15 : decode b_J_isTransaction 15 = .ok (.ireturn, 1) := by decide +kernel
abbrev y_J_least : MethodName := ⟨"HistoryJudge", "least", "(I)I"⟩
abbrev b_J_least : ByteArray := prog_1_method_21_code
theorem d_J_least_0 : decode b_J_least 0 = .ok (.iconst 0, 1) := by decide +kernel
theorem d_J_least_1 : decode b_J_least 1 = .ok (.istore_n 1, 1) := by decide +kernel
theorem d_J_least_2 : decode b_J_least 2 = .ok (.iload_n 1, 1) := by decide +kernel
theorem d_J_least_3 : decode b_J_least 3 = .ok (.bipush 7, 2) := by decide +kernel
theorem d_J_least_5 : decode b_J_least 5 = .ok (.if_icmp .ge 17, 3) := by decide +kernel
theorem d_J_least_8 : decode b_J_least 8 = .ok (.iload_n 0, 1) := by decide +kernel
theorem d_J_least_9 : decode b_J_least 9 = .ok (.iload_n 1, 1) := by decide +kernel
theorem d_J_least_10 : decode b_J_least 10 = .ok (.invokestatic 100, 3) := by decide +kernel
theorem d_J_least_13 : decode b_J_least 13 = .ok (.ifCond .ne 9, 3) := by decide +kernel
theorem d_J_least_16 : decode b_J_least 16 = .ok (.iinc 1 1, 3) := by decide +kernel
theorem d_J_least_19 : decode b_J_least 19 = .ok (.goto (-17), 3) := by decide +kernel
theorem d_J_least_22 : decode b_J_least 22 = .ok (.iload_n 1, 1) := by decide +kernel
theorem d_J_least_23 : decode b_J_least 23 = .ok (.ireturn, 1) := by decide +kernel
abbrev y_J_level : MethodName := ⟨"HistoryJudge", "level", "()I"⟩
abbrev b_J_level : ByteArray := prog_1_method_10_code
theorem d_J_level_0 : decode b_J_level 0 = .ok (.aload_n 0, 1) := by decide +kernel
theorem d_J_level_1 : decode b_J_level 1 = .ok (.invokevirtual 120, 3) := by decide +kernel
theorem d_J_level_4 : decode b_J_level 4 = .ok (.istore_n 1, 1) := by decide +kernel
theorem d_J_level_5 : decode b_J_level 5 = .ok (.iload_n 1, 1) := by decide +kernel
theorem d_J_level_6 : decode b_J_level 6 = .ok (.iconst 1, 1) := by decide +kernel
theorem d_J_level_7 : decode b_J_level 7 = .ok (.iand, 1) := by decide +kernel
theorem d_J_level_8 : decode b_J_level 8 = .ok (.ifCond .eq 5, 3) := by decide +kernel
theorem d_J_level_11 : decode b_J_level 11 = .ok (.iconst 0, 1) := by decide +kernel
theorem d_J_level_12 : decode b_J_level 12 = .ok (.ireturn, 1) := by decide +kernel
theorem d_J_level_13 : decode b_J_level 13 = .ok (.iload_n 1, 1) := by decide +kernel
theorem d_J_level_14 : decode b_J_level 14 = .ok (.bipush 14, 2) := by decide +kernel
theorem d_J_level_16 : decode b_J_level 16 = .ok (.iand, 1) := by decide +kernel
theorem d_J_level_17 : decode b_J_level 17 = .ok (.ifCond .eq 5, 3) := by decide +kernel
theorem d_J_level_20 : decode b_J_level 20 = .ok (.iconst 1, 1) := by decide +kernel
theorem d_J_level_21 : decode b_J_level 21 = .ok (.ireturn, 1) := by decide +kernel
theorem d_J_level_22 : decode b_J_level 22 = .ok (.iload_n 1, 1) := by decide +kernel
theorem d_J_level_23 : decode b_J_level 23 = .ok (.bipush 16, 2) := by decide +kernel
theorem d_J_level_25 : decode b_J_level 25 = .ok (.iand, 1) := by decide +kernel
theorem d_J_level_26 : decode b_J_level 26 = .ok (.ifCond .eq 5, 3) := by decide +kernel
theorem d_J_level_29 : decode b_J_level 29 = .ok (.iconst 2, 1) := by decide +kernel
theorem d_J_level_30 : decode b_J_level 30 = .ok (.ireturn, 1) := by decide +kernel
theorem d_J_level_31 : decode b_J_level 31 = .ok (.iload_n 1, 1) := by decide +kernel
theorem d_J_level_32 : decode b_J_level 32 = .ok (.bipush 32, 2) := by decide +kernel
theorem d_J_level_34 : decode b_J_level 34 = .ok (.iand, 1) := by decide +kernel
theorem d_J_level_35 : decode b_J_level 35 = .ok (.ifCond .eq 7, 3) := by decide +kernel
theorem d_J_level_38 : decode b_J_level 38 = .ok (.iconst 3, 1) := by decide +kernel
theorem d_J_level_39 : decode b_J_level 39 = .ok (.goto 4, 3) := by decide +kernel
theorem d_J_level_42 : decode b_J_level 42 = .ok (.iconst 4, 1) := by decide +kernel
theorem d_J_level_43 : decode b_J_level 43 = .ok (.ireturn, 1) := by decide +kernel
abbrev y_J_only : MethodName := ⟨"HistoryJudge", "only", "(I)I"⟩
abbrev b_J_only : ByteArray := prog_1_method_19_code
theorem d_J_only_0 : decode b_J_only 0 = .ok (.iconst 1, 1) := by decide +kernel
theorem d_J_only_1 : decode b_J_only 1 = .ok (.iload_n 0, 1) := by decide +kernel
theorem d_J_only_2 : decode b_J_only 2 = .ok (.ishl, 1) := by decide +kernel
theorem d_J_only_3 : decode b_J_only 3 = .ok (.ireturn, 1) := by decide +kernel
abbrev y_J_place : MethodName := ⟨"HistoryJudge", "place", "(I)I"⟩
abbrev b_J_place : ByteArray := prog_1_method_14_code
theorem d_J_place_0 : decode b_J_place 0 = .ok (.aload_n 0, 1) := by decide +kernel
theorem d_J_place_1 : decode b_J_place 1 = .ok (.getfield 33, 3) := by decide +kernel
theorem d_J_place_4 : decode b_J_place 4 = .ok (.aload_n 0, 1) := by decide +kernel
theorem d_J_place_5 : decode b_J_place 5 = .ok (.getfield 10, 3) := by decide +kernel
theorem d_J_place_8 : decode b_J_place 8 = .ok (.invokevirtual 131, 3) := by decide +kernel
theorem d_J_place_11 : decode b_J_place 11 = .ok (.aload_n 0, 1) := by decide +kernel
theorem d_J_place_12 : decode b_J_place 12 = .ok (.getfield 33, 3) := by decide +kernel
theorem d_J_place_15 : decode b_J_place 15 = .ok (.iload_n 1, 1) := by decide +kernel
theorem d_J_place_16 : decode b_J_place 16 = .ok (.invokevirtual 137, 3) := by decide +kernel
theorem d_J_place_19 : decode b_J_place 19 = .ok (.ireturn, 1) := by decide +kernel
abbrev y_J_read : MethodName := ⟨"HistoryJudge", "read", "(III)I"⟩
abbrev b_J_read : ByteArray := prog_1_method_3_code
theorem d_J_read_0 : decode b_J_read 0 = .ok (.iload_n 1, 1) := by decide +kernel
theorem d_J_read_1 : decode b_J_read 1 = .ok (.invokestatic 37, 3) := by decide +kernel
theorem d_J_read_4 : decode b_J_read 4 = .ok (.ifCond .eq 10, 3) := by decide +kernel
theorem d_J_read_7 : decode b_J_read 7 = .ok (.iload_n 2, 1) := by decide +kernel
theorem d_J_read_8 : decode b_J_read 8 = .ok (.invokestatic 41, 3) := by decide +kernel
theorem d_J_read_11 : decode b_J_read 11 = .ok (.ifCond .ne 11, 3) := by decide +kernel
theorem d_J_read_14 : decode b_J_read 14 = .ok (.new 44, 3) := by decide +kernel
theorem d_J_read_17 : decode b_J_read 17 = .ok (.dup, 1) := by decide +kernel
theorem d_J_read_18 : decode b_J_read 18 = .ok (.invokespecial 46, 3) := by decide +kernel
theorem d_J_read_21 : decode b_J_read 21 = .ok (.athrow, 1) := by decide +kernel
theorem d_J_read_22 : decode b_J_read 22 = .ok (.aload_n 0, 1) := by decide +kernel
theorem d_J_read_23 : decode b_J_read 23 = .ok (.getfield 10, 3) := by decide +kernel
theorem d_J_read_26 : decode b_J_read 26 = .ok (.iload_n 2, 1) := by decide +kernel
theorem d_J_read_27 : decode b_J_read 27 = .ok (.iload_n 3, 1) := by decide +kernel
theorem d_J_read_28 : decode b_J_read 28 = .ok (.invokevirtual 64, 3) := by decide +kernel
theorem d_J_read_31 : decode b_J_read 31 = .ok (.ifCond .ne 11, 3) := by decide +kernel
theorem d_J_read_34 : decode b_J_read 34 = .ok (.new 68, 3) := by decide +kernel
theorem d_J_read_37 : decode b_J_read 37 = .ok (.dup, 1) := by decide +kernel
theorem d_J_read_38 : decode b_J_read 38 = .ok (.invokespecial 70, 3) := by decide +kernel
theorem d_J_read_41 : decode b_J_read 41 = .ok (.athrow, 1) := by decide +kernel
theorem d_J_read_42 : decode b_J_read 42 = .ok (.aload_n 0, 1) := by decide +kernel
theorem d_J_read_43 : decode b_J_read 43 = .ok (.getfield 10, 3) := by decide +kernel
theorem d_J_read_46 : decode b_J_read 46 = .ok (.iload_n 1, 1) := by decide +kernel
theorem d_J_read_47 : decode b_J_read 47 = .ok (.invokevirtual 47, 3) := by decide +kernel
theorem d_J_read_50 : decode b_J_read 50 = .ok (.ifCond .eq 11, 3) := by decide +kernel
theorem d_J_read_53 : decode b_J_read 53 = .ok (.new 50, 3) := by decide +kernel
theorem d_J_read_56 : decode b_J_read 56 = .ok (.dup, 1) := by decide +kernel
theorem d_J_read_57 : decode b_J_read 57 = .ok (.invokespecial 52, 3) := by decide +kernel
theorem d_J_read_60 : decode b_J_read 60 = .ok (.athrow, 1) := by decide +kernel
theorem d_J_read_61 : decode b_J_read 61 = .ok (.aload_n 0, 1) := by decide +kernel
theorem d_J_read_62 : decode b_J_read 62 = .ok (.getfield 10, 3) := by decide +kernel
theorem d_J_read_65 : decode b_J_read 65 = .ok (.getfield 71, 3) := by decide +kernel
theorem d_J_read_68 : decode b_J_read 68 = .ok (.bipush 60, 2) := by decide +kernel
theorem d_J_read_70 : decode b_J_read 70 = .ok (.if_icmp .lt 11, 3) := by decide +kernel
theorem d_J_read_73 : decode b_J_read 73 = .ok (.new 57, 3) := by decide +kernel
theorem d_J_read_76 : decode b_J_read 76 = .ok (.dup, 1) := by decide +kernel
theorem d_J_read_77 : decode b_J_read 77 = .ok (.invokespecial 59, 3) := by decide +kernel
theorem d_J_read_80 : decode b_J_read 80 = .ok (.athrow, 1) := by decide +kernel
theorem d_J_read_81 : decode b_J_read 81 = .ok (.aload_n 0, 1) := by decide +kernel
theorem d_J_read_82 : decode b_J_read 82 = .ok (.getfield 10, 3) := by decide +kernel
theorem d_J_read_85 : decode b_J_read 85 = .ok (.iload_n 1, 1) := by decide +kernel
theorem d_J_read_86 : decode b_J_read 86 = .ok (.iload_n 2, 1) := by decide +kernel
theorem d_J_read_87 : decode b_J_read 87 = .ok (.iload_n 3, 1) := by decide +kernel
theorem d_J_read_88 : decode b_J_read 88 = .ok (.invokevirtual 74, 3) := by decide +kernel
theorem d_J_read_91 : decode b_J_read 91 = .ok (.ireturn, 1) := by decide +kernel
abbrev y_J_serial : MethodName := ⟨"HistoryJudge", "serial", "()Z"⟩
abbrev b_J_serial : ByteArray := prog_1_method_13_code
theorem d_J_serial_0 : decode b_J_serial 0 = .ok (.aload_n 0, 1) := by decide +kernel
theorem d_J_serial_1 : decode b_J_serial 1 = .ok (.getfield 33, 3) := by decide +kernel
theorem d_J_serial_4 : decode b_J_serial 4 = .ok (.aload_n 0, 1) := by decide +kernel
theorem d_J_serial_5 : decode b_J_serial 5 = .ok (.getfield 10, 3) := by decide +kernel
theorem d_J_serial_8 : decode b_J_serial 8 = .ok (.invokevirtual 131, 3) := by decide +kernel
theorem d_J_serial_11 : decode b_J_serial 11 = .ok (.aload_n 0, 1) := by decide +kernel
theorem d_J_serial_12 : decode b_J_serial 12 = .ok (.getfield 33, 3) := by decide +kernel
theorem d_J_serial_15 : decode b_J_serial 15 = .ok (.invokevirtual 134, 3) := by decide +kernel
theorem d_J_serial_18 : decode b_J_serial 18 = .ok (.ireturn, 1) := by decide +kernel
abbrev y_J_state : MethodName := ⟨"HistoryJudge", "state", "(I)I"⟩
abbrev b_J_state : ByteArray := prog_1_method_5_code
theorem d_J_state_0 : decode b_J_state 0 = .ok (.iload_n 1, 1) := by decide +kernel
theorem d_J_state_1 : decode b_J_state 1 = .ok (.invokestatic 37, 3) := by decide +kernel
theorem d_J_state_4 : decode b_J_state 4 = .ok (.ifCond .eq 15, 3) := by decide +kernel
theorem d_J_state_7 : decode b_J_state 7 = .ok (.aload_n 0, 1) := by decide +kernel
theorem d_J_state_8 : decode b_J_state 8 = .ok (.getfield 10, 3) := by decide +kernel
theorem d_J_state_11 : decode b_J_state 11 = .ok (.getfield 78, 3) := by decide +kernel
theorem d_J_state_14 : decode b_J_state 14 = .ok (.iload_n 1, 1) := by decide +kernel
theorem d_J_state_15 : decode b_J_state 15 = .ok (.iaload, 1) := by decide +kernel
theorem d_J_state_16 : decode b_J_state 16 = .ok (.goto 4, 3) := by decide +kernel
theorem d_J_state_19 : decode b_J_state 19 = .ok (.iconst (-1), 1) := by decide +kernel
theorem d_J_state_20 : decode b_J_state 20 = .ok (.ireturn, 1) := by decide +kernel
abbrev y_J_step : MethodName := ⟨"HistoryJudge", "step", "(II)I"⟩
abbrev b_J_step : ByteArray := prog_1_method_12_code
theorem d_J_step_0 : decode b_J_step 0 = .ok (.aload_n 0, 1) := by decide +kernel
theorem d_J_step_1 : decode b_J_step 1 = .ok (.iload_n 1, 1) := by decide +kernel
theorem d_J_step_2 : decode b_J_step 2 = .ok (.invokevirtual 124, 3) := by decide +kernel
theorem d_J_step_5 : decode b_J_step 5 = .ok (.istore_n 3, 1) := by decide +kernel
theorem d_J_step_6 : decode b_J_step 6 = .ok (.iload_n 2, 1) := by decide +kernel
theorem d_J_step_7 : decode b_J_step 7 = .ok (.ifCond .lt 20, 3) := by decide +kernel
theorem d_J_step_10 : decode b_J_step 10 = .ok (.iload_n 2, 1) := by decide +kernel
theorem d_J_step_11 : decode b_J_step 11 = .ok (.iload_n 3, 1) := by decide +kernel
theorem d_J_step_12 : decode b_J_step 12 = .ok (.if_icmp .ge 15, 3) := by decide +kernel
theorem d_J_step_15 : decode b_J_step 15 = .ok (.aload_n 0, 1) := by decide +kernel
theorem d_J_step_16 : decode b_J_step 16 = .ok (.getfield 26, 3) := by decide +kernel
theorem d_J_step_19 : decode b_J_step 19 = .ok (.getfield 128, 3) := by decide +kernel
theorem d_J_step_22 : decode b_J_step 22 = .ok (.iload_n 2, 1) := by decide +kernel
theorem d_J_step_23 : decode b_J_step 23 = .ok (.iaload, 1) := by decide +kernel
theorem d_J_step_24 : decode b_J_step 24 = .ok (.goto 4, 3) := by decide +kernel
theorem d_J_step_27 : decode b_J_step 27 = .ok (.iconst (-1), 1) := by decide +kernel
theorem d_J_step_28 : decode b_J_step 28 = .ok (.ireturn, 1) := by decide +kernel
abbrev y_J_version : MethodName := ⟨"HistoryJudge", "version", "(II)I"⟩
abbrev b_J_version : ByteArray := prog_1_method_6_code
theorem d_J_version_0 : decode b_J_version 0 = .ok (.iload_n 1, 1) := by decide +kernel
theorem d_J_version_1 : decode b_J_version 1 = .ok (.invokestatic 41, 3) := by decide +kernel
theorem d_J_version_4 : decode b_J_version 4 = .ok (.ifCond .eq 20, 3) := by decide +kernel
theorem d_J_version_7 : decode b_J_version 7 = .ok (.iload_n 2, 1) := by decide +kernel
theorem d_J_version_8 : decode b_J_version 8 = .ok (.ifCond .lt 16, 3) := by decide +kernel
theorem d_J_version_11 : decode b_J_version 11 = .ok (.iload_n 2, 1) := by decide +kernel
theorem d_J_version_12 : decode b_J_version 12 = .ok (.aload_n 0, 1) := by decide +kernel
theorem d_J_version_13 : decode b_J_version 13 = .ok (.getfield 10, 3) := by decide +kernel
theorem d_J_version_16 : decode b_J_version 16 = .ok (.getfield 86, 3) := by decide +kernel
theorem d_J_version_19 : decode b_J_version 19 = .ok (.iload_n 1, 1) := by decide +kernel
theorem d_J_version_20 : decode b_J_version 20 = .ok (.iaload, 1) := by decide +kernel
theorem d_J_version_21 : decode b_J_version 21 = .ok (.if_icmp .lt 5, 3) := by decide +kernel
theorem d_J_version_24 : decode b_J_version 24 = .ok (.iconst (-1), 1) := by decide +kernel
theorem d_J_version_25 : decode b_J_version 25 = .ok (.ireturn, 1) := by decide +kernel
theorem d_J_version_26 : decode b_J_version 26 = .ok (.aload_n 0, 1) := by decide +kernel
theorem d_J_version_27 : decode b_J_version 27 = .ok (.getfield 10, 3) := by decide +kernel
theorem d_J_version_30 : decode b_J_version 30 = .ok (.getfield 89, 3) := by decide +kernel
theorem d_J_version_33 : decode b_J_version 33 = .ok (.iload_n 1, 1) := by decide +kernel
theorem d_J_version_34 : decode b_J_version 34 = .ok (.aaload, 1) := by decide +kernel
theorem d_J_version_35 : decode b_J_version 35 = .ok (.iload_n 2, 1) := by decide +kernel
theorem d_J_version_36 : decode b_J_version 36 = .ok (.iaload, 1) := by decide +kernel
theorem d_J_version_37 : decode b_J_version 37 = .ok (.ireturn, 1) := by decide +kernel
abbrev y_J_write : MethodName := ⟨"HistoryJudge", "write", "(II)I"⟩
abbrev b_J_write : ByteArray := prog_1_method_2_code
theorem d_J_write_0 : decode b_J_write 0 = .ok (.iload_n 1, 1) := by decide +kernel
theorem d_J_write_1 : decode b_J_write 1 = .ok (.invokestatic 37, 3) := by decide +kernel
theorem d_J_write_4 : decode b_J_write 4 = .ok (.ifCond .eq 10, 3) := by decide +kernel
theorem d_J_write_7 : decode b_J_write 7 = .ok (.iload_n 2, 1) := by decide +kernel
theorem d_J_write_8 : decode b_J_write 8 = .ok (.invokestatic 41, 3) := by decide +kernel
theorem d_J_write_11 : decode b_J_write 11 = .ok (.ifCond .ne 11, 3) := by decide +kernel
theorem d_J_write_14 : decode b_J_write 14 = .ok (.new 44, 3) := by decide +kernel
theorem d_J_write_17 : decode b_J_write 17 = .ok (.dup, 1) := by decide +kernel
theorem d_J_write_18 : decode b_J_write 18 = .ok (.invokespecial 46, 3) := by decide +kernel
theorem d_J_write_21 : decode b_J_write 21 = .ok (.athrow, 1) := by decide +kernel
theorem d_J_write_22 : decode b_J_write 22 = .ok (.aload_n 0, 1) := by decide +kernel
theorem d_J_write_23 : decode b_J_write 23 = .ok (.getfield 10, 3) := by decide +kernel
theorem d_J_write_26 : decode b_J_write 26 = .ok (.iload_n 1, 1) := by decide +kernel
theorem d_J_write_27 : decode b_J_write 27 = .ok (.invokevirtual 47, 3) := by decide +kernel
theorem d_J_write_30 : decode b_J_write 30 = .ok (.ifCond .eq 11, 3) := by decide +kernel
theorem d_J_write_33 : decode b_J_write 33 = .ok (.new 50, 3) := by decide +kernel
theorem d_J_write_36 : decode b_J_write 36 = .ok (.dup, 1) := by decide +kernel
theorem d_J_write_37 : decode b_J_write 37 = .ok (.invokespecial 52, 3) := by decide +kernel
theorem d_J_write_40 : decode b_J_write 40 = .ok (.athrow, 1) := by decide +kernel
theorem d_J_write_41 : decode b_J_write 41 = .ok (.aload_n 0, 1) := by decide +kernel
theorem d_J_write_42 : decode b_J_write 42 = .ok (.getfield 10, 3) := by decide +kernel
theorem d_J_write_45 : decode b_J_write 45 = .ok (.getfield 53, 3) := by decide +kernel
theorem d_J_write_48 : decode b_J_write 48 = .ok (.bipush 40, 2) := by decide +kernel
theorem d_J_write_50 : decode b_J_write 50 = .ok (.if_icmp .lt 11, 3) := by decide +kernel
theorem d_J_write_53 : decode b_J_write 53 = .ok (.new 57, 3) := by decide +kernel
theorem d_J_write_56 : decode b_J_write 56 = .ok (.dup, 1) := by decide +kernel
theorem d_J_write_57 : decode b_J_write 57 = .ok (.invokespecial 59, 3) := by decide +kernel
theorem d_J_write_60 : decode b_J_write 60 = .ok (.athrow, 1) := by decide +kernel
theorem d_J_write_61 : decode b_J_write 61 = .ok (.aload_n 0, 1) := by decide +kernel
theorem d_J_write_62 : decode b_J_write 62 = .ok (.getfield 10, 3) := by decide +kernel
theorem d_J_write_65 : decode b_J_write 65 = .ok (.iload_n 1, 1) := by decide +kernel
theorem d_J_write_66 : decode b_J_write 66 = .ok (.iload_n 2, 1) := by decide +kernel
theorem d_J_write_67 : decode b_J_write 67 = .ok (.invokevirtual 60, 3) := by decide +kernel
theorem d_J_write_70 : decode b_J_write 70 = .ok (.ireturn, 1) := by decide +kernel
abbrev y_L_end : MethodName := ⟨"HistoryJudgeLaw", "end", "(LHistoryJudge;IZ)I"⟩
abbrev b_L_end : ByteArray := method_5_code
theorem d_L_end_0 : decode b_L_end 0 = .ok (.aload_n 0, 1) := by decide +kernel
theorem d_L_end_1 : decode b_L_end 1 = .ok (.iload_n 1, 1) := by decide +kernel
theorem d_L_end_2 : decode b_L_end 2 = .ok (.iload_n 2, 1) := by decide +kernel
theorem d_L_end_3 : decode b_L_end 3 = .ok (.invokevirtual 25, 3) := by decide +kernel
theorem d_L_end_6 : decode b_L_end 6 = .ok (.goto 9, 3) := by decide +kernel
theorem d_L_end_9 : decode b_L_end 9 = .ok (.astore_n 3, 1) := by decide +kernel
theorem d_L_end_10 : decode b_L_end 10 = .ok (.iconst 1, 1) := by decide +kernel
theorem d_L_end_11 : decode b_L_end 11 = .ok (.ireturn, 1) := by decide +kernel
theorem d_L_end_12 : decode b_L_end 12 = .ok (.astore_n 3, 1) := by decide +kernel
theorem d_L_end_13 : decode b_L_end 13 = .ok (.iconst 2, 1) := by decide +kernel
theorem d_L_end_14 : decode b_L_end 14 = .ok (.ireturn, 1) := by decide +kernel
theorem d_L_end_15 : decode b_L_end 15 = .ok (.iconst 0, 1) := by decide +kernel
theorem d_L_end_16 : decode b_L_end 16 = .ok (.ireturn, 1) := by decide +kernel
abbrev y_L_law : MethodName := ⟨"HistoryJudgeLaw", "law", "([I)Z"⟩
abbrev b_L_law : ByteArray := code
theorem d_L_law_0 : decode b_L_law 0 = .ok (.new 8, 3) := by decide +kernel
theorem d_L_law_3 : decode b_L_law 3 = .ok (.dup, 1) := by decide +kernel
theorem d_L_law_4 : decode b_L_law 4 = .ok (.invokespecial 29, 3) := by decide +kernel
theorem d_L_law_7 : decode b_L_law 7 = .ok (.astore_n 1, 1) := by decide +kernel
theorem d_L_law_8 : decode b_L_law 8 = .ok (.new 30, 3) := by decide +kernel
theorem d_L_law_11 : decode b_L_law 11 = .ok (.dup, 1) := by decide +kernel
theorem d_L_law_12 : decode b_L_law 12 = .ok (.invokespecial 32, 3) := by decide +kernel
theorem d_L_law_15 : decode b_L_law 15 = .ok (.astore_n 2, 1) := by decide +kernel
theorem d_L_law_16 : decode b_L_law 16 = .ok (.iconst 1, 1) := by decide +kernel
theorem d_L_law_17 : decode b_L_law 17 = .ok (.newarray .long, 2) := by decide +kernel
theorem d_L_law_19 : decode b_L_law 19 = .ok (.astore_n 3, 1) := by decide +kernel
theorem d_L_law_20 : decode b_L_law 20 = .ok (.iconst 0, 1) := by decide +kernel
theorem d_L_law_21 : decode b_L_law 21 = .ok (.istore 4, 2) := by decide +kernel
theorem d_L_law_23 : decode b_L_law 23 = .ok (.iload 4, 2) := by decide +kernel
theorem d_L_law_25 : decode b_L_law 25 = .ok (.aload_n 0, 1) := by decide +kernel
theorem d_L_law_26 : decode b_L_law 26 = .ok (.arraylength, 1) := by decide +kernel
theorem d_L_law_27 : decode b_L_law 27 = .ok (.iconst 4, 1) := by decide +kernel
theorem d_L_law_28 : decode b_L_law 28 = .ok (.isub, 1) := by decide +kernel
theorem d_L_law_29 : decode b_L_law 29 = .ok (.if_icmp .gt 589, 3) := by decide +kernel
theorem d_L_law_32 : decode b_L_law 32 = .ok (.aload_n 0, 1) := by decide +kernel
theorem d_L_law_33 : decode b_L_law 33 = .ok (.iload 4, 2) := by decide +kernel
theorem d_L_law_35 : decode b_L_law 35 = .ok (.iaload, 1) := by decide +kernel
theorem d_L_law_36 : decode b_L_law 36 = .ok (.bipush 15, 2) := by decide +kernel
theorem d_L_law_38 : decode b_L_law 38 = .ok (.iand, 1) := by decide +kernel
theorem d_L_law_39 : decode b_L_law 39 = .ok (.tableswitch 573 0 14 #[73, 141, 221, 285, 310, 347, 384, 421, 434, 447, 472, 509, 522, 547, 560], 73) := by decide +kernel
theorem d_L_law_112 : decode b_L_law 112 = .ok (.aload_n 1, 1) := by decide +kernel
theorem d_L_law_113 : decode b_L_law 113 = .ok (.aload_n 0, 1) := by decide +kernel
theorem d_L_law_114 : decode b_L_law 114 = .ok (.iload 4, 2) := by decide +kernel
theorem d_L_law_116 : decode b_L_law 116 = .ok (.iconst 1, 1) := by decide +kernel
theorem d_L_law_117 : decode b_L_law 117 = .ok (.iadd, 1) := by decide +kernel
theorem d_L_law_118 : decode b_L_law 118 = .ok (.iaload, 1) := by decide +kernel
theorem d_L_law_119 : decode b_L_law 119 = .ok (.aload_n 0, 1) := by decide +kernel
theorem d_L_law_120 : decode b_L_law 120 = .ok (.iload 4, 2) := by decide +kernel
theorem d_L_law_122 : decode b_L_law 122 = .ok (.iconst 2, 1) := by decide +kernel
theorem d_L_law_123 : decode b_L_law 123 = .ok (.iadd, 1) := by decide +kernel
theorem d_L_law_124 : decode b_L_law 124 = .ok (.iaload, 1) := by decide +kernel
theorem d_L_law_125 : decode b_L_law 125 = .ok (.aload_n 3, 1) := by decide +kernel
theorem d_L_law_126 : decode b_L_law 126 = .ok (.invokestatic 33, 3) := by decide +kernel
theorem d_L_law_129 : decode b_L_law 129 = .ok (.istore 5, 2) := by decide +kernel
theorem d_L_law_131 : decode b_L_law 131 = .ok (.aload_n 2, 1) := by decide +kernel
theorem d_L_law_132 : decode b_L_law 132 = .ok (.aload_n 0, 1) := by decide +kernel
theorem d_L_law_133 : decode b_L_law 133 = .ok (.iload 4, 2) := by decide +kernel
theorem d_L_law_135 : decode b_L_law 135 = .ok (.iconst 1, 1) := by decide +kernel
theorem d_L_law_136 : decode b_L_law 136 = .ok (.iadd, 1) := by decide +kernel
theorem d_L_law_137 : decode b_L_law 137 = .ok (.iaload, 1) := by decide +kernel
theorem d_L_law_138 : decode b_L_law 138 = .ok (.aload_n 0, 1) := by decide +kernel
theorem d_L_law_139 : decode b_L_law 139 = .ok (.iload 4, 2) := by decide +kernel
theorem d_L_law_141 : decode b_L_law 141 = .ok (.iconst 2, 1) := by decide +kernel
theorem d_L_law_142 : decode b_L_law 142 = .ok (.iadd, 1) := by decide +kernel
theorem d_L_law_143 : decode b_L_law 143 = .ok (.iaload, 1) := by decide +kernel
theorem d_L_law_144 : decode b_L_law 144 = .ok (.invokevirtual 38, 3) := by decide +kernel
theorem d_L_law_147 : decode b_L_law 147 = .ok (.istore 6, 2) := by decide +kernel
theorem d_L_law_149 : decode b_L_law 149 = .ok (.aload_n 2, 1) := by decide +kernel
theorem d_L_law_150 : decode b_L_law 150 = .ok (.invokevirtual 39, 3) := by decide +kernel
theorem d_L_law_153 : decode b_L_law 153 = .ok (.iload 5, 2) := by decide +kernel
theorem d_L_law_155 : decode b_L_law 155 = .ok (.if_icmp .eq 5, 3) := by decide +kernel
theorem d_L_law_158 : decode b_L_law 158 = .ok (.iconst 0, 1) := by decide +kernel
theorem d_L_law_159 : decode b_L_law 159 = .ok (.ireturn, 1) := by decide +kernel
theorem d_L_law_160 : decode b_L_law 160 = .ok (.iload 5, 2) := by decide +kernel
theorem d_L_law_162 : decode b_L_law 162 = .ok (.ifCond .ne 15, 3) := by decide +kernel
theorem d_L_law_165 : decode b_L_law 165 = .ok (.aload_n 3, 1) := by decide +kernel
theorem d_L_law_166 : decode b_L_law 166 = .ok (.iconst 0, 1) := by decide +kernel
theorem d_L_law_167 : decode b_L_law 167 = .ok (.laload, 1) := by decide +kernel
theorem d_L_law_168 : decode b_L_law 168 = .ok (.iload 6, 2) := by decide +kernel
theorem d_L_law_170 : decode b_L_law 170 = .ok (.i2l, 1) := by decide +kernel
theorem d_L_law_171 : decode b_L_law 171 = .ok (.lcmp, 1) := by decide +kernel
theorem d_L_law_172 : decode b_L_law 172 = .ok (.ifCond .eq 5, 3) := by decide +kernel
theorem d_L_law_175 : decode b_L_law 175 = .ok (.iconst 0, 1) := by decide +kernel
theorem d_L_law_176 : decode b_L_law 176 = .ok (.ireturn, 1) := by decide +kernel
theorem d_L_law_177 : decode b_L_law 177 = .ok (.goto 435, 3) := by decide +kernel
theorem d_L_law_180 : decode b_L_law 180 = .ok (.aload_n 1, 1) := by decide +kernel
theorem d_L_law_181 : decode b_L_law 181 = .ok (.aload_n 0, 1) := by decide +kernel
theorem d_L_law_182 : decode b_L_law 182 = .ok (.iload 4, 2) := by decide +kernel
theorem d_L_law_184 : decode b_L_law 184 = .ok (.iconst 1, 1) := by decide +kernel
theorem d_L_law_185 : decode b_L_law 185 = .ok (.iadd, 1) := by decide +kernel
theorem d_L_law_186 : decode b_L_law 186 = .ok (.iaload, 1) := by decide +kernel
theorem d_L_law_187 : decode b_L_law 187 = .ok (.aload_n 0, 1) := by decide +kernel
theorem d_L_law_188 : decode b_L_law 188 = .ok (.iload 4, 2) := by decide +kernel
theorem d_L_law_190 : decode b_L_law 190 = .ok (.iconst 2, 1) := by decide +kernel
theorem d_L_law_191 : decode b_L_law 191 = .ok (.iadd, 1) := by decide +kernel
theorem d_L_law_192 : decode b_L_law 192 = .ok (.iaload, 1) := by decide +kernel
theorem d_L_law_193 : decode b_L_law 193 = .ok (.aload_n 0, 1) := by decide +kernel
theorem d_L_law_194 : decode b_L_law 194 = .ok (.iload 4, 2) := by decide +kernel
theorem d_L_law_196 : decode b_L_law 196 = .ok (.iconst 3, 1) := by decide +kernel
theorem d_L_law_197 : decode b_L_law 197 = .ok (.iadd, 1) := by decide +kernel
theorem d_L_law_198 : decode b_L_law 198 = .ok (.iaload, 1) := by decide +kernel
theorem d_L_law_199 : decode b_L_law 199 = .ok (.aload_n 3, 1) := by decide +kernel
theorem d_L_law_200 : decode b_L_law 200 = .ok (.invokestatic 43, 3) := by decide +kernel
theorem d_L_law_203 : decode b_L_law 203 = .ok (.istore 5, 2) := by decide +kernel
theorem d_L_law_205 : decode b_L_law 205 = .ok (.aload_n 2, 1) := by decide +kernel
theorem d_L_law_206 : decode b_L_law 206 = .ok (.aload_n 0, 1) := by decide +kernel
theorem d_L_law_207 : decode b_L_law 207 = .ok (.iload 4, 2) := by decide +kernel
theorem d_L_law_209 : decode b_L_law 209 = .ok (.iconst 1, 1) := by decide +kernel
theorem d_L_law_210 : decode b_L_law 210 = .ok (.iadd, 1) := by decide +kernel
theorem d_L_law_211 : decode b_L_law 211 = .ok (.iaload, 1) := by decide +kernel
theorem d_L_law_212 : decode b_L_law 212 = .ok (.aload_n 0, 1) := by decide +kernel
theorem d_L_law_213 : decode b_L_law 213 = .ok (.iload 4, 2) := by decide +kernel
theorem d_L_law_215 : decode b_L_law 215 = .ok (.iconst 2, 1) := by decide +kernel
theorem d_L_law_216 : decode b_L_law 216 = .ok (.iadd, 1) := by decide +kernel
theorem d_L_law_217 : decode b_L_law 217 = .ok (.iaload, 1) := by decide +kernel
theorem d_L_law_218 : decode b_L_law 218 = .ok (.aload_n 0, 1) := by decide +kernel
theorem d_L_law_219 : decode b_L_law 219 = .ok (.iload 4, 2) := by decide +kernel
theorem d_L_law_221 : decode b_L_law 221 = .ok (.iconst 3, 1) := by decide +kernel
theorem d_L_law_222 : decode b_L_law 222 = .ok (.iadd, 1) := by decide +kernel
theorem d_L_law_223 : decode b_L_law 223 = .ok (.iaload, 1) := by decide +kernel
theorem d_L_law_224 : decode b_L_law 224 = .ok (.invokevirtual 46, 3) := by decide +kernel
theorem d_L_law_227 : decode b_L_law 227 = .ok (.istore 6, 2) := by decide +kernel
theorem d_L_law_229 : decode b_L_law 229 = .ok (.aload_n 2, 1) := by decide +kernel
theorem d_L_law_230 : decode b_L_law 230 = .ok (.invokevirtual 39, 3) := by decide +kernel
theorem d_L_law_233 : decode b_L_law 233 = .ok (.iload 5, 2) := by decide +kernel
theorem d_L_law_235 : decode b_L_law 235 = .ok (.if_icmp .eq 5, 3) := by decide +kernel
theorem d_L_law_238 : decode b_L_law 238 = .ok (.iconst 0, 1) := by decide +kernel
theorem d_L_law_239 : decode b_L_law 239 = .ok (.ireturn, 1) := by decide +kernel
theorem d_L_law_240 : decode b_L_law 240 = .ok (.iload 5, 2) := by decide +kernel
theorem d_L_law_242 : decode b_L_law 242 = .ok (.ifCond .ne 15, 3) := by decide +kernel
theorem d_L_law_245 : decode b_L_law 245 = .ok (.aload_n 3, 1) := by decide +kernel
theorem d_L_law_246 : decode b_L_law 246 = .ok (.iconst 0, 1) := by decide +kernel
theorem d_L_law_247 : decode b_L_law 247 = .ok (.laload, 1) := by decide +kernel
theorem d_L_law_248 : decode b_L_law 248 = .ok (.iload 6, 2) := by decide +kernel
theorem d_L_law_250 : decode b_L_law 250 = .ok (.i2l, 1) := by decide +kernel
theorem d_L_law_251 : decode b_L_law 251 = .ok (.lcmp, 1) := by decide +kernel
theorem d_L_law_252 : decode b_L_law 252 = .ok (.ifCond .eq 5, 3) := by decide +kernel
theorem d_L_law_255 : decode b_L_law 255 = .ok (.iconst 0, 1) := by decide +kernel
theorem d_L_law_256 : decode b_L_law 256 = .ok (.ireturn, 1) := by decide +kernel
theorem d_L_law_257 : decode b_L_law 257 = .ok (.goto 355, 3) := by decide +kernel
theorem d_L_law_260 : decode b_L_law 260 = .ok (.aload_n 1, 1) := by decide +kernel
theorem d_L_law_261 : decode b_L_law 261 = .ok (.aload_n 0, 1) := by decide +kernel
theorem d_L_law_262 : decode b_L_law 262 = .ok (.iload 4, 2) := by decide +kernel
theorem d_L_law_264 : decode b_L_law 264 = .ok (.iconst 1, 1) := by decide +kernel
theorem d_L_law_265 : decode b_L_law 265 = .ok (.iadd, 1) := by decide +kernel
theorem d_L_law_266 : decode b_L_law 266 = .ok (.iaload, 1) := by decide +kernel
theorem d_L_law_267 : decode b_L_law 267 = .ok (.aload_n 0, 1) := by decide +kernel
theorem d_L_law_268 : decode b_L_law 268 = .ok (.iload 4, 2) := by decide +kernel
theorem d_L_law_270 : decode b_L_law 270 = .ok (.iconst 2, 1) := by decide +kernel
theorem d_L_law_271 : decode b_L_law 271 = .ok (.iadd, 1) := by decide +kernel
theorem d_L_law_272 : decode b_L_law 272 = .ok (.iaload, 1) := by decide +kernel
theorem d_L_law_273 : decode b_L_law 273 = .ok (.ifCond .eq 7, 3) := by decide +kernel
theorem d_L_law_276 : decode b_L_law 276 = .ok (.iconst 1, 1) := by decide +kernel
theorem d_L_law_277 : decode b_L_law 277 = .ok (.goto 4, 3) := by decide +kernel
theorem d_L_law_280 : decode b_L_law 280 = .ok (.iconst 0, 1) := by decide +kernel
theorem d_L_law_281 : decode b_L_law 281 = .ok (.invokestatic 47, 3) := by decide +kernel
theorem d_L_law_284 : decode b_L_law 284 = .ok (.istore 5, 2) := by decide +kernel
theorem d_L_law_286 : decode b_L_law 286 = .ok (.aload_n 2, 1) := by decide +kernel
theorem d_L_law_287 : decode b_L_law 287 = .ok (.aload_n 0, 1) := by decide +kernel
theorem d_L_law_288 : decode b_L_law 288 = .ok (.iload 4, 2) := by decide +kernel
theorem d_L_law_290 : decode b_L_law 290 = .ok (.iconst 1, 1) := by decide +kernel
theorem d_L_law_291 : decode b_L_law 291 = .ok (.iadd, 1) := by decide +kernel
theorem d_L_law_292 : decode b_L_law 292 = .ok (.iaload, 1) := by decide +kernel
theorem d_L_law_293 : decode b_L_law 293 = .ok (.aload_n 0, 1) := by decide +kernel
theorem d_L_law_294 : decode b_L_law 294 = .ok (.iload 4, 2) := by decide +kernel
theorem d_L_law_296 : decode b_L_law 296 = .ok (.iconst 2, 1) := by decide +kernel
theorem d_L_law_297 : decode b_L_law 297 = .ok (.iadd, 1) := by decide +kernel
theorem d_L_law_298 : decode b_L_law 298 = .ok (.iaload, 1) := by decide +kernel
theorem d_L_law_299 : decode b_L_law 299 = .ok (.ifCond .eq 7, 3) := by decide +kernel
theorem d_L_law_302 : decode b_L_law 302 = .ok (.iconst 1, 1) := by decide +kernel
theorem d_L_law_303 : decode b_L_law 303 = .ok (.goto 4, 3) := by decide +kernel
theorem d_L_law_306 : decode b_L_law 306 = .ok (.iconst 0, 1) := by decide +kernel
theorem d_L_law_307 : decode b_L_law 307 = .ok (.invokevirtual 50, 3) := by decide +kernel
theorem d_L_law_310 : decode b_L_law 310 = .ok (.aload_n 2, 1) := by decide +kernel
theorem d_L_law_311 : decode b_L_law 311 = .ok (.invokevirtual 39, 3) := by decide +kernel
theorem d_L_law_314 : decode b_L_law 314 = .ok (.iload 5, 2) := by decide +kernel
theorem d_L_law_316 : decode b_L_law 316 = .ok (.if_icmp .eq 5, 3) := by decide +kernel
theorem d_L_law_319 : decode b_L_law 319 = .ok (.iconst 0, 1) := by decide +kernel
theorem d_L_law_320 : decode b_L_law 320 = .ok (.ireturn, 1) := by decide +kernel
theorem d_L_law_321 : decode b_L_law 321 = .ok (.goto 291, 3) := by decide +kernel
theorem d_L_law_324 : decode b_L_law 324 = .ok (.aload_n 1, 1) := by decide +kernel
theorem d_L_law_325 : decode b_L_law 325 = .ok (.aload_n 0, 1) := by decide +kernel
theorem d_L_law_326 : decode b_L_law 326 = .ok (.iload 4, 2) := by decide +kernel
theorem d_L_law_328 : decode b_L_law 328 = .ok (.iconst 1, 1) := by decide +kernel
theorem d_L_law_329 : decode b_L_law 329 = .ok (.iadd, 1) := by decide +kernel
theorem d_L_law_330 : decode b_L_law 330 = .ok (.iaload, 1) := by decide +kernel
theorem d_L_law_331 : decode b_L_law 331 = .ok (.invokevirtual 51, 3) := by decide +kernel
theorem d_L_law_334 : decode b_L_law 334 = .ok (.aload_n 2, 1) := by decide +kernel
theorem d_L_law_335 : decode b_L_law 335 = .ok (.aload_n 0, 1) := by decide +kernel
theorem d_L_law_336 : decode b_L_law 336 = .ok (.iload 4, 2) := by decide +kernel
theorem d_L_law_338 : decode b_L_law 338 = .ok (.iconst 1, 1) := by decide +kernel
theorem d_L_law_339 : decode b_L_law 339 = .ok (.iadd, 1) := by decide +kernel
theorem d_L_law_340 : decode b_L_law 340 = .ok (.iaload, 1) := by decide +kernel
theorem d_L_law_341 : decode b_L_law 341 = .ok (.invokevirtual 55, 3) := by decide +kernel
theorem d_L_law_344 : decode b_L_law 344 = .ok (.if_icmp .eq 268, 3) := by decide +kernel
theorem d_L_law_347 : decode b_L_law 347 = .ok (.iconst 0, 1) := by decide +kernel
theorem d_L_law_348 : decode b_L_law 348 = .ok (.ireturn, 1) := by decide +kernel
theorem d_L_law_349 : decode b_L_law 349 = .ok (.aload_n 1, 1) := by decide +kernel
theorem d_L_law_350 : decode b_L_law 350 = .ok (.aload_n 0, 1) := by decide +kernel
theorem d_L_law_351 : decode b_L_law 351 = .ok (.iload 4, 2) := by decide +kernel
theorem d_L_law_353 : decode b_L_law 353 = .ok (.iconst 1, 1) := by decide +kernel
theorem d_L_law_354 : decode b_L_law 354 = .ok (.iadd, 1) := by decide +kernel
theorem d_L_law_355 : decode b_L_law 355 = .ok (.iaload, 1) := by decide +kernel
theorem d_L_law_356 : decode b_L_law 356 = .ok (.aload_n 0, 1) := by decide +kernel
theorem d_L_law_357 : decode b_L_law 357 = .ok (.iload 4, 2) := by decide +kernel
theorem d_L_law_359 : decode b_L_law 359 = .ok (.iconst 2, 1) := by decide +kernel
theorem d_L_law_360 : decode b_L_law 360 = .ok (.iadd, 1) := by decide +kernel
theorem d_L_law_361 : decode b_L_law 361 = .ok (.iaload, 1) := by decide +kernel
theorem d_L_law_362 : decode b_L_law 362 = .ok (.invokevirtual 56, 3) := by decide +kernel
theorem d_L_law_365 : decode b_L_law 365 = .ok (.aload_n 2, 1) := by decide +kernel
theorem d_L_law_366 : decode b_L_law 366 = .ok (.aload_n 0, 1) := by decide +kernel
theorem d_L_law_367 : decode b_L_law 367 = .ok (.iload 4, 2) := by decide +kernel
theorem d_L_law_369 : decode b_L_law 369 = .ok (.iconst 1, 1) := by decide +kernel
theorem d_L_law_370 : decode b_L_law 370 = .ok (.iadd, 1) := by decide +kernel
theorem d_L_law_371 : decode b_L_law 371 = .ok (.iaload, 1) := by decide +kernel
theorem d_L_law_372 : decode b_L_law 372 = .ok (.aload_n 0, 1) := by decide +kernel
theorem d_L_law_373 : decode b_L_law 373 = .ok (.iload 4, 2) := by decide +kernel
theorem d_L_law_375 : decode b_L_law 375 = .ok (.iconst 2, 1) := by decide +kernel
theorem d_L_law_376 : decode b_L_law 376 = .ok (.iadd, 1) := by decide +kernel
theorem d_L_law_377 : decode b_L_law 377 = .ok (.iaload, 1) := by decide +kernel
theorem d_L_law_378 : decode b_L_law 378 = .ok (.invokevirtual 59, 3) := by decide +kernel
theorem d_L_law_381 : decode b_L_law 381 = .ok (.if_icmp .eq 231, 3) := by decide +kernel
theorem d_L_law_384 : decode b_L_law 384 = .ok (.iconst 0, 1) := by decide +kernel
theorem d_L_law_385 : decode b_L_law 385 = .ok (.ireturn, 1) := by decide +kernel
theorem d_L_law_386 : decode b_L_law 386 = .ok (.aload_n 1, 1) := by decide +kernel
theorem d_L_law_387 : decode b_L_law 387 = .ok (.aload_n 0, 1) := by decide +kernel
theorem d_L_law_388 : decode b_L_law 388 = .ok (.iload 4, 2) := by decide +kernel
theorem d_L_law_390 : decode b_L_law 390 = .ok (.iconst 1, 1) := by decide +kernel
theorem d_L_law_391 : decode b_L_law 391 = .ok (.iadd, 1) := by decide +kernel
theorem d_L_law_392 : decode b_L_law 392 = .ok (.iaload, 1) := by decide +kernel
theorem d_L_law_393 : decode b_L_law 393 = .ok (.aload_n 0, 1) := by decide +kernel
theorem d_L_law_394 : decode b_L_law 394 = .ok (.iload 4, 2) := by decide +kernel
theorem d_L_law_396 : decode b_L_law 396 = .ok (.iconst 2, 1) := by decide +kernel
theorem d_L_law_397 : decode b_L_law 397 = .ok (.iadd, 1) := by decide +kernel
theorem d_L_law_398 : decode b_L_law 398 = .ok (.iaload, 1) := by decide +kernel
theorem d_L_law_399 : decode b_L_law 399 = .ok (.invokevirtual 60, 3) := by decide +kernel
theorem d_L_law_402 : decode b_L_law 402 = .ok (.aload_n 2, 1) := by decide +kernel
theorem d_L_law_403 : decode b_L_law 403 = .ok (.aload_n 0, 1) := by decide +kernel
theorem d_L_law_404 : decode b_L_law 404 = .ok (.iload 4, 2) := by decide +kernel
theorem d_L_law_406 : decode b_L_law 406 = .ok (.iconst 1, 1) := by decide +kernel
theorem d_L_law_407 : decode b_L_law 407 = .ok (.iadd, 1) := by decide +kernel
theorem d_L_law_408 : decode b_L_law 408 = .ok (.iaload, 1) := by decide +kernel
theorem d_L_law_409 : decode b_L_law 409 = .ok (.aload_n 0, 1) := by decide +kernel
theorem d_L_law_410 : decode b_L_law 410 = .ok (.iload 4, 2) := by decide +kernel
theorem d_L_law_412 : decode b_L_law 412 = .ok (.iconst 2, 1) := by decide +kernel
theorem d_L_law_413 : decode b_L_law 413 = .ok (.iadd, 1) := by decide +kernel
theorem d_L_law_414 : decode b_L_law 414 = .ok (.iaload, 1) := by decide +kernel
theorem d_L_law_415 : decode b_L_law 415 = .ok (.invokevirtual 64, 3) := by decide +kernel
theorem d_L_law_418 : decode b_L_law 418 = .ok (.if_icmp .eq 194, 3) := by decide +kernel
theorem d_L_law_421 : decode b_L_law 421 = .ok (.iconst 0, 1) := by decide +kernel
theorem d_L_law_422 : decode b_L_law 422 = .ok (.ireturn, 1) := by decide +kernel
theorem d_L_law_423 : decode b_L_law 423 = .ok (.aload_n 1, 1) := by decide +kernel
theorem d_L_law_424 : decode b_L_law 424 = .ok (.aload_n 0, 1) := by decide +kernel
theorem d_L_law_425 : decode b_L_law 425 = .ok (.iload 4, 2) := by decide +kernel
theorem d_L_law_427 : decode b_L_law 427 = .ok (.iconst 1, 1) := by decide +kernel
theorem d_L_law_428 : decode b_L_law 428 = .ok (.iadd, 1) := by decide +kernel
theorem d_L_law_429 : decode b_L_law 429 = .ok (.iaload, 1) := by decide +kernel
theorem d_L_law_430 : decode b_L_law 430 = .ok (.aload_n 0, 1) := by decide +kernel
theorem d_L_law_431 : decode b_L_law 431 = .ok (.iload 4, 2) := by decide +kernel
theorem d_L_law_433 : decode b_L_law 433 = .ok (.iconst 2, 1) := by decide +kernel
theorem d_L_law_434 : decode b_L_law 434 = .ok (.iadd, 1) := by decide +kernel
theorem d_L_law_435 : decode b_L_law 435 = .ok (.iaload, 1) := by decide +kernel
theorem d_L_law_436 : decode b_L_law 436 = .ok (.invokevirtual 65, 3) := by decide +kernel
theorem d_L_law_439 : decode b_L_law 439 = .ok (.aload_n 2, 1) := by decide +kernel
theorem d_L_law_440 : decode b_L_law 440 = .ok (.aload_n 0, 1) := by decide +kernel
theorem d_L_law_441 : decode b_L_law 441 = .ok (.iload 4, 2) := by decide +kernel
theorem d_L_law_443 : decode b_L_law 443 = .ok (.iconst 1, 1) := by decide +kernel
theorem d_L_law_444 : decode b_L_law 444 = .ok (.iadd, 1) := by decide +kernel
theorem d_L_law_445 : decode b_L_law 445 = .ok (.iaload, 1) := by decide +kernel
theorem d_L_law_446 : decode b_L_law 446 = .ok (.aload_n 0, 1) := by decide +kernel
theorem d_L_law_447 : decode b_L_law 447 = .ok (.iload 4, 2) := by decide +kernel
theorem d_L_law_449 : decode b_L_law 449 = .ok (.iconst 2, 1) := by decide +kernel
theorem d_L_law_450 : decode b_L_law 450 = .ok (.iadd, 1) := by decide +kernel
theorem d_L_law_451 : decode b_L_law 451 = .ok (.iaload, 1) := by decide +kernel
theorem d_L_law_452 : decode b_L_law 452 = .ok (.invokevirtual 68, 3) := by decide +kernel
theorem d_L_law_455 : decode b_L_law 455 = .ok (.if_icmp .eq 157, 3) := by decide +kernel
theorem d_L_law_458 : decode b_L_law 458 = .ok (.iconst 0, 1) := by decide +kernel
theorem d_L_law_459 : decode b_L_law 459 = .ok (.ireturn, 1) := by decide +kernel
theorem d_L_law_460 : decode b_L_law 460 = .ok (.aload_n 1, 1) := by decide +kernel
theorem d_L_law_461 : decode b_L_law 461 = .ok (.invokevirtual 69, 3) := by decide +kernel
theorem d_L_law_464 : decode b_L_law 464 = .ok (.aload_n 2, 1) := by decide +kernel
theorem d_L_law_465 : decode b_L_law 465 = .ok (.invokevirtual 72, 3) := by decide +kernel
theorem d_L_law_468 : decode b_L_law 468 = .ok (.if_icmp .eq 144, 3) := by decide +kernel
theorem d_L_law_471 : decode b_L_law 471 = .ok (.iconst 0, 1) := by decide +kernel
theorem d_L_law_472 : decode b_L_law 472 = .ok (.ireturn, 1) := by decide +kernel
theorem d_L_law_473 : decode b_L_law 473 = .ok (.aload_n 1, 1) := by decide +kernel
theorem d_L_law_474 : decode b_L_law 474 = .ok (.invokevirtual 73, 3) := by decide +kernel
theorem d_L_law_477 : decode b_L_law 477 = .ok (.aload_n 2, 1) := by decide +kernel
theorem d_L_law_478 : decode b_L_law 478 = .ok (.invokevirtual 76, 3) := by decide +kernel
theorem d_L_law_481 : decode b_L_law 481 = .ok (.if_icmp .eq 131, 3) := by decide +kernel
theorem d_L_law_484 : decode b_L_law 484 = .ok (.iconst 0, 1) := by decide +kernel
theorem d_L_law_485 : decode b_L_law 485 = .ok (.ireturn, 1) := by decide +kernel
theorem d_L_law_486 : decode b_L_law 486 = .ok (.aload_n 1, 1) := by decide +kernel
theorem d_L_law_487 : decode b_L_law 487 = .ok (.aload_n 0, 1) := by decide +kernel
theorem d_L_law_488 : decode b_L_law 488 = .ok (.iload 4, 2) := by decide +kernel
theorem d_L_law_490 : decode b_L_law 490 = .ok (.iconst 1, 1) := by decide +kernel
theorem d_L_law_491 : decode b_L_law 491 = .ok (.iadd, 1) := by decide +kernel
theorem d_L_law_492 : decode b_L_law 492 = .ok (.iaload, 1) := by decide +kernel
theorem d_L_law_493 : decode b_L_law 493 = .ok (.invokevirtual 77, 3) := by decide +kernel
theorem d_L_law_496 : decode b_L_law 496 = .ok (.aload_n 2, 1) := by decide +kernel
theorem d_L_law_497 : decode b_L_law 497 = .ok (.aload_n 0, 1) := by decide +kernel
theorem d_L_law_498 : decode b_L_law 498 = .ok (.iload 4, 2) := by decide +kernel
theorem d_L_law_500 : decode b_L_law 500 = .ok (.iconst 1, 1) := by decide +kernel
theorem d_L_law_501 : decode b_L_law 501 = .ok (.iadd, 1) := by decide +kernel
theorem d_L_law_502 : decode b_L_law 502 = .ok (.iaload, 1) := by decide +kernel
theorem d_L_law_503 : decode b_L_law 503 = .ok (.invokevirtual 80, 3) := by decide +kernel
theorem d_L_law_506 : decode b_L_law 506 = .ok (.if_icmp .eq 106, 3) := by decide +kernel
theorem d_L_law_509 : decode b_L_law 509 = .ok (.iconst 0, 1) := by decide +kernel
theorem d_L_law_510 : decode b_L_law 510 = .ok (.ireturn, 1) := by decide +kernel
theorem d_L_law_511 : decode b_L_law 511 = .ok (.aload_n 1, 1) := by decide +kernel
theorem d_L_law_512 : decode b_L_law 512 = .ok (.aload_n 0, 1) := by decide +kernel
theorem d_L_law_513 : decode b_L_law 513 = .ok (.iload 4, 2) := by decide +kernel
theorem d_L_law_515 : decode b_L_law 515 = .ok (.iconst 1, 1) := by decide +kernel
theorem d_L_law_516 : decode b_L_law 516 = .ok (.iadd, 1) := by decide +kernel
theorem d_L_law_517 : decode b_L_law 517 = .ok (.iaload, 1) := by decide +kernel
theorem d_L_law_518 : decode b_L_law 518 = .ok (.aload_n 0, 1) := by decide +kernel
theorem d_L_law_519 : decode b_L_law 519 = .ok (.iload 4, 2) := by decide +kernel
theorem d_L_law_521 : decode b_L_law 521 = .ok (.iconst 2, 1) := by decide +kernel
theorem d_L_law_522 : decode b_L_law 522 = .ok (.iadd, 1) := by decide +kernel
theorem d_L_law_523 : decode b_L_law 523 = .ok (.iaload, 1) := by decide +kernel
theorem d_L_law_524 : decode b_L_law 524 = .ok (.invokevirtual 81, 3) := by decide +kernel
theorem d_L_law_527 : decode b_L_law 527 = .ok (.aload_n 2, 1) := by decide +kernel
theorem d_L_law_528 : decode b_L_law 528 = .ok (.aload_n 0, 1) := by decide +kernel
theorem d_L_law_529 : decode b_L_law 529 = .ok (.iload 4, 2) := by decide +kernel
theorem d_L_law_531 : decode b_L_law 531 = .ok (.iconst 1, 1) := by decide +kernel
theorem d_L_law_532 : decode b_L_law 532 = .ok (.iadd, 1) := by decide +kernel
theorem d_L_law_533 : decode b_L_law 533 = .ok (.iaload, 1) := by decide +kernel
theorem d_L_law_534 : decode b_L_law 534 = .ok (.aload_n 0, 1) := by decide +kernel
theorem d_L_law_535 : decode b_L_law 535 = .ok (.iload 4, 2) := by decide +kernel
theorem d_L_law_537 : decode b_L_law 537 = .ok (.iconst 2, 1) := by decide +kernel
theorem d_L_law_538 : decode b_L_law 538 = .ok (.iadd, 1) := by decide +kernel
theorem d_L_law_539 : decode b_L_law 539 = .ok (.iaload, 1) := by decide +kernel
theorem d_L_law_540 : decode b_L_law 540 = .ok (.invokevirtual 84, 3) := by decide +kernel
theorem d_L_law_543 : decode b_L_law 543 = .ok (.if_icmp .eq 69, 3) := by decide +kernel
theorem d_L_law_546 : decode b_L_law 546 = .ok (.iconst 0, 1) := by decide +kernel
theorem d_L_law_547 : decode b_L_law 547 = .ok (.ireturn, 1) := by decide +kernel
theorem d_L_law_548 : decode b_L_law 548 = .ok (.aload_n 1, 1) := by decide +kernel
theorem d_L_law_549 : decode b_L_law 549 = .ok (.invokevirtual 85, 3) := by decide +kernel
theorem d_L_law_552 : decode b_L_law 552 = .ok (.aload_n 2, 1) := by decide +kernel
theorem d_L_law_553 : decode b_L_law 553 = .ok (.invokevirtual 89, 3) := by decide +kernel
theorem d_L_law_556 : decode b_L_law 556 = .ok (.if_icmp .eq 56, 3) := by decide +kernel
theorem d_L_law_559 : decode b_L_law 559 = .ok (.iconst 0, 1) := by decide +kernel
theorem d_L_law_560 : decode b_L_law 560 = .ok (.ireturn, 1) := by decide +kernel
theorem d_L_law_561 : decode b_L_law 561 = .ok (.aload_n 1, 1) := by decide +kernel
theorem d_L_law_562 : decode b_L_law 562 = .ok (.aload_n 0, 1) := by decide +kernel
theorem d_L_law_563 : decode b_L_law 563 = .ok (.iload 4, 2) := by decide +kernel
theorem d_L_law_565 : decode b_L_law 565 = .ok (.iconst 1, 1) := by decide +kernel
theorem d_L_law_566 : decode b_L_law 566 = .ok (.iadd, 1) := by decide +kernel
theorem d_L_law_567 : decode b_L_law 567 = .ok (.iaload, 1) := by decide +kernel
theorem d_L_law_568 : decode b_L_law 568 = .ok (.invokevirtual 90, 3) := by decide +kernel
theorem d_L_law_571 : decode b_L_law 571 = .ok (.aload_n 2, 1) := by decide +kernel
theorem d_L_law_572 : decode b_L_law 572 = .ok (.aload_n 0, 1) := by decide +kernel
theorem d_L_law_573 : decode b_L_law 573 = .ok (.iload 4, 2) := by decide +kernel
theorem d_L_law_575 : decode b_L_law 575 = .ok (.iconst 1, 1) := by decide +kernel
theorem d_L_law_576 : decode b_L_law 576 = .ok (.iadd, 1) := by decide +kernel
theorem d_L_law_577 : decode b_L_law 577 = .ok (.iaload, 1) := by decide +kernel
theorem d_L_law_578 : decode b_L_law 578 = .ok (.invokevirtual 93, 3) := by decide +kernel
theorem d_L_law_581 : decode b_L_law 581 = .ok (.if_icmp .eq 31, 3) := by decide +kernel
theorem d_L_law_584 : decode b_L_law 584 = .ok (.iconst 0, 1) := by decide +kernel
theorem d_L_law_585 : decode b_L_law 585 = .ok (.ireturn, 1) := by decide +kernel
theorem d_L_law_586 : decode b_L_law 586 = .ok (.aload_n 1, 1) := by decide +kernel
theorem d_L_law_587 : decode b_L_law 587 = .ok (.invokevirtual 94, 3) := by decide +kernel
theorem d_L_law_590 : decode b_L_law 590 = .ok (.aload_n 2, 1) := by decide +kernel
theorem d_L_law_591 : decode b_L_law 591 = .ok (.invokevirtual 97, 3) := by decide +kernel
theorem d_L_law_594 : decode b_L_law 594 = .ok (.if_icmp .eq 18, 3) := by decide +kernel
theorem d_L_law_597 : decode b_L_law 597 = .ok (.iconst 0, 1) := by decide +kernel
theorem d_L_law_598 : decode b_L_law 598 = .ok (.ireturn, 1) := by decide +kernel
theorem d_L_law_599 : decode b_L_law 599 = .ok (.aload_n 1, 1) := by decide +kernel
theorem d_L_law_600 : decode b_L_law 600 = .ok (.invokevirtual 98, 3) := by decide +kernel
theorem d_L_law_603 : decode b_L_law 603 = .ok (.aload_n 2, 1) := by decide +kernel
theorem d_L_law_604 : decode b_L_law 604 = .ok (.invokevirtual 101, 3) := by decide +kernel
theorem d_L_law_607 : decode b_L_law 607 = .ok (.if_icmp .eq 5, 3) := by decide +kernel
theorem d_L_law_610 : decode b_L_law 610 = .ok (.iconst 0, 1) := by decide +kernel
theorem d_L_law_611 : decode b_L_law 611 = .ok (.ireturn, 1) := by decide +kernel
theorem d_L_law_612 : decode b_L_law 612 = .ok (.iinc 4 4, 3) := by decide +kernel
theorem d_L_law_615 : decode b_L_law 615 = .ok (.goto (-592), 3) := by decide +kernel
theorem d_L_law_618 : decode b_L_law 618 = .ok (.iconst 1, 1) := by decide +kernel
theorem d_L_law_619 : decode b_L_law 619 = .ok (.ireturn, 1) := by decide +kernel
abbrev y_L_read : MethodName := ⟨"HistoryJudgeLaw", "read", "(LHistoryJudge;III[J)I"⟩
abbrev b_L_read : ByteArray := method_4_code
theorem d_L_read_0 : decode b_L_read 0 = .ok (.aload 4, 2) := by decide +kernel
theorem d_L_read_2 : decode b_L_read 2 = .ok (.iconst 0, 1) := by decide +kernel
theorem d_L_read_3 : decode b_L_read 3 = .ok (.aload_n 0, 1) := by decide +kernel
theorem d_L_read_4 : decode b_L_read 4 = .ok (.iload_n 1, 1) := by decide +kernel
theorem d_L_read_5 : decode b_L_read 5 = .ok (.iload_n 2, 1) := by decide +kernel
theorem d_L_read_6 : decode b_L_read 6 = .ok (.iload_n 3, 1) := by decide +kernel
theorem d_L_read_7 : decode b_L_read 7 = .ok (.invokevirtual 19, 3) := by decide +kernel
theorem d_L_read_10 : decode b_L_read 10 = .ok (.i2l, 1) := by decide +kernel
theorem d_L_read_11 : decode b_L_read 11 = .ok (.lastore, 1) := by decide +kernel
theorem d_L_read_12 : decode b_L_read 12 = .ok (.goto 19, 3) := by decide +kernel
theorem d_L_read_15 : decode b_L_read 15 = .ok (.astore 5, 2) := by decide +kernel
theorem d_L_read_17 : decode b_L_read 17 = .ok (.iconst 1, 1) := by decide +kernel
theorem d_L_read_18 : decode b_L_read 18 = .ok (.ireturn, 1) := by decide +kernel
theorem d_L_read_19 : decode b_L_read 19 = .ok (.astore 5, 2) := by decide +kernel
theorem d_L_read_21 : decode b_L_read 21 = .ok (.iconst 2, 1) := by decide +kernel
theorem d_L_read_22 : decode b_L_read 22 = .ok (.ireturn, 1) := by decide +kernel
theorem d_L_read_23 : decode b_L_read 23 = .ok (.astore 5, 2) := by decide +kernel
theorem d_L_read_25 : decode b_L_read 25 = .ok (.iconst 3, 1) := by decide +kernel
theorem d_L_read_26 : decode b_L_read 26 = .ok (.ireturn, 1) := by decide +kernel
theorem d_L_read_27 : decode b_L_read 27 = .ok (.astore 5, 2) := by decide +kernel
theorem d_L_read_29 : decode b_L_read 29 = .ok (.iconst 4, 1) := by decide +kernel
theorem d_L_read_30 : decode b_L_read 30 = .ok (.ireturn, 1) := by decide +kernel
theorem d_L_read_31 : decode b_L_read 31 = .ok (.iconst 0, 1) := by decide +kernel
theorem d_L_read_32 : decode b_L_read 32 = .ok (.ireturn, 1) := by decide +kernel
abbrev y_L_write : MethodName := ⟨"HistoryJudgeLaw", "write", "(LHistoryJudge;II[J)I"⟩
abbrev b_L_write : ByteArray := method_3_code
theorem d_L_write_0 : decode b_L_write 0 = .ok (.aload_n 3, 1) := by decide +kernel
theorem d_L_write_1 : decode b_L_write 1 = .ok (.iconst 0, 1) := by decide +kernel
theorem d_L_write_2 : decode b_L_write 2 = .ok (.aload_n 0, 1) := by decide +kernel
theorem d_L_write_3 : decode b_L_write 3 = .ok (.iload_n 1, 1) := by decide +kernel
theorem d_L_write_4 : decode b_L_write 4 = .ok (.iload_n 2, 1) := by decide +kernel
theorem d_L_write_5 : decode b_L_write 5 = .ok (.invokevirtual 7, 3) := by decide +kernel
theorem d_L_write_8 : decode b_L_write 8 = .ok (.i2l, 1) := by decide +kernel
theorem d_L_write_9 : decode b_L_write 9 = .ok (.lastore, 1) := by decide +kernel
theorem d_L_write_10 : decode b_L_write 10 = .ok (.goto 15, 3) := by decide +kernel
theorem d_L_write_13 : decode b_L_write 13 = .ok (.astore 4, 2) := by decide +kernel
theorem d_L_write_15 : decode b_L_write 15 = .ok (.iconst 1, 1) := by decide +kernel
theorem d_L_write_16 : decode b_L_write 16 = .ok (.ireturn, 1) := by decide +kernel
theorem d_L_write_17 : decode b_L_write 17 = .ok (.astore 4, 2) := by decide +kernel
theorem d_L_write_19 : decode b_L_write 19 = .ok (.iconst 2, 1) := by decide +kernel
theorem d_L_write_20 : decode b_L_write 20 = .ok (.ireturn, 1) := by decide +kernel
theorem d_L_write_21 : decode b_L_write 21 = .ok (.astore 4, 2) := by decide +kernel
theorem d_L_write_23 : decode b_L_write 23 = .ok (.iconst 3, 1) := by decide +kernel
theorem d_L_write_24 : decode b_L_write 24 = .ok (.ireturn, 1) := by decide +kernel
theorem d_L_write_25 : decode b_L_write 25 = .ok (.iconst 0, 1) := by decide +kernel
theorem d_L_write_26 : decode b_L_write 26 = .ok (.ireturn, 1) := by decide +kernel
abbrev y_M_allFlaws : MethodName := ⟨"HistoryJudgeModel", "allFlaws", "()I"⟩
abbrev b_M_allFlaws : ByteArray := prog_7_method_32_code
theorem d_M_allFlaws_0 : decode b_M_allFlaws 0 = .ok (.aload_n 0, 1) := by decide +kernel
theorem d_M_allFlaws_1 : decode b_M_allFlaws 1 = .ok (.iconst 0, 1) := by decide +kernel
theorem d_M_allFlaws_2 : decode b_M_allFlaws 2 = .ok (.invokevirtual 120, 3) := by decide +kernel
theorem d_M_allFlaws_5 : decode b_M_allFlaws 5 = .ok (.istore_n 1, 1) := by decide +kernel
theorem d_M_allFlaws_6 : decode b_M_allFlaws 6 = .ok (.aload_n 0, 1) := by decide +kernel
theorem d_M_allFlaws_7 : decode b_M_allFlaws 7 = .ok (.iconst 1, 1) := by decide +kernel
theorem d_M_allFlaws_8 : decode b_M_allFlaws 8 = .ok (.invokevirtual 120, 3) := by decide +kernel
theorem d_M_allFlaws_11 : decode b_M_allFlaws 11 = .ok (.istore_n 2, 1) := by decide +kernel
theorem d_M_allFlaws_12 : decode b_M_allFlaws 12 = .ok (.aload_n 0, 1) := by decide +kernel
theorem d_M_allFlaws_13 : decode b_M_allFlaws 13 = .ok (.iconst 2, 1) := by decide +kernel
theorem d_M_allFlaws_14 : decode b_M_allFlaws 14 = .ok (.invokevirtual 120, 3) := by decide +kernel
theorem d_M_allFlaws_17 : decode b_M_allFlaws 17 = .ok (.istore_n 3, 1) := by decide +kernel
theorem d_M_allFlaws_18 : decode b_M_allFlaws 18 = .ok (.aload_n 0, 1) := by decide +kernel
theorem d_M_allFlaws_19 : decode b_M_allFlaws 19 = .ok (.iconst 3, 1) := by decide +kernel
theorem d_M_allFlaws_20 : decode b_M_allFlaws 20 = .ok (.invokevirtual 120, 3) := by decide +kernel
theorem d_M_allFlaws_23 : decode b_M_allFlaws 23 = .ok (.istore 4, 2) := by decide +kernel
theorem d_M_allFlaws_25 : decode b_M_allFlaws 25 = .ok (.aload_n 0, 1) := by decide +kernel
theorem d_M_allFlaws_26 : decode b_M_allFlaws 26 = .ok (.invokevirtual 123, 3) := by decide +kernel
theorem d_M_allFlaws_29 : decode b_M_allFlaws 29 = .ok (.iload_n 1, 1) := by decide +kernel
theorem d_M_allFlaws_30 : decode b_M_allFlaws 30 = .ok (.ifCond .le 7, 3) := by decide +kernel
theorem d_M_allFlaws_33 : decode b_M_allFlaws 33 = .ok (.iconst 1, 1) := by decide +kernel
theorem d_M_allFlaws_34 : decode b_M_allFlaws 34 = .ok (.goto 4, 3) := by decide +kernel
theorem d_M_allFlaws_37 : decode b_M_allFlaws 37 = .ok (.iconst 0, 1) := by decide +kernel
theorem d_M_allFlaws_38 : decode b_M_allFlaws 38 = .ok (.iadd, 1) := by decide +kernel
theorem d_M_allFlaws_39 : decode b_M_allFlaws 39 = .ok (.iload_n 2, 1) := by decide +kernel
theorem d_M_allFlaws_40 : decode b_M_allFlaws 40 = .ok (.ifCond .le 8, 3) := by decide +kernel
theorem d_M_allFlaws_43 : decode b_M_allFlaws 43 = .ok (.bipush 8, 2) := by decide +kernel
theorem d_M_allFlaws_45 : decode b_M_allFlaws 45 = .ok (.goto 4, 3) := by decide +kernel
theorem d_M_allFlaws_48 : decode b_M_allFlaws 48 = .ok (.iconst 0, 1) := by decide +kernel
theorem d_M_allFlaws_49 : decode b_M_allFlaws 49 = .ok (.iadd, 1) := by decide +kernel
theorem d_M_allFlaws_50 : decode b_M_allFlaws 50 = .ok (.iload_n 3, 1) := by decide +kernel
theorem d_M_allFlaws_51 : decode b_M_allFlaws 51 = .ok (.ifCond .le 8, 3) := by decide +kernel
theorem d_M_allFlaws_54 : decode b_M_allFlaws 54 = .ok (.bipush 16, 2) := by decide +kernel
theorem d_M_allFlaws_56 : decode b_M_allFlaws 56 = .ok (.goto 4, 3) := by decide +kernel
theorem d_M_allFlaws_59 : decode b_M_allFlaws 59 = .ok (.iconst 0, 1) := by decide +kernel
theorem d_M_allFlaws_60 : decode b_M_allFlaws 60 = .ok (.iadd, 1) := by decide +kernel
theorem d_M_allFlaws_61 : decode b_M_allFlaws 61 = .ok (.iload 4, 2) := by decide +kernel
theorem d_M_allFlaws_63 : decode b_M_allFlaws 63 = .ok (.ifCond .le 8, 3) := by decide +kernel
theorem d_M_allFlaws_66 : decode b_M_allFlaws 66 = .ok (.bipush 32, 2) := by decide +kernel
theorem d_M_allFlaws_68 : decode b_M_allFlaws 68 = .ok (.goto 4, 3) := by decide +kernel
theorem d_M_allFlaws_71 : decode b_M_allFlaws 71 = .ok (.iconst 0, 1) := by decide +kernel
theorem d_M_allFlaws_72 : decode b_M_allFlaws 72 = .ok (.iadd, 1) := by decide +kernel
theorem d_M_allFlaws_73 : decode b_M_allFlaws 73 = .ok (.ireturn, 1) := by decide +kernel
abbrev y_M_beginnings : MethodName := ⟨"HistoryJudgeModel", "beginnings", "()I"⟩
abbrev b_M_beginnings : ByteArray := prog_7_method_40_code
theorem d_M_beginnings_0 : decode b_M_beginnings 0 = .ok (.aload_n 0, 1) := by decide +kernel
theorem d_M_beginnings_1 : decode b_M_beginnings 1 = .ok (.iconst 0, 1) := by decide +kernel
theorem d_M_beginnings_2 : decode b_M_beginnings 2 = .ok (.putfield 50, 3) := by decide +kernel
theorem d_M_beginnings_5 : decode b_M_beginnings 5 = .ok (.iconst 0, 1) := by decide +kernel
theorem d_M_beginnings_6 : decode b_M_beginnings 6 = .ok (.istore_n 1, 1) := by decide +kernel
theorem d_M_beginnings_7 : decode b_M_beginnings 7 = .ok (.iconst 0, 1) := by decide +kernel
theorem d_M_beginnings_8 : decode b_M_beginnings 8 = .ok (.istore_n 2, 1) := by decide +kernel
theorem d_M_beginnings_9 : decode b_M_beginnings 9 = .ok (.iload_n 2, 1) := by decide +kernel
theorem d_M_beginnings_10 : decode b_M_beginnings 10 = .ok (.bipush 8, 2) := by decide +kernel
theorem d_M_beginnings_12 : decode b_M_beginnings 12 = .ok (.if_icmp .ge 34, 3) := by decide +kernel
theorem d_M_beginnings_15 : decode b_M_beginnings 15 = .ok (.aload_n 0, 1) := by decide +kernel
theorem d_M_beginnings_16 : decode b_M_beginnings 16 = .ok (.iload_n 2, 1) := by decide +kernel
theorem d_M_beginnings_17 : decode b_M_beginnings 17 = .ok (.invokevirtual 85, 3) := by decide +kernel
theorem d_M_beginnings_20 : decode b_M_beginnings 20 = .ok (.ifCond .eq 18, 3) := by decide +kernel
theorem d_M_beginnings_23 : decode b_M_beginnings 23 = .ok (.aload_n 0, 1) := by decide +kernel
theorem d_M_beginnings_24 : decode b_M_beginnings 24 = .ok (.iload_n 2, 1) := by decide +kernel
theorem d_M_beginnings_25 : decode b_M_beginnings 25 = .ok (.iload_n 2, 1) := by decide +kernel
theorem d_M_beginnings_26 : decode b_M_beginnings 26 = .ok (.invokevirtual 139, 3) := by decide +kernel
theorem d_M_beginnings_29 : decode b_M_beginnings 29 = .ok (.ifCond .eq 9, 3) := by decide +kernel
theorem d_M_beginnings_32 : decode b_M_beginnings 32 = .ok (.iload_n 1, 1) := by decide +kernel
theorem d_M_beginnings_33 : decode b_M_beginnings 33 = .ok (.iconst 1, 1) := by decide +kernel
theorem d_M_beginnings_34 : decode b_M_beginnings 34 = .ok (.iadd, 1) := by decide +kernel
theorem d_M_beginnings_35 : decode b_M_beginnings 35 = .ok (.goto 4, 3) := by decide +kernel
theorem d_M_beginnings_38 : decode b_M_beginnings 38 = .ok (.iload_n 1, 1) := by decide +kernel
theorem d_M_beginnings_39 : decode b_M_beginnings 39 = .ok (.istore_n 1, 1) := by decide +kernel
theorem d_M_beginnings_40 : decode b_M_beginnings 40 = .ok (.iinc 2 1, 3) := by decide +kernel
theorem d_M_beginnings_43 : decode b_M_beginnings 43 = .ok (.goto (-34), 3) := by decide +kernel
theorem d_M_beginnings_46 : decode b_M_beginnings 46 = .ok (.iload_n 1, 1) := by decide +kernel
theorem d_M_beginnings_47 : decode b_M_beginnings 47 = .ok (.ireturn, 1) := by decide +kernel
abbrev y_M_clear : MethodName := ⟨"HistoryJudgeModel", "clear", "()I"⟩
abbrev b_M_clear : ByteArray := prog_7_method_14_code
theorem d_M_clear_0 : decode b_M_clear 0 = .ok (.aload_n 0, 1) := by decide +kernel
theorem d_M_clear_1 : decode b_M_clear 1 = .ok (.iconst 0, 1) := by decide +kernel
theorem d_M_clear_2 : decode b_M_clear 2 = .ok (.putfield 50, 3) := by decide +kernel
theorem d_M_clear_5 : decode b_M_clear 5 = .ok (.aload_n 0, 1) := by decide +kernel
theorem d_M_clear_6 : decode b_M_clear 6 = .ok (.getfield 64, 3) := by decide +kernel
theorem d_M_clear_9 : decode b_M_clear 9 = .ok (.istore_n 1, 1) := by decide +kernel
theorem d_M_clear_10 : decode b_M_clear 10 = .ok (.aload_n 0, 1) := by decide +kernel
theorem d_M_clear_11 : decode b_M_clear 11 = .ok (.iconst 0, 1) := by decide +kernel
theorem d_M_clear_12 : decode b_M_clear 12 = .ok (.putfield 64, 3) := by decide +kernel
theorem d_M_clear_15 : decode b_M_clear 15 = .ok (.aload_n 0, 1) := by decide +kernel
theorem d_M_clear_16 : decode b_M_clear 16 = .ok (.iconst 0, 1) := by decide +kernel
theorem d_M_clear_17 : decode b_M_clear 17 = .ok (.putfield 75, 3) := by decide +kernel
theorem d_M_clear_20 : decode b_M_clear 20 = .ok (.aload_n 0, 1) := by decide +kernel
theorem d_M_clear_21 : decode b_M_clear 21 = .ok (.iconst 0, 1) := by decide +kernel
theorem d_M_clear_22 : decode b_M_clear 22 = .ok (.putfield 54, 3) := by decide +kernel
theorem d_M_clear_25 : decode b_M_clear 25 = .ok (.iconst 0, 1) := by decide +kernel
theorem d_M_clear_26 : decode b_M_clear 26 = .ok (.istore_n 2, 1) := by decide +kernel
theorem d_M_clear_27 : decode b_M_clear 27 = .ok (.iload_n 2, 1) := by decide +kernel
theorem d_M_clear_28 : decode b_M_clear 28 = .ok (.bipush 8, 2) := by decide +kernel
theorem d_M_clear_30 : decode b_M_clear 30 = .ok (.if_icmp .ge 16, 3) := by decide +kernel
theorem d_M_clear_33 : decode b_M_clear 33 = .ok (.aload_n 0, 1) := by decide +kernel
theorem d_M_clear_34 : decode b_M_clear 34 = .ok (.getfield 7, 3) := by decide +kernel
theorem d_M_clear_37 : decode b_M_clear 37 = .ok (.iload_n 2, 1) := by decide +kernel
theorem d_M_clear_38 : decode b_M_clear 38 = .ok (.iconst 0, 1) := by decide +kernel
theorem d_M_clear_39 : decode b_M_clear 39 = .ok (.iastore, 1) := by decide +kernel
theorem d_M_clear_40 : decode b_M_clear 40 = .ok (.iinc 2 1, 3) := by decide +kernel
theorem d_M_clear_43 : decode b_M_clear 43 = .ok (.goto (-16), 3) := by decide +kernel
theorem d_M_clear_46 : decode b_M_clear 46 = .ok (.iconst 0, 1) := by decide +kernel
theorem d_M_clear_47 : decode b_M_clear 47 = .ok (.istore_n 2, 1) := by decide +kernel
theorem d_M_clear_48 : decode b_M_clear 48 = .ok (.iload_n 2, 1) := by decide +kernel
theorem d_M_clear_49 : decode b_M_clear 49 = .ok (.bipush 6, 2) := by decide +kernel
theorem d_M_clear_51 : decode b_M_clear 51 = .ok (.if_icmp .ge 16, 3) := by decide +kernel
theorem d_M_clear_54 : decode b_M_clear 54 = .ok (.aload_n 0, 1) := by decide +kernel
theorem d_M_clear_55 : decode b_M_clear 55 = .ok (.getfield 32, 3) := by decide +kernel
theorem d_M_clear_58 : decode b_M_clear 58 = .ok (.iload_n 2, 1) := by decide +kernel
theorem d_M_clear_59 : decode b_M_clear 59 = .ok (.iconst 0, 1) := by decide +kernel
theorem d_M_clear_60 : decode b_M_clear 60 = .ok (.iastore, 1) := by decide +kernel
theorem d_M_clear_61 : decode b_M_clear 61 = .ok (.iinc 2 1, 3) := by decide +kernel
theorem d_M_clear_64 : decode b_M_clear 64 = .ok (.goto (-16), 3) := by decide +kernel
theorem d_M_clear_67 : decode b_M_clear 67 = .ok (.iload_n 1, 1) := by decide +kernel
theorem d_M_clear_68 : decode b_M_clear 68 = .ok (.ireturn, 1) := by decide +kernel
abbrev y_M_closes : MethodName := ⟨"HistoryJudgeModel", "closes", "(II)Z"⟩
abbrev b_M_closes : ByteArray := prog_7_method_25_code
theorem d_M_closes_0 : decode b_M_closes 0 = .ok (.iconst 0, 1) := by decide +kernel
theorem d_M_closes_1 : decode b_M_closes 1 = .ok (.istore_n 3, 1) := by decide +kernel
theorem d_M_closes_2 : decode b_M_closes 2 = .ok (.iconst 0, 1) := by decide +kernel
theorem d_M_closes_3 : decode b_M_closes 3 = .ok (.istore 4, 2) := by decide +kernel
theorem d_M_closes_5 : decode b_M_closes 5 = .ok (.iconst 0, 1) := by decide +kernel
theorem d_M_closes_6 : decode b_M_closes 6 = .ok (.istore 5, 2) := by decide +kernel
theorem d_M_closes_8 : decode b_M_closes 8 = .ok (.iload 5, 2) := by decide +kernel
theorem d_M_closes_10 : decode b_M_closes 10 = .ok (.iload_n 2, 1) := by decide +kernel
theorem d_M_closes_11 : decode b_M_closes 11 = .ok (.if_icmp .ge 83, 3) := by decide +kernel
theorem d_M_closes_14 : decode b_M_closes 14 = .ok (.aload_n 0, 1) := by decide +kernel
theorem d_M_closes_15 : decode b_M_closes 15 = .ok (.getfield 38, 3) := by decide +kernel
theorem d_M_closes_18 : decode b_M_closes 18 = .ok (.bipush 8, 2) := by decide +kernel
theorem d_M_closes_20 : decode b_M_closes 20 = .ok (.aload_n 0, 1) := by decide +kernel
theorem d_M_closes_21 : decode b_M_closes 21 = .ok (.getfield 41, 3) := by decide +kernel
theorem d_M_closes_24 : decode b_M_closes 24 = .ok (.iload 5, 2) := by decide +kernel
theorem d_M_closes_26 : decode b_M_closes 26 = .ok (.iaload, 1) := by decide +kernel
theorem d_M_closes_27 : decode b_M_closes 27 = .ok (.imul, 1) := by decide +kernel
theorem d_M_closes_28 : decode b_M_closes 28 = .ok (.aload_n 0, 1) := by decide +kernel
theorem d_M_closes_29 : decode b_M_closes 29 = .ok (.getfield 41, 3) := by decide +kernel
theorem d_M_closes_32 : decode b_M_closes 32 = .ok (.iload 5, 2) := by decide +kernel
theorem d_M_closes_34 : decode b_M_closes 34 = .ok (.iconst 1, 1) := by decide +kernel
theorem d_M_closes_35 : decode b_M_closes 35 = .ok (.iadd, 1) := by decide +kernel
theorem d_M_closes_36 : decode b_M_closes 36 = .ok (.iload_n 2, 1) := by decide +kernel
theorem d_M_closes_37 : decode b_M_closes 37 = .ok (.irem, 1) := by decide +kernel
theorem d_M_closes_38 : decode b_M_closes 38 = .ok (.iaload, 1) := by decide +kernel
theorem d_M_closes_39 : decode b_M_closes 39 = .ok (.iadd, 1) := by decide +kernel
theorem d_M_closes_40 : decode b_M_closes 40 = .ok (.iaload, 1) := by decide +kernel
theorem d_M_closes_41 : decode b_M_closes 41 = .ok (.istore 6, 2) := by decide +kernel
theorem d_M_closes_43 : decode b_M_closes 43 = .ok (.iload 6, 2) := by decide +kernel
theorem d_M_closes_45 : decode b_M_closes 45 = .ok (.iload_n 1, 1) := by decide +kernel
theorem d_M_closes_46 : decode b_M_closes 46 = .ok (.invokestatic 100, 3) := by decide +kernel
theorem d_M_closes_49 : decode b_M_closes 49 = .ok (.iand, 1) := by decide +kernel
theorem d_M_closes_50 : decode b_M_closes 50 = .ok (.ifCond .ne 5, 3) := by decide +kernel
theorem d_M_closes_53 : decode b_M_closes 53 = .ok (.iconst 0, 1) := by decide +kernel
theorem d_M_closes_54 : decode b_M_closes 54 = .ok (.ireturn, 1) := by decide +kernel
theorem d_M_closes_55 : decode b_M_closes 55 = .ok (.iload 6, 2) := by decide +kernel
theorem d_M_closes_57 : decode b_M_closes 57 = .ok (.iconst 3, 1) := by decide +kernel
theorem d_M_closes_58 : decode b_M_closes 58 = .ok (.iand, 1) := by decide +kernel
theorem d_M_closes_59 : decode b_M_closes 59 = .ok (.ifCond .ne 9, 3) := by decide +kernel
theorem d_M_closes_62 : decode b_M_closes 62 = .ok (.iload_n 3, 1) := by decide +kernel
theorem d_M_closes_63 : decode b_M_closes 63 = .ok (.iconst 1, 1) := by decide +kernel
theorem d_M_closes_64 : decode b_M_closes 64 = .ok (.iadd, 1) := by decide +kernel
theorem d_M_closes_65 : decode b_M_closes 65 = .ok (.goto 4, 3) := by decide +kernel
theorem d_M_closes_68 : decode b_M_closes 68 = .ok (.iload_n 3, 1) := by decide +kernel
theorem d_M_closes_69 : decode b_M_closes 69 = .ok (.istore_n 3, 1) := by decide +kernel
theorem d_M_closes_70 : decode b_M_closes 70 = .ok (.iload 6, 2) := by decide +kernel
theorem d_M_closes_72 : decode b_M_closes 72 = .ok (.iconst 4, 1) := by decide +kernel
theorem d_M_closes_73 : decode b_M_closes 73 = .ok (.iand, 1) := by decide +kernel
theorem d_M_closes_74 : decode b_M_closes 74 = .ok (.ifCond .eq 10, 3) := by decide +kernel
theorem d_M_closes_77 : decode b_M_closes 77 = .ok (.iload 4, 2) := by decide +kernel
theorem d_M_closes_79 : decode b_M_closes 79 = .ok (.iconst 1, 1) := by decide +kernel
theorem d_M_closes_80 : decode b_M_closes 80 = .ok (.iadd, 1) := by decide +kernel
theorem d_M_closes_81 : decode b_M_closes 81 = .ok (.goto 5, 3) := by decide +kernel
theorem d_M_closes_84 : decode b_M_closes 84 = .ok (.iload 4, 2) := by decide +kernel
theorem d_M_closes_86 : decode b_M_closes 86 = .ok (.istore 4, 2) := by decide +kernel
theorem d_M_closes_88 : decode b_M_closes 88 = .ok (.iinc 5 1, 3) := by decide +kernel
theorem d_M_closes_91 : decode b_M_closes 91 = .ok (.goto (-83), 3) := by decide +kernel
theorem d_M_closes_94 : decode b_M_closes 94 = .ok (.iload_n 1, 1) := by decide +kernel
theorem d_M_closes_95 : decode b_M_closes 95 = .ok (.iconst 2, 1) := by decide +kernel
theorem d_M_closes_96 : decode b_M_closes 96 = .ok (.if_icmp .lt 18, 3) := by decide +kernel
theorem d_M_closes_99 : decode b_M_closes 99 = .ok (.iload 4, 2) := by decide +kernel
theorem d_M_closes_101 : decode b_M_closes 101 = .ok (.ifCond .le 17, 3) := by decide +kernel
theorem d_M_closes_104 : decode b_M_closes 104 = .ok (.iload_n 1, 1) := by decide +kernel
theorem d_M_closes_105 : decode b_M_closes 105 = .ok (.iconst 3, 1) := by decide +kernel
theorem d_M_closes_106 : decode b_M_closes 106 = .ok (.if_icmp .eq 8, 3) := by decide +kernel
theorem d_M_closes_109 : decode b_M_closes 109 = .ok (.iload_n 3, 1) := by decide +kernel
theorem d_M_closes_110 : decode b_M_closes 110 = .ok (.iconst 2, 1) := by decide +kernel
theorem d_M_closes_111 : decode b_M_closes 111 = .ok (.if_icmp .ge 7, 3) := by decide +kernel
theorem d_M_closes_114 : decode b_M_closes 114 = .ok (.iconst 1, 1) := by decide +kernel
theorem d_M_closes_115 : decode b_M_closes 115 = .ok (.goto 4, 3) := by decide +kernel
theorem d_M_closes_118 : decode b_M_closes 118 = .ok (.iconst 0, 1) := by decide +kernel
theorem d_M_closes_119 : decode b_M_closes 119 = .ok (.ireturn, 1) := by decide +kernel
abbrev y_M_committed : MethodName := ⟨"HistoryJudgeModel", "committed", "()I"⟩
abbrev b_M_committed : ByteArray := prog_7_method_35_code
theorem d_M_committed_0 : decode b_M_committed 0 = .ok (.iconst 0, 1) := by decide +kernel
theorem d_M_committed_1 : decode b_M_committed 1 = .ok (.istore_n 1, 1) := by decide +kernel
theorem d_M_committed_2 : decode b_M_committed 2 = .ok (.iconst 0, 1) := by decide +kernel
theorem d_M_committed_3 : decode b_M_committed 3 = .ok (.istore_n 2, 1) := by decide +kernel
theorem d_M_committed_4 : decode b_M_committed 4 = .ok (.iload_n 2, 1) := by decide +kernel
theorem d_M_committed_5 : decode b_M_committed 5 = .ok (.bipush 8, 2) := by decide +kernel
theorem d_M_committed_7 : decode b_M_committed 7 = .ok (.if_icmp .ge 25, 3) := by decide +kernel
theorem d_M_committed_10 : decode b_M_committed 10 = .ok (.aload_n 0, 1) := by decide +kernel
theorem d_M_committed_11 : decode b_M_committed 11 = .ok (.iload_n 2, 1) := by decide +kernel
theorem d_M_committed_12 : decode b_M_committed 12 = .ok (.invokevirtual 85, 3) := by decide +kernel
theorem d_M_committed_15 : decode b_M_committed 15 = .ok (.ifCond .eq 9, 3) := by decide +kernel
theorem d_M_committed_18 : decode b_M_committed 18 = .ok (.iload_n 1, 1) := by decide +kernel
theorem d_M_committed_19 : decode b_M_committed 19 = .ok (.iconst 1, 1) := by decide +kernel
theorem d_M_committed_20 : decode b_M_committed 20 = .ok (.iadd, 1) := by decide +kernel
theorem d_M_committed_21 : decode b_M_committed 21 = .ok (.goto 4, 3) := by decide +kernel
theorem d_M_committed_24 : decode b_M_committed 24 = .ok (.iload_n 1, 1) := by decide +kernel
theorem d_M_committed_25 : decode b_M_committed 25 = .ok (.istore_n 1, 1) := by decide +kernel
theorem d_M_committed_26 : decode b_M_committed 26 = .ok (.iinc 2 1, 3) := by decide +kernel
theorem d_M_committed_29 : decode b_M_committed 29 = .ok (.goto (-25), 3) := by decide +kernel
theorem d_M_committed_32 : decode b_M_committed 32 = .ok (.iload_n 1, 1) := by decide +kernel
theorem d_M_committed_33 : decode b_M_committed 33 = .ok (.ireturn, 1) := by decide +kernel
abbrev y_M_cycle : MethodName := ⟨"HistoryJudgeModel", "cycle", "(I)I"⟩
abbrev b_M_cycle : ByteArray := prog_7_method_29_code
theorem d_M_cycle_0 : decode b_M_cycle 0 = .ok (.aload_n 0, 1) := by decide +kernel
theorem d_M_cycle_1 : decode b_M_cycle 1 = .ok (.iconst 0, 1) := by decide +kernel
theorem d_M_cycle_2 : decode b_M_cycle 2 = .ok (.putfield 50, 3) := by decide +kernel
theorem d_M_cycle_5 : decode b_M_cycle 5 = .ok (.aload_n 0, 1) := by decide +kernel
theorem d_M_cycle_6 : decode b_M_cycle 6 = .ok (.iload_n 1, 1) := by decide +kernel
theorem d_M_cycle_7 : decode b_M_cycle 7 = .ok (.invokevirtual 120, 3) := by decide +kernel
theorem d_M_cycle_10 : decode b_M_cycle 10 = .ok (.ireturn, 1) := by decide +kernel
abbrev y_M_draw : MethodName := ⟨"HistoryJudgeModel", "draw", "()V"⟩
abbrev b_M_draw : ByteArray := prog_7_method_22_code
theorem d_M_draw_0 : decode b_M_draw 0 = .ok (.iconst 0, 1) := by decide +kernel
theorem d_M_draw_1 : decode b_M_draw 1 = .ok (.istore_n 1, 1) := by decide +kernel
theorem d_M_draw_2 : decode b_M_draw 2 = .ok (.iload_n 1, 1) := by decide +kernel
theorem d_M_draw_3 : decode b_M_draw 3 = .ok (.bipush 8, 2) := by decide +kernel
theorem d_M_draw_5 : decode b_M_draw 5 = .ok (.if_icmp .ge 40, 3) := by decide +kernel
theorem d_M_draw_8 : decode b_M_draw 8 = .ok (.iconst 0, 1) := by decide +kernel
theorem d_M_draw_9 : decode b_M_draw 9 = .ok (.istore_n 2, 1) := by decide +kernel
theorem d_M_draw_10 : decode b_M_draw 10 = .ok (.iload_n 2, 1) := by decide +kernel
theorem d_M_draw_11 : decode b_M_draw 11 = .ok (.bipush 8, 2) := by decide +kernel
theorem d_M_draw_13 : decode b_M_draw 13 = .ok (.if_icmp .ge 26, 3) := by decide +kernel
theorem d_M_draw_16 : decode b_M_draw 16 = .ok (.aload_n 0, 1) := by decide +kernel
theorem d_M_draw_17 : decode b_M_draw 17 = .ok (.getfield 38, 3) := by decide +kernel
theorem d_M_draw_20 : decode b_M_draw 20 = .ok (.bipush 8, 2) := by decide +kernel
theorem d_M_draw_22 : decode b_M_draw 22 = .ok (.iload_n 1, 1) := by decide +kernel
theorem d_M_draw_23 : decode b_M_draw 23 = .ok (.imul, 1) := by decide +kernel
theorem d_M_draw_24 : decode b_M_draw 24 = .ok (.iload_n 2, 1) := by decide +kernel
theorem d_M_draw_25 : decode b_M_draw 25 = .ok (.iadd, 1) := by decide +kernel
theorem d_M_draw_26 : decode b_M_draw 26 = .ok (.aload_n 0, 1) := by decide +kernel
theorem d_M_draw_27 : decode b_M_draw 27 = .ok (.iload_n 1, 1) := by decide +kernel
theorem d_M_draw_28 : decode b_M_draw 28 = .ok (.iload_n 2, 1) := by decide +kernel
theorem d_M_draw_29 : decode b_M_draw 29 = .ok (.invokevirtual 97, 3) := by decide +kernel
theorem d_M_draw_32 : decode b_M_draw 32 = .ok (.iastore, 1) := by decide +kernel
theorem d_M_draw_33 : decode b_M_draw 33 = .ok (.iinc 2 1, 3) := by decide +kernel
theorem d_M_draw_36 : decode b_M_draw 36 = .ok (.goto (-26), 3) := by decide +kernel
theorem d_M_draw_39 : decode b_M_draw 39 = .ok (.iinc 1 1, 3) := by decide +kernel
theorem d_M_draw_42 : decode b_M_draw 42 = .ok (.goto (-40), 3) := by decide +kernel
theorem d_M_draw_45 : decode b_M_draw 45 = .ok (.return_, 1) := by decide +kernel
abbrev y_M_edge : MethodName := ⟨"HistoryJudgeModel", "edge", "(II)I"⟩
abbrev b_M_edge : ByteArray := prog_7_method_20_code
theorem d_M_edge_0 : decode b_M_edge 0 = .ok (.iload_n 1, 1) := by decide +kernel
theorem d_M_edge_1 : decode b_M_edge 1 = .ok (.iload_n 2, 1) := by decide +kernel
theorem d_M_edge_2 : decode b_M_edge 2 = .ok (.if_icmp .eq 19, 3) := by decide +kernel
theorem d_M_edge_5 : decode b_M_edge 5 = .ok (.aload_n 0, 1) := by decide +kernel
theorem d_M_edge_6 : decode b_M_edge 6 = .ok (.iload_n 1, 1) := by decide +kernel
theorem d_M_edge_7 : decode b_M_edge 7 = .ok (.invokevirtual 85, 3) := by decide +kernel
theorem d_M_edge_10 : decode b_M_edge 10 = .ok (.ifCond .eq 11, 3) := by decide +kernel
theorem d_M_edge_13 : decode b_M_edge 13 = .ok (.aload_n 0, 1) := by decide +kernel
theorem d_M_edge_14 : decode b_M_edge 14 = .ok (.iload_n 2, 1) := by decide +kernel
theorem d_M_edge_15 : decode b_M_edge 15 = .ok (.invokevirtual 85, 3) := by decide +kernel
theorem d_M_edge_18 : decode b_M_edge 18 = .ok (.ifCond .ne 5, 3) := by decide +kernel
theorem d_M_edge_21 : decode b_M_edge 21 = .ok (.iconst 0, 1) := by decide +kernel
theorem d_M_edge_22 : decode b_M_edge 22 = .ok (.ireturn, 1) := by decide +kernel
theorem d_M_edge_23 : decode b_M_edge 23 = .ok (.aload_n 0, 1) := by decide +kernel
theorem d_M_edge_24 : decode b_M_edge 24 = .ok (.iload_n 1, 1) := by decide +kernel
theorem d_M_edge_25 : decode b_M_edge 25 = .ok (.iload_n 2, 1) := by decide +kernel
theorem d_M_edge_26 : decode b_M_edge 26 = .ok (.invokevirtual 88, 3) := by decide +kernel
theorem d_M_edge_29 : decode b_M_edge 29 = .ok (.ifCond .eq 7, 3) := by decide +kernel
theorem d_M_edge_32 : decode b_M_edge 32 = .ok (.iconst 1, 1) := by decide +kernel
theorem d_M_edge_33 : decode b_M_edge 33 = .ok (.goto 4, 3) := by decide +kernel
theorem d_M_edge_36 : decode b_M_edge 36 = .ok (.iconst 0, 1) := by decide +kernel
theorem d_M_edge_37 : decode b_M_edge 37 = .ok (.aload_n 0, 1) := by decide +kernel
theorem d_M_edge_38 : decode b_M_edge 38 = .ok (.iload_n 2, 1) := by decide +kernel
theorem d_M_edge_39 : decode b_M_edge 39 = .ok (.iload_n 1, 1) := by decide +kernel
theorem d_M_edge_40 : decode b_M_edge 40 = .ok (.invokevirtual 91, 3) := by decide +kernel
theorem d_M_edge_43 : decode b_M_edge 43 = .ok (.ifCond .eq 7, 3) := by decide +kernel
theorem d_M_edge_46 : decode b_M_edge 46 = .ok (.iconst 2, 1) := by decide +kernel
theorem d_M_edge_47 : decode b_M_edge 47 = .ok (.goto 4, 3) := by decide +kernel
theorem d_M_edge_50 : decode b_M_edge 50 = .ok (.iconst 0, 1) := by decide +kernel
theorem d_M_edge_51 : decode b_M_edge 51 = .ok (.iadd, 1) := by decide +kernel
theorem d_M_edge_52 : decode b_M_edge 52 = .ok (.aload_n 0, 1) := by decide +kernel
theorem d_M_edge_53 : decode b_M_edge 53 = .ok (.iload_n 1, 1) := by decide +kernel
theorem d_M_edge_54 : decode b_M_edge 54 = .ok (.iload_n 2, 1) := by decide +kernel
theorem d_M_edge_55 : decode b_M_edge 55 = .ok (.invokevirtual 94, 3) := by decide +kernel
theorem d_M_edge_58 : decode b_M_edge 58 = .ok (.ifCond .eq 7, 3) := by decide +kernel
theorem d_M_edge_61 : decode b_M_edge 61 = .ok (.iconst 4, 1) := by decide +kernel
theorem d_M_edge_62 : decode b_M_edge 62 = .ok (.goto 4, 3) := by decide +kernel
theorem d_M_edge_65 : decode b_M_edge 65 = .ok (.iconst 0, 1) := by decide +kernel
theorem d_M_edge_66 : decode b_M_edge 66 = .ok (.iadd, 1) := by decide +kernel
theorem d_M_edge_67 : decode b_M_edge 67 = .ok (.ireturn, 1) := by decide +kernel
abbrev y_M_edges : MethodName := ⟨"HistoryJudgeModel", "edges", "(II)I"⟩
abbrev b_M_edges : ByteArray := prog_7_method_21_code
theorem d_M_edges_0 : decode b_M_edges 0 = .ok (.aload_n 0, 1) := by decide +kernel
theorem d_M_edges_1 : decode b_M_edges 1 = .ok (.iconst 0, 1) := by decide +kernel
theorem d_M_edges_2 : decode b_M_edges 2 = .ok (.putfield 50, 3) := by decide +kernel
theorem d_M_edges_5 : decode b_M_edges 5 = .ok (.iload_n 1, 1) := by decide +kernel
theorem d_M_edges_6 : decode b_M_edges 6 = .ok (.invokestatic 57, 3) := by decide +kernel
theorem d_M_edges_9 : decode b_M_edges 9 = .ok (.ifCond .eq 19, 3) := by decide +kernel
theorem d_M_edges_12 : decode b_M_edges 12 = .ok (.iload_n 2, 1) := by decide +kernel
theorem d_M_edges_13 : decode b_M_edges 13 = .ok (.invokestatic 57, 3) := by decide +kernel
theorem d_M_edges_16 : decode b_M_edges 16 = .ok (.ifCond .eq 12, 3) := by decide +kernel
theorem d_M_edges_19 : decode b_M_edges 19 = .ok (.aload_n 0, 1) := by decide +kernel
theorem d_M_edges_20 : decode b_M_edges 20 = .ok (.iload_n 1, 1) := by decide +kernel
theorem d_M_edges_21 : decode b_M_edges 21 = .ok (.iload_n 2, 1) := by decide +kernel
theorem d_M_edges_22 : decode b_M_edges 22 = .ok (.invokevirtual 97, 3) := by decide +kernel
theorem d_M_edges_25 : decode b_M_edges 25 = .ok (.goto 4, 3) := by decide +kernel
theorem d_M_edges_28 : decode b_M_edges 28 = .ok (.iconst 0, 1) := by decide +kernel
theorem d_M_edges_29 : decode b_M_edges 29 = .ok (.ireturn, 1) := by decide +kernel
abbrev y_M_end : MethodName := ⟨"HistoryJudgeModel", "end", "(IZ)V"⟩
abbrev b_M_end : ByteArray := prog_7_method_10_code
theorem d_M_end_0 : decode b_M_end 0 = .ok (.aload_n 0, 1) := by decide +kernel
theorem d_M_end_1 : decode b_M_end 1 = .ok (.iload_n 1, 1) := by decide +kernel
theorem d_M_end_2 : decode b_M_end 2 = .ok (.invokestatic 57, 3) := by decide +kernel
theorem d_M_end_5 : decode b_M_end 5 = .ok (.ifCond .ne 7, 3) := by decide +kernel
theorem d_M_end_8 : decode b_M_end 8 = .ok (.iconst 1, 1) := by decide +kernel
theorem d_M_end_9 : decode b_M_end 9 = .ok (.goto 18, 3) := by decide +kernel
theorem d_M_end_12 : decode b_M_end 12 = .ok (.aload_n 0, 1) := by decide +kernel
theorem d_M_end_13 : decode b_M_end 13 = .ok (.getfield 7, 3) := by decide +kernel
theorem d_M_end_16 : decode b_M_end 16 = .ok (.iload_n 1, 1) := by decide +kernel
theorem d_M_end_17 : decode b_M_end 17 = .ok (.iaload, 1) := by decide +kernel
theorem d_M_end_18 : decode b_M_end 18 = .ok (.iconst 1, 1) := by decide +kernel
theorem d_M_end_19 : decode b_M_end 19 = .ok (.if_icmp .eq 7, 3) := by decide +kernel
theorem d_M_end_22 : decode b_M_end 22 = .ok (.iconst 2, 1) := by decide +kernel
theorem d_M_end_23 : decode b_M_end 23 = .ok (.goto 4, 3) := by decide +kernel
theorem d_M_end_26 : decode b_M_end 26 = .ok (.iconst 0, 1) := by decide +kernel
theorem d_M_end_27 : decode b_M_end 27 = .ok (.putfield 50, 3) := by decide +kernel
theorem d_M_end_30 : decode b_M_end 30 = .ok (.aload_n 0, 1) := by decide +kernel
theorem d_M_end_31 : decode b_M_end 31 = .ok (.getfield 50, 3) := by decide +kernel
theorem d_M_end_34 : decode b_M_end 34 = .ok (.ifCond .le 4, 3) := by decide +kernel
theorem d_M_end_37 : decode b_M_end 37 = .ok (.return_, 1) := by decide +kernel
theorem d_M_end_38 : decode b_M_end 38 = .ok (.aload_n 0, 1) := by decide +kernel
theorem d_M_end_39 : decode b_M_end 39 = .ok (.getfield 7, 3) := by decide +kernel
theorem d_M_end_42 : decode b_M_end 42 = .ok (.iload_n 1, 1) := by decide +kernel
theorem d_M_end_43 : decode b_M_end 43 = .ok (.iload_n 2, 1) := by decide +kernel
theorem d_M_end_44 : decode b_M_end 44 = .ok (.ifCond .eq 7, 3) := by decide +kernel
theorem d_M_end_47 : decode b_M_end 47 = .ok (.iconst 2, 1) := by decide +kernel
theorem d_M_end_48 : decode b_M_end 48 = .ok (.goto 4, 3) := by decide +kernel
theorem d_M_end_51 : decode b_M_end 51 = .ok (.iconst 3, 1) := by decide +kernel
theorem d_M_end_52 : decode b_M_end 52 = .ok (.iastore, 1) := by decide +kernel
theorem d_M_end_53 : decode b_M_end 53 = .ok (.iconst 0, 1) := by decide +kernel
theorem d_M_end_54 : decode b_M_end 54 = .ok (.istore_n 3, 1) := by decide +kernel
theorem d_M_end_55 : decode b_M_end 55 = .ok (.iload_n 3, 1) := by decide +kernel
theorem d_M_end_56 : decode b_M_end 56 = .ok (.aload_n 0, 1) := by decide +kernel
theorem d_M_end_57 : decode b_M_end 57 = .ok (.getfield 64, 3) := by decide +kernel
theorem d_M_end_60 : decode b_M_end 60 = .ok (.if_icmp .ge 74, 3) := by decide +kernel
theorem d_M_end_63 : decode b_M_end 63 = .ok (.iload_n 2, 1) := by decide +kernel
theorem d_M_end_64 : decode b_M_end 64 = .ok (.ifCond .eq 70, 3) := by decide +kernel
theorem d_M_end_67 : decode b_M_end 67 = .ok (.aload_n 0, 1) := by decide +kernel
theorem d_M_end_68 : decode b_M_end 68 = .ok (.getfield 13, 3) := by decide +kernel
theorem d_M_end_71 : decode b_M_end 71 = .ok (.iload_n 3, 1) := by decide +kernel
theorem d_M_end_72 : decode b_M_end 72 = .ok (.iaload, 1) := by decide +kernel
theorem d_M_end_73 : decode b_M_end 73 = .ok (.iload_n 1, 1) := by decide +kernel
theorem d_M_end_74 : decode b_M_end 74 = .ok (.if_icmp .ne 54, 3) := by decide +kernel
theorem d_M_end_77 : decode b_M_end 77 = .ok (.aload_n 0, 1) := by decide +kernel
theorem d_M_end_78 : decode b_M_end 78 = .ok (.iload_n 3, 1) := by decide +kernel
theorem d_M_end_79 : decode b_M_end 79 = .ok (.invokevirtual 78, 3) := by decide +kernel
theorem d_M_end_82 : decode b_M_end 82 = .ok (.ifCond .eq 46, 3) := by decide +kernel
theorem d_M_end_85 : decode b_M_end 85 = .ok (.aload_n 0, 1) := by decide +kernel
theorem d_M_end_86 : decode b_M_end 86 = .ok (.getfield 16, 3) := by decide +kernel
theorem d_M_end_89 : decode b_M_end 89 = .ok (.iload_n 3, 1) := by decide +kernel
theorem d_M_end_90 : decode b_M_end 90 = .ok (.iaload, 1) := by decide +kernel
theorem d_M_end_91 : decode b_M_end 91 = .ok (.istore 4, 2) := by decide +kernel
theorem d_M_end_93 : decode b_M_end 93 = .ok (.aload_n 0, 1) := by decide +kernel
theorem d_M_end_94 : decode b_M_end 94 = .ok (.getfield 35, 3) := by decide +kernel
theorem d_M_end_97 : decode b_M_end 97 = .ok (.bipush 8, 2) := by decide +kernel
theorem d_M_end_99 : decode b_M_end 99 = .ok (.iload 4, 2) := by decide +kernel
theorem d_M_end_101 : decode b_M_end 101 = .ok (.imul, 1) := by decide +kernel
theorem d_M_end_102 : decode b_M_end 102 = .ok (.aload_n 0, 1) := by decide +kernel
theorem d_M_end_103 : decode b_M_end 103 = .ok (.getfield 32, 3) := by decide +kernel
theorem d_M_end_106 : decode b_M_end 106 = .ok (.iload 4, 2) := by decide +kernel
theorem d_M_end_108 : decode b_M_end 108 = .ok (.iaload, 1) := by decide +kernel
theorem d_M_end_109 : decode b_M_end 109 = .ok (.iadd, 1) := by decide +kernel
theorem d_M_end_110 : decode b_M_end 110 = .ok (.iload_n 3, 1) := by decide +kernel
theorem d_M_end_111 : decode b_M_end 111 = .ok (.iastore, 1) := by decide +kernel
theorem d_M_end_112 : decode b_M_end 112 = .ok (.aload_n 0, 1) := by decide +kernel
theorem d_M_end_113 : decode b_M_end 113 = .ok (.getfield 32, 3) := by decide +kernel
theorem d_M_end_116 : decode b_M_end 116 = .ok (.iload 4, 2) := by decide +kernel
theorem d_M_end_118 : decode b_M_end 118 = .ok (.aload_n 0, 1) := by decide +kernel
theorem d_M_end_119 : decode b_M_end 119 = .ok (.getfield 32, 3) := by decide +kernel
theorem d_M_end_122 : decode b_M_end 122 = .ok (.iload 4, 2) := by decide +kernel
theorem d_M_end_124 : decode b_M_end 124 = .ok (.iaload, 1) := by decide +kernel
theorem d_M_end_125 : decode b_M_end 125 = .ok (.iconst 1, 1) := by decide +kernel
theorem d_M_end_126 : decode b_M_end 126 = .ok (.iadd, 1) := by decide +kernel
theorem d_M_end_127 : decode b_M_end 127 = .ok (.iastore, 1) := by decide +kernel
theorem d_M_end_128 : decode b_M_end 128 = .ok (.iinc 3 1, 3) := by decide +kernel
theorem d_M_end_131 : decode b_M_end 131 = .ok (.goto (-76), 3) := by decide +kernel
theorem d_M_end_134 : decode b_M_end 134 = .ok (.return_, 1) := by decide +kernel
abbrev y_M_exchange : MethodName := ⟨"HistoryJudgeModel", "exchange", "(II)Z"⟩
abbrev b_M_exchange : ByteArray := prog_7_method_13_code
theorem d_M_exchange_0 : decode b_M_exchange 0 = .ok (.aload_n 0, 1) := by decide +kernel
theorem d_M_exchange_1 : decode b_M_exchange 1 = .ok (.iconst 0, 1) := by decide +kernel
theorem d_M_exchange_2 : decode b_M_exchange 2 = .ok (.putfield 50, 3) := by decide +kernel
theorem d_M_exchange_5 : decode b_M_exchange 5 = .ok (.iload_n 1, 1) := by decide +kernel
theorem d_M_exchange_6 : decode b_M_exchange 6 = .ok (.invokestatic 61, 3) := by decide +kernel
theorem d_M_exchange_9 : decode b_M_exchange 9 = .ok (.ifCond .eq 19, 3) := by decide +kernel
theorem d_M_exchange_12 : decode b_M_exchange 12 = .ok (.iload_n 2, 1) := by decide +kernel
theorem d_M_exchange_13 : decode b_M_exchange 13 = .ok (.ifCond .lt 15, 3) := by decide +kernel
theorem d_M_exchange_16 : decode b_M_exchange 16 = .ok (.iload_n 2, 1) := by decide +kernel
theorem d_M_exchange_17 : decode b_M_exchange 17 = .ok (.aload_n 0, 1) := by decide +kernel
theorem d_M_exchange_18 : decode b_M_exchange 18 = .ok (.getfield 32, 3) := by decide +kernel
theorem d_M_exchange_21 : decode b_M_exchange 21 = .ok (.iload_n 1, 1) := by decide +kernel
theorem d_M_exchange_22 : decode b_M_exchange 22 = .ok (.iaload, 1) := by decide +kernel
theorem d_M_exchange_23 : decode b_M_exchange 23 = .ok (.iconst 1, 1) := by decide +kernel
theorem d_M_exchange_24 : decode b_M_exchange 24 = .ok (.isub, 1) := by decide +kernel
theorem d_M_exchange_25 : decode b_M_exchange 25 = .ok (.if_icmp .lt 5, 3) := by decide +kernel
theorem d_M_exchange_28 : decode b_M_exchange 28 = .ok (.iconst 0, 1) := by decide +kernel
theorem d_M_exchange_29 : decode b_M_exchange 29 = .ok (.ireturn, 1) := by decide +kernel
theorem d_M_exchange_30 : decode b_M_exchange 30 = .ok (.aload_n 0, 1) := by decide +kernel
theorem d_M_exchange_31 : decode b_M_exchange 31 = .ok (.getfield 35, 3) := by decide +kernel
theorem d_M_exchange_34 : decode b_M_exchange 34 = .ok (.bipush 8, 2) := by decide +kernel
theorem d_M_exchange_36 : decode b_M_exchange 36 = .ok (.iload_n 1, 1) := by decide +kernel
theorem d_M_exchange_37 : decode b_M_exchange 37 = .ok (.imul, 1) := by decide +kernel
theorem d_M_exchange_38 : decode b_M_exchange 38 = .ok (.iload_n 2, 1) := by decide +kernel
theorem d_M_exchange_39 : decode b_M_exchange 39 = .ok (.iadd, 1) := by decide +kernel
theorem d_M_exchange_40 : decode b_M_exchange 40 = .ok (.iaload, 1) := by decide +kernel
theorem d_M_exchange_41 : decode b_M_exchange 41 = .ok (.istore_n 3, 1) := by decide +kernel
theorem d_M_exchange_42 : decode b_M_exchange 42 = .ok (.aload_n 0, 1) := by decide +kernel
theorem d_M_exchange_43 : decode b_M_exchange 43 = .ok (.getfield 35, 3) := by decide +kernel
theorem d_M_exchange_46 : decode b_M_exchange 46 = .ok (.bipush 8, 2) := by decide +kernel
theorem d_M_exchange_48 : decode b_M_exchange 48 = .ok (.iload_n 1, 1) := by decide +kernel
theorem d_M_exchange_49 : decode b_M_exchange 49 = .ok (.imul, 1) := by decide +kernel
theorem d_M_exchange_50 : decode b_M_exchange 50 = .ok (.iload_n 2, 1) := by decide +kernel
theorem d_M_exchange_51 : decode b_M_exchange 51 = .ok (.iadd, 1) := by decide +kernel
theorem d_M_exchange_52 : decode b_M_exchange 52 = .ok (.aload_n 0, 1) := by decide +kernel
theorem d_M_exchange_53 : decode b_M_exchange 53 = .ok (.getfield 35, 3) := by decide +kernel
theorem d_M_exchange_56 : decode b_M_exchange 56 = .ok (.bipush 8, 2) := by decide +kernel
theorem d_M_exchange_58 : decode b_M_exchange 58 = .ok (.iload_n 1, 1) := by decide +kernel
theorem d_M_exchange_59 : decode b_M_exchange 59 = .ok (.imul, 1) := by decide +kernel
theorem d_M_exchange_60 : decode b_M_exchange 60 = .ok (.iload_n 2, 1) := by decide +kernel
theorem d_M_exchange_61 : decode b_M_exchange 61 = .ok (.iadd, 1) := by decide +kernel
theorem d_M_exchange_62 : decode b_M_exchange 62 = .ok (.iconst 1, 1) := by decide +kernel
theorem d_M_exchange_63 : decode b_M_exchange 63 = .ok (.iadd, 1) := by decide +kernel
theorem d_M_exchange_64 : decode b_M_exchange 64 = .ok (.iaload, 1) := by decide +kernel
theorem d_M_exchange_65 : decode b_M_exchange 65 = .ok (.iastore, 1) := by decide +kernel
theorem d_M_exchange_66 : decode b_M_exchange 66 = .ok (.aload_n 0, 1) := by decide +kernel
theorem d_M_exchange_67 : decode b_M_exchange 67 = .ok (.getfield 35, 3) := by decide +kernel
theorem d_M_exchange_70 : decode b_M_exchange 70 = .ok (.bipush 8, 2) := by decide +kernel
theorem d_M_exchange_72 : decode b_M_exchange 72 = .ok (.iload_n 1, 1) := by decide +kernel
theorem d_M_exchange_73 : decode b_M_exchange 73 = .ok (.imul, 1) := by decide +kernel
theorem d_M_exchange_74 : decode b_M_exchange 74 = .ok (.iload_n 2, 1) := by decide +kernel
theorem d_M_exchange_75 : decode b_M_exchange 75 = .ok (.iadd, 1) := by decide +kernel
theorem d_M_exchange_76 : decode b_M_exchange 76 = .ok (.iconst 1, 1) := by decide +kernel
theorem d_M_exchange_77 : decode b_M_exchange 77 = .ok (.iadd, 1) := by decide +kernel
theorem d_M_exchange_78 : decode b_M_exchange 78 = .ok (.iload_n 3, 1) := by decide +kernel
theorem d_M_exchange_79 : decode b_M_exchange 79 = .ok (.iastore, 1) := by decide +kernel
theorem d_M_exchange_80 : decode b_M_exchange 80 = .ok (.iconst 1, 1) := by decide +kernel
theorem d_M_exchange_81 : decode b_M_exchange 81 = .ok (.ireturn, 1) := by decide +kernel
abbrev y_M_findCycle : MethodName := ⟨"HistoryJudgeModel", "findCycle", "(I)I"⟩
abbrev b_M_findCycle : ByteArray := prog_7_method_28_code
theorem d_M_findCycle_0 : decode b_M_findCycle 0 = .ok (.iload_n 1, 1) := by decide +kernel
theorem d_M_findCycle_1 : decode b_M_findCycle 1 = .ok (.ifCond .lt 8, 3) := by decide +kernel
theorem d_M_findCycle_4 : decode b_M_findCycle 4 = .ok (.iload_n 1, 1) := by decide +kernel
theorem d_M_findCycle_5 : decode b_M_findCycle 5 = .ok (.iconst 3, 1) := by decide +kernel
theorem d_M_findCycle_6 : decode b_M_findCycle 6 = .ok (.if_icmp .le 5, 3) := by decide +kernel
theorem d_M_findCycle_9 : decode b_M_findCycle 9 = .ok (.iconst 0, 1) := by decide +kernel
theorem d_M_findCycle_10 : decode b_M_findCycle 10 = .ok (.ireturn, 1) := by decide +kernel
theorem d_M_findCycle_11 : decode b_M_findCycle 11 = .ok (.aload_n 0, 1) := by decide +kernel
theorem d_M_findCycle_12 : decode b_M_findCycle 12 = .ok (.invokevirtual 114, 3) := by decide +kernel
theorem d_M_findCycle_15 : decode b_M_findCycle 15 = .ok (.iconst 2, 1) := by decide +kernel
theorem d_M_findCycle_16 : decode b_M_findCycle 16 = .ok (.istore_n 2, 1) := by decide +kernel
theorem d_M_findCycle_17 : decode b_M_findCycle 17 = .ok (.iload_n 2, 1) := by decide +kernel
theorem d_M_findCycle_18 : decode b_M_findCycle 18 = .ok (.bipush 9, 2) := by decide +kernel
theorem d_M_findCycle_20 : decode b_M_findCycle 20 = .ok (.if_icmp .ge 20, 3) := by decide +kernel
theorem d_M_findCycle_23 : decode b_M_findCycle 23 = .ok (.aload_n 0, 1) := by decide +kernel
theorem d_M_findCycle_24 : decode b_M_findCycle 24 = .ok (.iload_n 1, 1) := by decide +kernel
theorem d_M_findCycle_25 : decode b_M_findCycle 25 = .ok (.iload_n 2, 1) := by decide +kernel
theorem d_M_findCycle_26 : decode b_M_findCycle 26 = .ok (.invokevirtual 117, 3) := by decide +kernel
theorem d_M_findCycle_29 : decode b_M_findCycle 29 = .ok (.ifCond .eq 5, 3) := by decide +kernel
theorem d_M_findCycle_32 : decode b_M_findCycle 32 = .ok (.iload_n 2, 1) := by decide +kernel
theorem d_M_findCycle_33 : decode b_M_findCycle 33 = .ok (.ireturn, 1) := by decide +kernel
theorem d_M_findCycle_34 : decode b_M_findCycle 34 = .ok (.iinc 2 1, 3) := by decide +kernel
theorem d_M_findCycle_37 : decode b_M_findCycle 37 = .ok (.goto (-20), 3) := by decide +kernel
theorem d_M_findCycle_40 : decode b_M_findCycle 40 = .ok (.iconst 0, 1) := by decide +kernel
theorem d_M_findCycle_41 : decode b_M_findCycle 41 = .ok (.ireturn, 1) := by decide +kernel
abbrev y_M_fits : MethodName := ⟨"HistoryJudgeModel", "fits", "(III)Z"⟩
abbrev b_M_fits : ByteArray := prog_7_method_26_code
theorem d_M_fits_0 : decode b_M_fits 0 = .ok (.aload_n 0, 1) := by decide +kernel
theorem d_M_fits_1 : decode b_M_fits 1 = .ok (.iload_n 3, 1) := by decide +kernel
theorem d_M_fits_2 : decode b_M_fits 2 = .ok (.invokevirtual 85, 3) := by decide +kernel
theorem d_M_fits_5 : decode b_M_fits 5 = .ok (.ifCond .ne 5, 3) := by decide +kernel
theorem d_M_fits_8 : decode b_M_fits 8 = .ok (.iconst 0, 1) := by decide +kernel
theorem d_M_fits_9 : decode b_M_fits 9 = .ok (.ireturn, 1) := by decide +kernel
theorem d_M_fits_10 : decode b_M_fits 10 = .ok (.iload_n 2, 1) := by decide +kernel
theorem d_M_fits_11 : decode b_M_fits 11 = .ok (.ifCond .eq 48, 3) := by decide +kernel
theorem d_M_fits_14 : decode b_M_fits 14 = .ok (.iload_n 3, 1) := by decide +kernel
theorem d_M_fits_15 : decode b_M_fits 15 = .ok (.aload_n 0, 1) := by decide +kernel
theorem d_M_fits_16 : decode b_M_fits 16 = .ok (.getfield 41, 3) := by decide +kernel
theorem d_M_fits_19 : decode b_M_fits 19 = .ok (.iconst 0, 1) := by decide +kernel
theorem d_M_fits_20 : decode b_M_fits 20 = .ok (.iaload, 1) := by decide +kernel
theorem d_M_fits_21 : decode b_M_fits 21 = .ok (.if_icmp .le 42, 3) := by decide +kernel
theorem d_M_fits_24 : decode b_M_fits 24 = .ok (.aload_n 0, 1) := by decide +kernel
theorem d_M_fits_25 : decode b_M_fits 25 = .ok (.iload_n 3, 1) := by decide +kernel
theorem d_M_fits_26 : decode b_M_fits 26 = .ok (.iload_n 2, 1) := by decide +kernel
theorem d_M_fits_27 : decode b_M_fits 27 = .ok (.invokevirtual 104, 3) := by decide +kernel
theorem d_M_fits_30 : decode b_M_fits 30 = .ok (.ifCond .ne 33, 3) := by decide +kernel
theorem d_M_fits_33 : decode b_M_fits 33 = .ok (.aload_n 0, 1) := by decide +kernel
theorem d_M_fits_34 : decode b_M_fits 34 = .ok (.getfield 38, 3) := by decide +kernel
theorem d_M_fits_37 : decode b_M_fits 37 = .ok (.bipush 8, 2) := by decide +kernel
theorem d_M_fits_39 : decode b_M_fits 39 = .ok (.aload_n 0, 1) := by decide +kernel
theorem d_M_fits_40 : decode b_M_fits 40 = .ok (.getfield 41, 3) := by decide +kernel
theorem d_M_fits_43 : decode b_M_fits 43 = .ok (.iload_n 2, 1) := by decide +kernel
theorem d_M_fits_44 : decode b_M_fits 44 = .ok (.iconst 1, 1) := by decide +kernel
theorem d_M_fits_45 : decode b_M_fits 45 = .ok (.isub, 1) := by decide +kernel
theorem d_M_fits_46 : decode b_M_fits 46 = .ok (.iaload, 1) := by decide +kernel
theorem d_M_fits_47 : decode b_M_fits 47 = .ok (.imul, 1) := by decide +kernel
theorem d_M_fits_48 : decode b_M_fits 48 = .ok (.iload_n 3, 1) := by decide +kernel
theorem d_M_fits_49 : decode b_M_fits 49 = .ok (.iadd, 1) := by decide +kernel
theorem d_M_fits_50 : decode b_M_fits 50 = .ok (.iaload, 1) := by decide +kernel
theorem d_M_fits_51 : decode b_M_fits 51 = .ok (.iload_n 1, 1) := by decide +kernel
theorem d_M_fits_52 : decode b_M_fits 52 = .ok (.invokestatic 100, 3) := by decide +kernel
theorem d_M_fits_55 : decode b_M_fits 55 = .ok (.iand, 1) := by decide +kernel
theorem d_M_fits_56 : decode b_M_fits 56 = .ok (.ifCond .eq 7, 3) := by decide +kernel
theorem d_M_fits_59 : decode b_M_fits 59 = .ok (.iconst 1, 1) := by decide +kernel
theorem d_M_fits_60 : decode b_M_fits 60 = .ok (.goto 4, 3) := by decide +kernel
theorem d_M_fits_63 : decode b_M_fits 63 = .ok (.iconst 0, 1) := by decide +kernel
theorem d_M_fits_64 : decode b_M_fits 64 = .ok (.ireturn, 1) := by decide +kernel
abbrev y_M_flaws : MethodName := ⟨"HistoryJudgeModel", "flaws", "()I"⟩
abbrev b_M_flaws : ByteArray := prog_7_method_33_code
theorem d_M_flaws_0 : decode b_M_flaws 0 = .ok (.aload_n 0, 1) := by decide +kernel
theorem d_M_flaws_1 : decode b_M_flaws 1 = .ok (.iconst 0, 1) := by decide +kernel
theorem d_M_flaws_2 : decode b_M_flaws 2 = .ok (.putfield 50, 3) := by decide +kernel
theorem d_M_flaws_5 : decode b_M_flaws 5 = .ok (.aload_n 0, 1) := by decide +kernel
theorem d_M_flaws_6 : decode b_M_flaws 6 = .ok (.invokevirtual 127, 3) := by decide +kernel
theorem d_M_flaws_9 : decode b_M_flaws 9 = .ok (.ireturn, 1) := by decide +kernel
abbrev y_M_follows : MethodName := ⟨"HistoryJudgeModel", "follows", "(II)Z"⟩
abbrev b_M_follows : ByteArray := prog_7_method_17_code
theorem d_M_follows_0 : decode b_M_follows 0 = .ok (.iconst 0, 1) := by decide +kernel
theorem d_M_follows_1 : decode b_M_follows 1 = .ok (.istore_n 3, 1) := by decide +kernel
theorem d_M_follows_2 : decode b_M_follows 2 = .ok (.iconst 0, 1) := by decide +kernel
theorem d_M_follows_3 : decode b_M_follows 3 = .ok (.istore 4, 2) := by decide +kernel
theorem d_M_follows_5 : decode b_M_follows 5 = .ok (.iload 4, 2) := by decide +kernel
theorem d_M_follows_7 : decode b_M_follows 7 = .ok (.aload_n 0, 1) := by decide +kernel
theorem d_M_follows_8 : decode b_M_follows 8 = .ok (.getfield 64, 3) := by decide +kernel
theorem d_M_follows_11 : decode b_M_follows 11 = .ok (.if_icmp .ge 65, 3) := by decide +kernel
theorem d_M_follows_14 : decode b_M_follows 14 = .ok (.aload_n 0, 1) := by decide +kernel
theorem d_M_follows_15 : decode b_M_follows 15 = .ok (.getfield 13, 3) := by decide +kernel
theorem d_M_follows_18 : decode b_M_follows 18 = .ok (.iload 4, 2) := by decide +kernel
theorem d_M_follows_20 : decode b_M_follows 20 = .ok (.iaload, 1) := by decide +kernel
theorem d_M_follows_21 : decode b_M_follows 21 = .ok (.iload_n 1, 1) := by decide +kernel
theorem d_M_follows_22 : decode b_M_follows 22 = .ok (.if_icmp .ne 19, 3) := by decide +kernel
theorem d_M_follows_25 : decode b_M_follows 25 = .ok (.aload_n 0, 1) := by decide +kernel
theorem d_M_follows_26 : decode b_M_follows 26 = .ok (.aload_n 0, 1) := by decide +kernel
theorem d_M_follows_27 : decode b_M_follows 27 = .ok (.getfield 16, 3) := by decide +kernel
theorem d_M_follows_30 : decode b_M_follows 30 = .ok (.iload 4, 2) := by decide +kernel
theorem d_M_follows_32 : decode b_M_follows 32 = .ok (.iaload, 1) := by decide +kernel
theorem d_M_follows_33 : decode b_M_follows 33 = .ok (.iload 4, 2) := by decide +kernel
theorem d_M_follows_35 : decode b_M_follows 35 = .ok (.invokevirtual 81, 3) := by decide +kernel
theorem d_M_follows_38 : decode b_M_follows 38 = .ok (.goto 4, 3) := by decide +kernel
theorem d_M_follows_41 : decode b_M_follows 41 = .ok (.iconst (-1), 1) := by decide +kernel
theorem d_M_follows_42 : decode b_M_follows 42 = .ok (.istore 5, 2) := by decide +kernel
theorem d_M_follows_44 : decode b_M_follows 44 = .ok (.iload_n 3, 1) := by decide +kernel
theorem d_M_follows_45 : decode b_M_follows 45 = .ok (.ifCond .ne 19, 3) := by decide +kernel
theorem d_M_follows_48 : decode b_M_follows 48 = .ok (.iload 5, 2) := by decide +kernel
theorem d_M_follows_50 : decode b_M_follows 50 = .ok (.ifCond .lt 18, 3) := by decide +kernel
theorem d_M_follows_53 : decode b_M_follows 53 = .ok (.aload_n 0, 1) := by decide +kernel
theorem d_M_follows_54 : decode b_M_follows 54 = .ok (.getfield 13, 3) := by decide +kernel
theorem d_M_follows_57 : decode b_M_follows 57 = .ok (.iload 5, 2) := by decide +kernel
theorem d_M_follows_59 : decode b_M_follows 59 = .ok (.iaload, 1) := by decide +kernel
theorem d_M_follows_60 : decode b_M_follows 60 = .ok (.iload_n 2, 1) := by decide +kernel
theorem d_M_follows_61 : decode b_M_follows 61 = .ok (.if_icmp .ne 7, 3) := by decide +kernel
theorem d_M_follows_64 : decode b_M_follows 64 = .ok (.iconst 1, 1) := by decide +kernel
theorem d_M_follows_65 : decode b_M_follows 65 = .ok (.goto 4, 3) := by decide +kernel
theorem d_M_follows_68 : decode b_M_follows 68 = .ok (.iconst 0, 1) := by decide +kernel
theorem d_M_follows_69 : decode b_M_follows 69 = .ok (.istore_n 3, 1) := by decide +kernel
theorem d_M_follows_70 : decode b_M_follows 70 = .ok (.iinc 4 1, 3) := by decide +kernel
theorem d_M_follows_73 : decode b_M_follows 73 = .ok (.goto (-68), 3) := by decide +kernel
theorem d_M_follows_76 : decode b_M_follows 76 = .ok (.iload_n 3, 1) := by decide +kernel
theorem d_M_follows_77 : decode b_M_follows 77 = .ok (.ireturn, 1) := by decide +kernel
abbrev y_M_hasRead : MethodName := ⟨"HistoryJudgeModel", "hasRead", "(II)Z"⟩
abbrev b_M_hasRead : ByteArray := prog_7_method_18_code
theorem d_M_hasRead_0 : decode b_M_hasRead 0 = .ok (.iconst 0, 1) := by decide +kernel
theorem d_M_hasRead_1 : decode b_M_hasRead 1 = .ok (.istore_n 3, 1) := by decide +kernel
theorem d_M_hasRead_2 : decode b_M_hasRead 2 = .ok (.iconst 0, 1) := by decide +kernel
theorem d_M_hasRead_3 : decode b_M_hasRead 3 = .ok (.istore 4, 2) := by decide +kernel
theorem d_M_hasRead_5 : decode b_M_hasRead 5 = .ok (.iload 4, 2) := by decide +kernel
theorem d_M_hasRead_7 : decode b_M_hasRead 7 = .ok (.aload_n 0, 1) := by decide +kernel
theorem d_M_hasRead_8 : decode b_M_hasRead 8 = .ok (.getfield 54, 3) := by decide +kernel
theorem d_M_hasRead_11 : decode b_M_hasRead 11 = .ok (.if_icmp .ge 66, 3) := by decide +kernel
theorem d_M_hasRead_14 : decode b_M_hasRead 14 = .ok (.iload_n 3, 1) := by decide +kernel
theorem d_M_hasRead_15 : decode b_M_hasRead 15 = .ok (.ifCond .ne 50, 3) := by decide +kernel
theorem d_M_hasRead_18 : decode b_M_hasRead 18 = .ok (.aload_n 0, 1) := by decide +kernel
theorem d_M_hasRead_19 : decode b_M_hasRead 19 = .ok (.getfield 28, 3) := by decide +kernel
theorem d_M_hasRead_22 : decode b_M_hasRead 22 = .ok (.iload 4, 2) := by decide +kernel
theorem d_M_hasRead_24 : decode b_M_hasRead 24 = .ok (.baload, 1) := by decide +kernel
theorem d_M_hasRead_25 : decode b_M_hasRead 25 = .ok (.ifCond .ne 44, 3) := by decide +kernel
theorem d_M_hasRead_28 : decode b_M_hasRead 28 = .ok (.aload_n 0, 1) := by decide +kernel
theorem d_M_hasRead_29 : decode b_M_hasRead 29 = .ok (.getfield 19, 3) := by decide +kernel
theorem d_M_hasRead_32 : decode b_M_hasRead 32 = .ok (.iload 4, 2) := by decide +kernel
theorem d_M_hasRead_34 : decode b_M_hasRead 34 = .ok (.iaload, 1) := by decide +kernel
theorem d_M_hasRead_35 : decode b_M_hasRead 35 = .ok (.iload_n 1, 1) := by decide +kernel
theorem d_M_hasRead_36 : decode b_M_hasRead 36 = .ok (.if_icmp .ne 33, 3) := by decide +kernel
theorem d_M_hasRead_39 : decode b_M_hasRead 39 = .ok (.aload_n 0, 1) := by decide +kernel
theorem d_M_hasRead_40 : decode b_M_hasRead 40 = .ok (.getfield 25, 3) := by decide +kernel
theorem d_M_hasRead_43 : decode b_M_hasRead 43 = .ok (.iload 4, 2) := by decide +kernel
theorem d_M_hasRead_45 : decode b_M_hasRead 45 = .ok (.iaload, 1) := by decide +kernel
theorem d_M_hasRead_46 : decode b_M_hasRead 46 = .ok (.ifCond .lt 23, 3) := by decide +kernel
theorem d_M_hasRead_49 : decode b_M_hasRead 49 = .ok (.aload_n 0, 1) := by decide +kernel
theorem d_M_hasRead_50 : decode b_M_hasRead 50 = .ok (.getfield 13, 3) := by decide +kernel
theorem d_M_hasRead_53 : decode b_M_hasRead 53 = .ok (.aload_n 0, 1) := by decide +kernel
theorem d_M_hasRead_54 : decode b_M_hasRead 54 = .ok (.getfield 25, 3) := by decide +kernel
theorem d_M_hasRead_57 : decode b_M_hasRead 57 = .ok (.iload 4, 2) := by decide +kernel
theorem d_M_hasRead_59 : decode b_M_hasRead 59 = .ok (.iaload, 1) := by decide +kernel
theorem d_M_hasRead_60 : decode b_M_hasRead 60 = .ok (.iaload, 1) := by decide +kernel
theorem d_M_hasRead_61 : decode b_M_hasRead 61 = .ok (.iload_n 2, 1) := by decide +kernel
theorem d_M_hasRead_62 : decode b_M_hasRead 62 = .ok (.if_icmp .ne 7, 3) := by decide +kernel
theorem d_M_hasRead_65 : decode b_M_hasRead 65 = .ok (.iconst 1, 1) := by decide +kernel
theorem d_M_hasRead_66 : decode b_M_hasRead 66 = .ok (.goto 4, 3) := by decide +kernel
theorem d_M_hasRead_69 : decode b_M_hasRead 69 = .ok (.iconst 0, 1) := by decide +kernel
theorem d_M_hasRead_70 : decode b_M_hasRead 70 = .ok (.istore_n 3, 1) := by decide +kernel
theorem d_M_hasRead_71 : decode b_M_hasRead 71 = .ok (.iinc 4 1, 3) := by decide +kernel
theorem d_M_hasRead_74 : decode b_M_hasRead 74 = .ok (.goto (-69), 3) := by decide +kernel
theorem d_M_hasRead_77 : decode b_M_hasRead 77 = .ok (.iload_n 3, 1) := by decide +kernel
theorem d_M_hasRead_78 : decode b_M_hasRead 78 = .ok (.ireturn, 1) := by decide +kernel
abbrev y_M_inRow : MethodName := ⟨"HistoryJudgeModel", "inRow", "(II)Z"⟩
abbrev b_M_inRow : ByteArray := prog_7_method_24_code
theorem d_M_inRow_0 : decode b_M_inRow 0 = .ok (.iconst 0, 1) := by decide +kernel
theorem d_M_inRow_1 : decode b_M_inRow 1 = .ok (.istore_n 3, 1) := by decide +kernel
theorem d_M_inRow_2 : decode b_M_inRow 2 = .ok (.iconst 0, 1) := by decide +kernel
theorem d_M_inRow_3 : decode b_M_inRow 3 = .ok (.istore 4, 2) := by decide +kernel
theorem d_M_inRow_5 : decode b_M_inRow 5 = .ok (.iload 4, 2) := by decide +kernel
theorem d_M_inRow_7 : decode b_M_inRow 7 = .ok (.iload_n 2, 1) := by decide +kernel
theorem d_M_inRow_8 : decode b_M_inRow 8 = .ok (.if_icmp .ge 30, 3) := by decide +kernel
theorem d_M_inRow_11 : decode b_M_inRow 11 = .ok (.iload_n 3, 1) := by decide +kernel
theorem d_M_inRow_12 : decode b_M_inRow 12 = .ok (.ifCond .ne 14, 3) := by decide +kernel
theorem d_M_inRow_15 : decode b_M_inRow 15 = .ok (.aload_n 0, 1) := by decide +kernel
theorem d_M_inRow_16 : decode b_M_inRow 16 = .ok (.getfield 41, 3) := by decide +kernel
theorem d_M_inRow_19 : decode b_M_inRow 19 = .ok (.iload 4, 2) := by decide +kernel
theorem d_M_inRow_21 : decode b_M_inRow 21 = .ok (.iaload, 1) := by decide +kernel
theorem d_M_inRow_22 : decode b_M_inRow 22 = .ok (.iload_n 1, 1) := by decide +kernel
theorem d_M_inRow_23 : decode b_M_inRow 23 = .ok (.if_icmp .ne 7, 3) := by decide +kernel
theorem d_M_inRow_26 : decode b_M_inRow 26 = .ok (.iconst 1, 1) := by decide +kernel
theorem d_M_inRow_27 : decode b_M_inRow 27 = .ok (.goto 4, 3) := by decide +kernel
theorem d_M_inRow_30 : decode b_M_inRow 30 = .ok (.iconst 0, 1) := by decide +kernel
theorem d_M_inRow_31 : decode b_M_inRow 31 = .ok (.istore_n 3, 1) := by decide +kernel
theorem d_M_inRow_32 : decode b_M_inRow 32 = .ok (.iinc 4 1, 3) := by decide +kernel
theorem d_M_inRow_35 : decode b_M_inRow 35 = .ok (.goto (-30), 3) := by decide +kernel
theorem d_M_inRow_38 : decode b_M_inRow 38 = .ok (.iload_n 3, 1) := by decide +kernel
theorem d_M_inRow_39 : decode b_M_inRow 39 = .ok (.ireturn, 1) := by decide +kernel
abbrev y_M_init : MethodName := ⟨"HistoryJudgeModel", "<init>", "()V"⟩
abbrev b_M_init : ByteArray := prog_7_method_1_code
theorem d_M_init_0 : decode b_M_init 0 = .ok (.aload_n 0, 1) := by decide +kernel
theorem d_M_init_1 : decode b_M_init 1 = .ok (.invokespecial 1, 3) := by decide +kernel
theorem d_M_init_4 : decode b_M_init 4 = .ok (.aload_n 0, 1) := by decide +kernel
theorem d_M_init_5 : decode b_M_init 5 = .ok (.bipush 8, 2) := by decide +kernel
theorem d_M_init_7 : decode b_M_init 7 = .ok (.newarray .int, 2) := by decide +kernel
theorem d_M_init_9 : decode b_M_init 9 = .ok (.putfield 7, 3) := by decide +kernel
theorem d_M_init_12 : decode b_M_init 12 = .ok (.aload_n 0, 1) := by decide +kernel
theorem d_M_init_13 : decode b_M_init 13 = .ok (.bipush 40, 2) := by decide +kernel
theorem d_M_init_15 : decode b_M_init 15 = .ok (.newarray .int, 2) := by decide +kernel
theorem d_M_init_17 : decode b_M_init 17 = .ok (.putfield 13, 3) := by decide +kernel
theorem d_M_init_20 : decode b_M_init 20 = .ok (.aload_n 0, 1) := by decide +kernel
theorem d_M_init_21 : decode b_M_init 21 = .ok (.bipush 40, 2) := by decide +kernel
theorem d_M_init_23 : decode b_M_init 23 = .ok (.newarray .int, 2) := by decide +kernel
theorem d_M_init_25 : decode b_M_init 25 = .ok (.putfield 16, 3) := by decide +kernel
theorem d_M_init_28 : decode b_M_init 28 = .ok (.aload_n 0, 1) := by decide +kernel
theorem d_M_init_29 : decode b_M_init 29 = .ok (.bipush 100, 2) := by decide +kernel
theorem d_M_init_31 : decode b_M_init 31 = .ok (.newarray .int, 2) := by decide +kernel
theorem d_M_init_33 : decode b_M_init 33 = .ok (.putfield 19, 3) := by decide +kernel
theorem d_M_init_36 : decode b_M_init 36 = .ok (.aload_n 0, 1) := by decide +kernel
theorem d_M_init_37 : decode b_M_init 37 = .ok (.bipush 100, 2) := by decide +kernel
theorem d_M_init_39 : decode b_M_init 39 = .ok (.newarray .int, 2) := by decide +kernel
theorem d_M_init_41 : decode b_M_init 41 = .ok (.putfield 22, 3) := by decide +kernel
theorem d_M_init_44 : decode b_M_init 44 = .ok (.aload_n 0, 1) := by decide +kernel
theorem d_M_init_45 : decode b_M_init 45 = .ok (.bipush 100, 2) := by decide +kernel
theorem d_M_init_47 : decode b_M_init 47 = .ok (.newarray .int, 2) := by decide +kernel
theorem d_M_init_49 : decode b_M_init 49 = .ok (.putfield 25, 3) := by decide +kernel
theorem d_M_init_52 : decode b_M_init 52 = .ok (.aload_n 0, 1) := by decide +kernel
theorem d_M_init_53 : decode b_M_init 53 = .ok (.bipush 100, 2) := by decide +kernel
theorem d_M_init_55 : decode b_M_init 55 = .ok (.newarray .boolean, 2) := by decide +kernel
theorem d_M_init_57 : decode b_M_init 57 = .ok (.putfield 28, 3) := by decide +kernel
theorem d_M_init_60 : decode b_M_init 60 = .ok (.aload_n 0, 1) := by decide +kernel
theorem d_M_init_61 : decode b_M_init 61 = .ok (.bipush 6, 2) := by decide +kernel
theorem d_M_init_63 : decode b_M_init 63 = .ok (.newarray .int, 2) := by decide +kernel
theorem d_M_init_65 : decode b_M_init 65 = .ok (.putfield 32, 3) := by decide +kernel
theorem d_M_init_68 : decode b_M_init 68 = .ok (.aload_n 0, 1) := by decide +kernel
theorem d_M_init_69 : decode b_M_init 69 = .ok (.bipush 48, 2) := by decide +kernel
theorem d_M_init_71 : decode b_M_init 71 = .ok (.newarray .int, 2) := by decide +kernel
theorem d_M_init_73 : decode b_M_init 73 = .ok (.putfield 35, 3) := by decide +kernel
theorem d_M_init_76 : decode b_M_init 76 = .ok (.aload_n 0, 1) := by decide +kernel
theorem d_M_init_77 : decode b_M_init 77 = .ok (.bipush 64, 2) := by decide +kernel
theorem d_M_init_79 : decode b_M_init 79 = .ok (.newarray .int, 2) := by decide +kernel
theorem d_M_init_81 : decode b_M_init 81 = .ok (.putfield 38, 3) := by decide +kernel
theorem d_M_init_84 : decode b_M_init 84 = .ok (.aload_n 0, 1) := by decide +kernel
theorem d_M_init_85 : decode b_M_init 85 = .ok (.bipush 9, 2) := by decide +kernel
theorem d_M_init_87 : decode b_M_init 87 = .ok (.newarray .int, 2) := by decide +kernel
theorem d_M_init_89 : decode b_M_init 89 = .ok (.putfield 41, 3) := by decide +kernel
theorem d_M_init_92 : decode b_M_init 92 = .ok (.aload_n 0, 1) := by decide +kernel
theorem d_M_init_93 : decode b_M_init 93 = .ok (.bipush 9, 2) := by decide +kernel
theorem d_M_init_95 : decode b_M_init 95 = .ok (.newarray .int, 2) := by decide +kernel
theorem d_M_init_97 : decode b_M_init 97 = .ok (.putfield 44, 3) := by decide +kernel
theorem d_M_init_100 : decode b_M_init 100 = .ok (.aload_n 0, 1) := by decide +kernel
theorem d_M_init_101 : decode b_M_init 101 = .ok (.bipush 54, 2) := by decide +kernel
theorem d_M_init_103 : decode b_M_init 103 = .ok (.newarray .int, 2) := by decide +kernel
theorem d_M_init_105 : decode b_M_init 105 = .ok (.putfield 47, 3) := by decide +kernel
theorem d_M_init_108 : decode b_M_init 108 = .ok (.return_, 1) := by decide +kernel
abbrev y_M_isCommitted : MethodName := ⟨"HistoryJudgeModel", "isCommitted", "(I)Z"⟩
abbrev b_M_isCommitted : ByteArray := prog_7_method_15_code
theorem d_M_isCommitted_0 : decode b_M_isCommitted 0 = .ok (.aload_n 0, 1) := by decide +kernel
theorem d_M_isCommitted_1 : decode b_M_isCommitted 1 = .ok (.getfield 7, 3) := by decide +kernel
theorem d_M_isCommitted_4 : decode b_M_isCommitted 4 = .ok (.iload_n 1, 1) := by decide +kernel
theorem d_M_isCommitted_5 : decode b_M_isCommitted 5 = .ok (.iaload, 1) := by decide +kernel
theorem d_M_isCommitted_6 : decode b_M_isCommitted 6 = .ok (.iconst 2, 1) := by decide +kernel
theorem d_M_isCommitted_7 : decode b_M_isCommitted 7 = .ok (.if_icmp .ne 7, 3) := by decide +kernel
theorem d_M_isCommitted_10 : decode b_M_isCommitted 10 = .ok (.iconst 1, 1) := by decide +kernel
theorem d_M_isCommitted_11 : decode b_M_isCommitted 11 = .ok (.goto 4, 3) := by decide +kernel
theorem d_M_isCommitted_14 : decode b_M_isCommitted 14 = .ok (.iconst 0, 1) := by decide +kernel
theorem d_M_isCommitted_15 : decode b_M_isCommitted 15 = .ok (.ireturn, 1) := by decide +kernel
abbrev y_M_isFinal : MethodName := ⟨"HistoryJudgeModel", "isFinal", "(I)Z"⟩
abbrev b_M_isFinal : ByteArray := prog_7_method_9_code
theorem d_M_isFinal_0 : decode b_M_isFinal 0 = .ok (.iconst 1, 1) := by decide +kernel
theorem d_M_isFinal_1 : decode b_M_isFinal 1 = .ok (.istore_n 2, 1) := by decide +kernel
theorem d_M_isFinal_2 : decode b_M_isFinal 2 = .ok (.iload_n 1, 1) := by decide +kernel
theorem d_M_isFinal_3 : decode b_M_isFinal 3 = .ok (.iconst 1, 1) := by decide +kernel
theorem d_M_isFinal_4 : decode b_M_isFinal 4 = .ok (.iadd, 1) := by decide +kernel
theorem d_M_isFinal_5 : decode b_M_isFinal 5 = .ok (.istore_n 3, 1) := by decide +kernel
theorem d_M_isFinal_6 : decode b_M_isFinal 6 = .ok (.iload_n 3, 1) := by decide +kernel
theorem d_M_isFinal_7 : decode b_M_isFinal 7 = .ok (.aload_n 0, 1) := by decide +kernel
theorem d_M_isFinal_8 : decode b_M_isFinal 8 = .ok (.getfield 64, 3) := by decide +kernel
theorem d_M_isFinal_11 : decode b_M_isFinal 11 = .ok (.if_icmp .ge 49, 3) := by decide +kernel
theorem d_M_isFinal_14 : decode b_M_isFinal 14 = .ok (.iload_n 2, 1) := by decide +kernel
theorem d_M_isFinal_15 : decode b_M_isFinal 15 = .ok (.ifCond .eq 37, 3) := by decide +kernel
theorem d_M_isFinal_18 : decode b_M_isFinal 18 = .ok (.aload_n 0, 1) := by decide +kernel
theorem d_M_isFinal_19 : decode b_M_isFinal 19 = .ok (.getfield 13, 3) := by decide +kernel
theorem d_M_isFinal_22 : decode b_M_isFinal 22 = .ok (.iload_n 3, 1) := by decide +kernel
theorem d_M_isFinal_23 : decode b_M_isFinal 23 = .ok (.iaload, 1) := by decide +kernel
theorem d_M_isFinal_24 : decode b_M_isFinal 24 = .ok (.aload_n 0, 1) := by decide +kernel
theorem d_M_isFinal_25 : decode b_M_isFinal 25 = .ok (.getfield 13, 3) := by decide +kernel
theorem d_M_isFinal_28 : decode b_M_isFinal 28 = .ok (.iload_n 1, 1) := by decide +kernel
theorem d_M_isFinal_29 : decode b_M_isFinal 29 = .ok (.iaload, 1) := by decide +kernel
theorem d_M_isFinal_30 : decode b_M_isFinal 30 = .ok (.if_icmp .ne 18, 3) := by decide +kernel
theorem d_M_isFinal_33 : decode b_M_isFinal 33 = .ok (.aload_n 0, 1) := by decide +kernel
theorem d_M_isFinal_34 : decode b_M_isFinal 34 = .ok (.getfield 16, 3) := by decide +kernel
theorem d_M_isFinal_37 : decode b_M_isFinal 37 = .ok (.iload_n 3, 1) := by decide +kernel
theorem d_M_isFinal_38 : decode b_M_isFinal 38 = .ok (.iaload, 1) := by decide +kernel
theorem d_M_isFinal_39 : decode b_M_isFinal 39 = .ok (.aload_n 0, 1) := by decide +kernel
theorem d_M_isFinal_40 : decode b_M_isFinal 40 = .ok (.getfield 16, 3) := by decide +kernel
theorem d_M_isFinal_43 : decode b_M_isFinal 43 = .ok (.iload_n 1, 1) := by decide +kernel
theorem d_M_isFinal_44 : decode b_M_isFinal 44 = .ok (.iaload, 1) := by decide +kernel
theorem d_M_isFinal_45 : decode b_M_isFinal 45 = .ok (.if_icmp .eq 7, 3) := by decide +kernel
theorem d_M_isFinal_48 : decode b_M_isFinal 48 = .ok (.iconst 1, 1) := by decide +kernel
theorem d_M_isFinal_49 : decode b_M_isFinal 49 = .ok (.goto 4, 3) := by decide +kernel
theorem d_M_isFinal_52 : decode b_M_isFinal 52 = .ok (.iconst 0, 1) := by decide +kernel
theorem d_M_isFinal_53 : decode b_M_isFinal 53 = .ok (.istore_n 2, 1) := by decide +kernel
theorem d_M_isFinal_54 : decode b_M_isFinal 54 = .ok (.iinc 3 1, 3) := by decide +kernel
theorem d_M_isFinal_57 : decode b_M_isFinal 57 = .ok (.goto (-51), 3) := by decide +kernel
theorem d_M_isFinal_60 : decode b_M_isFinal 60 = .ok (.iload_n 2, 1) := by decide +kernel
theorem d_M_isFinal_61 : decode b_M_isFinal 61 = .ok (.ireturn, 1) := by decide +kernel
abbrev y_M_isItem : MethodName := ⟨"HistoryJudgeModel", "isItem", "(I)Z"⟩
abbrev b_M_isItem : ByteArray := prog_7_method_3_code
theorem d_M_isItem_0 : decode b_M_isItem 0 = .ok (.iload_n 0, 1) := by decide +kernel
theorem d_M_isItem_1 : decode b_M_isItem 1 = .ok (.ifCond .lt 13, 3) := by decide +kernel
theorem d_M_isItem_4 : decode b_M_isItem 4 = .ok (.iload_n 0, 1) := by decide +kernel
theorem d_M_isItem_5 : decode b_M_isItem 5 = .ok (.bipush 6, 2) := by decide +kernel
theorem d_M_isItem_7 : decode b_M_isItem 7 = .ok (.if_icmp .ge 7, 3) := by decide +kernel
theorem d_M_isItem_10 : decode b_M_isItem 10 = .ok (.iconst 1, 1) := by decide +kernel
theorem d_M_isItem_11 : decode b_M_isItem 11 = .ok (.goto 4, 3) := by decide +kernel
theorem d_M_isItem_14 : decode b_M_isItem 14 = .ok (.iconst 0, 1) := by decide +kernel
theorem d_M_isItem_15 : decode b_M_isItem 15 = .ok (.ireturn, 1) := by decide +kernel
abbrev y_M_isOne : MethodName := ⟨"HistoryJudgeModel", "isOne", "(I)Z"⟩
abbrev b_M_isOne : ByteArray := prog_7_method_4_code
theorem d_M_isOne_0 : decode b_M_isOne 0 = .ok (.iload_n 0, 1) := by decide +kernel
theorem d_M_isOne_1 : decode b_M_isOne 1 = .ok (.ifCond .lt 13, 3) := by decide +kernel
theorem d_M_isOne_4 : decode b_M_isOne 4 = .ok (.iload_n 0, 1) := by decide +kernel
theorem d_M_isOne_5 : decode b_M_isOne 5 = .ok (.bipush 8, 2) := by decide +kernel
theorem d_M_isOne_7 : decode b_M_isOne 7 = .ok (.if_icmp .ge 7, 3) := by decide +kernel
theorem d_M_isOne_10 : decode b_M_isOne 10 = .ok (.iconst 1, 1) := by decide +kernel
theorem d_M_isOne_11 : decode b_M_isOne 11 = .ok (.goto 4, 3) := by decide +kernel
theorem d_M_isOne_14 : decode b_M_isOne 14 = .ok (.iconst 0, 1) := by decide +kernel
theorem d_M_isOne_15 : decode b_M_isOne 15 = .ok (.ireturn, 1) := by decide +kernel
abbrev y_M_isVersion : MethodName := ⟨"HistoryJudgeModel", "isVersion", "(II)Z"⟩
abbrev b_M_isVersion : ByteArray := prog_7_method_7_code
theorem d_M_isVersion_0 : decode b_M_isVersion 0 = .ok (.iload_n 2, 1) := by decide +kernel
theorem d_M_isVersion_1 : decode b_M_isVersion 1 = .ok (.iconst (-1), 1) := by decide +kernel
theorem d_M_isVersion_2 : decode b_M_isVersion 2 = .ok (.if_icmp .eq 25, 3) := by decide +kernel
theorem d_M_isVersion_5 : decode b_M_isVersion 5 = .ok (.iload_n 2, 1) := by decide +kernel
theorem d_M_isVersion_6 : decode b_M_isVersion 6 = .ok (.ifCond .lt 25, 3) := by decide +kernel
theorem d_M_isVersion_9 : decode b_M_isVersion 9 = .ok (.iload_n 2, 1) := by decide +kernel
theorem d_M_isVersion_10 : decode b_M_isVersion 10 = .ok (.aload_n 0, 1) := by decide +kernel
theorem d_M_isVersion_11 : decode b_M_isVersion 11 = .ok (.getfield 64, 3) := by decide +kernel
theorem d_M_isVersion_14 : decode b_M_isVersion 14 = .ok (.if_icmp .ge 17, 3) := by decide +kernel
theorem d_M_isVersion_17 : decode b_M_isVersion 17 = .ok (.aload_n 0, 1) := by decide +kernel
theorem d_M_isVersion_18 : decode b_M_isVersion 18 = .ok (.getfield 16, 3) := by decide +kernel
theorem d_M_isVersion_21 : decode b_M_isVersion 21 = .ok (.iload_n 2, 1) := by decide +kernel
theorem d_M_isVersion_22 : decode b_M_isVersion 22 = .ok (.iaload, 1) := by decide +kernel
theorem d_M_isVersion_23 : decode b_M_isVersion 23 = .ok (.iload_n 1, 1) := by decide +kernel
theorem d_M_isVersion_24 : decode b_M_isVersion 24 = .ok (.if_icmp .ne 7, 3) := by decide +kernel
theorem d_M_isVersion_27 : decode b_M_isVersion 27 = .ok (.iconst 1, 1) := by decide +kernel
theorem d_M_isVersion_28 : decode b_M_isVersion 28 = .ok (.goto 4, 3) := by decide +kernel
theorem d_M_isVersion_31 : decode b_M_isVersion 31 = .ok (.iconst 0, 1) := by decide +kernel
theorem d_M_isVersion_32 : decode b_M_isVersion 32 = .ok (.ireturn, 1) := by decide +kernel
abbrev y_M_level : MethodName := ⟨"HistoryJudgeModel", "level", "()I"⟩
abbrev b_M_level : ByteArray := prog_7_method_34_code
theorem d_M_level_0 : decode b_M_level 0 = .ok (.aload_n 0, 1) := by decide +kernel
theorem d_M_level_1 : decode b_M_level 1 = .ok (.iconst 0, 1) := by decide +kernel
theorem d_M_level_2 : decode b_M_level 2 = .ok (.putfield 50, 3) := by decide +kernel
theorem d_M_level_5 : decode b_M_level 5 = .ok (.aload_n 0, 1) := by decide +kernel
theorem d_M_level_6 : decode b_M_level 6 = .ok (.invokevirtual 127, 3) := by decide +kernel
theorem d_M_level_9 : decode b_M_level 9 = .ok (.istore_n 1, 1) := by decide +kernel
theorem d_M_level_10 : decode b_M_level 10 = .ok (.iload_n 1, 1) := by decide +kernel
theorem d_M_level_11 : decode b_M_level 11 = .ok (.iconst 1, 1) := by decide +kernel
theorem d_M_level_12 : decode b_M_level 12 = .ok (.iand, 1) := by decide +kernel
theorem d_M_level_13 : decode b_M_level 13 = .ok (.ifCond .eq 7, 3) := by decide +kernel
theorem d_M_level_16 : decode b_M_level 16 = .ok (.iconst 0, 1) := by decide +kernel
theorem d_M_level_17 : decode b_M_level 17 = .ok (.goto 37, 3) := by decide +kernel
theorem d_M_level_20 : decode b_M_level 20 = .ok (.iload_n 1, 1) := by decide +kernel
theorem d_M_level_21 : decode b_M_level 21 = .ok (.bipush 14, 2) := by decide +kernel
theorem d_M_level_23 : decode b_M_level 23 = .ok (.iand, 1) := by decide +kernel
theorem d_M_level_24 : decode b_M_level 24 = .ok (.ifCond .eq 7, 3) := by decide +kernel
theorem d_M_level_27 : decode b_M_level 27 = .ok (.iconst 1, 1) := by decide +kernel
theorem d_M_level_28 : decode b_M_level 28 = .ok (.goto 26, 3) := by decide +kernel
theorem d_M_level_31 : decode b_M_level 31 = .ok (.iload_n 1, 1) := by decide +kernel
theorem d_M_level_32 : decode b_M_level 32 = .ok (.bipush 16, 2) := by decide +kernel
theorem d_M_level_34 : decode b_M_level 34 = .ok (.iand, 1) := by decide +kernel
theorem d_M_level_35 : decode b_M_level 35 = .ok (.ifCond .eq 7, 3) := by decide +kernel
theorem d_M_level_38 : decode b_M_level 38 = .ok (.iconst 2, 1) := by decide +kernel
theorem d_M_level_39 : decode b_M_level 39 = .ok (.goto 15, 3) := by decide +kernel
theorem d_M_level_42 : decode b_M_level 42 = .ok (.iload_n 1, 1) := by decide +kernel
theorem d_M_level_43 : decode b_M_level 43 = .ok (.bipush 32, 2) := by decide +kernel
theorem d_M_level_45 : decode b_M_level 45 = .ok (.iand, 1) := by decide +kernel
theorem d_M_level_46 : decode b_M_level 46 = .ok (.ifCond .eq 7, 3) := by decide +kernel
theorem d_M_level_49 : decode b_M_level 49 = .ok (.iconst 3, 1) := by decide +kernel
theorem d_M_level_50 : decode b_M_level 50 = .ok (.goto 4, 3) := by decide +kernel
theorem d_M_level_53 : decode b_M_level 53 = .ok (.iconst 4, 1) := by decide +kernel
theorem d_M_level_54 : decode b_M_level 54 = .ok (.ireturn, 1) := by decide +kernel
abbrev y_M_mask : MethodName := ⟨"HistoryJudgeModel", "mask", "(I)I"⟩
abbrev b_M_mask : ByteArray := prog_7_method_23_code
theorem d_M_mask_0 : decode b_M_mask 0 = .ok (.iload_n 0, 1) := by decide +kernel
theorem d_M_mask_1 : decode b_M_mask 1 = .ok (.ifCond .ne 7, 3) := by decide +kernel
theorem d_M_mask_4 : decode b_M_mask 4 = .ok (.iconst 1, 1) := by decide +kernel
theorem d_M_mask_5 : decode b_M_mask 5 = .ok (.goto 14, 3) := by decide +kernel
theorem d_M_mask_8 : decode b_M_mask 8 = .ok (.iload_n 0, 1) := by decide +kernel
theorem d_M_mask_9 : decode b_M_mask 9 = .ok (.iconst 1, 1) := by decide +kernel
theorem d_M_mask_10 : decode b_M_mask 10 = .ok (.if_icmp .ne 7, 3) := by decide +kernel
theorem d_M_mask_13 : decode b_M_mask 13 = .ok (.iconst 3, 1) := by decide +kernel
theorem d_M_mask_14 : decode b_M_mask 14 = .ok (.goto 5, 3) := by decide +kernel
theorem d_M_mask_17 : decode b_M_mask 17 = .ok (.bipush 7, 2) := by decide +kernel
theorem d_M_mask_19 : decode b_M_mask 19 = .ok (.ireturn, 1) := by decide +kernel
abbrev y_M_nextOf : MethodName := ⟨"HistoryJudgeModel", "nextOf", "(II)I"⟩
abbrev b_M_nextOf : ByteArray := prog_7_method_16_code
theorem d_M_nextOf_0 : decode b_M_nextOf 0 = .ok (.iload_n 2, 1) := by decide +kernel
theorem d_M_nextOf_1 : decode b_M_nextOf 1 = .ok (.iconst (-1), 1) := by decide +kernel
theorem d_M_nextOf_2 : decode b_M_nextOf 2 = .ok (.if_icmp .ne 24, 3) := by decide +kernel
theorem d_M_nextOf_5 : decode b_M_nextOf 5 = .ok (.aload_n 0, 1) := by decide +kernel
theorem d_M_nextOf_6 : decode b_M_nextOf 6 = .ok (.getfield 32, 3) := by decide +kernel
theorem d_M_nextOf_9 : decode b_M_nextOf 9 = .ok (.iload_n 1, 1) := by decide +kernel
theorem d_M_nextOf_10 : decode b_M_nextOf 10 = .ok (.iaload, 1) := by decide +kernel
theorem d_M_nextOf_11 : decode b_M_nextOf 11 = .ok (.ifCond .le 15, 3) := by decide +kernel
theorem d_M_nextOf_14 : decode b_M_nextOf 14 = .ok (.aload_n 0, 1) := by decide +kernel
theorem d_M_nextOf_15 : decode b_M_nextOf 15 = .ok (.getfield 35, 3) := by decide +kernel
theorem d_M_nextOf_18 : decode b_M_nextOf 18 = .ok (.bipush 8, 2) := by decide +kernel
theorem d_M_nextOf_20 : decode b_M_nextOf 20 = .ok (.iload_n 1, 1) := by decide +kernel
theorem d_M_nextOf_21 : decode b_M_nextOf 21 = .ok (.imul, 1) := by decide +kernel
theorem d_M_nextOf_22 : decode b_M_nextOf 22 = .ok (.iaload, 1) := by decide +kernel
theorem d_M_nextOf_23 : decode b_M_nextOf 23 = .ok (.goto 4, 3) := by decide +kernel
theorem d_M_nextOf_26 : decode b_M_nextOf 26 = .ok (.iconst (-1), 1) := by decide +kernel
theorem d_M_nextOf_27 : decode b_M_nextOf 27 = .ok (.istore_n 3, 1) := by decide +kernel
theorem d_M_nextOf_28 : decode b_M_nextOf 28 = .ok (.iconst 0, 1) := by decide +kernel
theorem d_M_nextOf_29 : decode b_M_nextOf 29 = .ok (.istore 4, 2) := by decide +kernel
theorem d_M_nextOf_31 : decode b_M_nextOf 31 = .ok (.iload 4, 2) := by decide +kernel
theorem d_M_nextOf_33 : decode b_M_nextOf 33 = .ok (.iconst 1, 1) := by decide +kernel
theorem d_M_nextOf_34 : decode b_M_nextOf 34 = .ok (.iadd, 1) := by decide +kernel
theorem d_M_nextOf_35 : decode b_M_nextOf 35 = .ok (.aload_n 0, 1) := by decide +kernel
theorem d_M_nextOf_36 : decode b_M_nextOf 36 = .ok (.getfield 32, 3) := by decide +kernel
theorem d_M_nextOf_39 : decode b_M_nextOf 39 = .ok (.iload_n 1, 1) := by decide +kernel
theorem d_M_nextOf_40 : decode b_M_nextOf 40 = .ok (.iaload, 1) := by decide +kernel
theorem d_M_nextOf_41 : decode b_M_nextOf 41 = .ok (.if_icmp .ge 48, 3) := by decide +kernel
theorem d_M_nextOf_44 : decode b_M_nextOf 44 = .ok (.iload_n 2, 1) := by decide +kernel
theorem d_M_nextOf_45 : decode b_M_nextOf 45 = .ok (.ifCond .lt 36, 3) := by decide +kernel
theorem d_M_nextOf_48 : decode b_M_nextOf 48 = .ok (.aload_n 0, 1) := by decide +kernel
theorem d_M_nextOf_49 : decode b_M_nextOf 49 = .ok (.getfield 35, 3) := by decide +kernel
theorem d_M_nextOf_52 : decode b_M_nextOf 52 = .ok (.bipush 8, 2) := by decide +kernel
theorem d_M_nextOf_54 : decode b_M_nextOf 54 = .ok (.iload_n 1, 1) := by decide +kernel
theorem d_M_nextOf_55 : decode b_M_nextOf 55 = .ok (.imul, 1) := by decide +kernel
theorem d_M_nextOf_56 : decode b_M_nextOf 56 = .ok (.iload 4, 2) := by decide +kernel
theorem d_M_nextOf_58 : decode b_M_nextOf 58 = .ok (.iadd, 1) := by decide +kernel
theorem d_M_nextOf_59 : decode b_M_nextOf 59 = .ok (.iaload, 1) := by decide +kernel
theorem d_M_nextOf_60 : decode b_M_nextOf 60 = .ok (.iload_n 2, 1) := by decide +kernel
theorem d_M_nextOf_61 : decode b_M_nextOf 61 = .ok (.if_icmp .ne 20, 3) := by decide +kernel
theorem d_M_nextOf_64 : decode b_M_nextOf 64 = .ok (.aload_n 0, 1) := by decide +kernel
theorem d_M_nextOf_65 : decode b_M_nextOf 65 = .ok (.getfield 35, 3) := by decide +kernel
theorem d_M_nextOf_68 : decode b_M_nextOf 68 = .ok (.bipush 8, 2) := by decide +kernel
theorem d_M_nextOf_70 : decode b_M_nextOf 70 = .ok (.iload_n 1, 1) := by decide +kernel
theorem d_M_nextOf_71 : decode b_M_nextOf 71 = .ok (.imul, 1) := by decide +kernel
theorem d_M_nextOf_72 : decode b_M_nextOf 72 = .ok (.iload 4, 2) := by decide +kernel
theorem d_M_nextOf_74 : decode b_M_nextOf 74 = .ok (.iadd, 1) := by decide +kernel
theorem d_M_nextOf_75 : decode b_M_nextOf 75 = .ok (.iconst 1, 1) := by decide +kernel
theorem d_M_nextOf_76 : decode b_M_nextOf 76 = .ok (.iadd, 1) := by decide +kernel
theorem d_M_nextOf_77 : decode b_M_nextOf 77 = .ok (.iaload, 1) := by decide +kernel
theorem d_M_nextOf_78 : decode b_M_nextOf 78 = .ok (.goto 4, 3) := by decide +kernel
theorem d_M_nextOf_81 : decode b_M_nextOf 81 = .ok (.iload_n 3, 1) := by decide +kernel
theorem d_M_nextOf_82 : decode b_M_nextOf 82 = .ok (.istore_n 3, 1) := by decide +kernel
theorem d_M_nextOf_83 : decode b_M_nextOf 83 = .ok (.iinc 4 1, 3) := by decide +kernel
theorem d_M_nextOf_86 : decode b_M_nextOf 86 = .ok (.goto (-55), 3) := by decide +kernel
theorem d_M_nextOf_89 : decode b_M_nextOf 89 = .ok (.iload_n 3, 1) := by decide +kernel
theorem d_M_nextOf_90 : decode b_M_nextOf 90 = .ok (.ireturn, 1) := by decide +kernel
abbrev y_M_note : MethodName := ⟨"HistoryJudgeModel", "note", "(IIIZ)V"⟩
abbrev b_M_note : ByteArray := prog_7_method_5_code
theorem d_M_note_0 : decode b_M_note 0 = .ok (.aload_n 0, 1) := by decide +kernel
theorem d_M_note_1 : decode b_M_note 1 = .ok (.getfield 19, 3) := by decide +kernel
theorem d_M_note_4 : decode b_M_note 4 = .ok (.aload_n 0, 1) := by decide +kernel
theorem d_M_note_5 : decode b_M_note 5 = .ok (.getfield 54, 3) := by decide +kernel
theorem d_M_note_8 : decode b_M_note 8 = .ok (.iload_n 1, 1) := by decide +kernel
theorem d_M_note_9 : decode b_M_note 9 = .ok (.iastore, 1) := by decide +kernel
theorem d_M_note_10 : decode b_M_note 10 = .ok (.aload_n 0, 1) := by decide +kernel
theorem d_M_note_11 : decode b_M_note 11 = .ok (.getfield 22, 3) := by decide +kernel
theorem d_M_note_14 : decode b_M_note 14 = .ok (.aload_n 0, 1) := by decide +kernel
theorem d_M_note_15 : decode b_M_note 15 = .ok (.getfield 54, 3) := by decide +kernel
theorem d_M_note_18 : decode b_M_note 18 = .ok (.iload_n 2, 1) := by decide +kernel
theorem d_M_note_19 : decode b_M_note 19 = .ok (.iastore, 1) := by decide +kernel
theorem d_M_note_20 : decode b_M_note 20 = .ok (.aload_n 0, 1) := by decide +kernel
theorem d_M_note_21 : decode b_M_note 21 = .ok (.getfield 25, 3) := by decide +kernel
theorem d_M_note_24 : decode b_M_note 24 = .ok (.aload_n 0, 1) := by decide +kernel
theorem d_M_note_25 : decode b_M_note 25 = .ok (.getfield 54, 3) := by decide +kernel
theorem d_M_note_28 : decode b_M_note 28 = .ok (.iload_n 3, 1) := by decide +kernel
theorem d_M_note_29 : decode b_M_note 29 = .ok (.iastore, 1) := by decide +kernel
theorem d_M_note_30 : decode b_M_note 30 = .ok (.aload_n 0, 1) := by decide +kernel
theorem d_M_note_31 : decode b_M_note 31 = .ok (.getfield 28, 3) := by decide +kernel
theorem d_M_note_34 : decode b_M_note 34 = .ok (.aload_n 0, 1) := by decide +kernel
theorem d_M_note_35 : decode b_M_note 35 = .ok (.getfield 54, 3) := by decide +kernel
theorem d_M_note_38 : decode b_M_note 38 = .ok (.iload 4, 2) := by decide +kernel
theorem d_M_note_40 : decode b_M_note 40 = .ok (.bastore, 1) := by decide +kernel
theorem d_M_note_41 : decode b_M_note 41 = .ok (.aload_n 0, 1) := by decide +kernel
theorem d_M_note_42 : decode b_M_note 42 = .ok (.aload_n 0, 1) := by decide +kernel
theorem d_M_note_43 : decode b_M_note 43 = .ok (.getfield 54, 3) := by decide +kernel
theorem d_M_note_46 : decode b_M_note 46 = .ok (.iconst 1, 1) := by decide +kernel
theorem d_M_note_47 : decode b_M_note 47 = .ok (.iadd, 1) := by decide +kernel
theorem d_M_note_48 : decode b_M_note 48 = .ok (.putfield 54, 3) := by decide +kernel
theorem d_M_note_51 : decode b_M_note 51 = .ok (.aload_n 0, 1) := by decide +kernel
theorem d_M_note_52 : decode b_M_note 52 = .ok (.getfield 7, 3) := by decide +kernel
theorem d_M_note_55 : decode b_M_note 55 = .ok (.iload_n 1, 1) := by decide +kernel
theorem d_M_note_56 : decode b_M_note 56 = .ok (.iconst 1, 1) := by decide +kernel
theorem d_M_note_57 : decode b_M_note 57 = .ok (.iastore, 1) := by decide +kernel
theorem d_M_note_58 : decode b_M_note 58 = .ok (.return_, 1) := by decide +kernel
abbrev y_M_overtaken : MethodName := ⟨"HistoryJudgeModel", "overtaken", "(II)Z"⟩
abbrev b_M_overtaken : ByteArray := prog_7_method_19_code
theorem d_M_overtaken_0 : decode b_M_overtaken 0 = .ok (.iconst 0, 1) := by decide +kernel
theorem d_M_overtaken_1 : decode b_M_overtaken 1 = .ok (.istore_n 3, 1) := by decide +kernel
theorem d_M_overtaken_2 : decode b_M_overtaken 2 = .ok (.iconst 0, 1) := by decide +kernel
theorem d_M_overtaken_3 : decode b_M_overtaken 3 = .ok (.istore 4, 2) := by decide +kernel
theorem d_M_overtaken_5 : decode b_M_overtaken 5 = .ok (.iload 4, 2) := by decide +kernel
theorem d_M_overtaken_7 : decode b_M_overtaken 7 = .ok (.aload_n 0, 1) := by decide +kernel
theorem d_M_overtaken_8 : decode b_M_overtaken 8 = .ok (.getfield 54, 3) := by decide +kernel
theorem d_M_overtaken_11 : decode b_M_overtaken 11 = .ok (.if_icmp .ge 80, 3) := by decide +kernel
theorem d_M_overtaken_14 : decode b_M_overtaken 14 = .ok (.aload_n 0, 1) := by decide +kernel
theorem d_M_overtaken_15 : decode b_M_overtaken 15 = .ok (.getfield 28, 3) := by decide +kernel
theorem d_M_overtaken_18 : decode b_M_overtaken 18 = .ok (.iload 4, 2) := by decide +kernel
theorem d_M_overtaken_20 : decode b_M_overtaken 20 = .ok (.baload, 1) := by decide +kernel
theorem d_M_overtaken_21 : decode b_M_overtaken 21 = .ok (.ifCond .ne 35, 3) := by decide +kernel
theorem d_M_overtaken_24 : decode b_M_overtaken 24 = .ok (.aload_n 0, 1) := by decide +kernel
theorem d_M_overtaken_25 : decode b_M_overtaken 25 = .ok (.getfield 19, 3) := by decide +kernel
theorem d_M_overtaken_28 : decode b_M_overtaken 28 = .ok (.iload 4, 2) := by decide +kernel
theorem d_M_overtaken_30 : decode b_M_overtaken 30 = .ok (.iaload, 1) := by decide +kernel
theorem d_M_overtaken_31 : decode b_M_overtaken 31 = .ok (.iload_n 1, 1) := by decide +kernel
theorem d_M_overtaken_32 : decode b_M_overtaken 32 = .ok (.if_icmp .ne 24, 3) := by decide +kernel
theorem d_M_overtaken_35 : decode b_M_overtaken 35 = .ok (.aload_n 0, 1) := by decide +kernel
theorem d_M_overtaken_36 : decode b_M_overtaken 36 = .ok (.aload_n 0, 1) := by decide +kernel
theorem d_M_overtaken_37 : decode b_M_overtaken 37 = .ok (.getfield 22, 3) := by decide +kernel
theorem d_M_overtaken_40 : decode b_M_overtaken 40 = .ok (.iload 4, 2) := by decide +kernel
theorem d_M_overtaken_42 : decode b_M_overtaken 42 = .ok (.iaload, 1) := by decide +kernel
theorem d_M_overtaken_43 : decode b_M_overtaken 43 = .ok (.aload_n 0, 1) := by decide +kernel
theorem d_M_overtaken_44 : decode b_M_overtaken 44 = .ok (.getfield 25, 3) := by decide +kernel
theorem d_M_overtaken_47 : decode b_M_overtaken 47 = .ok (.iload 4, 2) := by decide +kernel
theorem d_M_overtaken_49 : decode b_M_overtaken 49 = .ok (.iaload, 1) := by decide +kernel
theorem d_M_overtaken_50 : decode b_M_overtaken 50 = .ok (.invokevirtual 81, 3) := by decide +kernel
theorem d_M_overtaken_53 : decode b_M_overtaken 53 = .ok (.goto 4, 3) := by decide +kernel
theorem d_M_overtaken_56 : decode b_M_overtaken 56 = .ok (.iconst (-1), 1) := by decide +kernel
theorem d_M_overtaken_57 : decode b_M_overtaken 57 = .ok (.istore 5, 2) := by decide +kernel
theorem d_M_overtaken_59 : decode b_M_overtaken 59 = .ok (.iload_n 3, 1) := by decide +kernel
theorem d_M_overtaken_60 : decode b_M_overtaken 60 = .ok (.ifCond .ne 19, 3) := by decide +kernel
theorem d_M_overtaken_63 : decode b_M_overtaken 63 = .ok (.iload 5, 2) := by decide +kernel
theorem d_M_overtaken_65 : decode b_M_overtaken 65 = .ok (.ifCond .lt 18, 3) := by decide +kernel
theorem d_M_overtaken_68 : decode b_M_overtaken 68 = .ok (.aload_n 0, 1) := by decide +kernel
theorem d_M_overtaken_69 : decode b_M_overtaken 69 = .ok (.getfield 13, 3) := by decide +kernel
theorem d_M_overtaken_72 : decode b_M_overtaken 72 = .ok (.iload 5, 2) := by decide +kernel
theorem d_M_overtaken_74 : decode b_M_overtaken 74 = .ok (.iaload, 1) := by decide +kernel
theorem d_M_overtaken_75 : decode b_M_overtaken 75 = .ok (.iload_n 2, 1) := by decide +kernel
theorem d_M_overtaken_76 : decode b_M_overtaken 76 = .ok (.if_icmp .ne 7, 3) := by decide +kernel
theorem d_M_overtaken_79 : decode b_M_overtaken 79 = .ok (.iconst 1, 1) := by decide +kernel
theorem d_M_overtaken_80 : decode b_M_overtaken 80 = .ok (.goto 4, 3) := by decide +kernel
theorem d_M_overtaken_83 : decode b_M_overtaken 83 = .ok (.iconst 0, 1) := by decide +kernel
theorem d_M_overtaken_84 : decode b_M_overtaken 84 = .ok (.istore_n 3, 1) := by decide +kernel
theorem d_M_overtaken_85 : decode b_M_overtaken 85 = .ok (.iinc 4 1, 3) := by decide +kernel
theorem d_M_overtaken_88 : decode b_M_overtaken 88 = .ok (.goto (-83), 3) := by decide +kernel
theorem d_M_overtaken_91 : decode b_M_overtaken 91 = .ok (.iload_n 3, 1) := by decide +kernel
theorem d_M_overtaken_92 : decode b_M_overtaken 92 = .ok (.ireturn, 1) := by decide +kernel
abbrev y_M_place : MethodName := ⟨"HistoryJudgeModel", "place", "(I)I"⟩
abbrev b_M_place : ByteArray := prog_7_method_39_code
theorem d_M_place_0 : decode b_M_place 0 = .ok (.aload_n 0, 1) := by decide +kernel
theorem d_M_place_1 : decode b_M_place 1 = .ok (.iconst 0, 1) := by decide +kernel
theorem d_M_place_2 : decode b_M_place 2 = .ok (.putfield 50, 3) := by decide +kernel
theorem d_M_place_5 : decode b_M_place 5 = .ok (.aload_n 0, 1) := by decide +kernel
theorem d_M_place_6 : decode b_M_place 6 = .ok (.iconst 0, 1) := by decide +kernel
theorem d_M_place_7 : decode b_M_place 7 = .ok (.bipush 7, 2) := by decide +kernel
theorem d_M_place_9 : decode b_M_place 9 = .ok (.invokevirtual 139, 3) := by decide +kernel
theorem d_M_place_12 : decode b_M_place 12 = .ok (.istore_n 2, 1) := by decide +kernel
theorem d_M_place_13 : decode b_M_place 13 = .ok (.iload_n 2, 1) := by decide +kernel
theorem d_M_place_14 : decode b_M_place 14 = .ok (.ifCond .eq 24, 3) := by decide +kernel
theorem d_M_place_17 : decode b_M_place 17 = .ok (.iload_n 1, 1) := by decide +kernel
theorem d_M_place_18 : decode b_M_place 18 = .ok (.ifCond .lt 20, 3) := by decide +kernel
theorem d_M_place_21 : decode b_M_place 21 = .ok (.iload_n 1, 1) := by decide +kernel
theorem d_M_place_22 : decode b_M_place 22 = .ok (.aload_n 0, 1) := by decide +kernel
theorem d_M_place_23 : decode b_M_place 23 = .ok (.getfield 133, 3) := by decide +kernel
theorem d_M_place_26 : decode b_M_place 26 = .ok (.if_icmp .ge 12, 3) := by decide +kernel
theorem d_M_place_29 : decode b_M_place 29 = .ok (.aload_n 0, 1) := by decide +kernel
theorem d_M_place_30 : decode b_M_place 30 = .ok (.getfield 41, 3) := by decide +kernel
theorem d_M_place_33 : decode b_M_place 33 = .ok (.iload_n 1, 1) := by decide +kernel
theorem d_M_place_34 : decode b_M_place 34 = .ok (.iaload, 1) := by decide +kernel
theorem d_M_place_35 : decode b_M_place 35 = .ok (.goto 4, 3) := by decide +kernel
theorem d_M_place_38 : decode b_M_place 38 = .ok (.iconst (-1), 1) := by decide +kernel
theorem d_M_place_39 : decode b_M_place 39 = .ok (.ireturn, 1) := by decide +kernel
abbrev y_M_read : MethodName := ⟨"HistoryJudgeModel", "read", "(III)I"⟩
abbrev b_M_read : ByteArray := prog_7_method_8_code
theorem d_M_read_0 : decode b_M_read 0 = .ok (.aload_n 0, 1) := by decide +kernel
theorem d_M_read_1 : decode b_M_read 1 = .ok (.iload_n 1, 1) := by decide +kernel
theorem d_M_read_2 : decode b_M_read 2 = .ok (.invokestatic 57, 3) := by decide +kernel
theorem d_M_read_5 : decode b_M_read 5 = .ok (.ifCond .eq 10, 3) := by decide +kernel
theorem d_M_read_8 : decode b_M_read 8 = .ok (.iload_n 2, 1) := by decide +kernel
theorem d_M_read_9 : decode b_M_read 9 = .ok (.invokestatic 61, 3) := by decide +kernel
theorem d_M_read_12 : decode b_M_read 12 = .ok (.ifCond .ne 7, 3) := by decide +kernel
theorem d_M_read_15 : decode b_M_read 15 = .ok (.iconst 1, 1) := by decide +kernel
theorem d_M_read_16 : decode b_M_read 16 = .ok (.goto 44, 3) := by decide +kernel
theorem d_M_read_19 : decode b_M_read 19 = .ok (.aload_n 0, 1) := by decide +kernel
theorem d_M_read_20 : decode b_M_read 20 = .ok (.iload_n 2, 1) := by decide +kernel
theorem d_M_read_21 : decode b_M_read 21 = .ok (.iload_n 3, 1) := by decide +kernel
theorem d_M_read_22 : decode b_M_read 22 = .ok (.invokevirtual 71, 3) := by decide +kernel
theorem d_M_read_25 : decode b_M_read 25 = .ok (.ifCond .ne 7, 3) := by decide +kernel
theorem d_M_read_28 : decode b_M_read 28 = .ok (.iconst 2, 1) := by decide +kernel
theorem d_M_read_29 : decode b_M_read 29 = .ok (.goto 31, 3) := by decide +kernel
theorem d_M_read_32 : decode b_M_read 32 = .ok (.aload_n 0, 1) := by decide +kernel
theorem d_M_read_33 : decode b_M_read 33 = .ok (.getfield 7, 3) := by decide +kernel
theorem d_M_read_36 : decode b_M_read 36 = .ok (.iload_n 1, 1) := by decide +kernel
theorem d_M_read_37 : decode b_M_read 37 = .ok (.iaload, 1) := by decide +kernel
theorem d_M_read_38 : decode b_M_read 38 = .ok (.iconst 1, 1) := by decide +kernel
theorem d_M_read_39 : decode b_M_read 39 = .ok (.if_icmp .le 7, 3) := by decide +kernel
theorem d_M_read_42 : decode b_M_read 42 = .ok (.iconst 3, 1) := by decide +kernel
theorem d_M_read_43 : decode b_M_read 43 = .ok (.goto 17, 3) := by decide +kernel
theorem d_M_read_46 : decode b_M_read 46 = .ok (.aload_n 0, 1) := by decide +kernel
theorem d_M_read_47 : decode b_M_read 47 = .ok (.getfield 75, 3) := by decide +kernel
theorem d_M_read_50 : decode b_M_read 50 = .ok (.bipush 60, 2) := by decide +kernel
theorem d_M_read_52 : decode b_M_read 52 = .ok (.if_icmp .ne 7, 3) := by decide +kernel
theorem d_M_read_55 : decode b_M_read 55 = .ok (.iconst 4, 1) := by decide +kernel
theorem d_M_read_56 : decode b_M_read 56 = .ok (.goto 4, 3) := by decide +kernel
theorem d_M_read_59 : decode b_M_read 59 = .ok (.iconst 0, 1) := by decide +kernel
theorem d_M_read_60 : decode b_M_read 60 = .ok (.putfield 50, 3) := by decide +kernel
theorem d_M_read_63 : decode b_M_read 63 = .ok (.aload_n 0, 1) := by decide +kernel
theorem d_M_read_64 : decode b_M_read 64 = .ok (.getfield 50, 3) := by decide +kernel
theorem d_M_read_67 : decode b_M_read 67 = .ok (.ifCond .le 5, 3) := by decide +kernel
theorem d_M_read_70 : decode b_M_read 70 = .ok (.iconst 0, 1) := by decide +kernel
theorem d_M_read_71 : decode b_M_read 71 = .ok (.ireturn, 1) := by decide +kernel
theorem d_M_read_72 : decode b_M_read 72 = .ok (.aload_n 0, 1) := by decide +kernel
theorem d_M_read_73 : decode b_M_read 73 = .ok (.iload_n 1, 1) := by decide +kernel
theorem d_M_read_74 : decode b_M_read 74 = .ok (.iload_n 2, 1) := by decide +kernel
theorem d_M_read_75 : decode b_M_read 75 = .ok (.iload_n 3, 1) := by decide +kernel
theorem d_M_read_76 : decode b_M_read 76 = .ok (.iconst 0, 1) := by decide +kernel
theorem d_M_read_77 : decode b_M_read 77 = .ok (.invokevirtual 67, 3) := by decide +kernel
theorem d_M_read_80 : decode b_M_read 80 = .ok (.aload_n 0, 1) := by decide +kernel
theorem d_M_read_81 : decode b_M_read 81 = .ok (.aload_n 0, 1) := by decide +kernel
theorem d_M_read_82 : decode b_M_read 82 = .ok (.getfield 75, 3) := by decide +kernel
theorem d_M_read_85 : decode b_M_read 85 = .ok (.iconst 1, 1) := by decide +kernel
theorem d_M_read_86 : decode b_M_read 86 = .ok (.iadd, 1) := by decide +kernel
theorem d_M_read_87 : decode b_M_read 87 = .ok (.putfield 75, 3) := by decide +kernel
theorem d_M_read_90 : decode b_M_read 90 = .ok (.aload_n 0, 1) := by decide +kernel
theorem d_M_read_91 : decode b_M_read 91 = .ok (.getfield 75, 3) := by decide +kernel
theorem d_M_read_94 : decode b_M_read 94 = .ok (.ireturn, 1) := by decide +kernel
abbrev y_M_readFlaws : MethodName := ⟨"HistoryJudgeModel", "readFlaws", "()I"⟩
abbrev b_M_readFlaws : ByteArray := prog_7_method_31_code
theorem d_M_readFlaws_0 : decode b_M_readFlaws 0 = .ok (.iconst 0, 1) := by decide +kernel
theorem d_M_readFlaws_1 : decode b_M_readFlaws 1 = .ok (.istore_n 1, 1) := by decide +kernel
theorem d_M_readFlaws_2 : decode b_M_readFlaws 2 = .ok (.iconst 0, 1) := by decide +kernel
theorem d_M_readFlaws_3 : decode b_M_readFlaws 3 = .ok (.istore_n 2, 1) := by decide +kernel
theorem d_M_readFlaws_4 : decode b_M_readFlaws 4 = .ok (.iconst 0, 1) := by decide +kernel
theorem d_M_readFlaws_5 : decode b_M_readFlaws 5 = .ok (.istore_n 3, 1) := by decide +kernel
theorem d_M_readFlaws_6 : decode b_M_readFlaws 6 = .ok (.iload_n 3, 1) := by decide +kernel
theorem d_M_readFlaws_7 : decode b_M_readFlaws 7 = .ok (.aload_n 0, 1) := by decide +kernel
theorem d_M_readFlaws_8 : decode b_M_readFlaws 8 = .ok (.getfield 54, 3) := by decide +kernel
theorem d_M_readFlaws_11 : decode b_M_readFlaws 11 = .ok (.if_icmp .ge 142, 3) := by decide +kernel
theorem d_M_readFlaws_14 : decode b_M_readFlaws 14 = .ok (.aload_n 0, 1) := by decide +kernel
theorem d_M_readFlaws_15 : decode b_M_readFlaws 15 = .ok (.getfield 25, 3) := by decide +kernel
theorem d_M_readFlaws_18 : decode b_M_readFlaws 18 = .ok (.iload_n 3, 1) := by decide +kernel
theorem d_M_readFlaws_19 : decode b_M_readFlaws 19 = .ok (.iaload, 1) := by decide +kernel
theorem d_M_readFlaws_20 : decode b_M_readFlaws 20 = .ok (.istore 4, 2) := by decide +kernel
theorem d_M_readFlaws_22 : decode b_M_readFlaws 22 = .ok (.aload_n 0, 1) := by decide +kernel
theorem d_M_readFlaws_23 : decode b_M_readFlaws 23 = .ok (.getfield 28, 3) := by decide +kernel
theorem d_M_readFlaws_26 : decode b_M_readFlaws 26 = .ok (.iload_n 3, 1) := by decide +kernel
theorem d_M_readFlaws_27 : decode b_M_readFlaws 27 = .ok (.baload, 1) := by decide +kernel
theorem d_M_readFlaws_28 : decode b_M_readFlaws 28 = .ok (.ifCond .ne 25, 3) := by decide +kernel
theorem d_M_readFlaws_31 : decode b_M_readFlaws 31 = .ok (.aload_n 0, 1) := by decide +kernel
theorem d_M_readFlaws_32 : decode b_M_readFlaws 32 = .ok (.aload_n 0, 1) := by decide +kernel
theorem d_M_readFlaws_33 : decode b_M_readFlaws 33 = .ok (.getfield 19, 3) := by decide +kernel
theorem d_M_readFlaws_36 : decode b_M_readFlaws 36 = .ok (.iload_n 3, 1) := by decide +kernel
theorem d_M_readFlaws_37 : decode b_M_readFlaws 37 = .ok (.iaload, 1) := by decide +kernel
theorem d_M_readFlaws_38 : decode b_M_readFlaws 38 = .ok (.invokevirtual 85, 3) := by decide +kernel
theorem d_M_readFlaws_41 : decode b_M_readFlaws 41 = .ok (.ifCond .eq 12, 3) := by decide +kernel
theorem d_M_readFlaws_44 : decode b_M_readFlaws 44 = .ok (.iload 4, 2) := by decide +kernel
theorem d_M_readFlaws_46 : decode b_M_readFlaws 46 = .ok (.ifCond .lt 7, 3) := by decide +kernel
theorem d_M_readFlaws_49 : decode b_M_readFlaws 49 = .ok (.iconst 1, 1) := by decide +kernel
theorem d_M_readFlaws_50 : decode b_M_readFlaws 50 = .ok (.goto 4, 3) := by decide +kernel
theorem d_M_readFlaws_53 : decode b_M_readFlaws 53 = .ok (.iconst 0, 1) := by decide +kernel
theorem d_M_readFlaws_54 : decode b_M_readFlaws 54 = .ok (.istore 5, 2) := by decide +kernel
theorem d_M_readFlaws_56 : decode b_M_readFlaws 56 = .ok (.iload 5, 2) := by decide +kernel
theorem d_M_readFlaws_58 : decode b_M_readFlaws 58 = .ok (.ifCond .eq 13, 3) := by decide +kernel
theorem d_M_readFlaws_61 : decode b_M_readFlaws 61 = .ok (.aload_n 0, 1) := by decide +kernel
theorem d_M_readFlaws_62 : decode b_M_readFlaws 62 = .ok (.getfield 13, 3) := by decide +kernel
theorem d_M_readFlaws_65 : decode b_M_readFlaws 65 = .ok (.iload 4, 2) := by decide +kernel
theorem d_M_readFlaws_67 : decode b_M_readFlaws 67 = .ok (.iaload, 1) := by decide +kernel
theorem d_M_readFlaws_68 : decode b_M_readFlaws 68 = .ok (.goto 9, 3) := by decide +kernel
theorem d_M_readFlaws_71 : decode b_M_readFlaws 71 = .ok (.aload_n 0, 1) := by decide +kernel
theorem d_M_readFlaws_72 : decode b_M_readFlaws 72 = .ok (.getfield 19, 3) := by decide +kernel
theorem d_M_readFlaws_75 : decode b_M_readFlaws 75 = .ok (.iload_n 3, 1) := by decide +kernel
theorem d_M_readFlaws_76 : decode b_M_readFlaws 76 = .ok (.iaload, 1) := by decide +kernel
theorem d_M_readFlaws_77 : decode b_M_readFlaws 77 = .ok (.istore 6, 2) := by decide +kernel
theorem d_M_readFlaws_79 : decode b_M_readFlaws 79 = .ok (.iload_n 1, 1) := by decide +kernel
theorem d_M_readFlaws_80 : decode b_M_readFlaws 80 = .ok (.ifCond .ne 17, 3) := by decide +kernel
theorem d_M_readFlaws_83 : decode b_M_readFlaws 83 = .ok (.iload 5, 2) := by decide +kernel
theorem d_M_readFlaws_85 : decode b_M_readFlaws 85 = .ok (.ifCond .eq 16, 3) := by decide +kernel
theorem d_M_readFlaws_88 : decode b_M_readFlaws 88 = .ok (.aload_n 0, 1) := by decide +kernel
theorem d_M_readFlaws_89 : decode b_M_readFlaws 89 = .ok (.iload 6, 2) := by decide +kernel
theorem d_M_readFlaws_91 : decode b_M_readFlaws 91 = .ok (.invokevirtual 85, 3) := by decide +kernel
theorem d_M_readFlaws_94 : decode b_M_readFlaws 94 = .ok (.ifCond .ne 7, 3) := by decide +kernel
theorem d_M_readFlaws_97 : decode b_M_readFlaws 97 = .ok (.iconst 1, 1) := by decide +kernel
theorem d_M_readFlaws_98 : decode b_M_readFlaws 98 = .ok (.goto 4, 3) := by decide +kernel
theorem d_M_readFlaws_101 : decode b_M_readFlaws 101 = .ok (.iconst 0, 1) := by decide +kernel
theorem d_M_readFlaws_102 : decode b_M_readFlaws 102 = .ok (.istore_n 1, 1) := by decide +kernel
theorem d_M_readFlaws_103 : decode b_M_readFlaws 103 = .ok (.iload_n 2, 1) := by decide +kernel
theorem d_M_readFlaws_104 : decode b_M_readFlaws 104 = .ok (.ifCond .ne 37, 3) := by decide +kernel
theorem d_M_readFlaws_107 : decode b_M_readFlaws 107 = .ok (.iload 5, 2) := by decide +kernel
theorem d_M_readFlaws_109 : decode b_M_readFlaws 109 = .ok (.ifCond .eq 36, 3) := by decide +kernel
theorem d_M_readFlaws_112 : decode b_M_readFlaws 112 = .ok (.iload 6, 2) := by decide +kernel
theorem d_M_readFlaws_114 : decode b_M_readFlaws 114 = .ok (.aload_n 0, 1) := by decide +kernel
theorem d_M_readFlaws_115 : decode b_M_readFlaws 115 = .ok (.getfield 19, 3) := by decide +kernel
theorem d_M_readFlaws_118 : decode b_M_readFlaws 118 = .ok (.iload_n 3, 1) := by decide +kernel
theorem d_M_readFlaws_119 : decode b_M_readFlaws 119 = .ok (.iaload, 1) := by decide +kernel
theorem d_M_readFlaws_120 : decode b_M_readFlaws 120 = .ok (.if_icmp .eq 25, 3) := by decide +kernel
theorem d_M_readFlaws_123 : decode b_M_readFlaws 123 = .ok (.aload_n 0, 1) := by decide +kernel
theorem d_M_readFlaws_124 : decode b_M_readFlaws 124 = .ok (.iload 6, 2) := by decide +kernel
theorem d_M_readFlaws_126 : decode b_M_readFlaws 126 = .ok (.invokevirtual 85, 3) := by decide +kernel
theorem d_M_readFlaws_129 : decode b_M_readFlaws 129 = .ok (.ifCond .eq 16, 3) := by decide +kernel
theorem d_M_readFlaws_132 : decode b_M_readFlaws 132 = .ok (.aload_n 0, 1) := by decide +kernel
theorem d_M_readFlaws_133 : decode b_M_readFlaws 133 = .ok (.iload 4, 2) := by decide +kernel
theorem d_M_readFlaws_135 : decode b_M_readFlaws 135 = .ok (.invokevirtual 78, 3) := by decide +kernel
theorem d_M_readFlaws_138 : decode b_M_readFlaws 138 = .ok (.ifCond .ne 7, 3) := by decide +kernel
theorem d_M_readFlaws_141 : decode b_M_readFlaws 141 = .ok (.iconst 1, 1) := by decide +kernel
theorem d_M_readFlaws_142 : decode b_M_readFlaws 142 = .ok (.goto 4, 3) := by decide +kernel
theorem d_M_readFlaws_145 : decode b_M_readFlaws 145 = .ok (.iconst 0, 1) := by decide +kernel
theorem d_M_readFlaws_146 : decode b_M_readFlaws 146 = .ok (.istore_n 2, 1) := by decide +kernel
theorem d_M_readFlaws_147 : decode b_M_readFlaws 147 = .ok (.iinc 3 1, 3) := by decide +kernel
theorem d_M_readFlaws_150 : decode b_M_readFlaws 150 = .ok (.goto (-144), 3) := by decide +kernel
theorem d_M_readFlaws_153 : decode b_M_readFlaws 153 = .ok (.iload_n 1, 1) := by decide +kernel
theorem d_M_readFlaws_154 : decode b_M_readFlaws 154 = .ok (.ifCond .eq 7, 3) := by decide +kernel
theorem d_M_readFlaws_157 : decode b_M_readFlaws 157 = .ok (.iconst 2, 1) := by decide +kernel
theorem d_M_readFlaws_158 : decode b_M_readFlaws 158 = .ok (.goto 4, 3) := by decide +kernel
theorem d_M_readFlaws_161 : decode b_M_readFlaws 161 = .ok (.iconst 0, 1) := by decide +kernel
theorem d_M_readFlaws_162 : decode b_M_readFlaws 162 = .ok (.iload_n 2, 1) := by decide +kernel
theorem d_M_readFlaws_163 : decode b_M_readFlaws 163 = .ok (.ifCond .eq 7, 3) := by decide +kernel
theorem d_M_readFlaws_166 : decode b_M_readFlaws 166 = .ok (.iconst 4, 1) := by decide +kernel
theorem d_M_readFlaws_167 : decode b_M_readFlaws 167 = .ok (.goto 4, 3) := by decide +kernel
theorem d_M_readFlaws_170 : decode b_M_readFlaws 170 = .ok (.iconst 0, 1) := by decide +kernel
theorem d_M_readFlaws_171 : decode b_M_readFlaws 171 = .ok (.iadd, 1) := by decide +kernel
theorem d_M_readFlaws_172 : decode b_M_readFlaws 172 = .ok (.ireturn, 1) := by decide +kernel
abbrev y_M_runs : MethodName := ⟨"HistoryJudgeModel", "runs", "(II)Z"⟩
abbrev b_M_runs : ByteArray := prog_7_method_36_code
theorem d_M_runs_0 : decode b_M_runs 0 = .ok (.iconst 0, 1) := by decide +kernel
theorem d_M_runs_1 : decode b_M_runs 1 = .ok (.istore_n 3, 1) := by decide +kernel
theorem d_M_runs_2 : decode b_M_runs 2 = .ok (.iload_n 3, 1) := by decide +kernel
theorem d_M_runs_3 : decode b_M_runs 3 = .ok (.bipush 6, 2) := by decide +kernel
theorem d_M_runs_5 : decode b_M_runs 5 = .ok (.if_icmp .ge 34, 3) := by decide +kernel
theorem d_M_runs_8 : decode b_M_runs 8 = .ok (.aload_n 0, 1) := by decide +kernel
theorem d_M_runs_9 : decode b_M_runs 9 = .ok (.getfield 47, 3) := by decide +kernel
theorem d_M_runs_12 : decode b_M_runs 12 = .ok (.bipush 6, 2) := by decide +kernel
theorem d_M_runs_14 : decode b_M_runs 14 = .ok (.iload_n 1, 1) := by decide +kernel
theorem d_M_runs_15 : decode b_M_runs 15 = .ok (.imul, 1) := by decide +kernel
theorem d_M_runs_16 : decode b_M_runs 16 = .ok (.bipush 6, 2) := by decide +kernel
theorem d_M_runs_18 : decode b_M_runs 18 = .ok (.iadd, 1) := by decide +kernel
theorem d_M_runs_19 : decode b_M_runs 19 = .ok (.iload_n 3, 1) := by decide +kernel
theorem d_M_runs_20 : decode b_M_runs 20 = .ok (.iadd, 1) := by decide +kernel
theorem d_M_runs_21 : decode b_M_runs 21 = .ok (.aload_n 0, 1) := by decide +kernel
theorem d_M_runs_22 : decode b_M_runs 22 = .ok (.getfield 47, 3) := by decide +kernel
theorem d_M_runs_25 : decode b_M_runs 25 = .ok (.bipush 6, 2) := by decide +kernel
theorem d_M_runs_27 : decode b_M_runs 27 = .ok (.iload_n 1, 1) := by decide +kernel
theorem d_M_runs_28 : decode b_M_runs 28 = .ok (.imul, 1) := by decide +kernel
theorem d_M_runs_29 : decode b_M_runs 29 = .ok (.iload_n 3, 1) := by decide +kernel
theorem d_M_runs_30 : decode b_M_runs 30 = .ok (.iadd, 1) := by decide +kernel
theorem d_M_runs_31 : decode b_M_runs 31 = .ok (.iaload, 1) := by decide +kernel
theorem d_M_runs_32 : decode b_M_runs 32 = .ok (.iastore, 1) := by decide +kernel
theorem d_M_runs_33 : decode b_M_runs 33 = .ok (.iinc 3 1, 3) := by decide +kernel
theorem d_M_runs_36 : decode b_M_runs 36 = .ok (.goto (-34), 3) := by decide +kernel
theorem d_M_runs_39 : decode b_M_runs 39 = .ok (.iconst 0, 1) := by decide +kernel
theorem d_M_runs_40 : decode b_M_runs 40 = .ok (.istore_n 3, 1) := by decide +kernel
theorem d_M_runs_41 : decode b_M_runs 41 = .ok (.iload_n 3, 1) := by decide +kernel
theorem d_M_runs_42 : decode b_M_runs 42 = .ok (.aload_n 0, 1) := by decide +kernel
theorem d_M_runs_43 : decode b_M_runs 43 = .ok (.getfield 54, 3) := by decide +kernel
theorem d_M_runs_46 : decode b_M_runs 46 = .ok (.if_icmp .ge 88, 3) := by decide +kernel
theorem d_M_runs_49 : decode b_M_runs 49 = .ok (.bipush 6, 2) := by decide +kernel
theorem d_M_runs_51 : decode b_M_runs 51 = .ok (.iload_n 1, 1) := by decide +kernel
theorem d_M_runs_52 : decode b_M_runs 52 = .ok (.imul, 1) := by decide +kernel
theorem d_M_runs_53 : decode b_M_runs 53 = .ok (.bipush 6, 2) := by decide +kernel
theorem d_M_runs_55 : decode b_M_runs 55 = .ok (.iadd, 1) := by decide +kernel
theorem d_M_runs_56 : decode b_M_runs 56 = .ok (.aload_n 0, 1) := by decide +kernel
theorem d_M_runs_57 : decode b_M_runs 57 = .ok (.getfield 22, 3) := by decide +kernel
theorem d_M_runs_60 : decode b_M_runs 60 = .ok (.iload_n 3, 1) := by decide +kernel
theorem d_M_runs_61 : decode b_M_runs 61 = .ok (.iaload, 1) := by decide +kernel
theorem d_M_runs_62 : decode b_M_runs 62 = .ok (.iadd, 1) := by decide +kernel
theorem d_M_runs_63 : decode b_M_runs 63 = .ok (.istore 4, 2) := by decide +kernel
theorem d_M_runs_65 : decode b_M_runs 65 = .ok (.aload_n 0, 1) := by decide +kernel
theorem d_M_runs_66 : decode b_M_runs 66 = .ok (.getfield 19, 3) := by decide +kernel
theorem d_M_runs_69 : decode b_M_runs 69 = .ok (.iload_n 3, 1) := by decide +kernel
theorem d_M_runs_70 : decode b_M_runs 70 = .ok (.iaload, 1) := by decide +kernel
theorem d_M_runs_71 : decode b_M_runs 71 = .ok (.iload_n 2, 1) := by decide +kernel
theorem d_M_runs_72 : decode b_M_runs 72 = .ok (.if_icmp .ne 28, 3) := by decide +kernel
theorem d_M_runs_75 : decode b_M_runs 75 = .ok (.aload_n 0, 1) := by decide +kernel
theorem d_M_runs_76 : decode b_M_runs 76 = .ok (.getfield 28, 3) := by decide +kernel
theorem d_M_runs_79 : decode b_M_runs 79 = .ok (.iload_n 3, 1) := by decide +kernel
theorem d_M_runs_80 : decode b_M_runs 80 = .ok (.baload, 1) := by decide +kernel
theorem d_M_runs_81 : decode b_M_runs 81 = .ok (.ifCond .eq 19, 3) := by decide +kernel
theorem d_M_runs_84 : decode b_M_runs 84 = .ok (.aload_n 0, 1) := by decide +kernel
theorem d_M_runs_85 : decode b_M_runs 85 = .ok (.getfield 47, 3) := by decide +kernel
theorem d_M_runs_88 : decode b_M_runs 88 = .ok (.iload 4, 2) := by decide +kernel
theorem d_M_runs_90 : decode b_M_runs 90 = .ok (.aload_n 0, 1) := by decide +kernel
theorem d_M_runs_91 : decode b_M_runs 91 = .ok (.getfield 25, 3) := by decide +kernel
theorem d_M_runs_94 : decode b_M_runs 94 = .ok (.iload_n 3, 1) := by decide +kernel
theorem d_M_runs_95 : decode b_M_runs 95 = .ok (.iaload, 1) := by decide +kernel
theorem d_M_runs_96 : decode b_M_runs 96 = .ok (.iastore, 1) := by decide +kernel
theorem d_M_runs_97 : decode b_M_runs 97 = .ok (.goto 31, 3) := by decide +kernel
theorem d_M_runs_100 : decode b_M_runs 100 = .ok (.aload_n 0, 1) := by decide +kernel
theorem d_M_runs_101 : decode b_M_runs 101 = .ok (.getfield 19, 3) := by decide +kernel
theorem d_M_runs_104 : decode b_M_runs 104 = .ok (.iload_n 3, 1) := by decide +kernel
theorem d_M_runs_105 : decode b_M_runs 105 = .ok (.iaload, 1) := by decide +kernel
theorem d_M_runs_106 : decode b_M_runs 106 = .ok (.iload_n 2, 1) := by decide +kernel
theorem d_M_runs_107 : decode b_M_runs 107 = .ok (.if_icmp .ne 21, 3) := by decide +kernel
theorem d_M_runs_110 : decode b_M_runs 110 = .ok (.aload_n 0, 1) := by decide +kernel
theorem d_M_runs_111 : decode b_M_runs 111 = .ok (.getfield 47, 3) := by decide +kernel
theorem d_M_runs_114 : decode b_M_runs 114 = .ok (.iload 4, 2) := by decide +kernel
theorem d_M_runs_116 : decode b_M_runs 116 = .ok (.iaload, 1) := by decide +kernel
theorem d_M_runs_117 : decode b_M_runs 117 = .ok (.aload_n 0, 1) := by decide +kernel
theorem d_M_runs_118 : decode b_M_runs 118 = .ok (.getfield 25, 3) := by decide +kernel
theorem d_M_runs_121 : decode b_M_runs 121 = .ok (.iload_n 3, 1) := by decide +kernel
theorem d_M_runs_122 : decode b_M_runs 122 = .ok (.iaload, 1) := by decide +kernel
theorem d_M_runs_123 : decode b_M_runs 123 = .ok (.if_icmp .eq 5, 3) := by decide +kernel
theorem d_M_runs_126 : decode b_M_runs 126 = .ok (.iconst 0, 1) := by decide +kernel
theorem d_M_runs_127 : decode b_M_runs 127 = .ok (.ireturn, 1) := by decide +kernel
theorem d_M_runs_128 : decode b_M_runs 128 = .ok (.iinc 3 1, 3) := by decide +kernel
theorem d_M_runs_131 : decode b_M_runs 131 = .ok (.goto (-90), 3) := by decide +kernel
theorem d_M_runs_134 : decode b_M_runs 134 = .ok (.iconst 1, 1) := by decide +kernel
theorem d_M_runs_135 : decode b_M_runs 135 = .ok (.ireturn, 1) := by decide +kernel
abbrev y_M_serial : MethodName := ⟨"HistoryJudgeModel", "serial", "()Z"⟩
abbrev b_M_serial : ByteArray := prog_7_method_38_code
theorem d_M_serial_0 : decode b_M_serial 0 = .ok (.aload_n 0, 1) := by decide +kernel
theorem d_M_serial_1 : decode b_M_serial 1 = .ok (.iconst 0, 1) := by decide +kernel
theorem d_M_serial_2 : decode b_M_serial 2 = .ok (.putfield 50, 3) := by decide +kernel
theorem d_M_serial_5 : decode b_M_serial 5 = .ok (.aload_n 0, 1) := by decide +kernel
theorem d_M_serial_6 : decode b_M_serial 6 = .ok (.iconst 0, 1) := by decide +kernel
theorem d_M_serial_7 : decode b_M_serial 7 = .ok (.bipush 7, 2) := by decide +kernel
theorem d_M_serial_9 : decode b_M_serial 9 = .ok (.invokevirtual 139, 3) := by decide +kernel
theorem d_M_serial_12 : decode b_M_serial 12 = .ok (.ireturn, 1) := by decide +kernel
abbrev y_M_state : MethodName := ⟨"HistoryJudgeModel", "state", "(I)I"⟩
abbrev b_M_state : ByteArray := prog_7_method_11_code
theorem d_M_state_0 : decode b_M_state 0 = .ok (.aload_n 0, 1) := by decide +kernel
theorem d_M_state_1 : decode b_M_state 1 = .ok (.iconst 0, 1) := by decide +kernel
theorem d_M_state_2 : decode b_M_state 2 = .ok (.putfield 50, 3) := by decide +kernel
theorem d_M_state_5 : decode b_M_state 5 = .ok (.iload_n 1, 1) := by decide +kernel
theorem d_M_state_6 : decode b_M_state 6 = .ok (.invokestatic 57, 3) := by decide +kernel
theorem d_M_state_9 : decode b_M_state 9 = .ok (.ifCond .eq 12, 3) := by decide +kernel
theorem d_M_state_12 : decode b_M_state 12 = .ok (.aload_n 0, 1) := by decide +kernel
theorem d_M_state_13 : decode b_M_state 13 = .ok (.getfield 7, 3) := by decide +kernel
theorem d_M_state_16 : decode b_M_state 16 = .ok (.iload_n 1, 1) := by decide +kernel
theorem d_M_state_17 : decode b_M_state 17 = .ok (.iaload, 1) := by decide +kernel
theorem d_M_state_18 : decode b_M_state 18 = .ok (.goto 4, 3) := by decide +kernel
theorem d_M_state_21 : decode b_M_state 21 = .ok (.iconst (-1), 1) := by decide +kernel
theorem d_M_state_22 : decode b_M_state 22 = .ok (.ireturn, 1) := by decide +kernel
abbrev y_M_step : MethodName := ⟨"HistoryJudgeModel", "step", "(II)I"⟩
abbrev b_M_step : ByteArray := prog_7_method_30_code
theorem d_M_step_0 : decode b_M_step 0 = .ok (.aload_n 0, 1) := by decide +kernel
theorem d_M_step_1 : decode b_M_step 1 = .ok (.iconst 0, 1) := by decide +kernel
theorem d_M_step_2 : decode b_M_step 2 = .ok (.putfield 50, 3) := by decide +kernel
theorem d_M_step_5 : decode b_M_step 5 = .ok (.aload_n 0, 1) := by decide +kernel
theorem d_M_step_6 : decode b_M_step 6 = .ok (.iload_n 1, 1) := by decide +kernel
theorem d_M_step_7 : decode b_M_step 7 = .ok (.invokevirtual 120, 3) := by decide +kernel
theorem d_M_step_10 : decode b_M_step 10 = .ok (.istore_n 3, 1) := by decide +kernel
theorem d_M_step_11 : decode b_M_step 11 = .ok (.iload_n 2, 1) := by decide +kernel
theorem d_M_step_12 : decode b_M_step 12 = .ok (.ifCond .lt 17, 3) := by decide +kernel
theorem d_M_step_15 : decode b_M_step 15 = .ok (.iload_n 2, 1) := by decide +kernel
theorem d_M_step_16 : decode b_M_step 16 = .ok (.iload_n 3, 1) := by decide +kernel
theorem d_M_step_17 : decode b_M_step 17 = .ok (.if_icmp .ge 12, 3) := by decide +kernel
theorem d_M_step_20 : decode b_M_step 20 = .ok (.aload_n 0, 1) := by decide +kernel
theorem d_M_step_21 : decode b_M_step 21 = .ok (.getfield 41, 3) := by decide +kernel
theorem d_M_step_24 : decode b_M_step 24 = .ok (.iload_n 2, 1) := by decide +kernel
theorem d_M_step_25 : decode b_M_step 25 = .ok (.iaload, 1) := by decide +kernel
theorem d_M_step_26 : decode b_M_step 26 = .ok (.goto 4, 3) := by decide +kernel
theorem d_M_step_29 : decode b_M_step 29 = .ok (.iconst (-1), 1) := by decide +kernel
theorem d_M_step_30 : decode b_M_step 30 = .ok (.ireturn, 1) := by decide +kernel
abbrev y_M_thrown : MethodName := ⟨"HistoryJudgeModel", "thrown", "()I"⟩
abbrev b_M_thrown : ByteArray := prog_7_method_2_code
theorem d_M_thrown_0 : decode b_M_thrown 0 = .ok (.aload_n 0, 1) := by decide +kernel
theorem d_M_thrown_1 : decode b_M_thrown 1 = .ok (.getfield 50, 3) := by decide +kernel
theorem d_M_thrown_4 : decode b_M_thrown 4 = .ok (.ireturn, 1) := by decide +kernel
abbrev y_M_tryOrders : MethodName := ⟨"HistoryJudgeModel", "tryOrders", "(II)Z"⟩
abbrev b_M_tryOrders : ByteArray := prog_7_method_37_code
theorem d_M_tryOrders_0 : decode b_M_tryOrders 0 = .ok (.aload_n 0, 1) := by decide +kernel
theorem d_M_tryOrders_1 : decode b_M_tryOrders 1 = .ok (.aload_n 0, 1) := by decide +kernel
theorem d_M_tryOrders_2 : decode b_M_tryOrders 2 = .ok (.invokevirtual 130, 3) := by decide +kernel
theorem d_M_tryOrders_5 : decode b_M_tryOrders 5 = .ok (.putfield 133, 3) := by decide +kernel
theorem d_M_tryOrders_8 : decode b_M_tryOrders 8 = .ok (.iconst 0, 1) := by decide +kernel
theorem d_M_tryOrders_9 : decode b_M_tryOrders 9 = .ok (.istore_n 3, 1) := by decide +kernel
theorem d_M_tryOrders_10 : decode b_M_tryOrders 10 = .ok (.iload_n 3, 1) := by decide +kernel
theorem d_M_tryOrders_11 : decode b_M_tryOrders 11 = .ok (.bipush 6, 2) := by decide +kernel
theorem d_M_tryOrders_13 : decode b_M_tryOrders 13 = .ok (.if_icmp .ge 16, 3) := by decide +kernel
theorem d_M_tryOrders_16 : decode b_M_tryOrders 16 = .ok (.aload_n 0, 1) := by decide +kernel
theorem d_M_tryOrders_17 : decode b_M_tryOrders 17 = .ok (.getfield 47, 3) := by decide +kernel
theorem d_M_tryOrders_20 : decode b_M_tryOrders 20 = .ok (.iload_n 3, 1) := by decide +kernel
theorem d_M_tryOrders_21 : decode b_M_tryOrders 21 = .ok (.iconst (-1), 1) := by decide +kernel
theorem d_M_tryOrders_22 : decode b_M_tryOrders 22 = .ok (.iastore, 1) := by decide +kernel
theorem d_M_tryOrders_23 : decode b_M_tryOrders 23 = .ok (.iinc 3 1, 3) := by decide +kernel
theorem d_M_tryOrders_26 : decode b_M_tryOrders 26 = .ok (.goto (-16), 3) := by decide +kernel
theorem d_M_tryOrders_29 : decode b_M_tryOrders 29 = .ok (.iconst 0, 1) := by decide +kernel
theorem d_M_tryOrders_30 : decode b_M_tryOrders 30 = .ok (.istore_n 3, 1) := by decide +kernel
theorem d_M_tryOrders_31 : decode b_M_tryOrders 31 = .ok (.aload_n 0, 1) := by decide +kernel
theorem d_M_tryOrders_32 : decode b_M_tryOrders 32 = .ok (.getfield 44, 3) := by decide +kernel
theorem d_M_tryOrders_35 : decode b_M_tryOrders 35 = .ok (.iconst 0, 1) := by decide +kernel
theorem d_M_tryOrders_36 : decode b_M_tryOrders 36 = .ok (.iload_n 1, 1) := by decide +kernel
theorem d_M_tryOrders_37 : decode b_M_tryOrders 37 = .ok (.iastore, 1) := by decide +kernel
theorem d_M_tryOrders_38 : decode b_M_tryOrders 38 = .ok (.iload_n 3, 1) := by decide +kernel
theorem d_M_tryOrders_39 : decode b_M_tryOrders 39 = .ok (.ifCond .lt 102, 3) := by decide +kernel
theorem d_M_tryOrders_42 : decode b_M_tryOrders 42 = .ok (.iload_n 3, 1) := by decide +kernel
theorem d_M_tryOrders_43 : decode b_M_tryOrders 43 = .ok (.aload_n 0, 1) := by decide +kernel
theorem d_M_tryOrders_44 : decode b_M_tryOrders 44 = .ok (.getfield 133, 3) := by decide +kernel
theorem d_M_tryOrders_47 : decode b_M_tryOrders 47 = .ok (.if_icmp .ge 94, 3) := by decide +kernel
theorem d_M_tryOrders_50 : decode b_M_tryOrders 50 = .ok (.aload_n 0, 1) := by decide +kernel
theorem d_M_tryOrders_51 : decode b_M_tryOrders 51 = .ok (.getfield 44, 3) := by decide +kernel
theorem d_M_tryOrders_54 : decode b_M_tryOrders 54 = .ok (.iload_n 3, 1) := by decide +kernel
theorem d_M_tryOrders_55 : decode b_M_tryOrders 55 = .ok (.iaload, 1) := by decide +kernel
theorem d_M_tryOrders_56 : decode b_M_tryOrders 56 = .ok (.istore 4, 2) := by decide +kernel
theorem d_M_tryOrders_58 : decode b_M_tryOrders 58 = .ok (.aload_n 0, 1) := by decide +kernel
theorem d_M_tryOrders_59 : decode b_M_tryOrders 59 = .ok (.getfield 44, 3) := by decide +kernel
theorem d_M_tryOrders_62 : decode b_M_tryOrders 62 = .ok (.iload_n 3, 1) := by decide +kernel
theorem d_M_tryOrders_63 : decode b_M_tryOrders 63 = .ok (.iload 4, 2) := by decide +kernel
theorem d_M_tryOrders_65 : decode b_M_tryOrders 65 = .ok (.iconst 1, 1) := by decide +kernel
theorem d_M_tryOrders_66 : decode b_M_tryOrders 66 = .ok (.iadd, 1) := by decide +kernel
theorem d_M_tryOrders_67 : decode b_M_tryOrders 67 = .ok (.iastore, 1) := by decide +kernel
theorem d_M_tryOrders_68 : decode b_M_tryOrders 68 = .ok (.iload 4, 2) := by decide +kernel
theorem d_M_tryOrders_70 : decode b_M_tryOrders 70 = .ok (.iload_n 3, 1) := by decide +kernel
theorem d_M_tryOrders_71 : decode b_M_tryOrders 71 = .ok (.ifCond .ne 7, 3) := by decide +kernel
theorem d_M_tryOrders_74 : decode b_M_tryOrders 74 = .ok (.iload_n 2, 1) := by decide +kernel
theorem d_M_tryOrders_75 : decode b_M_tryOrders 75 = .ok (.goto 5, 3) := by decide +kernel
theorem d_M_tryOrders_78 : decode b_M_tryOrders 78 = .ok (.bipush 7, 2) := by decide +kernel
theorem d_M_tryOrders_80 : decode b_M_tryOrders 80 = .ok (.if_icmp .le 10, 3) := by decide +kernel
theorem d_M_tryOrders_83 : decode b_M_tryOrders 83 = .ok (.iload_n 3, 1) := by decide +kernel
theorem d_M_tryOrders_84 : decode b_M_tryOrders 84 = .ok (.iconst 1, 1) := by decide +kernel
theorem d_M_tryOrders_85 : decode b_M_tryOrders 85 = .ok (.isub, 1) := by decide +kernel
theorem d_M_tryOrders_86 : decode b_M_tryOrders 86 = .ok (.istore_n 3, 1) := by decide +kernel
theorem d_M_tryOrders_87 : decode b_M_tryOrders 87 = .ok (.goto 51, 3) := by decide +kernel
theorem d_M_tryOrders_90 : decode b_M_tryOrders 90 = .ok (.aload_n 0, 1) := by decide +kernel
theorem d_M_tryOrders_91 : decode b_M_tryOrders 91 = .ok (.iload 4, 2) := by decide +kernel
theorem d_M_tryOrders_93 : decode b_M_tryOrders 93 = .ok (.invokevirtual 85, 3) := by decide +kernel
theorem d_M_tryOrders_96 : decode b_M_tryOrders 96 = .ok (.ifCond .eq 42, 3) := by decide +kernel
theorem d_M_tryOrders_99 : decode b_M_tryOrders 99 = .ok (.aload_n 0, 1) := by decide +kernel
theorem d_M_tryOrders_100 : decode b_M_tryOrders 100 = .ok (.iload 4, 2) := by decide +kernel
theorem d_M_tryOrders_102 : decode b_M_tryOrders 102 = .ok (.iload_n 3, 1) := by decide +kernel
theorem d_M_tryOrders_103 : decode b_M_tryOrders 103 = .ok (.invokevirtual 104, 3) := by decide +kernel
theorem d_M_tryOrders_106 : decode b_M_tryOrders 106 = .ok (.ifCond .ne 32, 3) := by decide +kernel
theorem d_M_tryOrders_109 : decode b_M_tryOrders 109 = .ok (.aload_n 0, 1) := by decide +kernel
theorem d_M_tryOrders_110 : decode b_M_tryOrders 110 = .ok (.iload_n 3, 1) := by decide +kernel
theorem d_M_tryOrders_111 : decode b_M_tryOrders 111 = .ok (.iload 4, 2) := by decide +kernel
theorem d_M_tryOrders_113 : decode b_M_tryOrders 113 = .ok (.invokevirtual 136, 3) := by decide +kernel
theorem d_M_tryOrders_116 : decode b_M_tryOrders 116 = .ok (.ifCond .eq 22, 3) := by decide +kernel
theorem d_M_tryOrders_119 : decode b_M_tryOrders 119 = .ok (.aload_n 0, 1) := by decide +kernel
theorem d_M_tryOrders_120 : decode b_M_tryOrders 120 = .ok (.getfield 41, 3) := by decide +kernel
theorem d_M_tryOrders_123 : decode b_M_tryOrders 123 = .ok (.iload_n 3, 1) := by decide +kernel
theorem d_M_tryOrders_124 : decode b_M_tryOrders 124 = .ok (.iload 4, 2) := by decide +kernel
theorem d_M_tryOrders_126 : decode b_M_tryOrders 126 = .ok (.iastore, 1) := by decide +kernel
theorem d_M_tryOrders_127 : decode b_M_tryOrders 127 = .ok (.iload_n 3, 1) := by decide +kernel
theorem d_M_tryOrders_128 : decode b_M_tryOrders 128 = .ok (.iconst 1, 1) := by decide +kernel
theorem d_M_tryOrders_129 : decode b_M_tryOrders 129 = .ok (.iadd, 1) := by decide +kernel
theorem d_M_tryOrders_130 : decode b_M_tryOrders 130 = .ok (.istore_n 3, 1) := by decide +kernel
theorem d_M_tryOrders_131 : decode b_M_tryOrders 131 = .ok (.aload_n 0, 1) := by decide +kernel
theorem d_M_tryOrders_132 : decode b_M_tryOrders 132 = .ok (.getfield 44, 3) := by decide +kernel
theorem d_M_tryOrders_135 : decode b_M_tryOrders 135 = .ok (.iload_n 3, 1) := by decide +kernel
theorem d_M_tryOrders_136 : decode b_M_tryOrders 136 = .ok (.iconst 0, 1) := by decide +kernel
theorem d_M_tryOrders_137 : decode b_M_tryOrders 137 = .ok (.iastore, 1) := by decide +kernel
theorem d_M_tryOrders_138 : decode b_M_tryOrders 138 = .ok (.goto (-100), 3) := by decide +kernel
theorem d_M_tryOrders_141 : decode b_M_tryOrders 141 = .ok (.iload_n 3, 1) := by decide +kernel
theorem d_M_tryOrders_142 : decode b_M_tryOrders 142 = .ok (.aload_n 0, 1) := by decide +kernel
theorem d_M_tryOrders_143 : decode b_M_tryOrders 143 = .ok (.getfield 133, 3) := by decide +kernel
theorem d_M_tryOrders_146 : decode b_M_tryOrders 146 = .ok (.if_icmp .ne 7, 3) := by decide +kernel
theorem d_M_tryOrders_149 : decode b_M_tryOrders 149 = .ok (.iconst 1, 1) := by decide +kernel
theorem d_M_tryOrders_150 : decode b_M_tryOrders 150 = .ok (.goto 4, 3) := by decide +kernel
theorem d_M_tryOrders_153 : decode b_M_tryOrders 153 = .ok (.iconst 0, 1) := by decide +kernel
theorem d_M_tryOrders_154 : decode b_M_tryOrders 154 = .ok (.ireturn, 1) := by decide +kernel
abbrev y_M_tryRows : MethodName := ⟨"HistoryJudgeModel", "tryRows", "(II)Z"⟩
abbrev b_M_tryRows : ByteArray := prog_7_method_27_code
theorem d_M_tryRows_0 : decode b_M_tryRows 0 = .ok (.iconst 0, 1) := by decide +kernel
theorem d_M_tryRows_1 : decode b_M_tryRows 1 = .ok (.istore_n 3, 1) := by decide +kernel
theorem d_M_tryRows_2 : decode b_M_tryRows 2 = .ok (.aload_n 0, 1) := by decide +kernel
theorem d_M_tryRows_3 : decode b_M_tryRows 3 = .ok (.getfield 44, 3) := by decide +kernel
theorem d_M_tryRows_6 : decode b_M_tryRows 6 = .ok (.iconst 0, 1) := by decide +kernel
theorem d_M_tryRows_7 : decode b_M_tryRows 7 = .ok (.iconst 0, 1) := by decide +kernel
theorem d_M_tryRows_8 : decode b_M_tryRows 8 = .ok (.iastore, 1) := by decide +kernel
theorem d_M_tryRows_9 : decode b_M_tryRows 9 = .ok (.iload_n 3, 1) := by decide +kernel
theorem d_M_tryRows_10 : decode b_M_tryRows 10 = .ok (.ifCond .lt 89, 3) := by decide +kernel
theorem d_M_tryRows_13 : decode b_M_tryRows 13 = .ok (.aload_n 0, 1) := by decide +kernel
theorem d_M_tryRows_14 : decode b_M_tryRows 14 = .ok (.getfield 44, 3) := by decide +kernel
theorem d_M_tryRows_17 : decode b_M_tryRows 17 = .ok (.iload_n 3, 1) := by decide +kernel
theorem d_M_tryRows_18 : decode b_M_tryRows 18 = .ok (.iaload, 1) := by decide +kernel
theorem d_M_tryRows_19 : decode b_M_tryRows 19 = .ok (.istore 4, 2) := by decide +kernel
theorem d_M_tryRows_21 : decode b_M_tryRows 21 = .ok (.aload_n 0, 1) := by decide +kernel
theorem d_M_tryRows_22 : decode b_M_tryRows 22 = .ok (.getfield 44, 3) := by decide +kernel
theorem d_M_tryRows_25 : decode b_M_tryRows 25 = .ok (.iload_n 3, 1) := by decide +kernel
theorem d_M_tryRows_26 : decode b_M_tryRows 26 = .ok (.iload 4, 2) := by decide +kernel
theorem d_M_tryRows_28 : decode b_M_tryRows 28 = .ok (.iconst 1, 1) := by decide +kernel
theorem d_M_tryRows_29 : decode b_M_tryRows 29 = .ok (.iadd, 1) := by decide +kernel
theorem d_M_tryRows_30 : decode b_M_tryRows 30 = .ok (.iastore, 1) := by decide +kernel
theorem d_M_tryRows_31 : decode b_M_tryRows 31 = .ok (.iload 4, 2) := by decide +kernel
theorem d_M_tryRows_33 : decode b_M_tryRows 33 = .ok (.bipush 8, 2) := by decide +kernel
theorem d_M_tryRows_35 : decode b_M_tryRows 35 = .ok (.if_icmp .ne 10, 3) := by decide +kernel
theorem d_M_tryRows_38 : decode b_M_tryRows 38 = .ok (.iload_n 3, 1) := by decide +kernel
theorem d_M_tryRows_39 : decode b_M_tryRows 39 = .ok (.iconst 1, 1) := by decide +kernel
theorem d_M_tryRows_40 : decode b_M_tryRows 40 = .ok (.isub, 1) := by decide +kernel
theorem d_M_tryRows_41 : decode b_M_tryRows 41 = .ok (.istore_n 3, 1) := by decide +kernel
theorem d_M_tryRows_42 : decode b_M_tryRows 42 = .ok (.goto 54, 3) := by decide +kernel
theorem d_M_tryRows_45 : decode b_M_tryRows 45 = .ok (.aload_n 0, 1) := by decide +kernel
theorem d_M_tryRows_46 : decode b_M_tryRows 46 = .ok (.iload_n 1, 1) := by decide +kernel
theorem d_M_tryRows_47 : decode b_M_tryRows 47 = .ok (.iload_n 3, 1) := by decide +kernel
theorem d_M_tryRows_48 : decode b_M_tryRows 48 = .ok (.iload 4, 2) := by decide +kernel
theorem d_M_tryRows_50 : decode b_M_tryRows 50 = .ok (.invokevirtual 107, 3) := by decide +kernel
theorem d_M_tryRows_53 : decode b_M_tryRows 53 = .ok (.ifCond .eq 43, 3) := by decide +kernel
theorem d_M_tryRows_56 : decode b_M_tryRows 56 = .ok (.aload_n 0, 1) := by decide +kernel
theorem d_M_tryRows_57 : decode b_M_tryRows 57 = .ok (.getfield 41, 3) := by decide +kernel
theorem d_M_tryRows_60 : decode b_M_tryRows 60 = .ok (.iload_n 3, 1) := by decide +kernel
theorem d_M_tryRows_61 : decode b_M_tryRows 61 = .ok (.iload 4, 2) := by decide +kernel
theorem d_M_tryRows_63 : decode b_M_tryRows 63 = .ok (.iastore, 1) := by decide +kernel
theorem d_M_tryRows_64 : decode b_M_tryRows 64 = .ok (.iload_n 3, 1) := by decide +kernel
theorem d_M_tryRows_65 : decode b_M_tryRows 65 = .ok (.iconst 1, 1) := by decide +kernel
theorem d_M_tryRows_66 : decode b_M_tryRows 66 = .ok (.iadd, 1) := by decide +kernel
theorem d_M_tryRows_67 : decode b_M_tryRows 67 = .ok (.iload_n 2, 1) := by decide +kernel
theorem d_M_tryRows_68 : decode b_M_tryRows 68 = .ok (.if_icmp .ge 17, 3) := by decide +kernel
theorem d_M_tryRows_71 : decode b_M_tryRows 71 = .ok (.iload_n 3, 1) := by decide +kernel
theorem d_M_tryRows_72 : decode b_M_tryRows 72 = .ok (.iconst 1, 1) := by decide +kernel
theorem d_M_tryRows_73 : decode b_M_tryRows 73 = .ok (.iadd, 1) := by decide +kernel
theorem d_M_tryRows_74 : decode b_M_tryRows 74 = .ok (.istore_n 3, 1) := by decide +kernel
theorem d_M_tryRows_75 : decode b_M_tryRows 75 = .ok (.aload_n 0, 1) := by decide +kernel
theorem d_M_tryRows_76 : decode b_M_tryRows 76 = .ok (.getfield 44, 3) := by decide +kernel
theorem d_M_tryRows_79 : decode b_M_tryRows 79 = .ok (.iload_n 3, 1) := by decide +kernel
theorem d_M_tryRows_80 : decode b_M_tryRows 80 = .ok (.iconst 0, 1) := by decide +kernel
theorem d_M_tryRows_81 : decode b_M_tryRows 81 = .ok (.iastore, 1) := by decide +kernel
theorem d_M_tryRows_82 : decode b_M_tryRows 82 = .ok (.goto 14, 3) := by decide +kernel
theorem d_M_tryRows_85 : decode b_M_tryRows 85 = .ok (.aload_n 0, 1) := by decide +kernel
theorem d_M_tryRows_86 : decode b_M_tryRows 86 = .ok (.iload_n 1, 1) := by decide +kernel
theorem d_M_tryRows_87 : decode b_M_tryRows 87 = .ok (.iload_n 2, 1) := by decide +kernel
theorem d_M_tryRows_88 : decode b_M_tryRows 88 = .ok (.invokevirtual 111, 3) := by decide +kernel
theorem d_M_tryRows_91 : decode b_M_tryRows 91 = .ok (.ifCond .eq 5, 3) := by decide +kernel
theorem d_M_tryRows_94 : decode b_M_tryRows 94 = .ok (.iconst 1, 1) := by decide +kernel
theorem d_M_tryRows_95 : decode b_M_tryRows 95 = .ok (.ireturn, 1) := by decide +kernel
theorem d_M_tryRows_96 : decode b_M_tryRows 96 = .ok (.goto (-87), 3) := by decide +kernel
theorem d_M_tryRows_99 : decode b_M_tryRows 99 = .ok (.iconst 0, 1) := by decide +kernel
theorem d_M_tryRows_100 : decode b_M_tryRows 100 = .ok (.ireturn, 1) := by decide +kernel
abbrev y_M_version : MethodName := ⟨"HistoryJudgeModel", "version", "(II)I"⟩
abbrev b_M_version : ByteArray := prog_7_method_12_code
theorem d_M_version_0 : decode b_M_version 0 = .ok (.aload_n 0, 1) := by decide +kernel
theorem d_M_version_1 : decode b_M_version 1 = .ok (.iconst 0, 1) := by decide +kernel
theorem d_M_version_2 : decode b_M_version 2 = .ok (.putfield 50, 3) := by decide +kernel
theorem d_M_version_5 : decode b_M_version 5 = .ok (.iload_n 1, 1) := by decide +kernel
theorem d_M_version_6 : decode b_M_version 6 = .ok (.invokestatic 61, 3) := by decide +kernel
theorem d_M_version_9 : decode b_M_version 9 = .ok (.ifCond .eq 31, 3) := by decide +kernel
theorem d_M_version_12 : decode b_M_version 12 = .ok (.iload_n 2, 1) := by decide +kernel
theorem d_M_version_13 : decode b_M_version 13 = .ok (.ifCond .lt 27, 3) := by decide +kernel
theorem d_M_version_16 : decode b_M_version 16 = .ok (.iload_n 2, 1) := by decide +kernel
theorem d_M_version_17 : decode b_M_version 17 = .ok (.aload_n 0, 1) := by decide +kernel
theorem d_M_version_18 : decode b_M_version 18 = .ok (.getfield 32, 3) := by decide +kernel
theorem d_M_version_21 : decode b_M_version 21 = .ok (.iload_n 1, 1) := by decide +kernel
theorem d_M_version_22 : decode b_M_version 22 = .ok (.iaload, 1) := by decide +kernel
theorem d_M_version_23 : decode b_M_version 23 = .ok (.if_icmp .ge 17, 3) := by decide +kernel
theorem d_M_version_26 : decode b_M_version 26 = .ok (.aload_n 0, 1) := by decide +kernel
theorem d_M_version_27 : decode b_M_version 27 = .ok (.getfield 35, 3) := by decide +kernel
theorem d_M_version_30 : decode b_M_version 30 = .ok (.bipush 8, 2) := by decide +kernel
theorem d_M_version_32 : decode b_M_version 32 = .ok (.iload_n 1, 1) := by decide +kernel
theorem d_M_version_33 : decode b_M_version 33 = .ok (.imul, 1) := by decide +kernel
theorem d_M_version_34 : decode b_M_version 34 = .ok (.iload_n 2, 1) := by decide +kernel
theorem d_M_version_35 : decode b_M_version 35 = .ok (.iadd, 1) := by decide +kernel
theorem d_M_version_36 : decode b_M_version 36 = .ok (.iaload, 1) := by decide +kernel
theorem d_M_version_37 : decode b_M_version 37 = .ok (.goto 4, 3) := by decide +kernel
theorem d_M_version_40 : decode b_M_version 40 = .ok (.iconst (-1), 1) := by decide +kernel
theorem d_M_version_41 : decode b_M_version 41 = .ok (.ireturn, 1) := by decide +kernel
abbrev y_M_write : MethodName := ⟨"HistoryJudgeModel", "write", "(II)I"⟩
abbrev b_M_write : ByteArray := prog_7_method_6_code
theorem d_M_write_0 : decode b_M_write 0 = .ok (.aload_n 0, 1) := by decide +kernel
theorem d_M_write_1 : decode b_M_write 1 = .ok (.iload_n 1, 1) := by decide +kernel
theorem d_M_write_2 : decode b_M_write 2 = .ok (.invokestatic 57, 3) := by decide +kernel
theorem d_M_write_5 : decode b_M_write 5 = .ok (.ifCond .eq 10, 3) := by decide +kernel
theorem d_M_write_8 : decode b_M_write 8 = .ok (.iload_n 2, 1) := by decide +kernel
theorem d_M_write_9 : decode b_M_write 9 = .ok (.invokestatic 61, 3) := by decide +kernel
theorem d_M_write_12 : decode b_M_write 12 = .ok (.ifCond .ne 7, 3) := by decide +kernel
theorem d_M_write_15 : decode b_M_write 15 = .ok (.iconst 1, 1) := by decide +kernel
theorem d_M_write_16 : decode b_M_write 16 = .ok (.goto 31, 3) := by decide +kernel
theorem d_M_write_19 : decode b_M_write 19 = .ok (.aload_n 0, 1) := by decide +kernel
theorem d_M_write_20 : decode b_M_write 20 = .ok (.getfield 7, 3) := by decide +kernel
theorem d_M_write_23 : decode b_M_write 23 = .ok (.iload_n 1, 1) := by decide +kernel
theorem d_M_write_24 : decode b_M_write 24 = .ok (.iaload, 1) := by decide +kernel
theorem d_M_write_25 : decode b_M_write 25 = .ok (.iconst 1, 1) := by decide +kernel
theorem d_M_write_26 : decode b_M_write 26 = .ok (.if_icmp .le 7, 3) := by decide +kernel
theorem d_M_write_29 : decode b_M_write 29 = .ok (.iconst 2, 1) := by decide +kernel
theorem d_M_write_30 : decode b_M_write 30 = .ok (.goto 17, 3) := by decide +kernel
theorem d_M_write_33 : decode b_M_write 33 = .ok (.aload_n 0, 1) := by decide +kernel
theorem d_M_write_34 : decode b_M_write 34 = .ok (.getfield 64, 3) := by decide +kernel
theorem d_M_write_37 : decode b_M_write 37 = .ok (.bipush 40, 2) := by decide +kernel
theorem d_M_write_39 : decode b_M_write 39 = .ok (.if_icmp .ne 7, 3) := by decide +kernel
theorem d_M_write_42 : decode b_M_write 42 = .ok (.iconst 3, 1) := by decide +kernel
theorem d_M_write_43 : decode b_M_write 43 = .ok (.goto 4, 3) := by decide +kernel
theorem d_M_write_46 : decode b_M_write 46 = .ok (.iconst 0, 1) := by decide +kernel
theorem d_M_write_47 : decode b_M_write 47 = .ok (.putfield 50, 3) := by decide +kernel
theorem d_M_write_50 : decode b_M_write 50 = .ok (.aload_n 0, 1) := by decide +kernel
theorem d_M_write_51 : decode b_M_write 51 = .ok (.getfield 50, 3) := by decide +kernel
theorem d_M_write_54 : decode b_M_write 54 = .ok (.ifCond .le 5, 3) := by decide +kernel
theorem d_M_write_57 : decode b_M_write 57 = .ok (.iconst 0, 1) := by decide +kernel
theorem d_M_write_58 : decode b_M_write 58 = .ok (.ireturn, 1) := by decide +kernel
theorem d_M_write_59 : decode b_M_write 59 = .ok (.aload_n 0, 1) := by decide +kernel
theorem d_M_write_60 : decode b_M_write 60 = .ok (.getfield 13, 3) := by decide +kernel
theorem d_M_write_63 : decode b_M_write 63 = .ok (.aload_n 0, 1) := by decide +kernel
theorem d_M_write_64 : decode b_M_write 64 = .ok (.getfield 64, 3) := by decide +kernel
theorem d_M_write_67 : decode b_M_write 67 = .ok (.iload_n 1, 1) := by decide +kernel
theorem d_M_write_68 : decode b_M_write 68 = .ok (.iastore, 1) := by decide +kernel
theorem d_M_write_69 : decode b_M_write 69 = .ok (.aload_n 0, 1) := by decide +kernel
theorem d_M_write_70 : decode b_M_write 70 = .ok (.getfield 16, 3) := by decide +kernel
theorem d_M_write_73 : decode b_M_write 73 = .ok (.aload_n 0, 1) := by decide +kernel
theorem d_M_write_74 : decode b_M_write 74 = .ok (.getfield 64, 3) := by decide +kernel
theorem d_M_write_77 : decode b_M_write 77 = .ok (.iload_n 2, 1) := by decide +kernel
theorem d_M_write_78 : decode b_M_write 78 = .ok (.iastore, 1) := by decide +kernel
theorem d_M_write_79 : decode b_M_write 79 = .ok (.aload_n 0, 1) := by decide +kernel
theorem d_M_write_80 : decode b_M_write 80 = .ok (.iload_n 1, 1) := by decide +kernel
theorem d_M_write_81 : decode b_M_write 81 = .ok (.iload_n 2, 1) := by decide +kernel
theorem d_M_write_82 : decode b_M_write 82 = .ok (.aload_n 0, 1) := by decide +kernel
theorem d_M_write_83 : decode b_M_write 83 = .ok (.getfield 64, 3) := by decide +kernel
theorem d_M_write_86 : decode b_M_write 86 = .ok (.iconst 1, 1) := by decide +kernel
theorem d_M_write_87 : decode b_M_write 87 = .ok (.invokevirtual 67, 3) := by decide +kernel
theorem d_M_write_90 : decode b_M_write 90 = .ok (.aload_n 0, 1) := by decide +kernel
theorem d_M_write_91 : decode b_M_write 91 = .ok (.aload_n 0, 1) := by decide +kernel
theorem d_M_write_92 : decode b_M_write 92 = .ok (.getfield 64, 3) := by decide +kernel
theorem d_M_write_95 : decode b_M_write 95 = .ok (.iconst 1, 1) := by decide +kernel
theorem d_M_write_96 : decode b_M_write 96 = .ok (.iadd, 1) := by decide +kernel
theorem d_M_write_97 : decode b_M_write 97 = .ok (.putfield 64, 3) := by decide +kernel
theorem d_M_write_100 : decode b_M_write 100 = .ok (.aload_n 0, 1) := by decide +kernel
theorem d_M_write_101 : decode b_M_write 101 = .ok (.getfield 64, 3) := by decide +kernel
theorem d_M_write_104 : decode b_M_write 104 = .ok (.iconst 1, 1) := by decide +kernel
theorem d_M_write_105 : decode b_M_write 105 = .ok (.isub, 1) := by decide +kernel
theorem d_M_write_106 : decode b_M_write 106 = .ok (.ireturn, 1) := by decide +kernel
abbrev y_S_canBeEnded : MethodName := ⟨"HistoryJudge$SerialSearch", "canBeEnded", "(I)Z"⟩
abbrev b_S_canBeEnded : ByteArray := prog_5_method_11_code
theorem d_S_canBeEnded_0 : decode b_S_canBeEnded 0 = .ok (.iload_n 1, 1) := by decide +kernel
theorem d_S_canBeEnded_1 : decode b_S_canBeEnded 1 = .ok (.aload_n 0, 1) := by decide +kernel
theorem d_S_canBeEnded_2 : decode b_S_canBeEnded 2 = .ok (.getfield 31, 3) := by decide +kernel
theorem d_S_canBeEnded_5 : decode b_S_canBeEnded 5 = .ok (.if_icmp .eq 12, 3) := by decide +kernel
theorem d_S_canBeEnded_8 : decode b_S_canBeEnded 8 = .ok (.aload_n 0, 1) := by decide +kernel
theorem d_S_canBeEnded_9 : decode b_S_canBeEnded 9 = .ok (.getfield 20, 3) := by decide +kernel
theorem d_S_canBeEnded_12 : decode b_S_canBeEnded 12 = .ok (.iload_n 1, 1) := by decide +kernel
theorem d_S_canBeEnded_13 : decode b_S_canBeEnded 13 = .ok (.iaload, 1) := by decide +kernel
theorem d_S_canBeEnded_14 : decode b_S_canBeEnded 14 = .ok (.ifCond .eq 7, 3) := by decide +kernel
theorem d_S_canBeEnded_17 : decode b_S_canBeEnded 17 = .ok (.iconst 1, 1) := by decide +kernel
theorem d_S_canBeEnded_18 : decode b_S_canBeEnded 18 = .ok (.goto 4, 3) := by decide +kernel
theorem d_S_canBeEnded_21 : decode b_S_canBeEnded 21 = .ok (.iconst 0, 1) := by decide +kernel
theorem d_S_canBeEnded_22 : decode b_S_canBeEnded 22 = .ok (.ireturn, 1) := by decide +kernel
abbrev y_S_explore : MethodName := ⟨"HistoryJudge$SerialSearch", "explore", "(LHistoryJudge$History;)V"⟩
abbrev b_S_explore : ByteArray := prog_5_method_2_code
theorem d_S_explore_0 : decode b_S_explore 0 = .ok (.aload_n 0, 1) := by decide +kernel
theorem d_S_explore_1 : decode b_S_explore 1 = .ok (.aload_n 1, 1) := by decide +kernel
theorem d_S_explore_2 : decode b_S_explore 2 = .ok (.invokevirtual 23, 3) := by decide +kernel
theorem d_S_explore_5 : decode b_S_explore 5 = .ok (.aload_n 0, 1) := by decide +kernel
theorem d_S_explore_6 : decode b_S_explore 6 = .ok (.getfield 20, 3) := by decide +kernel
theorem d_S_explore_9 : decode b_S_explore 9 = .ok (.arraylength, 1) := by decide +kernel
theorem d_S_explore_10 : decode b_S_explore 10 = .ok (.iconst 1, 1) := by decide +kernel
theorem d_S_explore_11 : decode b_S_explore 11 = .ok (.isub, 1) := by decide +kernel
theorem d_S_explore_12 : decode b_S_explore 12 = .ok (.istore_n 2, 1) := by decide +kernel
theorem d_S_explore_13 : decode b_S_explore 13 = .ok (.iload_n 2, 1) := by decide +kernel
theorem d_S_explore_14 : decode b_S_explore 14 = .ok (.ifCond .lt 52, 3) := by decide +kernel
theorem d_S_explore_17 : decode b_S_explore 17 = .ok (.aload_n 0, 1) := by decide +kernel
theorem d_S_explore_18 : decode b_S_explore 18 = .ok (.getfield 27, 3) := by decide +kernel
theorem d_S_explore_21 : decode b_S_explore 21 = .ok (.ifCond .eq 18, 3) := by decide +kernel
theorem d_S_explore_24 : decode b_S_explore 24 = .ok (.iload_n 2, 1) := by decide +kernel
theorem d_S_explore_25 : decode b_S_explore 25 = .ok (.aload_n 0, 1) := by decide +kernel
theorem d_S_explore_26 : decode b_S_explore 26 = .ok (.getfield 31, 3) := by decide +kernel
theorem d_S_explore_29 : decode b_S_explore 29 = .ok (.iconst (-1), 1) := by decide +kernel
theorem d_S_explore_30 : decode b_S_explore 30 = .ok (.ixor, 1) := by decide +kernel
theorem d_S_explore_31 : decode b_S_explore 31 = .ok (.iand, 1) := by decide +kernel
theorem d_S_explore_32 : decode b_S_explore 32 = .ok (.ifCond .ne 7, 3) := by decide +kernel
theorem d_S_explore_35 : decode b_S_explore 35 = .ok (.iconst 1, 1) := by decide +kernel
theorem d_S_explore_36 : decode b_S_explore 36 = .ok (.goto 4, 3) := by decide +kernel
theorem d_S_explore_39 : decode b_S_explore 39 = .ok (.iconst 0, 1) := by decide +kernel
theorem d_S_explore_40 : decode b_S_explore 40 = .ok (.istore_n 3, 1) := by decide +kernel
theorem d_S_explore_41 : decode b_S_explore 41 = .ok (.aload_n 0, 1) := by decide +kernel
theorem d_S_explore_42 : decode b_S_explore 42 = .ok (.getfield 20, 3) := by decide +kernel
theorem d_S_explore_45 : decode b_S_explore 45 = .ok (.iload_n 2, 1) := by decide +kernel
theorem d_S_explore_46 : decode b_S_explore 46 = .ok (.iload_n 3, 1) := by decide +kernel
theorem d_S_explore_47 : decode b_S_explore 47 = .ok (.ifCond .eq 11, 3) := by decide +kernel
theorem d_S_explore_50 : decode b_S_explore 50 = .ok (.aload_n 0, 1) := by decide +kernel
theorem d_S_explore_51 : decode b_S_explore 51 = .ok (.iload_n 2, 1) := by decide +kernel
theorem d_S_explore_52 : decode b_S_explore 52 = .ok (.invokevirtual 35, 3) := by decide +kernel
theorem d_S_explore_55 : decode b_S_explore 55 = .ok (.goto 4, 3) := by decide +kernel
theorem d_S_explore_58 : decode b_S_explore 58 = .ok (.iconst 0, 1) := by decide +kernel
theorem d_S_explore_59 : decode b_S_explore 59 = .ok (.iastore, 1) := by decide +kernel
theorem d_S_explore_60 : decode b_S_explore 60 = .ok (.iinc 2 (-1), 3) := by decide +kernel
theorem d_S_explore_63 : decode b_S_explore 63 = .ok (.goto (-50), 3) := by decide +kernel
theorem d_S_explore_66 : decode b_S_explore 66 = .ok (.return_, 1) := by decide +kernel
abbrev y_S_followers : MethodName := ⟨"HistoryJudge$SerialSearch", "followers", "(I)I"⟩
abbrev b_S_followers : ByteArray := prog_5_method_9_code
theorem d_S_followers_0 : decode b_S_followers 0 = .ok (.iconst 0, 1) := by decide +kernel
theorem d_S_followers_1 : decode b_S_followers 1 = .ok (.istore_n 2, 1) := by decide +kernel
theorem d_S_followers_2 : decode b_S_followers 2 = .ok (.iconst 0, 1) := by decide +kernel
theorem d_S_followers_3 : decode b_S_followers 3 = .ok (.istore_n 3, 1) := by decide +kernel
theorem d_S_followers_4 : decode b_S_followers 4 = .ok (.iload_n 3, 1) := by decide +kernel
theorem d_S_followers_5 : decode b_S_followers 5 = .ok (.bipush 8, 2) := by decide +kernel
theorem d_S_followers_7 : decode b_S_followers 7 = .ok (.if_icmp .ge 69, 3) := by decide +kernel
theorem d_S_followers_10 : decode b_S_followers 10 = .ok (.aload_n 0, 1) := by decide +kernel
theorem d_S_followers_11 : decode b_S_followers 11 = .ok (.getfield 31, 3) := by decide +kernel
theorem d_S_followers_14 : decode b_S_followers 14 = .ok (.iload_n 3, 1) := by decide +kernel
theorem d_S_followers_15 : decode b_S_followers 15 = .ok (.invokestatic 105, 3) := by decide +kernel
theorem d_S_followers_18 : decode b_S_followers 18 = .ok (.ifCond .eq 15, 3) := by decide +kernel
theorem d_S_followers_21 : decode b_S_followers 21 = .ok (.iload_n 1, 1) := by decide +kernel
theorem d_S_followers_22 : decode b_S_followers 22 = .ok (.iload_n 3, 1) := by decide +kernel
theorem d_S_followers_23 : decode b_S_followers 23 = .ok (.invokestatic 105, 3) := by decide +kernel
theorem d_S_followers_26 : decode b_S_followers 26 = .ok (.ifCond .ne 7, 3) := by decide +kernel
theorem d_S_followers_29 : decode b_S_followers 29 = .ok (.iconst 1, 1) := by decide +kernel
theorem d_S_followers_30 : decode b_S_followers 30 = .ok (.goto 4, 3) := by decide +kernel
theorem d_S_followers_33 : decode b_S_followers 33 = .ok (.iconst 0, 1) := by decide +kernel
theorem d_S_followers_34 : decode b_S_followers 34 = .ok (.istore 4, 2) := by decide +kernel
theorem d_S_followers_36 : decode b_S_followers 36 = .ok (.iload 4, 2) := by decide +kernel
theorem d_S_followers_38 : decode b_S_followers 38 = .ok (.ifCond .eq 32, 3) := by decide +kernel
theorem d_S_followers_41 : decode b_S_followers 41 = .ok (.aload_n 0, 1) := by decide +kernel
theorem d_S_followers_42 : decode b_S_followers 42 = .ok (.iload_n 3, 1) := by decide +kernel
theorem d_S_followers_43 : decode b_S_followers 43 = .ok (.iload_n 1, 1) := by decide +kernel
theorem d_S_followers_44 : decode b_S_followers 44 = .ok (.invokevirtual 112, 3) := by decide +kernel
theorem d_S_followers_47 : decode b_S_followers 47 = .ok (.ifCond .eq 23, 3) := by decide +kernel
theorem d_S_followers_50 : decode b_S_followers 50 = .ok (.aload_n 0, 1) := by decide +kernel
theorem d_S_followers_51 : decode b_S_followers 51 = .ok (.iload_n 1, 1) := by decide +kernel
theorem d_S_followers_52 : decode b_S_followers 52 = .ok (.iload_n 3, 1) := by decide +kernel
theorem d_S_followers_53 : decode b_S_followers 53 = .ok (.invokestatic 55, 3) := by decide +kernel
theorem d_S_followers_56 : decode b_S_followers 56 = .ok (.ior, 1) := by decide +kernel
theorem d_S_followers_57 : decode b_S_followers 57 = .ok (.invokevirtual 39, 3) := by decide +kernel
theorem d_S_followers_60 : decode b_S_followers 60 = .ok (.ifCond .eq 10, 3) := by decide +kernel
theorem d_S_followers_63 : decode b_S_followers 63 = .ok (.iload_n 2, 1) := by decide +kernel
theorem d_S_followers_64 : decode b_S_followers 64 = .ok (.iload_n 3, 1) := by decide +kernel
theorem d_S_followers_65 : decode b_S_followers 65 = .ok (.invokestatic 55, 3) := by decide +kernel
theorem d_S_followers_68 : decode b_S_followers 68 = .ok (.ior, 1) := by decide +kernel
theorem d_S_followers_69 : decode b_S_followers 69 = .ok (.istore_n 2, 1) := by decide +kernel
theorem d_S_followers_70 : decode b_S_followers 70 = .ok (.iinc 3 1, 3) := by decide +kernel
theorem d_S_followers_73 : decode b_S_followers 73 = .ok (.goto (-69), 3) := by decide +kernel
theorem d_S_followers_76 : decode b_S_followers 76 = .ok (.iload_n 2, 1) := by decide +kernel
theorem d_S_followers_77 : decode b_S_followers 77 = .ok (.ireturn, 1) := by decide +kernel
abbrev y_S_init : MethodName := ⟨"HistoryJudge$SerialSearch", "<init>", "()V"⟩
abbrev b_S_init : ByteArray := prog_5_method_1_code
theorem d_S_init_0 : decode b_S_init 0 = .ok (.aload_n 0, 1) := by decide +kernel
theorem d_S_init_1 : decode b_S_init 1 = .ok (.invokespecial 3, 3) := by decide +kernel
theorem d_S_init_4 : decode b_S_init 4 = .ok (.aload_n 0, 1) := by decide +kernel
theorem d_S_init_5 : decode b_S_init 5 = .ok (.bipush 8, 2) := by decide +kernel
theorem d_S_init_7 : decode b_S_init 7 = .ok (.newarray .int, 2) := by decide +kernel
theorem d_S_init_9 : decode b_S_init 9 = .ok (.putfield 9, 3) := by decide +kernel
theorem d_S_init_12 : decode b_S_init 12 = .ok (.aload_n 0, 1) := by decide +kernel
theorem d_S_init_13 : decode b_S_init 13 = .ok (.bipush 8, 2) := by decide +kernel
theorem d_S_init_15 : decode b_S_init 15 = .ok (.bipush 8, 2) := by decide +kernel
theorem d_S_init_17 : decode b_S_init 17 = .ok (.multianewarray 15 2, 4) := by decide +kernel
theorem d_S_init_21 : decode b_S_init 21 = .ok (.putfield 17, 3) := by decide +kernel
theorem d_S_init_24 : decode b_S_init 24 = .ok (.aload_n 0, 1) := by decide +kernel
theorem d_S_init_25 : decode b_S_init 25 = .ok (.sipush 256, 3) := by decide +kernel
theorem d_S_init_28 : decode b_S_init 28 = .ok (.newarray .int, 2) := by decide +kernel
theorem d_S_init_30 : decode b_S_init 30 = .ok (.putfield 20, 3) := by decide +kernel
theorem d_S_init_33 : decode b_S_init 33 = .ok (.return_, 1) := by decide +kernel
abbrev y_S_isPossible : MethodName := ⟨"HistoryJudge$SerialSearch", "isPossible", "()Z"⟩
abbrev b_S_isPossible : ByteArray := prog_5_method_3_code
theorem d_S_isPossible_0 : decode b_S_isPossible 0 = .ok (.aload_n 0, 1) := by decide +kernel
theorem d_S_isPossible_1 : decode b_S_isPossible 1 = .ok (.getfield 27, 3) := by decide +kernel
theorem d_S_isPossible_4 : decode b_S_isPossible 4 = .ok (.ifCond .eq 15, 3) := by decide +kernel
theorem d_S_isPossible_7 : decode b_S_isPossible 7 = .ok (.aload_n 0, 1) := by decide +kernel
theorem d_S_isPossible_8 : decode b_S_isPossible 8 = .ok (.iconst 0, 1) := by decide +kernel
theorem d_S_isPossible_9 : decode b_S_isPossible 9 = .ok (.invokevirtual 39, 3) := by decide +kernel
theorem d_S_isPossible_12 : decode b_S_isPossible 12 = .ok (.ifCond .eq 7, 3) := by decide +kernel
theorem d_S_isPossible_15 : decode b_S_isPossible 15 = .ok (.iconst 1, 1) := by decide +kernel
theorem d_S_isPossible_16 : decode b_S_isPossible 16 = .ok (.goto 4, 3) := by decide +kernel
theorem d_S_isPossible_19 : decode b_S_isPossible 19 = .ok (.iconst 0, 1) := by decide +kernel
theorem d_S_isPossible_20 : decode b_S_isPossible 20 = .ok (.ireturn, 1) := by decide +kernel
abbrev y_S_mayFollow : MethodName := ⟨"HistoryJudge$SerialSearch", "mayFollow", "(II)Z"⟩
abbrev b_S_mayFollow : ByteArray := prog_5_method_10_code
theorem d_S_mayFollow_0 : decode b_S_mayFollow 0 = .ok (.aload_n 0, 1) := by decide +kernel
theorem d_S_mayFollow_1 : decode b_S_mayFollow 1 = .ok (.getfield 9, 3) := by decide +kernel
theorem d_S_mayFollow_4 : decode b_S_mayFollow 4 = .ok (.iload_n 1, 1) := by decide +kernel
theorem d_S_mayFollow_5 : decode b_S_mayFollow 5 = .ok (.iaload, 1) := by decide +kernel
theorem d_S_mayFollow_6 : decode b_S_mayFollow 6 = .ok (.iload_n 2, 1) := by decide +kernel
theorem d_S_mayFollow_7 : decode b_S_mayFollow 7 = .ok (.iconst (-1), 1) := by decide +kernel
theorem d_S_mayFollow_8 : decode b_S_mayFollow 8 = .ok (.ixor, 1) := by decide +kernel
theorem d_S_mayFollow_9 : decode b_S_mayFollow 9 = .ok (.iand, 1) := by decide +kernel
theorem d_S_mayFollow_10 : decode b_S_mayFollow 10 = .ok (.ifCond .eq 5, 3) := by decide +kernel
theorem d_S_mayFollow_13 : decode b_S_mayFollow 13 = .ok (.iconst 0, 1) := by decide +kernel
theorem d_S_mayFollow_14 : decode b_S_mayFollow 14 = .ok (.ireturn, 1) := by decide +kernel
theorem d_S_mayFollow_15 : decode b_S_mayFollow 15 = .ok (.iconst 0, 1) := by decide +kernel
theorem d_S_mayFollow_16 : decode b_S_mayFollow 16 = .ok (.istore_n 3, 1) := by decide +kernel
theorem d_S_mayFollow_17 : decode b_S_mayFollow 17 = .ok (.iload_n 3, 1) := by decide +kernel
theorem d_S_mayFollow_18 : decode b_S_mayFollow 18 = .ok (.bipush 8, 2) := by decide +kernel
theorem d_S_mayFollow_20 : decode b_S_mayFollow 20 = .ok (.if_icmp .ge 34, 3) := by decide +kernel
theorem d_S_mayFollow_23 : decode b_S_mayFollow 23 = .ok (.iload_n 2, 1) := by decide +kernel
theorem d_S_mayFollow_24 : decode b_S_mayFollow 24 = .ok (.iload_n 3, 1) := by decide +kernel
theorem d_S_mayFollow_25 : decode b_S_mayFollow 25 = .ok (.invokestatic 105, 3) := by decide +kernel
theorem d_S_mayFollow_28 : decode b_S_mayFollow 28 = .ok (.ifCond .eq 20, 3) := by decide +kernel
theorem d_S_mayFollow_31 : decode b_S_mayFollow 31 = .ok (.aload_n 0, 1) := by decide +kernel
theorem d_S_mayFollow_32 : decode b_S_mayFollow 32 = .ok (.getfield 17, 3) := by decide +kernel
theorem d_S_mayFollow_35 : decode b_S_mayFollow 35 = .ok (.iload_n 3, 1) := by decide +kernel
theorem d_S_mayFollow_36 : decode b_S_mayFollow 36 = .ok (.aaload, 1) := by decide +kernel
theorem d_S_mayFollow_37 : decode b_S_mayFollow 37 = .ok (.iload_n 1, 1) := by decide +kernel
theorem d_S_mayFollow_38 : decode b_S_mayFollow 38 = .ok (.iaload, 1) := by decide +kernel
theorem d_S_mayFollow_39 : decode b_S_mayFollow 39 = .ok (.iload_n 2, 1) := by decide +kernel
theorem d_S_mayFollow_40 : decode b_S_mayFollow 40 = .ok (.iconst (-1), 1) := by decide +kernel
theorem d_S_mayFollow_41 : decode b_S_mayFollow 41 = .ok (.ixor, 1) := by decide +kernel
theorem d_S_mayFollow_42 : decode b_S_mayFollow 42 = .ok (.iand, 1) := by decide +kernel
theorem d_S_mayFollow_43 : decode b_S_mayFollow 43 = .ok (.ifCond .eq 5, 3) := by decide +kernel
theorem d_S_mayFollow_46 : decode b_S_mayFollow 46 = .ok (.iconst 0, 1) := by decide +kernel
theorem d_S_mayFollow_47 : decode b_S_mayFollow 47 = .ok (.ireturn, 1) := by decide +kernel
theorem d_S_mayFollow_48 : decode b_S_mayFollow 48 = .ok (.iinc 3 1, 3) := by decide +kernel
theorem d_S_mayFollow_51 : decode b_S_mayFollow 51 = .ok (.goto (-34), 3) := by decide +kernel
theorem d_S_mayFollow_54 : decode b_S_mayFollow 54 = .ok (.iconst 1, 1) := by decide +kernel
theorem d_S_mayFollow_55 : decode b_S_mayFollow 55 = .ok (.ireturn, 1) := by decide +kernel
abbrev y_S_takeFirstRead : MethodName := ⟨"HistoryJudge$SerialSearch", "takeFirstRead", "(LHistoryJudge$History;II)V"⟩
abbrev b_S_takeFirstRead : ByteArray := prog_5_method_7_code
theorem d_S_takeFirstRead_0 : decode b_S_takeFirstRead 0 = .ok (.iconst 0, 1) := by decide +kernel
theorem d_S_takeFirstRead_1 : decode b_S_takeFirstRead 1 = .ok (.istore 4, 2) := by decide +kernel
theorem d_S_takeFirstRead_3 : decode b_S_takeFirstRead 3 = .ok (.iload 4, 2) := by decide +kernel
theorem d_S_takeFirstRead_5 : decode b_S_takeFirstRead 5 = .ok (.bipush 8, 2) := by decide +kernel
theorem d_S_takeFirstRead_7 : decode b_S_takeFirstRead 7 = .ok (.if_icmp .ge 51, 3) := by decide +kernel
theorem d_S_takeFirstRead_10 : decode b_S_takeFirstRead 10 = .ok (.iload 4, 2) := by decide +kernel
theorem d_S_takeFirstRead_12 : decode b_S_takeFirstRead 12 = .ok (.iload_n 2, 1) := by decide +kernel
theorem d_S_takeFirstRead_13 : decode b_S_takeFirstRead 13 = .ok (.if_icmp .eq 39, 3) := by decide +kernel
theorem d_S_takeFirstRead_16 : decode b_S_takeFirstRead 16 = .ok (.aload_n 0, 1) := by decide +kernel
theorem d_S_takeFirstRead_17 : decode b_S_takeFirstRead 17 = .ok (.getfield 31, 3) := by decide +kernel
theorem d_S_takeFirstRead_20 : decode b_S_takeFirstRead 20 = .ok (.iload 4, 2) := by decide +kernel
theorem d_S_takeFirstRead_22 : decode b_S_takeFirstRead 22 = .ok (.invokestatic 105, 3) := by decide +kernel
theorem d_S_takeFirstRead_25 : decode b_S_takeFirstRead 25 = .ok (.ifCond .eq 27, 3) := by decide +kernel
theorem d_S_takeFirstRead_28 : decode b_S_takeFirstRead 28 = .ok (.aload_n 1, 1) := by decide +kernel
theorem d_S_takeFirstRead_29 : decode b_S_takeFirstRead 29 = .ok (.iload 4, 2) := by decide +kernel
theorem d_S_takeFirstRead_31 : decode b_S_takeFirstRead 31 = .ok (.iload_n 3, 1) := by decide +kernel
theorem d_S_takeFirstRead_32 : decode b_S_takeFirstRead 32 = .ok (.invokevirtual 109, 3) := by decide +kernel
theorem d_S_takeFirstRead_35 : decode b_S_takeFirstRead 35 = .ok (.ifCond .eq 17, 3) := by decide +kernel
theorem d_S_takeFirstRead_38 : decode b_S_takeFirstRead 38 = .ok (.aload_n 0, 1) := by decide +kernel
theorem d_S_takeFirstRead_39 : decode b_S_takeFirstRead 39 = .ok (.getfield 9, 3) := by decide +kernel
theorem d_S_takeFirstRead_42 : decode b_S_takeFirstRead 42 = .ok (.iload 4, 2) := by decide +kernel
theorem d_S_takeFirstRead_44 : decode b_S_takeFirstRead 44 = .ok (.dup2, 1) := by decide +kernel
theorem d_S_takeFirstRead_45 : decode b_S_takeFirstRead 45 = .ok (.iaload, 1) := by decide +kernel
theorem d_S_takeFirstRead_46 : decode b_S_takeFirstRead 46 = .ok (.iload_n 2, 1) := by decide +kernel
theorem d_S_takeFirstRead_47 : decode b_S_takeFirstRead 47 = .ok (.invokestatic 55, 3) := by decide +kernel
theorem d_S_takeFirstRead_50 : decode b_S_takeFirstRead 50 = .ok (.ior, 1) := by decide +kernel
theorem d_S_takeFirstRead_51 : decode b_S_takeFirstRead 51 = .ok (.iastore, 1) := by decide +kernel
theorem d_S_takeFirstRead_52 : decode b_S_takeFirstRead 52 = .ok (.iinc 4 1, 3) := by decide +kernel
theorem d_S_takeFirstRead_55 : decode b_S_takeFirstRead 55 = .ok (.goto (-52), 3) := by decide +kernel
theorem d_S_takeFirstRead_58 : decode b_S_takeFirstRead 58 = .ok (.return_, 1) := by decide +kernel
abbrev y_S_takeForeignRead : MethodName := ⟨"HistoryJudge$SerialSearch", "takeForeignRead", "(LHistoryJudge$History;II)V"⟩
abbrev b_S_takeForeignRead : ByteArray := prog_5_method_8_code
theorem d_S_takeForeignRead_0 : decode b_S_takeForeignRead 0 = .ok (.aload_n 1, 1) := by decide +kernel
theorem d_S_takeForeignRead_1 : decode b_S_takeForeignRead 1 = .ok (.getfield 73, 3) := by decide +kernel
theorem d_S_takeForeignRead_4 : decode b_S_takeForeignRead 4 = .ok (.iload_n 2, 1) := by decide +kernel
theorem d_S_takeForeignRead_5 : decode b_S_takeForeignRead 5 = .ok (.iaload, 1) := by decide +kernel
theorem d_S_takeForeignRead_6 : decode b_S_takeForeignRead 6 = .ok (.istore 4, 2) := by decide +kernel
theorem d_S_takeForeignRead_8 : decode b_S_takeForeignRead 8 = .ok (.aload_n 1, 1) := by decide +kernel
theorem d_S_takeForeignRead_9 : decode b_S_takeForeignRead 9 = .ok (.getfield 89, 3) := by decide +kernel
theorem d_S_takeForeignRead_12 : decode b_S_takeForeignRead 12 = .ok (.iload_n 2, 1) := by decide +kernel
theorem d_S_takeForeignRead_13 : decode b_S_takeForeignRead 13 = .ok (.iaload, 1) := by decide +kernel
theorem d_S_takeForeignRead_14 : decode b_S_takeForeignRead 14 = .ok (.istore 5, 2) := by decide +kernel
theorem d_S_takeForeignRead_16 : decode b_S_takeForeignRead 16 = .ok (.aload_n 0, 1) := by decide +kernel
theorem d_S_takeForeignRead_17 : decode b_S_takeForeignRead 17 = .ok (.getfield 9, 3) := by decide +kernel
theorem d_S_takeForeignRead_20 : decode b_S_takeForeignRead 20 = .ok (.iload 4, 2) := by decide +kernel
theorem d_S_takeForeignRead_22 : decode b_S_takeForeignRead 22 = .ok (.dup2, 1) := by decide +kernel
theorem d_S_takeForeignRead_23 : decode b_S_takeForeignRead 23 = .ok (.iaload, 1) := by decide +kernel
theorem d_S_takeForeignRead_24 : decode b_S_takeForeignRead 24 = .ok (.iload_n 3, 1) := by decide +kernel
theorem d_S_takeForeignRead_25 : decode b_S_takeForeignRead 25 = .ok (.invokestatic 55, 3) := by decide +kernel
theorem d_S_takeForeignRead_28 : decode b_S_takeForeignRead 28 = .ok (.ior, 1) := by decide +kernel
theorem d_S_takeForeignRead_29 : decode b_S_takeForeignRead 29 = .ok (.iastore, 1) := by decide +kernel
theorem d_S_takeForeignRead_30 : decode b_S_takeForeignRead 30 = .ok (.iconst 0, 1) := by decide +kernel
theorem d_S_takeForeignRead_31 : decode b_S_takeForeignRead 31 = .ok (.istore 6, 2) := by decide +kernel
theorem d_S_takeForeignRead_33 : decode b_S_takeForeignRead 33 = .ok (.iload 6, 2) := by decide +kernel
theorem d_S_takeForeignRead_35 : decode b_S_takeForeignRead 35 = .ok (.bipush 8, 2) := by decide +kernel
theorem d_S_takeForeignRead_37 : decode b_S_takeForeignRead 37 = .ok (.if_icmp .ge 50, 3) := by decide +kernel
theorem d_S_takeForeignRead_40 : decode b_S_takeForeignRead 40 = .ok (.iload 6, 2) := by decide +kernel
theorem d_S_takeForeignRead_42 : decode b_S_takeForeignRead 42 = .ok (.iload 4, 2) := by decide +kernel
theorem d_S_takeForeignRead_44 : decode b_S_takeForeignRead 44 = .ok (.if_icmp .eq 37, 3) := by decide +kernel
theorem d_S_takeForeignRead_47 : decode b_S_takeForeignRead 47 = .ok (.iload 6, 2) := by decide +kernel
theorem d_S_takeForeignRead_49 : decode b_S_takeForeignRead 49 = .ok (.iload_n 3, 1) := by decide +kernel
theorem d_S_takeForeignRead_50 : decode b_S_takeForeignRead 50 = .ok (.if_icmp .eq 31, 3) := by decide +kernel
theorem d_S_takeForeignRead_53 : decode b_S_takeForeignRead 53 = .ok (.aload_n 1, 1) := by decide +kernel
theorem d_S_takeForeignRead_54 : decode b_S_takeForeignRead 54 = .ok (.iload 6, 2) := by decide +kernel
theorem d_S_takeForeignRead_56 : decode b_S_takeForeignRead 56 = .ok (.iload 5, 2) := by decide +kernel
theorem d_S_takeForeignRead_58 : decode b_S_takeForeignRead 58 = .ok (.invokevirtual 109, 3) := by decide +kernel
theorem d_S_takeForeignRead_61 : decode b_S_takeForeignRead 61 = .ok (.ifCond .eq 20, 3) := by decide +kernel
theorem d_S_takeForeignRead_64 : decode b_S_takeForeignRead 64 = .ok (.aload_n 0, 1) := by decide +kernel
theorem d_S_takeForeignRead_65 : decode b_S_takeForeignRead 65 = .ok (.getfield 17, 3) := by decide +kernel
theorem d_S_takeForeignRead_68 : decode b_S_takeForeignRead 68 = .ok (.iload_n 3, 1) := by decide +kernel
theorem d_S_takeForeignRead_69 : decode b_S_takeForeignRead 69 = .ok (.aaload, 1) := by decide +kernel
theorem d_S_takeForeignRead_70 : decode b_S_takeForeignRead 70 = .ok (.iload 6, 2) := by decide +kernel
theorem d_S_takeForeignRead_72 : decode b_S_takeForeignRead 72 = .ok (.dup2, 1) := by decide +kernel
theorem d_S_takeForeignRead_73 : decode b_S_takeForeignRead 73 = .ok (.iaload, 1) := by decide +kernel
theorem d_S_takeForeignRead_74 : decode b_S_takeForeignRead 74 = .ok (.iload 4, 2) := by decide +kernel
theorem d_S_takeForeignRead_76 : decode b_S_takeForeignRead 76 = .ok (.invokestatic 55, 3) := by decide +kernel
theorem d_S_takeForeignRead_79 : decode b_S_takeForeignRead 79 = .ok (.ior, 1) := by decide +kernel
theorem d_S_takeForeignRead_80 : decode b_S_takeForeignRead 80 = .ok (.iastore, 1) := by decide +kernel
theorem d_S_takeForeignRead_81 : decode b_S_takeForeignRead 81 = .ok (.iinc 6 1, 3) := by decide +kernel
theorem d_S_takeForeignRead_84 : decode b_S_takeForeignRead 84 = .ok (.goto (-51), 3) := by decide +kernel
theorem d_S_takeForeignRead_87 : decode b_S_takeForeignRead 87 = .ok (.return_, 1) := by decide +kernel
abbrev y_S_takeRead : MethodName := ⟨"HistoryJudge$SerialSearch", "takeRead", "(LHistoryJudge$History;I)V"⟩
abbrev b_S_takeRead : ByteArray := prog_5_method_6_code
theorem d_S_takeRead_0 : decode b_S_takeRead 0 = .ok (.aload_n 1, 1) := by decide +kernel
theorem d_S_takeRead_1 : decode b_S_takeRead 1 = .ok (.getfield 83, 3) := by decide +kernel
theorem d_S_takeRead_4 : decode b_S_takeRead 4 = .ok (.iload_n 2, 1) := by decide +kernel
theorem d_S_takeRead_5 : decode b_S_takeRead 5 = .ok (.iaload, 1) := by decide +kernel
theorem d_S_takeRead_6 : decode b_S_takeRead 6 = .ok (.istore_n 3, 1) := by decide +kernel
theorem d_S_takeRead_7 : decode b_S_takeRead 7 = .ok (.aload_n 1, 1) := by decide +kernel
theorem d_S_takeRead_8 : decode b_S_takeRead 8 = .ok (.getfield 86, 3) := by decide +kernel
theorem d_S_takeRead_11 : decode b_S_takeRead 11 = .ok (.iload_n 2, 1) := by decide +kernel
theorem d_S_takeRead_12 : decode b_S_takeRead 12 = .ok (.iaload, 1) := by decide +kernel
theorem d_S_takeRead_13 : decode b_S_takeRead 13 = .ok (.iconst (-1), 1) := by decide +kernel
theorem d_S_takeRead_14 : decode b_S_takeRead 14 = .ok (.if_icmp .eq 32, 3) := by decide +kernel
theorem d_S_takeRead_17 : decode b_S_takeRead 17 = .ok (.aload_n 0, 1) := by decide +kernel
theorem d_S_takeRead_18 : decode b_S_takeRead 18 = .ok (.aload_n 0, 1) := by decide +kernel
theorem d_S_takeRead_19 : decode b_S_takeRead 19 = .ok (.getfield 27, 3) := by decide +kernel
theorem d_S_takeRead_22 : decode b_S_takeRead 22 = .ok (.ifCond .eq 17, 3) := by decide +kernel
theorem d_S_takeRead_25 : decode b_S_takeRead 25 = .ok (.iload_n 3, 1) := by decide +kernel
theorem d_S_takeRead_26 : decode b_S_takeRead 26 = .ok (.aload_n 1, 1) := by decide +kernel
theorem d_S_takeRead_27 : decode b_S_takeRead 27 = .ok (.getfield 86, 3) := by decide +kernel
theorem d_S_takeRead_30 : decode b_S_takeRead 30 = .ok (.iload_n 2, 1) := by decide +kernel
theorem d_S_takeRead_31 : decode b_S_takeRead 31 = .ok (.iaload, 1) := by decide +kernel
theorem d_S_takeRead_32 : decode b_S_takeRead 32 = .ok (.if_icmp .ne 7, 3) := by decide +kernel
theorem d_S_takeRead_35 : decode b_S_takeRead 35 = .ok (.iconst 1, 1) := by decide +kernel
theorem d_S_takeRead_36 : decode b_S_takeRead 36 = .ok (.goto 4, 3) := by decide +kernel
theorem d_S_takeRead_39 : decode b_S_takeRead 39 = .ok (.iconst 0, 1) := by decide +kernel
theorem d_S_takeRead_40 : decode b_S_takeRead 40 = .ok (.putfield 27, 3) := by decide +kernel
theorem d_S_takeRead_43 : decode b_S_takeRead 43 = .ok (.goto 69, 3) := by decide +kernel
theorem d_S_takeRead_46 : decode b_S_takeRead 46 = .ok (.iload_n 3, 1) := by decide +kernel
theorem d_S_takeRead_47 : decode b_S_takeRead 47 = .ok (.iconst (-1), 1) := by decide +kernel
theorem d_S_takeRead_48 : decode b_S_takeRead 48 = .ok (.if_icmp .ne 23, 3) := by decide +kernel
theorem d_S_takeRead_51 : decode b_S_takeRead 51 = .ok (.aload_n 0, 1) := by decide +kernel
theorem d_S_takeRead_52 : decode b_S_takeRead 52 = .ok (.aload_n 1, 1) := by decide +kernel
theorem d_S_takeRead_53 : decode b_S_takeRead 53 = .ok (.aload_n 1, 1) := by decide +kernel
theorem d_S_takeRead_54 : decode b_S_takeRead 54 = .ok (.getfield 73, 3) := by decide +kernel
theorem d_S_takeRead_57 : decode b_S_takeRead 57 = .ok (.iload_n 2, 1) := by decide +kernel
theorem d_S_takeRead_58 : decode b_S_takeRead 58 = .ok (.iaload, 1) := by decide +kernel
theorem d_S_takeRead_59 : decode b_S_takeRead 59 = .ok (.aload_n 1, 1) := by decide +kernel
theorem d_S_takeRead_60 : decode b_S_takeRead 60 = .ok (.getfield 89, 3) := by decide +kernel
theorem d_S_takeRead_63 : decode b_S_takeRead 63 = .ok (.iload_n 2, 1) := by decide +kernel
theorem d_S_takeRead_64 : decode b_S_takeRead 64 = .ok (.iaload, 1) := by decide +kernel
theorem d_S_takeRead_65 : decode b_S_takeRead 65 = .ok (.invokevirtual 92, 3) := by decide +kernel
theorem d_S_takeRead_68 : decode b_S_takeRead 68 = .ok (.goto 44, 3) := by decide +kernel
theorem d_S_takeRead_71 : decode b_S_takeRead 71 = .ok (.aload_n 1, 1) := by decide +kernel
theorem d_S_takeRead_72 : decode b_S_takeRead 72 = .ok (.aload_n 1, 1) := by decide +kernel
theorem d_S_takeRead_73 : decode b_S_takeRead 73 = .ok (.getfield 96, 3) := by decide +kernel
theorem d_S_takeRead_76 : decode b_S_takeRead 76 = .ok (.iload_n 3, 1) := by decide +kernel
theorem d_S_takeRead_77 : decode b_S_takeRead 77 = .ok (.iaload, 1) := by decide +kernel
theorem d_S_takeRead_78 : decode b_S_takeRead 78 = .ok (.invokevirtual 76, 3) := by decide +kernel
theorem d_S_takeRead_81 : decode b_S_takeRead 81 = .ok (.ifCond .eq 26, 3) := by decide +kernel
theorem d_S_takeRead_84 : decode b_S_takeRead 84 = .ok (.aload_n 1, 1) := by decide +kernel
theorem d_S_takeRead_85 : decode b_S_takeRead 85 = .ok (.iload_n 3, 1) := by decide +kernel
theorem d_S_takeRead_86 : decode b_S_takeRead 86 = .ok (.invokevirtual 99, 3) := by decide +kernel
theorem d_S_takeRead_89 : decode b_S_takeRead 89 = .ok (.ifCond .eq 18, 3) := by decide +kernel
theorem d_S_takeRead_92 : decode b_S_takeRead 92 = .ok (.aload_n 0, 1) := by decide +kernel
theorem d_S_takeRead_93 : decode b_S_takeRead 93 = .ok (.aload_n 1, 1) := by decide +kernel
theorem d_S_takeRead_94 : decode b_S_takeRead 94 = .ok (.iload_n 2, 1) := by decide +kernel
theorem d_S_takeRead_95 : decode b_S_takeRead 95 = .ok (.aload_n 1, 1) := by decide +kernel
theorem d_S_takeRead_96 : decode b_S_takeRead 96 = .ok (.getfield 96, 3) := by decide +kernel
theorem d_S_takeRead_99 : decode b_S_takeRead 99 = .ok (.iload_n 3, 1) := by decide +kernel
theorem d_S_takeRead_100 : decode b_S_takeRead 100 = .ok (.iaload, 1) := by decide +kernel
theorem d_S_takeRead_101 : decode b_S_takeRead 101 = .ok (.invokevirtual 102, 3) := by decide +kernel
theorem d_S_takeRead_104 : decode b_S_takeRead 104 = .ok (.goto 8, 3) := by decide +kernel
theorem d_S_takeRead_107 : decode b_S_takeRead 107 = .ok (.aload_n 0, 1) := by decide +kernel
theorem d_S_takeRead_108 : decode b_S_takeRead 108 = .ok (.iconst 0, 1) := by decide +kernel
theorem d_S_takeRead_109 : decode b_S_takeRead 109 = .ok (.putfield 27, 3) := by decide +kernel
theorem d_S_takeRead_112 : decode b_S_takeRead 112 = .ok (.return_, 1) := by decide +kernel
abbrev y_S_takeReads : MethodName := ⟨"HistoryJudge$SerialSearch", "takeReads", "(LHistoryJudge$History;)V"⟩
abbrev b_S_takeReads : ByteArray := prog_5_method_5_code
theorem d_S_takeReads_0 : decode b_S_takeReads 0 = .ok (.aload_n 0, 1) := by decide +kernel
theorem d_S_takeReads_1 : decode b_S_takeReads 1 = .ok (.aload_n 1, 1) := by decide +kernel
theorem d_S_takeReads_2 : decode b_S_takeReads 2 = .ok (.invokevirtual 58, 3) := by decide +kernel
theorem d_S_takeReads_5 : decode b_S_takeReads 5 = .ok (.putfield 31, 3) := by decide +kernel
theorem d_S_takeReads_8 : decode b_S_takeReads 8 = .ok (.aload_n 0, 1) := by decide +kernel
theorem d_S_takeReads_9 : decode b_S_takeReads 9 = .ok (.iconst 1, 1) := by decide +kernel
theorem d_S_takeReads_10 : decode b_S_takeReads 10 = .ok (.putfield 27, 3) := by decide +kernel
theorem d_S_takeReads_13 : decode b_S_takeReads 13 = .ok (.aload_n 0, 1) := by decide +kernel
theorem d_S_takeReads_14 : decode b_S_takeReads 14 = .ok (.getfield 9, 3) := by decide +kernel
theorem d_S_takeReads_17 : decode b_S_takeReads 17 = .ok (.iconst 0, 1) := by decide +kernel
theorem d_S_takeReads_18 : decode b_S_takeReads 18 = .ok (.invokestatic 64, 3) := by decide +kernel
theorem d_S_takeReads_21 : decode b_S_takeReads 21 = .ok (.iconst 0, 1) := by decide +kernel
theorem d_S_takeReads_22 : decode b_S_takeReads 22 = .ok (.istore_n 2, 1) := by decide +kernel
theorem d_S_takeReads_23 : decode b_S_takeReads 23 = .ok (.iload_n 2, 1) := by decide +kernel
theorem d_S_takeReads_24 : decode b_S_takeReads 24 = .ok (.bipush 8, 2) := by decide +kernel
theorem d_S_takeReads_26 : decode b_S_takeReads 26 = .ok (.if_icmp .ge 19, 3) := by decide +kernel
theorem d_S_takeReads_29 : decode b_S_takeReads 29 = .ok (.aload_n 0, 1) := by decide +kernel
theorem d_S_takeReads_30 : decode b_S_takeReads 30 = .ok (.getfield 17, 3) := by decide +kernel
theorem d_S_takeReads_33 : decode b_S_takeReads 33 = .ok (.iload_n 2, 1) := by decide +kernel
theorem d_S_takeReads_34 : decode b_S_takeReads 34 = .ok (.aaload, 1) := by decide +kernel
theorem d_S_takeReads_35 : decode b_S_takeReads 35 = .ok (.iconst 0, 1) := by decide +kernel
theorem d_S_takeReads_36 : decode b_S_takeReads 36 = .ok (.invokestatic 64, 3) := by decide +kernel
theorem d_S_takeReads_39 : decode b_S_takeReads 39 = .ok (.iinc 2 1, 3) := by decide +kernel
theorem d_S_takeReads_42 : decode b_S_takeReads 42 = .ok (.goto (-19), 3) := by decide +kernel
theorem d_S_takeReads_45 : decode b_S_takeReads 45 = .ok (.iconst 0, 1) := by decide +kernel
theorem d_S_takeReads_46 : decode b_S_takeReads 46 = .ok (.istore_n 2, 1) := by decide +kernel
theorem d_S_takeReads_47 : decode b_S_takeReads 47 = .ok (.iload_n 2, 1) := by decide +kernel
theorem d_S_takeReads_48 : decode b_S_takeReads 48 = .ok (.aload_n 1, 1) := by decide +kernel
theorem d_S_takeReads_49 : decode b_S_takeReads 49 = .ok (.getfield 70, 3) := by decide +kernel
theorem d_S_takeReads_52 : decode b_S_takeReads 52 = .ok (.if_icmp .ge 28, 3) := by decide +kernel
theorem d_S_takeReads_55 : decode b_S_takeReads 55 = .ok (.aload_n 1, 1) := by decide +kernel
theorem d_S_takeReads_56 : decode b_S_takeReads 56 = .ok (.aload_n 1, 1) := by decide +kernel
theorem d_S_takeReads_57 : decode b_S_takeReads 57 = .ok (.getfield 73, 3) := by decide +kernel
theorem d_S_takeReads_60 : decode b_S_takeReads 60 = .ok (.iload_n 2, 1) := by decide +kernel
theorem d_S_takeReads_61 : decode b_S_takeReads 61 = .ok (.iaload, 1) := by decide +kernel
theorem d_S_takeReads_62 : decode b_S_takeReads 62 = .ok (.invokevirtual 76, 3) := by decide +kernel
theorem d_S_takeReads_65 : decode b_S_takeReads 65 = .ok (.ifCond .eq 9, 3) := by decide +kernel
theorem d_S_takeReads_68 : decode b_S_takeReads 68 = .ok (.aload_n 0, 1) := by decide +kernel
theorem d_S_takeReads_69 : decode b_S_takeReads 69 = .ok (.aload_n 1, 1) := by decide +kernel
theorem d_S_takeReads_70 : decode b_S_takeReads 70 = .ok (.iload_n 2, 1) := by decide +kernel
theorem d_S_takeReads_71 : decode b_S_takeReads 71 = .ok (.invokevirtual 79, 3) := by decide +kernel
theorem d_S_takeReads_74 : decode b_S_takeReads 74 = .ok (.iinc 2 1, 3) := by decide +kernel
theorem d_S_takeReads_77 : decode b_S_takeReads 77 = .ok (.goto (-30), 3) := by decide +kernel
theorem d_S_takeReads_80 : decode b_S_takeReads 80 = .ok (.return_, 1) := by decide +kernel
abbrev y_S_transactionAt : MethodName := ⟨"HistoryJudge$SerialSearch", "transactionAt", "(I)I"⟩
abbrev b_S_transactionAt : ByteArray := prog_5_method_4_code
theorem d_S_transactionAt_0 : decode b_S_transactionAt 0 = .ok (.aload_n 0, 1) := by decide +kernel
theorem d_S_transactionAt_1 : decode b_S_transactionAt 1 = .ok (.invokevirtual 43, 3) := by decide +kernel
theorem d_S_transactionAt_4 : decode b_S_transactionAt 4 = .ok (.ifCond .eq 18, 3) := by decide +kernel
theorem d_S_transactionAt_7 : decode b_S_transactionAt 7 = .ok (.iload_n 1, 1) := by decide +kernel
theorem d_S_transactionAt_8 : decode b_S_transactionAt 8 = .ok (.ifCond .lt 14, 3) := by decide +kernel
theorem d_S_transactionAt_11 : decode b_S_transactionAt 11 = .ok (.iload_n 1, 1) := by decide +kernel
theorem d_S_transactionAt_12 : decode b_S_transactionAt 12 = .ok (.aload_n 0, 1) := by decide +kernel
theorem d_S_transactionAt_13 : decode b_S_transactionAt 13 = .ok (.getfield 31, 3) := by decide +kernel
theorem d_S_transactionAt_16 : decode b_S_transactionAt 16 = .ok (.invokestatic 47, 3) := by decide +kernel
theorem d_S_transactionAt_19 : decode b_S_transactionAt 19 = .ok (.if_icmp .lt 5, 3) := by decide +kernel
theorem d_S_transactionAt_22 : decode b_S_transactionAt 22 = .ok (.iconst (-1), 1) := by decide +kernel
theorem d_S_transactionAt_23 : decode b_S_transactionAt 23 = .ok (.ireturn, 1) := by decide +kernel
theorem d_S_transactionAt_24 : decode b_S_transactionAt 24 = .ok (.iconst 0, 1) := by decide +kernel
theorem d_S_transactionAt_25 : decode b_S_transactionAt 25 = .ok (.istore_n 2, 1) := by decide +kernel
theorem d_S_transactionAt_26 : decode b_S_transactionAt 26 = .ok (.iconst 0, 1) := by decide +kernel
theorem d_S_transactionAt_27 : decode b_S_transactionAt 27 = .ok (.istore_n 3, 1) := by decide +kernel
theorem d_S_transactionAt_28 : decode b_S_transactionAt 28 = .ok (.iload_n 3, 1) := by decide +kernel
theorem d_S_transactionAt_29 : decode b_S_transactionAt 29 = .ok (.iload_n 1, 1) := by decide +kernel
theorem d_S_transactionAt_30 : decode b_S_transactionAt 30 = .ok (.if_icmp .ge 24, 3) := by decide +kernel
theorem d_S_transactionAt_33 : decode b_S_transactionAt 33 = .ok (.iload_n 2, 1) := by decide +kernel
theorem d_S_transactionAt_34 : decode b_S_transactionAt 34 = .ok (.aload_n 0, 1) := by decide +kernel
theorem d_S_transactionAt_35 : decode b_S_transactionAt 35 = .ok (.getfield 20, 3) := by decide +kernel
theorem d_S_transactionAt_38 : decode b_S_transactionAt 38 = .ok (.iload_n 2, 1) := by decide +kernel
theorem d_S_transactionAt_39 : decode b_S_transactionAt 39 = .ok (.iaload, 1) := by decide +kernel
theorem d_S_transactionAt_40 : decode b_S_transactionAt 40 = .ok (.invokestatic 52, 3) := by decide +kernel
theorem d_S_transactionAt_43 : decode b_S_transactionAt 43 = .ok (.invokestatic 55, 3) := by decide +kernel
theorem d_S_transactionAt_46 : decode b_S_transactionAt 46 = .ok (.ior, 1) := by decide +kernel
theorem d_S_transactionAt_47 : decode b_S_transactionAt 47 = .ok (.istore_n 2, 1) := by decide +kernel
theorem d_S_transactionAt_48 : decode b_S_transactionAt 48 = .ok (.iinc 3 1, 3) := by decide +kernel
theorem d_S_transactionAt_51 : decode b_S_transactionAt 51 = .ok (.goto (-23), 3) := by decide +kernel
theorem d_S_transactionAt_54 : decode b_S_transactionAt 54 = .ok (.aload_n 0, 1) := by decide +kernel
theorem d_S_transactionAt_55 : decode b_S_transactionAt 55 = .ok (.getfield 20, 3) := by decide +kernel
theorem d_S_transactionAt_58 : decode b_S_transactionAt 58 = .ok (.iload_n 2, 1) := by decide +kernel
theorem d_S_transactionAt_59 : decode b_S_transactionAt 59 = .ok (.iaload, 1) := by decide +kernel
theorem d_S_transactionAt_60 : decode b_S_transactionAt 60 = .ok (.invokestatic 52, 3) := by decide +kernel
theorem d_S_transactionAt_63 : decode b_S_transactionAt 63 = .ok (.ireturn, 1) := by decide +kernel
