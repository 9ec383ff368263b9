/-! what stands at each place of the code (printed by program) -/
theorem d_M_init_0 : decode b_M_init 0 = .ok (.aload_n 0, 1) := by decide +kernel
theorem d_M_init_1 : decode b_M_init 1 = .ok (.invokespecial 1, 3) := by decide +kernel
theorem d_M_init_4 : decode b_M_init 4 = .ok (.aload_n 0, 1) := by decide +kernel
theorem d_M_init_5 : decode b_M_init 5 = .ok (.sipush 334, 3) := by decide +kernel
theorem d_M_init_8 : decode b_M_init 8 = .ok (.newarray .long, 2) := by decide +kernel
theorem d_M_init_10 : decode b_M_init 10 = .ok (.putfield 7, 3) := by decide +kernel
theorem d_M_init_13 : decode b_M_init 13 = .ok (.aload_n 0, 1) := by decide +kernel
theorem d_M_init_14 : decode b_M_init 14 = .ok (.sipush 1336, 3) := by decide +kernel
theorem d_M_init_17 : decode b_M_init 17 = .ok (.newarray .long, 2) := by decide +kernel
theorem d_M_init_19 : decode b_M_init 19 = .ok (.putfield 13, 3) := by decide +kernel
theorem d_M_init_22 : decode b_M_init 22 = .ok (.aload_n 0, 1) := by decide +kernel
theorem d_M_init_23 : decode b_M_init 23 = .ok (.iconst 4, 1) := by decide +kernel
theorem d_M_init_24 : decode b_M_init 24 = .ok (.newarray .boolean, 2) := by decide +kernel
theorem d_M_init_26 : decode b_M_init 26 = .ok (.putfield 16, 3) := by decide +kernel
theorem d_M_init_29 : decode b_M_init 29 = .ok (.aload_n 0, 1) := by decide +kernel
theorem d_M_init_30 : decode b_M_init 30 = .ok (.sipush 132, 3) := by decide +kernel
theorem d_M_init_33 : decode b_M_init 33 = .ok (.newarray .long, 2) := by decide +kernel
theorem d_M_init_35 : decode b_M_init 35 = .ok (.putfield 20, 3) := by decide +kernel
theorem d_M_init_38 : decode b_M_init 38 = .ok (.aload_n 0, 1) := by decide +kernel
theorem d_M_init_39 : decode b_M_init 39 = .ok (.sipush 128, 3) := by decide +kernel
theorem d_M_init_42 : decode b_M_init 42 = .ok (.newarray .long, 2) := by decide +kernel
theorem d_M_init_44 : decode b_M_init 44 = .ok (.putfield 23, 3) := by decide +kernel
theorem d_M_init_47 : decode b_M_init 47 = .ok (.aload_n 0, 1) := by decide +kernel
theorem d_M_init_48 : decode b_M_init 48 = .ok (.bipush 9, 2) := by decide +kernel
theorem d_M_init_50 : decode b_M_init 50 = .ok (.newarray .long, 2) := by decide +kernel
theorem d_M_init_52 : decode b_M_init 52 = .ok (.putfield 26, 3) := by decide +kernel
theorem d_M_init_55 : decode b_M_init 55 = .ok (.aload_n 0, 1) := by decide +kernel
theorem d_M_init_56 : decode b_M_init 56 = .ok (.bipush 63, 2) := by decide +kernel
theorem d_M_init_58 : decode b_M_init 58 = .ok (.newarray .long, 2) := by decide +kernel
theorem d_M_init_60 : decode b_M_init 60 = .ok (.putfield 29, 3) := by decide +kernel
theorem d_M_init_63 : decode b_M_init 63 = .ok (.aload_n 0, 1) := by decide +kernel
theorem d_M_init_64 : decode b_M_init 64 = .ok (.getfield 7, 3) := by decide +kernel
theorem d_M_init_67 : decode b_M_init 67 = .ok (.iconst 1, 1) := by decide +kernel
theorem d_M_init_68 : decode b_M_init 68 = .ok (.ldc2_w 32, 3) := by decide +kernel
theorem d_M_init_71 : decode b_M_init 71 = .ok (.lastore, 1) := by decide +kernel
theorem d_M_init_72 : decode b_M_init 72 = .ok (.aload_n 0, 1) := by decide +kernel
theorem d_M_init_73 : decode b_M_init 73 = .ok (.bipush 8, 2) := by decide +kernel
theorem d_M_init_75 : decode b_M_init 75 = .ok (.iconst 1, 1) := by decide +kernel
theorem d_M_init_76 : decode b_M_init 76 = .ok (.iconst 1, 1) := by decide +kernel
theorem d_M_init_77 : decode b_M_init 77 = .ok (.invokevirtual 34, 3) := by decide +kernel
theorem d_M_init_80 : decode b_M_init 80 = .ok (.return_, 1) := by decide +kernel
theorem d_M_thrown_0 : decode b_M_thrown 0 = .ok (.aload_n 0, 1) := by decide +kernel
theorem d_M_thrown_1 : decode b_M_thrown 1 = .ok (.getfield 38, 3) := by decide +kernel
theorem d_M_thrown_4 : decode b_M_thrown 4 = .ok (.ireturn, 1) := by decide +kernel
theorem d_M_in_0 : decode b_M_in 0 = .ok (.lload_n 0, 1) := by decide +kernel
theorem d_M_in_1 : decode b_M_in 1 = .ok (.lload_n 2, 1) := by decide +kernel
theorem d_M_in_2 : decode b_M_in 2 = .ok (.lcmp, 1) := by decide +kernel
theorem d_M_in_3 : decode b_M_in 3 = .ok (.ifCond .lt 14, 3) := by decide +kernel
theorem d_M_in_6 : decode b_M_in 6 = .ok (.lload_n 0, 1) := by decide +kernel
theorem d_M_in_7 : decode b_M_in 7 = .ok (.lload 4, 2) := by decide +kernel
theorem d_M_in_9 : decode b_M_in 9 = .ok (.lcmp, 1) := by decide +kernel
theorem d_M_in_10 : decode b_M_in 10 = .ok (.ifCond .gt 7, 3) := by decide +kernel
theorem d_M_in_13 : decode b_M_in 13 = .ok (.iconst 1, 1) := by decide +kernel
theorem d_M_in_14 : decode b_M_in 14 = .ok (.goto 4, 3) := by decide +kernel
theorem d_M_in_17 : decode b_M_in 17 = .ok (.iconst 0, 1) := by decide +kernel
theorem d_M_in_18 : decode b_M_in 18 = .ok (.ireturn, 1) := by decide +kernel
theorem d_M_down_0 : decode b_M_down 0 = .ok (.lload_n 0, 1) := by decide +kernel
theorem d_M_down_1 : decode b_M_down 1 = .ok (.lload_n 2, 1) := by decide +kernel
theorem d_M_down_2 : decode b_M_down 2 = .ok (.ldiv, 1) := by decide +kernel
theorem d_M_down_3 : decode b_M_down 3 = .ok (.lstore 4, 2) := by decide +kernel
theorem d_M_down_5 : decode b_M_down 5 = .ok (.lload_n 0, 1) := by decide +kernel
theorem d_M_down_6 : decode b_M_down 6 = .ok (.lload_n 2, 1) := by decide +kernel
theorem d_M_down_7 : decode b_M_down 7 = .ok (.lrem, 1) := by decide +kernel
theorem d_M_down_8 : decode b_M_down 8 = .ok (.lconst 0, 1) := by decide +kernel
theorem d_M_down_9 : decode b_M_down 9 = .ok (.lcmp, 1) := by decide +kernel
theorem d_M_down_10 : decode b_M_down 10 = .ok (.ifCond .eq 35, 3) := by decide +kernel
theorem d_M_down_13 : decode b_M_down 13 = .ok (.lload_n 0, 1) := by decide +kernel
theorem d_M_down_14 : decode b_M_down 14 = .ok (.lconst 0, 1) := by decide +kernel
theorem d_M_down_15 : decode b_M_down 15 = .ok (.lcmp, 1) := by decide +kernel
theorem d_M_down_16 : decode b_M_down 16 = .ok (.ifCond .ge 7, 3) := by decide +kernel
theorem d_M_down_19 : decode b_M_down 19 = .ok (.iconst 1, 1) := by decide +kernel
theorem d_M_down_20 : decode b_M_down 20 = .ok (.goto 4, 3) := by decide +kernel
theorem d_M_down_23 : decode b_M_down 23 = .ok (.iconst 0, 1) := by decide +kernel
theorem d_M_down_24 : decode b_M_down 24 = .ok (.lload_n 2, 1) := by decide +kernel
theorem d_M_down_25 : decode b_M_down 25 = .ok (.lconst 0, 1) := by decide +kernel
theorem d_M_down_26 : decode b_M_down 26 = .ok (.lcmp, 1) := by decide +kernel
theorem d_M_down_27 : decode b_M_down 27 = .ok (.ifCond .ge 7, 3) := by decide +kernel
theorem d_M_down_30 : decode b_M_down 30 = .ok (.iconst 1, 1) := by decide +kernel
theorem d_M_down_31 : decode b_M_down 31 = .ok (.goto 4, 3) := by decide +kernel
theorem d_M_down_34 : decode b_M_down 34 = .ok (.iconst 0, 1) := by decide +kernel
theorem d_M_down_35 : decode b_M_down 35 = .ok (.if_icmp .eq 10, 3) := by decide +kernel
theorem d_M_down_38 : decode b_M_down 38 = .ok (.lload 4, 2) := by decide +kernel
theorem d_M_down_40 : decode b_M_down 40 = .ok (.lconst 1, 1) := by decide +kernel
theorem d_M_down_41 : decode b_M_down 41 = .ok (.lsub, 1) := by decide +kernel
theorem d_M_down_42 : decode b_M_down 42 = .ok (.goto 5, 3) := by decide +kernel
theorem d_M_down_45 : decode b_M_down 45 = .ok (.lload 4, 2) := by decide +kernel
theorem d_M_down_47 : decode b_M_down 47 = .ok (.lreturn, 1) := by decide +kernel
theorem d_M_size_0 : decode b_M_size 0 = .ok (.lload_n 0, 1) := by decide +kernel
theorem d_M_size_1 : decode b_M_size 1 = .ok (.lconst 0, 1) := by decide +kernel
theorem d_M_size_2 : decode b_M_size 2 = .ok (.lcmp, 1) := by decide +kernel
theorem d_M_size_3 : decode b_M_size 3 = .ok (.ifCond .ge 8, 3) := by decide +kernel
theorem d_M_size_6 : decode b_M_size 6 = .ok (.lload_n 0, 1) := by decide +kernel
theorem d_M_size_7 : decode b_M_size 7 = .ok (.lneg, 1) := by decide +kernel
theorem d_M_size_8 : decode b_M_size 8 = .ok (.goto 4, 3) := by decide +kernel
theorem d_M_size_11 : decode b_M_size 11 = .ok (.lload_n 0, 1) := by decide +kernel
theorem d_M_size_12 : decode b_M_size 12 = .ok (.lreturn, 1) := by decide +kernel
theorem d_M_root_0 : decode b_M_root 0 = .ok (.lconst 0, 1) := by decide +kernel
theorem d_M_root_1 : decode b_M_root 1 = .ok (.lstore_n 2, 1) := by decide +kernel
theorem d_M_root_2 : decode b_M_root 2 = .ok (.ldc2_w 42, 3) := by decide +kernel
theorem d_M_root_5 : decode b_M_root 5 = .ok (.lstore 4, 2) := by decide +kernel
theorem d_M_root_7 : decode b_M_root 7 = .ok (.lload_n 2, 1) := by decide +kernel
theorem d_M_root_8 : decode b_M_root 8 = .ok (.lload 4, 2) := by decide +kernel
theorem d_M_root_10 : decode b_M_root 10 = .ok (.lcmp, 1) := by decide +kernel
theorem d_M_root_11 : decode b_M_root 11 = .ok (.ifCond .ge 40, 3) := by decide +kernel
theorem d_M_root_14 : decode b_M_root 14 = .ok (.lload_n 2, 1) := by decide +kernel
theorem d_M_root_15 : decode b_M_root 15 = .ok (.lload 4, 2) := by decide +kernel
theorem d_M_root_17 : decode b_M_root 17 = .ok (.ladd, 1) := by decide +kernel
theorem d_M_root_18 : decode b_M_root 18 = .ok (.lconst 1, 1) := by decide +kernel
theorem d_M_root_19 : decode b_M_root 19 = .ok (.ladd, 1) := by decide +kernel
theorem d_M_root_20 : decode b_M_root 20 = .ok (.ldc2_w 44, 3) := by decide +kernel
theorem d_M_root_23 : decode b_M_root 23 = .ok (.ldiv, 1) := by decide +kernel
theorem d_M_root_24 : decode b_M_root 24 = .ok (.lstore 6, 2) := by decide +kernel
theorem d_M_root_26 : decode b_M_root 26 = .ok (.lload 6, 2) := by decide +kernel
theorem d_M_root_28 : decode b_M_root 28 = .ok (.lload 6, 2) := by decide +kernel
theorem d_M_root_30 : decode b_M_root 30 = .ok (.lmul, 1) := by decide +kernel
theorem d_M_root_31 : decode b_M_root 31 = .ok (.lload_n 0, 1) := by decide +kernel
theorem d_M_root_32 : decode b_M_root 32 = .ok (.lcmp, 1) := by decide +kernel
theorem d_M_root_33 : decode b_M_root 33 = .ok (.ifCond .gt 9, 3) := by decide +kernel
theorem d_M_root_36 : decode b_M_root 36 = .ok (.lload 6, 2) := by decide +kernel
theorem d_M_root_38 : decode b_M_root 38 = .ok (.lstore_n 2, 1) := by decide +kernel
theorem d_M_root_39 : decode b_M_root 39 = .ok (.goto 9, 3) := by decide +kernel
theorem d_M_root_42 : decode b_M_root 42 = .ok (.lload 6, 2) := by decide +kernel
theorem d_M_root_44 : decode b_M_root 44 = .ok (.lconst 1, 1) := by decide +kernel
theorem d_M_root_45 : decode b_M_root 45 = .ok (.lsub, 1) := by decide +kernel
theorem d_M_root_46 : decode b_M_root 46 = .ok (.lstore 4, 2) := by decide +kernel
theorem d_M_root_48 : decode b_M_root 48 = .ok (.goto (-41), 3) := by decide +kernel
theorem d_M_root_51 : decode b_M_root 51 = .ok (.lload_n 2, 1) := by decide +kernel
theorem d_M_root_52 : decode b_M_root 52 = .ok (.lreturn, 1) := by decide +kernel
theorem d_M_shapes_0 : decode b_M_shapes 0 = .ok (.aload_n 0, 1) := by decide +kernel
theorem d_M_shapes_1 : decode b_M_shapes 1 = .ok (.getfield 7, 3) := by decide +kernel
theorem d_M_shapes_4 : decode b_M_shapes 4 = .ok (.iconst 4, 1) := by decide +kernel
theorem d_M_shapes_5 : decode b_M_shapes 5 = .ok (.iload_n 1, 1) := by decide +kernel
theorem d_M_shapes_6 : decode b_M_shapes 6 = .ok (.i2l, 1) := by decide +kernel
theorem d_M_shapes_7 : decode b_M_shapes 7 = .ok (.lastore, 1) := by decide +kernel
theorem d_M_shapes_8 : decode b_M_shapes 8 = .ok (.aload_n 0, 1) := by decide +kernel
theorem d_M_shapes_9 : decode b_M_shapes 9 = .ok (.getfield 7, 3) := by decide +kernel
theorem d_M_shapes_12 : decode b_M_shapes 12 = .ok (.iconst 5, 1) := by decide +kernel
theorem d_M_shapes_13 : decode b_M_shapes 13 = .ok (.iload_n 2, 1) := by decide +kernel
theorem d_M_shapes_14 : decode b_M_shapes 14 = .ok (.i2l, 1) := by decide +kernel
theorem d_M_shapes_15 : decode b_M_shapes 15 = .ok (.lastore, 1) := by decide +kernel
theorem d_M_shapes_16 : decode b_M_shapes 16 = .ok (.aload_n 0, 1) := by decide +kernel
theorem d_M_shapes_17 : decode b_M_shapes 17 = .ok (.getfield 7, 3) := by decide +kernel
theorem d_M_shapes_20 : decode b_M_shapes 20 = .ok (.bipush 6, 2) := by decide +kernel
theorem d_M_shapes_22 : decode b_M_shapes 22 = .ok (.iload_n 3, 1) := by decide +kernel
theorem d_M_shapes_23 : decode b_M_shapes 23 = .ok (.i2l, 1) := by decide +kernel
theorem d_M_shapes_24 : decode b_M_shapes 24 = .ok (.lastore, 1) := by decide +kernel
theorem d_M_shapes_25 : decode b_M_shapes 25 = .ok (.aload_n 0, 1) := by decide +kernel
theorem d_M_shapes_26 : decode b_M_shapes 26 = .ok (.getfield 7, 3) := by decide +kernel
theorem d_M_shapes_29 : decode b_M_shapes 29 = .ok (.bipush 7, 2) := by decide +kernel
theorem d_M_shapes_31 : decode b_M_shapes 31 = .ok (.lconst 0, 1) := by decide +kernel
theorem d_M_shapes_32 : decode b_M_shapes 32 = .ok (.lastore, 1) := by decide +kernel
theorem d_M_shapes_33 : decode b_M_shapes 33 = .ok (.iconst 0, 1) := by decide +kernel
theorem d_M_shapes_34 : decode b_M_shapes 34 = .ok (.istore 4, 2) := by decide +kernel
theorem d_M_shapes_36 : decode b_M_shapes 36 = .ok (.iload 4, 2) := by decide +kernel
theorem d_M_shapes_38 : decode b_M_shapes 38 = .ok (.bipush 32, 2) := by decide +kernel
theorem d_M_shapes_40 : decode b_M_shapes 40 = .ok (.if_icmp .ge 81, 3) := by decide +kernel
theorem d_M_shapes_43 : decode b_M_shapes 43 = .ok (.aload_n 0, 1) := by decide +kernel
theorem d_M_shapes_44 : decode b_M_shapes 44 = .ok (.getfield 7, 3) := by decide +kernel
theorem d_M_shapes_47 : decode b_M_shapes 47 = .ok (.bipush 8, 2) := by decide +kernel
theorem d_M_shapes_49 : decode b_M_shapes 49 = .ok (.iload 4, 2) := by decide +kernel
theorem d_M_shapes_51 : decode b_M_shapes 51 = .ok (.iadd, 1) := by decide +kernel
theorem d_M_shapes_52 : decode b_M_shapes 52 = .ok (.ldc2_w 46, 3) := by decide +kernel
theorem d_M_shapes_55 : decode b_M_shapes 55 = .ok (.lastore, 1) := by decide +kernel
theorem d_M_shapes_56 : decode b_M_shapes 56 = .ok (.aload_n 0, 1) := by decide +kernel
theorem d_M_shapes_57 : decode b_M_shapes 57 = .ok (.getfield 7, 3) := by decide +kernel
theorem d_M_shapes_60 : decode b_M_shapes 60 = .ok (.bipush 40, 2) := by decide +kernel
theorem d_M_shapes_62 : decode b_M_shapes 62 = .ok (.iload 4, 2) := by decide +kernel
theorem d_M_shapes_64 : decode b_M_shapes 64 = .ok (.iadd, 1) := by decide +kernel
theorem d_M_shapes_65 : decode b_M_shapes 65 = .ok (.lconst 0, 1) := by decide +kernel
theorem d_M_shapes_66 : decode b_M_shapes 66 = .ok (.lastore, 1) := by decide +kernel
theorem d_M_shapes_67 : decode b_M_shapes 67 = .ok (.aload_n 0, 1) := by decide +kernel
theorem d_M_shapes_68 : decode b_M_shapes 68 = .ok (.getfield 7, 3) := by decide +kernel
theorem d_M_shapes_71 : decode b_M_shapes 71 = .ok (.bipush 72, 2) := by decide +kernel
theorem d_M_shapes_73 : decode b_M_shapes 73 = .ok (.iload 4, 2) := by decide +kernel
theorem d_M_shapes_75 : decode b_M_shapes 75 = .ok (.iadd, 1) := by decide +kernel
theorem d_M_shapes_76 : decode b_M_shapes 76 = .ok (.ldc2_w 48, 3) := by decide +kernel
theorem d_M_shapes_79 : decode b_M_shapes 79 = .ok (.lastore, 1) := by decide +kernel
theorem d_M_shapes_80 : decode b_M_shapes 80 = .ok (.aload_n 0, 1) := by decide +kernel
theorem d_M_shapes_81 : decode b_M_shapes 81 = .ok (.getfield 7, 3) := by decide +kernel
theorem d_M_shapes_84 : decode b_M_shapes 84 = .ok (.bipush 104, 2) := by decide +kernel
theorem d_M_shapes_86 : decode b_M_shapes 86 = .ok (.iload 4, 2) := by decide +kernel
theorem d_M_shapes_88 : decode b_M_shapes 88 = .ok (.iadd, 1) := by decide +kernel
theorem d_M_shapes_89 : decode b_M_shapes 89 = .ok (.lconst 0, 1) := by decide +kernel
theorem d_M_shapes_90 : decode b_M_shapes 90 = .ok (.lastore, 1) := by decide +kernel
theorem d_M_shapes_91 : decode b_M_shapes 91 = .ok (.aload_n 0, 1) := by decide +kernel
theorem d_M_shapes_92 : decode b_M_shapes 92 = .ok (.getfield 7, 3) := by decide +kernel
theorem d_M_shapes_95 : decode b_M_shapes 95 = .ok (.sipush 146, 3) := by decide +kernel
theorem d_M_shapes_98 : decode b_M_shapes 98 = .ok (.iload 4, 2) := by decide +kernel
theorem d_M_shapes_100 : decode b_M_shapes 100 = .ok (.iadd, 1) := by decide +kernel
theorem d_M_shapes_101 : decode b_M_shapes 101 = .ok (.lconst 0, 1) := by decide +kernel
theorem d_M_shapes_102 : decode b_M_shapes 102 = .ok (.lastore, 1) := by decide +kernel
theorem d_M_shapes_103 : decode b_M_shapes 103 = .ok (.aload_n 0, 1) := by decide +kernel
theorem d_M_shapes_104 : decode b_M_shapes 104 = .ok (.getfield 7, 3) := by decide +kernel
theorem d_M_shapes_107 : decode b_M_shapes 107 = .ok (.sipush 178, 3) := by decide +kernel
theorem d_M_shapes_110 : decode b_M_shapes 110 = .ok (.iload 4, 2) := by decide +kernel
theorem d_M_shapes_112 : decode b_M_shapes 112 = .ok (.iadd, 1) := by decide +kernel
theorem d_M_shapes_113 : decode b_M_shapes 113 = .ok (.lconst 0, 1) := by decide +kernel
theorem d_M_shapes_114 : decode b_M_shapes 114 = .ok (.lastore, 1) := by decide +kernel
theorem d_M_shapes_115 : decode b_M_shapes 115 = .ok (.iinc 4 1, 3) := by decide +kernel
theorem d_M_shapes_118 : decode b_M_shapes 118 = .ok (.goto (-82), 3) := by decide +kernel
theorem d_M_shapes_121 : decode b_M_shapes 121 = .ok (.iconst 0, 1) := by decide +kernel
theorem d_M_shapes_122 : decode b_M_shapes 122 = .ok (.istore 4, 2) := by decide +kernel
theorem d_M_shapes_124 : decode b_M_shapes 124 = .ok (.iload 4, 2) := by decide +kernel
theorem d_M_shapes_126 : decode b_M_shapes 126 = .ok (.bipush 6, 2) := by decide +kernel
theorem d_M_shapes_128 : decode b_M_shapes 128 = .ok (.if_icmp .ge 21, 3) := by decide +kernel
theorem d_M_shapes_131 : decode b_M_shapes 131 = .ok (.aload_n 0, 1) := by decide +kernel
theorem d_M_shapes_132 : decode b_M_shapes 132 = .ok (.getfield 7, 3) := by decide +kernel
theorem d_M_shapes_135 : decode b_M_shapes 135 = .ok (.sipush 136, 3) := by decide +kernel
theorem d_M_shapes_138 : decode b_M_shapes 138 = .ok (.iload 4, 2) := by decide +kernel
theorem d_M_shapes_140 : decode b_M_shapes 140 = .ok (.iadd, 1) := by decide +kernel
theorem d_M_shapes_141 : decode b_M_shapes 141 = .ok (.lconst 0, 1) := by decide +kernel
theorem d_M_shapes_142 : decode b_M_shapes 142 = .ok (.lastore, 1) := by decide +kernel
theorem d_M_shapes_143 : decode b_M_shapes 143 = .ok (.iinc 4 1, 3) := by decide +kernel
theorem d_M_shapes_146 : decode b_M_shapes 146 = .ok (.goto (-22), 3) := by decide +kernel
theorem d_M_shapes_149 : decode b_M_shapes 149 = .ok (.aload_n 0, 1) := by decide +kernel
theorem d_M_shapes_150 : decode b_M_shapes 150 = .ok (.getfield 7, 3) := by decide +kernel
theorem d_M_shapes_153 : decode b_M_shapes 153 = .ok (.sipush 142, 3) := by decide +kernel
theorem d_M_shapes_156 : decode b_M_shapes 156 = .ok (.ldc2_w 46, 3) := by decide +kernel
theorem d_M_shapes_159 : decode b_M_shapes 159 = .ok (.iload_n 1, 1) := by decide +kernel
theorem d_M_shapes_160 : decode b_M_shapes 160 = .ok (.i2l, 1) := by decide +kernel
theorem d_M_shapes_161 : decode b_M_shapes 161 = .ok (.lmul, 1) := by decide +kernel
theorem d_M_shapes_162 : decode b_M_shapes 162 = .ok (.lastore, 1) := by decide +kernel
theorem d_M_shapes_163 : decode b_M_shapes 163 = .ok (.aload_n 0, 1) := by decide +kernel
theorem d_M_shapes_164 : decode b_M_shapes 164 = .ok (.getfield 7, 3) := by decide +kernel
theorem d_M_shapes_167 : decode b_M_shapes 167 = .ok (.sipush 143, 3) := by decide +kernel
theorem d_M_shapes_170 : decode b_M_shapes 170 = .ok (.lconst 0, 1) := by decide +kernel
theorem d_M_shapes_171 : decode b_M_shapes 171 = .ok (.lastore, 1) := by decide +kernel
theorem d_M_shapes_172 : decode b_M_shapes 172 = .ok (.aload_n 0, 1) := by decide +kernel
theorem d_M_shapes_173 : decode b_M_shapes 173 = .ok (.getfield 7, 3) := by decide +kernel
theorem d_M_shapes_176 : decode b_M_shapes 176 = .ok (.sipush 144, 3) := by decide +kernel
theorem d_M_shapes_179 : decode b_M_shapes 179 = .ok (.ldc2_w 48, 3) := by decide +kernel
theorem d_M_shapes_182 : decode b_M_shapes 182 = .ok (.iload_n 1, 1) := by decide +kernel
theorem d_M_shapes_183 : decode b_M_shapes 183 = .ok (.i2l, 1) := by decide +kernel
theorem d_M_shapes_184 : decode b_M_shapes 184 = .ok (.lmul, 1) := by decide +kernel
theorem d_M_shapes_185 : decode b_M_shapes 185 = .ok (.lastore, 1) := by decide +kernel
theorem d_M_shapes_186 : decode b_M_shapes 186 = .ok (.aload_n 0, 1) := by decide +kernel
theorem d_M_shapes_187 : decode b_M_shapes 187 = .ok (.getfield 7, 3) := by decide +kernel
theorem d_M_shapes_190 : decode b_M_shapes 190 = .ok (.sipush 145, 3) := by decide +kernel
theorem d_M_shapes_193 : decode b_M_shapes 193 = .ok (.lconst 0, 1) := by decide +kernel
theorem d_M_shapes_194 : decode b_M_shapes 194 = .ok (.lastore, 1) := by decide +kernel
theorem d_M_shapes_195 : decode b_M_shapes 195 = .ok (.return_, 1) := by decide +kernel
theorem d_M_shape_0 : decode b_M_shape 0 = .ok (.aload_n 0, 1) := by decide +kernel
theorem d_M_shape_1 : decode b_M_shape 1 = .ok (.iload_n 1, 1) := by decide +kernel
theorem d_M_shape_2 : decode b_M_shape 2 = .ok (.i2l, 1) := by decide +kernel
theorem d_M_shape_3 : decode b_M_shape 3 = .ok (.ldc2_w 44, 3) := by decide +kernel
theorem d_M_shape_6 : decode b_M_shape 6 = .ok (.ldc2_w 50, 3) := by decide +kernel
theorem d_M_shape_9 : decode b_M_shape 9 = .ok (.invokestatic 52, 3) := by decide +kernel
theorem d_M_shape_12 : decode b_M_shape 12 = .ok (.ifCond .eq 27, 3) := by decide +kernel
theorem d_M_shape_15 : decode b_M_shape 15 = .ok (.iload_n 2, 1) := by decide +kernel
theorem d_M_shape_16 : decode b_M_shape 16 = .ok (.i2l, 1) := by decide +kernel
theorem d_M_shape_17 : decode b_M_shape 17 = .ok (.lconst 0, 1) := by decide +kernel
theorem d_M_shape_18 : decode b_M_shape 18 = .ok (.lconst 1, 1) := by decide +kernel
theorem d_M_shape_19 : decode b_M_shape 19 = .ok (.invokestatic 52, 3) := by decide +kernel
theorem d_M_shape_22 : decode b_M_shape 22 = .ok (.ifCond .eq 17, 3) := by decide +kernel
theorem d_M_shape_25 : decode b_M_shape 25 = .ok (.iload_n 3, 1) := by decide +kernel
theorem d_M_shape_26 : decode b_M_shape 26 = .ok (.i2l, 1) := by decide +kernel
theorem d_M_shape_27 : decode b_M_shape 27 = .ok (.lconst 0, 1) := by decide +kernel
theorem d_M_shape_28 : decode b_M_shape 28 = .ok (.lconst 1, 1) := by decide +kernel
theorem d_M_shape_29 : decode b_M_shape 29 = .ok (.invokestatic 52, 3) := by decide +kernel
theorem d_M_shape_32 : decode b_M_shape 32 = .ok (.ifCond .eq 7, 3) := by decide +kernel
theorem d_M_shape_35 : decode b_M_shape 35 = .ok (.iconst 0, 1) := by decide +kernel
theorem d_M_shape_36 : decode b_M_shape 36 = .ok (.goto 4, 3) := by decide +kernel
theorem d_M_shape_39 : decode b_M_shape 39 = .ok (.iconst 1, 1) := by decide +kernel
theorem d_M_shape_40 : decode b_M_shape 40 = .ok (.putfield 38, 3) := by decide +kernel
theorem d_M_shape_43 : decode b_M_shape 43 = .ok (.aload_n 0, 1) := by decide +kernel
theorem d_M_shape_44 : decode b_M_shape 44 = .ok (.getfield 38, 3) := by decide +kernel
theorem d_M_shape_47 : decode b_M_shape 47 = .ok (.ifCond .ne 10, 3) := by decide +kernel
theorem d_M_shape_50 : decode b_M_shape 50 = .ok (.aload_n 0, 1) := by decide +kernel
theorem d_M_shape_51 : decode b_M_shape 51 = .ok (.iload_n 1, 1) := by decide +kernel
theorem d_M_shape_52 : decode b_M_shape 52 = .ok (.iload_n 2, 1) := by decide +kernel
theorem d_M_shape_53 : decode b_M_shape 53 = .ok (.iload_n 3, 1) := by decide +kernel
theorem d_M_shape_54 : decode b_M_shape 54 = .ok (.invokevirtual 34, 3) := by decide +kernel
theorem d_M_shape_57 : decode b_M_shape 57 = .ok (.return_, 1) := by decide +kernel
theorem d_M_gas_0 : decode b_M_gas 0 = .ok (.aload_n 0, 1) := by decide +kernel
theorem d_M_gas_1 : decode b_M_gas 1 = .ok (.iload_n 1, 1) := by decide +kernel
theorem d_M_gas_2 : decode b_M_gas 2 = .ok (.i2l, 1) := by decide +kernel
theorem d_M_gas_3 : decode b_M_gas 3 = .ok (.lconst 0, 1) := by decide +kernel
theorem d_M_gas_4 : decode b_M_gas 4 = .ok (.ldc2_w 44, 3) := by decide +kernel
theorem d_M_gas_7 : decode b_M_gas 7 = .ok (.invokestatic 52, 3) := by decide +kernel
theorem d_M_gas_10 : decode b_M_gas 10 = .ok (.ifCond .eq 7, 3) := by decide +kernel
theorem d_M_gas_13 : decode b_M_gas 13 = .ok (.iconst 0, 1) := by decide +kernel
theorem d_M_gas_14 : decode b_M_gas 14 = .ok (.goto 4, 3) := by decide +kernel
theorem d_M_gas_17 : decode b_M_gas 17 = .ok (.iconst 1, 1) := by decide +kernel
theorem d_M_gas_18 : decode b_M_gas 18 = .ok (.putfield 38, 3) := by decide +kernel
theorem d_M_gas_21 : decode b_M_gas 21 = .ok (.aload_n 0, 1) := by decide +kernel
theorem d_M_gas_22 : decode b_M_gas 22 = .ok (.getfield 38, 3) := by decide +kernel
theorem d_M_gas_25 : decode b_M_gas 25 = .ok (.ifCond .ne 11, 3) := by decide +kernel
theorem d_M_gas_28 : decode b_M_gas 28 = .ok (.aload_n 0, 1) := by decide +kernel
theorem d_M_gas_29 : decode b_M_gas 29 = .ok (.getfield 7, 3) := by decide +kernel
theorem d_M_gas_32 : decode b_M_gas 32 = .ok (.iconst 0, 1) := by decide +kernel
theorem d_M_gas_33 : decode b_M_gas 33 = .ok (.iload_n 1, 1) := by decide +kernel
theorem d_M_gas_34 : decode b_M_gas 34 = .ok (.i2l, 1) := by decide +kernel
theorem d_M_gas_35 : decode b_M_gas 35 = .ok (.lastore, 1) := by decide +kernel
theorem d_M_gas_36 : decode b_M_gas 36 = .ok (.return_, 1) := by decide +kernel
theorem d_M_within_0 : decode b_M_within 0 = .ok (.lload 4, 2) := by decide +kernel
theorem d_M_within_2 : decode b_M_within 2 = .ok (.lload_n 2, 1) := by decide +kernel
theorem d_M_within_3 : decode b_M_within 3 = .ok (.lload_n 2, 1) := by decide +kernel
theorem d_M_within_4 : decode b_M_within 4 = .ok (.lmul, 1) := by decide +kernel
theorem d_M_within_5 : decode b_M_within 5 = .ok (.ldc2_w 44, 3) := by decide +kernel
theorem d_M_within_8 : decode b_M_within 8 = .ok (.lload_n 0, 1) := by decide +kernel
theorem d_M_within_9 : decode b_M_within 9 = .ok (.lmul, 1) := by decide +kernel
theorem d_M_within_10 : decode b_M_within 10 = .ok (.invokestatic 56, 3) := by decide +kernel
theorem d_M_within_13 : decode b_M_within 13 = .ok (.lsub, 1) := by decide +kernel
theorem d_M_within_14 : decode b_M_within 14 = .ok (.lreturn, 1) := by decide +kernel
theorem d_M_pressure_0 : decode b_M_pressure 0 = .ok (.lload_n 1, 1) := by decide +kernel
theorem d_M_pressure_1 : decode b_M_pressure 1 = .ok (.lload_n 3, 1) := by decide +kernel
theorem d_M_pressure_2 : decode b_M_pressure 2 = .ok (.lload 5, 2) := by decide +kernel
theorem d_M_pressure_4 : decode b_M_pressure 4 = .ok (.invokestatic 60, 3) := by decide +kernel
theorem d_M_pressure_7 : decode b_M_pressure 7 = .ok (.lstore 7, 2) := by decide +kernel
theorem d_M_pressure_9 : decode b_M_pressure 9 = .ok (.aload_n 0, 1) := by decide +kernel
theorem d_M_pressure_10 : decode b_M_pressure 10 = .ok (.getfield 7, 3) := by decide +kernel
theorem d_M_pressure_13 : decode b_M_pressure 13 = .ok (.iconst 0, 1) := by decide +kernel
theorem d_M_pressure_14 : decode b_M_pressure 14 = .ok (.laload, 1) := by decide +kernel
theorem d_M_pressure_15 : decode b_M_pressure 15 = .ok (.lconst 0, 1) := by decide +kernel
theorem d_M_pressure_16 : decode b_M_pressure 16 = .ok (.lcmp, 1) := by decide +kernel
theorem d_M_pressure_17 : decode b_M_pressure 17 = .ok (.ifCond .ne 18, 3) := by decide +kernel
theorem d_M_pressure_20 : decode b_M_pressure 20 = .ok (.ldc2_w 44, 3) := by decide +kernel
theorem d_M_pressure_23 : decode b_M_pressure 23 = .ok (.lload 7, 2) := by decide +kernel
theorem d_M_pressure_25 : decode b_M_pressure 25 = .ok (.lmul, 1) := by decide +kernel
theorem d_M_pressure_26 : decode b_M_pressure 26 = .ok (.ldc2_w 64, 3) := by decide +kernel
theorem d_M_pressure_29 : decode b_M_pressure 29 = .ok (.invokestatic 56, 3) := by decide +kernel
theorem d_M_pressure_32 : decode b_M_pressure 32 = .ok (.goto 37, 3) := by decide +kernel
theorem d_M_pressure_35 : decode b_M_pressure 35 = .ok (.aload_n 0, 1) := by decide +kernel
theorem d_M_pressure_36 : decode b_M_pressure 36 = .ok (.getfield 7, 3) := by decide +kernel
theorem d_M_pressure_39 : decode b_M_pressure 39 = .ok (.iconst 0, 1) := by decide +kernel
theorem d_M_pressure_40 : decode b_M_pressure 40 = .ok (.laload, 1) := by decide +kernel
theorem d_M_pressure_41 : decode b_M_pressure 41 = .ok (.lconst 1, 1) := by decide +kernel
theorem d_M_pressure_42 : decode b_M_pressure 42 = .ok (.lcmp, 1) := by decide +kernel
theorem d_M_pressure_43 : decode b_M_pressure 43 = .ok (.ifCond .ne 18, 3) := by decide +kernel
theorem d_M_pressure_46 : decode b_M_pressure 46 = .ok (.ldc2_w 44, 3) := by decide +kernel
theorem d_M_pressure_49 : decode b_M_pressure 49 = .ok (.lload 7, 2) := by decide +kernel
theorem d_M_pressure_51 : decode b_M_pressure 51 = .ok (.lmul, 1) := by decide +kernel
theorem d_M_pressure_52 : decode b_M_pressure 52 = .ok (.ldc2_w 66, 3) := by decide +kernel
theorem d_M_pressure_55 : decode b_M_pressure 55 = .ok (.invokestatic 56, 3) := by decide +kernel
theorem d_M_pressure_58 : decode b_M_pressure 58 = .ok (.goto 11, 3) := by decide +kernel
theorem d_M_pressure_61 : decode b_M_pressure 61 = .ok (.lload 7, 2) := by decide +kernel
theorem d_M_pressure_63 : decode b_M_pressure 63 = .ok (.ldc2_w 66, 3) := by decide +kernel
theorem d_M_pressure_66 : decode b_M_pressure 66 = .ok (.invokestatic 56, 3) := by decide +kernel
theorem d_M_pressure_69 : decode b_M_pressure 69 = .ok (.lreturn, 1) := by decide +kernel
theorem d_M_isCell_0 : decode b_M_isCell 0 = .ok (.iload_n 1, 1) := by decide +kernel
theorem d_M_isCell_1 : decode b_M_isCell 1 = .ok (.i2l, 1) := by decide +kernel
theorem d_M_isCell_2 : decode b_M_isCell 2 = .ok (.lconst 0, 1) := by decide +kernel
theorem d_M_isCell_3 : decode b_M_isCell 3 = .ok (.aload_n 0, 1) := by decide +kernel
theorem d_M_isCell_4 : decode b_M_isCell 4 = .ok (.getfield 7, 3) := by decide +kernel
theorem d_M_isCell_7 : decode b_M_isCell 7 = .ok (.iconst 4, 1) := by decide +kernel
theorem d_M_isCell_8 : decode b_M_isCell 8 = .ok (.laload, 1) := by decide +kernel
theorem d_M_isCell_9 : decode b_M_isCell 9 = .ok (.lconst 1, 1) := by decide +kernel
theorem d_M_isCell_10 : decode b_M_isCell 10 = .ok (.lsub, 1) := by decide +kernel
theorem d_M_isCell_11 : decode b_M_isCell 11 = .ok (.invokestatic 52, 3) := by decide +kernel
theorem d_M_isCell_14 : decode b_M_isCell 14 = .ok (.ireturn, 1) := by decide +kernel
theorem d_M_cell_0 : decode b_M_cell 0 = .ok (.aload_n 0, 1) := by decide +kernel
theorem d_M_cell_1 : decode b_M_cell 1 = .ok (.iload_n 1, 1) := by decide +kernel
theorem d_M_cell_2 : decode b_M_cell 2 = .ok (.invokevirtual 68, 3) := by decide +kernel
theorem d_M_cell_5 : decode b_M_cell 5 = .ok (.ifCond .ne 9, 3) := by decide +kernel
theorem d_M_cell_8 : decode b_M_cell 8 = .ok (.aload_n 0, 1) := by decide +kernel
theorem d_M_cell_9 : decode b_M_cell 9 = .ok (.iconst 1, 1) := by decide +kernel
theorem d_M_cell_10 : decode b_M_cell 10 = .ok (.putfield 38, 3) := by decide +kernel
theorem d_M_cell_13 : decode b_M_cell 13 = .ok (.return_, 1) := by decide +kernel
theorem d_M_cell_14 : decode b_M_cell 14 = .ok (.iload_n 2, 1) := by decide +kernel
theorem d_M_cell_15 : decode b_M_cell 15 = .ok (.i2l, 1) := by decide +kernel
theorem d_M_cell_16 : decode b_M_cell 16 = .ok (.lconst 1, 1) := by decide +kernel
theorem d_M_cell_17 : decode b_M_cell 17 = .ok (.ldc2_w 72, 3) := by decide +kernel
theorem d_M_cell_20 : decode b_M_cell 20 = .ok (.invokestatic 52, 3) := by decide +kernel
theorem d_M_cell_23 : decode b_M_cell 23 = .ok (.ifCond .eq 46, 3) := by decide +kernel
theorem d_M_cell_26 : decode b_M_cell 26 = .ok (.iload_n 3, 1) := by decide +kernel
theorem d_M_cell_27 : decode b_M_cell 27 = .ok (.i2l, 1) := by decide +kernel
theorem d_M_cell_28 : decode b_M_cell 28 = .ok (.ldc2_w 74, 3) := by decide +kernel
theorem d_M_cell_31 : decode b_M_cell 31 = .ok (.ldc2_w 76, 3) := by decide +kernel
theorem d_M_cell_34 : decode b_M_cell 34 = .ok (.invokestatic 52, 3) := by decide +kernel
theorem d_M_cell_37 : decode b_M_cell 37 = .ok (.ifCond .eq 32, 3) := by decide +kernel
theorem d_M_cell_40 : decode b_M_cell 40 = .ok (.iload 4, 2) := by decide +kernel
theorem d_M_cell_42 : decode b_M_cell 42 = .ok (.i2l, 1) := by decide +kernel
theorem d_M_cell_43 : decode b_M_cell 43 = .ok (.lconst 0, 1) := by decide +kernel
theorem d_M_cell_44 : decode b_M_cell 44 = .ok (.ldc2_w 78, 3) := by decide +kernel
theorem d_M_cell_47 : decode b_M_cell 47 = .ok (.invokestatic 52, 3) := by decide +kernel
theorem d_M_cell_50 : decode b_M_cell 50 = .ok (.ifCond .eq 19, 3) := by decide +kernel
theorem d_M_cell_53 : decode b_M_cell 53 = .ok (.iload 5, 2) := by decide +kernel
theorem d_M_cell_55 : decode b_M_cell 55 = .ok (.i2l, 1) := by decide +kernel
theorem d_M_cell_56 : decode b_M_cell 56 = .ok (.lconst 0, 1) := by decide +kernel
theorem d_M_cell_57 : decode b_M_cell 57 = .ok (.iload_n 2, 1) := by decide +kernel
theorem d_M_cell_58 : decode b_M_cell 58 = .ok (.i2l, 1) := by decide +kernel
theorem d_M_cell_59 : decode b_M_cell 59 = .ok (.invokestatic 52, 3) := by decide +kernel
theorem d_M_cell_62 : decode b_M_cell 62 = .ok (.ifCond .eq 7, 3) := by decide +kernel
theorem d_M_cell_65 : decode b_M_cell 65 = .ok (.iconst 1, 1) := by decide +kernel
theorem d_M_cell_66 : decode b_M_cell 66 = .ok (.goto 4, 3) := by decide +kernel
theorem d_M_cell_69 : decode b_M_cell 69 = .ok (.iconst 0, 1) := by decide +kernel
theorem d_M_cell_70 : decode b_M_cell 70 = .ok (.istore 6, 2) := by decide +kernel
theorem d_M_cell_72 : decode b_M_cell 72 = .ok (.aload_n 0, 1) := by decide +kernel
theorem d_M_cell_73 : decode b_M_cell 73 = .ok (.iload 6, 2) := by decide +kernel
theorem d_M_cell_75 : decode b_M_cell 75 = .ok (.ifCond .ne 7, 3) := by decide +kernel
theorem d_M_cell_78 : decode b_M_cell 78 = .ok (.iconst 2, 1) := by decide +kernel
theorem d_M_cell_79 : decode b_M_cell 79 = .ok (.goto 23, 3) := by decide +kernel
theorem d_M_cell_82 : decode b_M_cell 82 = .ok (.iload_n 2, 1) := by decide +kernel
theorem d_M_cell_83 : decode b_M_cell 83 = .ok (.i2l, 1) := by decide +kernel
theorem d_M_cell_84 : decode b_M_cell 84 = .ok (.iload_n 3, 1) := by decide +kernel
theorem d_M_cell_85 : decode b_M_cell 85 = .ok (.i2l, 1) := by decide +kernel
theorem d_M_cell_86 : decode b_M_cell 86 = .ok (.iload 4, 2) := by decide +kernel
theorem d_M_cell_88 : decode b_M_cell 88 = .ok (.i2l, 1) := by decide +kernel
theorem d_M_cell_89 : decode b_M_cell 89 = .ok (.invokestatic 60, 3) := by decide +kernel
theorem d_M_cell_92 : decode b_M_cell 92 = .ok (.lconst 0, 1) := by decide +kernel
theorem d_M_cell_93 : decode b_M_cell 93 = .ok (.lcmp, 1) := by decide +kernel
theorem d_M_cell_94 : decode b_M_cell 94 = .ok (.ifCond .ge 7, 3) := by decide +kernel
theorem d_M_cell_97 : decode b_M_cell 97 = .ok (.iconst 3, 1) := by decide +kernel
theorem d_M_cell_98 : decode b_M_cell 98 = .ok (.goto 4, 3) := by decide +kernel
theorem d_M_cell_101 : decode b_M_cell 101 = .ok (.iconst 0, 1) := by decide +kernel
theorem d_M_cell_102 : decode b_M_cell 102 = .ok (.putfield 38, 3) := by decide +kernel
theorem d_M_cell_105 : decode b_M_cell 105 = .ok (.aload_n 0, 1) := by decide +kernel
theorem d_M_cell_106 : decode b_M_cell 106 = .ok (.getfield 38, 3) := by decide +kernel
theorem d_M_cell_109 : decode b_M_cell 109 = .ok (.ifCond .le 4, 3) := by decide +kernel
theorem d_M_cell_112 : decode b_M_cell 112 = .ok (.return_, 1) := by decide +kernel
theorem d_M_cell_113 : decode b_M_cell 113 = .ok (.aload_n 0, 1) := by decide +kernel
theorem d_M_cell_114 : decode b_M_cell 114 = .ok (.iconst 0, 1) := by decide +kernel
theorem d_M_cell_115 : decode b_M_cell 115 = .ok (.bipush 8, 2) := by decide +kernel
theorem d_M_cell_117 : decode b_M_cell 117 = .ok (.iload_n 1, 1) := by decide +kernel
theorem d_M_cell_118 : decode b_M_cell 118 = .ok (.iadd, 1) := by decide +kernel
theorem d_M_cell_119 : decode b_M_cell 119 = .ok (.iload_n 2, 1) := by decide +kernel
theorem d_M_cell_120 : decode b_M_cell 120 = .ok (.i2l, 1) := by decide +kernel
theorem d_M_cell_121 : decode b_M_cell 121 = .ok (.invokevirtual 80, 3) := by decide +kernel
theorem d_M_cell_124 : decode b_M_cell 124 = .ok (.aload_n 0, 1) := by decide +kernel
theorem d_M_cell_125 : decode b_M_cell 125 = .ok (.iconst 1, 1) := by decide +kernel
theorem d_M_cell_126 : decode b_M_cell 126 = .ok (.bipush 40, 2) := by decide +kernel
theorem d_M_cell_128 : decode b_M_cell 128 = .ok (.iload_n 1, 1) := by decide +kernel
theorem d_M_cell_129 : decode b_M_cell 129 = .ok (.iadd, 1) := by decide +kernel
theorem d_M_cell_130 : decode b_M_cell 130 = .ok (.iload_n 3, 1) := by decide +kernel
theorem d_M_cell_131 : decode b_M_cell 131 = .ok (.i2l, 1) := by decide +kernel
theorem d_M_cell_132 : decode b_M_cell 132 = .ok (.invokevirtual 80, 3) := by decide +kernel
theorem d_M_cell_135 : decode b_M_cell 135 = .ok (.aload_n 0, 1) := by decide +kernel
theorem d_M_cell_136 : decode b_M_cell 136 = .ok (.iconst 2, 1) := by decide +kernel
theorem d_M_cell_137 : decode b_M_cell 137 = .ok (.bipush 72, 2) := by decide +kernel
theorem d_M_cell_139 : decode b_M_cell 139 = .ok (.iload_n 1, 1) := by decide +kernel
theorem d_M_cell_140 : decode b_M_cell 140 = .ok (.iadd, 1) := by decide +kernel
theorem d_M_cell_141 : decode b_M_cell 141 = .ok (.iload 4, 2) := by decide +kernel
theorem d_M_cell_143 : decode b_M_cell 143 = .ok (.i2l, 1) := by decide +kernel
theorem d_M_cell_144 : decode b_M_cell 144 = .ok (.invokevirtual 80, 3) := by decide +kernel
theorem d_M_cell_147 : decode b_M_cell 147 = .ok (.aload_n 0, 1) := by decide +kernel
theorem d_M_cell_148 : decode b_M_cell 148 = .ok (.iconst 3, 1) := by decide +kernel
theorem d_M_cell_149 : decode b_M_cell 149 = .ok (.bipush 104, 2) := by decide +kernel
theorem d_M_cell_151 : decode b_M_cell 151 = .ok (.iload_n 1, 1) := by decide +kernel
theorem d_M_cell_152 : decode b_M_cell 152 = .ok (.iadd, 1) := by decide +kernel
theorem d_M_cell_153 : decode b_M_cell 153 = .ok (.iload 5, 2) := by decide +kernel
theorem d_M_cell_155 : decode b_M_cell 155 = .ok (.i2l, 1) := by decide +kernel
theorem d_M_cell_156 : decode b_M_cell 156 = .ok (.invokevirtual 80, 3) := by decide +kernel
theorem d_M_cell_159 : decode b_M_cell 159 = .ok (.return_, 1) := by decide +kernel
theorem d_M_tells_0 : decode b_M_tells 0 = .ok (.aload_n 0, 1) := by decide +kernel
theorem d_M_tells_1 : decode b_M_tells 1 = .ok (.getfield 7, 3) := by decide +kernel
theorem d_M_tells_4 : decode b_M_tells 4 = .ok (.sipush 142, 3) := by decide +kernel
theorem d_M_tells_7 : decode b_M_tells 7 = .ok (.iload_n 1, 1) := by decide +kernel
theorem d_M_tells_8 : decode b_M_tells 8 = .ok (.iadd, 1) := by decide +kernel
theorem d_M_tells_9 : decode b_M_tells 9 = .ok (.dup2, 1) := by decide +kernel
theorem d_M_tells_10 : decode b_M_tells 10 = .ok (.laload, 1) := by decide +kernel
theorem d_M_tells_11 : decode b_M_tells 11 = .ok (.lload_n 3, 1) := by decide +kernel
theorem d_M_tells_12 : decode b_M_tells 12 = .ok (.aload_n 0, 1) := by decide +kernel
theorem d_M_tells_13 : decode b_M_tells 13 = .ok (.getfield 7, 3) := by decide +kernel
theorem d_M_tells_16 : decode b_M_tells 16 = .ok (.iload_n 2, 1) := by decide +kernel
theorem d_M_tells_17 : decode b_M_tells 17 = .ok (.laload, 1) := by decide +kernel
theorem d_M_tells_18 : decode b_M_tells 18 = .ok (.lsub, 1) := by decide +kernel
theorem d_M_tells_19 : decode b_M_tells 19 = .ok (.ladd, 1) := by decide +kernel
theorem d_M_tells_20 : decode b_M_tells 20 = .ok (.lastore, 1) := by decide +kernel
theorem d_M_tells_21 : decode b_M_tells 21 = .ok (.aload_n 0, 1) := by decide +kernel
theorem d_M_tells_22 : decode b_M_tells 22 = .ok (.getfield 7, 3) := by decide +kernel
theorem d_M_tells_25 : decode b_M_tells 25 = .ok (.iload_n 2, 1) := by decide +kernel
theorem d_M_tells_26 : decode b_M_tells 26 = .ok (.lload_n 3, 1) := by decide +kernel
theorem d_M_tells_27 : decode b_M_tells 27 = .ok (.lastore, 1) := by decide +kernel
theorem d_M_tells_28 : decode b_M_tells 28 = .ok (.return_, 1) := by decide +kernel
theorem d_M_ignition_0 : decode b_M_ignition 0 = .ok (.aload_n 0, 1) := by decide +kernel
theorem d_M_ignition_1 : decode b_M_ignition 1 = .ok (.iload_n 1, 1) := by decide +kernel
theorem d_M_ignition_2 : decode b_M_ignition 2 = .ok (.i2l, 1) := by decide +kernel
theorem d_M_ignition_3 : decode b_M_ignition 3 = .ok (.lconst 0, 1) := by decide +kernel
theorem d_M_ignition_4 : decode b_M_ignition 4 = .ok (.ldc2_w 32, 3) := by decide +kernel
theorem d_M_ignition_7 : decode b_M_ignition 7 = .ok (.invokestatic 52, 3) := by decide +kernel
theorem d_M_ignition_10 : decode b_M_ignition 10 = .ok (.ifCond .eq 31, 3) := by decide +kernel
theorem d_M_ignition_13 : decode b_M_ignition 13 = .ok (.iload_n 2, 1) := by decide +kernel
theorem d_M_ignition_14 : decode b_M_ignition 14 = .ok (.i2l, 1) := by decide +kernel
theorem d_M_ignition_15 : decode b_M_ignition 15 = .ok (.lconst 0, 1) := by decide +kernel
theorem d_M_ignition_16 : decode b_M_ignition 16 = .ok (.ldc2_w 84, 3) := by decide +kernel
theorem d_M_ignition_19 : decode b_M_ignition 19 = .ok (.invokestatic 52, 3) := by decide +kernel
theorem d_M_ignition_22 : decode b_M_ignition 22 = .ok (.ifCond .eq 19, 3) := by decide +kernel
theorem d_M_ignition_25 : decode b_M_ignition 25 = .ok (.iload_n 3, 1) := by decide +kernel
theorem d_M_ignition_26 : decode b_M_ignition 26 = .ok (.i2l, 1) := by decide +kernel
theorem d_M_ignition_27 : decode b_M_ignition 27 = .ok (.lconst 0, 1) := by decide +kernel
theorem d_M_ignition_28 : decode b_M_ignition 28 = .ok (.ldc2_w 46, 3) := by decide +kernel
theorem d_M_ignition_31 : decode b_M_ignition 31 = .ok (.invokestatic 52, 3) := by decide +kernel
theorem d_M_ignition_34 : decode b_M_ignition 34 = .ok (.ifCond .eq 7, 3) := by decide +kernel
theorem d_M_ignition_37 : decode b_M_ignition 37 = .ok (.iconst 0, 1) := by decide +kernel
theorem d_M_ignition_38 : decode b_M_ignition 38 = .ok (.goto 4, 3) := by decide +kernel
theorem d_M_ignition_41 : decode b_M_ignition 41 = .ok (.iconst 1, 1) := by decide +kernel
theorem d_M_ignition_42 : decode b_M_ignition 42 = .ok (.putfield 38, 3) := by decide +kernel
theorem d_M_ignition_45 : decode b_M_ignition 45 = .ok (.aload_n 0, 1) := by decide +kernel
theorem d_M_ignition_46 : decode b_M_ignition 46 = .ok (.getfield 38, 3) := by decide +kernel
theorem d_M_ignition_49 : decode b_M_ignition 49 = .ok (.ifCond .ne 27, 3) := by decide +kernel
theorem d_M_ignition_52 : decode b_M_ignition 52 = .ok (.aload_n 0, 1) := by decide +kernel
theorem d_M_ignition_53 : decode b_M_ignition 53 = .ok (.getfield 7, 3) := by decide +kernel
theorem d_M_ignition_56 : decode b_M_ignition 56 = .ok (.iconst 1, 1) := by decide +kernel
theorem d_M_ignition_57 : decode b_M_ignition 57 = .ok (.iload_n 1, 1) := by decide +kernel
theorem d_M_ignition_58 : decode b_M_ignition 58 = .ok (.i2l, 1) := by decide +kernel
theorem d_M_ignition_59 : decode b_M_ignition 59 = .ok (.lastore, 1) := by decide +kernel
theorem d_M_ignition_60 : decode b_M_ignition 60 = .ok (.aload_n 0, 1) := by decide +kernel
theorem d_M_ignition_61 : decode b_M_ignition 61 = .ok (.getfield 7, 3) := by decide +kernel
theorem d_M_ignition_64 : decode b_M_ignition 64 = .ok (.iconst 2, 1) := by decide +kernel
theorem d_M_ignition_65 : decode b_M_ignition 65 = .ok (.iload_n 2, 1) := by decide +kernel
theorem d_M_ignition_66 : decode b_M_ignition 66 = .ok (.i2l, 1) := by decide +kernel
theorem d_M_ignition_67 : decode b_M_ignition 67 = .ok (.lastore, 1) := by decide +kernel
theorem d_M_ignition_68 : decode b_M_ignition 68 = .ok (.aload_n 0, 1) := by decide +kernel
theorem d_M_ignition_69 : decode b_M_ignition 69 = .ok (.getfield 7, 3) := by decide +kernel
theorem d_M_ignition_72 : decode b_M_ignition 72 = .ok (.iconst 3, 1) := by decide +kernel
theorem d_M_ignition_73 : decode b_M_ignition 73 = .ok (.iload_n 3, 1) := by decide +kernel
theorem d_M_ignition_74 : decode b_M_ignition 74 = .ok (.i2l, 1) := by decide +kernel
theorem d_M_ignition_75 : decode b_M_ignition 75 = .ok (.lastore, 1) := by decide +kernel
theorem d_M_ignition_76 : decode b_M_ignition 76 = .ok (.return_, 1) := by decide +kernel
theorem d_M_speedOf_0 : decode b_M_speedOf 0 = .ok (.ldc2_w 46, 3) := by decide +kernel
theorem d_M_speedOf_3 : decode b_M_speedOf 3 = .ok (.aload_n 0, 1) := by decide +kernel
theorem d_M_speedOf_4 : decode b_M_speedOf 4 = .ok (.getfield 7, 3) := by decide +kernel
theorem d_M_speedOf_7 : decode b_M_speedOf 7 = .ok (.bipush 40, 2) := by decide +kernel
theorem d_M_speedOf_9 : decode b_M_speedOf 9 = .ok (.iload_n 1, 1) := by decide +kernel
theorem d_M_speedOf_10 : decode b_M_speedOf 10 = .ok (.iadd, 1) := by decide +kernel
theorem d_M_speedOf_11 : decode b_M_speedOf 11 = .ok (.laload, 1) := by decide +kernel
theorem d_M_speedOf_12 : decode b_M_speedOf 12 = .ok (.lmul, 1) := by decide +kernel
theorem d_M_speedOf_13 : decode b_M_speedOf 13 = .ok (.aload_n 0, 1) := by decide +kernel
theorem d_M_speedOf_14 : decode b_M_speedOf 14 = .ok (.getfield 7, 3) := by decide +kernel
theorem d_M_speedOf_17 : decode b_M_speedOf 17 = .ok (.bipush 8, 2) := by decide +kernel
theorem d_M_speedOf_19 : decode b_M_speedOf 19 = .ok (.iload_n 1, 1) := by decide +kernel
theorem d_M_speedOf_20 : decode b_M_speedOf 20 = .ok (.iadd, 1) := by decide +kernel
theorem d_M_speedOf_21 : decode b_M_speedOf 21 = .ok (.laload, 1) := by decide +kernel
theorem d_M_speedOf_22 : decode b_M_speedOf 22 = .ok (.invokestatic 56, 3) := by decide +kernel
theorem d_M_speedOf_25 : decode b_M_speedOf 25 = .ok (.lreturn, 1) := by decide +kernel
theorem d_M_pressureOf_0 : decode b_M_pressureOf 0 = .ok (.aload_n 0, 1) := by decide +kernel
theorem d_M_pressureOf_1 : decode b_M_pressureOf 1 = .ok (.aload_n 0, 1) := by decide +kernel
theorem d_M_pressureOf_2 : decode b_M_pressureOf 2 = .ok (.getfield 7, 3) := by decide +kernel
theorem d_M_pressureOf_5 : decode b_M_pressureOf 5 = .ok (.bipush 8, 2) := by decide +kernel
theorem d_M_pressureOf_7 : decode b_M_pressureOf 7 = .ok (.iload_n 1, 1) := by decide +kernel
theorem d_M_pressureOf_8 : decode b_M_pressureOf 8 = .ok (.iadd, 1) := by decide +kernel
theorem d_M_pressureOf_9 : decode b_M_pressureOf 9 = .ok (.laload, 1) := by decide +kernel
theorem d_M_pressureOf_10 : decode b_M_pressureOf 10 = .ok (.aload_n 0, 1) := by decide +kernel
theorem d_M_pressureOf_11 : decode b_M_pressureOf 11 = .ok (.getfield 7, 3) := by decide +kernel
theorem d_M_pressureOf_14 : decode b_M_pressureOf 14 = .ok (.bipush 40, 2) := by decide +kernel
theorem d_M_pressureOf_16 : decode b_M_pressureOf 16 = .ok (.iload_n 1, 1) := by decide +kernel
theorem d_M_pressureOf_17 : decode b_M_pressureOf 17 = .ok (.iadd, 1) := by decide +kernel
theorem d_M_pressureOf_18 : decode b_M_pressureOf 18 = .ok (.laload, 1) := by decide +kernel
theorem d_M_pressureOf_19 : decode b_M_pressureOf 19 = .ok (.aload_n 0, 1) := by decide +kernel
theorem d_M_pressureOf_20 : decode b_M_pressureOf 20 = .ok (.getfield 7, 3) := by decide +kernel
theorem d_M_pressureOf_23 : decode b_M_pressureOf 23 = .ok (.bipush 72, 2) := by decide +kernel
theorem d_M_pressureOf_25 : decode b_M_pressureOf 25 = .ok (.iload_n 1, 1) := by decide +kernel
theorem d_M_pressureOf_26 : decode b_M_pressureOf 26 = .ok (.iadd, 1) := by decide +kernel
theorem d_M_pressureOf_27 : decode b_M_pressureOf 27 = .ok (.laload, 1) := by decide +kernel
theorem d_M_pressureOf_28 : decode b_M_pressureOf 28 = .ok (.invokevirtual 86, 3) := by decide +kernel
theorem d_M_pressureOf_31 : decode b_M_pressureOf 31 = .ok (.lreturn, 1) := by decide +kernel
theorem d_M_soundOf_0 : decode b_M_soundOf 0 = .ok (.aload_n 0, 1) := by decide +kernel
theorem d_M_soundOf_1 : decode b_M_soundOf 1 = .ok (.getfield 7, 3) := by decide +kernel
theorem d_M_soundOf_4 : decode b_M_soundOf 4 = .ok (.iconst 0, 1) := by decide +kernel
theorem d_M_soundOf_5 : decode b_M_soundOf 5 = .ok (.laload, 1) := by decide +kernel
theorem d_M_soundOf_6 : decode b_M_soundOf 6 = .ok (.lconst 0, 1) := by decide +kernel
theorem d_M_soundOf_7 : decode b_M_soundOf 7 = .ok (.lcmp, 1) := by decide +kernel
theorem d_M_soundOf_8 : decode b_M_soundOf 8 = .ok (.ifCond .ne 9, 3) := by decide +kernel
theorem d_M_soundOf_11 : decode b_M_soundOf 11 = .ok (.ldc2_w 89, 3) := by decide +kernel
theorem d_M_soundOf_14 : decode b_M_soundOf 14 = .ok (.goto 23, 3) := by decide +kernel
theorem d_M_soundOf_17 : decode b_M_soundOf 17 = .ok (.aload_n 0, 1) := by decide +kernel
theorem d_M_soundOf_18 : decode b_M_soundOf 18 = .ok (.getfield 7, 3) := by decide +kernel
theorem d_M_soundOf_21 : decode b_M_soundOf 21 = .ok (.iconst 0, 1) := by decide +kernel
theorem d_M_soundOf_22 : decode b_M_soundOf 22 = .ok (.laload, 1) := by decide +kernel
theorem d_M_soundOf_23 : decode b_M_soundOf 23 = .ok (.lconst 1, 1) := by decide +kernel
theorem d_M_soundOf_24 : decode b_M_soundOf 24 = .ok (.lcmp, 1) := by decide +kernel
theorem d_M_soundOf_25 : decode b_M_soundOf 25 = .ok (.ifCond .ne 9, 3) := by decide +kernel
theorem d_M_soundOf_28 : decode b_M_soundOf 28 = .ok (.ldc2_w 64, 3) := by decide +kernel
theorem d_M_soundOf_31 : decode b_M_soundOf 31 = .ok (.goto 6, 3) := by decide +kernel
theorem d_M_soundOf_34 : decode b_M_soundOf 34 = .ok (.ldc2_w 91, 3) := by decide +kernel
theorem d_M_soundOf_37 : decode b_M_soundOf 37 = .ok (.lstore_n 2, 1) := by decide +kernel
theorem d_M_soundOf_38 : decode b_M_soundOf 38 = .ok (.aload_n 0, 1) := by decide +kernel
theorem d_M_soundOf_39 : decode b_M_soundOf 39 = .ok (.getfield 7, 3) := by decide +kernel
theorem d_M_soundOf_42 : decode b_M_soundOf 42 = .ok (.iconst 0, 1) := by decide +kernel
theorem d_M_soundOf_43 : decode b_M_soundOf 43 = .ok (.laload, 1) := by decide +kernel
theorem d_M_soundOf_44 : decode b_M_soundOf 44 = .ok (.lconst 0, 1) := by decide +kernel
theorem d_M_soundOf_45 : decode b_M_soundOf 45 = .ok (.lcmp, 1) := by decide +kernel
theorem d_M_soundOf_46 : decode b_M_soundOf 46 = .ok (.ifCond .ne 9, 3) := by decide +kernel
theorem d_M_soundOf_49 : decode b_M_soundOf 49 = .ok (.ldc2_w 64, 3) := by decide +kernel
theorem d_M_soundOf_52 : decode b_M_soundOf 52 = .ok (.goto 6, 3) := by decide +kernel
theorem d_M_soundOf_55 : decode b_M_soundOf 55 = .ok (.ldc2_w 66, 3) := by decide +kernel
theorem d_M_soundOf_58 : decode b_M_soundOf 58 = .ok (.lstore 4, 2) := by decide +kernel
theorem d_M_soundOf_60 : decode b_M_soundOf 60 = .ok (.aload_n 0, 1) := by decide +kernel
theorem d_M_soundOf_61 : decode b_M_soundOf 61 = .ok (.iload_n 1, 1) := by decide +kernel
theorem d_M_soundOf_62 : decode b_M_soundOf 62 = .ok (.invokevirtual 93, 3) := by decide +kernel
theorem d_M_soundOf_65 : decode b_M_soundOf 65 = .ok (.lload_n 2, 1) := by decide +kernel
theorem d_M_soundOf_66 : decode b_M_soundOf 66 = .ok (.lmul, 1) := by decide +kernel
theorem d_M_soundOf_67 : decode b_M_soundOf 67 = .ok (.ldc2_w 72, 3) := by decide +kernel
theorem d_M_soundOf_70 : decode b_M_soundOf 70 = .ok (.lmul, 1) := by decide +kernel
theorem d_M_soundOf_71 : decode b_M_soundOf 71 = .ok (.aload_n 0, 1) := by decide +kernel
theorem d_M_soundOf_72 : decode b_M_soundOf 72 = .ok (.getfield 7, 3) := by decide +kernel
theorem d_M_soundOf_75 : decode b_M_soundOf 75 = .ok (.bipush 8, 2) := by decide +kernel
theorem d_M_soundOf_77 : decode b_M_soundOf 77 = .ok (.iload_n 1, 1) := by decide +kernel
theorem d_M_soundOf_78 : decode b_M_soundOf 78 = .ok (.iadd, 1) := by decide +kernel
theorem d_M_soundOf_79 : decode b_M_soundOf 79 = .ok (.laload, 1) := by decide +kernel
theorem d_M_soundOf_80 : decode b_M_soundOf 80 = .ok (.invokestatic 56, 3) := by decide +kernel
theorem d_M_soundOf_83 : decode b_M_soundOf 83 = .ok (.lload 4, 2) := by decide +kernel
theorem d_M_soundOf_85 : decode b_M_soundOf 85 = .ok (.invokestatic 56, 3) := by decide +kernel
theorem d_M_soundOf_88 : decode b_M_soundOf 88 = .ok (.invokestatic 97, 3) := by decide +kernel
theorem d_M_soundOf_91 : decode b_M_soundOf 91 = .ok (.lreturn, 1) := by decide +kernel
theorem d_M_fastOf_0 : decode b_M_fastOf 0 = .ok (.aload_n 0, 1) := by decide +kernel
theorem d_M_fastOf_1 : decode b_M_fastOf 1 = .ok (.iload_n 1, 1) := by decide +kernel
theorem d_M_fastOf_2 : decode b_M_fastOf 2 = .ok (.invokevirtual 101, 3) := by decide +kernel
theorem d_M_fastOf_5 : decode b_M_fastOf 5 = .ok (.invokestatic 104, 3) := by decide +kernel
theorem d_M_fastOf_8 : decode b_M_fastOf 8 = .ok (.aload_n 0, 1) := by decide +kernel
theorem d_M_fastOf_9 : decode b_M_fastOf 9 = .ok (.iload_n 1, 1) := by decide +kernel
theorem d_M_fastOf_10 : decode b_M_fastOf 10 = .ok (.invokevirtual 107, 3) := by decide +kernel
theorem d_M_fastOf_13 : decode b_M_fastOf 13 = .ok (.ladd, 1) := by decide +kernel
theorem d_M_fastOf_14 : decode b_M_fastOf 14 = .ok (.lreturn, 1) := by decide +kernel
theorem d_M_over_0 : decode b_M_over 0 = .ok (.lload_n 0, 1) := by decide +kernel
theorem d_M_over_1 : decode b_M_over 1 = .ok (.ldc2_w 46, 3) := by decide +kernel
theorem d_M_over_4 : decode b_M_over 4 = .ok (.lload_n 2, 1) := by decide +kernel
theorem d_M_over_5 : decode b_M_over 5 = .ok (.lmul, 1) := by decide +kernel
theorem d_M_over_6 : decode b_M_over 6 = .ok (.lload 4, 2) := by decide +kernel
theorem d_M_over_8 : decode b_M_over 8 = .ok (.lload 6, 2) := by decide +kernel
theorem d_M_over_10 : decode b_M_over 10 = .ok (.lmul, 1) := by decide +kernel
theorem d_M_over_11 : decode b_M_over 11 = .ok (.lsub, 1) := by decide +kernel
theorem d_M_over_12 : decode b_M_over 12 = .ok (.lmul, 1) := by decide +kernel
theorem d_M_over_13 : decode b_M_over 13 = .ok (.ldc2_w 110, 3) := by decide +kernel
theorem d_M_over_16 : decode b_M_over 16 = .ok (.invokestatic 56, 3) := by decide +kernel
theorem d_M_over_19 : decode b_M_over 19 = .ok (.lreturn, 1) := by decide +kernel
theorem d_M_momentumQ_0 : decode b_M_momentumQ 0 = .ok (.aload_n 0, 1) := by decide +kernel
theorem d_M_momentumQ_1 : decode b_M_momentumQ 1 = .ok (.getfield 7, 3) := by decide +kernel
theorem d_M_momentumQ_4 : decode b_M_momentumQ 4 = .ok (.bipush 40, 2) := by decide +kernel
theorem d_M_momentumQ_6 : decode b_M_momentumQ 6 = .ok (.iload_n 1, 1) := by decide +kernel
theorem d_M_momentumQ_7 : decode b_M_momentumQ 7 = .ok (.iadd, 1) := by decide +kernel
theorem d_M_momentumQ_8 : decode b_M_momentumQ 8 = .ok (.laload, 1) := by decide +kernel
theorem d_M_momentumQ_9 : decode b_M_momentumQ 9 = .ok (.aload_n 0, 1) := by decide +kernel
theorem d_M_momentumQ_10 : decode b_M_momentumQ 10 = .ok (.getfield 7, 3) := by decide +kernel
theorem d_M_momentumQ_13 : decode b_M_momentumQ 13 = .ok (.bipush 40, 2) := by decide +kernel
theorem d_M_momentumQ_15 : decode b_M_momentumQ 15 = .ok (.iload_n 1, 1) := by decide +kernel
theorem d_M_momentumQ_16 : decode b_M_momentumQ 16 = .ok (.iadd, 1) := by decide +kernel
theorem d_M_momentumQ_17 : decode b_M_momentumQ 17 = .ok (.laload, 1) := by decide +kernel
theorem d_M_momentumQ_18 : decode b_M_momentumQ 18 = .ok (.lmul, 1) := by decide +kernel
theorem d_M_momentumQ_19 : decode b_M_momentumQ 19 = .ok (.aload_n 0, 1) := by decide +kernel
theorem d_M_momentumQ_20 : decode b_M_momentumQ 20 = .ok (.getfield 7, 3) := by decide +kernel
theorem d_M_momentumQ_23 : decode b_M_momentumQ 23 = .ok (.bipush 8, 2) := by decide +kernel
theorem d_M_momentumQ_25 : decode b_M_momentumQ 25 = .ok (.iload_n 1, 1) := by decide +kernel
theorem d_M_momentumQ_26 : decode b_M_momentumQ 26 = .ok (.iadd, 1) := by decide +kernel
theorem d_M_momentumQ_27 : decode b_M_momentumQ 27 = .ok (.laload, 1) := by decide +kernel
theorem d_M_momentumQ_28 : decode b_M_momentumQ 28 = .ok (.invokestatic 56, 3) := by decide +kernel
theorem d_M_momentumQ_31 : decode b_M_momentumQ 31 = .ok (.aload_n 0, 1) := by decide +kernel
theorem d_M_momentumQ_32 : decode b_M_momentumQ 32 = .ok (.iload_n 1, 1) := by decide +kernel
theorem d_M_momentumQ_33 : decode b_M_momentumQ 33 = .ok (.invokevirtual 93, 3) := by decide +kernel
theorem d_M_momentumQ_36 : decode b_M_momentumQ 36 = .ok (.ladd, 1) := by decide +kernel
theorem d_M_momentumQ_37 : decode b_M_momentumQ 37 = .ok (.lreturn, 1) := by decide +kernel
theorem d_M_energyQ_0 : decode b_M_energyQ 0 = .ok (.aload_n 0, 1) := by decide +kernel
theorem d_M_energyQ_1 : decode b_M_energyQ 1 = .ok (.getfield 7, 3) := by decide +kernel
theorem d_M_energyQ_4 : decode b_M_energyQ 4 = .ok (.bipush 72, 2) := by decide +kernel
theorem d_M_energyQ_6 : decode b_M_energyQ 6 = .ok (.iload_n 1, 1) := by decide +kernel
theorem d_M_energyQ_7 : decode b_M_energyQ 7 = .ok (.iadd, 1) := by decide +kernel
theorem d_M_energyQ_8 : decode b_M_energyQ 8 = .ok (.laload, 1) := by decide +kernel
theorem d_M_energyQ_9 : decode b_M_energyQ 9 = .ok (.aload_n 0, 1) := by decide +kernel
theorem d_M_energyQ_10 : decode b_M_energyQ 10 = .ok (.iload_n 1, 1) := by decide +kernel
theorem d_M_energyQ_11 : decode b_M_energyQ 11 = .ok (.invokevirtual 93, 3) := by decide +kernel
theorem d_M_energyQ_14 : decode b_M_energyQ 14 = .ok (.ladd, 1) := by decide +kernel
theorem d_M_energyQ_15 : decode b_M_energyQ 15 = .ok (.aload_n 0, 1) := by decide +kernel
theorem d_M_energyQ_16 : decode b_M_energyQ 16 = .ok (.getfield 7, 3) := by decide +kernel
theorem d_M_energyQ_19 : decode b_M_energyQ 19 = .ok (.bipush 40, 2) := by decide +kernel
theorem d_M_energyQ_21 : decode b_M_energyQ 21 = .ok (.iload_n 1, 1) := by decide +kernel
theorem d_M_energyQ_22 : decode b_M_energyQ 22 = .ok (.iadd, 1) := by decide +kernel
theorem d_M_energyQ_23 : decode b_M_energyQ 23 = .ok (.laload, 1) := by decide +kernel
theorem d_M_energyQ_24 : decode b_M_energyQ 24 = .ok (.lmul, 1) := by decide +kernel
theorem d_M_energyQ_25 : decode b_M_energyQ 25 = .ok (.aload_n 0, 1) := by decide +kernel
theorem d_M_energyQ_26 : decode b_M_energyQ 26 = .ok (.getfield 7, 3) := by decide +kernel
theorem d_M_energyQ_29 : decode b_M_energyQ 29 = .ok (.bipush 8, 2) := by decide +kernel
theorem d_M_energyQ_31 : decode b_M_energyQ 31 = .ok (.iload_n 1, 1) := by decide +kernel
theorem d_M_energyQ_32 : decode b_M_energyQ 32 = .ok (.iadd, 1) := by decide +kernel
theorem d_M_energyQ_33 : decode b_M_energyQ 33 = .ok (.laload, 1) := by decide +kernel
theorem d_M_energyQ_34 : decode b_M_energyQ 34 = .ok (.invokestatic 56, 3) := by decide +kernel
theorem d_M_energyQ_37 : decode b_M_energyQ 37 = .ok (.lreturn, 1) := by decide +kernel
theorem d_M_fuelOver_0 : decode b_M_fuelOver 0 = .ok (.lload_n 1, 1) := by decide +kernel
theorem d_M_fuelOver_1 : decode b_M_fuelOver 1 = .ok (.lconst 0, 1) := by decide +kernel
theorem d_M_fuelOver_2 : decode b_M_fuelOver 2 = .ok (.lcmp, 1) := by decide +kernel
theorem d_M_fuelOver_3 : decode b_M_fuelOver 3 = .ok (.ifCond .le 7, 3) := by decide +kernel
theorem d_M_fuelOver_6 : decode b_M_fuelOver 6 = .ok (.iload_n 3, 1) := by decide +kernel
theorem d_M_fuelOver_7 : decode b_M_fuelOver 7 = .ok (.goto 5, 3) := by decide +kernel
theorem d_M_fuelOver_10 : decode b_M_fuelOver 10 = .ok (.iload 4, 2) := by decide +kernel
theorem d_M_fuelOver_12 : decode b_M_fuelOver 12 = .ok (.istore 5, 2) := by decide +kernel
theorem d_M_fuelOver_14 : decode b_M_fuelOver 14 = .ok (.lload_n 1, 1) := by decide +kernel
theorem d_M_fuelOver_15 : decode b_M_fuelOver 15 = .ok (.invokestatic 104, 3) := by decide +kernel
theorem d_M_fuelOver_18 : decode b_M_fuelOver 18 = .ok (.aload_n 0, 1) := by decide +kernel
theorem d_M_fuelOver_19 : decode b_M_fuelOver 19 = .ok (.getfield 7, 3) := by decide +kernel
theorem d_M_fuelOver_22 : decode b_M_fuelOver 22 = .ok (.bipush 104, 2) := by decide +kernel
theorem d_M_fuelOver_24 : decode b_M_fuelOver 24 = .ok (.iload 5, 2) := by decide +kernel
theorem d_M_fuelOver_26 : decode b_M_fuelOver 26 = .ok (.iadd, 1) := by decide +kernel
theorem d_M_fuelOver_27 : decode b_M_fuelOver 27 = .ok (.laload, 1) := by decide +kernel
theorem d_M_fuelOver_28 : decode b_M_fuelOver 28 = .ok (.lmul, 1) := by decide +kernel
theorem d_M_fuelOver_29 : decode b_M_fuelOver 29 = .ok (.aload_n 0, 1) := by decide +kernel
theorem d_M_fuelOver_30 : decode b_M_fuelOver 30 = .ok (.getfield 7, 3) := by decide +kernel
theorem d_M_fuelOver_33 : decode b_M_fuelOver 33 = .ok (.bipush 8, 2) := by decide +kernel
theorem d_M_fuelOver_35 : decode b_M_fuelOver 35 = .ok (.iload 5, 2) := by decide +kernel
theorem d_M_fuelOver_37 : decode b_M_fuelOver 37 = .ok (.iadd, 1) := by decide +kernel
theorem d_M_fuelOver_38 : decode b_M_fuelOver 38 = .ok (.laload, 1) := by decide +kernel
theorem d_M_fuelOver_39 : decode b_M_fuelOver 39 = .ok (.invokestatic 56, 3) := by decide +kernel
theorem d_M_fuelOver_42 : decode b_M_fuelOver 42 = .ok (.lstore 6, 2) := by decide +kernel
theorem d_M_fuelOver_44 : decode b_M_fuelOver 44 = .ok (.lload 6, 2) := by decide +kernel
theorem d_M_fuelOver_46 : decode b_M_fuelOver 46 = .ok (.aload_n 0, 1) := by decide +kernel
theorem d_M_fuelOver_47 : decode b_M_fuelOver 47 = .ok (.getfield 7, 3) := by decide +kernel
theorem d_M_fuelOver_50 : decode b_M_fuelOver 50 = .ok (.bipush 104, 2) := by decide +kernel
theorem d_M_fuelOver_52 : decode b_M_fuelOver 52 = .ok (.iload 5, 2) := by decide +kernel
theorem d_M_fuelOver_54 : decode b_M_fuelOver 54 = .ok (.iadd, 1) := by decide +kernel
theorem d_M_fuelOver_55 : decode b_M_fuelOver 55 = .ok (.laload, 1) := by decide +kernel
theorem d_M_fuelOver_56 : decode b_M_fuelOver 56 = .ok (.lcmp, 1) := by decide +kernel
theorem d_M_fuelOver_57 : decode b_M_fuelOver 57 = .ok (.ifCond .le 16, 3) := by decide +kernel
theorem d_M_fuelOver_60 : decode b_M_fuelOver 60 = .ok (.aload_n 0, 1) := by decide +kernel
theorem d_M_fuelOver_61 : decode b_M_fuelOver 61 = .ok (.getfield 7, 3) := by decide +kernel
theorem d_M_fuelOver_64 : decode b_M_fuelOver 64 = .ok (.bipush 104, 2) := by decide +kernel
theorem d_M_fuelOver_66 : decode b_M_fuelOver 66 = .ok (.iload 5, 2) := by decide +kernel
theorem d_M_fuelOver_68 : decode b_M_fuelOver 68 = .ok (.iadd, 1) := by decide +kernel
theorem d_M_fuelOver_69 : decode b_M_fuelOver 69 = .ok (.laload, 1) := by decide +kernel
theorem d_M_fuelOver_70 : decode b_M_fuelOver 70 = .ok (.goto 5, 3) := by decide +kernel
theorem d_M_fuelOver_73 : decode b_M_fuelOver 73 = .ok (.lload 6, 2) := by decide +kernel
theorem d_M_fuelOver_75 : decode b_M_fuelOver 75 = .ok (.lstore 6, 2) := by decide +kernel
theorem d_M_fuelOver_77 : decode b_M_fuelOver 77 = .ok (.lload_n 1, 1) := by decide +kernel
theorem d_M_fuelOver_78 : decode b_M_fuelOver 78 = .ok (.lconst 0, 1) := by decide +kernel
theorem d_M_fuelOver_79 : decode b_M_fuelOver 79 = .ok (.lcmp, 1) := by decide +kernel
theorem d_M_fuelOver_80 : decode b_M_fuelOver 80 = .ok (.ifCond .le 8, 3) := by decide +kernel
theorem d_M_fuelOver_83 : decode b_M_fuelOver 83 = .ok (.lload 6, 2) := by decide +kernel
theorem d_M_fuelOver_85 : decode b_M_fuelOver 85 = .ok (.goto 6, 3) := by decide +kernel
theorem d_M_fuelOver_88 : decode b_M_fuelOver 88 = .ok (.lload 6, 2) := by decide +kernel
theorem d_M_fuelOver_90 : decode b_M_fuelOver 90 = .ok (.lneg, 1) := by decide +kernel
theorem d_M_fuelOver_91 : decode b_M_fuelOver 91 = .ok (.lreturn, 1) := by decide +kernel
theorem d_M_crosses_0 : decode b_M_crosses 0 = .ok (.aload_n 0, 1) := by decide +kernel
theorem d_M_crosses_1 : decode b_M_crosses 1 = .ok (.getfield 7, 3) := by decide +kernel
theorem d_M_crosses_4 : decode b_M_crosses 4 = .ok (.iconst 4, 1) := by decide +kernel
theorem d_M_crosses_5 : decode b_M_crosses 5 = .ok (.laload, 1) := by decide +kernel
theorem d_M_crosses_6 : decode b_M_crosses 6 = .ok (.l2i, 1) := by decide +kernel
theorem d_M_crosses_7 : decode b_M_crosses 7 = .ok (.istore 4, 2) := by decide +kernel
theorem d_M_crosses_9 : decode b_M_crosses 9 = .ok (.iload_n 3, 1) := by decide +kernel
theorem d_M_crosses_10 : decode b_M_crosses 10 = .ok (.ifCond .ne 7, 3) := by decide +kernel
theorem d_M_crosses_13 : decode b_M_crosses 13 = .ok (.iconst 0, 1) := by decide +kernel
theorem d_M_crosses_14 : decode b_M_crosses 14 = .ok (.goto 6, 3) := by decide +kernel
theorem d_M_crosses_17 : decode b_M_crosses 17 = .ok (.iload_n 3, 1) := by decide +kernel
theorem d_M_crosses_18 : decode b_M_crosses 18 = .ok (.iconst 1, 1) := by decide +kernel
theorem d_M_crosses_19 : decode b_M_crosses 19 = .ok (.isub, 1) := by decide +kernel
theorem d_M_crosses_20 : decode b_M_crosses 20 = .ok (.istore 5, 2) := by decide +kernel
theorem d_M_crosses_22 : decode b_M_crosses 22 = .ok (.iload_n 3, 1) := by decide +kernel
theorem d_M_crosses_23 : decode b_M_crosses 23 = .ok (.iload 4, 2) := by decide +kernel
theorem d_M_crosses_25 : decode b_M_crosses 25 = .ok (.if_icmp .ne 10, 3) := by decide +kernel
theorem d_M_crosses_28 : decode b_M_crosses 28 = .ok (.iload 4, 2) := by decide +kernel
theorem d_M_crosses_30 : decode b_M_crosses 30 = .ok (.iconst 1, 1) := by decide +kernel
theorem d_M_crosses_31 : decode b_M_crosses 31 = .ok (.isub, 1) := by decide +kernel
theorem d_M_crosses_32 : decode b_M_crosses 32 = .ok (.goto 4, 3) := by decide +kernel
theorem d_M_crosses_35 : decode b_M_crosses 35 = .ok (.iload_n 3, 1) := by decide +kernel
theorem d_M_crosses_36 : decode b_M_crosses 36 = .ok (.istore 6, 2) := by decide +kernel
theorem d_M_crosses_38 : decode b_M_crosses 38 = .ok (.iload_n 3, 1) := by decide +kernel
theorem d_M_crosses_39 : decode b_M_crosses 39 = .ok (.ifCond .eq 9, 3) := by decide +kernel
theorem d_M_crosses_42 : decode b_M_crosses 42 = .ok (.iload_n 3, 1) := by decide +kernel
theorem d_M_crosses_43 : decode b_M_crosses 43 = .ok (.iload 4, 2) := by decide +kernel
theorem d_M_crosses_45 : decode b_M_crosses 45 = .ok (.if_icmp .ne 7, 3) := by decide +kernel
theorem d_M_crosses_48 : decode b_M_crosses 48 = .ok (.iconst 1, 1) := by decide +kernel
theorem d_M_crosses_49 : decode b_M_crosses 49 = .ok (.goto 4, 3) := by decide +kernel
theorem d_M_crosses_52 : decode b_M_crosses 52 = .ok (.iconst 0, 1) := by decide +kernel
theorem d_M_crosses_53 : decode b_M_crosses 53 = .ok (.istore 7, 2) := by decide +kernel
theorem d_M_crosses_55 : decode b_M_crosses 55 = .ok (.iload 7, 2) := by decide +kernel
theorem d_M_crosses_57 : decode b_M_crosses 57 = .ok (.ifCond .eq 27, 3) := by decide +kernel
theorem d_M_crosses_60 : decode b_M_crosses 60 = .ok (.aload_n 0, 1) := by decide +kernel
theorem d_M_crosses_61 : decode b_M_crosses 61 = .ok (.getfield 7, 3) := by decide +kernel
theorem d_M_crosses_64 : decode b_M_crosses 64 = .ok (.iload_n 3, 1) := by decide +kernel
theorem d_M_crosses_65 : decode b_M_crosses 65 = .ok (.ifCond .ne 7, 3) := by decide +kernel
theorem d_M_crosses_68 : decode b_M_crosses 68 = .ok (.iconst 5, 1) := by decide +kernel
theorem d_M_crosses_69 : decode b_M_crosses 69 = .ok (.goto 5, 3) := by decide +kernel
theorem d_M_crosses_72 : decode b_M_crosses 72 = .ok (.bipush 6, 2) := by decide +kernel
theorem d_M_crosses_74 : decode b_M_crosses 74 = .ok (.laload, 1) := by decide +kernel
theorem d_M_crosses_75 : decode b_M_crosses 75 = .ok (.lconst 1, 1) := by decide +kernel
theorem d_M_crosses_76 : decode b_M_crosses 76 = .ok (.lcmp, 1) := by decide +kernel
theorem d_M_crosses_77 : decode b_M_crosses 77 = .ok (.ifCond .ne 7, 3) := by decide +kernel
theorem d_M_crosses_80 : decode b_M_crosses 80 = .ok (.iconst 1, 1) := by decide +kernel
theorem d_M_crosses_81 : decode b_M_crosses 81 = .ok (.goto 4, 3) := by decide +kernel
theorem d_M_crosses_84 : decode b_M_crosses 84 = .ok (.iconst 0, 1) := by decide +kernel
theorem d_M_crosses_85 : decode b_M_crosses 85 = .ok (.istore 8, 2) := by decide +kernel
theorem d_M_crosses_87 : decode b_M_crosses 87 = .ok (.aload_n 0, 1) := by decide +kernel
theorem d_M_crosses_88 : decode b_M_crosses 88 = .ok (.iload 5, 2) := by decide +kernel
theorem d_M_crosses_90 : decode b_M_crosses 90 = .ok (.invokevirtual 112, 3) := by decide +kernel
theorem d_M_crosses_93 : decode b_M_crosses 93 = .ok (.lstore 9, 2) := by decide +kernel
theorem d_M_crosses_95 : decode b_M_crosses 95 = .ok (.iload 8, 2) := by decide +kernel
theorem d_M_crosses_97 : decode b_M_crosses 97 = .ok (.ifCond .eq 43, 3) := by decide +kernel
theorem d_M_crosses_100 : decode b_M_crosses 100 = .ok (.ldc2_w 115, 3) := by decide +kernel
theorem d_M_crosses_103 : decode b_M_crosses 103 = .ok (.aload_n 0, 1) := by decide +kernel
theorem d_M_crosses_104 : decode b_M_crosses 104 = .ok (.getfield 7, 3) := by decide +kernel
theorem d_M_crosses_107 : decode b_M_crosses 107 = .ok (.bipush 40, 2) := by decide +kernel
theorem d_M_crosses_109 : decode b_M_crosses 109 = .ok (.iload 6, 2) := by decide +kernel
theorem d_M_crosses_111 : decode b_M_crosses 111 = .ok (.iadd, 1) := by decide +kernel
theorem d_M_crosses_112 : decode b_M_crosses 112 = .ok (.laload, 1) := by decide +kernel
theorem d_M_crosses_113 : decode b_M_crosses 113 = .ok (.lmul, 1) := by decide +kernel
theorem d_M_crosses_114 : decode b_M_crosses 114 = .ok (.aload_n 0, 1) := by decide +kernel
theorem d_M_crosses_115 : decode b_M_crosses 115 = .ok (.getfield 7, 3) := by decide +kernel
theorem d_M_crosses_118 : decode b_M_crosses 118 = .ok (.bipush 8, 2) := by decide +kernel
theorem d_M_crosses_120 : decode b_M_crosses 120 = .ok (.iload 6, 2) := by decide +kernel
theorem d_M_crosses_122 : decode b_M_crosses 122 = .ok (.iadd, 1) := by decide +kernel
theorem d_M_crosses_123 : decode b_M_crosses 123 = .ok (.laload, 1) := by decide +kernel
theorem d_M_crosses_124 : decode b_M_crosses 124 = .ok (.invokestatic 56, 3) := by decide +kernel
theorem d_M_crosses_127 : decode b_M_crosses 127 = .ok (.invokestatic 104, 3) := by decide +kernel
theorem d_M_crosses_130 : decode b_M_crosses 130 = .ok (.aload_n 0, 1) := by decide +kernel
theorem d_M_crosses_131 : decode b_M_crosses 131 = .ok (.iload 6, 2) := by decide +kernel
theorem d_M_crosses_133 : decode b_M_crosses 133 = .ok (.invokevirtual 107, 3) := by decide +kernel
theorem d_M_crosses_136 : decode b_M_crosses 136 = .ok (.ladd, 1) := by decide +kernel
theorem d_M_crosses_137 : decode b_M_crosses 137 = .ok (.goto 9, 3) := by decide +kernel
theorem d_M_crosses_140 : decode b_M_crosses 140 = .ok (.aload_n 0, 1) := by decide +kernel
theorem d_M_crosses_141 : decode b_M_crosses 141 = .ok (.iload 6, 2) := by decide +kernel
theorem d_M_crosses_143 : decode b_M_crosses 143 = .ok (.invokevirtual 112, 3) := by decide +kernel
theorem d_M_crosses_146 : decode b_M_crosses 146 = .ok (.lstore 11, 2) := by decide +kernel
theorem d_M_crosses_148 : decode b_M_crosses 148 = .ok (.lload 9, 2) := by decide +kernel
theorem d_M_crosses_150 : decode b_M_crosses 150 = .ok (.lload 11, 2) := by decide +kernel
theorem d_M_crosses_152 : decode b_M_crosses 152 = .ok (.lcmp, 1) := by decide +kernel
theorem d_M_crosses_153 : decode b_M_crosses 153 = .ok (.ifCond .le 8, 3) := by decide +kernel
theorem d_M_crosses_156 : decode b_M_crosses 156 = .ok (.lload 9, 2) := by decide +kernel
theorem d_M_crosses_158 : decode b_M_crosses 158 = .ok (.goto 5, 3) := by decide +kernel
theorem d_M_crosses_161 : decode b_M_crosses 161 = .ok (.lload 11, 2) := by decide +kernel
theorem d_M_crosses_163 : decode b_M_crosses 163 = .ok (.lstore 13, 2) := by decide +kernel
theorem d_M_crosses_165 : decode b_M_crosses 165 = .ok (.lload_n 1, 1) := by decide +kernel
theorem d_M_crosses_166 : decode b_M_crosses 166 = .ok (.lload 13, 2) := by decide +kernel
theorem d_M_crosses_168 : decode b_M_crosses 168 = .ok (.lmul, 1) := by decide +kernel
theorem d_M_crosses_169 : decode b_M_crosses 169 = .ok (.ldc2_w 117, 3) := by decide +kernel
theorem d_M_crosses_172 : decode b_M_crosses 172 = .ok (.lcmp, 1) := by decide +kernel
theorem d_M_crosses_173 : decode b_M_crosses 173 = .ok (.ifCond .le 5, 3) := by decide +kernel
theorem d_M_crosses_176 : decode b_M_crosses 176 = .ok (.iconst 0, 1) := by decide +kernel
theorem d_M_crosses_177 : decode b_M_crosses 177 = .ok (.ireturn, 1) := by decide +kernel
theorem d_M_crosses_178 : decode b_M_crosses 178 = .ok (.aload_n 0, 1) := by decide +kernel
theorem d_M_crosses_179 : decode b_M_crosses 179 = .ok (.getfield 7, 3) := by decide +kernel
theorem d_M_crosses_182 : decode b_M_crosses 182 = .ok (.bipush 40, 2) := by decide +kernel
theorem d_M_crosses_184 : decode b_M_crosses 184 = .ok (.iload 6, 2) := by decide +kernel
theorem d_M_crosses_186 : decode b_M_crosses 186 = .ok (.iadd, 1) := by decide +kernel
theorem d_M_crosses_187 : decode b_M_crosses 187 = .ok (.laload, 1) := by decide +kernel
theorem d_M_crosses_188 : decode b_M_crosses 188 = .ok (.aload_n 0, 1) := by decide +kernel
theorem d_M_crosses_189 : decode b_M_crosses 189 = .ok (.getfield 7, 3) := by decide +kernel
theorem d_M_crosses_192 : decode b_M_crosses 192 = .ok (.bipush 40, 2) := by decide +kernel
theorem d_M_crosses_194 : decode b_M_crosses 194 = .ok (.iload 5, 2) := by decide +kernel
theorem d_M_crosses_196 : decode b_M_crosses 196 = .ok (.iadd, 1) := by decide +kernel
theorem d_M_crosses_197 : decode b_M_crosses 197 = .ok (.laload, 1) := by decide +kernel
theorem d_M_crosses_198 : decode b_M_crosses 198 = .ok (.lsub, 1) := by decide +kernel
theorem d_M_crosses_199 : decode b_M_crosses 199 = .ok (.lstore 15, 2) := by decide +kernel
theorem d_M_crosses_201 : decode b_M_crosses 201 = .ok (.iload 8, 2) := by decide +kernel
theorem d_M_crosses_203 : decode b_M_crosses 203 = .ok (.ifCond .eq 37, 3) := by decide +kernel
theorem d_M_crosses_206 : decode b_M_crosses 206 = .ok (.iload_n 3, 1) := by decide +kernel
theorem d_M_crosses_207 : decode b_M_crosses 207 = .ok (.ifCond .ne 17, 3) := by decide +kernel
theorem d_M_crosses_210 : decode b_M_crosses 210 = .ok (.ldc2_w 44, 3) := by decide +kernel
theorem d_M_crosses_213 : decode b_M_crosses 213 = .ok (.aload_n 0, 1) := by decide +kernel
theorem d_M_crosses_214 : decode b_M_crosses 214 = .ok (.getfield 7, 3) := by decide +kernel
theorem d_M_crosses_217 : decode b_M_crosses 217 = .ok (.bipush 40, 2) := by decide +kernel
theorem d_M_crosses_219 : decode b_M_crosses 219 = .ok (.laload, 1) := by decide +kernel
theorem d_M_crosses_220 : decode b_M_crosses 220 = .ok (.lmul, 1) := by decide +kernel
theorem d_M_crosses_221 : decode b_M_crosses 221 = .ok (.goto 17, 3) := by decide +kernel
theorem d_M_crosses_224 : decode b_M_crosses 224 = .ok (.ldc2_w 119, 3) := by decide +kernel
theorem d_M_crosses_227 : decode b_M_crosses 227 = .ok (.aload_n 0, 1) := by decide +kernel
theorem d_M_crosses_228 : decode b_M_crosses 228 = .ok (.getfield 7, 3) := by decide +kernel
theorem d_M_crosses_231 : decode b_M_crosses 231 = .ok (.bipush 40, 2) := by decide +kernel
theorem d_M_crosses_233 : decode b_M_crosses 233 = .ok (.iload 5, 2) := by decide +kernel
theorem d_M_crosses_235 : decode b_M_crosses 235 = .ok (.iadd, 1) := by decide +kernel
theorem d_M_crosses_236 : decode b_M_crosses 236 = .ok (.laload, 1) := by decide +kernel
theorem d_M_crosses_237 : decode b_M_crosses 237 = .ok (.lmul, 1) := by decide +kernel
theorem d_M_crosses_238 : decode b_M_crosses 238 = .ok (.lstore 15, 2) := by decide +kernel
theorem d_M_crosses_240 : decode b_M_crosses 240 = .ok (.iload 8, 2) := by decide +kernel
theorem d_M_crosses_242 : decode b_M_crosses 242 = .ok (.ifCond .eq 7, 3) := by decide +kernel
theorem d_M_crosses_245 : decode b_M_crosses 245 = .ok (.lconst 0, 1) := by decide +kernel
theorem d_M_crosses_246 : decode b_M_crosses 246 = .ok (.goto 51, 3) := by decide +kernel
theorem d_M_crosses_249 : decode b_M_crosses 249 = .ok (.lload_n 1, 1) := by decide +kernel
theorem d_M_crosses_250 : decode b_M_crosses 250 = .ok (.aload_n 0, 1) := by decide +kernel
theorem d_M_crosses_251 : decode b_M_crosses 251 = .ok (.getfield 7, 3) := by decide +kernel
theorem d_M_crosses_254 : decode b_M_crosses 254 = .ok (.bipush 40, 2) := by decide +kernel
theorem d_M_crosses_256 : decode b_M_crosses 256 = .ok (.iload 5, 2) := by decide +kernel
theorem d_M_crosses_258 : decode b_M_crosses 258 = .ok (.iadd, 1) := by decide +kernel
theorem d_M_crosses_259 : decode b_M_crosses 259 = .ok (.laload, 1) := by decide +kernel
theorem d_M_crosses_260 : decode b_M_crosses 260 = .ok (.aload_n 0, 1) := by decide +kernel
theorem d_M_crosses_261 : decode b_M_crosses 261 = .ok (.getfield 7, 3) := by decide +kernel
theorem d_M_crosses_264 : decode b_M_crosses 264 = .ok (.bipush 40, 2) := by decide +kernel
theorem d_M_crosses_266 : decode b_M_crosses 266 = .ok (.iload 6, 2) := by decide +kernel
theorem d_M_crosses_268 : decode b_M_crosses 268 = .ok (.iadd, 1) := by decide +kernel
theorem d_M_crosses_269 : decode b_M_crosses 269 = .ok (.laload, 1) := by decide +kernel
theorem d_M_crosses_270 : decode b_M_crosses 270 = .ok (.ladd, 1) := by decide +kernel
theorem d_M_crosses_271 : decode b_M_crosses 271 = .ok (.lload 13, 2) := by decide +kernel
theorem d_M_crosses_273 : decode b_M_crosses 273 = .ok (.aload_n 0, 1) := by decide +kernel
theorem d_M_crosses_274 : decode b_M_crosses 274 = .ok (.getfield 7, 3) := by decide +kernel
theorem d_M_crosses_277 : decode b_M_crosses 277 = .ok (.bipush 8, 2) := by decide +kernel
theorem d_M_crosses_279 : decode b_M_crosses 279 = .ok (.iload 6, 2) := by decide +kernel
theorem d_M_crosses_281 : decode b_M_crosses 281 = .ok (.iadd, 1) := by decide +kernel
theorem d_M_crosses_282 : decode b_M_crosses 282 = .ok (.laload, 1) := by decide +kernel
theorem d_M_crosses_283 : decode b_M_crosses 283 = .ok (.aload_n 0, 1) := by decide +kernel
theorem d_M_crosses_284 : decode b_M_crosses 284 = .ok (.getfield 7, 3) := by decide +kernel
theorem d_M_crosses_287 : decode b_M_crosses 287 = .ok (.bipush 8, 2) := by decide +kernel
theorem d_M_crosses_289 : decode b_M_crosses 289 = .ok (.iload 5, 2) := by decide +kernel
theorem d_M_crosses_291 : decode b_M_crosses 291 = .ok (.iadd, 1) := by decide +kernel
theorem d_M_crosses_292 : decode b_M_crosses 292 = .ok (.laload, 1) := by decide +kernel
theorem d_M_crosses_293 : decode b_M_crosses 293 = .ok (.lsub, 1) := by decide +kernel
theorem d_M_crosses_294 : decode b_M_crosses 294 = .ok (.invokestatic 121, 3) := by decide +kernel
theorem d_M_crosses_297 : decode b_M_crosses 297 = .ok (.lstore 17, 2) := by decide +kernel
theorem d_M_crosses_299 : decode b_M_crosses 299 = .ok (.aload_n 0, 1) := by decide +kernel
theorem d_M_crosses_300 : decode b_M_crosses 300 = .ok (.getfield 20, 3) := by decide +kernel
theorem d_M_crosses_303 : decode b_M_crosses 303 = .ok (.iload_n 3, 1) := by decide +kernel
theorem d_M_crosses_304 : decode b_M_crosses 304 = .ok (.lload 17, 2) := by decide +kernel
theorem d_M_crosses_306 : decode b_M_crosses 306 = .ok (.lastore, 1) := by decide +kernel
theorem d_M_crosses_307 : decode b_M_crosses 307 = .ok (.aload_n 0, 1) := by decide +kernel
theorem d_M_crosses_308 : decode b_M_crosses 308 = .ok (.getfield 20, 3) := by decide +kernel
theorem d_M_crosses_311 : decode b_M_crosses 311 = .ok (.bipush 33, 2) := by decide +kernel
theorem d_M_crosses_313 : decode b_M_crosses 313 = .ok (.iload_n 3, 1) := by decide +kernel
theorem d_M_crosses_314 : decode b_M_crosses 314 = .ok (.iadd, 1) := by decide +kernel
theorem d_M_crosses_315 : decode b_M_crosses 315 = .ok (.lload_n 1, 1) := by decide +kernel
theorem d_M_crosses_316 : decode b_M_crosses 316 = .ok (.aload_n 0, 1) := by decide +kernel
theorem d_M_crosses_317 : decode b_M_crosses 317 = .ok (.iload 5, 2) := by decide +kernel
theorem d_M_crosses_319 : decode b_M_crosses 319 = .ok (.invokevirtual 125, 3) := by decide +kernel
theorem d_M_crosses_322 : decode b_M_crosses 322 = .ok (.aload_n 0, 1) := by decide +kernel
theorem d_M_crosses_323 : decode b_M_crosses 323 = .ok (.iload 6, 2) := by decide +kernel
theorem d_M_crosses_325 : decode b_M_crosses 325 = .ok (.invokevirtual 125, 3) := by decide +kernel
theorem d_M_crosses_328 : decode b_M_crosses 328 = .ok (.ladd, 1) := by decide +kernel
theorem d_M_crosses_329 : decode b_M_crosses 329 = .ok (.lload 13, 2) := by decide +kernel
theorem d_M_crosses_331 : decode b_M_crosses 331 = .ok (.lload 15, 2) := by decide +kernel
theorem d_M_crosses_333 : decode b_M_crosses 333 = .ok (.invokestatic 121, 3) := by decide +kernel
theorem d_M_crosses_336 : decode b_M_crosses 336 = .ok (.lastore, 1) := by decide +kernel
theorem d_M_crosses_337 : decode b_M_crosses 337 = .ok (.aload_n 0, 1) := by decide +kernel
theorem d_M_crosses_338 : decode b_M_crosses 338 = .ok (.getfield 20, 3) := by decide +kernel
theorem d_M_crosses_341 : decode b_M_crosses 341 = .ok (.bipush 66, 2) := by decide +kernel
theorem d_M_crosses_343 : decode b_M_crosses 343 = .ok (.iload_n 3, 1) := by decide +kernel
theorem d_M_crosses_344 : decode b_M_crosses 344 = .ok (.iadd, 1) := by decide +kernel
theorem d_M_crosses_345 : decode b_M_crosses 345 = .ok (.iload 8, 2) := by decide +kernel
theorem d_M_crosses_347 : decode b_M_crosses 347 = .ok (.ifCond .eq 7, 3) := by decide +kernel
theorem d_M_crosses_350 : decode b_M_crosses 350 = .ok (.lconst 0, 1) := by decide +kernel
theorem d_M_crosses_351 : decode b_M_crosses 351 = .ok (.goto 43, 3) := by decide +kernel
theorem d_M_crosses_354 : decode b_M_crosses 354 = .ok (.lload_n 1, 1) := by decide +kernel
theorem d_M_crosses_355 : decode b_M_crosses 355 = .ok (.aload_n 0, 1) := by decide +kernel
theorem d_M_crosses_356 : decode b_M_crosses 356 = .ok (.iload 5, 2) := by decide +kernel
theorem d_M_crosses_358 : decode b_M_crosses 358 = .ok (.invokevirtual 128, 3) := by decide +kernel
theorem d_M_crosses_361 : decode b_M_crosses 361 = .ok (.aload_n 0, 1) := by decide +kernel
theorem d_M_crosses_362 : decode b_M_crosses 362 = .ok (.iload 6, 2) := by decide +kernel
theorem d_M_crosses_364 : decode b_M_crosses 364 = .ok (.invokevirtual 128, 3) := by decide +kernel
theorem d_M_crosses_367 : decode b_M_crosses 367 = .ok (.ladd, 1) := by decide +kernel
theorem d_M_crosses_368 : decode b_M_crosses 368 = .ok (.lload 13, 2) := by decide +kernel
theorem d_M_crosses_370 : decode b_M_crosses 370 = .ok (.aload_n 0, 1) := by decide +kernel
theorem d_M_crosses_371 : decode b_M_crosses 371 = .ok (.getfield 7, 3) := by decide +kernel
theorem d_M_crosses_374 : decode b_M_crosses 374 = .ok (.bipush 72, 2) := by decide +kernel
theorem d_M_crosses_376 : decode b_M_crosses 376 = .ok (.iload 6, 2) := by decide +kernel
theorem d_M_crosses_378 : decode b_M_crosses 378 = .ok (.iadd, 1) := by decide +kernel
theorem d_M_crosses_379 : decode b_M_crosses 379 = .ok (.laload, 1) := by decide +kernel
theorem d_M_crosses_380 : decode b_M_crosses 380 = .ok (.aload_n 0, 1) := by decide +kernel
theorem d_M_crosses_381 : decode b_M_crosses 381 = .ok (.getfield 7, 3) := by decide +kernel
theorem d_M_crosses_384 : decode b_M_crosses 384 = .ok (.bipush 72, 2) := by decide +kernel
theorem d_M_crosses_386 : decode b_M_crosses 386 = .ok (.iload 5, 2) := by decide +kernel
theorem d_M_crosses_388 : decode b_M_crosses 388 = .ok (.iadd, 1) := by decide +kernel
theorem d_M_crosses_389 : decode b_M_crosses 389 = .ok (.laload, 1) := by decide +kernel
theorem d_M_crosses_390 : decode b_M_crosses 390 = .ok (.lsub, 1) := by decide +kernel
theorem d_M_crosses_391 : decode b_M_crosses 391 = .ok (.invokestatic 121, 3) := by decide +kernel
theorem d_M_crosses_394 : decode b_M_crosses 394 = .ok (.lastore, 1) := by decide +kernel
theorem d_M_crosses_395 : decode b_M_crosses 395 = .ok (.aload_n 0, 1) := by decide +kernel
theorem d_M_crosses_396 : decode b_M_crosses 396 = .ok (.getfield 20, 3) := by decide +kernel
theorem d_M_crosses_399 : decode b_M_crosses 399 = .ok (.bipush 99, 2) := by decide +kernel
theorem d_M_crosses_401 : decode b_M_crosses 401 = .ok (.iload_n 3, 1) := by decide +kernel
theorem d_M_crosses_402 : decode b_M_crosses 402 = .ok (.iadd, 1) := by decide +kernel
theorem d_M_crosses_403 : decode b_M_crosses 403 = .ok (.aload_n 0, 1) := by decide +kernel
theorem d_M_crosses_404 : decode b_M_crosses 404 = .ok (.lload 17, 2) := by decide +kernel
theorem d_M_crosses_406 : decode b_M_crosses 406 = .ok (.iload 5, 2) := by decide +kernel
theorem d_M_crosses_408 : decode b_M_crosses 408 = .ok (.iload 6, 2) := by decide +kernel
theorem d_M_crosses_410 : decode b_M_crosses 410 = .ok (.invokevirtual 131, 3) := by decide +kernel
theorem d_M_crosses_413 : decode b_M_crosses 413 = .ok (.lastore, 1) := by decide +kernel
theorem d_M_crosses_414 : decode b_M_crosses 414 = .ok (.iconst 1, 1) := by decide +kernel
theorem d_M_crosses_415 : decode b_M_crosses 415 = .ok (.ireturn, 1) := by decide +kernel
theorem d_M_isGood_0 : decode b_M_isGood 0 = .ok (.aload_n 0, 1) := by decide +kernel
theorem d_M_isGood_1 : decode b_M_isGood 1 = .ok (.getfield 23, 3) := by decide +kernel
theorem d_M_isGood_4 : decode b_M_isGood 4 = .ok (.iload_n 1, 1) := by decide +kernel
theorem d_M_isGood_5 : decode b_M_isGood 5 = .ok (.laload, 1) := by decide +kernel
theorem d_M_isGood_6 : decode b_M_isGood 6 = .ok (.lstore_n 2, 1) := by decide +kernel
theorem d_M_isGood_7 : decode b_M_isGood 7 = .ok (.lload_n 2, 1) := by decide +kernel
theorem d_M_isGood_8 : decode b_M_isGood 8 = .ok (.lconst 1, 1) := by decide +kernel
theorem d_M_isGood_9 : decode b_M_isGood 9 = .ok (.ldc2_w 72, 3) := by decide +kernel
theorem d_M_isGood_12 : decode b_M_isGood 12 = .ok (.invokestatic 52, 3) := by decide +kernel
theorem d_M_isGood_15 : decode b_M_isGood 15 = .ok (.ifCond .eq 40, 3) := by decide +kernel
theorem d_M_isGood_18 : decode b_M_isGood 18 = .ok (.aload_n 0, 1) := by decide +kernel
theorem d_M_isGood_19 : decode b_M_isGood 19 = .ok (.getfield 23, 3) := by decide +kernel
theorem d_M_isGood_22 : decode b_M_isGood 22 = .ok (.bipush 96, 2) := by decide +kernel
theorem d_M_isGood_24 : decode b_M_isGood 24 = .ok (.iload_n 1, 1) := by decide +kernel
theorem d_M_isGood_25 : decode b_M_isGood 25 = .ok (.iadd, 1) := by decide +kernel
theorem d_M_isGood_26 : decode b_M_isGood 26 = .ok (.laload, 1) := by decide +kernel
theorem d_M_isGood_27 : decode b_M_isGood 27 = .ok (.lconst 0, 1) := by decide +kernel
theorem d_M_isGood_28 : decode b_M_isGood 28 = .ok (.lload_n 2, 1) := by decide +kernel
theorem d_M_isGood_29 : decode b_M_isGood 29 = .ok (.invokestatic 52, 3) := by decide +kernel
theorem d_M_isGood_32 : decode b_M_isGood 32 = .ok (.ifCond .eq 23, 3) := by decide +kernel
theorem d_M_isGood_35 : decode b_M_isGood 35 = .ok (.aload_n 0, 1) := by decide +kernel
theorem d_M_isGood_36 : decode b_M_isGood 36 = .ok (.getfield 23, 3) := by decide +kernel
theorem d_M_isGood_39 : decode b_M_isGood 39 = .ok (.bipush 64, 2) := by decide +kernel
theorem d_M_isGood_41 : decode b_M_isGood 41 = .ok (.iload_n 1, 1) := by decide +kernel
theorem d_M_isGood_42 : decode b_M_isGood 42 = .ok (.iadd, 1) := by decide +kernel
theorem d_M_isGood_43 : decode b_M_isGood 43 = .ok (.laload, 1) := by decide +kernel
theorem d_M_isGood_44 : decode b_M_isGood 44 = .ok (.ldc2_w 78, 3) := by decide +kernel
theorem d_M_isGood_47 : decode b_M_isGood 47 = .ok (.lcmp, 1) := by decide +kernel
theorem d_M_isGood_48 : decode b_M_isGood 48 = .ok (.ifCond .gt 7, 3) := by decide +kernel
theorem d_M_isGood_51 : decode b_M_isGood 51 = .ok (.iconst 1, 1) := by decide +kernel
theorem d_M_isGood_52 : decode b_M_isGood 52 = .ok (.goto 4, 3) := by decide +kernel
theorem d_M_isGood_55 : decode b_M_isGood 55 = .ok (.iconst 0, 1) := by decide +kernel
theorem d_M_isGood_56 : decode b_M_isGood 56 = .ok (.istore 4, 2) := by decide +kernel
theorem d_M_isGood_58 : decode b_M_isGood 58 = .ok (.iload 4, 2) := by decide +kernel
theorem d_M_isGood_60 : decode b_M_isGood 60 = .ok (.ifCond .eq 34, 3) := by decide +kernel
theorem d_M_isGood_63 : decode b_M_isGood 63 = .ok (.lload_n 2, 1) := by decide +kernel
theorem d_M_isGood_64 : decode b_M_isGood 64 = .ok (.aload_n 0, 1) := by decide +kernel
theorem d_M_isGood_65 : decode b_M_isGood 65 = .ok (.getfield 23, 3) := by decide +kernel
theorem d_M_isGood_68 : decode b_M_isGood 68 = .ok (.bipush 32, 2) := by decide +kernel
theorem d_M_isGood_70 : decode b_M_isGood 70 = .ok (.iload_n 1, 1) := by decide +kernel
theorem d_M_isGood_71 : decode b_M_isGood 71 = .ok (.iadd, 1) := by decide +kernel
theorem d_M_isGood_72 : decode b_M_isGood 72 = .ok (.laload, 1) := by decide +kernel
theorem d_M_isGood_73 : decode b_M_isGood 73 = .ok (.aload_n 0, 1) := by decide +kernel
theorem d_M_isGood_74 : decode b_M_isGood 74 = .ok (.getfield 23, 3) := by decide +kernel
theorem d_M_isGood_77 : decode b_M_isGood 77 = .ok (.bipush 64, 2) := by decide +kernel
theorem d_M_isGood_79 : decode b_M_isGood 79 = .ok (.iload_n 1, 1) := by decide +kernel
theorem d_M_isGood_80 : decode b_M_isGood 80 = .ok (.iadd, 1) := by decide +kernel
theorem d_M_isGood_81 : decode b_M_isGood 81 = .ok (.laload, 1) := by decide +kernel
theorem d_M_isGood_82 : decode b_M_isGood 82 = .ok (.invokestatic 60, 3) := by decide +kernel
theorem d_M_isGood_85 : decode b_M_isGood 85 = .ok (.lconst 0, 1) := by decide +kernel
theorem d_M_isGood_86 : decode b_M_isGood 86 = .ok (.lcmp, 1) := by decide +kernel
theorem d_M_isGood_87 : decode b_M_isGood 87 = .ok (.ifCond .lt 7, 3) := by decide +kernel
theorem d_M_isGood_90 : decode b_M_isGood 90 = .ok (.iconst 1, 1) := by decide +kernel
theorem d_M_isGood_91 : decode b_M_isGood 91 = .ok (.goto 4, 3) := by decide +kernel
theorem d_M_isGood_94 : decode b_M_isGood 94 = .ok (.iconst 0, 1) := by decide +kernel
theorem d_M_isGood_95 : decode b_M_isGood 95 = .ok (.ireturn, 1) := by decide +kernel
theorem d_M_stepped_0 : decode b_M_stepped 0 = .ok (.aload_n 0, 1) := by decide +kernel
theorem d_M_stepped_1 : decode b_M_stepped 1 = .ok (.getfield 7, 3) := by decide +kernel
theorem d_M_stepped_4 : decode b_M_stepped 4 = .ok (.iconst 4, 1) := by decide +kernel
theorem d_M_stepped_5 : decode b_M_stepped 5 = .ok (.laload, 1) := by decide +kernel
theorem d_M_stepped_6 : decode b_M_stepped 6 = .ok (.l2i, 1) := by decide +kernel
theorem d_M_stepped_7 : decode b_M_stepped 7 = .ok (.istore_n 3, 1) := by decide +kernel
theorem d_M_stepped_8 : decode b_M_stepped 8 = .ok (.iconst 0, 1) := by decide +kernel
theorem d_M_stepped_9 : decode b_M_stepped 9 = .ok (.istore 4, 2) := by decide +kernel
theorem d_M_stepped_11 : decode b_M_stepped 11 = .ok (.iload 4, 2) := by decide +kernel
theorem d_M_stepped_13 : decode b_M_stepped 13 = .ok (.iload_n 3, 1) := by decide +kernel
theorem d_M_stepped_14 : decode b_M_stepped 14 = .ok (.if_icmp .gt 21, 3) := by decide +kernel
theorem d_M_stepped_17 : decode b_M_stepped 17 = .ok (.aload_n 0, 1) := by decide +kernel
theorem d_M_stepped_18 : decode b_M_stepped 18 = .ok (.lload_n 1, 1) := by decide +kernel
theorem d_M_stepped_19 : decode b_M_stepped 19 = .ok (.iload 4, 2) := by decide +kernel
theorem d_M_stepped_21 : decode b_M_stepped 21 = .ok (.invokevirtual 135, 3) := by decide +kernel
theorem d_M_stepped_24 : decode b_M_stepped 24 = .ok (.ifCond .ne 5, 3) := by decide +kernel
theorem d_M_stepped_27 : decode b_M_stepped 27 = .ok (.iconst 0, 1) := by decide +kernel
theorem d_M_stepped_28 : decode b_M_stepped 28 = .ok (.ireturn, 1) := by decide +kernel
theorem d_M_stepped_29 : decode b_M_stepped 29 = .ok (.iinc 4 1, 3) := by decide +kernel
theorem d_M_stepped_32 : decode b_M_stepped 32 = .ok (.goto (-21), 3) := by decide +kernel
theorem d_M_stepped_35 : decode b_M_stepped 35 = .ok (.aload_n 0, 1) := by decide +kernel
theorem d_M_stepped_36 : decode b_M_stepped 36 = .ok (.lconst 0, 1) := by decide +kernel
theorem d_M_stepped_37 : decode b_M_stepped 37 = .ok (.putfield 139, 3) := by decide +kernel
theorem d_M_stepped_40 : decode b_M_stepped 40 = .ok (.aload_n 0, 1) := by decide +kernel
theorem d_M_stepped_41 : decode b_M_stepped 41 = .ok (.lconst 0, 1) := by decide +kernel
theorem d_M_stepped_42 : decode b_M_stepped 42 = .ok (.putfield 143, 3) := by decide +kernel
theorem d_M_stepped_45 : decode b_M_stepped 45 = .ok (.iconst 0, 1) := by decide +kernel
theorem d_M_stepped_46 : decode b_M_stepped 46 = .ok (.istore 4, 2) := by decide +kernel
theorem d_M_stepped_48 : decode b_M_stepped 48 = .ok (.iload 4, 2) := by decide +kernel
theorem d_M_stepped_50 : decode b_M_stepped 50 = .ok (.iload_n 3, 1) := by decide +kernel
theorem d_M_stepped_51 : decode b_M_stepped 51 = .ok (.if_icmp .ge 248, 3) := by decide +kernel
theorem d_M_stepped_54 : decode b_M_stepped 54 = .ok (.iconst 0, 1) := by decide +kernel
theorem d_M_stepped_55 : decode b_M_stepped 55 = .ok (.istore 5, 2) := by decide +kernel
theorem d_M_stepped_57 : decode b_M_stepped 57 = .ok (.iload 5, 2) := by decide +kernel
theorem d_M_stepped_59 : decode b_M_stepped 59 = .ok (.iconst 4, 1) := by decide +kernel
theorem d_M_stepped_60 : decode b_M_stepped 60 = .ok (.if_icmp .ge 68, 3) := by decide +kernel
theorem d_M_stepped_63 : decode b_M_stepped 63 = .ok (.aload_n 0, 1) := by decide +kernel
theorem d_M_stepped_64 : decode b_M_stepped 64 = .ok (.getfield 23, 3) := by decide +kernel
theorem d_M_stepped_67 : decode b_M_stepped 67 = .ok (.bipush 32, 2) := by decide +kernel
theorem d_M_stepped_69 : decode b_M_stepped 69 = .ok (.iload 5, 2) := by decide +kernel
theorem d_M_stepped_71 : decode b_M_stepped 71 = .ok (.imul, 1) := by decide +kernel
theorem d_M_stepped_72 : decode b_M_stepped 72 = .ok (.iload 4, 2) := by decide +kernel
theorem d_M_stepped_74 : decode b_M_stepped 74 = .ok (.iadd, 1) := by decide +kernel
theorem d_M_stepped_75 : decode b_M_stepped 75 = .ok (.aload_n 0, 1) := by decide +kernel
theorem d_M_stepped_76 : decode b_M_stepped 76 = .ok (.getfield 7, 3) := by decide +kernel
theorem d_M_stepped_79 : decode b_M_stepped 79 = .ok (.bipush 8, 2) := by decide +kernel
theorem d_M_stepped_81 : decode b_M_stepped 81 = .ok (.bipush 32, 2) := by decide +kernel
theorem d_M_stepped_83 : decode b_M_stepped 83 = .ok (.iload 5, 2) := by decide +kernel
theorem d_M_stepped_85 : decode b_M_stepped 85 = .ok (.imul, 1) := by decide +kernel
theorem d_M_stepped_86 : decode b_M_stepped 86 = .ok (.iadd, 1) := by decide +kernel
theorem d_M_stepped_87 : decode b_M_stepped 87 = .ok (.iload 4, 2) := by decide +kernel
theorem d_M_stepped_89 : decode b_M_stepped 89 = .ok (.iadd, 1) := by decide +kernel
theorem d_M_stepped_90 : decode b_M_stepped 90 = .ok (.laload, 1) := by decide +kernel
theorem d_M_stepped_91 : decode b_M_stepped 91 = .ok (.aload_n 0, 1) := by decide +kernel
theorem d_M_stepped_92 : decode b_M_stepped 92 = .ok (.getfield 20, 3) := by decide +kernel
theorem d_M_stepped_95 : decode b_M_stepped 95 = .ok (.bipush 33, 2) := by decide +kernel
theorem d_M_stepped_97 : decode b_M_stepped 97 = .ok (.iload 5, 2) := by decide +kernel
theorem d_M_stepped_99 : decode b_M_stepped 99 = .ok (.imul, 1) := by decide +kernel
theorem d_M_stepped_100 : decode b_M_stepped 100 = .ok (.iload 4, 2) := by decide +kernel
theorem d_M_stepped_102 : decode b_M_stepped 102 = .ok (.iadd, 1) := by decide +kernel
theorem d_M_stepped_103 : decode b_M_stepped 103 = .ok (.laload, 1) := by decide +kernel
theorem d_M_stepped_104 : decode b_M_stepped 104 = .ok (.ladd, 1) := by decide +kernel
theorem d_M_stepped_105 : decode b_M_stepped 105 = .ok (.aload_n 0, 1) := by decide +kernel
theorem d_M_stepped_106 : decode b_M_stepped 106 = .ok (.getfield 20, 3) := by decide +kernel
theorem d_M_stepped_109 : decode b_M_stepped 109 = .ok (.bipush 33, 2) := by decide +kernel
theorem d_M_stepped_111 : decode b_M_stepped 111 = .ok (.iload 5, 2) := by decide +kernel
theorem d_M_stepped_113 : decode b_M_stepped 113 = .ok (.imul, 1) := by decide +kernel
theorem d_M_stepped_114 : decode b_M_stepped 114 = .ok (.iload 4, 2) := by decide +kernel
theorem d_M_stepped_116 : decode b_M_stepped 116 = .ok (.iadd, 1) := by decide +kernel
theorem d_M_stepped_117 : decode b_M_stepped 117 = .ok (.iconst 1, 1) := by decide +kernel
theorem d_M_stepped_118 : decode b_M_stepped 118 = .ok (.iadd, 1) := by decide +kernel
theorem d_M_stepped_119 : decode b_M_stepped 119 = .ok (.laload, 1) := by decide +kernel
theorem d_M_stepped_120 : decode b_M_stepped 120 = .ok (.lsub, 1) := by decide +kernel
theorem d_M_stepped_121 : decode b_M_stepped 121 = .ok (.lastore, 1) := by decide +kernel
theorem d_M_stepped_122 : decode b_M_stepped 122 = .ok (.iinc 5 1, 3) := by decide +kernel
theorem d_M_stepped_125 : decode b_M_stepped 125 = .ok (.goto (-68), 3) := by decide +kernel
theorem d_M_stepped_128 : decode b_M_stepped 128 = .ok (.aload_n 0, 1) := by decide +kernel
theorem d_M_stepped_129 : decode b_M_stepped 129 = .ok (.iload 4, 2) := by decide +kernel
theorem d_M_stepped_131 : decode b_M_stepped 131 = .ok (.invokevirtual 146, 3) := by decide +kernel
theorem d_M_stepped_134 : decode b_M_stepped 134 = .ok (.ifCond .ne 5, 3) := by decide +kernel
theorem d_M_stepped_137 : decode b_M_stepped 137 = .ok (.iconst 0, 1) := by decide +kernel
theorem d_M_stepped_138 : decode b_M_stepped 138 = .ok (.ireturn, 1) := by decide +kernel
theorem d_M_stepped_139 : decode b_M_stepped 139 = .ok (.aload_n 0, 1) := by decide +kernel
theorem d_M_stepped_140 : decode b_M_stepped 140 = .ok (.getfield 23, 3) := by decide +kernel
theorem d_M_stepped_143 : decode b_M_stepped 143 = .ok (.iload 4, 2) := by decide +kernel
theorem d_M_stepped_145 : decode b_M_stepped 145 = .ok (.laload, 1) := by decide +kernel
theorem d_M_stepped_146 : decode b_M_stepped 146 = .ok (.lstore 5, 2) := by decide +kernel
theorem d_M_stepped_148 : decode b_M_stepped 148 = .ok (.ldc2_w 84, 3) := by decide +kernel
theorem d_M_stepped_151 : decode b_M_stepped 151 = .ok (.aload_n 0, 1) := by decide +kernel
theorem d_M_stepped_152 : decode b_M_stepped 152 = .ok (.lload 5, 2) := by decide +kernel
theorem d_M_stepped_154 : decode b_M_stepped 154 = .ok (.aload_n 0, 1) := by decide +kernel
theorem d_M_stepped_155 : decode b_M_stepped 155 = .ok (.getfield 23, 3) := by decide +kernel
theorem d_M_stepped_158 : decode b_M_stepped 158 = .ok (.bipush 32, 2) := by decide +kernel
theorem d_M_stepped_160 : decode b_M_stepped 160 = .ok (.iload 4, 2) := by decide +kernel
theorem d_M_stepped_162 : decode b_M_stepped 162 = .ok (.iadd, 1) := by decide +kernel
theorem d_M_stepped_163 : decode b_M_stepped 163 = .ok (.laload, 1) := by decide +kernel
theorem d_M_stepped_164 : decode b_M_stepped 164 = .ok (.aload_n 0, 1) := by decide +kernel
theorem d_M_stepped_165 : decode b_M_stepped 165 = .ok (.getfield 23, 3) := by decide +kernel
theorem d_M_stepped_168 : decode b_M_stepped 168 = .ok (.bipush 64, 2) := by decide +kernel
theorem d_M_stepped_170 : decode b_M_stepped 170 = .ok (.iload 4, 2) := by decide +kernel
theorem d_M_stepped_172 : decode b_M_stepped 172 = .ok (.iadd, 1) := by decide +kernel
theorem d_M_stepped_173 : decode b_M_stepped 173 = .ok (.laload, 1) := by decide +kernel
theorem d_M_stepped_174 : decode b_M_stepped 174 = .ok (.invokevirtual 86, 3) := by decide +kernel
theorem d_M_stepped_177 : decode b_M_stepped 177 = .ok (.lmul, 1) := by decide +kernel
theorem d_M_stepped_178 : decode b_M_stepped 178 = .ok (.lload 5, 2) := by decide +kernel
theorem d_M_stepped_180 : decode b_M_stepped 180 = .ok (.invokestatic 56, 3) := by decide +kernel
theorem d_M_stepped_183 : decode b_M_stepped 183 = .ok (.aload_n 0, 1) := by decide +kernel
theorem d_M_stepped_184 : decode b_M_stepped 184 = .ok (.getfield 7, 3) := by decide +kernel
theorem d_M_stepped_187 : decode b_M_stepped 187 = .ok (.iconst 1, 1) := by decide +kernel
theorem d_M_stepped_188 : decode b_M_stepped 188 = .ok (.laload, 1) := by decide +kernel
theorem d_M_stepped_189 : decode b_M_stepped 189 = .ok (.lcmp, 1) := by decide +kernel
theorem d_M_stepped_190 : decode b_M_stepped 190 = .ok (.ifCond .lt 92, 3) := by decide +kernel
theorem d_M_stepped_193 : decode b_M_stepped 193 = .ok (.aload_n 0, 1) := by decide +kernel
theorem d_M_stepped_194 : decode b_M_stepped 194 = .ok (.getfield 23, 3) := by decide +kernel
theorem d_M_stepped_197 : decode b_M_stepped 197 = .ok (.bipush 96, 2) := by decide +kernel
theorem d_M_stepped_199 : decode b_M_stepped 199 = .ok (.iload 4, 2) := by decide +kernel
theorem d_M_stepped_201 : decode b_M_stepped 201 = .ok (.iadd, 1) := by decide +kernel
theorem d_M_stepped_202 : decode b_M_stepped 202 = .ok (.laload, 1) := by decide +kernel
theorem d_M_stepped_203 : decode b_M_stepped 203 = .ok (.aload_n 0, 1) := by decide +kernel
theorem d_M_stepped_204 : decode b_M_stepped 204 = .ok (.getfield 7, 3) := by decide +kernel
theorem d_M_stepped_207 : decode b_M_stepped 207 = .ok (.iconst 2, 1) := by decide +kernel
theorem d_M_stepped_208 : decode b_M_stepped 208 = .ok (.laload, 1) := by decide +kernel
theorem d_M_stepped_209 : decode b_M_stepped 209 = .ok (.lmul, 1) := by decide +kernel
theorem d_M_stepped_210 : decode b_M_stepped 210 = .ok (.ldc2_w 84, 3) := by decide +kernel
theorem d_M_stepped_213 : decode b_M_stepped 213 = .ok (.ldiv, 1) := by decide +kernel
theorem d_M_stepped_214 : decode b_M_stepped 214 = .ok (.lstore 7, 2) := by decide +kernel
theorem d_M_stepped_216 : decode b_M_stepped 216 = .ok (.aload_n 0, 1) := by decide +kernel
theorem d_M_stepped_217 : decode b_M_stepped 217 = .ok (.getfield 23, 3) := by decide +kernel
theorem d_M_stepped_220 : decode b_M_stepped 220 = .ok (.bipush 96, 2) := by decide +kernel
theorem d_M_stepped_222 : decode b_M_stepped 222 = .ok (.iload 4, 2) := by decide +kernel
theorem d_M_stepped_224 : decode b_M_stepped 224 = .ok (.iadd, 1) := by decide +kernel
theorem d_M_stepped_225 : decode b_M_stepped 225 = .ok (.dup2, 1) := by decide +kernel
theorem d_M_stepped_226 : decode b_M_stepped 226 = .ok (.laload, 1) := by decide +kernel
theorem d_M_stepped_227 : decode b_M_stepped 227 = .ok (.lload 7, 2) := by decide +kernel
theorem d_M_stepped_229 : decode b_M_stepped 229 = .ok (.lsub, 1) := by decide +kernel
theorem d_M_stepped_230 : decode b_M_stepped 230 = .ok (.lastore, 1) := by decide +kernel
theorem d_M_stepped_231 : decode b_M_stepped 231 = .ok (.aload_n 0, 1) := by decide +kernel
theorem d_M_stepped_232 : decode b_M_stepped 232 = .ok (.getfield 23, 3) := by decide +kernel
theorem d_M_stepped_235 : decode b_M_stepped 235 = .ok (.bipush 64, 2) := by decide +kernel
theorem d_M_stepped_237 : decode b_M_stepped 237 = .ok (.iload 4, 2) := by decide +kernel
theorem d_M_stepped_239 : decode b_M_stepped 239 = .ok (.iadd, 1) := by decide +kernel
theorem d_M_stepped_240 : decode b_M_stepped 240 = .ok (.dup2, 1) := by decide +kernel
theorem d_M_stepped_241 : decode b_M_stepped 241 = .ok (.laload, 1) := by decide +kernel
theorem d_M_stepped_242 : decode b_M_stepped 242 = .ok (.lload 7, 2) := by decide +kernel
theorem d_M_stepped_244 : decode b_M_stepped 244 = .ok (.aload_n 0, 1) := by decide +kernel
theorem d_M_stepped_245 : decode b_M_stepped 245 = .ok (.getfield 7, 3) := by decide +kernel
theorem d_M_stepped_248 : decode b_M_stepped 248 = .ok (.iconst 3, 1) := by decide +kernel
theorem d_M_stepped_249 : decode b_M_stepped 249 = .ok (.laload, 1) := by decide +kernel
theorem d_M_stepped_250 : decode b_M_stepped 250 = .ok (.lmul, 1) := by decide +kernel
theorem d_M_stepped_251 : decode b_M_stepped 251 = .ok (.ladd, 1) := by decide +kernel
theorem d_M_stepped_252 : decode b_M_stepped 252 = .ok (.lastore, 1) := by decide +kernel
theorem d_M_stepped_253 : decode b_M_stepped 253 = .ok (.aload_n 0, 1) := by decide +kernel
theorem d_M_stepped_254 : decode b_M_stepped 254 = .ok (.dup, 1) := by decide +kernel
theorem d_M_stepped_255 : decode b_M_stepped 255 = .ok (.getfield 139, 3) := by decide +kernel
theorem d_M_stepped_258 : decode b_M_stepped 258 = .ok (.lload 7, 2) := by decide +kernel
theorem d_M_stepped_260 : decode b_M_stepped 260 = .ok (.ladd, 1) := by decide +kernel
theorem d_M_stepped_261 : decode b_M_stepped 261 = .ok (.putfield 139, 3) := by decide +kernel
theorem d_M_stepped_264 : decode b_M_stepped 264 = .ok (.aload_n 0, 1) := by decide +kernel
theorem d_M_stepped_265 : decode b_M_stepped 265 = .ok (.dup, 1) := by decide +kernel
theorem d_M_stepped_266 : decode b_M_stepped 266 = .ok (.getfield 143, 3) := by decide +kernel
theorem d_M_stepped_269 : decode b_M_stepped 269 = .ok (.lload 7, 2) := by decide +kernel
theorem d_M_stepped_271 : decode b_M_stepped 271 = .ok (.aload_n 0, 1) := by decide +kernel
theorem d_M_stepped_272 : decode b_M_stepped 272 = .ok (.getfield 7, 3) := by decide +kernel
theorem d_M_stepped_275 : decode b_M_stepped 275 = .ok (.iconst 3, 1) := by decide +kernel
theorem d_M_stepped_276 : decode b_M_stepped 276 = .ok (.laload, 1) := by decide +kernel
theorem d_M_stepped_277 : decode b_M_stepped 277 = .ok (.lmul, 1) := by decide +kernel
theorem d_M_stepped_278 : decode b_M_stepped 278 = .ok (.ladd, 1) := by decide +kernel
theorem d_M_stepped_279 : decode b_M_stepped 279 = .ok (.putfield 143, 3) := by decide +kernel
theorem d_M_stepped_282 : decode b_M_stepped 282 = .ok (.aload_n 0, 1) := by decide +kernel
theorem d_M_stepped_283 : decode b_M_stepped 283 = .ok (.iload 4, 2) := by decide +kernel
theorem d_M_stepped_285 : decode b_M_stepped 285 = .ok (.invokevirtual 146, 3) := by decide +kernel
theorem d_M_stepped_288 : decode b_M_stepped 288 = .ok (.ifCond .ne 5, 3) := by decide +kernel
theorem d_M_stepped_291 : decode b_M_stepped 291 = .ok (.iconst 0, 1) := by decide +kernel
theorem d_M_stepped_292 : decode b_M_stepped 292 = .ok (.ireturn, 1) := by decide +kernel
theorem d_M_stepped_293 : decode b_M_stepped 293 = .ok (.iinc 4 1, 3) := by decide +kernel
theorem d_M_stepped_296 : decode b_M_stepped 296 = .ok (.goto (-248), 3) := by decide +kernel
theorem d_M_stepped_299 : decode b_M_stepped 299 = .ok (.iconst 1, 1) := by decide +kernel
theorem d_M_stepped_300 : decode b_M_stepped 300 = .ok (.ireturn, 1) := by decide +kernel
theorem d_M_takesStep_0 : decode b_M_takesStep 0 = .ok (.aload_n 0, 1) := by decide +kernel
theorem d_M_takesStep_1 : decode b_M_takesStep 1 = .ok (.getfield 7, 3) := by decide +kernel
theorem d_M_takesStep_4 : decode b_M_takesStep 4 = .ok (.iconst 4, 1) := by decide +kernel
theorem d_M_takesStep_5 : decode b_M_takesStep 5 = .ok (.laload, 1) := by decide +kernel
theorem d_M_takesStep_6 : decode b_M_takesStep 6 = .ok (.l2i, 1) := by decide +kernel
theorem d_M_takesStep_7 : decode b_M_takesStep 7 = .ok (.istore_n 1, 1) := by decide +kernel
theorem d_M_takesStep_8 : decode b_M_takesStep 8 = .ok (.aload_n 0, 1) := by decide +kernel
theorem d_M_takesStep_9 : decode b_M_takesStep 9 = .ok (.getfield 7, 3) := by decide +kernel
theorem d_M_takesStep_12 : decode b_M_takesStep 12 = .ok (.bipush 7, 2) := by decide +kernel
theorem d_M_takesStep_14 : decode b_M_takesStep 14 = .ok (.dup2, 1) := by decide +kernel
theorem d_M_takesStep_15 : decode b_M_takesStep 15 = .ok (.laload, 1) := by decide +kernel
theorem d_M_takesStep_16 : decode b_M_takesStep 16 = .ok (.lconst 1, 1) := by decide +kernel
theorem d_M_takesStep_17 : decode b_M_takesStep 17 = .ok (.ladd, 1) := by decide +kernel
theorem d_M_takesStep_18 : decode b_M_takesStep 18 = .ok (.lastore, 1) := by decide +kernel
theorem d_M_takesStep_19 : decode b_M_takesStep 19 = .ok (.iconst 0, 1) := by decide +kernel
theorem d_M_takesStep_20 : decode b_M_takesStep 20 = .ok (.istore_n 2, 1) := by decide +kernel
theorem d_M_takesStep_21 : decode b_M_takesStep 21 = .ok (.iload_n 2, 1) := by decide +kernel
theorem d_M_takesStep_22 : decode b_M_takesStep 22 = .ok (.iconst 4, 1) := by decide +kernel
theorem d_M_takesStep_23 : decode b_M_takesStep 23 = .ok (.if_icmp .ge 81, 3) := by decide +kernel
theorem d_M_takesStep_26 : decode b_M_takesStep 26 = .ok (.aload_n 0, 1) := by decide +kernel
theorem d_M_takesStep_27 : decode b_M_takesStep 27 = .ok (.getfield 7, 3) := by decide +kernel
theorem d_M_takesStep_30 : decode b_M_takesStep 30 = .ok (.sipush 136, 3) := by decide +kernel
theorem d_M_takesStep_33 : decode b_M_takesStep 33 = .ok (.iload_n 2, 1) := by decide +kernel
theorem d_M_takesStep_34 : decode b_M_takesStep 34 = .ok (.iadd, 1) := by decide +kernel
theorem d_M_takesStep_35 : decode b_M_takesStep 35 = .ok (.dup2, 1) := by decide +kernel
theorem d_M_takesStep_36 : decode b_M_takesStep 36 = .ok (.laload, 1) := by decide +kernel
theorem d_M_takesStep_37 : decode b_M_takesStep 37 = .ok (.aload_n 0, 1) := by decide +kernel
theorem d_M_takesStep_38 : decode b_M_takesStep 38 = .ok (.getfield 20, 3) := by decide +kernel
theorem d_M_takesStep_41 : decode b_M_takesStep 41 = .ok (.bipush 33, 2) := by decide +kernel
theorem d_M_takesStep_43 : decode b_M_takesStep 43 = .ok (.iload_n 2, 1) := by decide +kernel
theorem d_M_takesStep_44 : decode b_M_takesStep 44 = .ok (.imul, 1) := by decide +kernel
theorem d_M_takesStep_45 : decode b_M_takesStep 45 = .ok (.laload, 1) := by decide +kernel
theorem d_M_takesStep_46 : decode b_M_takesStep 46 = .ok (.aload_n 0, 1) := by decide +kernel
theorem d_M_takesStep_47 : decode b_M_takesStep 47 = .ok (.getfield 20, 3) := by decide +kernel
theorem d_M_takesStep_50 : decode b_M_takesStep 50 = .ok (.bipush 33, 2) := by decide +kernel
theorem d_M_takesStep_52 : decode b_M_takesStep 52 = .ok (.iload_n 2, 1) := by decide +kernel
theorem d_M_takesStep_53 : decode b_M_takesStep 53 = .ok (.imul, 1) := by decide +kernel
theorem d_M_takesStep_54 : decode b_M_takesStep 54 = .ok (.iload_n 1, 1) := by decide +kernel
theorem d_M_takesStep_55 : decode b_M_takesStep 55 = .ok (.iadd, 1) := by decide +kernel
theorem d_M_takesStep_56 : decode b_M_takesStep 56 = .ok (.laload, 1) := by decide +kernel
theorem d_M_takesStep_57 : decode b_M_takesStep 57 = .ok (.lsub, 1) := by decide +kernel
theorem d_M_takesStep_58 : decode b_M_takesStep 58 = .ok (.ladd, 1) := by decide +kernel
theorem d_M_takesStep_59 : decode b_M_takesStep 59 = .ok (.lastore, 1) := by decide +kernel
theorem d_M_takesStep_60 : decode b_M_takesStep 60 = .ok (.iconst 0, 1) := by decide +kernel
theorem d_M_takesStep_61 : decode b_M_takesStep 61 = .ok (.istore_n 3, 1) := by decide +kernel
theorem d_M_takesStep_62 : decode b_M_takesStep 62 = .ok (.iload_n 3, 1) := by decide +kernel
theorem d_M_takesStep_63 : decode b_M_takesStep 63 = .ok (.iload_n 1, 1) := by decide +kernel
theorem d_M_takesStep_64 : decode b_M_takesStep 64 = .ok (.if_icmp .ge 34, 3) := by decide +kernel
theorem d_M_takesStep_67 : decode b_M_takesStep 67 = .ok (.aload_n 0, 1) := by decide +kernel
theorem d_M_takesStep_68 : decode b_M_takesStep 68 = .ok (.getfield 7, 3) := by decide +kernel
theorem d_M_takesStep_71 : decode b_M_takesStep 71 = .ok (.bipush 8, 2) := by decide +kernel
theorem d_M_takesStep_73 : decode b_M_takesStep 73 = .ok (.bipush 32, 2) := by decide +kernel
theorem d_M_takesStep_75 : decode b_M_takesStep 75 = .ok (.iload_n 2, 1) := by decide +kernel
theorem d_M_takesStep_76 : decode b_M_takesStep 76 = .ok (.imul, 1) := by decide +kernel
theorem d_M_takesStep_77 : decode b_M_takesStep 77 = .ok (.iadd, 1) := by decide +kernel
theorem d_M_takesStep_78 : decode b_M_takesStep 78 = .ok (.iload_n 3, 1) := by decide +kernel
theorem d_M_takesStep_79 : decode b_M_takesStep 79 = .ok (.iadd, 1) := by decide +kernel
theorem d_M_takesStep_80 : decode b_M_takesStep 80 = .ok (.aload_n 0, 1) := by decide +kernel
theorem d_M_takesStep_81 : decode b_M_takesStep 81 = .ok (.getfield 23, 3) := by decide +kernel
theorem d_M_takesStep_84 : decode b_M_takesStep 84 = .ok (.bipush 32, 2) := by decide +kernel
theorem d_M_takesStep_86 : decode b_M_takesStep 86 = .ok (.iload_n 2, 1) := by decide +kernel
theorem d_M_takesStep_87 : decode b_M_takesStep 87 = .ok (.imul, 1) := by decide +kernel
theorem d_M_takesStep_88 : decode b_M_takesStep 88 = .ok (.iload_n 3, 1) := by decide +kernel
theorem d_M_takesStep_89 : decode b_M_takesStep 89 = .ok (.iadd, 1) := by decide +kernel
theorem d_M_takesStep_90 : decode b_M_takesStep 90 = .ok (.laload, 1) := by decide +kernel
theorem d_M_takesStep_91 : decode b_M_takesStep 91 = .ok (.lastore, 1) := by decide +kernel
theorem d_M_takesStep_92 : decode b_M_takesStep 92 = .ok (.iinc 3 1, 3) := by decide +kernel
theorem d_M_takesStep_95 : decode b_M_takesStep 95 = .ok (.goto (-33), 3) := by decide +kernel
theorem d_M_takesStep_98 : decode b_M_takesStep 98 = .ok (.iinc 2 1, 3) := by decide +kernel
theorem d_M_takesStep_101 : decode b_M_takesStep 101 = .ok (.goto (-80), 3) := by decide +kernel
theorem d_M_takesStep_104 : decode b_M_takesStep 104 = .ok (.aload_n 0, 1) := by decide +kernel
theorem d_M_takesStep_105 : decode b_M_takesStep 105 = .ok (.getfield 7, 3) := by decide +kernel
theorem d_M_takesStep_108 : decode b_M_takesStep 108 = .ok (.sipush 140, 3) := by decide +kernel
theorem d_M_takesStep_111 : decode b_M_takesStep 111 = .ok (.dup2, 1) := by decide +kernel
theorem d_M_takesStep_112 : decode b_M_takesStep 112 = .ok (.laload, 1) := by decide +kernel
theorem d_M_takesStep_113 : decode b_M_takesStep 113 = .ok (.aload_n 0, 1) := by decide +kernel
theorem d_M_takesStep_114 : decode b_M_takesStep 114 = .ok (.getfield 143, 3) := by decide +kernel
theorem d_M_takesStep_117 : decode b_M_takesStep 117 = .ok (.ladd, 1) := by decide +kernel
theorem d_M_takesStep_118 : decode b_M_takesStep 118 = .ok (.lastore, 1) := by decide +kernel
theorem d_M_takesStep_119 : decode b_M_takesStep 119 = .ok (.aload_n 0, 1) := by decide +kernel
theorem d_M_takesStep_120 : decode b_M_takesStep 120 = .ok (.getfield 7, 3) := by decide +kernel
theorem d_M_takesStep_123 : decode b_M_takesStep 123 = .ok (.sipush 141, 3) := by decide +kernel
theorem d_M_takesStep_126 : decode b_M_takesStep 126 = .ok (.dup2, 1) := by decide +kernel
theorem d_M_takesStep_127 : decode b_M_takesStep 127 = .ok (.laload, 1) := by decide +kernel
theorem d_M_takesStep_128 : decode b_M_takesStep 128 = .ok (.aload_n 0, 1) := by decide +kernel
theorem d_M_takesStep_129 : decode b_M_takesStep 129 = .ok (.getfield 139, 3) := by decide +kernel
theorem d_M_takesStep_132 : decode b_M_takesStep 132 = .ok (.ladd, 1) := by decide +kernel
theorem d_M_takesStep_133 : decode b_M_takesStep 133 = .ok (.lastore, 1) := by decide +kernel
theorem d_M_takesStep_134 : decode b_M_takesStep 134 = .ok (.iconst 0, 1) := by decide +kernel
theorem d_M_takesStep_135 : decode b_M_takesStep 135 = .ok (.istore_n 2, 1) := by decide +kernel
theorem d_M_takesStep_136 : decode b_M_takesStep 136 = .ok (.iload_n 2, 1) := by decide +kernel
theorem d_M_takesStep_137 : decode b_M_takesStep 137 = .ok (.iload_n 1, 1) := by decide +kernel
theorem d_M_takesStep_138 : decode b_M_takesStep 138 = .ok (.if_icmp .ge 60, 3) := by decide +kernel
theorem d_M_takesStep_141 : decode b_M_takesStep 141 = .ok (.aload_n 0, 1) := by decide +kernel
theorem d_M_takesStep_142 : decode b_M_takesStep 142 = .ok (.iload_n 2, 1) := by decide +kernel
theorem d_M_takesStep_143 : decode b_M_takesStep 143 = .ok (.invokevirtual 93, 3) := by decide +kernel
theorem d_M_takesStep_146 : decode b_M_takesStep 146 = .ok (.aload_n 0, 1) := by decide +kernel
theorem d_M_takesStep_147 : decode b_M_takesStep 147 = .ok (.getfield 7, 3) := by decide +kernel
theorem d_M_takesStep_150 : decode b_M_takesStep 150 = .ok (.sipush 146, 3) := by decide +kernel
theorem d_M_takesStep_153 : decode b_M_takesStep 153 = .ok (.iload_n 2, 1) := by decide +kernel
theorem d_M_takesStep_154 : decode b_M_takesStep 154 = .ok (.iadd, 1) := by decide +kernel
theorem d_M_takesStep_155 : decode b_M_takesStep 155 = .ok (.laload, 1) := by decide +kernel
theorem d_M_takesStep_156 : decode b_M_takesStep 156 = .ok (.lcmp, 1) := by decide +kernel
theorem d_M_takesStep_157 : decode b_M_takesStep 157 = .ok (.ifCond .le 35, 3) := by decide +kernel
theorem d_M_takesStep_160 : decode b_M_takesStep 160 = .ok (.aload_n 0, 1) := by decide +kernel
theorem d_M_takesStep_161 : decode b_M_takesStep 161 = .ok (.getfield 7, 3) := by decide +kernel
theorem d_M_takesStep_164 : decode b_M_takesStep 164 = .ok (.sipush 146, 3) := by decide +kernel
theorem d_M_takesStep_167 : decode b_M_takesStep 167 = .ok (.iload_n 2, 1) := by decide +kernel
theorem d_M_takesStep_168 : decode b_M_takesStep 168 = .ok (.iadd, 1) := by decide +kernel
theorem d_M_takesStep_169 : decode b_M_takesStep 169 = .ok (.aload_n 0, 1) := by decide +kernel
theorem d_M_takesStep_170 : decode b_M_takesStep 170 = .ok (.iload_n 2, 1) := by decide +kernel
theorem d_M_takesStep_171 : decode b_M_takesStep 171 = .ok (.invokevirtual 93, 3) := by decide +kernel
theorem d_M_takesStep_174 : decode b_M_takesStep 174 = .ok (.lastore, 1) := by decide +kernel
theorem d_M_takesStep_175 : decode b_M_takesStep 175 = .ok (.aload_n 0, 1) := by decide +kernel
theorem d_M_takesStep_176 : decode b_M_takesStep 176 = .ok (.getfield 7, 3) := by decide +kernel
theorem d_M_takesStep_179 : decode b_M_takesStep 179 = .ok (.sipush 178, 3) := by decide +kernel
theorem d_M_takesStep_182 : decode b_M_takesStep 182 = .ok (.iload_n 2, 1) := by decide +kernel
theorem d_M_takesStep_183 : decode b_M_takesStep 183 = .ok (.iadd, 1) := by decide +kernel
theorem d_M_takesStep_184 : decode b_M_takesStep 184 = .ok (.aload_n 0, 1) := by decide +kernel
theorem d_M_takesStep_185 : decode b_M_takesStep 185 = .ok (.getfield 7, 3) := by decide +kernel
theorem d_M_takesStep_188 : decode b_M_takesStep 188 = .ok (.bipush 7, 2) := by decide +kernel
theorem d_M_takesStep_190 : decode b_M_takesStep 190 = .ok (.laload, 1) := by decide +kernel
theorem d_M_takesStep_191 : decode b_M_takesStep 191 = .ok (.lastore, 1) := by decide +kernel
theorem d_M_takesStep_192 : decode b_M_takesStep 192 = .ok (.iinc 2 1, 3) := by decide +kernel
theorem d_M_takesStep_195 : decode b_M_takesStep 195 = .ok (.goto (-59), 3) := by decide +kernel
theorem d_M_takesStep_198 : decode b_M_takesStep 198 = .ok (.return_, 1) := by decide +kernel
theorem d_M_step_0 : decode b_M_step 0 = .ok (.aload_n 0, 1) := by decide +kernel
theorem d_M_step_1 : decode b_M_step 1 = .ok (.iload_n 1, 1) := by decide +kernel
theorem d_M_step_2 : decode b_M_step 2 = .ok (.i2l, 1) := by decide +kernel
theorem d_M_step_3 : decode b_M_step 3 = .ok (.lconst 1, 1) := by decide +kernel
theorem d_M_step_4 : decode b_M_step 4 = .ok (.ldc2_w 149, 3) := by decide +kernel
theorem d_M_step_7 : decode b_M_step 7 = .ok (.invokestatic 52, 3) := by decide +kernel
theorem d_M_step_10 : decode b_M_step 10 = .ok (.ifCond .eq 15, 3) := by decide +kernel
theorem d_M_step_13 : decode b_M_step 13 = .ok (.iload_n 2, 1) := by decide +kernel
theorem d_M_step_14 : decode b_M_step 14 = .ok (.i2l, 1) := by decide +kernel
theorem d_M_step_15 : decode b_M_step 15 = .ok (.lconst 1, 1) := by decide +kernel
theorem d_M_step_16 : decode b_M_step 16 = .ok (.ldc2_w 151, 3) := by decide +kernel
theorem d_M_step_19 : decode b_M_step 19 = .ok (.invokestatic 52, 3) := by decide +kernel
theorem d_M_step_22 : decode b_M_step 22 = .ok (.ifCond .ne 7, 3) := by decide +kernel
theorem d_M_step_25 : decode b_M_step 25 = .ok (.iconst 1, 1) := by decide +kernel
theorem d_M_step_26 : decode b_M_step 26 = .ok (.goto 25, 3) := by decide +kernel
theorem d_M_step_29 : decode b_M_step 29 = .ok (.aload_n 0, 1) := by decide +kernel
theorem d_M_step_30 : decode b_M_step 30 = .ok (.getfield 7, 3) := by decide +kernel
theorem d_M_step_33 : decode b_M_step 33 = .ok (.bipush 7, 2) := by decide +kernel
theorem d_M_step_35 : decode b_M_step 35 = .ok (.laload, 1) := by decide +kernel
theorem d_M_step_36 : decode b_M_step 36 = .ok (.iload_n 2, 1) := by decide +kernel
theorem d_M_step_37 : decode b_M_step 37 = .ok (.i2l, 1) := by decide +kernel
theorem d_M_step_38 : decode b_M_step 38 = .ok (.ladd, 1) := by decide +kernel
theorem d_M_step_39 : decode b_M_step 39 = .ok (.ldc2_w 153, 3) := by decide +kernel
theorem d_M_step_42 : decode b_M_step 42 = .ok (.lcmp, 1) := by decide +kernel
theorem d_M_step_43 : decode b_M_step 43 = .ok (.ifCond .le 7, 3) := by decide +kernel
theorem d_M_step_46 : decode b_M_step 46 = .ok (.iconst 2, 1) := by decide +kernel
theorem d_M_step_47 : decode b_M_step 47 = .ok (.goto 4, 3) := by decide +kernel
theorem d_M_step_50 : decode b_M_step 50 = .ok (.iconst 0, 1) := by decide +kernel
theorem d_M_step_51 : decode b_M_step 51 = .ok (.putfield 38, 3) := by decide +kernel
theorem d_M_step_54 : decode b_M_step 54 = .ok (.iconst 0, 1) := by decide +kernel
theorem d_M_step_55 : decode b_M_step 55 = .ok (.istore_n 3, 1) := by decide +kernel
theorem d_M_step_56 : decode b_M_step 56 = .ok (.aload_n 0, 1) := by decide +kernel
theorem d_M_step_57 : decode b_M_step 57 = .ok (.getfield 38, 3) := by decide +kernel
theorem d_M_step_60 : decode b_M_step 60 = .ok (.ifCond .ne 27, 3) := by decide +kernel
theorem d_M_step_63 : decode b_M_step 63 = .ok (.iload_n 3, 1) := by decide +kernel
theorem d_M_step_64 : decode b_M_step 64 = .ok (.iload_n 2, 1) := by decide +kernel
theorem d_M_step_65 : decode b_M_step 65 = .ok (.if_icmp .ge 22, 3) := by decide +kernel
theorem d_M_step_68 : decode b_M_step 68 = .ok (.aload_n 0, 1) := by decide +kernel
theorem d_M_step_69 : decode b_M_step 69 = .ok (.iload_n 1, 1) := by decide +kernel
theorem d_M_step_70 : decode b_M_step 70 = .ok (.i2l, 1) := by decide +kernel
theorem d_M_step_71 : decode b_M_step 71 = .ok (.invokevirtual 155, 3) := by decide +kernel
theorem d_M_step_74 : decode b_M_step 74 = .ok (.ifCond .eq 13, 3) := by decide +kernel
theorem d_M_step_77 : decode b_M_step 77 = .ok (.aload_n 0, 1) := by decide +kernel
theorem d_M_step_78 : decode b_M_step 78 = .ok (.invokevirtual 159, 3) := by decide +kernel
theorem d_M_step_81 : decode b_M_step 81 = .ok (.iinc 3 1, 3) := by decide +kernel
theorem d_M_step_84 : decode b_M_step 84 = .ok (.goto (-28), 3) := by decide +kernel
theorem d_M_step_87 : decode b_M_step 87 = .ok (.iload_n 3, 1) := by decide +kernel
theorem d_M_step_88 : decode b_M_step 88 = .ok (.ireturn, 1) := by decide +kernel
theorem d_M_greatest_0 : decode b_M_greatest 0 = .ok (.lload_n 0, 1) := by decide +kernel
theorem d_M_greatest_1 : decode b_M_greatest 1 = .ok (.ldc2_w 162, 3) := by decide +kernel
theorem d_M_greatest_4 : decode b_M_greatest 4 = .ok (.lcmp, 1) := by decide +kernel
theorem d_M_greatest_5 : decode b_M_greatest 5 = .ok (.ifCond .le 8, 3) := by decide +kernel
theorem d_M_greatest_8 : decode b_M_greatest 8 = .ok (.ldc 164, 2) := by decide +kernel
theorem d_M_greatest_10 : decode b_M_greatest 10 = .ok (.goto 5, 3) := by decide +kernel
theorem d_M_greatest_13 : decode b_M_greatest 13 = .ok (.lload_n 0, 1) := by decide +kernel
theorem d_M_greatest_14 : decode b_M_greatest 14 = .ok (.l2i, 1) := by decide +kernel
theorem d_M_greatest_15 : decode b_M_greatest 15 = .ok (.ireturn, 1) := by decide +kernel
theorem d_M_tube_0 : decode b_M_tube 0 = .ok (.aload_n 0, 1) := by decide +kernel
theorem d_M_tube_1 : decode b_M_tube 1 = .ok (.aload_n 0, 1) := by decide +kernel
theorem d_M_tube_2 : decode b_M_tube 2 = .ok (.iload_n 1, 1) := by decide +kernel
theorem d_M_tube_3 : decode b_M_tube 3 = .ok (.invokevirtual 68, 3) := by decide +kernel
theorem d_M_tube_6 : decode b_M_tube 6 = .ok (.ifCond .ne 7, 3) := by decide +kernel
theorem d_M_tube_9 : decode b_M_tube 9 = .ok (.iconst 1, 1) := by decide +kernel
theorem d_M_tube_10 : decode b_M_tube 10 = .ok (.goto 20, 3) := by decide +kernel
theorem d_M_tube_13 : decode b_M_tube 13 = .ok (.iload_n 2, 1) := by decide +kernel
theorem d_M_tube_14 : decode b_M_tube 14 = .ok (.i2l, 1) := by decide +kernel
theorem d_M_tube_15 : decode b_M_tube 15 = .ok (.lconst 0, 1) := by decide +kernel
theorem d_M_tube_16 : decode b_M_tube 16 = .ok (.ldc2_w 89, 3) := by decide +kernel
theorem d_M_tube_19 : decode b_M_tube 19 = .ok (.invokestatic 52, 3) := by decide +kernel
theorem d_M_tube_22 : decode b_M_tube 22 = .ok (.ifCond .eq 7, 3) := by decide +kernel
theorem d_M_tube_25 : decode b_M_tube 25 = .ok (.iconst 0, 1) := by decide +kernel
theorem d_M_tube_26 : decode b_M_tube 26 = .ok (.goto 4, 3) := by decide +kernel
theorem d_M_tube_29 : decode b_M_tube 29 = .ok (.iconst 2, 1) := by decide +kernel
theorem d_M_tube_30 : decode b_M_tube 30 = .ok (.putfield 38, 3) := by decide +kernel
theorem d_M_tube_33 : decode b_M_tube 33 = .ok (.aload_n 0, 1) := by decide +kernel
theorem d_M_tube_34 : decode b_M_tube 34 = .ok (.getfield 38, 3) := by decide +kernel
theorem d_M_tube_37 : decode b_M_tube 37 = .ok (.ifCond .le 5, 3) := by decide +kernel
theorem d_M_tube_40 : decode b_M_tube 40 = .ok (.iconst 0, 1) := by decide +kernel
theorem d_M_tube_41 : decode b_M_tube 41 = .ok (.ireturn, 1) := by decide +kernel
theorem d_M_tube_42 : decode b_M_tube 42 = .ok (.iload_n 2, 1) := by decide +kernel
theorem d_M_tube_43 : decode b_M_tube 43 = .ok (.iconst 4, 1) := by decide +kernel
theorem d_M_tube_44 : decode b_M_tube 44 = .ok (.if_icmp .ge 19, 3) := by decide +kernel
theorem d_M_tube_47 : decode b_M_tube 47 = .ok (.aload_n 0, 1) := by decide +kernel
theorem d_M_tube_48 : decode b_M_tube 48 = .ok (.getfield 7, 3) := by decide +kernel
theorem d_M_tube_51 : decode b_M_tube 51 = .ok (.bipush 8, 2) := by decide +kernel
theorem d_M_tube_53 : decode b_M_tube 53 = .ok (.bipush 32, 2) := by decide +kernel
theorem d_M_tube_55 : decode b_M_tube 55 = .ok (.iload_n 2, 1) := by decide +kernel
theorem d_M_tube_56 : decode b_M_tube 56 = .ok (.imul, 1) := by decide +kernel
theorem d_M_tube_57 : decode b_M_tube 57 = .ok (.iadd, 1) := by decide +kernel
theorem d_M_tube_58 : decode b_M_tube 58 = .ok (.iload_n 1, 1) := by decide +kernel
theorem d_M_tube_59 : decode b_M_tube 59 = .ok (.iadd, 1) := by decide +kernel
theorem d_M_tube_60 : decode b_M_tube 60 = .ok (.laload, 1) := by decide +kernel
theorem d_M_tube_61 : decode b_M_tube 61 = .ok (.l2i, 1) := by decide +kernel
theorem d_M_tube_62 : decode b_M_tube 62 = .ok (.ireturn, 1) := by decide +kernel
theorem d_M_tube_63 : decode b_M_tube 63 = .ok (.iload_n 2, 1) := by decide +kernel
theorem d_M_tube_64 : decode b_M_tube 64 = .ok (.iconst 4, 1) := by decide +kernel
theorem d_M_tube_65 : decode b_M_tube 65 = .ok (.if_icmp .ne 11, 3) := by decide +kernel
theorem d_M_tube_68 : decode b_M_tube 68 = .ok (.aload_n 0, 1) := by decide +kernel
theorem d_M_tube_69 : decode b_M_tube 69 = .ok (.iload_n 1, 1) := by decide +kernel
theorem d_M_tube_70 : decode b_M_tube 70 = .ok (.invokevirtual 93, 3) := by decide +kernel
theorem d_M_tube_73 : decode b_M_tube 73 = .ok (.goto 51, 3) := by decide +kernel
theorem d_M_tube_76 : decode b_M_tube 76 = .ok (.iload_n 2, 1) := by decide +kernel
theorem d_M_tube_77 : decode b_M_tube 77 = .ok (.iconst 5, 1) := by decide +kernel
theorem d_M_tube_78 : decode b_M_tube 78 = .ok (.if_icmp .ne 11, 3) := by decide +kernel
theorem d_M_tube_81 : decode b_M_tube 81 = .ok (.aload_n 0, 1) := by decide +kernel
theorem d_M_tube_82 : decode b_M_tube 82 = .ok (.iload_n 1, 1) := by decide +kernel
theorem d_M_tube_83 : decode b_M_tube 83 = .ok (.invokevirtual 101, 3) := by decide +kernel
theorem d_M_tube_86 : decode b_M_tube 86 = .ok (.goto 38, 3) := by decide +kernel
theorem d_M_tube_89 : decode b_M_tube 89 = .ok (.iload_n 2, 1) := by decide +kernel
theorem d_M_tube_90 : decode b_M_tube 90 = .ok (.bipush 6, 2) := by decide +kernel
theorem d_M_tube_92 : decode b_M_tube 92 = .ok (.if_icmp .ne 11, 3) := by decide +kernel
theorem d_M_tube_95 : decode b_M_tube 95 = .ok (.aload_n 0, 1) := by decide +kernel
theorem d_M_tube_96 : decode b_M_tube 96 = .ok (.iload_n 1, 1) := by decide +kernel
theorem d_M_tube_97 : decode b_M_tube 97 = .ok (.invokevirtual 107, 3) := by decide +kernel
theorem d_M_tube_100 : decode b_M_tube 100 = .ok (.goto 24, 3) := by decide +kernel
theorem d_M_tube_103 : decode b_M_tube 103 = .ok (.ldc2_w 84, 3) := by decide +kernel
theorem d_M_tube_106 : decode b_M_tube 106 = .ok (.aload_n 0, 1) := by decide +kernel
theorem d_M_tube_107 : decode b_M_tube 107 = .ok (.iload_n 1, 1) := by decide +kernel
theorem d_M_tube_108 : decode b_M_tube 108 = .ok (.invokevirtual 93, 3) := by decide +kernel
theorem d_M_tube_111 : decode b_M_tube 111 = .ok (.lmul, 1) := by decide +kernel
theorem d_M_tube_112 : decode b_M_tube 112 = .ok (.aload_n 0, 1) := by decide +kernel
theorem d_M_tube_113 : decode b_M_tube 113 = .ok (.getfield 7, 3) := by decide +kernel
theorem d_M_tube_116 : decode b_M_tube 116 = .ok (.bipush 8, 2) := by decide +kernel
theorem d_M_tube_118 : decode b_M_tube 118 = .ok (.iload_n 1, 1) := by decide +kernel
theorem d_M_tube_119 : decode b_M_tube 119 = .ok (.iadd, 1) := by decide +kernel
theorem d_M_tube_120 : decode b_M_tube 120 = .ok (.laload, 1) := by decide +kernel
theorem d_M_tube_121 : decode b_M_tube 121 = .ok (.invokestatic 56, 3) := by decide +kernel
theorem d_M_tube_124 : decode b_M_tube 124 = .ok (.lstore_n 3, 1) := by decide +kernel
theorem d_M_tube_125 : decode b_M_tube 125 = .ok (.lload_n 3, 1) := by decide +kernel
theorem d_M_tube_126 : decode b_M_tube 126 = .ok (.invokestatic 165, 3) := by decide +kernel
theorem d_M_tube_129 : decode b_M_tube 129 = .ok (.ireturn, 1) := by decide +kernel
theorem d_M_anew_0 : decode b_M_anew 0 = .ok (.aload_n 0, 1) := by decide +kernel
theorem d_M_anew_1 : decode b_M_anew 1 = .ok (.aload_n 0, 1) := by decide +kernel
theorem d_M_anew_2 : decode b_M_anew 2 = .ok (.iload_n 1, 1) := by decide +kernel
theorem d_M_anew_3 : decode b_M_anew 3 = .ok (.invokevirtual 68, 3) := by decide +kernel
theorem d_M_anew_6 : decode b_M_anew 6 = .ok (.ifCond .ne 7, 3) := by decide +kernel
theorem d_M_anew_9 : decode b_M_anew 9 = .ok (.iconst 1, 1) := by decide +kernel
theorem d_M_anew_10 : decode b_M_anew 10 = .ok (.goto 20, 3) := by decide +kernel
theorem d_M_anew_13 : decode b_M_anew 13 = .ok (.iload_n 2, 1) := by decide +kernel
theorem d_M_anew_14 : decode b_M_anew 14 = .ok (.i2l, 1) := by decide +kernel
theorem d_M_anew_15 : decode b_M_anew 15 = .ok (.lconst 0, 1) := by decide +kernel
theorem d_M_anew_16 : decode b_M_anew 16 = .ok (.ldc2_w 66, 3) := by decide +kernel
theorem d_M_anew_19 : decode b_M_anew 19 = .ok (.invokestatic 52, 3) := by decide +kernel
theorem d_M_anew_22 : decode b_M_anew 22 = .ok (.ifCond .eq 7, 3) := by decide +kernel
theorem d_M_anew_25 : decode b_M_anew 25 = .ok (.iconst 0, 1) := by decide +kernel
theorem d_M_anew_26 : decode b_M_anew 26 = .ok (.goto 4, 3) := by decide +kernel
theorem d_M_anew_29 : decode b_M_anew 29 = .ok (.iconst 2, 1) := by decide +kernel
theorem d_M_anew_30 : decode b_M_anew 30 = .ok (.putfield 38, 3) := by decide +kernel
theorem d_M_anew_33 : decode b_M_anew 33 = .ok (.aload_n 0, 1) := by decide +kernel
theorem d_M_anew_34 : decode b_M_anew 34 = .ok (.getfield 38, 3) := by decide +kernel
theorem d_M_anew_37 : decode b_M_anew 37 = .ok (.ifCond .le 7, 3) := by decide +kernel
theorem d_M_anew_40 : decode b_M_anew 40 = .ok (.iconst 0, 1) := by decide +kernel
theorem d_M_anew_41 : decode b_M_anew 41 = .ok (.goto 18, 3) := by decide +kernel
theorem d_M_anew_44 : decode b_M_anew 44 = .ok (.aload_n 0, 1) := by decide +kernel
theorem d_M_anew_45 : decode b_M_anew 45 = .ok (.getfield 7, 3) := by decide +kernel
theorem d_M_anew_48 : decode b_M_anew 48 = .ok (.bipush 8, 2) := by decide +kernel
theorem d_M_anew_50 : decode b_M_anew 50 = .ok (.bipush 32, 2) := by decide +kernel
theorem d_M_anew_52 : decode b_M_anew 52 = .ok (.iload_n 2, 1) := by decide +kernel
theorem d_M_anew_53 : decode b_M_anew 53 = .ok (.imul, 1) := by decide +kernel
theorem d_M_anew_54 : decode b_M_anew 54 = .ok (.iadd, 1) := by decide +kernel
theorem d_M_anew_55 : decode b_M_anew 55 = .ok (.iload_n 1, 1) := by decide +kernel
theorem d_M_anew_56 : decode b_M_anew 56 = .ok (.iadd, 1) := by decide +kernel
theorem d_M_anew_57 : decode b_M_anew 57 = .ok (.laload, 1) := by decide +kernel
theorem d_M_anew_58 : decode b_M_anew 58 = .ok (.l2i, 1) := by decide +kernel
theorem d_M_anew_59 : decode b_M_anew 59 = .ok (.ireturn, 1) := by decide +kernel
theorem d_M_probe_0 : decode b_M_probe 0 = .ok (.aload_n 0, 1) := by decide +kernel
theorem d_M_probe_1 : decode b_M_probe 1 = .ok (.aload_n 0, 1) := by decide +kernel
theorem d_M_probe_2 : decode b_M_probe 2 = .ok (.iload_n 1, 1) := by decide +kernel
theorem d_M_probe_3 : decode b_M_probe 3 = .ok (.invokevirtual 68, 3) := by decide +kernel
theorem d_M_probe_6 : decode b_M_probe 6 = .ok (.ifCond .ne 7, 3) := by decide +kernel
theorem d_M_probe_9 : decode b_M_probe 9 = .ok (.iconst 1, 1) := by decide +kernel
theorem d_M_probe_10 : decode b_M_probe 10 = .ok (.goto 18, 3) := by decide +kernel
theorem d_M_probe_13 : decode b_M_probe 13 = .ok (.iload_n 2, 1) := by decide +kernel
theorem d_M_probe_14 : decode b_M_probe 14 = .ok (.i2l, 1) := by decide +kernel
theorem d_M_probe_15 : decode b_M_probe 15 = .ok (.lconst 0, 1) := by decide +kernel
theorem d_M_probe_16 : decode b_M_probe 16 = .ok (.lconst 1, 1) := by decide +kernel
theorem d_M_probe_17 : decode b_M_probe 17 = .ok (.invokestatic 52, 3) := by decide +kernel
theorem d_M_probe_20 : decode b_M_probe 20 = .ok (.ifCond .eq 7, 3) := by decide +kernel
theorem d_M_probe_23 : decode b_M_probe 23 = .ok (.iconst 0, 1) := by decide +kernel
theorem d_M_probe_24 : decode b_M_probe 24 = .ok (.goto 4, 3) := by decide +kernel
theorem d_M_probe_27 : decode b_M_probe 27 = .ok (.iconst 2, 1) := by decide +kernel
theorem d_M_probe_28 : decode b_M_probe 28 = .ok (.putfield 38, 3) := by decide +kernel
theorem d_M_probe_31 : decode b_M_probe 31 = .ok (.aload_n 0, 1) := by decide +kernel
theorem d_M_probe_32 : decode b_M_probe 32 = .ok (.getfield 38, 3) := by decide +kernel
theorem d_M_probe_35 : decode b_M_probe 35 = .ok (.ifCond .le 7, 3) := by decide +kernel
theorem d_M_probe_38 : decode b_M_probe 38 = .ok (.iconst 0, 1) := by decide +kernel
theorem d_M_probe_39 : decode b_M_probe 39 = .ok (.goto 33, 3) := by decide +kernel
theorem d_M_probe_42 : decode b_M_probe 42 = .ok (.iload_n 2, 1) := by decide +kernel
theorem d_M_probe_43 : decode b_M_probe 43 = .ok (.ifCond .ne 16, 3) := by decide +kernel
theorem d_M_probe_46 : decode b_M_probe 46 = .ok (.aload_n 0, 1) := by decide +kernel
theorem d_M_probe_47 : decode b_M_probe 47 = .ok (.getfield 7, 3) := by decide +kernel
theorem d_M_probe_50 : decode b_M_probe 50 = .ok (.sipush 146, 3) := by decide +kernel
theorem d_M_probe_53 : decode b_M_probe 53 = .ok (.iload_n 1, 1) := by decide +kernel
theorem d_M_probe_54 : decode b_M_probe 54 = .ok (.iadd, 1) := by decide +kernel
theorem d_M_probe_55 : decode b_M_probe 55 = .ok (.laload, 1) := by decide +kernel
theorem d_M_probe_56 : decode b_M_probe 56 = .ok (.goto 13, 3) := by decide +kernel
theorem d_M_probe_59 : decode b_M_probe 59 = .ok (.aload_n 0, 1) := by decide +kernel
theorem d_M_probe_60 : decode b_M_probe 60 = .ok (.getfield 7, 3) := by decide +kernel
theorem d_M_probe_63 : decode b_M_probe 63 = .ok (.sipush 178, 3) := by decide +kernel
theorem d_M_probe_66 : decode b_M_probe 66 = .ok (.iload_n 1, 1) := by decide +kernel
theorem d_M_probe_67 : decode b_M_probe 67 = .ok (.iadd, 1) := by decide +kernel
theorem d_M_probe_68 : decode b_M_probe 68 = .ok (.laload, 1) := by decide +kernel
theorem d_M_probe_69 : decode b_M_probe 69 = .ok (.invokestatic 165, 3) := by decide +kernel
theorem d_M_probe_72 : decode b_M_probe 72 = .ok (.ireturn, 1) := by decide +kernel
theorem d_M_came_0 : decode b_M_came 0 = .ok (.aload_n 0, 1) := by decide +kernel
theorem d_M_came_1 : decode b_M_came 1 = .ok (.iload_n 1, 1) := by decide +kernel
theorem d_M_came_2 : decode b_M_came 2 = .ok (.i2l, 1) := by decide +kernel
theorem d_M_came_3 : decode b_M_came 3 = .ok (.lconst 0, 1) := by decide +kernel
theorem d_M_came_4 : decode b_M_came 4 = .ok (.ldc2_w 64, 3) := by decide +kernel
theorem d_M_came_7 : decode b_M_came 7 = .ok (.invokestatic 52, 3) := by decide +kernel
theorem d_M_came_10 : decode b_M_came 10 = .ok (.ifCond .eq 7, 3) := by decide +kernel
theorem d_M_came_13 : decode b_M_came 13 = .ok (.iconst 0, 1) := by decide +kernel
theorem d_M_came_14 : decode b_M_came 14 = .ok (.goto 4, 3) := by decide +kernel
theorem d_M_came_17 : decode b_M_came 17 = .ok (.iconst 1, 1) := by decide +kernel
theorem d_M_came_18 : decode b_M_came 18 = .ok (.putfield 38, 3) := by decide +kernel
theorem d_M_came_21 : decode b_M_came 21 = .ok (.aload_n 0, 1) := by decide +kernel
theorem d_M_came_22 : decode b_M_came 22 = .ok (.getfield 38, 3) := by decide +kernel
theorem d_M_came_25 : decode b_M_came 25 = .ok (.ifCond .le 7, 3) := by decide +kernel
theorem d_M_came_28 : decode b_M_came 28 = .ok (.lconst 0, 1) := by decide +kernel
theorem d_M_came_29 : decode b_M_came 29 = .ok (.goto 13, 3) := by decide +kernel
theorem d_M_came_32 : decode b_M_came 32 = .ok (.aload_n 0, 1) := by decide +kernel
theorem d_M_came_33 : decode b_M_came 33 = .ok (.getfield 7, 3) := by decide +kernel
theorem d_M_came_36 : decode b_M_came 36 = .ok (.sipush 136, 3) := by decide +kernel
theorem d_M_came_39 : decode b_M_came 39 = .ok (.iload_n 1, 1) := by decide +kernel
theorem d_M_came_40 : decode b_M_came 40 = .ok (.iadd, 1) := by decide +kernel
theorem d_M_came_41 : decode b_M_came 41 = .ok (.laload, 1) := by decide +kernel
theorem d_M_came_42 : decode b_M_came 42 = .ok (.lreturn, 1) := by decide +kernel
theorem d_M_isKept_0 : decode b_M_isKept 0 = .ok (.aload_n 0, 1) := by decide +kernel
theorem d_M_isKept_1 : decode b_M_isKept 1 = .ok (.iload_n 1, 1) := by decide +kernel
theorem d_M_isKept_2 : decode b_M_isKept 2 = .ok (.i2l, 1) := by decide +kernel
theorem d_M_isKept_3 : decode b_M_isKept 3 = .ok (.lconst 0, 1) := by decide +kernel
theorem d_M_isKept_4 : decode b_M_isKept 4 = .ok (.ldc2_w 66, 3) := by decide +kernel
theorem d_M_isKept_7 : decode b_M_isKept 7 = .ok (.invokestatic 52, 3) := by decide +kernel
theorem d_M_isKept_10 : decode b_M_isKept 10 = .ok (.ifCond .eq 7, 3) := by decide +kernel
theorem d_M_isKept_13 : decode b_M_isKept 13 = .ok (.iconst 0, 1) := by decide +kernel
theorem d_M_isKept_14 : decode b_M_isKept 14 = .ok (.goto 4, 3) := by decide +kernel
theorem d_M_isKept_17 : decode b_M_isKept 17 = .ok (.iconst 1, 1) := by decide +kernel
theorem d_M_isKept_18 : decode b_M_isKept 18 = .ok (.putfield 38, 3) := by decide +kernel
theorem d_M_isKept_21 : decode b_M_isKept 21 = .ok (.aload_n 0, 1) := by decide +kernel
theorem d_M_isKept_22 : decode b_M_isKept 22 = .ok (.getfield 38, 3) := by decide +kernel
theorem d_M_isKept_25 : decode b_M_isKept 25 = .ok (.ifCond .le 5, 3) := by decide +kernel
theorem d_M_isKept_28 : decode b_M_isKept 28 = .ok (.iconst 0, 1) := by decide +kernel
theorem d_M_isKept_29 : decode b_M_isKept 29 = .ok (.ireturn, 1) := by decide +kernel
theorem d_M_isKept_30 : decode b_M_isKept 30 = .ok (.aload_n 0, 1) := by decide +kernel
theorem d_M_isKept_31 : decode b_M_isKept 31 = .ok (.getfield 7, 3) := by decide +kernel
theorem d_M_isKept_34 : decode b_M_isKept 34 = .ok (.sipush 142, 3) := by decide +kernel
theorem d_M_isKept_37 : decode b_M_isKept 37 = .ok (.iload_n 1, 1) := by decide +kernel
theorem d_M_isKept_38 : decode b_M_isKept 38 = .ok (.iadd, 1) := by decide +kernel
theorem d_M_isKept_39 : decode b_M_isKept 39 = .ok (.laload, 1) := by decide +kernel
theorem d_M_isKept_40 : decode b_M_isKept 40 = .ok (.aload_n 0, 1) := by decide +kernel
theorem d_M_isKept_41 : decode b_M_isKept 41 = .ok (.getfield 7, 3) := by decide +kernel
theorem d_M_isKept_44 : decode b_M_isKept 44 = .ok (.sipush 136, 3) := by decide +kernel
theorem d_M_isKept_47 : decode b_M_isKept 47 = .ok (.iload_n 1, 1) := by decide +kernel
theorem d_M_isKept_48 : decode b_M_isKept 48 = .ok (.iadd, 1) := by decide +kernel
theorem d_M_isKept_49 : decode b_M_isKept 49 = .ok (.laload, 1) := by decide +kernel
theorem d_M_isKept_50 : decode b_M_isKept 50 = .ok (.ladd, 1) := by decide +kernel
theorem d_M_isKept_51 : decode b_M_isKept 51 = .ok (.iload_n 1, 1) := by decide +kernel
theorem d_M_isKept_52 : decode b_M_isKept 52 = .ok (.iconst 2, 1) := by decide +kernel
theorem d_M_isKept_53 : decode b_M_isKept 53 = .ok (.if_icmp .ne 14, 3) := by decide +kernel
theorem d_M_isKept_56 : decode b_M_isKept 56 = .ok (.aload_n 0, 1) := by decide +kernel
theorem d_M_isKept_57 : decode b_M_isKept 57 = .ok (.getfield 7, 3) := by decide +kernel
theorem d_M_isKept_60 : decode b_M_isKept 60 = .ok (.sipush 140, 3) := by decide +kernel
theorem d_M_isKept_63 : decode b_M_isKept 63 = .ok (.laload, 1) := by decide +kernel
theorem d_M_isKept_64 : decode b_M_isKept 64 = .ok (.goto 21, 3) := by decide +kernel
theorem d_M_isKept_67 : decode b_M_isKept 67 = .ok (.iload_n 1, 1) := by decide +kernel
theorem d_M_isKept_68 : decode b_M_isKept 68 = .ok (.iconst 3, 1) := by decide +kernel
theorem d_M_isKept_69 : decode b_M_isKept 69 = .ok (.if_icmp .ne 15, 3) := by decide +kernel
theorem d_M_isKept_72 : decode b_M_isKept 72 = .ok (.aload_n 0, 1) := by decide +kernel
theorem d_M_isKept_73 : decode b_M_isKept 73 = .ok (.getfield 7, 3) := by decide +kernel
theorem d_M_isKept_76 : decode b_M_isKept 76 = .ok (.sipush 141, 3) := by decide +kernel
theorem d_M_isKept_79 : decode b_M_isKept 79 = .ok (.laload, 1) := by decide +kernel
theorem d_M_isKept_80 : decode b_M_isKept 80 = .ok (.lneg, 1) := by decide +kernel
theorem d_M_isKept_81 : decode b_M_isKept 81 = .ok (.goto 4, 3) := by decide +kernel
theorem d_M_isKept_84 : decode b_M_isKept 84 = .ok (.lconst 0, 1) := by decide +kernel
theorem d_M_isKept_85 : decode b_M_isKept 85 = .ok (.ladd, 1) := by decide +kernel
theorem d_M_isKept_86 : decode b_M_isKept 86 = .ok (.lstore_n 2, 1) := by decide +kernel
theorem d_M_isKept_87 : decode b_M_isKept 87 = .ok (.iconst 0, 1) := by decide +kernel
theorem d_M_isKept_88 : decode b_M_isKept 88 = .ok (.istore 4, 2) := by decide +kernel
theorem d_M_isKept_90 : decode b_M_isKept 90 = .ok (.iload 4, 2) := by decide +kernel
theorem d_M_isKept_92 : decode b_M_isKept 92 = .ok (.i2l, 1) := by decide +kernel
theorem d_M_isKept_93 : decode b_M_isKept 93 = .ok (.aload_n 0, 1) := by decide +kernel
theorem d_M_isKept_94 : decode b_M_isKept 94 = .ok (.getfield 7, 3) := by decide +kernel
theorem d_M_isKept_97 : decode b_M_isKept 97 = .ok (.iconst 4, 1) := by decide +kernel
theorem d_M_isKept_98 : decode b_M_isKept 98 = .ok (.laload, 1) := by decide +kernel
theorem d_M_isKept_99 : decode b_M_isKept 99 = .ok (.lcmp, 1) := by decide +kernel
theorem d_M_isKept_100 : decode b_M_isKept 100 = .ok (.ifCond .ge 27, 3) := by decide +kernel
theorem d_M_isKept_103 : decode b_M_isKept 103 = .ok (.lload_n 2, 1) := by decide +kernel
theorem d_M_isKept_104 : decode b_M_isKept 104 = .ok (.aload_n 0, 1) := by decide +kernel
theorem d_M_isKept_105 : decode b_M_isKept 105 = .ok (.getfield 7, 3) := by decide +kernel
theorem d_M_isKept_108 : decode b_M_isKept 108 = .ok (.bipush 8, 2) := by decide +kernel
theorem d_M_isKept_110 : decode b_M_isKept 110 = .ok (.bipush 32, 2) := by decide +kernel
theorem d_M_isKept_112 : decode b_M_isKept 112 = .ok (.iload_n 1, 1) := by decide +kernel
theorem d_M_isKept_113 : decode b_M_isKept 113 = .ok (.imul, 1) := by decide +kernel
theorem d_M_isKept_114 : decode b_M_isKept 114 = .ok (.iadd, 1) := by decide +kernel
theorem d_M_isKept_115 : decode b_M_isKept 115 = .ok (.iload 4, 2) := by decide +kernel
theorem d_M_isKept_117 : decode b_M_isKept 117 = .ok (.iadd, 1) := by decide +kernel
theorem d_M_isKept_118 : decode b_M_isKept 118 = .ok (.laload, 1) := by decide +kernel
theorem d_M_isKept_119 : decode b_M_isKept 119 = .ok (.lsub, 1) := by decide +kernel
theorem d_M_isKept_120 : decode b_M_isKept 120 = .ok (.lstore_n 2, 1) := by decide +kernel
theorem d_M_isKept_121 : decode b_M_isKept 121 = .ok (.iinc 4 1, 3) := by decide +kernel
theorem d_M_isKept_124 : decode b_M_isKept 124 = .ok (.goto (-34), 3) := by decide +kernel
theorem d_M_isKept_127 : decode b_M_isKept 127 = .ok (.lload_n 2, 1) := by decide +kernel
theorem d_M_isKept_128 : decode b_M_isKept 128 = .ok (.lconst 0, 1) := by decide +kernel
theorem d_M_isKept_129 : decode b_M_isKept 129 = .ok (.lcmp, 1) := by decide +kernel
theorem d_M_isKept_130 : decode b_M_isKept 130 = .ok (.ifCond .ne 7, 3) := by decide +kernel
theorem d_M_isKept_133 : decode b_M_isKept 133 = .ok (.iconst 1, 1) := by decide +kernel
theorem d_M_isKept_134 : decode b_M_isKept 134 = .ok (.goto 4, 3) := by decide +kernel
theorem d_M_isKept_137 : decode b_M_isKept 137 = .ok (.iconst 0, 1) := by decide +kernel
theorem d_M_isKept_138 : decode b_M_isKept 138 = .ok (.ireturn, 1) := by decide +kernel
theorem d_M_many_0 : decode b_M_many 0 = .ok (.aload_n 0, 1) := by decide +kernel
theorem d_M_many_1 : decode b_M_many 1 = .ok (.iconst 0, 1) := by decide +kernel
theorem d_M_many_2 : decode b_M_many 2 = .ok (.putfield 38, 3) := by decide +kernel
theorem d_M_many_5 : decode b_M_many 5 = .ok (.aload_n 0, 1) := by decide +kernel
theorem d_M_many_6 : decode b_M_many 6 = .ok (.getfield 7, 3) := by decide +kernel
theorem d_M_many_9 : decode b_M_many 9 = .ok (.iconst 4, 1) := by decide +kernel
theorem d_M_many_10 : decode b_M_many 10 = .ok (.laload, 1) := by decide +kernel
theorem d_M_many_11 : decode b_M_many 11 = .ok (.l2i, 1) := by decide +kernel
theorem d_M_many_12 : decode b_M_many 12 = .ok (.ireturn, 1) := by decide +kernel
theorem d_M_steps_0 : decode b_M_steps 0 = .ok (.aload_n 0, 1) := by decide +kernel
theorem d_M_steps_1 : decode b_M_steps 1 = .ok (.iconst 0, 1) := by decide +kernel
theorem d_M_steps_2 : decode b_M_steps 2 = .ok (.putfield 38, 3) := by decide +kernel
theorem d_M_steps_5 : decode b_M_steps 5 = .ok (.aload_n 0, 1) := by decide +kernel
theorem d_M_steps_6 : decode b_M_steps 6 = .ok (.getfield 7, 3) := by decide +kernel
theorem d_M_steps_9 : decode b_M_steps 9 = .ok (.bipush 7, 2) := by decide +kernel
theorem d_M_steps_11 : decode b_M_steps 11 = .ok (.laload, 1) := by decide +kernel
theorem d_M_steps_12 : decode b_M_steps 12 = .ok (.l2i, 1) := by decide +kernel
theorem d_M_steps_13 : decode b_M_steps 13 = .ok (.ireturn, 1) := by decide +kernel
theorem d_M_opens_0 : decode b_M_opens 0 = .ok (.aload_n 0, 1) := by decide +kernel
theorem d_M_opens_1 : decode b_M_opens 1 = .ok (.getfield 7, 3) := by decide +kernel
theorem d_M_opens_4 : decode b_M_opens 4 = .ok (.sipush 210, 3) := by decide +kernel
theorem d_M_opens_7 : decode b_M_opens 7 = .ok (.laload, 1) := by decide +kernel
theorem d_M_opens_8 : decode b_M_opens 8 = .ok (.l2i, 1) := by decide +kernel
theorem d_M_opens_9 : decode b_M_opens 9 = .ok (.istore_n 2, 1) := by decide +kernel
theorem d_M_opens_10 : decode b_M_opens 10 = .ok (.iload_n 2, 1) := by decide +kernel
theorem d_M_opens_11 : decode b_M_opens 11 = .ok (.iload_n 1, 1) := by decide +kernel
theorem d_M_opens_12 : decode b_M_opens 12 = .ok (.if_icmp .le 17, 3) := by decide +kernel
theorem d_M_opens_15 : decode b_M_opens 15 = .ok (.aload_n 0, 1) := by decide +kernel
theorem d_M_opens_16 : decode b_M_opens 16 = .ok (.iload_n 2, 1) := by decide +kernel
theorem d_M_opens_17 : decode b_M_opens 17 = .ok (.iconst 1, 1) := by decide +kernel
theorem d_M_opens_18 : decode b_M_opens 18 = .ok (.isub, 1) := by decide +kernel
theorem d_M_opens_19 : decode b_M_opens 19 = .ok (.iload_n 2, 1) := by decide +kernel
theorem d_M_opens_20 : decode b_M_opens 20 = .ok (.invokevirtual 169, 3) := by decide +kernel
theorem d_M_opens_23 : decode b_M_opens 23 = .ok (.iinc 2 (-1), 3) := by decide +kernel
theorem d_M_opens_26 : decode b_M_opens 26 = .ok (.goto (-16), 3) := by decide +kernel
theorem d_M_opens_29 : decode b_M_opens 29 = .ok (.aload_n 0, 1) := by decide +kernel
theorem d_M_opens_30 : decode b_M_opens 30 = .ok (.getfield 7, 3) := by decide +kernel
theorem d_M_opens_33 : decode b_M_opens 33 = .ok (.sipush 210, 3) := by decide +kernel
theorem d_M_opens_36 : decode b_M_opens 36 = .ok (.dup2, 1) := by decide +kernel
theorem d_M_opens_37 : decode b_M_opens 37 = .ok (.laload, 1) := by decide +kernel
theorem d_M_opens_38 : decode b_M_opens 38 = .ok (.lconst 1, 1) := by decide +kernel
theorem d_M_opens_39 : decode b_M_opens 39 = .ok (.ladd, 1) := by decide +kernel
theorem d_M_opens_40 : decode b_M_opens 40 = .ok (.lastore, 1) := by decide +kernel
theorem d_M_opens_41 : decode b_M_opens 41 = .ok (.return_, 1) := by decide +kernel
theorem d_M_copies_0 : decode b_M_copies 0 = .ok (.aload_n 0, 1) := by decide +kernel
theorem d_M_copies_1 : decode b_M_copies 1 = .ok (.getfield 7, 3) := by decide +kernel
theorem d_M_copies_4 : decode b_M_copies 4 = .ok (.sipush 211, 3) := by decide +kernel
theorem d_M_copies_7 : decode b_M_copies 7 = .ok (.iload_n 2, 1) := by decide +kernel
theorem d_M_copies_8 : decode b_M_copies 8 = .ok (.iadd, 1) := by decide +kernel
theorem d_M_copies_9 : decode b_M_copies 9 = .ok (.aload_n 0, 1) := by decide +kernel
theorem d_M_copies_10 : decode b_M_copies 10 = .ok (.getfield 7, 3) := by decide +kernel
theorem d_M_copies_13 : decode b_M_copies 13 = .ok (.sipush 211, 3) := by decide +kernel
theorem d_M_copies_16 : decode b_M_copies 16 = .ok (.iload_n 1, 1) := by decide +kernel
theorem d_M_copies_17 : decode b_M_copies 17 = .ok (.iadd, 1) := by decide +kernel
theorem d_M_copies_18 : decode b_M_copies 18 = .ok (.laload, 1) := by decide +kernel
theorem d_M_copies_19 : decode b_M_copies 19 = .ok (.lastore, 1) := by decide +kernel
theorem d_M_copies_20 : decode b_M_copies 20 = .ok (.aload_n 0, 1) := by decide +kernel
theorem d_M_copies_21 : decode b_M_copies 21 = .ok (.getfield 7, 3) := by decide +kernel
theorem d_M_copies_24 : decode b_M_copies 24 = .ok (.sipush 219, 3) := by decide +kernel
theorem d_M_copies_27 : decode b_M_copies 27 = .ok (.iload_n 2, 1) := by decide +kernel
theorem d_M_copies_28 : decode b_M_copies 28 = .ok (.iadd, 1) := by decide +kernel
theorem d_M_copies_29 : decode b_M_copies 29 = .ok (.aload_n 0, 1) := by decide +kernel
theorem d_M_copies_30 : decode b_M_copies 30 = .ok (.getfield 7, 3) := by decide +kernel
theorem d_M_copies_33 : decode b_M_copies 33 = .ok (.sipush 219, 3) := by decide +kernel
theorem d_M_copies_36 : decode b_M_copies 36 = .ok (.iload_n 1, 1) := by decide +kernel
theorem d_M_copies_37 : decode b_M_copies 37 = .ok (.iadd, 1) := by decide +kernel
theorem d_M_copies_38 : decode b_M_copies 38 = .ok (.laload, 1) := by decide +kernel
theorem d_M_copies_39 : decode b_M_copies 39 = .ok (.lastore, 1) := by decide +kernel
theorem d_M_copies_40 : decode b_M_copies 40 = .ok (.aload_n 0, 1) := by decide +kernel
theorem d_M_copies_41 : decode b_M_copies 41 = .ok (.getfield 7, 3) := by decide +kernel
theorem d_M_copies_44 : decode b_M_copies 44 = .ok (.sipush 227, 3) := by decide +kernel
theorem d_M_copies_47 : decode b_M_copies 47 = .ok (.iload_n 2, 1) := by decide +kernel
theorem d_M_copies_48 : decode b_M_copies 48 = .ok (.iadd, 1) := by decide +kernel
theorem d_M_copies_49 : decode b_M_copies 49 = .ok (.aload_n 0, 1) := by decide +kernel
theorem d_M_copies_50 : decode b_M_copies 50 = .ok (.getfield 7, 3) := by decide +kernel
theorem d_M_copies_53 : decode b_M_copies 53 = .ok (.sipush 227, 3) := by decide +kernel
theorem d_M_copies_56 : decode b_M_copies 56 = .ok (.iload_n 1, 1) := by decide +kernel
theorem d_M_copies_57 : decode b_M_copies 57 = .ok (.iadd, 1) := by decide +kernel
theorem d_M_copies_58 : decode b_M_copies 58 = .ok (.laload, 1) := by decide +kernel
theorem d_M_copies_59 : decode b_M_copies 59 = .ok (.lastore, 1) := by decide +kernel
theorem d_M_copies_60 : decode b_M_copies 60 = .ok (.aload_n 0, 1) := by decide +kernel
theorem d_M_copies_61 : decode b_M_copies 61 = .ok (.getfield 7, 3) := by decide +kernel
theorem d_M_copies_64 : decode b_M_copies 64 = .ok (.sipush 235, 3) := by decide +kernel
theorem d_M_copies_67 : decode b_M_copies 67 = .ok (.iload_n 2, 1) := by decide +kernel
theorem d_M_copies_68 : decode b_M_copies 68 = .ok (.iadd, 1) := by decide +kernel
theorem d_M_copies_69 : decode b_M_copies 69 = .ok (.aload_n 0, 1) := by decide +kernel
theorem d_M_copies_70 : decode b_M_copies 70 = .ok (.getfield 7, 3) := by decide +kernel
theorem d_M_copies_73 : decode b_M_copies 73 = .ok (.sipush 235, 3) := by decide +kernel
theorem d_M_copies_76 : decode b_M_copies 76 = .ok (.iload_n 1, 1) := by decide +kernel
theorem d_M_copies_77 : decode b_M_copies 77 = .ok (.iadd, 1) := by decide +kernel
theorem d_M_copies_78 : decode b_M_copies 78 = .ok (.laload, 1) := by decide +kernel
theorem d_M_copies_79 : decode b_M_copies 79 = .ok (.lastore, 1) := by decide +kernel
theorem d_M_copies_80 : decode b_M_copies 80 = .ok (.aload_n 0, 1) := by decide +kernel
theorem d_M_copies_81 : decode b_M_copies 81 = .ok (.getfield 26, 3) := by decide +kernel
theorem d_M_copies_84 : decode b_M_copies 84 = .ok (.iload_n 2, 1) := by decide +kernel
theorem d_M_copies_85 : decode b_M_copies 85 = .ok (.aload_n 0, 1) := by decide +kernel
theorem d_M_copies_86 : decode b_M_copies 86 = .ok (.getfield 26, 3) := by decide +kernel
theorem d_M_copies_89 : decode b_M_copies 89 = .ok (.iload_n 1, 1) := by decide +kernel
theorem d_M_copies_90 : decode b_M_copies 90 = .ok (.laload, 1) := by decide +kernel
theorem d_M_copies_91 : decode b_M_copies 91 = .ok (.lastore, 1) := by decide +kernel
theorem d_M_copies_92 : decode b_M_copies 92 = .ok (.return_, 1) := by decide +kernel
theorem d_M_removes_0 : decode b_M_removes 0 = .ok (.iload_n 1, 1) := by decide +kernel
theorem d_M_removes_1 : decode b_M_removes 1 = .ok (.istore_n 2, 1) := by decide +kernel
theorem d_M_removes_2 : decode b_M_removes 2 = .ok (.iload_n 2, 1) := by decide +kernel
theorem d_M_removes_3 : decode b_M_removes 3 = .ok (.iconst 1, 1) := by decide +kernel
theorem d_M_removes_4 : decode b_M_removes 4 = .ok (.iadd, 1) := by decide +kernel
theorem d_M_removes_5 : decode b_M_removes 5 = .ok (.i2l, 1) := by decide +kernel
theorem d_M_removes_6 : decode b_M_removes 6 = .ok (.aload_n 0, 1) := by decide +kernel
theorem d_M_removes_7 : decode b_M_removes 7 = .ok (.getfield 7, 3) := by decide +kernel
theorem d_M_removes_10 : decode b_M_removes 10 = .ok (.sipush 210, 3) := by decide +kernel
theorem d_M_removes_13 : decode b_M_removes 13 = .ok (.laload, 1) := by decide +kernel
theorem d_M_removes_14 : decode b_M_removes 14 = .ok (.lcmp, 1) := by decide +kernel
theorem d_M_removes_15 : decode b_M_removes 15 = .ok (.ifCond .ge 17, 3) := by decide +kernel
theorem d_M_removes_18 : decode b_M_removes 18 = .ok (.aload_n 0, 1) := by decide +kernel
theorem d_M_removes_19 : decode b_M_removes 19 = .ok (.iload_n 2, 1) := by decide +kernel
theorem d_M_removes_20 : decode b_M_removes 20 = .ok (.iconst 1, 1) := by decide +kernel
theorem d_M_removes_21 : decode b_M_removes 21 = .ok (.iadd, 1) := by decide +kernel
theorem d_M_removes_22 : decode b_M_removes 22 = .ok (.iload_n 2, 1) := by decide +kernel
theorem d_M_removes_23 : decode b_M_removes 23 = .ok (.invokevirtual 169, 3) := by decide +kernel
theorem d_M_removes_26 : decode b_M_removes 26 = .ok (.iinc 2 1, 3) := by decide +kernel
theorem d_M_removes_29 : decode b_M_removes 29 = .ok (.goto (-27), 3) := by decide +kernel
theorem d_M_removes_32 : decode b_M_removes 32 = .ok (.aload_n 0, 1) := by decide +kernel
theorem d_M_removes_33 : decode b_M_removes 33 = .ok (.getfield 7, 3) := by decide +kernel
theorem d_M_removes_36 : decode b_M_removes 36 = .ok (.sipush 210, 3) := by decide +kernel
theorem d_M_removes_39 : decode b_M_removes 39 = .ok (.dup2, 1) := by decide +kernel
theorem d_M_removes_40 : decode b_M_removes 40 = .ok (.laload, 1) := by decide +kernel
theorem d_M_removes_41 : decode b_M_removes 41 = .ok (.lconst 1, 1) := by decide +kernel
theorem d_M_removes_42 : decode b_M_removes 42 = .ok (.lsub, 1) := by decide +kernel
theorem d_M_removes_43 : decode b_M_removes 43 = .ok (.lastore, 1) := by decide +kernel
theorem d_M_removes_44 : decode b_M_removes 44 = .ok (.return_, 1) := by decide +kernel
theorem d_M_sets_0 : decode b_M_sets 0 = .ok (.aload_n 0, 1) := by decide +kernel
theorem d_M_sets_1 : decode b_M_sets 1 = .ok (.getfield 7, 3) := by decide +kernel
theorem d_M_sets_4 : decode b_M_sets 4 = .ok (.sipush 211, 3) := by decide +kernel
theorem d_M_sets_7 : decode b_M_sets 7 = .ok (.iload_n 1, 1) := by decide +kernel
theorem d_M_sets_8 : decode b_M_sets 8 = .ok (.iadd, 1) := by decide +kernel
theorem d_M_sets_9 : decode b_M_sets 9 = .ok (.lload_n 2, 1) := by decide +kernel
theorem d_M_sets_10 : decode b_M_sets 10 = .ok (.lastore, 1) := by decide +kernel
theorem d_M_sets_11 : decode b_M_sets 11 = .ok (.aload_n 0, 1) := by decide +kernel
theorem d_M_sets_12 : decode b_M_sets 12 = .ok (.getfield 7, 3) := by decide +kernel
theorem d_M_sets_15 : decode b_M_sets 15 = .ok (.sipush 219, 3) := by decide +kernel
theorem d_M_sets_18 : decode b_M_sets 18 = .ok (.iload_n 1, 1) := by decide +kernel
theorem d_M_sets_19 : decode b_M_sets 19 = .ok (.iadd, 1) := by decide +kernel
theorem d_M_sets_20 : decode b_M_sets 20 = .ok (.lload 4, 2) := by decide +kernel
theorem d_M_sets_22 : decode b_M_sets 22 = .ok (.lastore, 1) := by decide +kernel
theorem d_M_sets_23 : decode b_M_sets 23 = .ok (.aload_n 0, 1) := by decide +kernel
theorem d_M_sets_24 : decode b_M_sets 24 = .ok (.getfield 7, 3) := by decide +kernel
theorem d_M_sets_27 : decode b_M_sets 27 = .ok (.sipush 227, 3) := by decide +kernel
theorem d_M_sets_30 : decode b_M_sets 30 = .ok (.iload_n 1, 1) := by decide +kernel
theorem d_M_sets_31 : decode b_M_sets 31 = .ok (.iadd, 1) := by decide +kernel
theorem d_M_sets_32 : decode b_M_sets 32 = .ok (.lload 6, 2) := by decide +kernel
theorem d_M_sets_34 : decode b_M_sets 34 = .ok (.lastore, 1) := by decide +kernel
theorem d_M_sets_35 : decode b_M_sets 35 = .ok (.aload_n 0, 1) := by decide +kernel
theorem d_M_sets_36 : decode b_M_sets 36 = .ok (.getfield 7, 3) := by decide +kernel
theorem d_M_sets_39 : decode b_M_sets 39 = .ok (.sipush 235, 3) := by decide +kernel
theorem d_M_sets_42 : decode b_M_sets 42 = .ok (.iload_n 1, 1) := by decide +kernel
theorem d_M_sets_43 : decode b_M_sets 43 = .ok (.iadd, 1) := by decide +kernel
theorem d_M_sets_44 : decode b_M_sets 44 = .ok (.lload 8, 2) := by decide +kernel
theorem d_M_sets_46 : decode b_M_sets 46 = .ok (.lastore, 1) := by decide +kernel
theorem d_M_sets_47 : decode b_M_sets 47 = .ok (.aload_n 0, 1) := by decide +kernel
theorem d_M_sets_48 : decode b_M_sets 48 = .ok (.getfield 26, 3) := by decide +kernel
theorem d_M_sets_51 : decode b_M_sets 51 = .ok (.iload_n 1, 1) := by decide +kernel
theorem d_M_sets_52 : decode b_M_sets 52 = .ok (.lload 4, 2) := by decide +kernel
theorem d_M_sets_54 : decode b_M_sets 54 = .ok (.lastore, 1) := by decide +kernel
theorem d_M_sets_55 : decode b_M_sets 55 = .ok (.return_, 1) := by decide +kernel
theorem d_M_front_0 : decode b_M_front 0 = .ok (.iload_n 1, 1) := by decide +kernel
theorem d_M_front_1 : decode b_M_front 1 = .ok (.i2l, 1) := by decide +kernel
theorem d_M_front_2 : decode b_M_front 2 = .ok (.lconst 0, 1) := by decide +kernel
theorem d_M_front_3 : decode b_M_front 3 = .ok (.ldc2_w 44, 3) := by decide +kernel
theorem d_M_front_6 : decode b_M_front 6 = .ok (.invokestatic 52, 3) := by decide +kernel
theorem d_M_front_9 : decode b_M_front 9 = .ok (.ifCond .eq 46, 3) := by decide +kernel
theorem d_M_front_12 : decode b_M_front 12 = .ok (.iload_n 2, 1) := by decide +kernel
theorem d_M_front_13 : decode b_M_front 13 = .ok (.i2l, 1) := by decide +kernel
theorem d_M_front_14 : decode b_M_front 14 = .ok (.lconst 0, 1) := by decide +kernel
theorem d_M_front_15 : decode b_M_front 15 = .ok (.ldc2_w 32, 3) := by decide +kernel
theorem d_M_front_18 : decode b_M_front 18 = .ok (.invokestatic 52, 3) := by decide +kernel
theorem d_M_front_21 : decode b_M_front 21 = .ok (.ifCond .eq 34, 3) := by decide +kernel
theorem d_M_front_24 : decode b_M_front 24 = .ok (.iload_n 3, 1) := by decide +kernel
theorem d_M_front_25 : decode b_M_front 25 = .ok (.i2l, 1) := by decide +kernel
theorem d_M_front_26 : decode b_M_front 26 = .ok (.ldc2_w 173, 3) := by decide +kernel
theorem d_M_front_29 : decode b_M_front 29 = .ok (.ldc2_w 175, 3) := by decide +kernel
theorem d_M_front_32 : decode b_M_front 32 = .ok (.invokestatic 52, 3) := by decide +kernel
theorem d_M_front_35 : decode b_M_front 35 = .ok (.ifCond .eq 20, 3) := by decide +kernel
theorem d_M_front_38 : decode b_M_front 38 = .ok (.iload 4, 2) := by decide +kernel
theorem d_M_front_40 : decode b_M_front 40 = .ok (.i2l, 1) := by decide +kernel
theorem d_M_front_41 : decode b_M_front 41 = .ok (.lconst 1, 1) := by decide +kernel
theorem d_M_front_42 : decode b_M_front 42 = .ok (.ldc2_w 175, 3) := by decide +kernel
theorem d_M_front_45 : decode b_M_front 45 = .ok (.invokestatic 52, 3) := by decide +kernel
theorem d_M_front_48 : decode b_M_front 48 = .ok (.ifCond .eq 7, 3) := by decide +kernel
theorem d_M_front_51 : decode b_M_front 51 = .ok (.iconst 1, 1) := by decide +kernel
theorem d_M_front_52 : decode b_M_front 52 = .ok (.goto 4, 3) := by decide +kernel
theorem d_M_front_55 : decode b_M_front 55 = .ok (.iconst 0, 1) := by decide +kernel
theorem d_M_front_56 : decode b_M_front 56 = .ok (.istore 5, 2) := by decide +kernel
theorem d_M_front_58 : decode b_M_front 58 = .ok (.aload_n 0, 1) := by decide +kernel
theorem d_M_front_59 : decode b_M_front 59 = .ok (.iload 5, 2) := by decide +kernel
theorem d_M_front_61 : decode b_M_front 61 = .ok (.ifCond .ne 7, 3) := by decide +kernel
theorem d_M_front_64 : decode b_M_front 64 = .ok (.iconst 1, 1) := by decide +kernel
theorem d_M_front_65 : decode b_M_front 65 = .ok (.goto 23, 3) := by decide +kernel
theorem d_M_front_68 : decode b_M_front 68 = .ok (.aload_n 0, 1) := by decide +kernel
theorem d_M_front_69 : decode b_M_front 69 = .ok (.getfield 7, 3) := by decide +kernel
theorem d_M_front_72 : decode b_M_front 72 = .ok (.sipush 210, 3) := by decide +kernel
theorem d_M_front_75 : decode b_M_front 75 = .ok (.laload, 1) := by decide +kernel
theorem d_M_front_76 : decode b_M_front 76 = .ok (.ldc2_w 177, 3) := by decide +kernel
theorem d_M_front_79 : decode b_M_front 79 = .ok (.lcmp, 1) := by decide +kernel
theorem d_M_front_80 : decode b_M_front 80 = .ok (.ifCond .ne 7, 3) := by decide +kernel
theorem d_M_front_83 : decode b_M_front 83 = .ok (.iconst 2, 1) := by decide +kernel
theorem d_M_front_84 : decode b_M_front 84 = .ok (.goto 4, 3) := by decide +kernel
theorem d_M_front_87 : decode b_M_front 87 = .ok (.iconst 0, 1) := by decide +kernel
theorem d_M_front_88 : decode b_M_front 88 = .ok (.putfield 38, 3) := by decide +kernel
theorem d_M_front_91 : decode b_M_front 91 = .ok (.aload_n 0, 1) := by decide +kernel
theorem d_M_front_92 : decode b_M_front 92 = .ok (.getfield 38, 3) := by decide +kernel
theorem d_M_front_95 : decode b_M_front 95 = .ok (.ifCond .le 5, 3) := by decide +kernel
theorem d_M_front_98 : decode b_M_front 98 = .ok (.iconst 0, 1) := by decide +kernel
theorem d_M_front_99 : decode b_M_front 99 = .ok (.ireturn, 1) := by decide +kernel
theorem d_M_front_100 : decode b_M_front 100 = .ok (.iconst 0, 1) := by decide +kernel
theorem d_M_front_101 : decode b_M_front 101 = .ok (.istore 6, 2) := by decide +kernel
theorem d_M_front_103 : decode b_M_front 103 = .ok (.iconst 0, 1) := by decide +kernel
theorem d_M_front_104 : decode b_M_front 104 = .ok (.istore 7, 2) := by decide +kernel
theorem d_M_front_106 : decode b_M_front 106 = .ok (.iload 7, 2) := by decide +kernel
theorem d_M_front_108 : decode b_M_front 108 = .ok (.i2l, 1) := by decide +kernel
theorem d_M_front_109 : decode b_M_front 109 = .ok (.aload_n 0, 1) := by decide +kernel
theorem d_M_front_110 : decode b_M_front 110 = .ok (.getfield 7, 3) := by decide +kernel
theorem d_M_front_113 : decode b_M_front 113 = .ok (.sipush 210, 3) := by decide +kernel
theorem d_M_front_116 : decode b_M_front 116 = .ok (.laload, 1) := by decide +kernel
theorem d_M_front_117 : decode b_M_front 117 = .ok (.lcmp, 1) := by decide +kernel
theorem d_M_front_118 : decode b_M_front 118 = .ok (.ifCond .ge 37, 3) := by decide +kernel
theorem d_M_front_121 : decode b_M_front 121 = .ok (.aload_n 0, 1) := by decide +kernel
theorem d_M_front_122 : decode b_M_front 122 = .ok (.getfield 7, 3) := by decide +kernel
theorem d_M_front_125 : decode b_M_front 125 = .ok (.sipush 219, 3) := by decide +kernel
theorem d_M_front_128 : decode b_M_front 128 = .ok (.iload 7, 2) := by decide +kernel
theorem d_M_front_130 : decode b_M_front 130 = .ok (.iadd, 1) := by decide +kernel
theorem d_M_front_131 : decode b_M_front 131 = .ok (.laload, 1) := by decide +kernel
theorem d_M_front_132 : decode b_M_front 132 = .ok (.iload_n 2, 1) := by decide +kernel
theorem d_M_front_133 : decode b_M_front 133 = .ok (.i2l, 1) := by decide +kernel
theorem d_M_front_134 : decode b_M_front 134 = .ok (.lcmp, 1) := by decide +kernel
theorem d_M_front_135 : decode b_M_front 135 = .ok (.ifCond .gt 10, 3) := by decide +kernel
theorem d_M_front_138 : decode b_M_front 138 = .ok (.iload 7, 2) := by decide +kernel
theorem d_M_front_140 : decode b_M_front 140 = .ok (.iconst 1, 1) := by decide +kernel
theorem d_M_front_141 : decode b_M_front 141 = .ok (.iadd, 1) := by decide +kernel
theorem d_M_front_142 : decode b_M_front 142 = .ok (.goto 5, 3) := by decide +kernel
theorem d_M_front_145 : decode b_M_front 145 = .ok (.iload 6, 2) := by decide +kernel
theorem d_M_front_147 : decode b_M_front 147 = .ok (.istore 6, 2) := by decide +kernel
theorem d_M_front_149 : decode b_M_front 149 = .ok (.iinc 7 1, 3) := by decide +kernel
theorem d_M_front_152 : decode b_M_front 152 = .ok (.goto (-46), 3) := by decide +kernel
theorem d_M_front_155 : decode b_M_front 155 = .ok (.aload_n 0, 1) := by decide +kernel
theorem d_M_front_156 : decode b_M_front 156 = .ok (.iload 6, 2) := by decide +kernel
theorem d_M_front_158 : decode b_M_front 158 = .ok (.invokevirtual 179, 3) := by decide +kernel
theorem d_M_front_161 : decode b_M_front 161 = .ok (.aload_n 0, 1) := by decide +kernel
theorem d_M_front_162 : decode b_M_front 162 = .ok (.iload 6, 2) := by decide +kernel
theorem d_M_front_164 : decode b_M_front 164 = .ok (.iload_n 1, 1) := by decide +kernel
theorem d_M_front_165 : decode b_M_front 165 = .ok (.i2l, 1) := by decide +kernel
theorem d_M_front_166 : decode b_M_front 166 = .ok (.iload_n 2, 1) := by decide +kernel
theorem d_M_front_167 : decode b_M_front 167 = .ok (.i2l, 1) := by decide +kernel
theorem d_M_front_168 : decode b_M_front 168 = .ok (.iload_n 3, 1) := by decide +kernel
theorem d_M_front_169 : decode b_M_front 169 = .ok (.i2l, 1) := by decide +kernel
theorem d_M_front_170 : decode b_M_front 170 = .ok (.iload 4, 2) := by decide +kernel
theorem d_M_front_172 : decode b_M_front 172 = .ok (.i2l, 1) := by decide +kernel
theorem d_M_front_173 : decode b_M_front 173 = .ok (.invokevirtual 183, 3) := by decide +kernel
theorem d_M_front_176 : decode b_M_front 176 = .ok (.iload 6, 2) := by decide +kernel
theorem d_M_front_178 : decode b_M_front 178 = .ok (.ireturn, 1) := by decide +kernel
theorem d_M_moves_0 : decode b_M_moves 0 = .ok (.iconst 0, 1) := by decide +kernel
theorem d_M_moves_1 : decode b_M_moves 1 = .ok (.istore_n 1, 1) := by decide +kernel
theorem d_M_moves_2 : decode b_M_moves 2 = .ok (.iload_n 1, 1) := by decide +kernel
theorem d_M_moves_3 : decode b_M_moves 3 = .ok (.i2l, 1) := by decide +kernel
theorem d_M_moves_4 : decode b_M_moves 4 = .ok (.aload_n 0, 1) := by decide +kernel
theorem d_M_moves_5 : decode b_M_moves 5 = .ok (.getfield 7, 3) := by decide +kernel
theorem d_M_moves_8 : decode b_M_moves 8 = .ok (.sipush 210, 3) := by decide +kernel
theorem d_M_moves_11 : decode b_M_moves 11 = .ok (.laload, 1) := by decide +kernel
theorem d_M_moves_12 : decode b_M_moves 12 = .ok (.lcmp, 1) := by decide +kernel
theorem d_M_moves_13 : decode b_M_moves 13 = .ok (.ifCond .ge 202, 3) := by decide +kernel
theorem d_M_moves_16 : decode b_M_moves 16 = .ok (.aload_n 0, 1) := by decide +kernel
theorem d_M_moves_17 : decode b_M_moves 17 = .ok (.getfield 26, 3) := by decide +kernel
theorem d_M_moves_20 : decode b_M_moves 20 = .ok (.iload_n 1, 1) := by decide +kernel
theorem d_M_moves_21 : decode b_M_moves 21 = .ok (.aload_n 0, 1) := by decide +kernel
theorem d_M_moves_22 : decode b_M_moves 22 = .ok (.getfield 7, 3) := by decide +kernel
theorem d_M_moves_25 : decode b_M_moves 25 = .ok (.sipush 219, 3) := by decide +kernel
theorem d_M_moves_28 : decode b_M_moves 28 = .ok (.iload_n 1, 1) := by decide +kernel
theorem d_M_moves_29 : decode b_M_moves 29 = .ok (.iadd, 1) := by decide +kernel
theorem d_M_moves_30 : decode b_M_moves 30 = .ok (.laload, 1) := by decide +kernel
theorem d_M_moves_31 : decode b_M_moves 31 = .ok (.lastore, 1) := by decide +kernel
theorem d_M_moves_32 : decode b_M_moves 32 = .ok (.aload_n 0, 1) := by decide +kernel
theorem d_M_moves_33 : decode b_M_moves 33 = .ok (.getfield 7, 3) := by decide +kernel
theorem d_M_moves_36 : decode b_M_moves 36 = .ok (.sipush 219, 3) := by decide +kernel
theorem d_M_moves_39 : decode b_M_moves 39 = .ok (.iload_n 1, 1) := by decide +kernel
theorem d_M_moves_40 : decode b_M_moves 40 = .ok (.iadd, 1) := by decide +kernel
theorem d_M_moves_41 : decode b_M_moves 41 = .ok (.dup2, 1) := by decide +kernel
theorem d_M_moves_42 : decode b_M_moves 42 = .ok (.laload, 1) := by decide +kernel
theorem d_M_moves_43 : decode b_M_moves 43 = .ok (.aload_n 0, 1) := by decide +kernel
theorem d_M_moves_44 : decode b_M_moves 44 = .ok (.getfield 7, 3) := by decide +kernel
theorem d_M_moves_47 : decode b_M_moves 47 = .ok (.sipush 227, 3) := by decide +kernel
theorem d_M_moves_50 : decode b_M_moves 50 = .ok (.iload_n 1, 1) := by decide +kernel
theorem d_M_moves_51 : decode b_M_moves 51 = .ok (.iadd, 1) := by decide +kernel
theorem d_M_moves_52 : decode b_M_moves 52 = .ok (.laload, 1) := by decide +kernel
theorem d_M_moves_53 : decode b_M_moves 53 = .ok (.ladd, 1) := by decide +kernel
theorem d_M_moves_54 : decode b_M_moves 54 = .ok (.lastore, 1) := by decide +kernel
theorem d_M_moves_55 : decode b_M_moves 55 = .ok (.aload_n 0, 1) := by decide +kernel
theorem d_M_moves_56 : decode b_M_moves 56 = .ok (.getfield 7, 3) := by decide +kernel
theorem d_M_moves_59 : decode b_M_moves 59 = .ok (.sipush 219, 3) := by decide +kernel
theorem d_M_moves_62 : decode b_M_moves 62 = .ok (.iload_n 1, 1) := by decide +kernel
theorem d_M_moves_63 : decode b_M_moves 63 = .ok (.iadd, 1) := by decide +kernel
theorem d_M_moves_64 : decode b_M_moves 64 = .ok (.laload, 1) := by decide +kernel
theorem d_M_moves_65 : decode b_M_moves 65 = .ok (.lconst 0, 1) := by decide +kernel
theorem d_M_moves_66 : decode b_M_moves 66 = .ok (.ldc2_w 32, 3) := by decide +kernel
theorem d_M_moves_69 : decode b_M_moves 69 = .ok (.invokestatic 52, 3) := by decide +kernel
theorem d_M_moves_72 : decode b_M_moves 72 = .ok (.ifCond .ne 7, 3) := by decide +kernel
theorem d_M_moves_75 : decode b_M_moves 75 = .ok (.iconst 1, 1) := by decide +kernel
theorem d_M_moves_76 : decode b_M_moves 76 = .ok (.goto 4, 3) := by decide +kernel
theorem d_M_moves_79 : decode b_M_moves 79 = .ok (.iconst 0, 1) := by decide +kernel
theorem d_M_moves_80 : decode b_M_moves 80 = .ok (.istore_n 2, 1) := by decide +kernel
theorem d_M_moves_81 : decode b_M_moves 81 = .ok (.iload_n 2, 1) := by decide +kernel
theorem d_M_moves_82 : decode b_M_moves 82 = .ok (.ifCond .eq 26, 3) := by decide +kernel
theorem d_M_moves_85 : decode b_M_moves 85 = .ok (.aload_n 0, 1) := by decide +kernel
theorem d_M_moves_86 : decode b_M_moves 86 = .ok (.getfield 7, 3) := by decide +kernel
theorem d_M_moves_89 : decode b_M_moves 89 = .ok (.sipush 211, 3) := by decide +kernel
theorem d_M_moves_92 : decode b_M_moves 92 = .ok (.iload_n 1, 1) := by decide +kernel
theorem d_M_moves_93 : decode b_M_moves 93 = .ok (.iadd, 1) := by decide +kernel
theorem d_M_moves_94 : decode b_M_moves 94 = .ok (.laload, 1) := by decide +kernel
theorem d_M_moves_95 : decode b_M_moves 95 = .ok (.lconst 0, 1) := by decide +kernel
theorem d_M_moves_96 : decode b_M_moves 96 = .ok (.lcmp, 1) := by decide +kernel
theorem d_M_moves_97 : decode b_M_moves 97 = .ok (.ifCond .eq 11, 3) := by decide +kernel
theorem d_M_moves_100 : decode b_M_moves 100 = .ok (.aload_n 0, 1) := by decide +kernel
theorem d_M_moves_101 : decode b_M_moves 101 = .ok (.iload_n 1, 1) := by decide +kernel
theorem d_M_moves_102 : decode b_M_moves 102 = .ok (.invokevirtual 187, 3) := by decide +kernel
theorem d_M_moves_105 : decode b_M_moves 105 = .ok (.goto 107, 3) := by decide +kernel
theorem d_M_moves_108 : decode b_M_moves 108 = .ok (.iload_n 2, 1) := by decide +kernel
theorem d_M_moves_109 : decode b_M_moves 109 = .ok (.ifCond .eq 100, 3) := by decide +kernel
theorem d_M_moves_112 : decode b_M_moves 112 = .ok (.aload_n 0, 1) := by decide +kernel
theorem d_M_moves_113 : decode b_M_moves 113 = .ok (.getfield 7, 3) := by decide +kernel
theorem d_M_moves_116 : decode b_M_moves 116 = .ok (.sipush 219, 3) := by decide +kernel
theorem d_M_moves_119 : decode b_M_moves 119 = .ok (.iload_n 1, 1) := by decide +kernel
theorem d_M_moves_120 : decode b_M_moves 120 = .ok (.iadd, 1) := by decide +kernel
theorem d_M_moves_121 : decode b_M_moves 121 = .ok (.aload_n 0, 1) := by decide +kernel
theorem d_M_moves_122 : decode b_M_moves 122 = .ok (.getfield 7, 3) := by decide +kernel
theorem d_M_moves_125 : decode b_M_moves 125 = .ok (.sipush 219, 3) := by decide +kernel
theorem d_M_moves_128 : decode b_M_moves 128 = .ok (.iload_n 1, 1) := by decide +kernel
theorem d_M_moves_129 : decode b_M_moves 129 = .ok (.iadd, 1) := by decide +kernel
theorem d_M_moves_130 : decode b_M_moves 130 = .ok (.laload, 1) := by decide +kernel
theorem d_M_moves_131 : decode b_M_moves 131 = .ok (.lconst 0, 1) := by decide +kernel
theorem d_M_moves_132 : decode b_M_moves 132 = .ok (.lcmp, 1) := by decide +kernel
theorem d_M_moves_133 : decode b_M_moves 133 = .ok (.ifCond .ge 7, 3) := by decide +kernel
theorem d_M_moves_136 : decode b_M_moves 136 = .ok (.lconst 0, 1) := by decide +kernel
theorem d_M_moves_137 : decode b_M_moves 137 = .ok (.goto 6, 3) := by decide +kernel
theorem d_M_moves_140 : decode b_M_moves 140 = .ok (.ldc2_w 32, 3) := by decide +kernel
theorem d_M_moves_143 : decode b_M_moves 143 = .ok (.lastore, 1) := by decide +kernel
theorem d_M_moves_144 : decode b_M_moves 144 = .ok (.aload_n 0, 1) := by decide +kernel
theorem d_M_moves_145 : decode b_M_moves 145 = .ok (.getfield 7, 3) := by decide +kernel
theorem d_M_moves_148 : decode b_M_moves 148 = .ok (.sipush 227, 3) := by decide +kernel
theorem d_M_moves_151 : decode b_M_moves 151 = .ok (.iload_n 1, 1) := by decide +kernel
theorem d_M_moves_152 : decode b_M_moves 152 = .ok (.iadd, 1) := by decide +kernel
theorem d_M_moves_153 : decode b_M_moves 153 = .ok (.aload_n 0, 1) := by decide +kernel
theorem d_M_moves_154 : decode b_M_moves 154 = .ok (.getfield 7, 3) := by decide +kernel
theorem d_M_moves_157 : decode b_M_moves 157 = .ok (.sipush 227, 3) := by decide +kernel
theorem d_M_moves_160 : decode b_M_moves 160 = .ok (.iload_n 1, 1) := by decide +kernel
theorem d_M_moves_161 : decode b_M_moves 161 = .ok (.iadd, 1) := by decide +kernel
theorem d_M_moves_162 : decode b_M_moves 162 = .ok (.laload, 1) := by decide +kernel
theorem d_M_moves_163 : decode b_M_moves 163 = .ok (.lneg, 1) := by decide +kernel
theorem d_M_moves_164 : decode b_M_moves 164 = .ok (.lastore, 1) := by decide +kernel
theorem d_M_moves_165 : decode b_M_moves 165 = .ok (.ldc2_w 66, 3) := by decide +kernel
theorem d_M_moves_168 : decode b_M_moves 168 = .ok (.aload_n 0, 1) := by decide +kernel
theorem d_M_moves_169 : decode b_M_moves 169 = .ok (.getfield 7, 3) := by decide +kernel
theorem d_M_moves_172 : decode b_M_moves 172 = .ok (.sipush 235, 3) := by decide +kernel
theorem d_M_moves_175 : decode b_M_moves 175 = .ok (.iload_n 1, 1) := by decide +kernel
theorem d_M_moves_176 : decode b_M_moves 176 = .ok (.iadd, 1) := by decide +kernel
theorem d_M_moves_177 : decode b_M_moves 177 = .ok (.laload, 1) := by decide +kernel
theorem d_M_moves_178 : decode b_M_moves 178 = .ok (.lmul, 1) := by decide +kernel
theorem d_M_moves_179 : decode b_M_moves 179 = .ok (.ldc2_w 44, 3) := by decide +kernel
theorem d_M_moves_182 : decode b_M_moves 182 = .ok (.ldiv, 1) := by decide +kernel
theorem d_M_moves_183 : decode b_M_moves 183 = .ok (.lstore_n 3, 1) := by decide +kernel
theorem d_M_moves_184 : decode b_M_moves 184 = .ok (.aload_n 0, 1) := by decide +kernel
theorem d_M_moves_185 : decode b_M_moves 185 = .ok (.getfield 7, 3) := by decide +kernel
theorem d_M_moves_188 : decode b_M_moves 188 = .ok (.sipush 235, 3) := by decide +kernel
theorem d_M_moves_191 : decode b_M_moves 191 = .ok (.iload_n 1, 1) := by decide +kernel
theorem d_M_moves_192 : decode b_M_moves 192 = .ok (.iadd, 1) := by decide +kernel
theorem d_M_moves_193 : decode b_M_moves 193 = .ok (.lload_n 3, 1) := by decide +kernel
theorem d_M_moves_194 : decode b_M_moves 194 = .ok (.ldc2_w 175, 3) := by decide +kernel
theorem d_M_moves_197 : decode b_M_moves 197 = .ok (.lcmp, 1) := by decide +kernel
theorem d_M_moves_198 : decode b_M_moves 198 = .ok (.ifCond .le 9, 3) := by decide +kernel
theorem d_M_moves_201 : decode b_M_moves 201 = .ok (.ldc2_w 175, 3) := by decide +kernel
theorem d_M_moves_204 : decode b_M_moves 204 = .ok (.goto 4, 3) := by decide +kernel
theorem d_M_moves_207 : decode b_M_moves 207 = .ok (.lload_n 3, 1) := by decide +kernel
theorem d_M_moves_208 : decode b_M_moves 208 = .ok (.lastore, 1) := by decide +kernel
theorem d_M_moves_209 : decode b_M_moves 209 = .ok (.iinc 1 1, 3) := by decide +kernel
theorem d_M_moves_212 : decode b_M_moves 212 = .ok (.goto (-210), 3) := by decide +kernel
theorem d_M_moves_215 : decode b_M_moves 215 = .ok (.return_, 1) := by decide +kernel
theorem d_M_held_0 : decode b_M_held 0 = .ok (.lload_n 0, 1) := by decide +kernel
theorem d_M_held_1 : decode b_M_held 1 = .ok (.ldc2_w 175, 3) := by decide +kernel
theorem d_M_held_4 : decode b_M_held 4 = .ok (.lcmp, 1) := by decide +kernel
theorem d_M_held_5 : decode b_M_held 5 = .ok (.ifCond .le 9, 3) := by decide +kernel
theorem d_M_held_8 : decode b_M_held 8 = .ok (.ldc2_w 175, 3) := by decide +kernel
theorem d_M_held_11 : decode b_M_held 11 = .ok (.goto 18, 3) := by decide +kernel
theorem d_M_held_14 : decode b_M_held 14 = .ok (.lload_n 0, 1) := by decide +kernel
theorem d_M_held_15 : decode b_M_held 15 = .ok (.ldc2_w 173, 3) := by decide +kernel
theorem d_M_held_18 : decode b_M_held 18 = .ok (.lcmp, 1) := by decide +kernel
theorem d_M_held_19 : decode b_M_held 19 = .ok (.ifCond .ge 9, 3) := by decide +kernel
theorem d_M_held_22 : decode b_M_held 22 = .ok (.ldc2_w 173, 3) := by decide +kernel
theorem d_M_held_25 : decode b_M_held 25 = .ok (.goto 4, 3) := by decide +kernel
theorem d_M_held_28 : decode b_M_held 28 = .ok (.lload_n 0, 1) := by decide +kernel
theorem d_M_held_29 : decode b_M_held 29 = .ok (.lreturn, 1) := by decide +kernel
theorem d_M_doMeet_0 : decode b_M_doMeet 0 = .ok (.aload_n 0, 1) := by decide +kernel
theorem d_M_doMeet_1 : decode b_M_doMeet 1 = .ok (.getfield 7, 3) := by decide +kernel
theorem d_M_doMeet_4 : decode b_M_doMeet 4 = .ok (.sipush 219, 3) := by decide +kernel
theorem d_M_doMeet_7 : decode b_M_doMeet 7 = .ok (.iload_n 1, 1) := by decide +kernel
theorem d_M_doMeet_8 : decode b_M_doMeet 8 = .ok (.iadd, 1) := by decide +kernel
theorem d_M_doMeet_9 : decode b_M_doMeet 9 = .ok (.laload, 1) := by decide +kernel
theorem d_M_doMeet_10 : decode b_M_doMeet 10 = .ok (.aload_n 0, 1) := by decide +kernel
theorem d_M_doMeet_11 : decode b_M_doMeet 11 = .ok (.getfield 7, 3) := by decide +kernel
theorem d_M_doMeet_14 : decode b_M_doMeet 14 = .ok (.sipush 219, 3) := by decide +kernel
theorem d_M_doMeet_17 : decode b_M_doMeet 17 = .ok (.iload_n 1, 1) := by decide +kernel
theorem d_M_doMeet_18 : decode b_M_doMeet 18 = .ok (.iadd, 1) := by decide +kernel
theorem d_M_doMeet_19 : decode b_M_doMeet 19 = .ok (.iconst 1, 1) := by decide +kernel
theorem d_M_doMeet_20 : decode b_M_doMeet 20 = .ok (.iadd, 1) := by decide +kernel
theorem d_M_doMeet_21 : decode b_M_doMeet 21 = .ok (.laload, 1) := by decide +kernel
theorem d_M_doMeet_22 : decode b_M_doMeet 22 = .ok (.lcmp, 1) := by decide +kernel
theorem d_M_doMeet_23 : decode b_M_doMeet 23 = .ok (.ifCond .gt 47, 3) := by decide +kernel
theorem d_M_doMeet_26 : decode b_M_doMeet 26 = .ok (.aload_n 0, 1) := by decide +kernel
theorem d_M_doMeet_27 : decode b_M_doMeet 27 = .ok (.getfield 7, 3) := by decide +kernel
theorem d_M_doMeet_30 : decode b_M_doMeet 30 = .ok (.sipush 219, 3) := by decide +kernel
theorem d_M_doMeet_33 : decode b_M_doMeet 33 = .ok (.iload_n 1, 1) := by decide +kernel
theorem d_M_doMeet_34 : decode b_M_doMeet 34 = .ok (.iadd, 1) := by decide +kernel
theorem d_M_doMeet_35 : decode b_M_doMeet 35 = .ok (.laload, 1) := by decide +kernel
theorem d_M_doMeet_36 : decode b_M_doMeet 36 = .ok (.aload_n 0, 1) := by decide +kernel
theorem d_M_doMeet_37 : decode b_M_doMeet 37 = .ok (.getfield 7, 3) := by decide +kernel
theorem d_M_doMeet_40 : decode b_M_doMeet 40 = .ok (.sipush 219, 3) := by decide +kernel
theorem d_M_doMeet_43 : decode b_M_doMeet 43 = .ok (.iload_n 1, 1) := by decide +kernel
theorem d_M_doMeet_44 : decode b_M_doMeet 44 = .ok (.iadd, 1) := by decide +kernel
theorem d_M_doMeet_45 : decode b_M_doMeet 45 = .ok (.iconst 1, 1) := by decide +kernel
theorem d_M_doMeet_46 : decode b_M_doMeet 46 = .ok (.iadd, 1) := by decide +kernel
theorem d_M_doMeet_47 : decode b_M_doMeet 47 = .ok (.laload, 1) := by decide +kernel
theorem d_M_doMeet_48 : decode b_M_doMeet 48 = .ok (.lcmp, 1) := by decide +kernel
theorem d_M_doMeet_49 : decode b_M_doMeet 49 = .ok (.ifCond .ne 25, 3) := by decide +kernel
theorem d_M_doMeet_52 : decode b_M_doMeet 52 = .ok (.aload_n 0, 1) := by decide +kernel
theorem d_M_doMeet_53 : decode b_M_doMeet 53 = .ok (.getfield 26, 3) := by decide +kernel
theorem d_M_doMeet_56 : decode b_M_doMeet 56 = .ok (.iload_n 1, 1) := by decide +kernel
theorem d_M_doMeet_57 : decode b_M_doMeet 57 = .ok (.laload, 1) := by decide +kernel
theorem d_M_doMeet_58 : decode b_M_doMeet 58 = .ok (.aload_n 0, 1) := by decide +kernel
theorem d_M_doMeet_59 : decode b_M_doMeet 59 = .ok (.getfield 26, 3) := by decide +kernel
theorem d_M_doMeet_62 : decode b_M_doMeet 62 = .ok (.iload_n 1, 1) := by decide +kernel
theorem d_M_doMeet_63 : decode b_M_doMeet 63 = .ok (.iconst 1, 1) := by decide +kernel
theorem d_M_doMeet_64 : decode b_M_doMeet 64 = .ok (.iadd, 1) := by decide +kernel
theorem d_M_doMeet_65 : decode b_M_doMeet 65 = .ok (.laload, 1) := by decide +kernel
theorem d_M_doMeet_66 : decode b_M_doMeet 66 = .ok (.lcmp, 1) := by decide +kernel
theorem d_M_doMeet_67 : decode b_M_doMeet 67 = .ok (.ifCond .ge 7, 3) := by decide +kernel
theorem d_M_doMeet_70 : decode b_M_doMeet 70 = .ok (.iconst 1, 1) := by decide +kernel
theorem d_M_doMeet_71 : decode b_M_doMeet 71 = .ok (.goto 4, 3) := by decide +kernel
theorem d_M_doMeet_74 : decode b_M_doMeet 74 = .ok (.iconst 0, 1) := by decide +kernel
theorem d_M_doMeet_75 : decode b_M_doMeet 75 = .ok (.ireturn, 1) := by decide +kernel
theorem d_M_turns_0 : decode b_M_turns 0 = .ok (.aload_n 0, 1) := by decide +kernel
theorem d_M_turns_1 : decode b_M_turns 1 = .ok (.getfield 7, 3) := by decide +kernel
theorem d_M_turns_4 : decode b_M_turns 4 = .ok (.sipush 211, 3) := by decide +kernel
theorem d_M_turns_7 : decode b_M_turns 7 = .ok (.iload_n 1, 1) := by decide +kernel
theorem d_M_turns_8 : decode b_M_turns 8 = .ok (.iadd, 1) := by decide +kernel
theorem d_M_turns_9 : decode b_M_turns 9 = .ok (.laload, 1) := by decide +kernel
theorem d_M_turns_10 : decode b_M_turns 10 = .ok (.lstore_n 2, 1) := by decide +kernel
theorem d_M_turns_11 : decode b_M_turns 11 = .ok (.aload_n 0, 1) := by decide +kernel
theorem d_M_turns_12 : decode b_M_turns 12 = .ok (.getfield 7, 3) := by decide +kernel
theorem d_M_turns_15 : decode b_M_turns 15 = .ok (.sipush 227, 3) := by decide +kernel
theorem d_M_turns_18 : decode b_M_turns 18 = .ok (.iload_n 1, 1) := by decide +kernel
theorem d_M_turns_19 : decode b_M_turns 19 = .ok (.iadd, 1) := by decide +kernel
theorem d_M_turns_20 : decode b_M_turns 20 = .ok (.laload, 1) := by decide +kernel
theorem d_M_turns_21 : decode b_M_turns 21 = .ok (.lstore 4, 2) := by decide +kernel
theorem d_M_turns_23 : decode b_M_turns 23 = .ok (.aload_n 0, 1) := by decide +kernel
theorem d_M_turns_24 : decode b_M_turns 24 = .ok (.getfield 7, 3) := by decide +kernel
theorem d_M_turns_27 : decode b_M_turns 27 = .ok (.sipush 235, 3) := by decide +kernel
theorem d_M_turns_30 : decode b_M_turns 30 = .ok (.iload_n 1, 1) := by decide +kernel
theorem d_M_turns_31 : decode b_M_turns 31 = .ok (.iadd, 1) := by decide +kernel
theorem d_M_turns_32 : decode b_M_turns 32 = .ok (.laload, 1) := by decide +kernel
theorem d_M_turns_33 : decode b_M_turns 33 = .ok (.lstore 6, 2) := by decide +kernel
theorem d_M_turns_35 : decode b_M_turns 35 = .ok (.aload_n 0, 1) := by decide +kernel
theorem d_M_turns_36 : decode b_M_turns 36 = .ok (.getfield 7, 3) := by decide +kernel
theorem d_M_turns_39 : decode b_M_turns 39 = .ok (.sipush 219, 3) := by decide +kernel
theorem d_M_turns_42 : decode b_M_turns 42 = .ok (.iload_n 1, 1) := by decide +kernel
theorem d_M_turns_43 : decode b_M_turns 43 = .ok (.iadd, 1) := by decide +kernel
theorem d_M_turns_44 : decode b_M_turns 44 = .ok (.laload, 1) := by decide +kernel
theorem d_M_turns_45 : decode b_M_turns 45 = .ok (.lstore 8, 2) := by decide +kernel
theorem d_M_turns_47 : decode b_M_turns 47 = .ok (.aload_n 0, 1) := by decide +kernel
theorem d_M_turns_48 : decode b_M_turns 48 = .ok (.iload_n 1, 1) := by decide +kernel
theorem d_M_turns_49 : decode b_M_turns 49 = .ok (.iconst 1, 1) := by decide +kernel
theorem d_M_turns_50 : decode b_M_turns 50 = .ok (.iadd, 1) := by decide +kernel
theorem d_M_turns_51 : decode b_M_turns 51 = .ok (.iload_n 1, 1) := by decide +kernel
theorem d_M_turns_52 : decode b_M_turns 52 = .ok (.invokevirtual 169, 3) := by decide +kernel
theorem d_M_turns_55 : decode b_M_turns 55 = .ok (.aload_n 0, 1) := by decide +kernel
theorem d_M_turns_56 : decode b_M_turns 56 = .ok (.iload_n 1, 1) := by decide +kernel
theorem d_M_turns_57 : decode b_M_turns 57 = .ok (.iconst 1, 1) := by decide +kernel
theorem d_M_turns_58 : decode b_M_turns 58 = .ok (.iadd, 1) := by decide +kernel
theorem d_M_turns_59 : decode b_M_turns 59 = .ok (.lload_n 2, 1) := by decide +kernel
theorem d_M_turns_60 : decode b_M_turns 60 = .ok (.lload 8, 2) := by decide +kernel
theorem d_M_turns_62 : decode b_M_turns 62 = .ok (.lload 4, 2) := by decide +kernel
theorem d_M_turns_64 : decode b_M_turns 64 = .ok (.lload 6, 2) := by decide +kernel
theorem d_M_turns_66 : decode b_M_turns 66 = .ok (.invokevirtual 183, 3) := by decide +kernel
theorem d_M_turns_69 : decode b_M_turns 69 = .ok (.return_, 1) := by decide +kernel
theorem d_M_goThrough_0 : decode b_M_goThrough 0 = .ok (.lload_n 0, 1) := by decide +kernel
theorem d_M_goThrough_1 : decode b_M_goThrough 1 = .ok (.lconst 0, 1) := by decide +kernel
theorem d_M_goThrough_2 : decode b_M_goThrough 2 = .ok (.lcmp, 1) := by decide +kernel
theorem d_M_goThrough_3 : decode b_M_goThrough 3 = .ok (.ifCond .eq 34, 3) := by decide +kernel
theorem d_M_goThrough_6 : decode b_M_goThrough 6 = .ok (.lload_n 2, 1) := by decide +kernel
theorem d_M_goThrough_7 : decode b_M_goThrough 7 = .ok (.lconst 0, 1) := by decide +kernel
theorem d_M_goThrough_8 : decode b_M_goThrough 8 = .ok (.lcmp, 1) := by decide +kernel
theorem d_M_goThrough_9 : decode b_M_goThrough 9 = .ok (.ifCond .eq 28, 3) := by decide +kernel
theorem d_M_goThrough_12 : decode b_M_goThrough 12 = .ok (.lload_n 0, 1) := by decide +kernel
theorem d_M_goThrough_13 : decode b_M_goThrough 13 = .ok (.lconst 0, 1) := by decide +kernel
theorem d_M_goThrough_14 : decode b_M_goThrough 14 = .ok (.lcmp, 1) := by decide +kernel
theorem d_M_goThrough_15 : decode b_M_goThrough 15 = .ok (.ifCond .le 7, 3) := by decide +kernel
theorem d_M_goThrough_18 : decode b_M_goThrough 18 = .ok (.iconst 1, 1) := by decide +kernel
theorem d_M_goThrough_19 : decode b_M_goThrough 19 = .ok (.goto 4, 3) := by decide +kernel
theorem d_M_goThrough_22 : decode b_M_goThrough 22 = .ok (.iconst 0, 1) := by decide +kernel
theorem d_M_goThrough_23 : decode b_M_goThrough 23 = .ok (.lload_n 2, 1) := by decide +kernel
theorem d_M_goThrough_24 : decode b_M_goThrough 24 = .ok (.lconst 0, 1) := by decide +kernel
theorem d_M_goThrough_25 : decode b_M_goThrough 25 = .ok (.lcmp, 1) := by decide +kernel
theorem d_M_goThrough_26 : decode b_M_goThrough 26 = .ok (.ifCond .le 7, 3) := by decide +kernel
theorem d_M_goThrough_29 : decode b_M_goThrough 29 = .ok (.iconst 1, 1) := by decide +kernel
theorem d_M_goThrough_30 : decode b_M_goThrough 30 = .ok (.goto 4, 3) := by decide +kernel
theorem d_M_goThrough_33 : decode b_M_goThrough 33 = .ok (.iconst 0, 1) := by decide +kernel
theorem d_M_goThrough_34 : decode b_M_goThrough 34 = .ok (.if_icmp .eq 7, 3) := by decide +kernel
theorem d_M_goThrough_37 : decode b_M_goThrough 37 = .ok (.iconst 1, 1) := by decide +kernel
theorem d_M_goThrough_38 : decode b_M_goThrough 38 = .ok (.goto 4, 3) := by decide +kernel
theorem d_M_goThrough_41 : decode b_M_goThrough 41 = .ok (.iconst 0, 1) := by decide +kernel
theorem d_M_goThrough_42 : decode b_M_goThrough 42 = .ok (.ireturn, 1) := by decide +kernel
theorem d_M_shocksMeet_0 : decode b_M_shocksMeet 0 = .ok (.aload_n 0, 1) := by decide +kernel
theorem d_M_shocksMeet_1 : decode b_M_shocksMeet 1 = .ok (.getfield 7, 3) := by decide +kernel
theorem d_M_shocksMeet_4 : decode b_M_shocksMeet 4 = .ok (.sipush 227, 3) := by decide +kernel
theorem d_M_shocksMeet_7 : decode b_M_shocksMeet 7 = .ok (.iload_n 1, 1) := by decide +kernel
theorem d_M_shocksMeet_8 : decode b_M_shocksMeet 8 = .ok (.iadd, 1) := by decide +kernel
theorem d_M_shocksMeet_9 : decode b_M_shocksMeet 9 = .ok (.laload, 1) := by decide +kernel
theorem d_M_shocksMeet_10 : decode b_M_shocksMeet 10 = .ok (.lstore 4, 2) := by decide +kernel
theorem d_M_shocksMeet_12 : decode b_M_shocksMeet 12 = .ok (.aload_n 0, 1) := by decide +kernel
theorem d_M_shocksMeet_13 : decode b_M_shocksMeet 13 = .ok (.getfield 7, 3) := by decide +kernel
theorem d_M_shocksMeet_16 : decode b_M_shocksMeet 16 = .ok (.sipush 227, 3) := by decide +kernel
theorem d_M_shocksMeet_19 : decode b_M_shocksMeet 19 = .ok (.iload_n 1, 1) := by decide +kernel
theorem d_M_shocksMeet_20 : decode b_M_shocksMeet 20 = .ok (.iadd, 1) := by decide +kernel
theorem d_M_shocksMeet_21 : decode b_M_shocksMeet 21 = .ok (.iconst 1, 1) := by decide +kernel
theorem d_M_shocksMeet_22 : decode b_M_shocksMeet 22 = .ok (.iadd, 1) := by decide +kernel
theorem d_M_shocksMeet_23 : decode b_M_shocksMeet 23 = .ok (.laload, 1) := by decide +kernel
theorem d_M_shocksMeet_24 : decode b_M_shocksMeet 24 = .ok (.lstore 6, 2) := by decide +kernel
theorem d_M_shocksMeet_26 : decode b_M_shocksMeet 26 = .ok (.aload_n 0, 1) := by decide +kernel
theorem d_M_shocksMeet_27 : decode b_M_shocksMeet 27 = .ok (.getfield 7, 3) := by decide +kernel
theorem d_M_shocksMeet_30 : decode b_M_shocksMeet 30 = .ok (.sipush 235, 3) := by decide +kernel
theorem d_M_shocksMeet_33 : decode b_M_shocksMeet 33 = .ok (.iload_n 1, 1) := by decide +kernel
theorem d_M_shocksMeet_34 : decode b_M_shocksMeet 34 = .ok (.iadd, 1) := by decide +kernel
theorem d_M_shocksMeet_35 : decode b_M_shocksMeet 35 = .ok (.laload, 1) := by decide +kernel
theorem d_M_shocksMeet_36 : decode b_M_shocksMeet 36 = .ok (.lstore 8, 2) := by decide +kernel
theorem d_M_shocksMeet_38 : decode b_M_shocksMeet 38 = .ok (.aload_n 0, 1) := by decide +kernel
theorem d_M_shocksMeet_39 : decode b_M_shocksMeet 39 = .ok (.getfield 7, 3) := by decide +kernel
theorem d_M_shocksMeet_42 : decode b_M_shocksMeet 42 = .ok (.sipush 235, 3) := by decide +kernel
theorem d_M_shocksMeet_45 : decode b_M_shocksMeet 45 = .ok (.iload_n 1, 1) := by decide +kernel
theorem d_M_shocksMeet_46 : decode b_M_shocksMeet 46 = .ok (.iadd, 1) := by decide +kernel
theorem d_M_shocksMeet_47 : decode b_M_shocksMeet 47 = .ok (.iconst 1, 1) := by decide +kernel
theorem d_M_shocksMeet_48 : decode b_M_shocksMeet 48 = .ok (.iadd, 1) := by decide +kernel
theorem d_M_shocksMeet_49 : decode b_M_shocksMeet 49 = .ok (.laload, 1) := by decide +kernel
theorem d_M_shocksMeet_50 : decode b_M_shocksMeet 50 = .ok (.lstore 10, 2) := by decide +kernel
theorem d_M_shocksMeet_52 : decode b_M_shocksMeet 52 = .ok (.lload 4, 2) := by decide +kernel
theorem d_M_shocksMeet_54 : decode b_M_shocksMeet 54 = .ok (.lload 6, 2) := by decide +kernel
theorem d_M_shocksMeet_56 : decode b_M_shocksMeet 56 = .ok (.invokestatic 190, 3) := by decide +kernel
theorem d_M_shocksMeet_59 : decode b_M_shocksMeet 59 = .ok (.ifCond .ne 57, 3) := by decide +kernel
theorem d_M_shocksMeet_62 : decode b_M_shocksMeet 62 = .ok (.lload 8, 2) := by decide +kernel
theorem d_M_shocksMeet_64 : decode b_M_shocksMeet 64 = .ok (.lload 10, 2) := by decide +kernel
theorem d_M_shocksMeet_66 : decode b_M_shocksMeet 66 = .ok (.ladd, 1) := by decide +kernel
theorem d_M_shocksMeet_67 : decode b_M_shocksMeet 67 = .ok (.lstore 12, 2) := by decide +kernel
theorem d_M_shocksMeet_69 : decode b_M_shocksMeet 69 = .ok (.aload_n 0, 1) := by decide +kernel
theorem d_M_shocksMeet_70 : decode b_M_shocksMeet 70 = .ok (.iload_n 1, 1) := by decide +kernel
theorem d_M_shocksMeet_71 : decode b_M_shocksMeet 71 = .ok (.lconst 0, 1) := by decide +kernel
theorem d_M_shocksMeet_72 : decode b_M_shocksMeet 72 = .ok (.lload_n 2, 1) := by decide +kernel
theorem d_M_shocksMeet_73 : decode b_M_shocksMeet 73 = .ok (.lload 4, 2) := by decide +kernel
theorem d_M_shocksMeet_75 : decode b_M_shocksMeet 75 = .ok (.lload 8, 2) := by decide +kernel
theorem d_M_shocksMeet_77 : decode b_M_shocksMeet 77 = .ok (.lmul, 1) := by decide +kernel
theorem d_M_shocksMeet_78 : decode b_M_shocksMeet 78 = .ok (.lload 6, 2) := by decide +kernel
theorem d_M_shocksMeet_80 : decode b_M_shocksMeet 80 = .ok (.lload 10, 2) := by decide +kernel
theorem d_M_shocksMeet_82 : decode b_M_shocksMeet 82 = .ok (.lmul, 1) := by decide +kernel
theorem d_M_shocksMeet_83 : decode b_M_shocksMeet 83 = .ok (.ladd, 1) := by decide +kernel
theorem d_M_shocksMeet_84 : decode b_M_shocksMeet 84 = .ok (.lload 12, 2) := by decide +kernel
theorem d_M_shocksMeet_86 : decode b_M_shocksMeet 86 = .ok (.ldiv, 1) := by decide +kernel
theorem d_M_shocksMeet_87 : decode b_M_shocksMeet 87 = .ok (.lload 12, 2) := by decide +kernel
theorem d_M_shocksMeet_89 : decode b_M_shocksMeet 89 = .ok (.ldc2_w 175, 3) := by decide +kernel
theorem d_M_shocksMeet_92 : decode b_M_shocksMeet 92 = .ok (.lcmp, 1) := by decide +kernel
theorem d_M_shocksMeet_93 : decode b_M_shocksMeet 93 = .ok (.ifCond .le 9, 3) := by decide +kernel
theorem d_M_shocksMeet_96 : decode b_M_shocksMeet 96 = .ok (.ldc2_w 175, 3) := by decide +kernel
theorem d_M_shocksMeet_99 : decode b_M_shocksMeet 99 = .ok (.goto 5, 3) := by decide +kernel
theorem d_M_shocksMeet_102 : decode b_M_shocksMeet 102 = .ok (.lload 12, 2) := by decide +kernel
theorem d_M_shocksMeet_104 : decode b_M_shocksMeet 104 = .ok (.invokevirtual 183, 3) := by decide +kernel
theorem d_M_shocksMeet_107 : decode b_M_shocksMeet 107 = .ok (.aload_n 0, 1) := by decide +kernel
theorem d_M_shocksMeet_108 : decode b_M_shocksMeet 108 = .ok (.iload_n 1, 1) := by decide +kernel
theorem d_M_shocksMeet_109 : decode b_M_shocksMeet 109 = .ok (.iconst 1, 1) := by decide +kernel
theorem d_M_shocksMeet_110 : decode b_M_shocksMeet 110 = .ok (.iadd, 1) := by decide +kernel
theorem d_M_shocksMeet_111 : decode b_M_shocksMeet 111 = .ok (.invokevirtual 187, 3) := by decide +kernel
theorem d_M_shocksMeet_114 : decode b_M_shocksMeet 114 = .ok (.iload_n 1, 1) := by decide +kernel
theorem d_M_shocksMeet_115 : decode b_M_shocksMeet 115 = .ok (.ireturn, 1) := by decide +kernel
theorem d_M_shocksMeet_116 : decode b_M_shocksMeet 116 = .ok (.aload_n 0, 1) := by decide +kernel
theorem d_M_shocksMeet_117 : decode b_M_shocksMeet 117 = .ok (.iload_n 1, 1) := by decide +kernel
theorem d_M_shocksMeet_118 : decode b_M_shocksMeet 118 = .ok (.invokevirtual 194, 3) := by decide +kernel
theorem d_M_shocksMeet_121 : decode b_M_shocksMeet 121 = .ok (.lload 8, 2) := by decide +kernel
theorem d_M_shocksMeet_123 : decode b_M_shocksMeet 123 = .ok (.lload 10, 2) := by decide +kernel
theorem d_M_shocksMeet_125 : decode b_M_shocksMeet 125 = .ok (.lcmp, 1) := by decide +kernel
theorem d_M_shocksMeet_126 : decode b_M_shocksMeet 126 = .ok (.ifCond .eq 55, 3) := by decide +kernel
theorem d_M_shocksMeet_129 : decode b_M_shocksMeet 129 = .ok (.aload_n 0, 1) := by decide +kernel
theorem d_M_shocksMeet_130 : decode b_M_shocksMeet 130 = .ok (.getfield 7, 3) := by decide +kernel
theorem d_M_shocksMeet_133 : decode b_M_shocksMeet 133 = .ok (.sipush 210, 3) := by decide +kernel
theorem d_M_shocksMeet_136 : decode b_M_shocksMeet 136 = .ok (.laload, 1) := by decide +kernel
theorem d_M_shocksMeet_137 : decode b_M_shocksMeet 137 = .ok (.ldc2_w 177, 3) := by decide +kernel
theorem d_M_shocksMeet_140 : decode b_M_shocksMeet 140 = .ok (.lcmp, 1) := by decide +kernel
theorem d_M_shocksMeet_141 : decode b_M_shocksMeet 141 = .ok (.ifCond .ge 40, 3) := by decide +kernel
theorem d_M_shocksMeet_144 : decode b_M_shocksMeet 144 = .ok (.aload_n 0, 1) := by decide +kernel
theorem d_M_shocksMeet_145 : decode b_M_shocksMeet 145 = .ok (.iload_n 1, 1) := by decide +kernel
theorem d_M_shocksMeet_146 : decode b_M_shocksMeet 146 = .ok (.iconst 1, 1) := by decide +kernel
theorem d_M_shocksMeet_147 : decode b_M_shocksMeet 147 = .ok (.iadd, 1) := by decide +kernel
theorem d_M_shocksMeet_148 : decode b_M_shocksMeet 148 = .ok (.invokevirtual 179, 3) := by decide +kernel
theorem d_M_shocksMeet_151 : decode b_M_shocksMeet 151 = .ok (.aload_n 0, 1) := by decide +kernel
theorem d_M_shocksMeet_152 : decode b_M_shocksMeet 152 = .ok (.iload_n 1, 1) := by decide +kernel
theorem d_M_shocksMeet_153 : decode b_M_shocksMeet 153 = .ok (.iconst 1, 1) := by decide +kernel
theorem d_M_shocksMeet_154 : decode b_M_shocksMeet 154 = .ok (.iadd, 1) := by decide +kernel
theorem d_M_shocksMeet_155 : decode b_M_shocksMeet 155 = .ok (.lconst 1, 1) := by decide +kernel
theorem d_M_shocksMeet_156 : decode b_M_shocksMeet 156 = .ok (.lload_n 2, 1) := by decide +kernel
theorem d_M_shocksMeet_157 : decode b_M_shocksMeet 157 = .ok (.lload 4, 2) := by decide +kernel
theorem d_M_shocksMeet_159 : decode b_M_shocksMeet 159 = .ok (.lload 6, 2) := by decide +kernel
theorem d_M_shocksMeet_161 : decode b_M_shocksMeet 161 = .ok (.ladd, 1) := by decide +kernel
theorem d_M_shocksMeet_162 : decode b_M_shocksMeet 162 = .ok (.ldc2_w 197, 3) := by decide +kernel
theorem d_M_shocksMeet_165 : decode b_M_shocksMeet 165 = .ok (.ldiv, 1) := by decide +kernel
theorem d_M_shocksMeet_166 : decode b_M_shocksMeet 166 = .ok (.lload 8, 2) := by decide +kernel
theorem d_M_shocksMeet_168 : decode b_M_shocksMeet 168 = .ok (.lload 10, 2) := by decide +kernel
theorem d_M_shocksMeet_170 : decode b_M_shocksMeet 170 = .ok (.lsub, 1) := by decide +kernel
theorem d_M_shocksMeet_171 : decode b_M_shocksMeet 171 = .ok (.invokestatic 104, 3) := by decide +kernel
theorem d_M_shocksMeet_174 : decode b_M_shocksMeet 174 = .ok (.invokevirtual 183, 3) := by decide +kernel
theorem d_M_shocksMeet_177 : decode b_M_shocksMeet 177 = .ok (.iload_n 1, 1) := by decide +kernel
theorem d_M_shocksMeet_178 : decode b_M_shocksMeet 178 = .ok (.iconst 2, 1) := by decide +kernel
theorem d_M_shocksMeet_179 : decode b_M_shocksMeet 179 = .ok (.iadd, 1) := by decide +kernel
theorem d_M_shocksMeet_180 : decode b_M_shocksMeet 180 = .ok (.ireturn, 1) := by decide +kernel
theorem d_M_shocksMeet_181 : decode b_M_shocksMeet 181 = .ok (.iload_n 1, 1) := by decide +kernel
theorem d_M_shocksMeet_182 : decode b_M_shocksMeet 182 = .ok (.iconst 1, 1) := by decide +kernel
theorem d_M_shocksMeet_183 : decode b_M_shocksMeet 183 = .ok (.iadd, 1) := by decide +kernel
theorem d_M_shocksMeet_184 : decode b_M_shocksMeet 184 = .ok (.ireturn, 1) := by decide +kernel
theorem d_M_passes_0 : decode b_M_passes 0 = .ok (.aload_n 0, 1) := by decide +kernel
theorem d_M_passes_1 : decode b_M_passes 1 = .ok (.getfield 7, 3) := by decide +kernel
theorem d_M_passes_4 : decode b_M_passes 4 = .ok (.sipush 211, 3) := by decide +kernel
theorem d_M_passes_7 : decode b_M_passes 7 = .ok (.iload_n 1, 1) := by decide +kernel
theorem d_M_passes_8 : decode b_M_passes 8 = .ok (.iadd, 1) := by decide +kernel
theorem d_M_passes_9 : decode b_M_passes 9 = .ok (.laload, 1) := by decide +kernel
theorem d_M_passes_10 : decode b_M_passes 10 = .ok (.lconst 0, 1) := by decide +kernel
theorem d_M_passes_11 : decode b_M_passes 11 = .ok (.lcmp, 1) := by decide +kernel
theorem d_M_passes_12 : decode b_M_passes 12 = .ok (.ifCond .ne 7, 3) := by decide +kernel
theorem d_M_passes_15 : decode b_M_passes 15 = .ok (.iconst 1, 1) := by decide +kernel
theorem d_M_passes_16 : decode b_M_passes 16 = .ok (.goto 4, 3) := by decide +kernel
theorem d_M_passes_19 : decode b_M_passes 19 = .ok (.iconst 0, 1) := by decide +kernel
theorem d_M_passes_20 : decode b_M_passes 20 = .ok (.istore_n 2, 1) := by decide +kernel
theorem d_M_passes_21 : decode b_M_passes 21 = .ok (.iload_n 2, 1) := by decide +kernel
theorem d_M_passes_22 : decode b_M_passes 22 = .ok (.ifCond .eq 7, 3) := by decide +kernel
theorem d_M_passes_25 : decode b_M_passes 25 = .ok (.iload_n 1, 1) := by decide +kernel
theorem d_M_passes_26 : decode b_M_passes 26 = .ok (.goto 6, 3) := by decide +kernel
theorem d_M_passes_29 : decode b_M_passes 29 = .ok (.iload_n 1, 1) := by decide +kernel
theorem d_M_passes_30 : decode b_M_passes 30 = .ok (.iconst 1, 1) := by decide +kernel
theorem d_M_passes_31 : decode b_M_passes 31 = .ok (.iadd, 1) := by decide +kernel
theorem d_M_passes_32 : decode b_M_passes 32 = .ok (.istore_n 3, 1) := by decide +kernel
theorem d_M_passes_33 : decode b_M_passes 33 = .ok (.iload_n 2, 1) := by decide +kernel
theorem d_M_passes_34 : decode b_M_passes 34 = .ok (.ifCond .eq 9, 3) := by decide +kernel
theorem d_M_passes_37 : decode b_M_passes 37 = .ok (.iload_n 1, 1) := by decide +kernel
theorem d_M_passes_38 : decode b_M_passes 38 = .ok (.iconst 1, 1) := by decide +kernel
theorem d_M_passes_39 : decode b_M_passes 39 = .ok (.iadd, 1) := by decide +kernel
theorem d_M_passes_40 : decode b_M_passes 40 = .ok (.goto 4, 3) := by decide +kernel
theorem d_M_passes_43 : decode b_M_passes 43 = .ok (.iload_n 1, 1) := by decide +kernel
theorem d_M_passes_44 : decode b_M_passes 44 = .ok (.istore 4, 2) := by decide +kernel
theorem d_M_passes_46 : decode b_M_passes 46 = .ok (.aload_n 0, 1) := by decide +kernel
theorem d_M_passes_47 : decode b_M_passes 47 = .ok (.getfield 7, 3) := by decide +kernel
theorem d_M_passes_50 : decode b_M_passes 50 = .ok (.sipush 211, 3) := by decide +kernel
theorem d_M_passes_53 : decode b_M_passes 53 = .ok (.iload 4, 2) := by decide +kernel
theorem d_M_passes_55 : decode b_M_passes 55 = .ok (.iadd, 1) := by decide +kernel
theorem d_M_passes_56 : decode b_M_passes 56 = .ok (.laload, 1) := by decide +kernel
theorem d_M_passes_57 : decode b_M_passes 57 = .ok (.lconst 1, 1) := by decide +kernel
theorem d_M_passes_58 : decode b_M_passes 58 = .ok (.lcmp, 1) := by decide +kernel
theorem d_M_passes_59 : decode b_M_passes 59 = .ok (.ifCond .ne 46, 3) := by decide +kernel
theorem d_M_passes_62 : decode b_M_passes 62 = .ok (.ldc2_w 199, 3) := by decide +kernel
theorem d_M_passes_65 : decode b_M_passes 65 = .ok (.aload_n 0, 1) := by decide +kernel
theorem d_M_passes_66 : decode b_M_passes 66 = .ok (.getfield 7, 3) := by decide +kernel
theorem d_M_passes_69 : decode b_M_passes 69 = .ok (.sipush 235, 3) := by decide +kernel
theorem d_M_passes_72 : decode b_M_passes 72 = .ok (.iload_n 3, 1) := by decide +kernel
theorem d_M_passes_73 : decode b_M_passes 73 = .ok (.iadd, 1) := by decide +kernel
theorem d_M_passes_74 : decode b_M_passes 74 = .ok (.laload, 1) := by decide +kernel
theorem d_M_passes_75 : decode b_M_passes 75 = .ok (.lmul, 1) := by decide +kernel
theorem d_M_passes_76 : decode b_M_passes 76 = .ok (.ldc2_w 197, 3) := by decide +kernel
theorem d_M_passes_79 : decode b_M_passes 79 = .ok (.ldiv, 1) := by decide +kernel
theorem d_M_passes_80 : decode b_M_passes 80 = .ok (.lstore 5, 2) := by decide +kernel
theorem d_M_passes_82 : decode b_M_passes 82 = .ok (.aload_n 0, 1) := by decide +kernel
theorem d_M_passes_83 : decode b_M_passes 83 = .ok (.getfield 7, 3) := by decide +kernel
theorem d_M_passes_86 : decode b_M_passes 86 = .ok (.sipush 235, 3) := by decide +kernel
theorem d_M_passes_89 : decode b_M_passes 89 = .ok (.iload_n 3, 1) := by decide +kernel
theorem d_M_passes_90 : decode b_M_passes 90 = .ok (.iadd, 1) := by decide +kernel
theorem d_M_passes_91 : decode b_M_passes 91 = .ok (.lload 5, 2) := by decide +kernel
theorem d_M_passes_93 : decode b_M_passes 93 = .ok (.lconst 1, 1) := by decide +kernel
theorem d_M_passes_94 : decode b_M_passes 94 = .ok (.lcmp, 1) := by decide +kernel
theorem d_M_passes_95 : decode b_M_passes 95 = .ok (.ifCond .ge 7, 3) := by decide +kernel
theorem d_M_passes_98 : decode b_M_passes 98 = .ok (.lconst 1, 1) := by decide +kernel
theorem d_M_passes_99 : decode b_M_passes 99 = .ok (.goto 5, 3) := by decide +kernel
theorem d_M_passes_102 : decode b_M_passes 102 = .ok (.lload 5, 2) := by decide +kernel
theorem d_M_passes_104 : decode b_M_passes 104 = .ok (.lastore, 1) := by decide +kernel
theorem d_M_passes_105 : decode b_M_passes 105 = .ok (.aload_n 0, 1) := by decide +kernel
theorem d_M_passes_106 : decode b_M_passes 106 = .ok (.getfield 7, 3) := by decide +kernel
theorem d_M_passes_109 : decode b_M_passes 109 = .ok (.sipush 227, 3) := by decide +kernel
theorem d_M_passes_112 : decode b_M_passes 112 = .ok (.iload 4, 2) := by decide +kernel
theorem d_M_passes_114 : decode b_M_passes 114 = .ok (.iadd, 1) := by decide +kernel
theorem d_M_passes_115 : decode b_M_passes 115 = .ok (.laload, 1) := by decide +kernel
theorem d_M_passes_116 : decode b_M_passes 116 = .ok (.lstore 5, 2) := by decide +kernel
theorem d_M_passes_118 : decode b_M_passes 118 = .ok (.aload_n 0, 1) := by decide +kernel
theorem d_M_passes_119 : decode b_M_passes 119 = .ok (.getfield 7, 3) := by decide +kernel
theorem d_M_passes_122 : decode b_M_passes 122 = .ok (.sipush 227, 3) := by decide +kernel
theorem d_M_passes_125 : decode b_M_passes 125 = .ok (.iload 4, 2) := by decide +kernel
theorem d_M_passes_127 : decode b_M_passes 127 = .ok (.iadd, 1) := by decide +kernel
theorem d_M_passes_128 : decode b_M_passes 128 = .ok (.aload_n 0, 1) := by decide +kernel
theorem d_M_passes_129 : decode b_M_passes 129 = .ok (.getfield 7, 3) := by decide +kernel
theorem d_M_passes_132 : decode b_M_passes 132 = .ok (.sipush 211, 3) := by decide +kernel
theorem d_M_passes_135 : decode b_M_passes 135 = .ok (.iload 4, 2) := by decide +kernel
theorem d_M_passes_137 : decode b_M_passes 137 = .ok (.iadd, 1) := by decide +kernel
theorem d_M_passes_138 : decode b_M_passes 138 = .ok (.laload, 1) := by decide +kernel
theorem d_M_passes_139 : decode b_M_passes 139 = .ok (.lconst 1, 1) := by decide +kernel
theorem d_M_passes_140 : decode b_M_passes 140 = .ok (.lcmp, 1) := by decide +kernel
theorem d_M_passes_141 : decode b_M_passes 141 = .ok (.ifCond .ne 23, 3) := by decide +kernel
theorem d_M_passes_144 : decode b_M_passes 144 = .ok (.lload 5, 2) := by decide +kernel
theorem d_M_passes_146 : decode b_M_passes 146 = .ok (.aload_n 0, 1) := by decide +kernel
theorem d_M_passes_147 : decode b_M_passes 147 = .ok (.getfield 7, 3) := by decide +kernel
theorem d_M_passes_150 : decode b_M_passes 150 = .ok (.sipush 227, 3) := by decide +kernel
theorem d_M_passes_153 : decode b_M_passes 153 = .ok (.iload_n 3, 1) := by decide +kernel
theorem d_M_passes_154 : decode b_M_passes 154 = .ok (.iadd, 1) := by decide +kernel
theorem d_M_passes_155 : decode b_M_passes 155 = .ok (.laload, 1) := by decide +kernel
theorem d_M_passes_156 : decode b_M_passes 156 = .ok (.ldc2_w 197, 3) := by decide +kernel
theorem d_M_passes_159 : decode b_M_passes 159 = .ok (.ldiv, 1) := by decide +kernel
theorem d_M_passes_160 : decode b_M_passes 160 = .ok (.ladd, 1) := by decide +kernel
theorem d_M_passes_161 : decode b_M_passes 161 = .ok (.goto 9, 3) := by decide +kernel
theorem d_M_passes_164 : decode b_M_passes 164 = .ok (.ldc2_w 44, 3) := by decide +kernel
theorem d_M_passes_167 : decode b_M_passes 167 = .ok (.lload 5, 2) := by decide +kernel
theorem d_M_passes_169 : decode b_M_passes 169 = .ok (.lmul, 1) := by decide +kernel
theorem d_M_passes_170 : decode b_M_passes 170 = .ok (.invokestatic 201, 3) := by decide +kernel
theorem d_M_passes_173 : decode b_M_passes 173 = .ok (.lastore, 1) := by decide +kernel
theorem d_M_passes_174 : decode b_M_passes 174 = .ok (.aload_n 0, 1) := by decide +kernel
theorem d_M_passes_175 : decode b_M_passes 175 = .ok (.iload_n 1, 1) := by decide +kernel
theorem d_M_passes_176 : decode b_M_passes 176 = .ok (.invokevirtual 194, 3) := by decide +kernel
theorem d_M_passes_179 : decode b_M_passes 179 = .ok (.iload_n 1, 1) := by decide +kernel
theorem d_M_passes_180 : decode b_M_passes 180 = .ok (.iconst 1, 1) := by decide +kernel
theorem d_M_passes_181 : decode b_M_passes 181 = .ok (.iadd, 1) := by decide +kernel
theorem d_M_passes_182 : decode b_M_passes 182 = .ok (.ireturn, 1) := by decide +kernel
theorem d_M_meets_0 : decode b_M_meets 0 = .ok (.aload_n 0, 1) := by decide +kernel
theorem d_M_meets_1 : decode b_M_meets 1 = .ok (.getfield 7, 3) := by decide +kernel
theorem d_M_meets_4 : decode b_M_meets 4 = .ok (.sipush 219, 3) := by decide +kernel
theorem d_M_meets_7 : decode b_M_meets 7 = .ok (.iload_n 1, 1) := by decide +kernel
theorem d_M_meets_8 : decode b_M_meets 8 = .ok (.iadd, 1) := by decide +kernel
theorem d_M_meets_9 : decode b_M_meets 9 = .ok (.laload, 1) := by decide +kernel
theorem d_M_meets_10 : decode b_M_meets 10 = .ok (.aload_n 0, 1) := by decide +kernel
theorem d_M_meets_11 : decode b_M_meets 11 = .ok (.getfield 7, 3) := by decide +kernel
theorem d_M_meets_14 : decode b_M_meets 14 = .ok (.sipush 219, 3) := by decide +kernel
theorem d_M_meets_17 : decode b_M_meets 17 = .ok (.iload_n 1, 1) := by decide +kernel
theorem d_M_meets_18 : decode b_M_meets 18 = .ok (.iadd, 1) := by decide +kernel
theorem d_M_meets_19 : decode b_M_meets 19 = .ok (.iconst 1, 1) := by decide +kernel
theorem d_M_meets_20 : decode b_M_meets 20 = .ok (.iadd, 1) := by decide +kernel
theorem d_M_meets_21 : decode b_M_meets 21 = .ok (.laload, 1) := by decide +kernel
theorem d_M_meets_22 : decode b_M_meets 22 = .ok (.ladd, 1) := by decide +kernel
theorem d_M_meets_23 : decode b_M_meets 23 = .ok (.ldc2_w 44, 3) := by decide +kernel
theorem d_M_meets_26 : decode b_M_meets 26 = .ok (.invokestatic 56, 3) := by decide +kernel
theorem d_M_meets_29 : decode b_M_meets 29 = .ok (.lstore_n 2, 1) := by decide +kernel
theorem d_M_meets_30 : decode b_M_meets 30 = .ok (.aload_n 0, 1) := by decide +kernel
theorem d_M_meets_31 : decode b_M_meets 31 = .ok (.getfield 7, 3) := by decide +kernel
theorem d_M_meets_34 : decode b_M_meets 34 = .ok (.sipush 211, 3) := by decide +kernel
theorem d_M_meets_37 : decode b_M_meets 37 = .ok (.iload_n 1, 1) := by decide +kernel
theorem d_M_meets_38 : decode b_M_meets 38 = .ok (.iadd, 1) := by decide +kernel
theorem d_M_meets_39 : decode b_M_meets 39 = .ok (.laload, 1) := by decide +kernel
theorem d_M_meets_40 : decode b_M_meets 40 = .ok (.lconst 0, 1) := by decide +kernel
theorem d_M_meets_41 : decode b_M_meets 41 = .ok (.lcmp, 1) := by decide +kernel
theorem d_M_meets_42 : decode b_M_meets 42 = .ok (.ifCond .ne 7, 3) := by decide +kernel
theorem d_M_meets_45 : decode b_M_meets 45 = .ok (.iconst 1, 1) := by decide +kernel
theorem d_M_meets_46 : decode b_M_meets 46 = .ok (.goto 4, 3) := by decide +kernel
theorem d_M_meets_49 : decode b_M_meets 49 = .ok (.iconst 0, 1) := by decide +kernel
theorem d_M_meets_50 : decode b_M_meets 50 = .ok (.istore 4, 2) := by decide +kernel
theorem d_M_meets_52 : decode b_M_meets 52 = .ok (.aload_n 0, 1) := by decide +kernel
theorem d_M_meets_53 : decode b_M_meets 53 = .ok (.getfield 7, 3) := by decide +kernel
theorem d_M_meets_56 : decode b_M_meets 56 = .ok (.sipush 211, 3) := by decide +kernel
theorem d_M_meets_59 : decode b_M_meets 59 = .ok (.iload_n 1, 1) := by decide +kernel
theorem d_M_meets_60 : decode b_M_meets 60 = .ok (.iadd, 1) := by decide +kernel
theorem d_M_meets_61 : decode b_M_meets 61 = .ok (.iconst 1, 1) := by decide +kernel
theorem d_M_meets_62 : decode b_M_meets 62 = .ok (.iadd, 1) := by decide +kernel
theorem d_M_meets_63 : decode b_M_meets 63 = .ok (.laload, 1) := by decide +kernel
theorem d_M_meets_64 : decode b_M_meets 64 = .ok (.lconst 0, 1) := by decide +kernel
theorem d_M_meets_65 : decode b_M_meets 65 = .ok (.lcmp, 1) := by decide +kernel
theorem d_M_meets_66 : decode b_M_meets 66 = .ok (.ifCond .ne 7, 3) := by decide +kernel
theorem d_M_meets_69 : decode b_M_meets 69 = .ok (.iconst 1, 1) := by decide +kernel
theorem d_M_meets_70 : decode b_M_meets 70 = .ok (.goto 4, 3) := by decide +kernel
theorem d_M_meets_73 : decode b_M_meets 73 = .ok (.iconst 0, 1) := by decide +kernel
theorem d_M_meets_74 : decode b_M_meets 74 = .ok (.istore 5, 2) := by decide +kernel
theorem d_M_meets_76 : decode b_M_meets 76 = .ok (.iload_n 1, 1) := by decide +kernel
theorem d_M_meets_77 : decode b_M_meets 77 = .ok (.istore 6, 2) := by decide +kernel
theorem d_M_meets_79 : decode b_M_meets 79 = .ok (.iload 4, 2) := by decide +kernel
theorem d_M_meets_81 : decode b_M_meets 81 = .ok (.ifCond .eq 19, 3) := by decide +kernel
theorem d_M_meets_84 : decode b_M_meets 84 = .ok (.iload 5, 2) := by decide +kernel
theorem d_M_meets_86 : decode b_M_meets 86 = .ok (.ifCond .eq 14, 3) := by decide +kernel
theorem d_M_meets_89 : decode b_M_meets 89 = .ok (.aload_n 0, 1) := by decide +kernel
theorem d_M_meets_90 : decode b_M_meets 90 = .ok (.iload_n 1, 1) := by decide +kernel
theorem d_M_meets_91 : decode b_M_meets 91 = .ok (.lload_n 2, 1) := by decide +kernel
theorem d_M_meets_92 : decode b_M_meets 92 = .ok (.invokevirtual 204, 3) := by decide +kernel
theorem d_M_meets_95 : decode b_M_meets 95 = .ok (.istore 7, 2) := by decide +kernel
theorem d_M_meets_97 : decode b_M_meets 97 = .ok (.goto 138, 3) := by decide +kernel
theorem d_M_meets_100 : decode b_M_meets 100 = .ok (.iload 4, 2) := by decide +kernel
theorem d_M_meets_102 : decode b_M_meets 102 = .ok (.ifCond .ne 8, 3) := by decide +kernel
theorem d_M_meets_105 : decode b_M_meets 105 = .ok (.iload 5, 2) := by decide +kernel
theorem d_M_meets_107 : decode b_M_meets 107 = .ok (.ifCond .eq 13, 3) := by decide +kernel
theorem d_M_meets_110 : decode b_M_meets 110 = .ok (.aload_n 0, 1) := by decide +kernel
theorem d_M_meets_111 : decode b_M_meets 111 = .ok (.iload_n 1, 1) := by decide +kernel
theorem d_M_meets_112 : decode b_M_meets 112 = .ok (.invokevirtual 208, 3) := by decide +kernel
theorem d_M_meets_115 : decode b_M_meets 115 = .ok (.istore 7, 2) := by decide +kernel
theorem d_M_meets_117 : decode b_M_meets 117 = .ok (.goto 118, 3) := by decide +kernel
theorem d_M_meets_120 : decode b_M_meets 120 = .ok (.aload_n 0, 1) := by decide +kernel
theorem d_M_meets_121 : decode b_M_meets 121 = .ok (.getfield 7, 3) := by decide +kernel
theorem d_M_meets_124 : decode b_M_meets 124 = .ok (.sipush 211, 3) := by decide +kernel
theorem d_M_meets_127 : decode b_M_meets 127 = .ok (.iload_n 1, 1) := by decide +kernel
theorem d_M_meets_128 : decode b_M_meets 128 = .ok (.iadd, 1) := by decide +kernel
theorem d_M_meets_129 : decode b_M_meets 129 = .ok (.laload, 1) := by decide +kernel
theorem d_M_meets_130 : decode b_M_meets 130 = .ok (.aload_n 0, 1) := by decide +kernel
theorem d_M_meets_131 : decode b_M_meets 131 = .ok (.getfield 7, 3) := by decide +kernel
theorem d_M_meets_134 : decode b_M_meets 134 = .ok (.sipush 211, 3) := by decide +kernel
theorem d_M_meets_137 : decode b_M_meets 137 = .ok (.iload_n 1, 1) := by decide +kernel
theorem d_M_meets_138 : decode b_M_meets 138 = .ok (.iadd, 1) := by decide +kernel
theorem d_M_meets_139 : decode b_M_meets 139 = .ok (.iconst 1, 1) := by decide +kernel
theorem d_M_meets_140 : decode b_M_meets 140 = .ok (.iadd, 1) := by decide +kernel
theorem d_M_meets_141 : decode b_M_meets 141 = .ok (.laload, 1) := by decide +kernel
theorem d_M_meets_142 : decode b_M_meets 142 = .ok (.lcmp, 1) := by decide +kernel
theorem d_M_meets_143 : decode b_M_meets 143 = .ok (.ifCond .eq 7, 3) := by decide +kernel
theorem d_M_meets_146 : decode b_M_meets 146 = .ok (.iconst 1, 1) := by decide +kernel
theorem d_M_meets_147 : decode b_M_meets 147 = .ok (.goto 4, 3) := by decide +kernel
theorem d_M_meets_150 : decode b_M_meets 150 = .ok (.iconst 0, 1) := by decide +kernel
theorem d_M_meets_151 : decode b_M_meets 151 = .ok (.istore 8, 2) := by decide +kernel
theorem d_M_meets_153 : decode b_M_meets 153 = .ok (.iload 8, 2) := by decide +kernel
theorem d_M_meets_155 : decode b_M_meets 155 = .ok (.ifCond .eq 28, 3) := by decide +kernel
theorem d_M_meets_158 : decode b_M_meets 158 = .ok (.aload_n 0, 1) := by decide +kernel
theorem d_M_meets_159 : decode b_M_meets 159 = .ok (.getfield 7, 3) := by decide +kernel
theorem d_M_meets_162 : decode b_M_meets 162 = .ok (.sipush 211, 3) := by decide +kernel
theorem d_M_meets_165 : decode b_M_meets 165 = .ok (.iload_n 1, 1) := by decide +kernel
theorem d_M_meets_166 : decode b_M_meets 166 = .ok (.iadd, 1) := by decide +kernel
theorem d_M_meets_167 : decode b_M_meets 167 = .ok (.laload, 1) := by decide +kernel
theorem d_M_meets_168 : decode b_M_meets 168 = .ok (.ldc2_w 44, 3) := by decide +kernel
theorem d_M_meets_171 : decode b_M_meets 171 = .ok (.lcmp, 1) := by decide +kernel
theorem d_M_meets_172 : decode b_M_meets 172 = .ok (.ifCond .ne 7, 3) := by decide +kernel
theorem d_M_meets_175 : decode b_M_meets 175 = .ok (.iconst 1, 1) := by decide +kernel
theorem d_M_meets_176 : decode b_M_meets 176 = .ok (.goto 38, 3) := by decide +kernel
theorem d_M_meets_179 : decode b_M_meets 179 = .ok (.iconst 0, 1) := by decide +kernel
theorem d_M_meets_180 : decode b_M_meets 180 = .ok (.goto 34, 3) := by decide +kernel
theorem d_M_meets_183 : decode b_M_meets 183 = .ok (.aload_n 0, 1) := by decide +kernel
theorem d_M_meets_184 : decode b_M_meets 184 = .ok (.getfield 7, 3) := by decide +kernel
theorem d_M_meets_187 : decode b_M_meets 187 = .ok (.sipush 235, 3) := by decide +kernel
theorem d_M_meets_190 : decode b_M_meets 190 = .ok (.iload_n 1, 1) := by decide +kernel
theorem d_M_meets_191 : decode b_M_meets 191 = .ok (.iadd, 1) := by decide +kernel
theorem d_M_meets_192 : decode b_M_meets 192 = .ok (.iconst 1, 1) := by decide +kernel
theorem d_M_meets_193 : decode b_M_meets 193 = .ok (.iadd, 1) := by decide +kernel
theorem d_M_meets_194 : decode b_M_meets 194 = .ok (.laload, 1) := by decide +kernel
theorem d_M_meets_195 : decode b_M_meets 195 = .ok (.aload_n 0, 1) := by decide +kernel
theorem d_M_meets_196 : decode b_M_meets 196 = .ok (.getfield 7, 3) := by decide +kernel
theorem d_M_meets_199 : decode b_M_meets 199 = .ok (.sipush 235, 3) := by decide +kernel
theorem d_M_meets_202 : decode b_M_meets 202 = .ok (.iload_n 1, 1) := by decide +kernel
theorem d_M_meets_203 : decode b_M_meets 203 = .ok (.iadd, 1) := by decide +kernel
theorem d_M_meets_204 : decode b_M_meets 204 = .ok (.laload, 1) := by decide +kernel
theorem d_M_meets_205 : decode b_M_meets 205 = .ok (.lcmp, 1) := by decide +kernel
theorem d_M_meets_206 : decode b_M_meets 206 = .ok (.ifCond .le 7, 3) := by decide +kernel
theorem d_M_meets_209 : decode b_M_meets 209 = .ok (.iconst 1, 1) := by decide +kernel
theorem d_M_meets_210 : decode b_M_meets 210 = .ok (.goto 4, 3) := by decide +kernel
theorem d_M_meets_213 : decode b_M_meets 213 = .ok (.iconst 0, 1) := by decide +kernel
theorem d_M_meets_214 : decode b_M_meets 214 = .ok (.istore 9, 2) := by decide +kernel
theorem d_M_meets_216 : decode b_M_meets 216 = .ok (.aload_n 0, 1) := by decide +kernel
theorem d_M_meets_217 : decode b_M_meets 217 = .ok (.iload 9, 2) := by decide +kernel
theorem d_M_meets_219 : decode b_M_meets 219 = .ok (.ifCond .eq 7, 3) := by decide +kernel
theorem d_M_meets_222 : decode b_M_meets 222 = .ok (.iload_n 1, 1) := by decide +kernel
theorem d_M_meets_223 : decode b_M_meets 223 = .ok (.goto 6, 3) := by decide +kernel
theorem d_M_meets_226 : decode b_M_meets 226 = .ok (.iload_n 1, 1) := by decide +kernel
theorem d_M_meets_227 : decode b_M_meets 227 = .ok (.iconst 1, 1) := by decide +kernel
theorem d_M_meets_228 : decode b_M_meets 228 = .ok (.iadd, 1) := by decide +kernel
theorem d_M_meets_229 : decode b_M_meets 229 = .ok (.invokevirtual 187, 3) := by decide +kernel
theorem d_M_meets_232 : decode b_M_meets 232 = .ok (.iload_n 1, 1) := by decide +kernel
theorem d_M_meets_233 : decode b_M_meets 233 = .ok (.istore 7, 2) := by decide +kernel
theorem d_M_meets_235 : decode b_M_meets 235 = .ok (.iload 6, 2) := by decide +kernel
theorem d_M_meets_237 : decode b_M_meets 237 = .ok (.istore 8, 2) := by decide +kernel
theorem d_M_meets_239 : decode b_M_meets 239 = .ok (.iload 8, 2) := by decide +kernel
theorem d_M_meets_241 : decode b_M_meets 241 = .ok (.iload 7, 2) := by decide +kernel
theorem d_M_meets_243 : decode b_M_meets 243 = .ok (.if_icmp .gt 29, 3) := by decide +kernel
theorem d_M_meets_246 : decode b_M_meets 246 = .ok (.aload_n 0, 1) := by decide +kernel
theorem d_M_meets_247 : decode b_M_meets 247 = .ok (.getfield 7, 3) := by decide +kernel
theorem d_M_meets_250 : decode b_M_meets 250 = .ok (.sipush 219, 3) := by decide +kernel
theorem d_M_meets_253 : decode b_M_meets 253 = .ok (.iload 8, 2) := by decide +kernel
theorem d_M_meets_255 : decode b_M_meets 255 = .ok (.iadd, 1) := by decide +kernel
theorem d_M_meets_256 : decode b_M_meets 256 = .ok (.lload_n 2, 1) := by decide +kernel
theorem d_M_meets_257 : decode b_M_meets 257 = .ok (.lastore, 1) := by decide +kernel
theorem d_M_meets_258 : decode b_M_meets 258 = .ok (.aload_n 0, 1) := by decide +kernel
theorem d_M_meets_259 : decode b_M_meets 259 = .ok (.getfield 26, 3) := by decide +kernel
theorem d_M_meets_262 : decode b_M_meets 262 = .ok (.iload 8, 2) := by decide +kernel
theorem d_M_meets_264 : decode b_M_meets 264 = .ok (.lload_n 2, 1) := by decide +kernel
theorem d_M_meets_265 : decode b_M_meets 265 = .ok (.lastore, 1) := by decide +kernel
theorem d_M_meets_266 : decode b_M_meets 266 = .ok (.iinc 8 1, 3) := by decide +kernel
theorem d_M_meets_269 : decode b_M_meets 269 = .ok (.goto (-30), 3) := by decide +kernel
theorem d_M_meets_272 : decode b_M_meets 272 = .ok (.iload 7, 2) := by decide +kernel
theorem d_M_meets_274 : decode b_M_meets 274 = .ok (.ireturn, 1) := by decide +kernel
theorem d_M_tick_0 : decode b_M_tick 0 = .ok (.aload_n 0, 1) := by decide +kernel
theorem d_M_tick_1 : decode b_M_tick 1 = .ok (.iload_n 1, 1) := by decide +kernel
theorem d_M_tick_2 : decode b_M_tick 2 = .ok (.i2l, 1) := by decide +kernel
theorem d_M_tick_3 : decode b_M_tick 3 = .ok (.lconst 1, 1) := by decide +kernel
theorem d_M_tick_4 : decode b_M_tick 4 = .ok (.ldc2_w 84, 3) := by decide +kernel
theorem d_M_tick_7 : decode b_M_tick 7 = .ok (.invokestatic 52, 3) := by decide +kernel
theorem d_M_tick_10 : decode b_M_tick 10 = .ok (.ifCond .eq 7, 3) := by decide +kernel
theorem d_M_tick_13 : decode b_M_tick 13 = .ok (.iconst 0, 1) := by decide +kernel
theorem d_M_tick_14 : decode b_M_tick 14 = .ok (.goto 4, 3) := by decide +kernel
theorem d_M_tick_17 : decode b_M_tick 17 = .ok (.iconst 1, 1) := by decide +kernel
theorem d_M_tick_18 : decode b_M_tick 18 = .ok (.putfield 38, 3) := by decide +kernel
theorem d_M_tick_21 : decode b_M_tick 21 = .ok (.aload_n 0, 1) := by decide +kernel
theorem d_M_tick_22 : decode b_M_tick 22 = .ok (.getfield 38, 3) := by decide +kernel
theorem d_M_tick_25 : decode b_M_tick 25 = .ok (.ifCond .ne 7, 3) := by decide +kernel
theorem d_M_tick_28 : decode b_M_tick 28 = .ok (.iconst 1, 1) := by decide +kernel
theorem d_M_tick_29 : decode b_M_tick 29 = .ok (.goto 4, 3) := by decide +kernel
theorem d_M_tick_32 : decode b_M_tick 32 = .ok (.iconst 0, 1) := by decide +kernel
theorem d_M_tick_33 : decode b_M_tick 33 = .ok (.istore_n 2, 1) := by decide +kernel
theorem d_M_tick_34 : decode b_M_tick 34 = .ok (.iconst 0, 1) := by decide +kernel
theorem d_M_tick_35 : decode b_M_tick 35 = .ok (.istore_n 3, 1) := by decide +kernel
theorem d_M_tick_36 : decode b_M_tick 36 = .ok (.iload_n 3, 1) := by decide +kernel
theorem d_M_tick_37 : decode b_M_tick 37 = .ok (.iload_n 1, 1) := by decide +kernel
theorem d_M_tick_38 : decode b_M_tick 38 = .ok (.if_icmp .ge 64, 3) := by decide +kernel
theorem d_M_tick_41 : decode b_M_tick 41 = .ok (.iload_n 2, 1) := by decide +kernel
theorem d_M_tick_42 : decode b_M_tick 42 = .ok (.ifCond .eq 60, 3) := by decide +kernel
theorem d_M_tick_45 : decode b_M_tick 45 = .ok (.aload_n 0, 1) := by decide +kernel
theorem d_M_tick_46 : decode b_M_tick 46 = .ok (.invokevirtual 212, 3) := by decide +kernel
theorem d_M_tick_49 : decode b_M_tick 49 = .ok (.iconst 0, 1) := by decide +kernel
theorem d_M_tick_50 : decode b_M_tick 50 = .ok (.istore 4, 2) := by decide +kernel
theorem d_M_tick_52 : decode b_M_tick 52 = .ok (.iload 4, 2) := by decide +kernel
theorem d_M_tick_54 : decode b_M_tick 54 = .ok (.iconst 1, 1) := by decide +kernel
theorem d_M_tick_55 : decode b_M_tick 55 = .ok (.iadd, 1) := by decide +kernel
theorem d_M_tick_56 : decode b_M_tick 56 = .ok (.i2l, 1) := by decide +kernel
theorem d_M_tick_57 : decode b_M_tick 57 = .ok (.aload_n 0, 1) := by decide +kernel
theorem d_M_tick_58 : decode b_M_tick 58 = .ok (.getfield 7, 3) := by decide +kernel
theorem d_M_tick_61 : decode b_M_tick 61 = .ok (.sipush 210, 3) := by decide +kernel
theorem d_M_tick_64 : decode b_M_tick 64 = .ok (.laload, 1) := by decide +kernel
theorem d_M_tick_65 : decode b_M_tick 65 = .ok (.lcmp, 1) := by decide +kernel
theorem d_M_tick_66 : decode b_M_tick 66 = .ok (.ifCond .ge 30, 3) := by decide +kernel
theorem d_M_tick_69 : decode b_M_tick 69 = .ok (.aload_n 0, 1) := by decide +kernel
theorem d_M_tick_70 : decode b_M_tick 70 = .ok (.iload 4, 2) := by decide +kernel
theorem d_M_tick_72 : decode b_M_tick 72 = .ok (.invokevirtual 215, 3) := by decide +kernel
theorem d_M_tick_75 : decode b_M_tick 75 = .ok (.ifCond .eq 12, 3) := by decide +kernel
theorem d_M_tick_78 : decode b_M_tick 78 = .ok (.aload_n 0, 1) := by decide +kernel
theorem d_M_tick_79 : decode b_M_tick 79 = .ok (.iload 4, 2) := by decide +kernel
theorem d_M_tick_81 : decode b_M_tick 81 = .ok (.invokevirtual 218, 3) := by decide +kernel
theorem d_M_tick_84 : decode b_M_tick 84 = .ok (.goto 7, 3) := by decide +kernel
theorem d_M_tick_87 : decode b_M_tick 87 = .ok (.iload 4, 2) := by decide +kernel
theorem d_M_tick_89 : decode b_M_tick 89 = .ok (.iconst 1, 1) := by decide +kernel
theorem d_M_tick_90 : decode b_M_tick 90 = .ok (.iadd, 1) := by decide +kernel
theorem d_M_tick_91 : decode b_M_tick 91 = .ok (.istore 4, 2) := by decide +kernel
theorem d_M_tick_93 : decode b_M_tick 93 = .ok (.goto (-41), 3) := by decide +kernel
theorem d_M_tick_96 : decode b_M_tick 96 = .ok (.iinc 3 1, 3) := by decide +kernel
theorem d_M_tick_99 : decode b_M_tick 99 = .ok (.goto (-63), 3) := by decide +kernel
theorem d_M_tick_102 : decode b_M_tick 102 = .ok (.iload_n 2, 1) := by decide +kernel
theorem d_M_tick_103 : decode b_M_tick 103 = .ok (.ifCond .eq 15, 3) := by decide +kernel
theorem d_M_tick_106 : decode b_M_tick 106 = .ok (.aload_n 0, 1) := by decide +kernel
theorem d_M_tick_107 : decode b_M_tick 107 = .ok (.getfield 7, 3) := by decide +kernel
theorem d_M_tick_110 : decode b_M_tick 110 = .ok (.sipush 210, 3) := by decide +kernel
theorem d_M_tick_113 : decode b_M_tick 113 = .ok (.laload, 1) := by decide +kernel
theorem d_M_tick_114 : decode b_M_tick 114 = .ok (.l2i, 1) := by decide +kernel
theorem d_M_tick_115 : decode b_M_tick 115 = .ok (.goto 4, 3) := by decide +kernel
theorem d_M_tick_118 : decode b_M_tick 118 = .ok (.iconst 0, 1) := by decide +kernel
theorem d_M_tick_119 : decode b_M_tick 119 = .ok (.ireturn, 1) := by decide +kernel
theorem d_M_fronts_0 : decode b_M_fronts 0 = .ok (.aload_n 0, 1) := by decide +kernel
theorem d_M_fronts_1 : decode b_M_fronts 1 = .ok (.iconst 0, 1) := by decide +kernel
theorem d_M_fronts_2 : decode b_M_fronts 2 = .ok (.putfield 38, 3) := by decide +kernel
theorem d_M_fronts_5 : decode b_M_fronts 5 = .ok (.aload_n 0, 1) := by decide +kernel
theorem d_M_fronts_6 : decode b_M_fronts 6 = .ok (.getfield 7, 3) := by decide +kernel
theorem d_M_fronts_9 : decode b_M_fronts 9 = .ok (.sipush 210, 3) := by decide +kernel
theorem d_M_fronts_12 : decode b_M_fronts 12 = .ok (.laload, 1) := by decide +kernel
theorem d_M_fronts_13 : decode b_M_fronts 13 = .ok (.l2i, 1) := by decide +kernel
theorem d_M_fronts_14 : decode b_M_fronts 14 = .ok (.ireturn, 1) := by decide +kernel
theorem d_M_ofFront_0 : decode b_M_ofFront 0 = .ok (.aload_n 0, 1) := by decide +kernel
theorem d_M_ofFront_1 : decode b_M_ofFront 1 = .ok (.iload_n 1, 1) := by decide +kernel
theorem d_M_ofFront_2 : decode b_M_ofFront 2 = .ok (.i2l, 1) := by decide +kernel
theorem d_M_ofFront_3 : decode b_M_ofFront 3 = .ok (.lconst 0, 1) := by decide +kernel
theorem d_M_ofFront_4 : decode b_M_ofFront 4 = .ok (.aload_n 0, 1) := by decide +kernel
theorem d_M_ofFront_5 : decode b_M_ofFront 5 = .ok (.getfield 7, 3) := by decide +kernel
theorem d_M_ofFront_8 : decode b_M_ofFront 8 = .ok (.sipush 210, 3) := by decide +kernel
theorem d_M_ofFront_11 : decode b_M_ofFront 11 = .ok (.laload, 1) := by decide +kernel
theorem d_M_ofFront_12 : decode b_M_ofFront 12 = .ok (.lconst 1, 1) := by decide +kernel
theorem d_M_ofFront_13 : decode b_M_ofFront 13 = .ok (.lsub, 1) := by decide +kernel
theorem d_M_ofFront_14 : decode b_M_ofFront 14 = .ok (.invokestatic 52, 3) := by decide +kernel
theorem d_M_ofFront_17 : decode b_M_ofFront 17 = .ok (.ifCond .ne 7, 3) := by decide +kernel
theorem d_M_ofFront_20 : decode b_M_ofFront 20 = .ok (.iconst 1, 1) := by decide +kernel
theorem d_M_ofFront_21 : decode b_M_ofFront 21 = .ok (.goto 20, 3) := by decide +kernel
theorem d_M_ofFront_24 : decode b_M_ofFront 24 = .ok (.iload_n 2, 1) := by decide +kernel
theorem d_M_ofFront_25 : decode b_M_ofFront 25 = .ok (.i2l, 1) := by decide +kernel
theorem d_M_ofFront_26 : decode b_M_ofFront 26 = .ok (.lconst 0, 1) := by decide +kernel
theorem d_M_ofFront_27 : decode b_M_ofFront 27 = .ok (.ldc2_w 66, 3) := by decide +kernel
theorem d_M_ofFront_30 : decode b_M_ofFront 30 = .ok (.invokestatic 52, 3) := by decide +kernel
theorem d_M_ofFront_33 : decode b_M_ofFront 33 = .ok (.ifCond .eq 7, 3) := by decide +kernel
theorem d_M_ofFront_36 : decode b_M_ofFront 36 = .ok (.iconst 0, 1) := by decide +kernel
theorem d_M_ofFront_37 : decode b_M_ofFront 37 = .ok (.goto 4, 3) := by decide +kernel
theorem d_M_ofFront_40 : decode b_M_ofFront 40 = .ok (.iconst 2, 1) := by decide +kernel
theorem d_M_ofFront_41 : decode b_M_ofFront 41 = .ok (.putfield 38, 3) := by decide +kernel
theorem d_M_ofFront_44 : decode b_M_ofFront 44 = .ok (.aload_n 0, 1) := by decide +kernel
theorem d_M_ofFront_45 : decode b_M_ofFront 45 = .ok (.getfield 38, 3) := by decide +kernel
theorem d_M_ofFront_48 : decode b_M_ofFront 48 = .ok (.ifCond .le 7, 3) := by decide +kernel
theorem d_M_ofFront_51 : decode b_M_ofFront 51 = .ok (.iconst 0, 1) := by decide +kernel
theorem d_M_ofFront_52 : decode b_M_ofFront 52 = .ok (.goto 19, 3) := by decide +kernel
theorem d_M_ofFront_55 : decode b_M_ofFront 55 = .ok (.aload_n 0, 1) := by decide +kernel
theorem d_M_ofFront_56 : decode b_M_ofFront 56 = .ok (.getfield 7, 3) := by decide +kernel
theorem d_M_ofFront_59 : decode b_M_ofFront 59 = .ok (.sipush 211, 3) := by decide +kernel
theorem d_M_ofFront_62 : decode b_M_ofFront 62 = .ok (.bipush 8, 2) := by decide +kernel
theorem d_M_ofFront_64 : decode b_M_ofFront 64 = .ok (.iload_n 2, 1) := by decide +kernel
theorem d_M_ofFront_65 : decode b_M_ofFront 65 = .ok (.imul, 1) := by decide +kernel
theorem d_M_ofFront_66 : decode b_M_ofFront 66 = .ok (.iadd, 1) := by decide +kernel
theorem d_M_ofFront_67 : decode b_M_ofFront 67 = .ok (.iload_n 1, 1) := by decide +kernel
theorem d_M_ofFront_68 : decode b_M_ofFront 68 = .ok (.iadd, 1) := by decide +kernel
theorem d_M_ofFront_69 : decode b_M_ofFront 69 = .ok (.laload, 1) := by decide +kernel
theorem d_M_ofFront_70 : decode b_M_ofFront 70 = .ok (.l2i, 1) := by decide +kernel
theorem d_M_ofFront_71 : decode b_M_ofFront 71 = .ok (.ireturn, 1) := by decide +kernel
theorem d_M_pipe_0 : decode b_M_pipe 0 = .ok (.iload_n 1, 1) := by decide +kernel
theorem d_M_pipe_1 : decode b_M_pipe 1 = .ok (.i2l, 1) := by decide +kernel
theorem d_M_pipe_2 : decode b_M_pipe 2 = .ok (.lconst 1, 1) := by decide +kernel
theorem d_M_pipe_3 : decode b_M_pipe 3 = .ok (.ldc2_w 221, 3) := by decide +kernel
theorem d_M_pipe_6 : decode b_M_pipe 6 = .ok (.invokestatic 52, 3) := by decide +kernel
theorem d_M_pipe_9 : decode b_M_pipe 9 = .ok (.ifCond .eq 72, 3) := by decide +kernel
theorem d_M_pipe_12 : decode b_M_pipe 12 = .ok (.iload_n 2, 1) := by decide +kernel
theorem d_M_pipe_13 : decode b_M_pipe 13 = .ok (.i2l, 1) := by decide +kernel
theorem d_M_pipe_14 : decode b_M_pipe 14 = .ok (.lconst 1, 1) := by decide +kernel
theorem d_M_pipe_15 : decode b_M_pipe 15 = .ok (.ldc2_w 151, 3) := by decide +kernel
theorem d_M_pipe_18 : decode b_M_pipe 18 = .ok (.invokestatic 52, 3) := by decide +kernel
theorem d_M_pipe_21 : decode b_M_pipe 21 = .ok (.ifCond .eq 60, 3) := by decide +kernel
theorem d_M_pipe_24 : decode b_M_pipe 24 = .ok (.iload_n 3, 1) := by decide +kernel
theorem d_M_pipe_25 : decode b_M_pipe 25 = .ok (.i2l, 1) := by decide +kernel
theorem d_M_pipe_26 : decode b_M_pipe 26 = .ok (.lconst 0, 1) := by decide +kernel
theorem d_M_pipe_27 : decode b_M_pipe 27 = .ok (.ldc2_w 221, 3) := by decide +kernel
theorem d_M_pipe_30 : decode b_M_pipe 30 = .ok (.invokestatic 52, 3) := by decide +kernel
theorem d_M_pipe_33 : decode b_M_pipe 33 = .ok (.ifCond .eq 48, 3) := by decide +kernel
theorem d_M_pipe_36 : decode b_M_pipe 36 = .ok (.iload 4, 2) := by decide +kernel
theorem d_M_pipe_38 : decode b_M_pipe 38 = .ok (.i2l, 1) := by decide +kernel
theorem d_M_pipe_39 : decode b_M_pipe 39 = .ok (.lconst 1, 1) := by decide +kernel
theorem d_M_pipe_40 : decode b_M_pipe 40 = .ok (.ldc2_w 151, 3) := by decide +kernel
theorem d_M_pipe_43 : decode b_M_pipe 43 = .ok (.invokestatic 52, 3) := by decide +kernel
theorem d_M_pipe_46 : decode b_M_pipe 46 = .ok (.ifCond .eq 35, 3) := by decide +kernel
theorem d_M_pipe_49 : decode b_M_pipe 49 = .ok (.iload 5, 2) := by decide +kernel
theorem d_M_pipe_51 : decode b_M_pipe 51 = .ok (.i2l, 1) := by decide +kernel
theorem d_M_pipe_52 : decode b_M_pipe 52 = .ok (.lconst 0, 1) := by decide +kernel
theorem d_M_pipe_53 : decode b_M_pipe 53 = .ok (.ldc2_w 48, 3) := by decide +kernel
theorem d_M_pipe_56 : decode b_M_pipe 56 = .ok (.invokestatic 52, 3) := by decide +kernel
theorem d_M_pipe_59 : decode b_M_pipe 59 = .ok (.ifCond .eq 22, 3) := by decide +kernel
theorem d_M_pipe_62 : decode b_M_pipe 62 = .ok (.iload 6, 2) := by decide +kernel
theorem d_M_pipe_64 : decode b_M_pipe 64 = .ok (.i2l, 1) := by decide +kernel
theorem d_M_pipe_65 : decode b_M_pipe 65 = .ok (.ldc2_w 223, 3) := by decide +kernel
theorem d_M_pipe_68 : decode b_M_pipe 68 = .ok (.ldc2_w 84, 3) := by decide +kernel
theorem d_M_pipe_71 : decode b_M_pipe 71 = .ok (.invokestatic 52, 3) := by decide +kernel
theorem d_M_pipe_74 : decode b_M_pipe 74 = .ok (.ifCond .eq 7, 3) := by decide +kernel
theorem d_M_pipe_77 : decode b_M_pipe 77 = .ok (.iconst 1, 1) := by decide +kernel
theorem d_M_pipe_78 : decode b_M_pipe 78 = .ok (.goto 4, 3) := by decide +kernel
theorem d_M_pipe_81 : decode b_M_pipe 81 = .ok (.iconst 0, 1) := by decide +kernel
theorem d_M_pipe_82 : decode b_M_pipe 82 = .ok (.istore 7, 2) := by decide +kernel
theorem d_M_pipe_84 : decode b_M_pipe 84 = .ok (.aload_n 0, 1) := by decide +kernel
theorem d_M_pipe_85 : decode b_M_pipe 85 = .ok (.iload 7, 2) := by decide +kernel
theorem d_M_pipe_87 : decode b_M_pipe 87 = .ok (.ifCond .eq 7, 3) := by decide +kernel
theorem d_M_pipe_90 : decode b_M_pipe 90 = .ok (.iconst 0, 1) := by decide +kernel
theorem d_M_pipe_91 : decode b_M_pipe 91 = .ok (.goto 4, 3) := by decide +kernel
theorem d_M_pipe_94 : decode b_M_pipe 94 = .ok (.iconst 1, 1) := by decide +kernel
theorem d_M_pipe_95 : decode b_M_pipe 95 = .ok (.putfield 38, 3) := by decide +kernel
theorem d_M_pipe_98 : decode b_M_pipe 98 = .ok (.aload_n 0, 1) := by decide +kernel
theorem d_M_pipe_99 : decode b_M_pipe 99 = .ok (.getfield 38, 3) := by decide +kernel
theorem d_M_pipe_102 : decode b_M_pipe 102 = .ok (.ifCond .le 4, 3) := by decide +kernel
theorem d_M_pipe_105 : decode b_M_pipe 105 = .ok (.return_, 1) := by decide +kernel
theorem d_M_pipe_106 : decode b_M_pipe 106 = .ok (.aload_n 0, 1) := by decide +kernel
theorem d_M_pipe_107 : decode b_M_pipe 107 = .ok (.getfield 7, 3) := by decide +kernel
theorem d_M_pipe_110 : decode b_M_pipe 110 = .ok (.sipush 243, 3) := by decide +kernel
theorem d_M_pipe_113 : decode b_M_pipe 113 = .ok (.lconst 1, 1) := by decide +kernel
theorem d_M_pipe_114 : decode b_M_pipe 114 = .ok (.lastore, 1) := by decide +kernel
theorem d_M_pipe_115 : decode b_M_pipe 115 = .ok (.aload_n 0, 1) := by decide +kernel
theorem d_M_pipe_116 : decode b_M_pipe 116 = .ok (.getfield 7, 3) := by decide +kernel
theorem d_M_pipe_119 : decode b_M_pipe 119 = .ok (.sipush 244, 3) := by decide +kernel
theorem d_M_pipe_122 : decode b_M_pipe 122 = .ok (.iload_n 1, 1) := by decide +kernel
theorem d_M_pipe_123 : decode b_M_pipe 123 = .ok (.i2l, 1) := by decide +kernel
theorem d_M_pipe_124 : decode b_M_pipe 124 = .ok (.lastore, 1) := by decide +kernel
theorem d_M_pipe_125 : decode b_M_pipe 125 = .ok (.aload_n 0, 1) := by decide +kernel
theorem d_M_pipe_126 : decode b_M_pipe 126 = .ok (.getfield 7, 3) := by decide +kernel
theorem d_M_pipe_129 : decode b_M_pipe 129 = .ok (.sipush 245, 3) := by decide +kernel
theorem d_M_pipe_132 : decode b_M_pipe 132 = .ok (.iload_n 2, 1) := by decide +kernel
theorem d_M_pipe_133 : decode b_M_pipe 133 = .ok (.i2l, 1) := by decide +kernel
theorem d_M_pipe_134 : decode b_M_pipe 134 = .ok (.lastore, 1) := by decide +kernel
theorem d_M_pipe_135 : decode b_M_pipe 135 = .ok (.aload_n 0, 1) := by decide +kernel
theorem d_M_pipe_136 : decode b_M_pipe 136 = .ok (.getfield 7, 3) := by decide +kernel
theorem d_M_pipe_139 : decode b_M_pipe 139 = .ok (.sipush 246, 3) := by decide +kernel
theorem d_M_pipe_142 : decode b_M_pipe 142 = .ok (.iload_n 3, 1) := by decide +kernel
theorem d_M_pipe_143 : decode b_M_pipe 143 = .ok (.i2l, 1) := by decide +kernel
theorem d_M_pipe_144 : decode b_M_pipe 144 = .ok (.lastore, 1) := by decide +kernel
theorem d_M_pipe_145 : decode b_M_pipe 145 = .ok (.aload_n 0, 1) := by decide +kernel
theorem d_M_pipe_146 : decode b_M_pipe 146 = .ok (.getfield 7, 3) := by decide +kernel
theorem d_M_pipe_149 : decode b_M_pipe 149 = .ok (.sipush 247, 3) := by decide +kernel
theorem d_M_pipe_152 : decode b_M_pipe 152 = .ok (.iload 4, 2) := by decide +kernel
theorem d_M_pipe_154 : decode b_M_pipe 154 = .ok (.i2l, 1) := by decide +kernel
theorem d_M_pipe_155 : decode b_M_pipe 155 = .ok (.lastore, 1) := by decide +kernel
theorem d_M_pipe_156 : decode b_M_pipe 156 = .ok (.aload_n 0, 1) := by decide +kernel
theorem d_M_pipe_157 : decode b_M_pipe 157 = .ok (.getfield 7, 3) := by decide +kernel
theorem d_M_pipe_160 : decode b_M_pipe 160 = .ok (.sipush 248, 3) := by decide +kernel
theorem d_M_pipe_163 : decode b_M_pipe 163 = .ok (.iload 5, 2) := by decide +kernel
theorem d_M_pipe_165 : decode b_M_pipe 165 = .ok (.i2l, 1) := by decide +kernel
theorem d_M_pipe_166 : decode b_M_pipe 166 = .ok (.lastore, 1) := by decide +kernel
theorem d_M_pipe_167 : decode b_M_pipe 167 = .ok (.aload_n 0, 1) := by decide +kernel
theorem d_M_pipe_168 : decode b_M_pipe 168 = .ok (.getfield 7, 3) := by decide +kernel
theorem d_M_pipe_171 : decode b_M_pipe 171 = .ok (.sipush 249, 3) := by decide +kernel
theorem d_M_pipe_174 : decode b_M_pipe 174 = .ok (.ldc2_w 84, 3) := by decide +kernel
theorem d_M_pipe_177 : decode b_M_pipe 177 = .ok (.lastore, 1) := by decide +kernel
theorem d_M_pipe_178 : decode b_M_pipe 178 = .ok (.iconst 0, 1) := by decide +kernel
theorem d_M_pipe_179 : decode b_M_pipe 179 = .ok (.istore 8, 2) := by decide +kernel
theorem d_M_pipe_181 : decode b_M_pipe 181 = .ok (.iload 8, 2) := by decide +kernel
theorem d_M_pipe_183 : decode b_M_pipe 183 = .ok (.bipush 21, 2) := by decide +kernel
theorem d_M_pipe_185 : decode b_M_pipe 185 = .ok (.if_icmp .ge 63, 3) := by decide +kernel
theorem d_M_pipe_188 : decode b_M_pipe 188 = .ok (.aload_n 0, 1) := by decide +kernel
theorem d_M_pipe_189 : decode b_M_pipe 189 = .ok (.getfield 7, 3) := by decide +kernel
theorem d_M_pipe_192 : decode b_M_pipe 192 = .ok (.sipush 250, 3) := by decide +kernel
theorem d_M_pipe_195 : decode b_M_pipe 195 = .ok (.iload 8, 2) := by decide +kernel
theorem d_M_pipe_197 : decode b_M_pipe 197 = .ok (.iadd, 1) := by decide +kernel
theorem d_M_pipe_198 : decode b_M_pipe 198 = .ok (.iload 5, 2) := by decide +kernel
theorem d_M_pipe_200 : decode b_M_pipe 200 = .ok (.i2l, 1) := by decide +kernel
theorem d_M_pipe_201 : decode b_M_pipe 201 = .ok (.lastore, 1) := by decide +kernel
theorem d_M_pipe_202 : decode b_M_pipe 202 = .ok (.aload_n 0, 1) := by decide +kernel
theorem d_M_pipe_203 : decode b_M_pipe 203 = .ok (.getfield 7, 3) := by decide +kernel
theorem d_M_pipe_206 : decode b_M_pipe 206 = .ok (.sipush 271, 3) := by decide +kernel
theorem d_M_pipe_209 : decode b_M_pipe 209 = .ok (.iload 8, 2) := by decide +kernel
theorem d_M_pipe_211 : decode b_M_pipe 211 = .ok (.iadd, 1) := by decide +kernel
theorem d_M_pipe_212 : decode b_M_pipe 212 = .ok (.iload 6, 2) := by decide +kernel
theorem d_M_pipe_214 : decode b_M_pipe 214 = .ok (.i2l, 1) := by decide +kernel
theorem d_M_pipe_215 : decode b_M_pipe 215 = .ok (.lastore, 1) := by decide +kernel
theorem d_M_pipe_216 : decode b_M_pipe 216 = .ok (.aload_n 0, 1) := by decide +kernel
theorem d_M_pipe_217 : decode b_M_pipe 217 = .ok (.getfield 7, 3) := by decide +kernel
theorem d_M_pipe_220 : decode b_M_pipe 220 = .ok (.sipush 292, 3) := by decide +kernel
theorem d_M_pipe_223 : decode b_M_pipe 223 = .ok (.iload 8, 2) := by decide +kernel
theorem d_M_pipe_225 : decode b_M_pipe 225 = .ok (.iadd, 1) := by decide +kernel
theorem d_M_pipe_226 : decode b_M_pipe 226 = .ok (.lconst 0, 1) := by decide +kernel
theorem d_M_pipe_227 : decode b_M_pipe 227 = .ok (.lastore, 1) := by decide +kernel
theorem d_M_pipe_228 : decode b_M_pipe 228 = .ok (.aload_n 0, 1) := by decide +kernel
theorem d_M_pipe_229 : decode b_M_pipe 229 = .ok (.getfield 7, 3) := by decide +kernel
theorem d_M_pipe_232 : decode b_M_pipe 232 = .ok (.sipush 313, 3) := by decide +kernel
theorem d_M_pipe_235 : decode b_M_pipe 235 = .ok (.iload 8, 2) := by decide +kernel
theorem d_M_pipe_237 : decode b_M_pipe 237 = .ok (.iadd, 1) := by decide +kernel
theorem d_M_pipe_238 : decode b_M_pipe 238 = .ok (.iload 5, 2) := by decide +kernel
theorem d_M_pipe_240 : decode b_M_pipe 240 = .ok (.i2l, 1) := by decide +kernel
theorem d_M_pipe_241 : decode b_M_pipe 241 = .ok (.lastore, 1) := by decide +kernel
theorem d_M_pipe_242 : decode b_M_pipe 242 = .ok (.iinc 8 1, 3) := by decide +kernel
theorem d_M_pipe_245 : decode b_M_pipe 245 = .ok (.goto (-64), 3) := by decide +kernel
theorem d_M_pipe_248 : decode b_M_pipe 248 = .ok (.return_, 1) := by decide +kernel
theorem d_M_valve_0 : decode b_M_valve 0 = .ok (.aload_n 0, 1) := by decide +kernel
theorem d_M_valve_1 : decode b_M_valve 1 = .ok (.iload_n 1, 1) := by decide +kernel
theorem d_M_valve_2 : decode b_M_valve 2 = .ok (.i2l, 1) := by decide +kernel
theorem d_M_valve_3 : decode b_M_valve 3 = .ok (.lconst 0, 1) := by decide +kernel
theorem d_M_valve_4 : decode b_M_valve 4 = .ok (.ldc2_w 84, 3) := by decide +kernel
theorem d_M_valve_7 : decode b_M_valve 7 = .ok (.invokestatic 52, 3) := by decide +kernel
theorem d_M_valve_10 : decode b_M_valve 10 = .ok (.ifCond .ne 7, 3) := by decide +kernel
theorem d_M_valve_13 : decode b_M_valve 13 = .ok (.iconst 1, 1) := by decide +kernel
theorem d_M_valve_14 : decode b_M_valve 14 = .ok (.goto 21, 3) := by decide +kernel
theorem d_M_valve_17 : decode b_M_valve 17 = .ok (.aload_n 0, 1) := by decide +kernel
theorem d_M_valve_18 : decode b_M_valve 18 = .ok (.getfield 7, 3) := by decide +kernel
theorem d_M_valve_21 : decode b_M_valve 21 = .ok (.sipush 243, 3) := by decide +kernel
theorem d_M_valve_24 : decode b_M_valve 24 = .ok (.laload, 1) := by decide +kernel
theorem d_M_valve_25 : decode b_M_valve 25 = .ok (.lconst 1, 1) := by decide +kernel
theorem d_M_valve_26 : decode b_M_valve 26 = .ok (.lcmp, 1) := by decide +kernel
theorem d_M_valve_27 : decode b_M_valve 27 = .ok (.ifCond .ne 7, 3) := by decide +kernel
theorem d_M_valve_30 : decode b_M_valve 30 = .ok (.iconst 0, 1) := by decide +kernel
theorem d_M_valve_31 : decode b_M_valve 31 = .ok (.goto 4, 3) := by decide +kernel
theorem d_M_valve_34 : decode b_M_valve 34 = .ok (.iconst 2, 1) := by decide +kernel
theorem d_M_valve_35 : decode b_M_valve 35 = .ok (.putfield 38, 3) := by decide +kernel
theorem d_M_valve_38 : decode b_M_valve 38 = .ok (.aload_n 0, 1) := by decide +kernel
theorem d_M_valve_39 : decode b_M_valve 39 = .ok (.getfield 38, 3) := by decide +kernel
theorem d_M_valve_42 : decode b_M_valve 42 = .ok (.ifCond .le 5, 3) := by decide +kernel
theorem d_M_valve_45 : decode b_M_valve 45 = .ok (.iconst 0, 1) := by decide +kernel
theorem d_M_valve_46 : decode b_M_valve 46 = .ok (.ireturn, 1) := by decide +kernel
theorem d_M_valve_47 : decode b_M_valve 47 = .ok (.aload_n 0, 1) := by decide +kernel
theorem d_M_valve_48 : decode b_M_valve 48 = .ok (.getfield 7, 3) := by decide +kernel
theorem d_M_valve_51 : decode b_M_valve 51 = .ok (.sipush 249, 3) := by decide +kernel
theorem d_M_valve_54 : decode b_M_valve 54 = .ok (.laload, 1) := by decide +kernel
theorem d_M_valve_55 : decode b_M_valve 55 = .ok (.l2i, 1) := by decide +kernel
theorem d_M_valve_56 : decode b_M_valve 56 = .ok (.istore_n 2, 1) := by decide +kernel
theorem d_M_valve_57 : decode b_M_valve 57 = .ok (.aload_n 0, 1) := by decide +kernel
theorem d_M_valve_58 : decode b_M_valve 58 = .ok (.getfield 7, 3) := by decide +kernel
theorem d_M_valve_61 : decode b_M_valve 61 = .ok (.sipush 249, 3) := by decide +kernel
theorem d_M_valve_64 : decode b_M_valve 64 = .ok (.iload_n 1, 1) := by decide +kernel
theorem d_M_valve_65 : decode b_M_valve 65 = .ok (.i2l, 1) := by decide +kernel
theorem d_M_valve_66 : decode b_M_valve 66 = .ok (.lastore, 1) := by decide +kernel
theorem d_M_valve_67 : decode b_M_valve 67 = .ok (.iload_n 2, 1) := by decide +kernel
theorem d_M_valve_68 : decode b_M_valve 68 = .ok (.ireturn, 1) := by decide +kernel
theorem d_M_reservoir_0 : decode b_M_reservoir 0 = .ok (.aload_n 0, 1) := by decide +kernel
theorem d_M_reservoir_1 : decode b_M_reservoir 1 = .ok (.iload_n 1, 1) := by decide +kernel
theorem d_M_reservoir_2 : decode b_M_reservoir 2 = .ok (.i2l, 1) := by decide +kernel
theorem d_M_reservoir_3 : decode b_M_reservoir 3 = .ok (.lconst 0, 1) := by decide +kernel
theorem d_M_reservoir_4 : decode b_M_reservoir 4 = .ok (.ldc2_w 48, 3) := by decide +kernel
theorem d_M_reservoir_7 : decode b_M_reservoir 7 = .ok (.invokestatic 52, 3) := by decide +kernel
theorem d_M_reservoir_10 : decode b_M_reservoir 10 = .ok (.ifCond .ne 7, 3) := by decide +kernel
theorem d_M_reservoir_13 : decode b_M_reservoir 13 = .ok (.iconst 1, 1) := by decide +kernel
theorem d_M_reservoir_14 : decode b_M_reservoir 14 = .ok (.goto 21, 3) := by decide +kernel
theorem d_M_reservoir_17 : decode b_M_reservoir 17 = .ok (.aload_n 0, 1) := by decide +kernel
theorem d_M_reservoir_18 : decode b_M_reservoir 18 = .ok (.getfield 7, 3) := by decide +kernel
theorem d_M_reservoir_21 : decode b_M_reservoir 21 = .ok (.sipush 243, 3) := by decide +kernel
theorem d_M_reservoir_24 : decode b_M_reservoir 24 = .ok (.laload, 1) := by decide +kernel
theorem d_M_reservoir_25 : decode b_M_reservoir 25 = .ok (.lconst 1, 1) := by decide +kernel
theorem d_M_reservoir_26 : decode b_M_reservoir 26 = .ok (.lcmp, 1) := by decide +kernel
theorem d_M_reservoir_27 : decode b_M_reservoir 27 = .ok (.ifCond .ne 7, 3) := by decide +kernel
theorem d_M_reservoir_30 : decode b_M_reservoir 30 = .ok (.iconst 0, 1) := by decide +kernel
theorem d_M_reservoir_31 : decode b_M_reservoir 31 = .ok (.goto 4, 3) := by decide +kernel
theorem d_M_reservoir_34 : decode b_M_reservoir 34 = .ok (.iconst 2, 1) := by decide +kernel
theorem d_M_reservoir_35 : decode b_M_reservoir 35 = .ok (.putfield 38, 3) := by decide +kernel
theorem d_M_reservoir_38 : decode b_M_reservoir 38 = .ok (.aload_n 0, 1) := by decide +kernel
theorem d_M_reservoir_39 : decode b_M_reservoir 39 = .ok (.getfield 38, 3) := by decide +kernel
theorem d_M_reservoir_42 : decode b_M_reservoir 42 = .ok (.ifCond .le 5, 3) := by decide +kernel
theorem d_M_reservoir_45 : decode b_M_reservoir 45 = .ok (.iconst 0, 1) := by decide +kernel
theorem d_M_reservoir_46 : decode b_M_reservoir 46 = .ok (.ireturn, 1) := by decide +kernel
theorem d_M_reservoir_47 : decode b_M_reservoir 47 = .ok (.aload_n 0, 1) := by decide +kernel
theorem d_M_reservoir_48 : decode b_M_reservoir 48 = .ok (.getfield 7, 3) := by decide +kernel
theorem d_M_reservoir_51 : decode b_M_reservoir 51 = .ok (.sipush 248, 3) := by decide +kernel
theorem d_M_reservoir_54 : decode b_M_reservoir 54 = .ok (.laload, 1) := by decide +kernel
theorem d_M_reservoir_55 : decode b_M_reservoir 55 = .ok (.l2i, 1) := by decide +kernel
theorem d_M_reservoir_56 : decode b_M_reservoir 56 = .ok (.istore_n 2, 1) := by decide +kernel
theorem d_M_reservoir_57 : decode b_M_reservoir 57 = .ok (.aload_n 0, 1) := by decide +kernel
theorem d_M_reservoir_58 : decode b_M_reservoir 58 = .ok (.getfield 7, 3) := by decide +kernel
theorem d_M_reservoir_61 : decode b_M_reservoir 61 = .ok (.sipush 248, 3) := by decide +kernel
theorem d_M_reservoir_64 : decode b_M_reservoir 64 = .ok (.iload_n 1, 1) := by decide +kernel
theorem d_M_reservoir_65 : decode b_M_reservoir 65 = .ok (.i2l, 1) := by decide +kernel
theorem d_M_reservoir_66 : decode b_M_reservoir 66 = .ok (.lastore, 1) := by decide +kernel
theorem d_M_reservoir_67 : decode b_M_reservoir 67 = .ok (.iload_n 2, 1) := by decide +kernel
theorem d_M_reservoir_68 : decode b_M_reservoir 68 = .ok (.ireturn, 1) := by decide +kernel
theorem d_M_rubs_0 : decode b_M_rubs 0 = .ok (.aload_n 0, 1) := by decide +kernel
theorem d_M_rubs_1 : decode b_M_rubs 1 = .ok (.getfield 7, 3) := by decide +kernel
theorem d_M_rubs_4 : decode b_M_rubs 4 = .ok (.sipush 246, 3) := by decide +kernel
theorem d_M_rubs_7 : decode b_M_rubs 7 = .ok (.laload, 1) := by decide +kernel
theorem d_M_rubs_8 : decode b_M_rubs 8 = .ok (.aload_n 0, 1) := by decide +kernel
theorem d_M_rubs_9 : decode b_M_rubs 9 = .ok (.getfield 7, 3) := by decide +kernel
theorem d_M_rubs_12 : decode b_M_rubs 12 = .ok (.sipush 271, 3) := by decide +kernel
theorem d_M_rubs_15 : decode b_M_rubs 15 = .ok (.iload_n 1, 1) := by decide +kernel
theorem d_M_rubs_16 : decode b_M_rubs 16 = .ok (.iadd, 1) := by decide +kernel
theorem d_M_rubs_17 : decode b_M_rubs 17 = .ok (.laload, 1) := by decide +kernel
theorem d_M_rubs_18 : decode b_M_rubs 18 = .ok (.lmul, 1) := by decide +kernel
theorem d_M_rubs_19 : decode b_M_rubs 19 = .ok (.aload_n 0, 1) := by decide +kernel
theorem d_M_rubs_20 : decode b_M_rubs 20 = .ok (.getfield 7, 3) := by decide +kernel
theorem d_M_rubs_23 : decode b_M_rubs 23 = .ok (.sipush 271, 3) := by decide +kernel
theorem d_M_rubs_26 : decode b_M_rubs 26 = .ok (.iload_n 1, 1) := by decide +kernel
theorem d_M_rubs_27 : decode b_M_rubs 27 = .ok (.iadd, 1) := by decide +kernel
theorem d_M_rubs_28 : decode b_M_rubs 28 = .ok (.laload, 1) := by decide +kernel
theorem d_M_rubs_29 : decode b_M_rubs 29 = .ok (.invokestatic 104, 3) := by decide +kernel
theorem d_M_rubs_32 : decode b_M_rubs 32 = .ok (.lmul, 1) := by decide +kernel
theorem d_M_rubs_33 : decode b_M_rubs 33 = .ok (.ldc2_w 84, 3) := by decide +kernel
theorem d_M_rubs_36 : decode b_M_rubs 36 = .ok (.ldiv, 1) := by decide +kernel
theorem d_M_rubs_37 : decode b_M_rubs 37 = .ok (.lreturn, 1) := by decide +kernel
theorem d_M_fromLeft_0 : decode b_M_fromLeft 0 = .ok (.aload_n 0, 1) := by decide +kernel
theorem d_M_fromLeft_1 : decode b_M_fromLeft 1 = .ok (.getfield 7, 3) := by decide +kernel
theorem d_M_fromLeft_4 : decode b_M_fromLeft 4 = .ok (.sipush 250, 3) := by decide +kernel
theorem d_M_fromLeft_7 : decode b_M_fromLeft 7 = .ok (.iload_n 1, 1) := by decide +kernel
theorem d_M_fromLeft_8 : decode b_M_fromLeft 8 = .ok (.iadd, 1) := by decide +kernel
theorem d_M_fromLeft_9 : decode b_M_fromLeft 9 = .ok (.iconst 1, 1) := by decide +kernel
theorem d_M_fromLeft_10 : decode b_M_fromLeft 10 = .ok (.isub, 1) := by decide +kernel
theorem d_M_fromLeft_11 : decode b_M_fromLeft 11 = .ok (.laload, 1) := by decide +kernel
theorem d_M_fromLeft_12 : decode b_M_fromLeft 12 = .ok (.aload_n 0, 1) := by decide +kernel
theorem d_M_fromLeft_13 : decode b_M_fromLeft 13 = .ok (.getfield 7, 3) := by decide +kernel
theorem d_M_fromLeft_16 : decode b_M_fromLeft 16 = .ok (.sipush 245, 3) := by decide +kernel
theorem d_M_fromLeft_19 : decode b_M_fromLeft 19 = .ok (.laload, 1) := by decide +kernel
theorem d_M_fromLeft_20 : decode b_M_fromLeft 20 = .ok (.aload_n 0, 1) := by decide +kernel
theorem d_M_fromLeft_21 : decode b_M_fromLeft 21 = .ok (.getfield 7, 3) := by decide +kernel
theorem d_M_fromLeft_24 : decode b_M_fromLeft 24 = .ok (.sipush 271, 3) := by decide +kernel
theorem d_M_fromLeft_27 : decode b_M_fromLeft 27 = .ok (.iload_n 1, 1) := by decide +kernel
theorem d_M_fromLeft_28 : decode b_M_fromLeft 28 = .ok (.iadd, 1) := by decide +kernel
theorem d_M_fromLeft_29 : decode b_M_fromLeft 29 = .ok (.iconst 1, 1) := by decide +kernel
theorem d_M_fromLeft_30 : decode b_M_fromLeft 30 = .ok (.isub, 1) := by decide +kernel
theorem d_M_fromLeft_31 : decode b_M_fromLeft 31 = .ok (.laload, 1) := by decide +kernel
theorem d_M_fromLeft_32 : decode b_M_fromLeft 32 = .ok (.lmul, 1) := by decide +kernel
theorem d_M_fromLeft_33 : decode b_M_fromLeft 33 = .ok (.ladd, 1) := by decide +kernel
theorem d_M_fromLeft_34 : decode b_M_fromLeft 34 = .ok (.aload_n 0, 1) := by decide +kernel
theorem d_M_fromLeft_35 : decode b_M_fromLeft 35 = .ok (.iload_n 1, 1) := by decide +kernel
theorem d_M_fromLeft_36 : decode b_M_fromLeft 36 = .ok (.iconst 1, 1) := by decide +kernel
theorem d_M_fromLeft_37 : decode b_M_fromLeft 37 = .ok (.isub, 1) := by decide +kernel
theorem d_M_fromLeft_38 : decode b_M_fromLeft 38 = .ok (.invokevirtual 225, 3) := by decide +kernel
theorem d_M_fromLeft_41 : decode b_M_fromLeft 41 = .ok (.lsub, 1) := by decide +kernel
theorem d_M_fromLeft_42 : decode b_M_fromLeft 42 = .ok (.lreturn, 1) := by decide +kernel
theorem d_M_fromRight_0 : decode b_M_fromRight 0 = .ok (.aload_n 0, 1) := by decide +kernel
theorem d_M_fromRight_1 : decode b_M_fromRight 1 = .ok (.getfield 7, 3) := by decide +kernel
theorem d_M_fromRight_4 : decode b_M_fromRight 4 = .ok (.sipush 250, 3) := by decide +kernel
theorem d_M_fromRight_7 : decode b_M_fromRight 7 = .ok (.iload_n 1, 1) := by decide +kernel
theorem d_M_fromRight_8 : decode b_M_fromRight 8 = .ok (.iadd, 1) := by decide +kernel
theorem d_M_fromRight_9 : decode b_M_fromRight 9 = .ok (.iconst 1, 1) := by decide +kernel
theorem d_M_fromRight_10 : decode b_M_fromRight 10 = .ok (.iadd, 1) := by decide +kernel
theorem d_M_fromRight_11 : decode b_M_fromRight 11 = .ok (.laload, 1) := by decide +kernel
theorem d_M_fromRight_12 : decode b_M_fromRight 12 = .ok (.aload_n 0, 1) := by decide +kernel
theorem d_M_fromRight_13 : decode b_M_fromRight 13 = .ok (.getfield 7, 3) := by decide +kernel
theorem d_M_fromRight_16 : decode b_M_fromRight 16 = .ok (.sipush 245, 3) := by decide +kernel
theorem d_M_fromRight_19 : decode b_M_fromRight 19 = .ok (.laload, 1) := by decide +kernel
theorem d_M_fromRight_20 : decode b_M_fromRight 20 = .ok (.aload_n 0, 1) := by decide +kernel
theorem d_M_fromRight_21 : decode b_M_fromRight 21 = .ok (.getfield 7, 3) := by decide +kernel
theorem d_M_fromRight_24 : decode b_M_fromRight 24 = .ok (.sipush 271, 3) := by decide +kernel
theorem d_M_fromRight_27 : decode b_M_fromRight 27 = .ok (.iload_n 1, 1) := by decide +kernel
theorem d_M_fromRight_28 : decode b_M_fromRight 28 = .ok (.iadd, 1) := by decide +kernel
theorem d_M_fromRight_29 : decode b_M_fromRight 29 = .ok (.iconst 1, 1) := by decide +kernel
theorem d_M_fromRight_30 : decode b_M_fromRight 30 = .ok (.iadd, 1) := by decide +kernel
theorem d_M_fromRight_31 : decode b_M_fromRight 31 = .ok (.laload, 1) := by decide +kernel
theorem d_M_fromRight_32 : decode b_M_fromRight 32 = .ok (.lmul, 1) := by decide +kernel
theorem d_M_fromRight_33 : decode b_M_fromRight 33 = .ok (.lsub, 1) := by decide +kernel
theorem d_M_fromRight_34 : decode b_M_fromRight 34 = .ok (.aload_n 0, 1) := by decide +kernel
theorem d_M_fromRight_35 : decode b_M_fromRight 35 = .ok (.iload_n 1, 1) := by decide +kernel
theorem d_M_fromRight_36 : decode b_M_fromRight 36 = .ok (.iconst 1, 1) := by decide +kernel
theorem d_M_fromRight_37 : decode b_M_fromRight 37 = .ok (.iadd, 1) := by decide +kernel
theorem d_M_fromRight_38 : decode b_M_fromRight 38 = .ok (.invokevirtual 225, 3) := by decide +kernel
theorem d_M_fromRight_41 : decode b_M_fromRight 41 = .ok (.ladd, 1) := by decide +kernel
theorem d_M_fromRight_42 : decode b_M_fromRight 42 = .ok (.lreturn, 1) := by decide +kernel
theorem d_M_finds_0 : decode b_M_finds 0 = .ok (.aload_n 0, 1) := by decide +kernel
theorem d_M_finds_1 : decode b_M_finds 1 = .ok (.getfield 7, 3) := by decide +kernel
theorem d_M_finds_4 : decode b_M_finds 4 = .ok (.sipush 244, 3) := by decide +kernel
theorem d_M_finds_7 : decode b_M_finds 7 = .ok (.laload, 1) := by decide +kernel
theorem d_M_finds_8 : decode b_M_finds 8 = .ok (.l2i, 1) := by decide +kernel
theorem d_M_finds_9 : decode b_M_finds 9 = .ok (.istore_n 2, 1) := by decide +kernel
theorem d_M_finds_10 : decode b_M_finds 10 = .ok (.iload_n 1, 1) := by decide +kernel
theorem d_M_finds_11 : decode b_M_finds 11 = .ok (.ifCond .ne 56, 3) := by decide +kernel
theorem d_M_finds_14 : decode b_M_finds 14 = .ok (.aload_n 0, 1) := by decide +kernel
theorem d_M_finds_15 : decode b_M_finds 15 = .ok (.getfield 29, 3) := by decide +kernel
theorem d_M_finds_18 : decode b_M_finds 18 = .ok (.iconst 0, 1) := by decide +kernel
theorem d_M_finds_19 : decode b_M_finds 19 = .ok (.aload_n 0, 1) := by decide +kernel
theorem d_M_finds_20 : decode b_M_finds 20 = .ok (.getfield 7, 3) := by decide +kernel
theorem d_M_finds_23 : decode b_M_finds 23 = .ok (.sipush 248, 3) := by decide +kernel
theorem d_M_finds_26 : decode b_M_finds 26 = .ok (.laload, 1) := by decide +kernel
theorem d_M_finds_27 : decode b_M_finds 27 = .ok (.lastore, 1) := by decide +kernel
theorem d_M_finds_28 : decode b_M_finds 28 = .ok (.aload_n 0, 1) := by decide +kernel
theorem d_M_finds_29 : decode b_M_finds 29 = .ok (.getfield 29, 3) := by decide +kernel
theorem d_M_finds_32 : decode b_M_finds 32 = .ok (.bipush 21, 2) := by decide +kernel
theorem d_M_finds_34 : decode b_M_finds 34 = .ok (.aload_n 0, 1) := by decide +kernel
theorem d_M_finds_35 : decode b_M_finds 35 = .ok (.getfield 7, 3) := by decide +kernel
theorem d_M_finds_38 : decode b_M_finds 38 = .ok (.sipush 248, 3) := by decide +kernel
theorem d_M_finds_41 : decode b_M_finds 41 = .ok (.laload, 1) := by decide +kernel
theorem d_M_finds_42 : decode b_M_finds 42 = .ok (.aload_n 0, 1) := by decide +kernel
theorem d_M_finds_43 : decode b_M_finds 43 = .ok (.iconst 0, 1) := by decide +kernel
theorem d_M_finds_44 : decode b_M_finds 44 = .ok (.invokevirtual 228, 3) := by decide +kernel
theorem d_M_finds_47 : decode b_M_finds 47 = .ok (.lsub, 1) := by decide +kernel
theorem d_M_finds_48 : decode b_M_finds 48 = .ok (.aload_n 0, 1) := by decide +kernel
theorem d_M_finds_49 : decode b_M_finds 49 = .ok (.getfield 7, 3) := by decide +kernel
theorem d_M_finds_52 : decode b_M_finds 52 = .ok (.sipush 245, 3) := by decide +kernel
theorem d_M_finds_55 : decode b_M_finds 55 = .ok (.laload, 1) := by decide +kernel
theorem d_M_finds_56 : decode b_M_finds 56 = .ok (.ldiv, 1) := by decide +kernel
theorem d_M_finds_57 : decode b_M_finds 57 = .ok (.lastore, 1) := by decide +kernel
theorem d_M_finds_58 : decode b_M_finds 58 = .ok (.aload_n 0, 1) := by decide +kernel
theorem d_M_finds_59 : decode b_M_finds 59 = .ok (.getfield 29, 3) := by decide +kernel
theorem d_M_finds_62 : decode b_M_finds 62 = .ok (.bipush 42, 2) := by decide +kernel
theorem d_M_finds_64 : decode b_M_finds 64 = .ok (.lconst 0, 1) := by decide +kernel
theorem d_M_finds_65 : decode b_M_finds 65 = .ok (.lastore, 1) := by decide +kernel
theorem d_M_finds_66 : decode b_M_finds 66 = .ok (.return_, 1) := by decide +kernel
theorem d_M_finds_67 : decode b_M_finds 67 = .ok (.aload_n 0, 1) := by decide +kernel
theorem d_M_finds_68 : decode b_M_finds 68 = .ok (.iload_n 1, 1) := by decide +kernel
theorem d_M_finds_69 : decode b_M_finds 69 = .ok (.invokevirtual 231, 3) := by decide +kernel
theorem d_M_finds_72 : decode b_M_finds 72 = .ok (.lstore_n 3, 1) := by decide +kernel
theorem d_M_finds_73 : decode b_M_finds 73 = .ok (.iload_n 1, 1) := by decide +kernel
theorem d_M_finds_74 : decode b_M_finds 74 = .ok (.iload_n 2, 1) := by decide +kernel
theorem d_M_finds_75 : decode b_M_finds 75 = .ok (.if_icmp .ne 7, 3) := by decide +kernel
theorem d_M_finds_78 : decode b_M_finds 78 = .ok (.lconst 0, 1) := by decide +kernel
theorem d_M_finds_79 : decode b_M_finds 79 = .ok (.goto 8, 3) := by decide +kernel
theorem d_M_finds_82 : decode b_M_finds 82 = .ok (.aload_n 0, 1) := by decide +kernel
theorem d_M_finds_83 : decode b_M_finds 83 = .ok (.iload_n 1, 1) := by decide +kernel
theorem d_M_finds_84 : decode b_M_finds 84 = .ok (.invokevirtual 228, 3) := by decide +kernel
theorem d_M_finds_87 : decode b_M_finds 87 = .ok (.lstore 5, 2) := by decide +kernel
theorem d_M_finds_89 : decode b_M_finds 89 = .ok (.iload_n 1, 1) := by decide +kernel
theorem d_M_finds_90 : decode b_M_finds 90 = .ok (.iload_n 2, 1) := by decide +kernel
theorem d_M_finds_91 : decode b_M_finds 91 = .ok (.if_icmp .ge 23, 3) := by decide +kernel
theorem d_M_finds_94 : decode b_M_finds 94 = .ok (.lload_n 3, 1) := by decide +kernel
theorem d_M_finds_95 : decode b_M_finds 95 = .ok (.lload 5, 2) := by decide +kernel
theorem d_M_finds_97 : decode b_M_finds 97 = .ok (.lsub, 1) := by decide +kernel
theorem d_M_finds_98 : decode b_M_finds 98 = .ok (.ldc2_w 44, 3) := by decide +kernel
theorem d_M_finds_101 : decode b_M_finds 101 = .ok (.aload_n 0, 1) := by decide +kernel
theorem d_M_finds_102 : decode b_M_finds 102 = .ok (.getfield 7, 3) := by decide +kernel
theorem d_M_finds_105 : decode b_M_finds 105 = .ok (.sipush 245, 3) := by decide +kernel
theorem d_M_finds_108 : decode b_M_finds 108 = .ok (.laload, 1) := by decide +kernel
theorem d_M_finds_109 : decode b_M_finds 109 = .ok (.lmul, 1) := by decide +kernel
theorem d_M_finds_110 : decode b_M_finds 110 = .ok (.ldiv, 1) := by decide +kernel
theorem d_M_finds_111 : decode b_M_finds 111 = .ok (.goto 54, 3) := by decide +kernel
theorem d_M_finds_114 : decode b_M_finds 114 = .ok (.lload_n 3, 1) := by decide +kernel
theorem d_M_finds_115 : decode b_M_finds 115 = .ok (.lconst 0, 1) := by decide +kernel
theorem d_M_finds_116 : decode b_M_finds 116 = .ok (.lcmp, 1) := by decide +kernel
theorem d_M_finds_117 : decode b_M_finds 117 = .ok (.ifCond .ge 7, 3) := by decide +kernel
theorem d_M_finds_120 : decode b_M_finds 120 = .ok (.lconst 0, 1) := by decide +kernel
theorem d_M_finds_121 : decode b_M_finds 121 = .ok (.goto 44, 3) := by decide +kernel
theorem d_M_finds_124 : decode b_M_finds 124 = .ok (.aload_n 0, 1) := by decide +kernel
theorem d_M_finds_125 : decode b_M_finds 125 = .ok (.getfield 7, 3) := by decide +kernel
theorem d_M_finds_128 : decode b_M_finds 128 = .ok (.sipush 249, 3) := by decide +kernel
theorem d_M_finds_131 : decode b_M_finds 131 = .ok (.laload, 1) := by decide +kernel
theorem d_M_finds_132 : decode b_M_finds 132 = .ok (.lload_n 3, 1) := by decide +kernel
theorem d_M_finds_133 : decode b_M_finds 133 = .ok (.lmul, 1) := by decide +kernel
theorem d_M_finds_134 : decode b_M_finds 134 = .ok (.ldc2_w 84, 3) := by decide +kernel
theorem d_M_finds_137 : decode b_M_finds 137 = .ok (.aload_n 0, 1) := by decide +kernel
theorem d_M_finds_138 : decode b_M_finds 138 = .ok (.getfield 7, 3) := by decide +kernel
theorem d_M_finds_141 : decode b_M_finds 141 = .ok (.sipush 247, 3) := by decide +kernel
theorem d_M_finds_144 : decode b_M_finds 144 = .ok (.laload, 1) := by decide +kernel
theorem d_M_finds_145 : decode b_M_finds 145 = .ok (.lmul, 1) := by decide +kernel
theorem d_M_finds_146 : decode b_M_finds 146 = .ok (.aload_n 0, 1) := by decide +kernel
theorem d_M_finds_147 : decode b_M_finds 147 = .ok (.getfield 7, 3) := by decide +kernel
theorem d_M_finds_150 : decode b_M_finds 150 = .ok (.sipush 249, 3) := by decide +kernel
theorem d_M_finds_153 : decode b_M_finds 153 = .ok (.laload, 1) := by decide +kernel
theorem d_M_finds_154 : decode b_M_finds 154 = .ok (.aload_n 0, 1) := by decide +kernel
theorem d_M_finds_155 : decode b_M_finds 155 = .ok (.getfield 7, 3) := by decide +kernel
theorem d_M_finds_158 : decode b_M_finds 158 = .ok (.sipush 245, 3) := by decide +kernel
theorem d_M_finds_161 : decode b_M_finds 161 = .ok (.laload, 1) := by decide +kernel
theorem d_M_finds_162 : decode b_M_finds 162 = .ok (.lmul, 1) := by decide +kernel
theorem d_M_finds_163 : decode b_M_finds 163 = .ok (.ladd, 1) := by decide +kernel
theorem d_M_finds_164 : decode b_M_finds 164 = .ok (.ldiv, 1) := by decide +kernel
theorem d_M_finds_165 : decode b_M_finds 165 = .ok (.lstore 7, 2) := by decide +kernel
theorem d_M_finds_167 : decode b_M_finds 167 = .ok (.iload_n 1, 1) := by decide +kernel
theorem d_M_finds_168 : decode b_M_finds 168 = .ok (.iload_n 2, 1) := by decide +kernel
theorem d_M_finds_169 : decode b_M_finds 169 = .ok (.if_icmp .ge 16, 3) := by decide +kernel
theorem d_M_finds_172 : decode b_M_finds 172 = .ok (.lload_n 3, 1) := by decide +kernel
theorem d_M_finds_173 : decode b_M_finds 173 = .ok (.lload 5, 2) := by decide +kernel
theorem d_M_finds_175 : decode b_M_finds 175 = .ok (.ladd, 1) := by decide +kernel
theorem d_M_finds_176 : decode b_M_finds 176 = .ok (.ldc2_w 44, 3) := by decide +kernel
theorem d_M_finds_179 : decode b_M_finds 179 = .ok (.invokestatic 56, 3) := by decide +kernel
theorem d_M_finds_182 : decode b_M_finds 182 = .ok (.goto 16, 3) := by decide +kernel
theorem d_M_finds_185 : decode b_M_finds 185 = .ok (.lload_n 3, 1) := by decide +kernel
theorem d_M_finds_186 : decode b_M_finds 186 = .ok (.aload_n 0, 1) := by decide +kernel
theorem d_M_finds_187 : decode b_M_finds 187 = .ok (.getfield 7, 3) := by decide +kernel
theorem d_M_finds_190 : decode b_M_finds 190 = .ok (.sipush 245, 3) := by decide +kernel
theorem d_M_finds_193 : decode b_M_finds 193 = .ok (.laload, 1) := by decide +kernel
theorem d_M_finds_194 : decode b_M_finds 194 = .ok (.lload 7, 2) := by decide +kernel
theorem d_M_finds_196 : decode b_M_finds 196 = .ok (.lmul, 1) := by decide +kernel
theorem d_M_finds_197 : decode b_M_finds 197 = .ok (.lsub, 1) := by decide +kernel
theorem d_M_finds_198 : decode b_M_finds 198 = .ok (.lstore 9, 2) := by decide +kernel
theorem d_M_finds_200 : decode b_M_finds 200 = .ok (.iload_n 1, 1) := by decide +kernel
theorem d_M_finds_201 : decode b_M_finds 201 = .ok (.iload_n 2, 1) := by decide +kernel
theorem d_M_finds_202 : decode b_M_finds 202 = .ok (.if_icmp .ne 7, 3) := by decide +kernel
theorem d_M_finds_205 : decode b_M_finds 205 = .ok (.lconst 0, 1) := by decide +kernel
theorem d_M_finds_206 : decode b_M_finds 206 = .ok (.goto 18, 3) := by decide +kernel
theorem d_M_finds_209 : decode b_M_finds 209 = .ok (.ldc2_w 223, 3) := by decide +kernel
theorem d_M_finds_212 : decode b_M_finds 212 = .ok (.lload 5, 2) := by decide +kernel
theorem d_M_finds_214 : decode b_M_finds 214 = .ok (.lsub, 1) := by decide +kernel
theorem d_M_finds_215 : decode b_M_finds 215 = .ok (.aload_n 0, 1) := by decide +kernel
theorem d_M_finds_216 : decode b_M_finds 216 = .ok (.getfield 7, 3) := by decide +kernel
theorem d_M_finds_219 : decode b_M_finds 219 = .ok (.sipush 245, 3) := by decide +kernel
theorem d_M_finds_222 : decode b_M_finds 222 = .ok (.laload, 1) := by decide +kernel
theorem d_M_finds_223 : decode b_M_finds 223 = .ok (.ldiv, 1) := by decide +kernel
theorem d_M_finds_224 : decode b_M_finds 224 = .ok (.lstore 11, 2) := by decide +kernel
theorem d_M_finds_226 : decode b_M_finds 226 = .ok (.aload_n 0, 1) := by decide +kernel
theorem d_M_finds_227 : decode b_M_finds 227 = .ok (.getfield 7, 3) := by decide +kernel
theorem d_M_finds_230 : decode b_M_finds 230 = .ok (.sipush 292, 3) := by decide +kernel
theorem d_M_finds_233 : decode b_M_finds 233 = .ok (.iload_n 1, 1) := by decide +kernel
theorem d_M_finds_234 : decode b_M_finds 234 = .ok (.iadd, 1) := by decide +kernel
theorem d_M_finds_235 : decode b_M_finds 235 = .ok (.laload, 1) := by decide +kernel
theorem d_M_finds_236 : decode b_M_finds 236 = .ok (.lconst 0, 1) := by decide +kernel
theorem d_M_finds_237 : decode b_M_finds 237 = .ok (.lcmp, 1) := by decide +kernel
theorem d_M_finds_238 : decode b_M_finds 238 = .ok (.ifCond .gt 12, 3) := by decide +kernel
theorem d_M_finds_241 : decode b_M_finds 241 = .ok (.lload 9, 2) := by decide +kernel
theorem d_M_finds_243 : decode b_M_finds 243 = .ok (.ldc2_w 223, 3) := by decide +kernel
theorem d_M_finds_246 : decode b_M_finds 246 = .ok (.lcmp, 1) := by decide +kernel
theorem d_M_finds_247 : decode b_M_finds 247 = .ok (.ifCond .ge 34, 3) := by decide +kernel
theorem d_M_finds_250 : decode b_M_finds 250 = .ok (.aload_n 0, 1) := by decide +kernel
theorem d_M_finds_251 : decode b_M_finds 251 = .ok (.getfield 7, 3) := by decide +kernel
theorem d_M_finds_254 : decode b_M_finds 254 = .ok (.sipush 292, 3) := by decide +kernel
theorem d_M_finds_257 : decode b_M_finds 257 = .ok (.iload_n 1, 1) := by decide +kernel
theorem d_M_finds_258 : decode b_M_finds 258 = .ok (.iadd, 1) := by decide +kernel
theorem d_M_finds_259 : decode b_M_finds 259 = .ok (.laload, 1) := by decide +kernel
theorem d_M_finds_260 : decode b_M_finds 260 = .ok (.lload 11, 2) := by decide +kernel
theorem d_M_finds_262 : decode b_M_finds 262 = .ok (.ladd, 1) := by decide +kernel
theorem d_M_finds_263 : decode b_M_finds 263 = .ok (.lload_n 3, 1) := by decide +kernel
theorem d_M_finds_264 : decode b_M_finds 264 = .ok (.ldc2_w 84, 3) := by decide +kernel
theorem d_M_finds_267 : decode b_M_finds 267 = .ok (.ladd, 1) := by decide +kernel
theorem d_M_finds_268 : decode b_M_finds 268 = .ok (.aload_n 0, 1) := by decide +kernel
theorem d_M_finds_269 : decode b_M_finds 269 = .ok (.getfield 7, 3) := by decide +kernel
theorem d_M_finds_272 : decode b_M_finds 272 = .ok (.sipush 245, 3) := by decide +kernel
theorem d_M_finds_275 : decode b_M_finds 275 = .ok (.laload, 1) := by decide +kernel
theorem d_M_finds_276 : decode b_M_finds 276 = .ok (.ldiv, 1) := by decide +kernel
theorem d_M_finds_277 : decode b_M_finds 277 = .ok (.lsub, 1) := by decide +kernel
theorem d_M_finds_278 : decode b_M_finds 278 = .ok (.goto 4, 3) := by decide +kernel
theorem d_M_finds_281 : decode b_M_finds 281 = .ok (.lconst 0, 1) := by decide +kernel
theorem d_M_finds_282 : decode b_M_finds 282 = .ok (.lstore 13, 2) := by decide +kernel
theorem d_M_finds_284 : decode b_M_finds 284 = .ok (.lload 13, 2) := by decide +kernel
theorem d_M_finds_286 : decode b_M_finds 286 = .ok (.lconst 0, 1) := by decide +kernel
theorem d_M_finds_287 : decode b_M_finds 287 = .ok (.lcmp, 1) := by decide +kernel
theorem d_M_finds_288 : decode b_M_finds 288 = .ok (.ifCond .le 7, 3) := by decide +kernel
theorem d_M_finds_291 : decode b_M_finds 291 = .ok (.iconst 1, 1) := by decide +kernel
theorem d_M_finds_292 : decode b_M_finds 292 = .ok (.goto 4, 3) := by decide +kernel
theorem d_M_finds_295 : decode b_M_finds 295 = .ok (.iconst 0, 1) := by decide +kernel
theorem d_M_finds_296 : decode b_M_finds 296 = .ok (.istore 15, 2) := by decide +kernel
theorem d_M_finds_298 : decode b_M_finds 298 = .ok (.aload_n 0, 1) := by decide +kernel
theorem d_M_finds_299 : decode b_M_finds 299 = .ok (.getfield 29, 3) := by decide +kernel
theorem d_M_finds_302 : decode b_M_finds 302 = .ok (.iload_n 1, 1) := by decide +kernel
theorem d_M_finds_303 : decode b_M_finds 303 = .ok (.iload 15, 2) := by decide +kernel
theorem d_M_finds_305 : decode b_M_finds 305 = .ok (.ifCond .eq 9, 3) := by decide +kernel
theorem d_M_finds_308 : decode b_M_finds 308 = .ok (.ldc2_w 223, 3) := by decide +kernel
theorem d_M_finds_311 : decode b_M_finds 311 = .ok (.goto 5, 3) := by decide +kernel
theorem d_M_finds_314 : decode b_M_finds 314 = .ok (.lload 9, 2) := by decide +kernel
theorem d_M_finds_316 : decode b_M_finds 316 = .ok (.lastore, 1) := by decide +kernel
theorem d_M_finds_317 : decode b_M_finds 317 = .ok (.aload_n 0, 1) := by decide +kernel
theorem d_M_finds_318 : decode b_M_finds 318 = .ok (.getfield 29, 3) := by decide +kernel
theorem d_M_finds_321 : decode b_M_finds 321 = .ok (.bipush 21, 2) := by decide +kernel
theorem d_M_finds_323 : decode b_M_finds 323 = .ok (.iload_n 1, 1) := by decide +kernel
theorem d_M_finds_324 : decode b_M_finds 324 = .ok (.iadd, 1) := by decide +kernel
theorem d_M_finds_325 : decode b_M_finds 325 = .ok (.iload 15, 2) := by decide +kernel
theorem d_M_finds_327 : decode b_M_finds 327 = .ok (.ifCond .eq 8, 3) := by decide +kernel
theorem d_M_finds_330 : decode b_M_finds 330 = .ok (.lload 11, 2) := by decide +kernel
theorem d_M_finds_332 : decode b_M_finds 332 = .ok (.goto 5, 3) := by decide +kernel
theorem d_M_finds_335 : decode b_M_finds 335 = .ok (.lload 7, 2) := by decide +kernel
theorem d_M_finds_337 : decode b_M_finds 337 = .ok (.lastore, 1) := by decide +kernel
theorem d_M_finds_338 : decode b_M_finds 338 = .ok (.aload_n 0, 1) := by decide +kernel
theorem d_M_finds_339 : decode b_M_finds 339 = .ok (.getfield 29, 3) := by decide +kernel
theorem d_M_finds_342 : decode b_M_finds 342 = .ok (.bipush 42, 2) := by decide +kernel
theorem d_M_finds_344 : decode b_M_finds 344 = .ok (.iload_n 1, 1) := by decide +kernel
theorem d_M_finds_345 : decode b_M_finds 345 = .ok (.iadd, 1) := by decide +kernel
theorem d_M_finds_346 : decode b_M_finds 346 = .ok (.iload 15, 2) := by decide +kernel
theorem d_M_finds_348 : decode b_M_finds 348 = .ok (.ifCond .eq 8, 3) := by decide +kernel
theorem d_M_finds_351 : decode b_M_finds 351 = .ok (.lload 13, 2) := by decide +kernel
theorem d_M_finds_353 : decode b_M_finds 353 = .ok (.goto 4, 3) := by decide +kernel
theorem d_M_finds_356 : decode b_M_finds 356 = .ok (.lconst 0, 1) := by decide +kernel
theorem d_M_finds_357 : decode b_M_finds 357 = .ok (.lastore, 1) := by decide +kernel
theorem d_M_finds_358 : decode b_M_finds 358 = .ok (.return_, 1) := by decide +kernel
theorem d_M_flowed_0 : decode b_M_flowed 0 = .ok (.aload_n 0, 1) := by decide +kernel
theorem d_M_flowed_1 : decode b_M_flowed 1 = .ok (.getfield 7, 3) := by decide +kernel
theorem d_M_flowed_4 : decode b_M_flowed 4 = .ok (.sipush 244, 3) := by decide +kernel
theorem d_M_flowed_7 : decode b_M_flowed 7 = .ok (.laload, 1) := by decide +kernel
theorem d_M_flowed_8 : decode b_M_flowed 8 = .ok (.l2i, 1) := by decide +kernel
theorem d_M_flowed_9 : decode b_M_flowed 9 = .ok (.istore_n 1, 1) := by decide +kernel
theorem d_M_flowed_10 : decode b_M_flowed 10 = .ok (.iconst 1, 1) := by decide +kernel
theorem d_M_flowed_11 : decode b_M_flowed 11 = .ok (.istore_n 2, 1) := by decide +kernel
theorem d_M_flowed_12 : decode b_M_flowed 12 = .ok (.iconst 0, 1) := by decide +kernel
theorem d_M_flowed_13 : decode b_M_flowed 13 = .ok (.istore_n 3, 1) := by decide +kernel
theorem d_M_flowed_14 : decode b_M_flowed 14 = .ok (.iload_n 3, 1) := by decide +kernel
theorem d_M_flowed_15 : decode b_M_flowed 15 = .ok (.iload_n 1, 1) := by decide +kernel
theorem d_M_flowed_16 : decode b_M_flowed 16 = .ok (.if_icmp .gt 63, 3) := by decide +kernel
theorem d_M_flowed_19 : decode b_M_flowed 19 = .ok (.aload_n 0, 1) := by decide +kernel
theorem d_M_flowed_20 : decode b_M_flowed 20 = .ok (.iload_n 3, 1) := by decide +kernel
theorem d_M_flowed_21 : decode b_M_flowed 21 = .ok (.invokevirtual 234, 3) := by decide +kernel
theorem d_M_flowed_24 : decode b_M_flowed 24 = .ok (.iload_n 2, 1) := by decide +kernel
theorem d_M_flowed_25 : decode b_M_flowed 25 = .ok (.ifCond .eq 46, 3) := by decide +kernel
theorem d_M_flowed_28 : decode b_M_flowed 28 = .ok (.aload_n 0, 1) := by decide +kernel
theorem d_M_flowed_29 : decode b_M_flowed 29 = .ok (.getfield 29, 3) := by decide +kernel
theorem d_M_flowed_32 : decode b_M_flowed 32 = .ok (.iload_n 3, 1) := by decide +kernel
theorem d_M_flowed_33 : decode b_M_flowed 33 = .ok (.laload, 1) := by decide +kernel
theorem d_M_flowed_34 : decode b_M_flowed 34 = .ok (.ldc2_w 237, 3) := by decide +kernel
theorem d_M_flowed_37 : decode b_M_flowed 37 = .ok (.ldc2_w 72, 3) := by decide +kernel
theorem d_M_flowed_40 : decode b_M_flowed 40 = .ok (.invokestatic 52, 3) := by decide +kernel
theorem d_M_flowed_43 : decode b_M_flowed 43 = .ok (.ifCond .eq 28, 3) := by decide +kernel
theorem d_M_flowed_46 : decode b_M_flowed 46 = .ok (.aload_n 0, 1) := by decide +kernel
theorem d_M_flowed_47 : decode b_M_flowed 47 = .ok (.getfield 29, 3) := by decide +kernel
theorem d_M_flowed_50 : decode b_M_flowed 50 = .ok (.bipush 21, 2) := by decide +kernel
theorem d_M_flowed_52 : decode b_M_flowed 52 = .ok (.iload_n 3, 1) := by decide +kernel
theorem d_M_flowed_53 : decode b_M_flowed 53 = .ok (.iadd, 1) := by decide +kernel
theorem d_M_flowed_54 : decode b_M_flowed 54 = .ok (.laload, 1) := by decide +kernel
theorem d_M_flowed_55 : decode b_M_flowed 55 = .ok (.ldc2_w 239, 3) := by decide +kernel
theorem d_M_flowed_58 : decode b_M_flowed 58 = .ok (.ldc2_w 32, 3) := by decide +kernel
theorem d_M_flowed_61 : decode b_M_flowed 61 = .ok (.invokestatic 52, 3) := by decide +kernel
theorem d_M_flowed_64 : decode b_M_flowed 64 = .ok (.ifCond .eq 7, 3) := by decide +kernel
theorem d_M_flowed_67 : decode b_M_flowed 67 = .ok (.iconst 1, 1) := by decide +kernel
theorem d_M_flowed_68 : decode b_M_flowed 68 = .ok (.goto 4, 3) := by decide +kernel
theorem d_M_flowed_71 : decode b_M_flowed 71 = .ok (.iconst 0, 1) := by decide +kernel
theorem d_M_flowed_72 : decode b_M_flowed 72 = .ok (.istore_n 2, 1) := by decide +kernel
theorem d_M_flowed_73 : decode b_M_flowed 73 = .ok (.iinc 3 1, 3) := by decide +kernel
theorem d_M_flowed_76 : decode b_M_flowed 76 = .ok (.goto (-62), 3) := by decide +kernel
theorem d_M_flowed_79 : decode b_M_flowed 79 = .ok (.iconst 0, 1) := by decide +kernel
theorem d_M_flowed_80 : decode b_M_flowed 80 = .ok (.istore_n 3, 1) := by decide +kernel
theorem d_M_flowed_81 : decode b_M_flowed 81 = .ok (.iload_n 3, 1) := by decide +kernel
theorem d_M_flowed_82 : decode b_M_flowed 82 = .ok (.iload_n 1, 1) := by decide +kernel
theorem d_M_flowed_83 : decode b_M_flowed 83 = .ok (.if_icmp .gt 116, 3) := by decide +kernel
theorem d_M_flowed_86 : decode b_M_flowed 86 = .ok (.iload_n 2, 1) := by decide +kernel
theorem d_M_flowed_87 : decode b_M_flowed 87 = .ok (.ifCond .eq 112, 3) := by decide +kernel
theorem d_M_flowed_90 : decode b_M_flowed 90 = .ok (.aload_n 0, 1) := by decide +kernel
theorem d_M_flowed_91 : decode b_M_flowed 91 = .ok (.getfield 7, 3) := by decide +kernel
theorem d_M_flowed_94 : decode b_M_flowed 94 = .ok (.sipush 250, 3) := by decide +kernel
theorem d_M_flowed_97 : decode b_M_flowed 97 = .ok (.iload_n 3, 1) := by decide +kernel
theorem d_M_flowed_98 : decode b_M_flowed 98 = .ok (.iadd, 1) := by decide +kernel
theorem d_M_flowed_99 : decode b_M_flowed 99 = .ok (.aload_n 0, 1) := by decide +kernel
theorem d_M_flowed_100 : decode b_M_flowed 100 = .ok (.getfield 29, 3) := by decide +kernel
theorem d_M_flowed_103 : decode b_M_flowed 103 = .ok (.iload_n 3, 1) := by decide +kernel
theorem d_M_flowed_104 : decode b_M_flowed 104 = .ok (.laload, 1) := by decide +kernel
theorem d_M_flowed_105 : decode b_M_flowed 105 = .ok (.lastore, 1) := by decide +kernel
theorem d_M_flowed_106 : decode b_M_flowed 106 = .ok (.aload_n 0, 1) := by decide +kernel
theorem d_M_flowed_107 : decode b_M_flowed 107 = .ok (.getfield 7, 3) := by decide +kernel
theorem d_M_flowed_110 : decode b_M_flowed 110 = .ok (.sipush 271, 3) := by decide +kernel
theorem d_M_flowed_113 : decode b_M_flowed 113 = .ok (.iload_n 3, 1) := by decide +kernel
theorem d_M_flowed_114 : decode b_M_flowed 114 = .ok (.iadd, 1) := by decide +kernel
theorem d_M_flowed_115 : decode b_M_flowed 115 = .ok (.aload_n 0, 1) := by decide +kernel
theorem d_M_flowed_116 : decode b_M_flowed 116 = .ok (.getfield 29, 3) := by decide +kernel
theorem d_M_flowed_119 : decode b_M_flowed 119 = .ok (.bipush 21, 2) := by decide +kernel
theorem d_M_flowed_121 : decode b_M_flowed 121 = .ok (.iload_n 3, 1) := by decide +kernel
theorem d_M_flowed_122 : decode b_M_flowed 122 = .ok (.iadd, 1) := by decide +kernel
theorem d_M_flowed_123 : decode b_M_flowed 123 = .ok (.laload, 1) := by decide +kernel
theorem d_M_flowed_124 : decode b_M_flowed 124 = .ok (.lastore, 1) := by decide +kernel
theorem d_M_flowed_125 : decode b_M_flowed 125 = .ok (.aload_n 0, 1) := by decide +kernel
theorem d_M_flowed_126 : decode b_M_flowed 126 = .ok (.getfield 7, 3) := by decide +kernel
theorem d_M_flowed_129 : decode b_M_flowed 129 = .ok (.sipush 292, 3) := by decide +kernel
theorem d_M_flowed_132 : decode b_M_flowed 132 = .ok (.iload_n 3, 1) := by decide +kernel
theorem d_M_flowed_133 : decode b_M_flowed 133 = .ok (.iadd, 1) := by decide +kernel
theorem d_M_flowed_134 : decode b_M_flowed 134 = .ok (.aload_n 0, 1) := by decide +kernel
theorem d_M_flowed_135 : decode b_M_flowed 135 = .ok (.getfield 29, 3) := by decide +kernel
theorem d_M_flowed_138 : decode b_M_flowed 138 = .ok (.bipush 42, 2) := by decide +kernel
theorem d_M_flowed_140 : decode b_M_flowed 140 = .ok (.iload_n 3, 1) := by decide +kernel
theorem d_M_flowed_141 : decode b_M_flowed 141 = .ok (.iadd, 1) := by decide +kernel
theorem d_M_flowed_142 : decode b_M_flowed 142 = .ok (.laload, 1) := by decide +kernel
theorem d_M_flowed_143 : decode b_M_flowed 143 = .ok (.lastore, 1) := by decide +kernel
theorem d_M_flowed_144 : decode b_M_flowed 144 = .ok (.aload_n 0, 1) := by decide +kernel
theorem d_M_flowed_145 : decode b_M_flowed 145 = .ok (.getfield 7, 3) := by decide +kernel
theorem d_M_flowed_148 : decode b_M_flowed 148 = .ok (.sipush 313, 3) := by decide +kernel
theorem d_M_flowed_151 : decode b_M_flowed 151 = .ok (.iload_n 3, 1) := by decide +kernel
theorem d_M_flowed_152 : decode b_M_flowed 152 = .ok (.iadd, 1) := by decide +kernel
theorem d_M_flowed_153 : decode b_M_flowed 153 = .ok (.aload_n 0, 1) := by decide +kernel
theorem d_M_flowed_154 : decode b_M_flowed 154 = .ok (.getfield 29, 3) := by decide +kernel
theorem d_M_flowed_157 : decode b_M_flowed 157 = .ok (.iload_n 3, 1) := by decide +kernel
theorem d_M_flowed_158 : decode b_M_flowed 158 = .ok (.laload, 1) := by decide +kernel
theorem d_M_flowed_159 : decode b_M_flowed 159 = .ok (.aload_n 0, 1) := by decide +kernel
theorem d_M_flowed_160 : decode b_M_flowed 160 = .ok (.getfield 7, 3) := by decide +kernel
theorem d_M_flowed_163 : decode b_M_flowed 163 = .ok (.sipush 313, 3) := by decide +kernel
theorem d_M_flowed_166 : decode b_M_flowed 166 = .ok (.iload_n 3, 1) := by decide +kernel
theorem d_M_flowed_167 : decode b_M_flowed 167 = .ok (.iadd, 1) := by decide +kernel
theorem d_M_flowed_168 : decode b_M_flowed 168 = .ok (.laload, 1) := by decide +kernel
theorem d_M_flowed_169 : decode b_M_flowed 169 = .ok (.lcmp, 1) := by decide +kernel
theorem d_M_flowed_170 : decode b_M_flowed 170 = .ok (.ifCond .le 12, 3) := by decide +kernel
theorem d_M_flowed_173 : decode b_M_flowed 173 = .ok (.aload_n 0, 1) := by decide +kernel
theorem d_M_flowed_174 : decode b_M_flowed 174 = .ok (.getfield 29, 3) := by decide +kernel
theorem d_M_flowed_177 : decode b_M_flowed 177 = .ok (.iload_n 3, 1) := by decide +kernel
theorem d_M_flowed_178 : decode b_M_flowed 178 = .ok (.laload, 1) := by decide +kernel
theorem d_M_flowed_179 : decode b_M_flowed 179 = .ok (.goto 13, 3) := by decide +kernel
theorem d_M_flowed_182 : decode b_M_flowed 182 = .ok (.aload_n 0, 1) := by decide +kernel
theorem d_M_flowed_183 : decode b_M_flowed 183 = .ok (.getfield 7, 3) := by decide +kernel
theorem d_M_flowed_186 : decode b_M_flowed 186 = .ok (.sipush 313, 3) := by decide +kernel
theorem d_M_flowed_189 : decode b_M_flowed 189 = .ok (.iload_n 3, 1) := by decide +kernel
theorem d_M_flowed_190 : decode b_M_flowed 190 = .ok (.iadd, 1) := by decide +kernel
theorem d_M_flowed_191 : decode b_M_flowed 191 = .ok (.laload, 1) := by decide +kernel
theorem d_M_flowed_192 : decode b_M_flowed 192 = .ok (.lastore, 1) := by decide +kernel
theorem d_M_flowed_193 : decode b_M_flowed 193 = .ok (.iinc 3 1, 3) := by decide +kernel
theorem d_M_flowed_196 : decode b_M_flowed 196 = .ok (.goto (-115), 3) := by decide +kernel
theorem d_M_flowed_199 : decode b_M_flowed 199 = .ok (.iload_n 2, 1) := by decide +kernel
theorem d_M_flowed_200 : decode b_M_flowed 200 = .ok (.ireturn, 1) := by decide +kernel
theorem d_M_flow_0 : decode b_M_flow 0 = .ok (.aload_n 0, 1) := by decide +kernel
theorem d_M_flow_1 : decode b_M_flow 1 = .ok (.iload_n 1, 1) := by decide +kernel
theorem d_M_flow_2 : decode b_M_flow 2 = .ok (.i2l, 1) := by decide +kernel
theorem d_M_flow_3 : decode b_M_flow 3 = .ok (.lconst 1, 1) := by decide +kernel
theorem d_M_flow_4 : decode b_M_flow 4 = .ok (.ldc2_w 84, 3) := by decide +kernel
theorem d_M_flow_7 : decode b_M_flow 7 = .ok (.invokestatic 52, 3) := by decide +kernel
theorem d_M_flow_10 : decode b_M_flow 10 = .ok (.ifCond .ne 7, 3) := by decide +kernel
theorem d_M_flow_13 : decode b_M_flow 13 = .ok (.iconst 1, 1) := by decide +kernel
theorem d_M_flow_14 : decode b_M_flow 14 = .ok (.goto 21, 3) := by decide +kernel
theorem d_M_flow_17 : decode b_M_flow 17 = .ok (.aload_n 0, 1) := by decide +kernel
theorem d_M_flow_18 : decode b_M_flow 18 = .ok (.getfield 7, 3) := by decide +kernel
theorem d_M_flow_21 : decode b_M_flow 21 = .ok (.sipush 243, 3) := by decide +kernel
theorem d_M_flow_24 : decode b_M_flow 24 = .ok (.laload, 1) := by decide +kernel
theorem d_M_flow_25 : decode b_M_flow 25 = .ok (.lconst 1, 1) := by decide +kernel
theorem d_M_flow_26 : decode b_M_flow 26 = .ok (.lcmp, 1) := by decide +kernel
theorem d_M_flow_27 : decode b_M_flow 27 = .ok (.ifCond .ne 7, 3) := by decide +kernel
theorem d_M_flow_30 : decode b_M_flow 30 = .ok (.iconst 0, 1) := by decide +kernel
theorem d_M_flow_31 : decode b_M_flow 31 = .ok (.goto 4, 3) := by decide +kernel
theorem d_M_flow_34 : decode b_M_flow 34 = .ok (.iconst 2, 1) := by decide +kernel
theorem d_M_flow_35 : decode b_M_flow 35 = .ok (.putfield 38, 3) := by decide +kernel
theorem d_M_flow_38 : decode b_M_flow 38 = .ok (.iconst 0, 1) := by decide +kernel
theorem d_M_flow_39 : decode b_M_flow 39 = .ok (.istore_n 2, 1) := by decide +kernel
theorem d_M_flow_40 : decode b_M_flow 40 = .ok (.aload_n 0, 1) := by decide +kernel
theorem d_M_flow_41 : decode b_M_flow 41 = .ok (.getfield 38, 3) := by decide +kernel
theorem d_M_flow_44 : decode b_M_flow 44 = .ok (.ifCond .ne 21, 3) := by decide +kernel
theorem d_M_flow_47 : decode b_M_flow 47 = .ok (.iload_n 2, 1) := by decide +kernel
theorem d_M_flow_48 : decode b_M_flow 48 = .ok (.iload_n 1, 1) := by decide +kernel
theorem d_M_flow_49 : decode b_M_flow 49 = .ok (.if_icmp .ge 16, 3) := by decide +kernel
theorem d_M_flow_52 : decode b_M_flow 52 = .ok (.aload_n 0, 1) := by decide +kernel
theorem d_M_flow_53 : decode b_M_flow 53 = .ok (.invokevirtual 241, 3) := by decide +kernel
theorem d_M_flow_56 : decode b_M_flow 56 = .ok (.ifCond .eq 9, 3) := by decide +kernel
theorem d_M_flow_59 : decode b_M_flow 59 = .ok (.iinc 2 1, 3) := by decide +kernel
theorem d_M_flow_62 : decode b_M_flow 62 = .ok (.goto (-22), 3) := by decide +kernel
theorem d_M_flow_65 : decode b_M_flow 65 = .ok (.iload_n 2, 1) := by decide +kernel
theorem d_M_flow_66 : decode b_M_flow 66 = .ok (.ireturn, 1) := by decide +kernel
theorem d_M_node_0 : decode b_M_node 0 = .ok (.aload_n 0, 1) := by decide +kernel
theorem d_M_node_1 : decode b_M_node 1 = .ok (.aload_n 0, 1) := by decide +kernel
theorem d_M_node_2 : decode b_M_node 2 = .ok (.getfield 7, 3) := by decide +kernel
theorem d_M_node_5 : decode b_M_node 5 = .ok (.sipush 243, 3) := by decide +kernel
theorem d_M_node_8 : decode b_M_node 8 = .ok (.laload, 1) := by decide +kernel
theorem d_M_node_9 : decode b_M_node 9 = .ok (.lconst 0, 1) := by decide +kernel
theorem d_M_node_10 : decode b_M_node 10 = .ok (.lcmp, 1) := by decide +kernel
theorem d_M_node_11 : decode b_M_node 11 = .ok (.ifCond .eq 20, 3) := by decide +kernel
theorem d_M_node_14 : decode b_M_node 14 = .ok (.iload_n 1, 1) := by decide +kernel
theorem d_M_node_15 : decode b_M_node 15 = .ok (.i2l, 1) := by decide +kernel
theorem d_M_node_16 : decode b_M_node 16 = .ok (.lconst 0, 1) := by decide +kernel
theorem d_M_node_17 : decode b_M_node 17 = .ok (.aload_n 0, 1) := by decide +kernel
theorem d_M_node_18 : decode b_M_node 18 = .ok (.getfield 7, 3) := by decide +kernel
theorem d_M_node_21 : decode b_M_node 21 = .ok (.sipush 244, 3) := by decide +kernel
theorem d_M_node_24 : decode b_M_node 24 = .ok (.laload, 1) := by decide +kernel
theorem d_M_node_25 : decode b_M_node 25 = .ok (.invokestatic 52, 3) := by decide +kernel
theorem d_M_node_28 : decode b_M_node 28 = .ok (.ifCond .ne 7, 3) := by decide +kernel
theorem d_M_node_31 : decode b_M_node 31 = .ok (.iconst 1, 1) := by decide +kernel
theorem d_M_node_32 : decode b_M_node 32 = .ok (.goto 20, 3) := by decide +kernel
theorem d_M_node_35 : decode b_M_node 35 = .ok (.iload_n 2, 1) := by decide +kernel
theorem d_M_node_36 : decode b_M_node 36 = .ok (.i2l, 1) := by decide +kernel
theorem d_M_node_37 : decode b_M_node 37 = .ok (.lconst 0, 1) := by decide +kernel
theorem d_M_node_38 : decode b_M_node 38 = .ok (.ldc2_w 66, 3) := by decide +kernel
theorem d_M_node_41 : decode b_M_node 41 = .ok (.invokestatic 52, 3) := by decide +kernel
theorem d_M_node_44 : decode b_M_node 44 = .ok (.ifCond .eq 7, 3) := by decide +kernel
theorem d_M_node_47 : decode b_M_node 47 = .ok (.iconst 0, 1) := by decide +kernel
theorem d_M_node_48 : decode b_M_node 48 = .ok (.goto 4, 3) := by decide +kernel
theorem d_M_node_51 : decode b_M_node 51 = .ok (.iconst 2, 1) := by decide +kernel
theorem d_M_node_52 : decode b_M_node 52 = .ok (.putfield 38, 3) := by decide +kernel
theorem d_M_node_55 : decode b_M_node 55 = .ok (.aload_n 0, 1) := by decide +kernel
theorem d_M_node_56 : decode b_M_node 56 = .ok (.getfield 38, 3) := by decide +kernel
theorem d_M_node_59 : decode b_M_node 59 = .ok (.ifCond .le 7, 3) := by decide +kernel
theorem d_M_node_62 : decode b_M_node 62 = .ok (.iconst 0, 1) := by decide +kernel
theorem d_M_node_63 : decode b_M_node 63 = .ok (.goto 21, 3) := by decide +kernel
theorem d_M_node_66 : decode b_M_node 66 = .ok (.aload_n 0, 1) := by decide +kernel
theorem d_M_node_67 : decode b_M_node 67 = .ok (.getfield 7, 3) := by decide +kernel
theorem d_M_node_70 : decode b_M_node 70 = .ok (.sipush 250, 3) := by decide +kernel
theorem d_M_node_73 : decode b_M_node 73 = .ok (.bipush 21, 2) := by decide +kernel
theorem d_M_node_75 : decode b_M_node 75 = .ok (.iload_n 2, 1) := by decide +kernel
theorem d_M_node_76 : decode b_M_node 76 = .ok (.imul, 1) := by decide +kernel
theorem d_M_node_77 : decode b_M_node 77 = .ok (.iadd, 1) := by decide +kernel
theorem d_M_node_78 : decode b_M_node 78 = .ok (.iload_n 1, 1) := by decide +kernel
theorem d_M_node_79 : decode b_M_node 79 = .ok (.iadd, 1) := by decide +kernel
theorem d_M_node_80 : decode b_M_node 80 = .ok (.laload, 1) := by decide +kernel
theorem d_M_node_81 : decode b_M_node 81 = .ok (.invokestatic 165, 3) := by decide +kernel
theorem d_M_node_84 : decode b_M_node 84 = .ok (.ireturn, 1) := by decide +kernel
theorem d_M_keep_0 : decode b_M_keep 0 = .ok (.aload_n 0, 1) := by decide +kernel
theorem d_M_keep_1 : decode b_M_keep 1 = .ok (.iload_n 1, 1) := by decide +kernel
theorem d_M_keep_2 : decode b_M_keep 2 = .ok (.i2l, 1) := by decide +kernel
theorem d_M_keep_3 : decode b_M_keep 3 = .ok (.lconst 0, 1) := by decide +kernel
theorem d_M_keep_4 : decode b_M_keep 4 = .ok (.ldc2_w 66, 3) := by decide +kernel
theorem d_M_keep_7 : decode b_M_keep 7 = .ok (.invokestatic 52, 3) := by decide +kernel
theorem d_M_keep_10 : decode b_M_keep 10 = .ok (.ifCond .eq 7, 3) := by decide +kernel
theorem d_M_keep_13 : decode b_M_keep 13 = .ok (.iconst 0, 1) := by decide +kernel
theorem d_M_keep_14 : decode b_M_keep 14 = .ok (.goto 4, 3) := by decide +kernel
theorem d_M_keep_17 : decode b_M_keep 17 = .ok (.iconst 1, 1) := by decide +kernel
theorem d_M_keep_18 : decode b_M_keep 18 = .ok (.putfield 38, 3) := by decide +kernel
theorem d_M_keep_21 : decode b_M_keep 21 = .ok (.aload_n 0, 1) := by decide +kernel
theorem d_M_keep_22 : decode b_M_keep 22 = .ok (.getfield 38, 3) := by decide +kernel
theorem d_M_keep_25 : decode b_M_keep 25 = .ok (.ifCond .ne 43, 3) := by decide +kernel
theorem d_M_keep_28 : decode b_M_keep 28 = .ok (.aload_n 0, 1) := by decide +kernel
theorem d_M_keep_29 : decode b_M_keep 29 = .ok (.getfield 16, 3) := by decide +kernel
theorem d_M_keep_32 : decode b_M_keep 32 = .ok (.iload_n 1, 1) := by decide +kernel
theorem d_M_keep_33 : decode b_M_keep 33 = .ok (.iconst 1, 1) := by decide +kernel
theorem d_M_keep_34 : decode b_M_keep 34 = .ok (.bastore, 1) := by decide +kernel
theorem d_M_keep_35 : decode b_M_keep 35 = .ok (.iconst 0, 1) := by decide +kernel
theorem d_M_keep_36 : decode b_M_keep 36 = .ok (.istore_n 2, 1) := by decide +kernel
theorem d_M_keep_37 : decode b_M_keep 37 = .ok (.iload_n 2, 1) := by decide +kernel
theorem d_M_keep_38 : decode b_M_keep 38 = .ok (.sipush 334, 3) := by decide +kernel
theorem d_M_keep_41 : decode b_M_keep 41 = .ok (.if_icmp .ge 27, 3) := by decide +kernel
theorem d_M_keep_44 : decode b_M_keep 44 = .ok (.aload_n 0, 1) := by decide +kernel
theorem d_M_keep_45 : decode b_M_keep 45 = .ok (.getfield 13, 3) := by decide +kernel
theorem d_M_keep_48 : decode b_M_keep 48 = .ok (.sipush 334, 3) := by decide +kernel
theorem d_M_keep_51 : decode b_M_keep 51 = .ok (.iload_n 1, 1) := by decide +kernel
theorem d_M_keep_52 : decode b_M_keep 52 = .ok (.imul, 1) := by decide +kernel
theorem d_M_keep_53 : decode b_M_keep 53 = .ok (.iload_n 2, 1) := by decide +kernel
theorem d_M_keep_54 : decode b_M_keep 54 = .ok (.iadd, 1) := by decide +kernel
theorem d_M_keep_55 : decode b_M_keep 55 = .ok (.aload_n 0, 1) := by decide +kernel
theorem d_M_keep_56 : decode b_M_keep 56 = .ok (.getfield 7, 3) := by decide +kernel
theorem d_M_keep_59 : decode b_M_keep 59 = .ok (.iload_n 2, 1) := by decide +kernel
theorem d_M_keep_60 : decode b_M_keep 60 = .ok (.laload, 1) := by decide +kernel
theorem d_M_keep_61 : decode b_M_keep 61 = .ok (.lastore, 1) := by decide +kernel
theorem d_M_keep_62 : decode b_M_keep 62 = .ok (.iinc 2 1, 3) := by decide +kernel
theorem d_M_keep_65 : decode b_M_keep 65 = .ok (.goto (-28), 3) := by decide +kernel
theorem d_M_keep_68 : decode b_M_keep 68 = .ok (.return_, 1) := by decide +kernel
theorem d_M_goBack_0 : decode b_M_goBack 0 = .ok (.aload_n 0, 1) := by decide +kernel
theorem d_M_goBack_1 : decode b_M_goBack 1 = .ok (.iload_n 1, 1) := by decide +kernel
theorem d_M_goBack_2 : decode b_M_goBack 2 = .ok (.i2l, 1) := by decide +kernel
theorem d_M_goBack_3 : decode b_M_goBack 3 = .ok (.lconst 0, 1) := by decide +kernel
theorem d_M_goBack_4 : decode b_M_goBack 4 = .ok (.ldc2_w 66, 3) := by decide +kernel
theorem d_M_goBack_7 : decode b_M_goBack 7 = .ok (.invokestatic 52, 3) := by decide +kernel
theorem d_M_goBack_10 : decode b_M_goBack 10 = .ok (.ifCond .ne 7, 3) := by decide +kernel
theorem d_M_goBack_13 : decode b_M_goBack 13 = .ok (.iconst 1, 1) := by decide +kernel
theorem d_M_goBack_14 : decode b_M_goBack 14 = .ok (.goto 17, 3) := by decide +kernel
theorem d_M_goBack_17 : decode b_M_goBack 17 = .ok (.aload_n 0, 1) := by decide +kernel
theorem d_M_goBack_18 : decode b_M_goBack 18 = .ok (.getfield 16, 3) := by decide +kernel
theorem d_M_goBack_21 : decode b_M_goBack 21 = .ok (.iload_n 1, 1) := by decide +kernel
theorem d_M_goBack_22 : decode b_M_goBack 22 = .ok (.baload, 1) := by decide +kernel
theorem d_M_goBack_23 : decode b_M_goBack 23 = .ok (.ifCond .eq 7, 3) := by decide +kernel
theorem d_M_goBack_26 : decode b_M_goBack 26 = .ok (.iconst 0, 1) := by decide +kernel
theorem d_M_goBack_27 : decode b_M_goBack 27 = .ok (.goto 4, 3) := by decide +kernel
theorem d_M_goBack_30 : decode b_M_goBack 30 = .ok (.iconst 2, 1) := by decide +kernel
theorem d_M_goBack_31 : decode b_M_goBack 31 = .ok (.putfield 38, 3) := by decide +kernel
theorem d_M_goBack_34 : decode b_M_goBack 34 = .ok (.aload_n 0, 1) := by decide +kernel
theorem d_M_goBack_35 : decode b_M_goBack 35 = .ok (.getfield 38, 3) := by decide +kernel
theorem d_M_goBack_38 : decode b_M_goBack 38 = .ok (.ifCond .ne 36, 3) := by decide +kernel
theorem d_M_goBack_41 : decode b_M_goBack 41 = .ok (.iconst 0, 1) := by decide +kernel
theorem d_M_goBack_42 : decode b_M_goBack 42 = .ok (.istore_n 2, 1) := by decide +kernel
theorem d_M_goBack_43 : decode b_M_goBack 43 = .ok (.iload_n 2, 1) := by decide +kernel
theorem d_M_goBack_44 : decode b_M_goBack 44 = .ok (.sipush 334, 3) := by decide +kernel
theorem d_M_goBack_47 : decode b_M_goBack 47 = .ok (.if_icmp .ge 27, 3) := by decide +kernel
theorem d_M_goBack_50 : decode b_M_goBack 50 = .ok (.aload_n 0, 1) := by decide +kernel
theorem d_M_goBack_51 : decode b_M_goBack 51 = .ok (.getfield 7, 3) := by decide +kernel
theorem d_M_goBack_54 : decode b_M_goBack 54 = .ok (.iload_n 2, 1) := by decide +kernel
theorem d_M_goBack_55 : decode b_M_goBack 55 = .ok (.aload_n 0, 1) := by decide +kernel
theorem d_M_goBack_56 : decode b_M_goBack 56 = .ok (.getfield 13, 3) := by decide +kernel
theorem d_M_goBack_59 : decode b_M_goBack 59 = .ok (.sipush 334, 3) := by decide +kernel
theorem d_M_goBack_62 : decode b_M_goBack 62 = .ok (.iload_n 1, 1) := by decide +kernel
theorem d_M_goBack_63 : decode b_M_goBack 63 = .ok (.imul, 1) := by decide +kernel
theorem d_M_goBack_64 : decode b_M_goBack 64 = .ok (.iload_n 2, 1) := by decide +kernel
theorem d_M_goBack_65 : decode b_M_goBack 65 = .ok (.iadd, 1) := by decide +kernel
theorem d_M_goBack_66 : decode b_M_goBack 66 = .ok (.laload, 1) := by decide +kernel
theorem d_M_goBack_67 : decode b_M_goBack 67 = .ok (.lastore, 1) := by decide +kernel
theorem d_M_goBack_68 : decode b_M_goBack 68 = .ok (.iinc 2 1, 3) := by decide +kernel
theorem d_M_goBack_71 : decode b_M_goBack 71 = .ok (.goto (-28), 3) := by decide +kernel
theorem d_M_goBack_74 : decode b_M_goBack 74 = .ok (.return_, 1) := by decide +kernel
