/-! what stands at each place of the code (printed by program) -/
theorem d_X_init_0 : decode b_X_init 0 = .ok (.aload_n 0, 1) := by decide +kernel
theorem d_X_init_1 : decode b_X_init 1 = .ok (.invokespecial 1, 3) := by decide +kernel
theorem d_X_init_4 : decode b_X_init 4 = .ok (.aload_n 0, 1) := by decide +kernel
theorem d_X_init_5 : decode b_X_init 5 = .ok (.new 7, 3) := by decide +kernel
theorem d_X_init_8 : decode b_X_init 8 = .ok (.dup, 1) := by decide +kernel
theorem d_X_init_9 : decode b_X_init 9 = .ok (.invokespecial 9, 3) := by decide +kernel
theorem d_X_init_12 : decode b_X_init 12 = .ok (.putfield 10, 3) := by decide +kernel
theorem d_X_init_15 : decode b_X_init 15 = .ok (.aload_n 0, 1) := by decide +kernel
theorem d_X_init_16 : decode b_X_init 16 = .ok (.new 16, 3) := by decide +kernel
theorem d_X_init_19 : decode b_X_init 19 = .ok (.dup, 1) := by decide +kernel
theorem d_X_init_20 : decode b_X_init 20 = .ok (.invokespecial 18, 3) := by decide +kernel
theorem d_X_init_23 : decode b_X_init 23 = .ok (.putfield 19, 3) := by decide +kernel
theorem d_X_init_26 : decode b_X_init 26 = .ok (.aload_n 0, 1) := by decide +kernel
theorem d_X_init_27 : decode b_X_init 27 = .ok (.iconst 4, 1) := by decide +kernel
theorem d_X_init_28 : decode b_X_init 28 = .ok (.anewarray 7, 3) := by decide +kernel
theorem d_X_init_31 : decode b_X_init 31 = .ok (.putfield 23, 3) := by decide +kernel
theorem d_X_init_34 : decode b_X_init 34 = .ok (.return_, 1) := by decide +kernel
theorem d_X_shape_0 : decode b_X_shape 0 = .ok (.iload_n 1, 1) := by decide +kernel
theorem d_X_shape_1 : decode b_X_shape 1 = .ok (.iconst 2, 1) := by decide +kernel
theorem d_X_shape_2 : decode b_X_shape 2 = .ok (.bipush 32, 2) := by decide +kernel
theorem d_X_shape_4 : decode b_X_shape 4 = .ok (.invokestatic 27, 3) := by decide +kernel
theorem d_X_shape_7 : decode b_X_shape 7 = .ok (.ifCond .eq 21, 3) := by decide +kernel
theorem d_X_shape_10 : decode b_X_shape 10 = .ok (.iload_n 2, 1) := by decide +kernel
theorem d_X_shape_11 : decode b_X_shape 11 = .ok (.iconst 0, 1) := by decide +kernel
theorem d_X_shape_12 : decode b_X_shape 12 = .ok (.iconst 1, 1) := by decide +kernel
theorem d_X_shape_13 : decode b_X_shape 13 = .ok (.invokestatic 27, 3) := by decide +kernel
theorem d_X_shape_16 : decode b_X_shape 16 = .ok (.ifCond .eq 12, 3) := by decide +kernel
theorem d_X_shape_19 : decode b_X_shape 19 = .ok (.iload_n 3, 1) := by decide +kernel
theorem d_X_shape_20 : decode b_X_shape 20 = .ok (.iconst 0, 1) := by decide +kernel
theorem d_X_shape_21 : decode b_X_shape 21 = .ok (.iconst 1, 1) := by decide +kernel
theorem d_X_shape_22 : decode b_X_shape 22 = .ok (.invokestatic 27, 3) := by decide +kernel
theorem d_X_shape_25 : decode b_X_shape 25 = .ok (.ifCond .ne 13, 3) := by decide +kernel
theorem d_X_shape_28 : decode b_X_shape 28 = .ok (.new 31, 3) := by decide +kernel
theorem d_X_shape_31 : decode b_X_shape 31 = .ok (.dup, 1) := by decide +kernel
theorem d_X_shape_32 : decode b_X_shape 32 = .ok (.ldc 33, 2) := by decide +kernel
theorem d_X_shape_34 : decode b_X_shape 34 = .ok (.invokespecial 35, 3) := by decide +kernel
theorem d_X_shape_37 : decode b_X_shape 37 = .ok (.athrow, 1) := by decide +kernel
theorem d_X_shape_38 : decode b_X_shape 38 = .ok (.aload_n 0, 1) := by decide +kernel
theorem d_X_shape_39 : decode b_X_shape 39 = .ok (.getfield 10, 3) := by decide +kernel
theorem d_X_shape_42 : decode b_X_shape 42 = .ok (.getfield 38, 3) := by decide +kernel
theorem d_X_shape_45 : decode b_X_shape 45 = .ok (.iload_n 1, 1) := by decide +kernel
theorem d_X_shape_46 : decode b_X_shape 46 = .ok (.iload_n 2, 1) := by decide +kernel
theorem d_X_shape_47 : decode b_X_shape 47 = .ok (.iload_n 3, 1) := by decide +kernel
theorem d_X_shape_48 : decode b_X_shape 48 = .ok (.invokevirtual 42, 3) := by decide +kernel
theorem d_X_shape_51 : decode b_X_shape 51 = .ok (.aload_n 0, 1) := by decide +kernel
theorem d_X_shape_52 : decode b_X_shape 52 = .ok (.getfield 10, 3) := by decide +kernel
theorem d_X_shape_55 : decode b_X_shape 55 = .ok (.getfield 48, 3) := by decide +kernel
theorem d_X_shape_58 : decode b_X_shape 58 = .ok (.aload_n 0, 1) := by decide +kernel
theorem d_X_shape_59 : decode b_X_shape 59 = .ok (.getfield 10, 3) := by decide +kernel
theorem d_X_shape_62 : decode b_X_shape 62 = .ok (.getfield 38, 3) := by decide +kernel
theorem d_X_shape_65 : decode b_X_shape 65 = .ok (.invokevirtual 52, 3) := by decide +kernel
theorem d_X_shape_68 : decode b_X_shape 68 = .ok (.return_, 1) := by decide +kernel
theorem d_X_gas_0 : decode b_X_gas 0 = .ok (.iload_n 1, 1) := by decide +kernel
theorem d_X_gas_1 : decode b_X_gas 1 = .ok (.iconst 0, 1) := by decide +kernel
theorem d_X_gas_2 : decode b_X_gas 2 = .ok (.iconst 2, 1) := by decide +kernel
theorem d_X_gas_3 : decode b_X_gas 3 = .ok (.invokestatic 27, 3) := by decide +kernel
theorem d_X_gas_6 : decode b_X_gas 6 = .ok (.ifCond .ne 13, 3) := by decide +kernel
theorem d_X_gas_9 : decode b_X_gas 9 = .ok (.new 31, 3) := by decide +kernel
theorem d_X_gas_12 : decode b_X_gas 12 = .ok (.dup, 1) := by decide +kernel
theorem d_X_gas_13 : decode b_X_gas 13 = .ok (.ldc 57, 2) := by decide +kernel
theorem d_X_gas_15 : decode b_X_gas 15 = .ok (.invokespecial 35, 3) := by decide +kernel
theorem d_X_gas_18 : decode b_X_gas 18 = .ok (.athrow, 1) := by decide +kernel
theorem d_X_gas_19 : decode b_X_gas 19 = .ok (.aload_n 0, 1) := by decide +kernel
theorem d_X_gas_20 : decode b_X_gas 20 = .ok (.getfield 10, 3) := by decide +kernel
theorem d_X_gas_23 : decode b_X_gas 23 = .ok (.getfield 38, 3) := by decide +kernel
theorem d_X_gas_26 : decode b_X_gas 26 = .ok (.getfield 59, 3) := by decide +kernel
theorem d_X_gas_29 : decode b_X_gas 29 = .ok (.iload_n 1, 1) := by decide +kernel
theorem d_X_gas_30 : decode b_X_gas 30 = .ok (.putfield 63, 3) := by decide +kernel
theorem d_X_gas_33 : decode b_X_gas 33 = .ok (.aload_n 0, 1) := by decide +kernel
theorem d_X_gas_34 : decode b_X_gas 34 = .ok (.getfield 10, 3) := by decide +kernel
theorem d_X_gas_37 : decode b_X_gas 37 = .ok (.getfield 48, 3) := by decide +kernel
theorem d_X_gas_40 : decode b_X_gas 40 = .ok (.iconst 1, 1) := by decide +kernel
theorem d_X_gas_41 : decode b_X_gas 41 = .ok (.iload_n 1, 1) := by decide +kernel
theorem d_X_gas_42 : decode b_X_gas 42 = .ok (.iconst 0, 1) := by decide +kernel
theorem d_X_gas_43 : decode b_X_gas 43 = .ok (.iconst 0, 1) := by decide +kernel
theorem d_X_gas_44 : decode b_X_gas 44 = .ok (.iconst 0, 1) := by decide +kernel
theorem d_X_gas_45 : decode b_X_gas 45 = .ok (.iconst 0, 1) := by decide +kernel
theorem d_X_gas_46 : decode b_X_gas 46 = .ok (.invokevirtual 69, 3) := by decide +kernel
theorem d_X_gas_49 : decode b_X_gas 49 = .ok (.return_, 1) := by decide +kernel
theorem d_X_cell_0 : decode b_X_cell 0 = .ok (.aload_n 0, 1) := by decide +kernel
theorem d_X_cell_1 : decode b_X_cell 1 = .ok (.iload_n 1, 1) := by decide +kernel
theorem d_X_cell_2 : decode b_X_cell 2 = .ok (.invokevirtual 73, 3) := by decide +kernel
theorem d_X_cell_5 : decode b_X_cell 5 = .ok (.iload_n 2, 1) := by decide +kernel
theorem d_X_cell_6 : decode b_X_cell 6 = .ok (.iconst 1, 1) := by decide +kernel
theorem d_X_cell_7 : decode b_X_cell 7 = .ok (.ldc 77, 2) := by decide +kernel
theorem d_X_cell_9 : decode b_X_cell 9 = .ok (.invokestatic 27, 3) := by decide +kernel
theorem d_X_cell_12 : decode b_X_cell 12 = .ok (.ifCond .eq 35, 3) := by decide +kernel
theorem d_X_cell_15 : decode b_X_cell 15 = .ok (.iload_n 3, 1) := by decide +kernel
theorem d_X_cell_16 : decode b_X_cell 16 = .ok (.ldc 78, 2) := by decide +kernel
theorem d_X_cell_18 : decode b_X_cell 18 = .ok (.ldc 79, 2) := by decide +kernel
theorem d_X_cell_20 : decode b_X_cell 20 = .ok (.invokestatic 27, 3) := by decide +kernel
theorem d_X_cell_23 : decode b_X_cell 23 = .ok (.ifCond .eq 24, 3) := by decide +kernel
theorem d_X_cell_26 : decode b_X_cell 26 = .ok (.iload 4, 2) := by decide +kernel
theorem d_X_cell_28 : decode b_X_cell 28 = .ok (.iconst 0, 1) := by decide +kernel
theorem d_X_cell_29 : decode b_X_cell 29 = .ok (.ldc 80, 2) := by decide +kernel
theorem d_X_cell_31 : decode b_X_cell 31 = .ok (.invokestatic 27, 3) := by decide +kernel
theorem d_X_cell_34 : decode b_X_cell 34 = .ok (.ifCond .eq 13, 3) := by decide +kernel
theorem d_X_cell_37 : decode b_X_cell 37 = .ok (.iload 5, 2) := by decide +kernel
theorem d_X_cell_39 : decode b_X_cell 39 = .ok (.iconst 0, 1) := by decide +kernel
theorem d_X_cell_40 : decode b_X_cell 40 = .ok (.iload_n 2, 1) := by decide +kernel
theorem d_X_cell_41 : decode b_X_cell 41 = .ok (.invokestatic 27, 3) := by decide +kernel
theorem d_X_cell_44 : decode b_X_cell 44 = .ok (.ifCond .ne 13, 3) := by decide +kernel
theorem d_X_cell_47 : decode b_X_cell 47 = .ok (.new 31, 3) := by decide +kernel
theorem d_X_cell_50 : decode b_X_cell 50 = .ok (.dup, 1) := by decide +kernel
theorem d_X_cell_51 : decode b_X_cell 51 = .ok (.ldc 81, 2) := by decide +kernel
theorem d_X_cell_53 : decode b_X_cell 53 = .ok (.invokespecial 35, 3) := by decide +kernel
theorem d_X_cell_56 : decode b_X_cell 56 = .ok (.athrow, 1) := by decide +kernel
theorem d_X_cell_57 : decode b_X_cell 57 = .ok (.iload_n 2, 1) := by decide +kernel
theorem d_X_cell_58 : decode b_X_cell 58 = .ok (.i2l, 1) := by decide +kernel
theorem d_X_cell_59 : decode b_X_cell 59 = .ok (.iload_n 3, 1) := by decide +kernel
theorem d_X_cell_60 : decode b_X_cell 60 = .ok (.i2l, 1) := by decide +kernel
theorem d_X_cell_61 : decode b_X_cell 61 = .ok (.iload 4, 2) := by decide +kernel
theorem d_X_cell_63 : decode b_X_cell 63 = .ok (.i2l, 1) := by decide +kernel
theorem d_X_cell_64 : decode b_X_cell 64 = .ok (.invokestatic 83, 3) := by decide +kernel
theorem d_X_cell_67 : decode b_X_cell 67 = .ok (.lconst 0, 1) := by decide +kernel
theorem d_X_cell_68 : decode b_X_cell 68 = .ok (.lcmp, 1) := by decide +kernel
theorem d_X_cell_69 : decode b_X_cell 69 = .ok (.ifCond .ge 13, 3) := by decide +kernel
theorem d_X_cell_72 : decode b_X_cell 72 = .ok (.new 87, 3) := by decide +kernel
theorem d_X_cell_75 : decode b_X_cell 75 = .ok (.dup, 1) := by decide +kernel
theorem d_X_cell_76 : decode b_X_cell 76 = .ok (.ldc 89, 2) := by decide +kernel
theorem d_X_cell_78 : decode b_X_cell 78 = .ok (.invokespecial 91, 3) := by decide +kernel
theorem d_X_cell_81 : decode b_X_cell 81 = .ok (.athrow, 1) := by decide +kernel
theorem d_X_cell_82 : decode b_X_cell 82 = .ok (.aload_n 0, 1) := by decide +kernel
theorem d_X_cell_83 : decode b_X_cell 83 = .ok (.getfield 10, 3) := by decide +kernel
theorem d_X_cell_86 : decode b_X_cell 86 = .ok (.getfield 38, 3) := by decide +kernel
theorem d_X_cell_89 : decode b_X_cell 89 = .ok (.iload_n 1, 1) := by decide +kernel
theorem d_X_cell_90 : decode b_X_cell 90 = .ok (.iload_n 2, 1) := by decide +kernel
theorem d_X_cell_91 : decode b_X_cell 91 = .ok (.iload_n 3, 1) := by decide +kernel
theorem d_X_cell_92 : decode b_X_cell 92 = .ok (.iload 4, 2) := by decide +kernel
theorem d_X_cell_94 : decode b_X_cell 94 = .ok (.iload 5, 2) := by decide +kernel
theorem d_X_cell_96 : decode b_X_cell 96 = .ok (.invokevirtual 92, 3) := by decide +kernel
theorem d_X_cell_99 : decode b_X_cell 99 = .ok (.aload_n 0, 1) := by decide +kernel
theorem d_X_cell_100 : decode b_X_cell 100 = .ok (.getfield 10, 3) := by decide +kernel
theorem d_X_cell_103 : decode b_X_cell 103 = .ok (.getfield 48, 3) := by decide +kernel
theorem d_X_cell_106 : decode b_X_cell 106 = .ok (.iconst 0, 1) := by decide +kernel
theorem d_X_cell_107 : decode b_X_cell 107 = .ok (.iload_n 1, 1) := by decide +kernel
theorem d_X_cell_108 : decode b_X_cell 108 = .ok (.iload_n 2, 1) := by decide +kernel
theorem d_X_cell_109 : decode b_X_cell 109 = .ok (.iload_n 3, 1) := by decide +kernel
theorem d_X_cell_110 : decode b_X_cell 110 = .ok (.iload 4, 2) := by decide +kernel
theorem d_X_cell_112 : decode b_X_cell 112 = .ok (.iload 5, 2) := by decide +kernel
theorem d_X_cell_114 : decode b_X_cell 114 = .ok (.invokevirtual 69, 3) := by decide +kernel
theorem d_X_cell_117 : decode b_X_cell 117 = .ok (.return_, 1) := by decide +kernel
theorem d_X_ignition_0 : decode b_X_ignition 0 = .ok (.iload_n 1, 1) := by decide +kernel
theorem d_X_ignition_1 : decode b_X_ignition 1 = .ok (.iconst 0, 1) := by decide +kernel
theorem d_X_ignition_2 : decode b_X_ignition 2 = .ok (.ldc 96, 2) := by decide +kernel
theorem d_X_ignition_4 : decode b_X_ignition 4 = .ok (.invokestatic 27, 3) := by decide +kernel
theorem d_X_ignition_7 : decode b_X_ignition 7 = .ok (.ifCond .eq 24, 3) := by decide +kernel
theorem d_X_ignition_10 : decode b_X_ignition 10 = .ok (.iload_n 2, 1) := by decide +kernel
theorem d_X_ignition_11 : decode b_X_ignition 11 = .ok (.iconst 0, 1) := by decide +kernel
theorem d_X_ignition_12 : decode b_X_ignition 12 = .ok (.bipush 100, 2) := by decide +kernel
theorem d_X_ignition_14 : decode b_X_ignition 14 = .ok (.invokestatic 27, 3) := by decide +kernel
theorem d_X_ignition_17 : decode b_X_ignition 17 = .ok (.ifCond .eq 14, 3) := by decide +kernel
theorem d_X_ignition_20 : decode b_X_ignition 20 = .ok (.iload_n 3, 1) := by decide +kernel
theorem d_X_ignition_21 : decode b_X_ignition 21 = .ok (.iconst 0, 1) := by decide +kernel
theorem d_X_ignition_22 : decode b_X_ignition 22 = .ok (.sipush 1000, 3) := by decide +kernel
theorem d_X_ignition_25 : decode b_X_ignition 25 = .ok (.invokestatic 27, 3) := by decide +kernel
theorem d_X_ignition_28 : decode b_X_ignition 28 = .ok (.ifCond .ne 13, 3) := by decide +kernel
theorem d_X_ignition_31 : decode b_X_ignition 31 = .ok (.new 31, 3) := by decide +kernel
theorem d_X_ignition_34 : decode b_X_ignition 34 = .ok (.dup, 1) := by decide +kernel
theorem d_X_ignition_35 : decode b_X_ignition 35 = .ok (.ldc 97, 2) := by decide +kernel
theorem d_X_ignition_37 : decode b_X_ignition 37 = .ok (.invokespecial 35, 3) := by decide +kernel
theorem d_X_ignition_40 : decode b_X_ignition 40 = .ok (.athrow, 1) := by decide +kernel
theorem d_X_ignition_41 : decode b_X_ignition 41 = .ok (.aload_n 0, 1) := by decide +kernel
theorem d_X_ignition_42 : decode b_X_ignition 42 = .ok (.getfield 10, 3) := by decide +kernel
theorem d_X_ignition_45 : decode b_X_ignition 45 = .ok (.getfield 38, 3) := by decide +kernel
theorem d_X_ignition_48 : decode b_X_ignition 48 = .ok (.getfield 59, 3) := by decide +kernel
theorem d_X_ignition_51 : decode b_X_ignition 51 = .ok (.iload_n 1, 1) := by decide +kernel
theorem d_X_ignition_52 : decode b_X_ignition 52 = .ok (.iload_n 2, 1) := by decide +kernel
theorem d_X_ignition_53 : decode b_X_ignition 53 = .ok (.iload_n 3, 1) := by decide +kernel
theorem d_X_ignition_54 : decode b_X_ignition 54 = .ok (.invokevirtual 99, 3) := by decide +kernel
theorem d_X_ignition_57 : decode b_X_ignition 57 = .ok (.aload_n 0, 1) := by decide +kernel
theorem d_X_ignition_58 : decode b_X_ignition 58 = .ok (.getfield 10, 3) := by decide +kernel
theorem d_X_ignition_61 : decode b_X_ignition 61 = .ok (.getfield 48, 3) := by decide +kernel
theorem d_X_ignition_64 : decode b_X_ignition 64 = .ok (.iconst 2, 1) := by decide +kernel
theorem d_X_ignition_65 : decode b_X_ignition 65 = .ok (.iload_n 1, 1) := by decide +kernel
theorem d_X_ignition_66 : decode b_X_ignition 66 = .ok (.iload_n 2, 1) := by decide +kernel
theorem d_X_ignition_67 : decode b_X_ignition 67 = .ok (.iload_n 3, 1) := by decide +kernel
theorem d_X_ignition_68 : decode b_X_ignition 68 = .ok (.iconst 0, 1) := by decide +kernel
theorem d_X_ignition_69 : decode b_X_ignition 69 = .ok (.iconst 0, 1) := by decide +kernel
theorem d_X_ignition_70 : decode b_X_ignition 70 = .ok (.invokevirtual 69, 3) := by decide +kernel
theorem d_X_ignition_73 : decode b_X_ignition 73 = .ok (.return_, 1) := by decide +kernel
theorem d_X_step_0 : decode b_X_step 0 = .ok (.iload_n 1, 1) := by decide +kernel
theorem d_X_step_1 : decode b_X_step 1 = .ok (.iconst 1, 1) := by decide +kernel
theorem d_X_step_2 : decode b_X_step 2 = .ok (.sipush 400, 3) := by decide +kernel
theorem d_X_step_5 : decode b_X_step 5 = .ok (.invokestatic 27, 3) := by decide +kernel
theorem d_X_step_8 : decode b_X_step 8 = .ok (.ifCond .eq 13, 3) := by decide +kernel
theorem d_X_step_11 : decode b_X_step 11 = .ok (.iload_n 2, 1) := by decide +kernel
theorem d_X_step_12 : decode b_X_step 12 = .ok (.iconst 1, 1) := by decide +kernel
theorem d_X_step_13 : decode b_X_step 13 = .ok (.bipush 50, 2) := by decide +kernel
theorem d_X_step_15 : decode b_X_step 15 = .ok (.invokestatic 27, 3) := by decide +kernel
theorem d_X_step_18 : decode b_X_step 18 = .ok (.ifCond .ne 13, 3) := by decide +kernel
theorem d_X_step_21 : decode b_X_step 21 = .ok (.new 31, 3) := by decide +kernel
theorem d_X_step_24 : decode b_X_step 24 = .ok (.dup, 1) := by decide +kernel
theorem d_X_step_25 : decode b_X_step 25 = .ok (.ldc 102, 2) := by decide +kernel
theorem d_X_step_27 : decode b_X_step 27 = .ok (.invokespecial 35, 3) := by decide +kernel
theorem d_X_step_30 : decode b_X_step 30 = .ok (.athrow, 1) := by decide +kernel
theorem d_X_step_31 : decode b_X_step 31 = .ok (.aload_n 0, 1) := by decide +kernel
theorem d_X_step_32 : decode b_X_step 32 = .ok (.getfield 10, 3) := by decide +kernel
theorem d_X_step_35 : decode b_X_step 35 = .ok (.getfield 38, 3) := by decide +kernel
theorem d_X_step_38 : decode b_X_step 38 = .ok (.getfield 104, 3) := by decide +kernel
theorem d_X_step_41 : decode b_X_step 41 = .ok (.iload_n 2, 1) := by decide +kernel
theorem d_X_step_42 : decode b_X_step 42 = .ok (.iadd, 1) := by decide +kernel
theorem d_X_step_43 : decode b_X_step 43 = .ok (.sipush 300, 3) := by decide +kernel
theorem d_X_step_46 : decode b_X_step 46 = .ok (.if_icmp .le 13, 3) := by decide +kernel
theorem d_X_step_49 : decode b_X_step 49 = .ok (.new 87, 3) := by decide +kernel
theorem d_X_step_52 : decode b_X_step 52 = .ok (.dup, 1) := by decide +kernel
theorem d_X_step_53 : decode b_X_step 53 = .ok (.ldc 107, 2) := by decide +kernel
theorem d_X_step_55 : decode b_X_step 55 = .ok (.invokespecial 91, 3) := by decide +kernel
theorem d_X_step_58 : decode b_X_step 58 = .ok (.athrow, 1) := by decide +kernel
theorem d_X_step_59 : decode b_X_step 59 = .ok (.iconst 0, 1) := by decide +kernel
theorem d_X_step_60 : decode b_X_step 60 = .ok (.istore_n 3, 1) := by decide +kernel
theorem d_X_step_61 : decode b_X_step 61 = .ok (.iload_n 3, 1) := by decide +kernel
theorem d_X_step_62 : decode b_X_step 62 = .ok (.iload_n 2, 1) := by decide +kernel
theorem d_X_step_63 : decode b_X_step 63 = .ok (.if_icmp .ge 27, 3) := by decide +kernel
theorem d_X_step_66 : decode b_X_step 66 = .ok (.aload_n 0, 1) := by decide +kernel
theorem d_X_step_67 : decode b_X_step 67 = .ok (.getfield 19, 3) := by decide +kernel
theorem d_X_step_70 : decode b_X_step 70 = .ok (.aload_n 0, 1) := by decide +kernel
theorem d_X_step_71 : decode b_X_step 71 = .ok (.getfield 10, 3) := by decide +kernel
theorem d_X_step_74 : decode b_X_step 74 = .ok (.getfield 38, 3) := by decide +kernel
theorem d_X_step_77 : decode b_X_step 77 = .ok (.iload_n 1, 1) := by decide +kernel
theorem d_X_step_78 : decode b_X_step 78 = .ok (.invokevirtual 109, 3) := by decide +kernel
theorem d_X_step_81 : decode b_X_step 81 = .ok (.ifCond .eq 9, 3) := by decide +kernel
theorem d_X_step_84 : decode b_X_step 84 = .ok (.iinc 3 1, 3) := by decide +kernel
theorem d_X_step_87 : decode b_X_step 87 = .ok (.goto (-26), 3) := by decide +kernel
theorem d_X_step_90 : decode b_X_step 90 = .ok (.iload_n 3, 1) := by decide +kernel
theorem d_X_step_91 : decode b_X_step 91 = .ok (.ifCond .le 19, 3) := by decide +kernel
theorem d_X_step_94 : decode b_X_step 94 = .ok (.aload_n 0, 1) := by decide +kernel
theorem d_X_step_95 : decode b_X_step 95 = .ok (.getfield 10, 3) := by decide +kernel
theorem d_X_step_98 : decode b_X_step 98 = .ok (.getfield 48, 3) := by decide +kernel
theorem d_X_step_101 : decode b_X_step 101 = .ok (.iconst 3, 1) := by decide +kernel
theorem d_X_step_102 : decode b_X_step 102 = .ok (.iload_n 1, 1) := by decide +kernel
theorem d_X_step_103 : decode b_X_step 103 = .ok (.iload_n 3, 1) := by decide +kernel
theorem d_X_step_104 : decode b_X_step 104 = .ok (.iconst 0, 1) := by decide +kernel
theorem d_X_step_105 : decode b_X_step 105 = .ok (.iconst 0, 1) := by decide +kernel
theorem d_X_step_106 : decode b_X_step 106 = .ok (.iconst 0, 1) := by decide +kernel
theorem d_X_step_107 : decode b_X_step 107 = .ok (.invokevirtual 69, 3) := by decide +kernel
theorem d_X_step_110 : decode b_X_step 110 = .ok (.iload_n 3, 1) := by decide +kernel
theorem d_X_step_111 : decode b_X_step 111 = .ok (.ireturn, 1) := by decide +kernel
theorem d_X_tube_0 : decode b_X_tube 0 = .ok (.aload_n 0, 1) := by decide +kernel
theorem d_X_tube_1 : decode b_X_tube 1 = .ok (.iload_n 1, 1) := by decide +kernel
theorem d_X_tube_2 : decode b_X_tube 2 = .ok (.invokevirtual 73, 3) := by decide +kernel
theorem d_X_tube_5 : decode b_X_tube 5 = .ok (.iload_n 2, 1) := by decide +kernel
theorem d_X_tube_6 : decode b_X_tube 6 = .ok (.bipush 7, 2) := by decide +kernel
theorem d_X_tube_8 : decode b_X_tube 8 = .ok (.invokestatic 113, 3) := by decide +kernel
theorem d_X_tube_11 : decode b_X_tube 11 = .ok (.aload_n 0, 1) := by decide +kernel
theorem d_X_tube_12 : decode b_X_tube 12 = .ok (.getfield 10, 3) := by decide +kernel
theorem d_X_tube_15 : decode b_X_tube 15 = .ok (.getfield 38, 3) := by decide +kernel
theorem d_X_tube_18 : decode b_X_tube 18 = .ok (.iload_n 1, 1) := by decide +kernel
theorem d_X_tube_19 : decode b_X_tube 19 = .ok (.iload_n 2, 1) := by decide +kernel
theorem d_X_tube_20 : decode b_X_tube 20 = .ok (.invokevirtual 117, 3) := by decide +kernel
theorem d_X_tube_23 : decode b_X_tube 23 = .ok (.invokestatic 121, 3) := by decide +kernel
theorem d_X_tube_26 : decode b_X_tube 26 = .ok (.ireturn, 1) := by decide +kernel
theorem d_X_anew_0 : decode b_X_anew 0 = .ok (.aload_n 0, 1) := by decide +kernel
theorem d_X_anew_1 : decode b_X_anew 1 = .ok (.iload_n 1, 1) := by decide +kernel
theorem d_X_anew_2 : decode b_X_anew 2 = .ok (.invokevirtual 73, 3) := by decide +kernel
theorem d_X_anew_5 : decode b_X_anew 5 = .ok (.iload_n 2, 1) := by decide +kernel
theorem d_X_anew_6 : decode b_X_anew 6 = .ok (.iconst 3, 1) := by decide +kernel
theorem d_X_anew_7 : decode b_X_anew 7 = .ok (.invokestatic 113, 3) := by decide +kernel
theorem d_X_anew_10 : decode b_X_anew 10 = .ok (.aload_n 0, 1) := by decide +kernel
theorem d_X_anew_11 : decode b_X_anew 11 = .ok (.getfield 10, 3) := by decide +kernel
theorem d_X_anew_14 : decode b_X_anew 14 = .ok (.getfield 48, 3) := by decide +kernel
theorem d_X_anew_17 : decode b_X_anew 17 = .ok (.aload_n 0, 1) := by decide +kernel
theorem d_X_anew_18 : decode b_X_anew 18 = .ok (.getfield 19, 3) := by decide +kernel
theorem d_X_anew_21 : decode b_X_anew 21 = .ok (.invokevirtual 125, 3) := by decide +kernel
theorem d_X_anew_24 : decode b_X_anew 24 = .ok (.aload_n 0, 1) := by decide +kernel
theorem d_X_anew_25 : decode b_X_anew 25 = .ok (.getfield 10, 3) := by decide +kernel
theorem d_X_anew_28 : decode b_X_anew 28 = .ok (.getfield 48, 3) := by decide +kernel
theorem d_X_anew_31 : decode b_X_anew 31 = .ok (.getfield 129, 3) := by decide +kernel
theorem d_X_anew_34 : decode b_X_anew 34 = .ok (.getfield 132, 3) := by decide +kernel
theorem d_X_anew_37 : decode b_X_anew 37 = .ok (.iload_n 2, 1) := by decide +kernel
theorem d_X_anew_38 : decode b_X_anew 38 = .ok (.aaload, 1) := by decide +kernel
theorem d_X_anew_39 : decode b_X_anew 39 = .ok (.iload_n 1, 1) := by decide +kernel
theorem d_X_anew_40 : decode b_X_anew 40 = .ok (.laload, 1) := by decide +kernel
theorem d_X_anew_41 : decode b_X_anew 41 = .ok (.invokestatic 121, 3) := by decide +kernel
theorem d_X_anew_44 : decode b_X_anew 44 = .ok (.ireturn, 1) := by decide +kernel
theorem d_X_isKept_0 : decode b_X_isKept 0 = .ok (.iload_n 1, 1) := by decide +kernel
theorem d_X_isKept_1 : decode b_X_isKept 1 = .ok (.iconst 3, 1) := by decide +kernel
theorem d_X_isKept_2 : decode b_X_isKept 2 = .ok (.invokestatic 113, 3) := by decide +kernel
theorem d_X_isKept_5 : decode b_X_isKept 5 = .ok (.aload_n 0, 1) := by decide +kernel
theorem d_X_isKept_6 : decode b_X_isKept 6 = .ok (.getfield 10, 3) := by decide +kernel
theorem d_X_isKept_9 : decode b_X_isKept 9 = .ok (.getfield 38, 3) := by decide +kernel
theorem d_X_isKept_12 : decode b_X_isKept 12 = .ok (.iload_n 1, 1) := by decide +kernel
theorem d_X_isKept_13 : decode b_X_isKept 13 = .ok (.invokevirtual 147, 3) := by decide +kernel
theorem d_X_isKept_16 : decode b_X_isKept 16 = .ok (.ireturn, 1) := by decide +kernel
theorem d_X_steps_0 : decode b_X_steps 0 = .ok (.aload_n 0, 1) := by decide +kernel
theorem d_X_steps_1 : decode b_X_steps 1 = .ok (.getfield 10, 3) := by decide +kernel
theorem d_X_steps_4 : decode b_X_steps 4 = .ok (.getfield 38, 3) := by decide +kernel
theorem d_X_steps_7 : decode b_X_steps 7 = .ok (.getfield 104, 3) := by decide +kernel
theorem d_X_steps_10 : decode b_X_steps 10 = .ok (.ireturn, 1) := by decide +kernel
theorem d_X_front_0 : decode b_X_front 0 = .ok (.iload_n 1, 1) := by decide +kernel
theorem d_X_front_1 : decode b_X_front 1 = .ok (.iconst 0, 1) := by decide +kernel
theorem d_X_front_2 : decode b_X_front 2 = .ok (.iconst 2, 1) := by decide +kernel
theorem d_X_front_3 : decode b_X_front 3 = .ok (.invokestatic 27, 3) := by decide +kernel
theorem d_X_front_6 : decode b_X_front 6 = .ok (.ifCond .eq 38, 3) := by decide +kernel
theorem d_X_front_9 : decode b_X_front 9 = .ok (.iload_n 2, 1) := by decide +kernel
theorem d_X_front_10 : decode b_X_front 10 = .ok (.iconst 0, 1) := by decide +kernel
theorem d_X_front_11 : decode b_X_front 11 = .ok (.ldc 96, 2) := by decide +kernel
theorem d_X_front_13 : decode b_X_front 13 = .ok (.invokestatic 27, 3) := by decide +kernel
theorem d_X_front_16 : decode b_X_front 16 = .ok (.ifCond .eq 28, 3) := by decide +kernel
theorem d_X_front_19 : decode b_X_front 19 = .ok (.iload_n 3, 1) := by decide +kernel
theorem d_X_front_20 : decode b_X_front 20 = .ok (.sipush (-900), 3) := by decide +kernel
theorem d_X_front_23 : decode b_X_front 23 = .ok (.sipush 900, 3) := by decide +kernel
theorem d_X_front_26 : decode b_X_front 26 = .ok (.invokestatic 27, 3) := by decide +kernel
theorem d_X_front_29 : decode b_X_front 29 = .ok (.ifCond .eq 15, 3) := by decide +kernel
theorem d_X_front_32 : decode b_X_front 32 = .ok (.iload 4, 2) := by decide +kernel
theorem d_X_front_34 : decode b_X_front 34 = .ok (.iconst 1, 1) := by decide +kernel
theorem d_X_front_35 : decode b_X_front 35 = .ok (.sipush 900, 3) := by decide +kernel
theorem d_X_front_38 : decode b_X_front 38 = .ok (.invokestatic 27, 3) := by decide +kernel
theorem d_X_front_41 : decode b_X_front 41 = .ok (.ifCond .ne 13, 3) := by decide +kernel
theorem d_X_front_44 : decode b_X_front 44 = .ok (.new 31, 3) := by decide +kernel
theorem d_X_front_47 : decode b_X_front 47 = .ok (.dup, 1) := by decide +kernel
theorem d_X_front_48 : decode b_X_front 48 = .ok (.ldc 154, 2) := by decide +kernel
theorem d_X_front_50 : decode b_X_front 50 = .ok (.invokespecial 35, 3) := by decide +kernel
theorem d_X_front_53 : decode b_X_front 53 = .ok (.athrow, 1) := by decide +kernel
theorem d_X_front_54 : decode b_X_front 54 = .ok (.aload_n 0, 1) := by decide +kernel
theorem d_X_front_55 : decode b_X_front 55 = .ok (.getfield 10, 3) := by decide +kernel
theorem d_X_front_58 : decode b_X_front 58 = .ok (.getfield 156, 3) := by decide +kernel
theorem d_X_front_61 : decode b_X_front 61 = .ok (.getfield 160, 3) := by decide +kernel
theorem d_X_front_64 : decode b_X_front 64 = .ok (.bipush 8, 2) := by decide +kernel
theorem d_X_front_66 : decode b_X_front 66 = .ok (.if_icmp .lt 13, 3) := by decide +kernel
theorem d_X_front_69 : decode b_X_front 69 = .ok (.new 87, 3) := by decide +kernel
theorem d_X_front_72 : decode b_X_front 72 = .ok (.dup, 1) := by decide +kernel
theorem d_X_front_73 : decode b_X_front 73 = .ok (.ldc 165, 2) := by decide +kernel
theorem d_X_front_75 : decode b_X_front 75 = .ok (.invokespecial 91, 3) := by decide +kernel
theorem d_X_front_78 : decode b_X_front 78 = .ok (.athrow, 1) := by decide +kernel
theorem d_X_front_79 : decode b_X_front 79 = .ok (.aload_n 0, 1) := by decide +kernel
theorem d_X_front_80 : decode b_X_front 80 = .ok (.getfield 10, 3) := by decide +kernel
theorem d_X_front_83 : decode b_X_front 83 = .ok (.getfield 156, 3) := by decide +kernel
theorem d_X_front_86 : decode b_X_front 86 = .ok (.iload_n 2, 1) := by decide +kernel
theorem d_X_front_87 : decode b_X_front 87 = .ok (.invokevirtual 167, 3) := by decide +kernel
theorem d_X_front_90 : decode b_X_front 90 = .ok (.istore 5, 2) := by decide +kernel
theorem d_X_front_92 : decode b_X_front 92 = .ok (.aload_n 0, 1) := by decide +kernel
theorem d_X_front_93 : decode b_X_front 93 = .ok (.getfield 10, 3) := by decide +kernel
theorem d_X_front_96 : decode b_X_front 96 = .ok (.getfield 156, 3) := by decide +kernel
theorem d_X_front_99 : decode b_X_front 99 = .ok (.iload 5, 2) := by decide +kernel
theorem d_X_front_101 : decode b_X_front 101 = .ok (.iload_n 1, 1) := by decide +kernel
theorem d_X_front_102 : decode b_X_front 102 = .ok (.iload_n 2, 1) := by decide +kernel
theorem d_X_front_103 : decode b_X_front 103 = .ok (.iload_n 3, 1) := by decide +kernel
theorem d_X_front_104 : decode b_X_front 104 = .ok (.iload 4, 2) := by decide +kernel
theorem d_X_front_106 : decode b_X_front 106 = .ok (.invokevirtual 171, 3) := by decide +kernel
theorem d_X_front_109 : decode b_X_front 109 = .ok (.iload 5, 2) := by decide +kernel
theorem d_X_front_111 : decode b_X_front 111 = .ok (.ireturn, 1) := by decide +kernel
theorem d_X_tick_0 : decode b_X_tick 0 = .ok (.iload_n 1, 1) := by decide +kernel
theorem d_X_tick_1 : decode b_X_tick 1 = .ok (.invokestatic 174, 3) := by decide +kernel
theorem d_X_tick_4 : decode b_X_tick 4 = .ok (.iconst 0, 1) := by decide +kernel
theorem d_X_tick_5 : decode b_X_tick 5 = .ok (.istore_n 2, 1) := by decide +kernel
theorem d_X_tick_6 : decode b_X_tick 6 = .ok (.iload_n 2, 1) := by decide +kernel
theorem d_X_tick_7 : decode b_X_tick 7 = .ok (.iload_n 1, 1) := by decide +kernel
theorem d_X_tick_8 : decode b_X_tick 8 = .ok (.if_icmp .ge 29, 3) := by decide +kernel
theorem d_X_tick_11 : decode b_X_tick 11 = .ok (.aload_n 0, 1) := by decide +kernel
theorem d_X_tick_12 : decode b_X_tick 12 = .ok (.getfield 10, 3) := by decide +kernel
theorem d_X_tick_15 : decode b_X_tick 15 = .ok (.getfield 156, 3) := by decide +kernel
theorem d_X_tick_18 : decode b_X_tick 18 = .ok (.invokevirtual 177, 3) := by decide +kernel
theorem d_X_tick_21 : decode b_X_tick 21 = .ok (.aload_n 0, 1) := by decide +kernel
theorem d_X_tick_22 : decode b_X_tick 22 = .ok (.getfield 10, 3) := by decide +kernel
theorem d_X_tick_25 : decode b_X_tick 25 = .ok (.getfield 156, 3) := by decide +kernel
theorem d_X_tick_28 : decode b_X_tick 28 = .ok (.invokevirtual 180, 3) := by decide +kernel
theorem d_X_tick_31 : decode b_X_tick 31 = .ok (.iinc 2 1, 3) := by decide +kernel
theorem d_X_tick_34 : decode b_X_tick 34 = .ok (.goto (-28), 3) := by decide +kernel
theorem d_X_tick_37 : decode b_X_tick 37 = .ok (.aload_n 0, 1) := by decide +kernel
theorem d_X_tick_38 : decode b_X_tick 38 = .ok (.getfield 10, 3) := by decide +kernel
theorem d_X_tick_41 : decode b_X_tick 41 = .ok (.getfield 156, 3) := by decide +kernel
theorem d_X_tick_44 : decode b_X_tick 44 = .ok (.getfield 160, 3) := by decide +kernel
theorem d_X_tick_47 : decode b_X_tick 47 = .ok (.ireturn, 1) := by decide +kernel
theorem d_X_fronts_0 : decode b_X_fronts 0 = .ok (.aload_n 0, 1) := by decide +kernel
theorem d_X_fronts_1 : decode b_X_fronts 1 = .ok (.getfield 10, 3) := by decide +kernel
theorem d_X_fronts_4 : decode b_X_fronts 4 = .ok (.getfield 156, 3) := by decide +kernel
theorem d_X_fronts_7 : decode b_X_fronts 7 = .ok (.getfield 160, 3) := by decide +kernel
theorem d_X_fronts_10 : decode b_X_fronts 10 = .ok (.ireturn, 1) := by decide +kernel
theorem d_X_pipe_0 : decode b_X_pipe 0 = .ok (.iload_n 1, 1) := by decide +kernel
theorem d_X_pipe_1 : decode b_X_pipe 1 = .ok (.iconst 1, 1) := by decide +kernel
theorem d_X_pipe_2 : decode b_X_pipe 2 = .ok (.bipush 20, 2) := by decide +kernel
theorem d_X_pipe_4 : decode b_X_pipe 4 = .ok (.invokestatic 27, 3) := by decide +kernel
theorem d_X_pipe_7 : decode b_X_pipe 7 = .ok (.ifCond .eq 58, 3) := by decide +kernel
theorem d_X_pipe_10 : decode b_X_pipe 10 = .ok (.iload_n 2, 1) := by decide +kernel
theorem d_X_pipe_11 : decode b_X_pipe 11 = .ok (.iconst 1, 1) := by decide +kernel
theorem d_X_pipe_12 : decode b_X_pipe 12 = .ok (.bipush 50, 2) := by decide +kernel
theorem d_X_pipe_14 : decode b_X_pipe 14 = .ok (.invokestatic 27, 3) := by decide +kernel
theorem d_X_pipe_17 : decode b_X_pipe 17 = .ok (.ifCond .eq 48, 3) := by decide +kernel
theorem d_X_pipe_20 : decode b_X_pipe 20 = .ok (.iload_n 3, 1) := by decide +kernel
theorem d_X_pipe_21 : decode b_X_pipe 21 = .ok (.iconst 0, 1) := by decide +kernel
theorem d_X_pipe_22 : decode b_X_pipe 22 = .ok (.bipush 20, 2) := by decide +kernel
theorem d_X_pipe_24 : decode b_X_pipe 24 = .ok (.invokestatic 27, 3) := by decide +kernel
theorem d_X_pipe_27 : decode b_X_pipe 27 = .ok (.ifCond .eq 38, 3) := by decide +kernel
theorem d_X_pipe_30 : decode b_X_pipe 30 = .ok (.iload 4, 2) := by decide +kernel
theorem d_X_pipe_32 : decode b_X_pipe 32 = .ok (.iconst 1, 1) := by decide +kernel
theorem d_X_pipe_33 : decode b_X_pipe 33 = .ok (.bipush 50, 2) := by decide +kernel
theorem d_X_pipe_35 : decode b_X_pipe 35 = .ok (.invokestatic 27, 3) := by decide +kernel
theorem d_X_pipe_38 : decode b_X_pipe 38 = .ok (.ifCond .eq 27, 3) := by decide +kernel
theorem d_X_pipe_41 : decode b_X_pipe 41 = .ok (.iload 5, 2) := by decide +kernel
theorem d_X_pipe_43 : decode b_X_pipe 43 = .ok (.iconst 0, 1) := by decide +kernel
theorem d_X_pipe_44 : decode b_X_pipe 44 = .ok (.sipush 2000, 3) := by decide +kernel
theorem d_X_pipe_47 : decode b_X_pipe 47 = .ok (.invokestatic 27, 3) := by decide +kernel
theorem d_X_pipe_50 : decode b_X_pipe 50 = .ok (.ifCond .eq 15, 3) := by decide +kernel
theorem d_X_pipe_53 : decode b_X_pipe 53 = .ok (.iload 6, 2) := by decide +kernel
theorem d_X_pipe_55 : decode b_X_pipe 55 = .ok (.bipush (-100), 2) := by decide +kernel
theorem d_X_pipe_57 : decode b_X_pipe 57 = .ok (.bipush 100, 2) := by decide +kernel
theorem d_X_pipe_59 : decode b_X_pipe 59 = .ok (.invokestatic 27, 3) := by decide +kernel
theorem d_X_pipe_62 : decode b_X_pipe 62 = .ok (.ifCond .ne 13, 3) := by decide +kernel
theorem d_X_pipe_65 : decode b_X_pipe 65 = .ok (.new 31, 3) := by decide +kernel
theorem d_X_pipe_68 : decode b_X_pipe 68 = .ok (.dup, 1) := by decide +kernel
theorem d_X_pipe_69 : decode b_X_pipe 69 = .ok (.ldc 191, 2) := by decide +kernel
theorem d_X_pipe_71 : decode b_X_pipe 71 = .ok (.invokespecial 35, 3) := by decide +kernel
theorem d_X_pipe_74 : decode b_X_pipe 74 = .ok (.athrow, 1) := by decide +kernel
theorem d_X_pipe_75 : decode b_X_pipe 75 = .ok (.aload_n 0, 1) := by decide +kernel
theorem d_X_pipe_76 : decode b_X_pipe 76 = .ok (.getfield 10, 3) := by decide +kernel
theorem d_X_pipe_79 : decode b_X_pipe 79 = .ok (.getfield 193, 3) := by decide +kernel
theorem d_X_pipe_82 : decode b_X_pipe 82 = .ok (.iload_n 2, 1) := by decide +kernel
theorem d_X_pipe_83 : decode b_X_pipe 83 = .ok (.putfield 197, 3) := by decide +kernel
theorem d_X_pipe_86 : decode b_X_pipe 86 = .ok (.aload_n 0, 1) := by decide +kernel
theorem d_X_pipe_87 : decode b_X_pipe 87 = .ok (.getfield 10, 3) := by decide +kernel
theorem d_X_pipe_90 : decode b_X_pipe 90 = .ok (.getfield 193, 3) := by decide +kernel
theorem d_X_pipe_93 : decode b_X_pipe 93 = .ok (.iload_n 3, 1) := by decide +kernel
theorem d_X_pipe_94 : decode b_X_pipe 94 = .ok (.putfield 202, 3) := by decide +kernel
theorem d_X_pipe_97 : decode b_X_pipe 97 = .ok (.aload_n 0, 1) := by decide +kernel
theorem d_X_pipe_98 : decode b_X_pipe 98 = .ok (.getfield 10, 3) := by decide +kernel
theorem d_X_pipe_101 : decode b_X_pipe 101 = .ok (.getfield 193, 3) := by decide +kernel
theorem d_X_pipe_104 : decode b_X_pipe 104 = .ok (.iload 4, 2) := by decide +kernel
theorem d_X_pipe_106 : decode b_X_pipe 106 = .ok (.putfield 205, 3) := by decide +kernel
theorem d_X_pipe_109 : decode b_X_pipe 109 = .ok (.aload_n 0, 1) := by decide +kernel
theorem d_X_pipe_110 : decode b_X_pipe 110 = .ok (.getfield 10, 3) := by decide +kernel
theorem d_X_pipe_113 : decode b_X_pipe 113 = .ok (.getfield 193, 3) := by decide +kernel
theorem d_X_pipe_116 : decode b_X_pipe 116 = .ok (.iload_n 1, 1) := by decide +kernel
theorem d_X_pipe_117 : decode b_X_pipe 117 = .ok (.iload 5, 2) := by decide +kernel
theorem d_X_pipe_119 : decode b_X_pipe 119 = .ok (.iload 6, 2) := by decide +kernel
theorem d_X_pipe_121 : decode b_X_pipe 121 = .ok (.invokevirtual 208, 3) := by decide +kernel
theorem d_X_pipe_124 : decode b_X_pipe 124 = .ok (.return_, 1) := by decide +kernel
theorem d_X_valve_0 : decode b_X_valve 0 = .ok (.iload_n 1, 1) := by decide +kernel
theorem d_X_valve_1 : decode b_X_valve 1 = .ok (.iconst 0, 1) := by decide +kernel
theorem d_X_valve_2 : decode b_X_valve 2 = .ok (.bipush 100, 2) := by decide +kernel
theorem d_X_valve_4 : decode b_X_valve 4 = .ok (.invokestatic 27, 3) := by decide +kernel
theorem d_X_valve_7 : decode b_X_valve 7 = .ok (.ifCond .ne 13, 3) := by decide +kernel
theorem d_X_valve_10 : decode b_X_valve 10 = .ok (.new 31, 3) := by decide +kernel
theorem d_X_valve_13 : decode b_X_valve 13 = .ok (.dup, 1) := by decide +kernel
theorem d_X_valve_14 : decode b_X_valve 14 = .ok (.ldc 209, 2) := by decide +kernel
theorem d_X_valve_16 : decode b_X_valve 16 = .ok (.invokespecial 35, 3) := by decide +kernel
theorem d_X_valve_19 : decode b_X_valve 19 = .ok (.athrow, 1) := by decide +kernel
theorem d_X_valve_20 : decode b_X_valve 20 = .ok (.aload_n 0, 1) := by decide +kernel
theorem d_X_valve_21 : decode b_X_valve 21 = .ok (.invokevirtual 211, 3) := by decide +kernel
theorem d_X_valve_24 : decode b_X_valve 24 = .ok (.aload_n 0, 1) := by decide +kernel
theorem d_X_valve_25 : decode b_X_valve 25 = .ok (.getfield 10, 3) := by decide +kernel
theorem d_X_valve_28 : decode b_X_valve 28 = .ok (.getfield 193, 3) := by decide +kernel
theorem d_X_valve_31 : decode b_X_valve 31 = .ok (.getfield 214, 3) := by decide +kernel
theorem d_X_valve_34 : decode b_X_valve 34 = .ok (.istore_n 2, 1) := by decide +kernel
theorem d_X_valve_35 : decode b_X_valve 35 = .ok (.aload_n 0, 1) := by decide +kernel
theorem d_X_valve_36 : decode b_X_valve 36 = .ok (.getfield 10, 3) := by decide +kernel
theorem d_X_valve_39 : decode b_X_valve 39 = .ok (.getfield 193, 3) := by decide +kernel
theorem d_X_valve_42 : decode b_X_valve 42 = .ok (.iload_n 1, 1) := by decide +kernel
theorem d_X_valve_43 : decode b_X_valve 43 = .ok (.putfield 214, 3) := by decide +kernel
theorem d_X_valve_46 : decode b_X_valve 46 = .ok (.iload_n 2, 1) := by decide +kernel
theorem d_X_valve_47 : decode b_X_valve 47 = .ok (.ireturn, 1) := by decide +kernel
theorem d_X_flow_0 : decode b_X_flow 0 = .ok (.iload_n 1, 1) := by decide +kernel
theorem d_X_flow_1 : decode b_X_flow 1 = .ok (.invokestatic 174, 3) := by decide +kernel
theorem d_X_flow_4 : decode b_X_flow 4 = .ok (.aload_n 0, 1) := by decide +kernel
theorem d_X_flow_5 : decode b_X_flow 5 = .ok (.invokevirtual 211, 3) := by decide +kernel
theorem d_X_flow_8 : decode b_X_flow 8 = .ok (.iconst 0, 1) := by decide +kernel
theorem d_X_flow_9 : decode b_X_flow 9 = .ok (.istore_n 2, 1) := by decide +kernel
theorem d_X_flow_10 : decode b_X_flow 10 = .ok (.iload_n 2, 1) := by decide +kernel
theorem d_X_flow_11 : decode b_X_flow 11 = .ok (.iload_n 1, 1) := by decide +kernel
theorem d_X_flow_12 : decode b_X_flow 12 = .ok (.if_icmp .ge 22, 3) := by decide +kernel
theorem d_X_flow_15 : decode b_X_flow 15 = .ok (.aload_n 0, 1) := by decide +kernel
theorem d_X_flow_16 : decode b_X_flow 16 = .ok (.getfield 10, 3) := by decide +kernel
theorem d_X_flow_19 : decode b_X_flow 19 = .ok (.getfield 193, 3) := by decide +kernel
theorem d_X_flow_22 : decode b_X_flow 22 = .ok (.invokevirtual 222, 3) := by decide +kernel
theorem d_X_flow_25 : decode b_X_flow 25 = .ok (.ifCond .eq 9, 3) := by decide +kernel
theorem d_X_flow_28 : decode b_X_flow 28 = .ok (.iinc 2 1, 3) := by decide +kernel
theorem d_X_flow_31 : decode b_X_flow 31 = .ok (.goto (-21), 3) := by decide +kernel
theorem d_X_flow_34 : decode b_X_flow 34 = .ok (.iload_n 2, 1) := by decide +kernel
theorem d_X_flow_35 : decode b_X_flow 35 = .ok (.ireturn, 1) := by decide +kernel
theorem d_X_node_0 : decode b_X_node 0 = .ok (.iload_n 1, 1) := by decide +kernel
theorem d_X_node_1 : decode b_X_node 1 = .ok (.iconst 0, 1) := by decide +kernel
theorem d_X_node_2 : decode b_X_node 2 = .ok (.aload_n 0, 1) := by decide +kernel
theorem d_X_node_3 : decode b_X_node 3 = .ok (.getfield 10, 3) := by decide +kernel
theorem d_X_node_6 : decode b_X_node 6 = .ok (.getfield 193, 3) := by decide +kernel
theorem d_X_node_9 : decode b_X_node 9 = .ok (.getfield 226, 3) := by decide +kernel
theorem d_X_node_12 : decode b_X_node 12 = .ok (.iconst 1, 1) := by decide +kernel
theorem d_X_node_13 : decode b_X_node 13 = .ok (.isub, 1) := by decide +kernel
theorem d_X_node_14 : decode b_X_node 14 = .ok (.invokestatic 27, 3) := by decide +kernel
theorem d_X_node_17 : decode b_X_node 17 = .ok (.ifCond .ne 13, 3) := by decide +kernel
theorem d_X_node_20 : decode b_X_node 20 = .ok (.new 183, 3) := by decide +kernel
theorem d_X_node_23 : decode b_X_node 23 = .ok (.dup, 1) := by decide +kernel
theorem d_X_node_24 : decode b_X_node 24 = .ok (.ldc 229, 2) := by decide +kernel
theorem d_X_node_26 : decode b_X_node 26 = .ok (.invokespecial 187, 3) := by decide +kernel
theorem d_X_node_29 : decode b_X_node 29 = .ok (.athrow, 1) := by decide +kernel
theorem d_X_node_30 : decode b_X_node 30 = .ok (.iload_n 2, 1) := by decide +kernel
theorem d_X_node_31 : decode b_X_node 31 = .ok (.iconst 3, 1) := by decide +kernel
theorem d_X_node_32 : decode b_X_node 32 = .ok (.invokestatic 113, 3) := by decide +kernel
theorem d_X_node_35 : decode b_X_node 35 = .ok (.aload_n 0, 1) := by decide +kernel
theorem d_X_node_36 : decode b_X_node 36 = .ok (.getfield 10, 3) := by decide +kernel
theorem d_X_node_39 : decode b_X_node 39 = .ok (.getfield 193, 3) := by decide +kernel
theorem d_X_node_42 : decode b_X_node 42 = .ok (.iload_n 1, 1) := by decide +kernel
theorem d_X_node_43 : decode b_X_node 43 = .ok (.iload_n 2, 1) := by decide +kernel
theorem d_X_node_44 : decode b_X_node 44 = .ok (.invokevirtual 231, 3) := by decide +kernel
theorem d_X_node_47 : decode b_X_node 47 = .ok (.invokestatic 121, 3) := by decide +kernel
theorem d_X_node_50 : decode b_X_node 50 = .ok (.ireturn, 1) := by decide +kernel
theorem d_X_keep_0 : decode b_X_keep 0 = .ok (.iload_n 1, 1) := by decide +kernel
theorem d_X_keep_1 : decode b_X_keep 1 = .ok (.invokestatic 232, 3) := by decide +kernel
theorem d_X_keep_4 : decode b_X_keep 4 = .ok (.aload_n 0, 1) := by decide +kernel
theorem d_X_keep_5 : decode b_X_keep 5 = .ok (.getfield 23, 3) := by decide +kernel
theorem d_X_keep_8 : decode b_X_keep 8 = .ok (.iload_n 1, 1) := by decide +kernel
theorem d_X_keep_9 : decode b_X_keep 9 = .ok (.aaload, 1) := by decide +kernel
theorem d_X_keep_10 : decode b_X_keep 10 = .ok (.astore_n 2, 1) := by decide +kernel
theorem d_X_keep_11 : decode b_X_keep 11 = .ok (.aload_n 2, 1) := by decide +kernel
theorem d_X_keep_12 : decode b_X_keep 12 = .ok (.ifnonnull 18, 3) := by decide +kernel
theorem d_X_keep_15 : decode b_X_keep 15 = .ok (.new 7, 3) := by decide +kernel
theorem d_X_keep_18 : decode b_X_keep 18 = .ok (.dup, 1) := by decide +kernel
theorem d_X_keep_19 : decode b_X_keep 19 = .ok (.invokespecial 9, 3) := by decide +kernel
theorem d_X_keep_22 : decode b_X_keep 22 = .ok (.astore_n 2, 1) := by decide +kernel
theorem d_X_keep_23 : decode b_X_keep 23 = .ok (.aload_n 0, 1) := by decide +kernel
theorem d_X_keep_24 : decode b_X_keep 24 = .ok (.getfield 23, 3) := by decide +kernel
theorem d_X_keep_27 : decode b_X_keep 27 = .ok (.iload_n 1, 1) := by decide +kernel
theorem d_X_keep_28 : decode b_X_keep 28 = .ok (.aload_n 2, 1) := by decide +kernel
theorem d_X_keep_29 : decode b_X_keep 29 = .ok (.aastore, 1) := by decide +kernel
theorem d_X_keep_30 : decode b_X_keep 30 = .ok (.aload_n 2, 1) := by decide +kernel
theorem d_X_keep_31 : decode b_X_keep 31 = .ok (.aload_n 0, 1) := by decide +kernel
theorem d_X_keep_32 : decode b_X_keep 32 = .ok (.getfield 10, 3) := by decide +kernel
theorem d_X_keep_35 : decode b_X_keep 35 = .ok (.invokevirtual 235, 3) := by decide +kernel
theorem d_X_keep_38 : decode b_X_keep 38 = .ok (.return_, 1) := by decide +kernel
theorem d_X_goBack_0 : decode b_X_goBack 0 = .ok (.iload_n 1, 1) := by decide +kernel
theorem d_X_goBack_1 : decode b_X_goBack 1 = .ok (.invokestatic 232, 3) := by decide +kernel
theorem d_X_goBack_4 : decode b_X_goBack 4 = .ok (.aload_n 0, 1) := by decide +kernel
theorem d_X_goBack_5 : decode b_X_goBack 5 = .ok (.getfield 23, 3) := by decide +kernel
theorem d_X_goBack_8 : decode b_X_goBack 8 = .ok (.iload_n 1, 1) := by decide +kernel
theorem d_X_goBack_9 : decode b_X_goBack 9 = .ok (.aaload, 1) := by decide +kernel
theorem d_X_goBack_10 : decode b_X_goBack 10 = .ok (.astore_n 2, 1) := by decide +kernel
theorem d_X_goBack_11 : decode b_X_goBack 11 = .ok (.aload_n 2, 1) := by decide +kernel
theorem d_X_goBack_12 : decode b_X_goBack 12 = .ok (.ifnonnull 13, 3) := by decide +kernel
theorem d_X_goBack_15 : decode b_X_goBack 15 = .ok (.new 87, 3) := by decide +kernel
theorem d_X_goBack_18 : decode b_X_goBack 18 = .ok (.dup, 1) := by decide +kernel
theorem d_X_goBack_19 : decode b_X_goBack 19 = .ok (.ldc 239, 2) := by decide +kernel
theorem d_X_goBack_21 : decode b_X_goBack 21 = .ok (.invokespecial 91, 3) := by decide +kernel
theorem d_X_goBack_24 : decode b_X_goBack 24 = .ok (.athrow, 1) := by decide +kernel
theorem d_X_goBack_25 : decode b_X_goBack 25 = .ok (.aload_n 0, 1) := by decide +kernel
theorem d_X_goBack_26 : decode b_X_goBack 26 = .ok (.getfield 10, 3) := by decide +kernel
theorem d_X_goBack_29 : decode b_X_goBack 29 = .ok (.aload_n 2, 1) := by decide +kernel
theorem d_X_goBack_30 : decode b_X_goBack 30 = .ok (.invokevirtual 235, 3) := by decide +kernel
theorem d_X_goBack_33 : decode b_X_goBack 33 = .ok (.return_, 1) := by decide +kernel
theorem d_X_refuseCell_0 : decode b_X_refuseCell 0 = .ok (.iload_n 1, 1) := by decide +kernel
theorem d_X_refuseCell_1 : decode b_X_refuseCell 1 = .ok (.iconst 0, 1) := by decide +kernel
theorem d_X_refuseCell_2 : decode b_X_refuseCell 2 = .ok (.aload_n 0, 1) := by decide +kernel
theorem d_X_refuseCell_3 : decode b_X_refuseCell 3 = .ok (.getfield 10, 3) := by decide +kernel
theorem d_X_refuseCell_6 : decode b_X_refuseCell 6 = .ok (.getfield 38, 3) := by decide +kernel
theorem d_X_refuseCell_9 : decode b_X_refuseCell 9 = .ok (.getfield 151, 3) := by decide +kernel
theorem d_X_refuseCell_12 : decode b_X_refuseCell 12 = .ok (.iconst 1, 1) := by decide +kernel
theorem d_X_refuseCell_13 : decode b_X_refuseCell 13 = .ok (.isub, 1) := by decide +kernel
theorem d_X_refuseCell_14 : decode b_X_refuseCell 14 = .ok (.invokestatic 27, 3) := by decide +kernel
theorem d_X_refuseCell_17 : decode b_X_refuseCell 17 = .ok (.ifCond .ne 13, 3) := by decide +kernel
theorem d_X_refuseCell_20 : decode b_X_refuseCell 20 = .ok (.new 183, 3) := by decide +kernel
theorem d_X_refuseCell_23 : decode b_X_refuseCell 23 = .ok (.dup, 1) := by decide +kernel
theorem d_X_refuseCell_24 : decode b_X_refuseCell 24 = .ok (.ldc 241, 2) := by decide +kernel
theorem d_X_refuseCell_26 : decode b_X_refuseCell 26 = .ok (.invokespecial 187, 3) := by decide +kernel
theorem d_X_refuseCell_29 : decode b_X_refuseCell 29 = .ok (.athrow, 1) := by decide +kernel
theorem d_X_refuseCell_30 : decode b_X_refuseCell 30 = .ok (.return_, 1) := by decide +kernel
theorem d_X_refuseWhat_0 : decode b_X_refuseWhat 0 = .ok (.iload_n 0, 1) := by decide +kernel
theorem d_X_refuseWhat_1 : decode b_X_refuseWhat 1 = .ok (.iconst 0, 1) := by decide +kernel
theorem d_X_refuseWhat_2 : decode b_X_refuseWhat 2 = .ok (.iload_n 1, 1) := by decide +kernel
theorem d_X_refuseWhat_3 : decode b_X_refuseWhat 3 = .ok (.invokestatic 27, 3) := by decide +kernel
theorem d_X_refuseWhat_6 : decode b_X_refuseWhat 6 = .ok (.ifCond .ne 13, 3) := by decide +kernel
theorem d_X_refuseWhat_9 : decode b_X_refuseWhat 9 = .ok (.new 31, 3) := by decide +kernel
theorem d_X_refuseWhat_12 : decode b_X_refuseWhat 12 = .ok (.dup, 1) := by decide +kernel
theorem d_X_refuseWhat_13 : decode b_X_refuseWhat 13 = .ok (.ldc 243, 2) := by decide +kernel
theorem d_X_refuseWhat_15 : decode b_X_refuseWhat 15 = .ok (.invokespecial 35, 3) := by decide +kernel
theorem d_X_refuseWhat_18 : decode b_X_refuseWhat 18 = .ok (.athrow, 1) := by decide +kernel
theorem d_X_refuseWhat_19 : decode b_X_refuseWhat 19 = .ok (.return_, 1) := by decide +kernel
theorem d_X_refuseTicks_0 : decode b_X_refuseTicks 0 = .ok (.iload_n 0, 1) := by decide +kernel
theorem d_X_refuseTicks_1 : decode b_X_refuseTicks 1 = .ok (.iconst 1, 1) := by decide +kernel
theorem d_X_refuseTicks_2 : decode b_X_refuseTicks 2 = .ok (.bipush 100, 2) := by decide +kernel
theorem d_X_refuseTicks_4 : decode b_X_refuseTicks 4 = .ok (.invokestatic 27, 3) := by decide +kernel
theorem d_X_refuseTicks_7 : decode b_X_refuseTicks 7 = .ok (.ifCond .ne 13, 3) := by decide +kernel
theorem d_X_refuseTicks_10 : decode b_X_refuseTicks 10 = .ok (.new 31, 3) := by decide +kernel
theorem d_X_refuseTicks_13 : decode b_X_refuseTicks 13 = .ok (.dup, 1) := by decide +kernel
theorem d_X_refuseTicks_14 : decode b_X_refuseTicks 14 = .ok (.ldc 245, 2) := by decide +kernel
theorem d_X_refuseTicks_16 : decode b_X_refuseTicks 16 = .ok (.invokespecial 35, 3) := by decide +kernel
theorem d_X_refuseTicks_19 : decode b_X_refuseTicks 19 = .ok (.athrow, 1) := by decide +kernel
theorem d_X_refuseTicks_20 : decode b_X_refuseTicks 20 = .ok (.return_, 1) := by decide +kernel
theorem d_X_refuseNoPipe_0 : decode b_X_refuseNoPipe 0 = .ok (.aload_n 0, 1) := by decide +kernel
theorem d_X_refuseNoPipe_1 : decode b_X_refuseNoPipe 1 = .ok (.getfield 10, 3) := by decide +kernel
theorem d_X_refuseNoPipe_4 : decode b_X_refuseNoPipe 4 = .ok (.getfield 193, 3) := by decide +kernel
theorem d_X_refuseNoPipe_7 : decode b_X_refuseNoPipe 7 = .ok (.getfield 226, 3) := by decide +kernel
theorem d_X_refuseNoPipe_10 : decode b_X_refuseNoPipe 10 = .ok (.ifCond .ne 13, 3) := by decide +kernel
theorem d_X_refuseNoPipe_13 : decode b_X_refuseNoPipe 13 = .ok (.new 87, 3) := by decide +kernel
theorem d_X_refuseNoPipe_16 : decode b_X_refuseNoPipe 16 = .ok (.dup, 1) := by decide +kernel
theorem d_X_refuseNoPipe_17 : decode b_X_refuseNoPipe 17 = .ok (.ldc 247, 2) := by decide +kernel
theorem d_X_refuseNoPipe_19 : decode b_X_refuseNoPipe 19 = .ok (.invokespecial 91, 3) := by decide +kernel
theorem d_X_refuseNoPipe_22 : decode b_X_refuseNoPipe 22 = .ok (.athrow, 1) := by decide +kernel
theorem d_X_refuseNoPipe_23 : decode b_X_refuseNoPipe 23 = .ok (.return_, 1) := by decide +kernel
theorem d_X_refuseSlot_0 : decode b_X_refuseSlot 0 = .ok (.iload_n 0, 1) := by decide +kernel
theorem d_X_refuseSlot_1 : decode b_X_refuseSlot 1 = .ok (.iconst 0, 1) := by decide +kernel
theorem d_X_refuseSlot_2 : decode b_X_refuseSlot 2 = .ok (.iconst 3, 1) := by decide +kernel
theorem d_X_refuseSlot_3 : decode b_X_refuseSlot 3 = .ok (.invokestatic 27, 3) := by decide +kernel
theorem d_X_refuseSlot_6 : decode b_X_refuseSlot 6 = .ok (.ifCond .ne 13, 3) := by decide +kernel
theorem d_X_refuseSlot_9 : decode b_X_refuseSlot 9 = .ok (.new 31, 3) := by decide +kernel
theorem d_X_refuseSlot_12 : decode b_X_refuseSlot 12 = .ok (.dup, 1) := by decide +kernel
theorem d_X_refuseSlot_13 : decode b_X_refuseSlot 13 = .ok (.ldc 249, 2) := by decide +kernel
theorem d_X_refuseSlot_15 : decode b_X_refuseSlot 15 = .ok (.invokespecial 35, 3) := by decide +kernel
theorem d_X_refuseSlot_18 : decode b_X_refuseSlot 18 = .ok (.athrow, 1) := by decide +kernel
theorem d_X_refuseSlot_19 : decode b_X_refuseSlot 19 = .ok (.return_, 1) := by decide +kernel
theorem d_X_isFrom_0 : decode b_X_isFrom 0 = .ok (.iload_n 0, 1) := by decide +kernel
theorem d_X_isFrom_1 : decode b_X_isFrom 1 = .ok (.iload_n 1, 1) := by decide +kernel
theorem d_X_isFrom_2 : decode b_X_isFrom 2 = .ok (.if_icmp .lt 12, 3) := by decide +kernel
theorem d_X_isFrom_5 : decode b_X_isFrom 5 = .ok (.iload_n 0, 1) := by decide +kernel
theorem d_X_isFrom_6 : decode b_X_isFrom 6 = .ok (.iload_n 2, 1) := by decide +kernel
theorem d_X_isFrom_7 : decode b_X_isFrom 7 = .ok (.if_icmp .gt 7, 3) := by decide +kernel
theorem d_X_isFrom_10 : decode b_X_isFrom 10 = .ok (.iconst 1, 1) := by decide +kernel
theorem d_X_isFrom_11 : decode b_X_isFrom 11 = .ok (.goto 4, 3) := by decide +kernel
theorem d_X_isFrom_14 : decode b_X_isFrom 14 = .ok (.iconst 0, 1) := by decide +kernel
theorem d_X_isFrom_15 : decode b_X_isFrom 15 = .ok (.ireturn, 1) := by decide +kernel
theorem d_X_toInt_0 : decode b_X_toInt 0 = .ok (.lload_n 0, 1) := by decide +kernel
theorem d_X_toInt_1 : decode b_X_toInt 1 = .ok (.ldc2_w 251, 3) := by decide +kernel
theorem d_X_toInt_4 : decode b_X_toInt 4 = .ok (.invokestatic 253, 3) := by decide +kernel
theorem d_X_toInt_7 : decode b_X_toInt 7 = .ok (.l2i, 1) := by decide +kernel
theorem d_X_toInt_8 : decode b_X_toInt 8 = .ok (.ireturn, 1) := by decide +kernel
theorem d_X_copyRow_1_0 : decode b_X_copyRow_1 0 = .ok (.aload_n 0, 1) := by decide +kernel
theorem d_X_copyRow_1_1 : decode b_X_copyRow_1 1 = .ok (.iconst 0, 1) := by decide +kernel
theorem d_X_copyRow_1_2 : decode b_X_copyRow_1 2 = .ok (.aload_n 1, 1) := by decide +kernel
theorem d_X_copyRow_1_3 : decode b_X_copyRow_1 3 = .ok (.iconst 0, 1) := by decide +kernel
theorem d_X_copyRow_1_4 : decode b_X_copyRow_1 4 = .ok (.aload_n 0, 1) := by decide +kernel
theorem d_X_copyRow_1_5 : decode b_X_copyRow_1 5 = .ok (.arraylength, 1) := by decide +kernel
theorem d_X_copyRow_1_6 : decode b_X_copyRow_1 6 = .ok (.aload_n 1, 1) := by decide +kernel
theorem d_X_copyRow_1_7 : decode b_X_copyRow_1 7 = .ok (.arraylength, 1) := by decide +kernel
theorem d_X_copyRow_1_8 : decode b_X_copyRow_1 8 = .ok (.invokestatic 259, 3) := by decide +kernel
theorem d_X_copyRow_1_11 : decode b_X_copyRow_1 11 = .ok (.invokestatic 261, 3) := by decide +kernel
theorem d_X_copyRow_1_14 : decode b_X_copyRow_1 14 = .ok (.return_, 1) := by decide +kernel
theorem d_X_copyRow_0_0 : decode b_X_copyRow_0 0 = .ok (.aload_n 0, 1) := by decide +kernel
theorem d_X_copyRow_0_1 : decode b_X_copyRow_0 1 = .ok (.iconst 0, 1) := by decide +kernel
theorem d_X_copyRow_0_2 : decode b_X_copyRow_0 2 = .ok (.aload_n 1, 1) := by decide +kernel
theorem d_X_copyRow_0_3 : decode b_X_copyRow_0 3 = .ok (.iconst 0, 1) := by decide +kernel
theorem d_X_copyRow_0_4 : decode b_X_copyRow_0 4 = .ok (.aload_n 0, 1) := by decide +kernel
theorem d_X_copyRow_0_5 : decode b_X_copyRow_0 5 = .ok (.arraylength, 1) := by decide +kernel
theorem d_X_copyRow_0_6 : decode b_X_copyRow_0 6 = .ok (.aload_n 1, 1) := by decide +kernel
theorem d_X_copyRow_0_7 : decode b_X_copyRow_0 7 = .ok (.arraylength, 1) := by decide +kernel
theorem d_X_copyRow_0_8 : decode b_X_copyRow_0 8 = .ok (.invokestatic 259, 3) := by decide +kernel
theorem d_X_copyRow_0_11 : decode b_X_copyRow_0 11 = .ok (.invokestatic 261, 3) := by decide +kernel
theorem d_X_copyRow_0_14 : decode b_X_copyRow_0 14 = .ok (.return_, 1) := by decide +kernel
theorem d_Laws_init_0 : decode b_Laws_init 0 = .ok (.aload_n 0, 1) := by decide +kernel
theorem d_Laws_init_1 : decode b_Laws_init 1 = .ok (.invokespecial 3, 3) := by decide +kernel
theorem d_Laws_init_4 : decode b_Laws_init 4 = .ok (.aload_n 0, 1) := by decide +kernel
theorem d_Laws_init_5 : decode b_Laws_init 5 = .ok (.iconst 0, 1) := by decide +kernel
theorem d_Laws_init_6 : decode b_Laws_init 6 = .ok (.putfield 9, 3) := by decide +kernel
theorem d_Laws_init_9 : decode b_Laws_init 9 = .ok (.aload_n 0, 1) := by decide +kernel
theorem d_Laws_init_10 : decode b_Laws_init 10 = .ok (.ldc 15, 2) := by decide +kernel
theorem d_Laws_init_12 : decode b_Laws_init 12 = .ok (.putfield 16, 3) := by decide +kernel
theorem d_Laws_init_15 : decode b_Laws_init 15 = .ok (.return_, 1) := by decide +kernel
theorem d_Laws_ignite_0 : decode b_Laws_ignite 0 = .ok (.aload_n 0, 1) := by decide +kernel
theorem d_Laws_ignite_1 : decode b_Laws_ignite 1 = .ok (.iload_n 1, 1) := by decide +kernel
theorem d_Laws_ignite_2 : decode b_Laws_ignite 2 = .ok (.putfield 16, 3) := by decide +kernel
theorem d_Laws_ignite_5 : decode b_Laws_ignite 5 = .ok (.aload_n 0, 1) := by decide +kernel
theorem d_Laws_ignite_6 : decode b_Laws_ignite 6 = .ok (.iload_n 2, 1) := by decide +kernel
theorem d_Laws_ignite_7 : decode b_Laws_ignite 7 = .ok (.putfield 19, 3) := by decide +kernel
theorem d_Laws_ignite_10 : decode b_Laws_ignite 10 = .ok (.aload_n 0, 1) := by decide +kernel
theorem d_Laws_ignite_11 : decode b_Laws_ignite 11 = .ok (.iload_n 3, 1) := by decide +kernel
theorem d_Laws_ignite_12 : decode b_Laws_ignite 12 = .ok (.putfield 22, 3) := by decide +kernel
theorem d_Laws_ignite_15 : decode b_Laws_ignite 15 = .ok (.return_, 1) := by decide +kernel
theorem d_Laws_copyFrom_0 : decode b_Laws_copyFrom 0 = .ok (.aload_n 0, 1) := by decide +kernel
theorem d_Laws_copyFrom_1 : decode b_Laws_copyFrom 1 = .ok (.aload_n 1, 1) := by decide +kernel
theorem d_Laws_copyFrom_2 : decode b_Laws_copyFrom 2 = .ok (.getfield 9, 3) := by decide +kernel
theorem d_Laws_copyFrom_5 : decode b_Laws_copyFrom 5 = .ok (.putfield 9, 3) := by decide +kernel
theorem d_Laws_copyFrom_8 : decode b_Laws_copyFrom 8 = .ok (.aload_n 0, 1) := by decide +kernel
theorem d_Laws_copyFrom_9 : decode b_Laws_copyFrom 9 = .ok (.aload_n 1, 1) := by decide +kernel
theorem d_Laws_copyFrom_10 : decode b_Laws_copyFrom 10 = .ok (.getfield 16, 3) := by decide +kernel
theorem d_Laws_copyFrom_13 : decode b_Laws_copyFrom 13 = .ok (.aload_n 1, 1) := by decide +kernel
theorem d_Laws_copyFrom_14 : decode b_Laws_copyFrom 14 = .ok (.getfield 19, 3) := by decide +kernel
theorem d_Laws_copyFrom_17 : decode b_Laws_copyFrom 17 = .ok (.aload_n 1, 1) := by decide +kernel
theorem d_Laws_copyFrom_18 : decode b_Laws_copyFrom 18 = .ok (.getfield 22, 3) := by decide +kernel
theorem d_Laws_copyFrom_21 : decode b_Laws_copyFrom 21 = .ok (.invokevirtual 25, 3) := by decide +kernel
theorem d_Laws_copyFrom_24 : decode b_Laws_copyFrom 24 = .ok (.return_, 1) := by decide +kernel
theorem d_Laws_within_0 : decode b_Laws_within 0 = .ok (.lload 4, 2) := by decide +kernel
theorem d_Laws_within_2 : decode b_Laws_within 2 = .ok (.lload_n 2, 1) := by decide +kernel
theorem d_Laws_within_3 : decode b_Laws_within 3 = .ok (.lload_n 2, 1) := by decide +kernel
theorem d_Laws_within_4 : decode b_Laws_within 4 = .ok (.lmul, 1) := by decide +kernel
theorem d_Laws_within_5 : decode b_Laws_within 5 = .ok (.ldc2_w 29, 3) := by decide +kernel
theorem d_Laws_within_8 : decode b_Laws_within 8 = .ok (.lload_n 0, 1) := by decide +kernel
theorem d_Laws_within_9 : decode b_Laws_within 9 = .ok (.lmul, 1) := by decide +kernel
theorem d_Laws_within_10 : decode b_Laws_within 10 = .ok (.invokestatic 31, 3) := by decide +kernel
theorem d_Laws_within_13 : decode b_Laws_within 13 = .ok (.lsub, 1) := by decide +kernel
theorem d_Laws_within_14 : decode b_Laws_within 14 = .ok (.lreturn, 1) := by decide +kernel
theorem d_Laws_speed_0 : decode b_Laws_speed 0 = .ok (.ldc2_w 37, 3) := by decide +kernel
theorem d_Laws_speed_3 : decode b_Laws_speed 3 = .ok (.lload_n 2, 1) := by decide +kernel
theorem d_Laws_speed_4 : decode b_Laws_speed 4 = .ok (.lmul, 1) := by decide +kernel
theorem d_Laws_speed_5 : decode b_Laws_speed 5 = .ok (.lload_n 0, 1) := by decide +kernel
theorem d_Laws_speed_6 : decode b_Laws_speed 6 = .ok (.invokestatic 31, 3) := by decide +kernel
theorem d_Laws_speed_9 : decode b_Laws_speed 9 = .ok (.lreturn, 1) := by decide +kernel
theorem d_Laws_temperature_0 : decode b_Laws_temperature 0 = .ok (.ldc2_w 39, 3) := by decide +kernel
theorem d_Laws_temperature_3 : decode b_Laws_temperature 3 = .ok (.lload_n 2, 1) := by decide +kernel
theorem d_Laws_temperature_4 : decode b_Laws_temperature 4 = .ok (.lmul, 1) := by decide +kernel
theorem d_Laws_temperature_5 : decode b_Laws_temperature 5 = .ok (.lload_n 0, 1) := by decide +kernel
theorem d_Laws_temperature_6 : decode b_Laws_temperature 6 = .ok (.invokestatic 31, 3) := by decide +kernel
theorem d_Laws_temperature_9 : decode b_Laws_temperature 9 = .ok (.lreturn, 1) := by decide +kernel
theorem d_Laws_pressure_0 : decode b_Laws_pressure 0 = .ok (.lload_n 1, 1) := by decide +kernel
theorem d_Laws_pressure_1 : decode b_Laws_pressure 1 = .ok (.getstatic 41, 3) := by decide +kernel
theorem d_Laws_pressure_4 : decode b_Laws_pressure 4 = .ok (.aload_n 0, 1) := by decide +kernel
theorem d_Laws_pressure_5 : decode b_Laws_pressure 5 = .ok (.getfield 9, 3) := by decide +kernel
theorem d_Laws_pressure_8 : decode b_Laws_pressure 8 = .ok (.iaload, 1) := by decide +kernel
theorem d_Laws_pressure_9 : decode b_Laws_pressure 9 = .ok (.i2l, 1) := by decide +kernel
theorem d_Laws_pressure_10 : decode b_Laws_pressure 10 = .ok (.lmul, 1) := by decide +kernel
theorem d_Laws_pressure_11 : decode b_Laws_pressure 11 = .ok (.getstatic 45, 3) := by decide +kernel
theorem d_Laws_pressure_14 : decode b_Laws_pressure 14 = .ok (.aload_n 0, 1) := by decide +kernel
theorem d_Laws_pressure_15 : decode b_Laws_pressure 15 = .ok (.getfield 9, 3) := by decide +kernel
theorem d_Laws_pressure_18 : decode b_Laws_pressure 18 = .ok (.iaload, 1) := by decide +kernel
theorem d_Laws_pressure_19 : decode b_Laws_pressure 19 = .ok (.i2l, 1) := by decide +kernel
theorem d_Laws_pressure_20 : decode b_Laws_pressure 20 = .ok (.invokestatic 31, 3) := by decide +kernel
theorem d_Laws_pressure_23 : decode b_Laws_pressure 23 = .ok (.lreturn, 1) := by decide +kernel
theorem d_Laws_sound_0 : decode b_Laws_sound 0 = .ok (.lload_n 3, 1) := by decide +kernel
theorem d_Laws_sound_1 : decode b_Laws_sound 1 = .ok (.getstatic 48, 3) := by decide +kernel
theorem d_Laws_sound_4 : decode b_Laws_sound 4 = .ok (.aload_n 0, 1) := by decide +kernel
theorem d_Laws_sound_5 : decode b_Laws_sound 5 = .ok (.getfield 9, 3) := by decide +kernel
theorem d_Laws_sound_8 : decode b_Laws_sound 8 = .ok (.iaload, 1) := by decide +kernel
theorem d_Laws_sound_9 : decode b_Laws_sound 9 = .ok (.i2l, 1) := by decide +kernel
theorem d_Laws_sound_10 : decode b_Laws_sound 10 = .ok (.lmul, 1) := by decide +kernel
theorem d_Laws_sound_11 : decode b_Laws_sound 11 = .ok (.ldc2_w 51, 3) := by decide +kernel
theorem d_Laws_sound_14 : decode b_Laws_sound 14 = .ok (.lmul, 1) := by decide +kernel
theorem d_Laws_sound_15 : decode b_Laws_sound 15 = .ok (.lload_n 1, 1) := by decide +kernel
theorem d_Laws_sound_16 : decode b_Laws_sound 16 = .ok (.invokestatic 31, 3) := by decide +kernel
theorem d_Laws_sound_19 : decode b_Laws_sound 19 = .ok (.lstore 5, 2) := by decide +kernel
theorem d_Laws_sound_21 : decode b_Laws_sound 21 = .ok (.lload 5, 2) := by decide +kernel
theorem d_Laws_sound_23 : decode b_Laws_sound 23 = .ok (.getstatic 53, 3) := by decide +kernel
theorem d_Laws_sound_26 : decode b_Laws_sound 26 = .ok (.aload_n 0, 1) := by decide +kernel
theorem d_Laws_sound_27 : decode b_Laws_sound 27 = .ok (.getfield 9, 3) := by decide +kernel
theorem d_Laws_sound_30 : decode b_Laws_sound 30 = .ok (.iaload, 1) := by decide +kernel
theorem d_Laws_sound_31 : decode b_Laws_sound 31 = .ok (.i2l, 1) := by decide +kernel
theorem d_Laws_sound_32 : decode b_Laws_sound 32 = .ok (.invokestatic 31, 3) := by decide +kernel
theorem d_Laws_sound_35 : decode b_Laws_sound 35 = .ok (.invokestatic 56, 3) := by decide +kernel
theorem d_Laws_sound_38 : decode b_Laws_sound 38 = .ok (.lreturn, 1) := by decide +kernel
theorem d_Laws_root_0 : decode b_Laws_root 0 = .ok (.lconst 0, 1) := by decide +kernel
theorem d_Laws_root_1 : decode b_Laws_root 1 = .ok (.lstore_n 2, 1) := by decide +kernel
theorem d_Laws_root_2 : decode b_Laws_root 2 = .ok (.ldc2_w 60, 3) := by decide +kernel
theorem d_Laws_root_5 : decode b_Laws_root 5 = .ok (.lstore 4, 2) := by decide +kernel
theorem d_Laws_root_7 : decode b_Laws_root 7 = .ok (.lload 4, 2) := by decide +kernel
theorem d_Laws_root_9 : decode b_Laws_root 9 = .ok (.lconst 0, 1) := by decide +kernel
theorem d_Laws_root_10 : decode b_Laws_root 10 = .ok (.lcmp, 1) := by decide +kernel
theorem d_Laws_root_11 : decode b_Laws_root 11 = .ok (.ifCond .le 31, 3) := by decide +kernel
theorem d_Laws_root_14 : decode b_Laws_root 14 = .ok (.lload_n 2, 1) := by decide +kernel
theorem d_Laws_root_15 : decode b_Laws_root 15 = .ok (.lload 4, 2) := by decide +kernel
theorem d_Laws_root_17 : decode b_Laws_root 17 = .ok (.ladd, 1) := by decide +kernel
theorem d_Laws_root_18 : decode b_Laws_root 18 = .ok (.lstore 6, 2) := by decide +kernel
theorem d_Laws_root_20 : decode b_Laws_root 20 = .ok (.lload 6, 2) := by decide +kernel
theorem d_Laws_root_22 : decode b_Laws_root 22 = .ok (.lload 6, 2) := by decide +kernel
theorem d_Laws_root_24 : decode b_Laws_root 24 = .ok (.lmul, 1) := by decide +kernel
theorem d_Laws_root_25 : decode b_Laws_root 25 = .ok (.lload_n 0, 1) := by decide +kernel
theorem d_Laws_root_26 : decode b_Laws_root 26 = .ok (.lcmp, 1) := by decide +kernel
theorem d_Laws_root_27 : decode b_Laws_root 27 = .ok (.ifCond .gt 6, 3) := by decide +kernel
theorem d_Laws_root_30 : decode b_Laws_root 30 = .ok (.lload 6, 2) := by decide +kernel
theorem d_Laws_root_32 : decode b_Laws_root 32 = .ok (.lstore_n 2, 1) := by decide +kernel
theorem d_Laws_root_33 : decode b_Laws_root 33 = .ok (.lload 4, 2) := by decide +kernel
theorem d_Laws_root_35 : decode b_Laws_root 35 = .ok (.iconst 1, 1) := by decide +kernel
theorem d_Laws_root_36 : decode b_Laws_root 36 = .ok (.lshr, 1) := by decide +kernel
theorem d_Laws_root_37 : decode b_Laws_root 37 = .ok (.lstore 4, 2) := by decide +kernel
theorem d_Laws_root_39 : decode b_Laws_root 39 = .ok (.goto (-32), 3) := by decide +kernel
theorem d_Laws_root_42 : decode b_Laws_root 42 = .ok (.lload_n 2, 1) := by decide +kernel
theorem d_Laws_root_43 : decode b_Laws_root 43 = .ok (.lreturn, 1) := by decide +kernel
theorem d_Laws_burns_0 : decode b_Laws_burns 0 = .ok (.lload_n 1, 1) := by decide +kernel
theorem d_Laws_burns_1 : decode b_Laws_burns 1 = .ok (.lload_n 3, 1) := by decide +kernel
theorem d_Laws_burns_2 : decode b_Laws_burns 2 = .ok (.invokestatic 62, 3) := by decide +kernel
theorem d_Laws_burns_5 : decode b_Laws_burns 5 = .ok (.aload_n 0, 1) := by decide +kernel
theorem d_Laws_burns_6 : decode b_Laws_burns 6 = .ok (.getfield 16, 3) := by decide +kernel
theorem d_Laws_burns_9 : decode b_Laws_burns 9 = .ok (.i2l, 1) := by decide +kernel
theorem d_Laws_burns_10 : decode b_Laws_burns 10 = .ok (.lcmp, 1) := by decide +kernel
theorem d_Laws_burns_11 : decode b_Laws_burns 11 = .ok (.ifCond .lt 20, 3) := by decide +kernel
theorem d_Laws_burns_14 : decode b_Laws_burns 14 = .ok (.lload 5, 2) := by decide +kernel
theorem d_Laws_burns_16 : decode b_Laws_burns 16 = .ok (.aload_n 0, 1) := by decide +kernel
theorem d_Laws_burns_17 : decode b_Laws_burns 17 = .ok (.getfield 19, 3) := by decide +kernel
theorem d_Laws_burns_20 : decode b_Laws_burns 20 = .ok (.i2l, 1) := by decide +kernel
theorem d_Laws_burns_21 : decode b_Laws_burns 21 = .ok (.lmul, 1) := by decide +kernel
theorem d_Laws_burns_22 : decode b_Laws_burns 22 = .ok (.ldc2_w 39, 3) := by decide +kernel
theorem d_Laws_burns_25 : decode b_Laws_burns 25 = .ok (.invokestatic 31, 3) := by decide +kernel
theorem d_Laws_burns_28 : decode b_Laws_burns 28 = .ok (.goto 4, 3) := by decide +kernel
theorem d_Laws_burns_31 : decode b_Laws_burns 31 = .ok (.lconst 0, 1) := by decide +kernel
theorem d_Laws_burns_32 : decode b_Laws_burns 32 = .ok (.lreturn, 1) := by decide +kernel
theorem d_Pipe_init_0 : decode b_Pipe_init 0 = .ok (.aload_n 0, 1) := by decide +kernel
theorem d_Pipe_init_1 : decode b_Pipe_init 1 = .ok (.invokespecial 3, 3) := by decide +kernel
theorem d_Pipe_init_4 : decode b_Pipe_init 4 = .ok (.aload_n 0, 1) := by decide +kernel
theorem d_Pipe_init_5 : decode b_Pipe_init 5 = .ok (.iconst 1, 1) := by decide +kernel
theorem d_Pipe_init_6 : decode b_Pipe_init 6 = .ok (.putfield 9, 3) := by decide +kernel
theorem d_Pipe_init_9 : decode b_Pipe_init 9 = .ok (.aload_n 0, 1) := by decide +kernel
theorem d_Pipe_init_10 : decode b_Pipe_init 10 = .ok (.iconst 1, 1) := by decide +kernel
theorem d_Pipe_init_11 : decode b_Pipe_init 11 = .ok (.putfield 15, 3) := by decide +kernel
theorem d_Pipe_init_14 : decode b_Pipe_init 14 = .ok (.aload_n 0, 1) := by decide +kernel
theorem d_Pipe_init_15 : decode b_Pipe_init 15 = .ok (.bipush 21, 2) := by decide +kernel
theorem d_Pipe_init_17 : decode b_Pipe_init 17 = .ok (.newarray .long, 2) := by decide +kernel
theorem d_Pipe_init_19 : decode b_Pipe_init 19 = .ok (.putfield 18, 3) := by decide +kernel
theorem d_Pipe_init_22 : decode b_Pipe_init 22 = .ok (.aload_n 0, 1) := by decide +kernel
theorem d_Pipe_init_23 : decode b_Pipe_init 23 = .ok (.bipush 21, 2) := by decide +kernel
theorem d_Pipe_init_25 : decode b_Pipe_init 25 = .ok (.newarray .long, 2) := by decide +kernel
theorem d_Pipe_init_27 : decode b_Pipe_init 27 = .ok (.putfield 22, 3) := by decide +kernel
theorem d_Pipe_init_30 : decode b_Pipe_init 30 = .ok (.aload_n 0, 1) := by decide +kernel
theorem d_Pipe_init_31 : decode b_Pipe_init 31 = .ok (.bipush 21, 2) := by decide +kernel
theorem d_Pipe_init_33 : decode b_Pipe_init 33 = .ok (.newarray .long, 2) := by decide +kernel
theorem d_Pipe_init_35 : decode b_Pipe_init 35 = .ok (.putfield 25, 3) := by decide +kernel
theorem d_Pipe_init_38 : decode b_Pipe_init 38 = .ok (.aload_n 0, 1) := by decide +kernel
theorem d_Pipe_init_39 : decode b_Pipe_init 39 = .ok (.bipush 21, 2) := by decide +kernel
theorem d_Pipe_init_41 : decode b_Pipe_init 41 = .ok (.newarray .long, 2) := by decide +kernel
theorem d_Pipe_init_43 : decode b_Pipe_init 43 = .ok (.putfield 28, 3) := by decide +kernel
theorem d_Pipe_init_46 : decode b_Pipe_init 46 = .ok (.aload_n 0, 1) := by decide +kernel
theorem d_Pipe_init_47 : decode b_Pipe_init 47 = .ok (.bipush 21, 2) := by decide +kernel
theorem d_Pipe_init_49 : decode b_Pipe_init 49 = .ok (.newarray .long, 2) := by decide +kernel
theorem d_Pipe_init_51 : decode b_Pipe_init 51 = .ok (.putfield 31, 3) := by decide +kernel
theorem d_Pipe_init_54 : decode b_Pipe_init 54 = .ok (.aload_n 0, 1) := by decide +kernel
theorem d_Pipe_init_55 : decode b_Pipe_init 55 = .ok (.bipush 21, 2) := by decide +kernel
theorem d_Pipe_init_57 : decode b_Pipe_init 57 = .ok (.newarray .long, 2) := by decide +kernel
theorem d_Pipe_init_59 : decode b_Pipe_init 59 = .ok (.putfield 34, 3) := by decide +kernel
theorem d_Pipe_init_62 : decode b_Pipe_init 62 = .ok (.aload_n 0, 1) := by decide +kernel
theorem d_Pipe_init_63 : decode b_Pipe_init 63 = .ok (.bipush 21, 2) := by decide +kernel
theorem d_Pipe_init_65 : decode b_Pipe_init 65 = .ok (.newarray .long, 2) := by decide +kernel
theorem d_Pipe_init_67 : decode b_Pipe_init 67 = .ok (.putfield 37, 3) := by decide +kernel
theorem d_Pipe_init_70 : decode b_Pipe_init 70 = .ok (.return_, 1) := by decide +kernel
theorem d_Pipe_begin_0 : decode b_Pipe_begin 0 = .ok (.aload_n 0, 1) := by decide +kernel
theorem d_Pipe_begin_1 : decode b_Pipe_begin 1 = .ok (.iload_n 1, 1) := by decide +kernel
theorem d_Pipe_begin_2 : decode b_Pipe_begin 2 = .ok (.iconst 1, 1) := by decide +kernel
theorem d_Pipe_begin_3 : decode b_Pipe_begin 3 = .ok (.iadd, 1) := by decide +kernel
theorem d_Pipe_begin_4 : decode b_Pipe_begin 4 = .ok (.putfield 40, 3) := by decide +kernel
theorem d_Pipe_begin_7 : decode b_Pipe_begin 7 = .ok (.aload_n 0, 1) := by decide +kernel
theorem d_Pipe_begin_8 : decode b_Pipe_begin 8 = .ok (.bipush 100, 2) := by decide +kernel
theorem d_Pipe_begin_10 : decode b_Pipe_begin 10 = .ok (.putfield 43, 3) := by decide +kernel
theorem d_Pipe_begin_13 : decode b_Pipe_begin 13 = .ok (.aload_n 0, 1) := by decide +kernel
theorem d_Pipe_begin_14 : decode b_Pipe_begin 14 = .ok (.iload_n 2, 1) := by decide +kernel
theorem d_Pipe_begin_15 : decode b_Pipe_begin 15 = .ok (.putfield 46, 3) := by decide +kernel
theorem d_Pipe_begin_18 : decode b_Pipe_begin 18 = .ok (.iconst 0, 1) := by decide +kernel
theorem d_Pipe_begin_19 : decode b_Pipe_begin 19 = .ok (.istore 4, 2) := by decide +kernel
theorem d_Pipe_begin_21 : decode b_Pipe_begin 21 = .ok (.iload 4, 2) := by decide +kernel
theorem d_Pipe_begin_23 : decode b_Pipe_begin 23 = .ok (.aload_n 0, 1) := by decide +kernel
theorem d_Pipe_begin_24 : decode b_Pipe_begin 24 = .ok (.getfield 40, 3) := by decide +kernel
theorem d_Pipe_begin_27 : decode b_Pipe_begin 27 = .ok (.if_icmp .ge 44, 3) := by decide +kernel
theorem d_Pipe_begin_30 : decode b_Pipe_begin 30 = .ok (.aload_n 0, 1) := by decide +kernel
theorem d_Pipe_begin_31 : decode b_Pipe_begin 31 = .ok (.getfield 18, 3) := by decide +kernel
theorem d_Pipe_begin_34 : decode b_Pipe_begin 34 = .ok (.iload 4, 2) := by decide +kernel
theorem d_Pipe_begin_36 : decode b_Pipe_begin 36 = .ok (.iload_n 2, 1) := by decide +kernel
theorem d_Pipe_begin_37 : decode b_Pipe_begin 37 = .ok (.i2l, 1) := by decide +kernel
theorem d_Pipe_begin_38 : decode b_Pipe_begin 38 = .ok (.lastore, 1) := by decide +kernel
theorem d_Pipe_begin_39 : decode b_Pipe_begin 39 = .ok (.aload_n 0, 1) := by decide +kernel
theorem d_Pipe_begin_40 : decode b_Pipe_begin 40 = .ok (.getfield 22, 3) := by decide +kernel
theorem d_Pipe_begin_43 : decode b_Pipe_begin 43 = .ok (.iload 4, 2) := by decide +kernel
theorem d_Pipe_begin_45 : decode b_Pipe_begin 45 = .ok (.iload_n 3, 1) := by decide +kernel
theorem d_Pipe_begin_46 : decode b_Pipe_begin 46 = .ok (.i2l, 1) := by decide +kernel
theorem d_Pipe_begin_47 : decode b_Pipe_begin 47 = .ok (.lastore, 1) := by decide +kernel
theorem d_Pipe_begin_48 : decode b_Pipe_begin 48 = .ok (.aload_n 0, 1) := by decide +kernel
theorem d_Pipe_begin_49 : decode b_Pipe_begin 49 = .ok (.getfield 25, 3) := by decide +kernel
theorem d_Pipe_begin_52 : decode b_Pipe_begin 52 = .ok (.iload 4, 2) := by decide +kernel
theorem d_Pipe_begin_54 : decode b_Pipe_begin 54 = .ok (.lconst 0, 1) := by decide +kernel
theorem d_Pipe_begin_55 : decode b_Pipe_begin 55 = .ok (.lastore, 1) := by decide +kernel
theorem d_Pipe_begin_56 : decode b_Pipe_begin 56 = .ok (.aload_n 0, 1) := by decide +kernel
theorem d_Pipe_begin_57 : decode b_Pipe_begin 57 = .ok (.getfield 28, 3) := by decide +kernel
theorem d_Pipe_begin_60 : decode b_Pipe_begin 60 = .ok (.iload 4, 2) := by decide +kernel
theorem d_Pipe_begin_62 : decode b_Pipe_begin 62 = .ok (.iload_n 2, 1) := by decide +kernel
theorem d_Pipe_begin_63 : decode b_Pipe_begin 63 = .ok (.i2l, 1) := by decide +kernel
theorem d_Pipe_begin_64 : decode b_Pipe_begin 64 = .ok (.lastore, 1) := by decide +kernel
theorem d_Pipe_begin_65 : decode b_Pipe_begin 65 = .ok (.iinc 4 1, 3) := by decide +kernel
theorem d_Pipe_begin_68 : decode b_Pipe_begin 68 = .ok (.goto (-47), 3) := by decide +kernel
theorem d_Pipe_begin_71 : decode b_Pipe_begin 71 = .ok (.return_, 1) := by decide +kernel
theorem d_Pipe_isTicked_0 : decode b_Pipe_isTicked 0 = .ok (.aload_n 0, 1) := by decide +kernel
theorem d_Pipe_isTicked_1 : decode b_Pipe_isTicked 1 = .ok (.invokevirtual 49, 3) := by decide +kernel
theorem d_Pipe_isTicked_4 : decode b_Pipe_isTicked 4 = .ok (.iconst 1, 1) := by decide +kernel
theorem d_Pipe_isTicked_5 : decode b_Pipe_isTicked 5 = .ok (.istore_n 1, 1) := by decide +kernel
theorem d_Pipe_isTicked_6 : decode b_Pipe_isTicked 6 = .ok (.iload_n 1, 1) := by decide +kernel
theorem d_Pipe_isTicked_7 : decode b_Pipe_isTicked 7 = .ok (.aload_n 0, 1) := by decide +kernel
theorem d_Pipe_isTicked_8 : decode b_Pipe_isTicked 8 = .ok (.getfield 40, 3) := by decide +kernel
theorem d_Pipe_isTicked_11 : decode b_Pipe_isTicked 11 = .ok (.iconst 1, 1) := by decide +kernel
theorem d_Pipe_isTicked_12 : decode b_Pipe_isTicked 12 = .ok (.isub, 1) := by decide +kernel
theorem d_Pipe_isTicked_13 : decode b_Pipe_isTicked 13 = .ok (.if_icmp .ge 14, 3) := by decide +kernel
theorem d_Pipe_isTicked_16 : decode b_Pipe_isTicked 16 = .ok (.aload_n 0, 1) := by decide +kernel
theorem d_Pipe_isTicked_17 : decode b_Pipe_isTicked 17 = .ok (.iload_n 1, 1) := by decide +kernel
theorem d_Pipe_isTicked_18 : decode b_Pipe_isTicked 18 = .ok (.invokevirtual 52, 3) := by decide +kernel
theorem d_Pipe_isTicked_21 : decode b_Pipe_isTicked 21 = .ok (.iinc 1 1, 3) := by decide +kernel
theorem d_Pipe_isTicked_24 : decode b_Pipe_isTicked 24 = .ok (.goto (-18), 3) := by decide +kernel
theorem d_Pipe_isTicked_27 : decode b_Pipe_isTicked 27 = .ok (.aload_n 0, 1) := by decide +kernel
theorem d_Pipe_isTicked_28 : decode b_Pipe_isTicked 28 = .ok (.invokevirtual 56, 3) := by decide +kernel
theorem d_Pipe_isTicked_31 : decode b_Pipe_isTicked 31 = .ok (.iconst 0, 1) := by decide +kernel
theorem d_Pipe_isTicked_32 : decode b_Pipe_isTicked 32 = .ok (.istore_n 1, 1) := by decide +kernel
theorem d_Pipe_isTicked_33 : decode b_Pipe_isTicked 33 = .ok (.iload_n 1, 1) := by decide +kernel
theorem d_Pipe_isTicked_34 : decode b_Pipe_isTicked 34 = .ok (.aload_n 0, 1) := by decide +kernel
theorem d_Pipe_isTicked_35 : decode b_Pipe_isTicked 35 = .ok (.getfield 40, 3) := by decide +kernel
theorem d_Pipe_isTicked_38 : decode b_Pipe_isTicked 38 = .ok (.if_icmp .ge 19, 3) := by decide +kernel
theorem d_Pipe_isTicked_41 : decode b_Pipe_isTicked 41 = .ok (.aload_n 0, 1) := by decide +kernel
theorem d_Pipe_isTicked_42 : decode b_Pipe_isTicked 42 = .ok (.iload_n 1, 1) := by decide +kernel
theorem d_Pipe_isTicked_43 : decode b_Pipe_isTicked 43 = .ok (.invokevirtual 59, 3) := by decide +kernel
theorem d_Pipe_isTicked_46 : decode b_Pipe_isTicked 46 = .ok (.ifCond .ne 5, 3) := by decide +kernel
theorem d_Pipe_isTicked_49 : decode b_Pipe_isTicked 49 = .ok (.iconst 0, 1) := by decide +kernel
theorem d_Pipe_isTicked_50 : decode b_Pipe_isTicked 50 = .ok (.ireturn, 1) := by decide +kernel
theorem d_Pipe_isTicked_51 : decode b_Pipe_isTicked 51 = .ok (.iinc 1 1, 3) := by decide +kernel
theorem d_Pipe_isTicked_54 : decode b_Pipe_isTicked 54 = .ok (.goto (-21), 3) := by decide +kernel
theorem d_Pipe_isTicked_57 : decode b_Pipe_isTicked 57 = .ok (.aload_n 0, 1) := by decide +kernel
theorem d_Pipe_isTicked_58 : decode b_Pipe_isTicked 58 = .ok (.invokevirtual 63, 3) := by decide +kernel
theorem d_Pipe_isTicked_61 : decode b_Pipe_isTicked 61 = .ok (.iconst 1, 1) := by decide +kernel
theorem d_Pipe_isTicked_62 : decode b_Pipe_isTicked 62 = .ok (.ireturn, 1) := by decide +kernel
theorem d_Pipe_fromLeft_0 : decode b_Pipe_fromLeft 0 = .ok (.iload_n 1, 1) := by decide +kernel
theorem d_Pipe_fromLeft_1 : decode b_Pipe_fromLeft 1 = .ok (.iconst 1, 1) := by decide +kernel
theorem d_Pipe_fromLeft_2 : decode b_Pipe_fromLeft 2 = .ok (.isub, 1) := by decide +kernel
theorem d_Pipe_fromLeft_3 : decode b_Pipe_fromLeft 3 = .ok (.istore_n 2, 1) := by decide +kernel
theorem d_Pipe_fromLeft_4 : decode b_Pipe_fromLeft 4 = .ok (.aload_n 0, 1) := by decide +kernel
theorem d_Pipe_fromLeft_5 : decode b_Pipe_fromLeft 5 = .ok (.getfield 18, 3) := by decide +kernel
theorem d_Pipe_fromLeft_8 : decode b_Pipe_fromLeft 8 = .ok (.iload_n 2, 1) := by decide +kernel
theorem d_Pipe_fromLeft_9 : decode b_Pipe_fromLeft 9 = .ok (.laload, 1) := by decide +kernel
theorem d_Pipe_fromLeft_10 : decode b_Pipe_fromLeft 10 = .ok (.aload_n 0, 1) := by decide +kernel
theorem d_Pipe_fromLeft_11 : decode b_Pipe_fromLeft 11 = .ok (.getfield 9, 3) := by decide +kernel
theorem d_Pipe_fromLeft_14 : decode b_Pipe_fromLeft 14 = .ok (.i2l, 1) := by decide +kernel
theorem d_Pipe_fromLeft_15 : decode b_Pipe_fromLeft 15 = .ok (.aload_n 0, 1) := by decide +kernel
theorem d_Pipe_fromLeft_16 : decode b_Pipe_fromLeft 16 = .ok (.getfield 22, 3) := by decide +kernel
theorem d_Pipe_fromLeft_19 : decode b_Pipe_fromLeft 19 = .ok (.iload_n 2, 1) := by decide +kernel
theorem d_Pipe_fromLeft_20 : decode b_Pipe_fromLeft 20 = .ok (.laload, 1) := by decide +kernel
theorem d_Pipe_fromLeft_21 : decode b_Pipe_fromLeft 21 = .ok (.lmul, 1) := by decide +kernel
theorem d_Pipe_fromLeft_22 : decode b_Pipe_fromLeft 22 = .ok (.ladd, 1) := by decide +kernel
theorem d_Pipe_fromLeft_23 : decode b_Pipe_fromLeft 23 = .ok (.aload_n 0, 1) := by decide +kernel
theorem d_Pipe_fromLeft_24 : decode b_Pipe_fromLeft 24 = .ok (.iload_n 2, 1) := by decide +kernel
theorem d_Pipe_fromLeft_25 : decode b_Pipe_fromLeft 25 = .ok (.invokevirtual 66, 3) := by decide +kernel
theorem d_Pipe_fromLeft_28 : decode b_Pipe_fromLeft 28 = .ok (.lsub, 1) := by decide +kernel
theorem d_Pipe_fromLeft_29 : decode b_Pipe_fromLeft 29 = .ok (.lreturn, 1) := by decide +kernel
theorem d_Pipe_fromRight_0 : decode b_Pipe_fromRight 0 = .ok (.iload_n 1, 1) := by decide +kernel
theorem d_Pipe_fromRight_1 : decode b_Pipe_fromRight 1 = .ok (.iconst 1, 1) := by decide +kernel
theorem d_Pipe_fromRight_2 : decode b_Pipe_fromRight 2 = .ok (.iadd, 1) := by decide +kernel
theorem d_Pipe_fromRight_3 : decode b_Pipe_fromRight 3 = .ok (.istore_n 2, 1) := by decide +kernel
theorem d_Pipe_fromRight_4 : decode b_Pipe_fromRight 4 = .ok (.aload_n 0, 1) := by decide +kernel
theorem d_Pipe_fromRight_5 : decode b_Pipe_fromRight 5 = .ok (.getfield 18, 3) := by decide +kernel
theorem d_Pipe_fromRight_8 : decode b_Pipe_fromRight 8 = .ok (.iload_n 2, 1) := by decide +kernel
theorem d_Pipe_fromRight_9 : decode b_Pipe_fromRight 9 = .ok (.laload, 1) := by decide +kernel
theorem d_Pipe_fromRight_10 : decode b_Pipe_fromRight 10 = .ok (.aload_n 0, 1) := by decide +kernel
theorem d_Pipe_fromRight_11 : decode b_Pipe_fromRight 11 = .ok (.getfield 9, 3) := by decide +kernel
theorem d_Pipe_fromRight_14 : decode b_Pipe_fromRight 14 = .ok (.i2l, 1) := by decide +kernel
theorem d_Pipe_fromRight_15 : decode b_Pipe_fromRight 15 = .ok (.aload_n 0, 1) := by decide +kernel
theorem d_Pipe_fromRight_16 : decode b_Pipe_fromRight 16 = .ok (.getfield 22, 3) := by decide +kernel
theorem d_Pipe_fromRight_19 : decode b_Pipe_fromRight 19 = .ok (.iload_n 2, 1) := by decide +kernel
theorem d_Pipe_fromRight_20 : decode b_Pipe_fromRight 20 = .ok (.laload, 1) := by decide +kernel
theorem d_Pipe_fromRight_21 : decode b_Pipe_fromRight 21 = .ok (.lmul, 1) := by decide +kernel
theorem d_Pipe_fromRight_22 : decode b_Pipe_fromRight 22 = .ok (.lsub, 1) := by decide +kernel
theorem d_Pipe_fromRight_23 : decode b_Pipe_fromRight 23 = .ok (.aload_n 0, 1) := by decide +kernel
theorem d_Pipe_fromRight_24 : decode b_Pipe_fromRight 24 = .ok (.iload_n 2, 1) := by decide +kernel
theorem d_Pipe_fromRight_25 : decode b_Pipe_fromRight 25 = .ok (.invokevirtual 66, 3) := by decide +kernel
theorem d_Pipe_fromRight_28 : decode b_Pipe_fromRight 28 = .ok (.ladd, 1) := by decide +kernel
theorem d_Pipe_fromRight_29 : decode b_Pipe_fromRight 29 = .ok (.lreturn, 1) := by decide +kernel
theorem d_Pipe_rubbed_0 : decode b_Pipe_rubbed 0 = .ok (.aload_n 0, 1) := by decide +kernel
theorem d_Pipe_rubbed_1 : decode b_Pipe_rubbed 1 = .ok (.getfield 70, 3) := by decide +kernel
theorem d_Pipe_rubbed_4 : decode b_Pipe_rubbed 4 = .ok (.i2l, 1) := by decide +kernel
theorem d_Pipe_rubbed_5 : decode b_Pipe_rubbed 5 = .ok (.aload_n 0, 1) := by decide +kernel
theorem d_Pipe_rubbed_6 : decode b_Pipe_rubbed 6 = .ok (.getfield 22, 3) := by decide +kernel
theorem d_Pipe_rubbed_9 : decode b_Pipe_rubbed 9 = .ok (.iload_n 1, 1) := by decide +kernel
theorem d_Pipe_rubbed_10 : decode b_Pipe_rubbed 10 = .ok (.laload, 1) := by decide +kernel
theorem d_Pipe_rubbed_11 : decode b_Pipe_rubbed 11 = .ok (.lmul, 1) := by decide +kernel
theorem d_Pipe_rubbed_12 : decode b_Pipe_rubbed 12 = .ok (.aload_n 0, 1) := by decide +kernel
theorem d_Pipe_rubbed_13 : decode b_Pipe_rubbed 13 = .ok (.getfield 22, 3) := by decide +kernel
theorem d_Pipe_rubbed_16 : decode b_Pipe_rubbed 16 = .ok (.iload_n 1, 1) := by decide +kernel
theorem d_Pipe_rubbed_17 : decode b_Pipe_rubbed 17 = .ok (.laload, 1) := by decide +kernel
theorem d_Pipe_rubbed_18 : decode b_Pipe_rubbed 18 = .ok (.invokestatic 73, 3) := by decide +kernel
theorem d_Pipe_rubbed_21 : decode b_Pipe_rubbed 21 = .ok (.lmul, 1) := by decide +kernel
theorem d_Pipe_rubbed_22 : decode b_Pipe_rubbed 22 = .ok (.ldc2_w 79, 3) := by decide +kernel
theorem d_Pipe_rubbed_25 : decode b_Pipe_rubbed 25 = .ok (.ldiv, 1) := by decide +kernel
theorem d_Pipe_rubbed_26 : decode b_Pipe_rubbed 26 = .ok (.lreturn, 1) := by decide +kernel
theorem d_Pipe_findReservoir_0 : decode b_Pipe_findReservoir 0 = .ok (.aload_n 0, 1) := by decide +kernel
theorem d_Pipe_findReservoir_1 : decode b_Pipe_findReservoir 1 = .ok (.getfield 31, 3) := by decide +kernel
theorem d_Pipe_findReservoir_4 : decode b_Pipe_findReservoir 4 = .ok (.iconst 0, 1) := by decide +kernel
theorem d_Pipe_findReservoir_5 : decode b_Pipe_findReservoir 5 = .ok (.aload_n 0, 1) := by decide +kernel
theorem d_Pipe_findReservoir_6 : decode b_Pipe_findReservoir 6 = .ok (.getfield 46, 3) := by decide +kernel
theorem d_Pipe_findReservoir_9 : decode b_Pipe_findReservoir 9 = .ok (.i2l, 1) := by decide +kernel
theorem d_Pipe_findReservoir_10 : decode b_Pipe_findReservoir 10 = .ok (.lastore, 1) := by decide +kernel
theorem d_Pipe_findReservoir_11 : decode b_Pipe_findReservoir 11 = .ok (.aload_n 0, 1) := by decide +kernel
theorem d_Pipe_findReservoir_12 : decode b_Pipe_findReservoir 12 = .ok (.getfield 34, 3) := by decide +kernel
theorem d_Pipe_findReservoir_15 : decode b_Pipe_findReservoir 15 = .ok (.iconst 0, 1) := by decide +kernel
theorem d_Pipe_findReservoir_16 : decode b_Pipe_findReservoir 16 = .ok (.aload_n 0, 1) := by decide +kernel
theorem d_Pipe_findReservoir_17 : decode b_Pipe_findReservoir 17 = .ok (.getfield 46, 3) := by decide +kernel
theorem d_Pipe_findReservoir_20 : decode b_Pipe_findReservoir 20 = .ok (.i2l, 1) := by decide +kernel
theorem d_Pipe_findReservoir_21 : decode b_Pipe_findReservoir 21 = .ok (.aload_n 0, 1) := by decide +kernel
theorem d_Pipe_findReservoir_22 : decode b_Pipe_findReservoir 22 = .ok (.iconst 0, 1) := by decide +kernel
theorem d_Pipe_findReservoir_23 : decode b_Pipe_findReservoir 23 = .ok (.invokevirtual 81, 3) := by decide +kernel
theorem d_Pipe_findReservoir_26 : decode b_Pipe_findReservoir 26 = .ok (.lsub, 1) := by decide +kernel
theorem d_Pipe_findReservoir_27 : decode b_Pipe_findReservoir 27 = .ok (.aload_n 0, 1) := by decide +kernel
theorem d_Pipe_findReservoir_28 : decode b_Pipe_findReservoir 28 = .ok (.getfield 9, 3) := by decide +kernel
theorem d_Pipe_findReservoir_31 : decode b_Pipe_findReservoir 31 = .ok (.i2l, 1) := by decide +kernel
theorem d_Pipe_findReservoir_32 : decode b_Pipe_findReservoir 32 = .ok (.ldiv, 1) := by decide +kernel
theorem d_Pipe_findReservoir_33 : decode b_Pipe_findReservoir 33 = .ok (.lastore, 1) := by decide +kernel
theorem d_Pipe_findReservoir_34 : decode b_Pipe_findReservoir 34 = .ok (.aload_n 0, 1) := by decide +kernel
theorem d_Pipe_findReservoir_35 : decode b_Pipe_findReservoir 35 = .ok (.getfield 37, 3) := by decide +kernel
theorem d_Pipe_findReservoir_38 : decode b_Pipe_findReservoir 38 = .ok (.iconst 0, 1) := by decide +kernel
theorem d_Pipe_findReservoir_39 : decode b_Pipe_findReservoir 39 = .ok (.lconst 0, 1) := by decide +kernel
theorem d_Pipe_findReservoir_40 : decode b_Pipe_findReservoir 40 = .ok (.lastore, 1) := by decide +kernel
theorem d_Pipe_findReservoir_41 : decode b_Pipe_findReservoir 41 = .ok (.return_, 1) := by decide +kernel
theorem d_Pipe_findBetween_0 : decode b_Pipe_findBetween 0 = .ok (.aload_n 0, 1) := by decide +kernel
theorem d_Pipe_findBetween_1 : decode b_Pipe_findBetween 1 = .ok (.iload_n 1, 1) := by decide +kernel
theorem d_Pipe_findBetween_2 : decode b_Pipe_findBetween 2 = .ok (.invokevirtual 84, 3) := by decide +kernel
theorem d_Pipe_findBetween_5 : decode b_Pipe_findBetween 5 = .ok (.lstore_n 2, 1) := by decide +kernel
theorem d_Pipe_findBetween_6 : decode b_Pipe_findBetween 6 = .ok (.aload_n 0, 1) := by decide +kernel
theorem d_Pipe_findBetween_7 : decode b_Pipe_findBetween 7 = .ok (.iload_n 1, 1) := by decide +kernel
theorem d_Pipe_findBetween_8 : decode b_Pipe_findBetween 8 = .ok (.invokevirtual 81, 3) := by decide +kernel
theorem d_Pipe_findBetween_11 : decode b_Pipe_findBetween 11 = .ok (.lstore 4, 2) := by decide +kernel
theorem d_Pipe_findBetween_13 : decode b_Pipe_findBetween 13 = .ok (.aload_n 0, 1) := by decide +kernel
theorem d_Pipe_findBetween_14 : decode b_Pipe_findBetween 14 = .ok (.getfield 31, 3) := by decide +kernel
theorem d_Pipe_findBetween_17 : decode b_Pipe_findBetween 17 = .ok (.iload_n 1, 1) := by decide +kernel
theorem d_Pipe_findBetween_18 : decode b_Pipe_findBetween 18 = .ok (.lload_n 2, 1) := by decide +kernel
theorem d_Pipe_findBetween_19 : decode b_Pipe_findBetween 19 = .ok (.lload 4, 2) := by decide +kernel
theorem d_Pipe_findBetween_21 : decode b_Pipe_findBetween 21 = .ok (.ladd, 1) := by decide +kernel
theorem d_Pipe_findBetween_22 : decode b_Pipe_findBetween 22 = .ok (.ldc2_w 87, 3) := by decide +kernel
theorem d_Pipe_findBetween_25 : decode b_Pipe_findBetween 25 = .ok (.invokestatic 89, 3) := by decide +kernel
theorem d_Pipe_findBetween_28 : decode b_Pipe_findBetween 28 = .ok (.lastore, 1) := by decide +kernel
theorem d_Pipe_findBetween_29 : decode b_Pipe_findBetween 29 = .ok (.aload_n 0, 1) := by decide +kernel
theorem d_Pipe_findBetween_30 : decode b_Pipe_findBetween 30 = .ok (.getfield 34, 3) := by decide +kernel
theorem d_Pipe_findBetween_33 : decode b_Pipe_findBetween 33 = .ok (.iload_n 1, 1) := by decide +kernel
theorem d_Pipe_findBetween_34 : decode b_Pipe_findBetween 34 = .ok (.lload_n 2, 1) := by decide +kernel
theorem d_Pipe_findBetween_35 : decode b_Pipe_findBetween 35 = .ok (.lload 4, 2) := by decide +kernel
theorem d_Pipe_findBetween_37 : decode b_Pipe_findBetween 37 = .ok (.lsub, 1) := by decide +kernel
theorem d_Pipe_findBetween_38 : decode b_Pipe_findBetween 38 = .ok (.iconst 2, 1) := by decide +kernel
theorem d_Pipe_findBetween_39 : decode b_Pipe_findBetween 39 = .ok (.aload_n 0, 1) := by decide +kernel
theorem d_Pipe_findBetween_40 : decode b_Pipe_findBetween 40 = .ok (.getfield 9, 3) := by decide +kernel
theorem d_Pipe_findBetween_43 : decode b_Pipe_findBetween 43 = .ok (.imul, 1) := by decide +kernel
theorem d_Pipe_findBetween_44 : decode b_Pipe_findBetween 44 = .ok (.i2l, 1) := by decide +kernel
theorem d_Pipe_findBetween_45 : decode b_Pipe_findBetween 45 = .ok (.ldiv, 1) := by decide +kernel
theorem d_Pipe_findBetween_46 : decode b_Pipe_findBetween 46 = .ok (.lastore, 1) := by decide +kernel
theorem d_Pipe_findBetween_47 : decode b_Pipe_findBetween 47 = .ok (.aload_n 0, 1) := by decide +kernel
theorem d_Pipe_findBetween_48 : decode b_Pipe_findBetween 48 = .ok (.iload_n 1, 1) := by decide +kernel
theorem d_Pipe_findBetween_49 : decode b_Pipe_findBetween 49 = .ok (.lload_n 2, 1) := by decide +kernel
theorem d_Pipe_findBetween_50 : decode b_Pipe_findBetween 50 = .ok (.ldc2_w 93, 3) := by decide +kernel
theorem d_Pipe_findBetween_53 : decode b_Pipe_findBetween 53 = .ok (.lload 4, 2) := by decide +kernel
theorem d_Pipe_findBetween_55 : decode b_Pipe_findBetween 55 = .ok (.lsub, 1) := by decide +kernel
theorem d_Pipe_findBetween_56 : decode b_Pipe_findBetween 56 = .ok (.aload_n 0, 1) := by decide +kernel
theorem d_Pipe_findBetween_57 : decode b_Pipe_findBetween 57 = .ok (.getfield 9, 3) := by decide +kernel
theorem d_Pipe_findBetween_60 : decode b_Pipe_findBetween 60 = .ok (.i2l, 1) := by decide +kernel
theorem d_Pipe_findBetween_61 : decode b_Pipe_findBetween 61 = .ok (.ldiv, 1) := by decide +kernel
theorem d_Pipe_findBetween_62 : decode b_Pipe_findBetween 62 = .ok (.invokevirtual 95, 3) := by decide +kernel
theorem d_Pipe_findBetween_65 : decode b_Pipe_findBetween 65 = .ok (.return_, 1) := by decide +kernel
theorem d_Pipe_findValve_0 : decode b_Pipe_findValve 0 = .ok (.aload_n 0, 1) := by decide +kernel
theorem d_Pipe_findValve_1 : decode b_Pipe_findValve 1 = .ok (.getfield 40, 3) := by decide +kernel
theorem d_Pipe_findValve_4 : decode b_Pipe_findValve 4 = .ok (.iconst 1, 1) := by decide +kernel
theorem d_Pipe_findValve_5 : decode b_Pipe_findValve 5 = .ok (.isub, 1) := by decide +kernel
theorem d_Pipe_findValve_6 : decode b_Pipe_findValve 6 = .ok (.istore_n 1, 1) := by decide +kernel
theorem d_Pipe_findValve_7 : decode b_Pipe_findValve 7 = .ok (.aload_n 0, 1) := by decide +kernel
theorem d_Pipe_findValve_8 : decode b_Pipe_findValve 8 = .ok (.iload_n 1, 1) := by decide +kernel
theorem d_Pipe_findValve_9 : decode b_Pipe_findValve 9 = .ok (.invokevirtual 84, 3) := by decide +kernel
theorem d_Pipe_findValve_12 : decode b_Pipe_findValve 12 = .ok (.lstore_n 2, 1) := by decide +kernel
theorem d_Pipe_findValve_13 : decode b_Pipe_findValve 13 = .ok (.aload_n 0, 1) := by decide +kernel
theorem d_Pipe_findValve_14 : decode b_Pipe_findValve 14 = .ok (.getfield 34, 3) := by decide +kernel
theorem d_Pipe_findValve_17 : decode b_Pipe_findValve 17 = .ok (.iload_n 1, 1) := by decide +kernel
theorem d_Pipe_findValve_18 : decode b_Pipe_findValve 18 = .ok (.lload_n 2, 1) := by decide +kernel
theorem d_Pipe_findValve_19 : decode b_Pipe_findValve 19 = .ok (.lconst 0, 1) := by decide +kernel
theorem d_Pipe_findValve_20 : decode b_Pipe_findValve 20 = .ok (.lcmp, 1) := by decide +kernel
theorem d_Pipe_findValve_21 : decode b_Pipe_findValve 21 = .ok (.ifCond .ge 7, 3) := by decide +kernel
theorem d_Pipe_findValve_24 : decode b_Pipe_findValve 24 = .ok (.lconst 0, 1) := by decide +kernel
theorem d_Pipe_findValve_25 : decode b_Pipe_findValve 25 = .ok (.goto 29, 3) := by decide +kernel
theorem d_Pipe_findValve_28 : decode b_Pipe_findValve 28 = .ok (.aload_n 0, 1) := by decide +kernel
theorem d_Pipe_findValve_29 : decode b_Pipe_findValve 29 = .ok (.getfield 43, 3) := by decide +kernel
theorem d_Pipe_findValve_32 : decode b_Pipe_findValve 32 = .ok (.i2l, 1) := by decide +kernel
theorem d_Pipe_findValve_33 : decode b_Pipe_findValve 33 = .ok (.lload_n 2, 1) := by decide +kernel
theorem d_Pipe_findValve_34 : decode b_Pipe_findValve 34 = .ok (.lmul, 1) := by decide +kernel
theorem d_Pipe_findValve_35 : decode b_Pipe_findValve 35 = .ok (.bipush 100, 2) := by decide +kernel
theorem d_Pipe_findValve_37 : decode b_Pipe_findValve 37 = .ok (.aload_n 0, 1) := by decide +kernel
theorem d_Pipe_findValve_38 : decode b_Pipe_findValve 38 = .ok (.getfield 15, 3) := by decide +kernel
theorem d_Pipe_findValve_41 : decode b_Pipe_findValve 41 = .ok (.imul, 1) := by decide +kernel
theorem d_Pipe_findValve_42 : decode b_Pipe_findValve 42 = .ok (.aload_n 0, 1) := by decide +kernel
theorem d_Pipe_findValve_43 : decode b_Pipe_findValve 43 = .ok (.getfield 43, 3) := by decide +kernel
theorem d_Pipe_findValve_46 : decode b_Pipe_findValve 46 = .ok (.aload_n 0, 1) := by decide +kernel
theorem d_Pipe_findValve_47 : decode b_Pipe_findValve 47 = .ok (.getfield 9, 3) := by decide +kernel
theorem d_Pipe_findValve_50 : decode b_Pipe_findValve 50 = .ok (.imul, 1) := by decide +kernel
theorem d_Pipe_findValve_51 : decode b_Pipe_findValve 51 = .ok (.iadd, 1) := by decide +kernel
theorem d_Pipe_findValve_52 : decode b_Pipe_findValve 52 = .ok (.i2l, 1) := by decide +kernel
theorem d_Pipe_findValve_53 : decode b_Pipe_findValve 53 = .ok (.ldiv, 1) := by decide +kernel
theorem d_Pipe_findValve_54 : decode b_Pipe_findValve 54 = .ok (.lastore, 1) := by decide +kernel
theorem d_Pipe_findValve_55 : decode b_Pipe_findValve 55 = .ok (.aload_n 0, 1) := by decide +kernel
theorem d_Pipe_findValve_56 : decode b_Pipe_findValve 56 = .ok (.getfield 31, 3) := by decide +kernel
theorem d_Pipe_findValve_59 : decode b_Pipe_findValve 59 = .ok (.iload_n 1, 1) := by decide +kernel
theorem d_Pipe_findValve_60 : decode b_Pipe_findValve 60 = .ok (.lload_n 2, 1) := by decide +kernel
theorem d_Pipe_findValve_61 : decode b_Pipe_findValve 61 = .ok (.aload_n 0, 1) := by decide +kernel
theorem d_Pipe_findValve_62 : decode b_Pipe_findValve 62 = .ok (.getfield 9, 3) := by decide +kernel
theorem d_Pipe_findValve_65 : decode b_Pipe_findValve 65 = .ok (.i2l, 1) := by decide +kernel
theorem d_Pipe_findValve_66 : decode b_Pipe_findValve 66 = .ok (.aload_n 0, 1) := by decide +kernel
theorem d_Pipe_findValve_67 : decode b_Pipe_findValve 67 = .ok (.getfield 34, 3) := by decide +kernel
theorem d_Pipe_findValve_70 : decode b_Pipe_findValve 70 = .ok (.iload_n 1, 1) := by decide +kernel
theorem d_Pipe_findValve_71 : decode b_Pipe_findValve 71 = .ok (.laload, 1) := by decide +kernel
theorem d_Pipe_findValve_72 : decode b_Pipe_findValve 72 = .ok (.lmul, 1) := by decide +kernel
theorem d_Pipe_findValve_73 : decode b_Pipe_findValve 73 = .ok (.lsub, 1) := by decide +kernel
theorem d_Pipe_findValve_74 : decode b_Pipe_findValve 74 = .ok (.lastore, 1) := by decide +kernel
theorem d_Pipe_findValve_75 : decode b_Pipe_findValve 75 = .ok (.aload_n 0, 1) := by decide +kernel
theorem d_Pipe_findValve_76 : decode b_Pipe_findValve 76 = .ok (.iload_n 1, 1) := by decide +kernel
theorem d_Pipe_findValve_77 : decode b_Pipe_findValve 77 = .ok (.lload_n 2, 1) := by decide +kernel
theorem d_Pipe_findValve_78 : decode b_Pipe_findValve 78 = .ok (.lconst 0, 1) := by decide +kernel
theorem d_Pipe_findValve_79 : decode b_Pipe_findValve 79 = .ok (.invokevirtual 95, 3) := by decide +kernel
theorem d_Pipe_findValve_82 : decode b_Pipe_findValve 82 = .ok (.return_, 1) := by decide +kernel
theorem d_Pipe_findCavity_0 : decode b_Pipe_findCavity 0 = .ok (.aload_n 0, 1) := by decide +kernel
theorem d_Pipe_findCavity_1 : decode b_Pipe_findCavity 1 = .ok (.getfield 37, 3) := by decide +kernel
theorem d_Pipe_findCavity_4 : decode b_Pipe_findCavity 4 = .ok (.iload_n 1, 1) := by decide +kernel
theorem d_Pipe_findCavity_5 : decode b_Pipe_findCavity 5 = .ok (.lconst 0, 1) := by decide +kernel
theorem d_Pipe_findCavity_6 : decode b_Pipe_findCavity 6 = .ok (.lastore, 1) := by decide +kernel
theorem d_Pipe_findCavity_7 : decode b_Pipe_findCavity 7 = .ok (.aload_n 0, 1) := by decide +kernel
theorem d_Pipe_findCavity_8 : decode b_Pipe_findCavity 8 = .ok (.getfield 25, 3) := by decide +kernel
theorem d_Pipe_findCavity_11 : decode b_Pipe_findCavity 11 = .ok (.iload_n 1, 1) := by decide +kernel
theorem d_Pipe_findCavity_12 : decode b_Pipe_findCavity 12 = .ok (.laload, 1) := by decide +kernel
theorem d_Pipe_findCavity_13 : decode b_Pipe_findCavity 13 = .ok (.lconst 0, 1) := by decide +kernel
theorem d_Pipe_findCavity_14 : decode b_Pipe_findCavity 14 = .ok (.lcmp, 1) := by decide +kernel
theorem d_Pipe_findCavity_15 : decode b_Pipe_findCavity 15 = .ok (.ifCond .gt 17, 3) := by decide +kernel
theorem d_Pipe_findCavity_18 : decode b_Pipe_findCavity 18 = .ok (.aload_n 0, 1) := by decide +kernel
theorem d_Pipe_findCavity_19 : decode b_Pipe_findCavity 19 = .ok (.getfield 31, 3) := by decide +kernel
theorem d_Pipe_findCavity_22 : decode b_Pipe_findCavity 22 = .ok (.iload_n 1, 1) := by decide +kernel
theorem d_Pipe_findCavity_23 : decode b_Pipe_findCavity 23 = .ok (.laload, 1) := by decide +kernel
theorem d_Pipe_findCavity_24 : decode b_Pipe_findCavity 24 = .ok (.ldc2_w 93, 3) := by decide +kernel
theorem d_Pipe_findCavity_27 : decode b_Pipe_findCavity 27 = .ok (.lcmp, 1) := by decide +kernel
theorem d_Pipe_findCavity_28 : decode b_Pipe_findCavity 28 = .ok (.ifCond .lt 4, 3) := by decide +kernel
theorem d_Pipe_findCavity_31 : decode b_Pipe_findCavity 31 = .ok (.return_, 1) := by decide +kernel
theorem d_Pipe_findCavity_32 : decode b_Pipe_findCavity 32 = .ok (.lload_n 2, 1) := by decide +kernel
theorem d_Pipe_findCavity_33 : decode b_Pipe_findCavity 33 = .ok (.ldc2_w 93, 3) := by decide +kernel
theorem d_Pipe_findCavity_36 : decode b_Pipe_findCavity 36 = .ok (.lsub, 1) := by decide +kernel
theorem d_Pipe_findCavity_37 : decode b_Pipe_findCavity 37 = .ok (.aload_n 0, 1) := by decide +kernel
theorem d_Pipe_findCavity_38 : decode b_Pipe_findCavity 38 = .ok (.getfield 9, 3) := by decide +kernel
theorem d_Pipe_findCavity_41 : decode b_Pipe_findCavity 41 = .ok (.i2l, 1) := by decide +kernel
theorem d_Pipe_findCavity_42 : decode b_Pipe_findCavity 42 = .ok (.ldiv, 1) := by decide +kernel
theorem d_Pipe_findCavity_43 : decode b_Pipe_findCavity 43 = .ok (.lstore 6, 2) := by decide +kernel
theorem d_Pipe_findCavity_45 : decode b_Pipe_findCavity 45 = .ok (.aload_n 0, 1) := by decide +kernel
theorem d_Pipe_findCavity_46 : decode b_Pipe_findCavity 46 = .ok (.getfield 25, 3) := by decide +kernel
theorem d_Pipe_findCavity_49 : decode b_Pipe_findCavity 49 = .ok (.iload_n 1, 1) := by decide +kernel
theorem d_Pipe_findCavity_50 : decode b_Pipe_findCavity 50 = .ok (.laload, 1) := by decide +kernel
theorem d_Pipe_findCavity_51 : decode b_Pipe_findCavity 51 = .ok (.lload 4, 2) := by decide +kernel
theorem d_Pipe_findCavity_53 : decode b_Pipe_findCavity 53 = .ok (.ladd, 1) := by decide +kernel
theorem d_Pipe_findCavity_54 : decode b_Pipe_findCavity 54 = .ok (.lload 6, 2) := by decide +kernel
theorem d_Pipe_findCavity_56 : decode b_Pipe_findCavity 56 = .ok (.lsub, 1) := by decide +kernel
theorem d_Pipe_findCavity_57 : decode b_Pipe_findCavity 57 = .ok (.lstore 8, 2) := by decide +kernel
theorem d_Pipe_findCavity_59 : decode b_Pipe_findCavity 59 = .ok (.lload 8, 2) := by decide +kernel
theorem d_Pipe_findCavity_61 : decode b_Pipe_findCavity 61 = .ok (.lconst 0, 1) := by decide +kernel
theorem d_Pipe_findCavity_62 : decode b_Pipe_findCavity 62 = .ok (.lcmp, 1) := by decide +kernel
theorem d_Pipe_findCavity_63 : decode b_Pipe_findCavity 63 = .ok (.ifCond .le 28, 3) := by decide +kernel
theorem d_Pipe_findCavity_66 : decode b_Pipe_findCavity 66 = .ok (.aload_n 0, 1) := by decide +kernel
theorem d_Pipe_findCavity_67 : decode b_Pipe_findCavity 67 = .ok (.getfield 37, 3) := by decide +kernel
theorem d_Pipe_findCavity_70 : decode b_Pipe_findCavity 70 = .ok (.iload_n 1, 1) := by decide +kernel
theorem d_Pipe_findCavity_71 : decode b_Pipe_findCavity 71 = .ok (.lload 8, 2) := by decide +kernel
theorem d_Pipe_findCavity_73 : decode b_Pipe_findCavity 73 = .ok (.lastore, 1) := by decide +kernel
theorem d_Pipe_findCavity_74 : decode b_Pipe_findCavity 74 = .ok (.aload_n 0, 1) := by decide +kernel
theorem d_Pipe_findCavity_75 : decode b_Pipe_findCavity 75 = .ok (.getfield 31, 3) := by decide +kernel
theorem d_Pipe_findCavity_78 : decode b_Pipe_findCavity 78 = .ok (.iload_n 1, 1) := by decide +kernel
theorem d_Pipe_findCavity_79 : decode b_Pipe_findCavity 79 = .ok (.ldc2_w 93, 3) := by decide +kernel
theorem d_Pipe_findCavity_82 : decode b_Pipe_findCavity 82 = .ok (.lastore, 1) := by decide +kernel
theorem d_Pipe_findCavity_83 : decode b_Pipe_findCavity 83 = .ok (.aload_n 0, 1) := by decide +kernel
theorem d_Pipe_findCavity_84 : decode b_Pipe_findCavity 84 = .ok (.getfield 34, 3) := by decide +kernel
theorem d_Pipe_findCavity_87 : decode b_Pipe_findCavity 87 = .ok (.iload_n 1, 1) := by decide +kernel
theorem d_Pipe_findCavity_88 : decode b_Pipe_findCavity 88 = .ok (.lload 4, 2) := by decide +kernel
theorem d_Pipe_findCavity_90 : decode b_Pipe_findCavity 90 = .ok (.lastore, 1) := by decide +kernel
theorem d_Pipe_findCavity_91 : decode b_Pipe_findCavity 91 = .ok (.return_, 1) := by decide +kernel
theorem d_Pipe_isAllowed_0 : decode b_Pipe_isAllowed 0 = .ok (.aload_n 0, 1) := by decide +kernel
theorem d_Pipe_isAllowed_1 : decode b_Pipe_isAllowed 1 = .ok (.getfield 31, 3) := by decide +kernel
theorem d_Pipe_isAllowed_4 : decode b_Pipe_isAllowed 4 = .ok (.iload_n 1, 1) := by decide +kernel
theorem d_Pipe_isAllowed_5 : decode b_Pipe_isAllowed 5 = .ok (.laload, 1) := by decide +kernel
theorem d_Pipe_isAllowed_6 : decode b_Pipe_isAllowed 6 = .ok (.invokestatic 73, 3) := by decide +kernel
theorem d_Pipe_isAllowed_9 : decode b_Pipe_isAllowed 9 = .ok (.ldc2_w 99, 3) := by decide +kernel
theorem d_Pipe_isAllowed_12 : decode b_Pipe_isAllowed 12 = .ok (.lcmp, 1) := by decide +kernel
theorem d_Pipe_isAllowed_13 : decode b_Pipe_isAllowed 13 = .ok (.ifCond .gt 23, 3) := by decide +kernel
theorem d_Pipe_isAllowed_16 : decode b_Pipe_isAllowed 16 = .ok (.aload_n 0, 1) := by decide +kernel
theorem d_Pipe_isAllowed_17 : decode b_Pipe_isAllowed 17 = .ok (.getfield 34, 3) := by decide +kernel
theorem d_Pipe_isAllowed_20 : decode b_Pipe_isAllowed 20 = .ok (.iload_n 1, 1) := by decide +kernel
theorem d_Pipe_isAllowed_21 : decode b_Pipe_isAllowed 21 = .ok (.laload, 1) := by decide +kernel
theorem d_Pipe_isAllowed_22 : decode b_Pipe_isAllowed 22 = .ok (.invokestatic 73, 3) := by decide +kernel
theorem d_Pipe_isAllowed_25 : decode b_Pipe_isAllowed 25 = .ok (.ldc2_w 101, 3) := by decide +kernel
theorem d_Pipe_isAllowed_28 : decode b_Pipe_isAllowed 28 = .ok (.lcmp, 1) := by decide +kernel
theorem d_Pipe_isAllowed_29 : decode b_Pipe_isAllowed 29 = .ok (.ifCond .gt 7, 3) := by decide +kernel
theorem d_Pipe_isAllowed_32 : decode b_Pipe_isAllowed 32 = .ok (.iconst 1, 1) := by decide +kernel
theorem d_Pipe_isAllowed_33 : decode b_Pipe_isAllowed 33 = .ok (.goto 4, 3) := by decide +kernel
theorem d_Pipe_isAllowed_36 : decode b_Pipe_isAllowed 36 = .ok (.iconst 0, 1) := by decide +kernel
theorem d_Pipe_isAllowed_37 : decode b_Pipe_isAllowed 37 = .ok (.ireturn, 1) := by decide +kernel
theorem d_Pipe_take_0 : decode b_Pipe_take 0 = .ok (.aload_n 0, 1) := by decide +kernel
theorem d_Pipe_take_1 : decode b_Pipe_take 1 = .ok (.getfield 31, 3) := by decide +kernel
theorem d_Pipe_take_4 : decode b_Pipe_take 4 = .ok (.aload_n 0, 1) := by decide +kernel
theorem d_Pipe_take_5 : decode b_Pipe_take 5 = .ok (.getfield 18, 3) := by decide +kernel
theorem d_Pipe_take_8 : decode b_Pipe_take 8 = .ok (.invokestatic 103, 3) := by decide +kernel
theorem d_Pipe_take_11 : decode b_Pipe_take 11 = .ok (.aload_n 0, 1) := by decide +kernel
theorem d_Pipe_take_12 : decode b_Pipe_take 12 = .ok (.getfield 34, 3) := by decide +kernel
theorem d_Pipe_take_15 : decode b_Pipe_take 15 = .ok (.aload_n 0, 1) := by decide +kernel
theorem d_Pipe_take_16 : decode b_Pipe_take 16 = .ok (.getfield 22, 3) := by decide +kernel
theorem d_Pipe_take_19 : decode b_Pipe_take 19 = .ok (.invokestatic 103, 3) := by decide +kernel
theorem d_Pipe_take_22 : decode b_Pipe_take 22 = .ok (.aload_n 0, 1) := by decide +kernel
theorem d_Pipe_take_23 : decode b_Pipe_take 23 = .ok (.getfield 37, 3) := by decide +kernel
theorem d_Pipe_take_26 : decode b_Pipe_take 26 = .ok (.aload_n 0, 1) := by decide +kernel
theorem d_Pipe_take_27 : decode b_Pipe_take 27 = .ok (.getfield 25, 3) := by decide +kernel
theorem d_Pipe_take_30 : decode b_Pipe_take 30 = .ok (.invokestatic 103, 3) := by decide +kernel
theorem d_Pipe_take_33 : decode b_Pipe_take 33 = .ok (.iconst 0, 1) := by decide +kernel
theorem d_Pipe_take_34 : decode b_Pipe_take 34 = .ok (.istore_n 1, 1) := by decide +kernel
theorem d_Pipe_take_35 : decode b_Pipe_take 35 = .ok (.iload_n 1, 1) := by decide +kernel
theorem d_Pipe_take_36 : decode b_Pipe_take 36 = .ok (.aload_n 0, 1) := by decide +kernel
theorem d_Pipe_take_37 : decode b_Pipe_take 37 = .ok (.getfield 40, 3) := by decide +kernel
theorem d_Pipe_take_40 : decode b_Pipe_take 40 = .ok (.if_icmp .ge 30, 3) := by decide +kernel
theorem d_Pipe_take_43 : decode b_Pipe_take 43 = .ok (.aload_n 0, 1) := by decide +kernel
theorem d_Pipe_take_44 : decode b_Pipe_take 44 = .ok (.getfield 28, 3) := by decide +kernel
theorem d_Pipe_take_47 : decode b_Pipe_take 47 = .ok (.iload_n 1, 1) := by decide +kernel
theorem d_Pipe_take_48 : decode b_Pipe_take 48 = .ok (.aload_n 0, 1) := by decide +kernel
theorem d_Pipe_take_49 : decode b_Pipe_take 49 = .ok (.getfield 28, 3) := by decide +kernel
theorem d_Pipe_take_52 : decode b_Pipe_take 52 = .ok (.iload_n 1, 1) := by decide +kernel
theorem d_Pipe_take_53 : decode b_Pipe_take 53 = .ok (.laload, 1) := by decide +kernel
theorem d_Pipe_take_54 : decode b_Pipe_take 54 = .ok (.aload_n 0, 1) := by decide +kernel
theorem d_Pipe_take_55 : decode b_Pipe_take 55 = .ok (.getfield 18, 3) := by decide +kernel
theorem d_Pipe_take_58 : decode b_Pipe_take 58 = .ok (.iload_n 1, 1) := by decide +kernel
theorem d_Pipe_take_59 : decode b_Pipe_take 59 = .ok (.laload, 1) := by decide +kernel
theorem d_Pipe_take_60 : decode b_Pipe_take 60 = .ok (.invokestatic 107, 3) := by decide +kernel
theorem d_Pipe_take_63 : decode b_Pipe_take 63 = .ok (.lastore, 1) := by decide +kernel
theorem d_Pipe_take_64 : decode b_Pipe_take 64 = .ok (.iinc 1 1, 3) := by decide +kernel
theorem d_Pipe_take_67 : decode b_Pipe_take 67 = .ok (.goto (-32), 3) := by decide +kernel
theorem d_Pipe_take_70 : decode b_Pipe_take 70 = .ok (.return_, 1) := by decide +kernel
theorem d_Pipe_tells_0 : decode b_Pipe_tells 0 = .ok (.iload_n 2, 1) := by decide +kernel
theorem d_Pipe_tells_1 : decode b_Pipe_tells 1 = .ok (.tableswitch 48 0 2 #[27, 34, 41], 27) := by decide +kernel
theorem d_Pipe_tells_28 : decode b_Pipe_tells 28 = .ok (.aload_n 0, 1) := by decide +kernel
theorem d_Pipe_tells_29 : decode b_Pipe_tells 29 = .ok (.getfield 18, 3) := by decide +kernel
theorem d_Pipe_tells_32 : decode b_Pipe_tells 32 = .ok (.iload_n 1, 1) := by decide +kernel
theorem d_Pipe_tells_33 : decode b_Pipe_tells 33 = .ok (.laload, 1) := by decide +kernel
theorem d_Pipe_tells_34 : decode b_Pipe_tells 34 = .ok (.lreturn, 1) := by decide +kernel
theorem d_Pipe_tells_35 : decode b_Pipe_tells 35 = .ok (.aload_n 0, 1) := by decide +kernel
theorem d_Pipe_tells_36 : decode b_Pipe_tells 36 = .ok (.getfield 22, 3) := by decide +kernel
theorem d_Pipe_tells_39 : decode b_Pipe_tells 39 = .ok (.iload_n 1, 1) := by decide +kernel
theorem d_Pipe_tells_40 : decode b_Pipe_tells 40 = .ok (.laload, 1) := by decide +kernel
theorem d_Pipe_tells_41 : decode b_Pipe_tells 41 = .ok (.lreturn, 1) := by decide +kernel
theorem d_Pipe_tells_42 : decode b_Pipe_tells 42 = .ok (.aload_n 0, 1) := by decide +kernel
theorem d_Pipe_tells_43 : decode b_Pipe_tells 43 = .ok (.getfield 25, 3) := by decide +kernel
theorem d_Pipe_tells_46 : decode b_Pipe_tells 46 = .ok (.iload_n 1, 1) := by decide +kernel
theorem d_Pipe_tells_47 : decode b_Pipe_tells 47 = .ok (.laload, 1) := by decide +kernel
theorem d_Pipe_tells_48 : decode b_Pipe_tells 48 = .ok (.lreturn, 1) := by decide +kernel
theorem d_Pipe_tells_49 : decode b_Pipe_tells 49 = .ok (.aload_n 0, 1) := by decide +kernel
theorem d_Pipe_tells_50 : decode b_Pipe_tells 50 = .ok (.getfield 28, 3) := by decide +kernel
theorem d_Pipe_tells_53 : decode b_Pipe_tells 53 = .ok (.iload_n 1, 1) := by decide +kernel
theorem d_Pipe_tells_54 : decode b_Pipe_tells 54 = .ok (.laload, 1) := by decide +kernel
theorem d_Pipe_tells_55 : decode b_Pipe_tells 55 = .ok (.lreturn, 1) := by decide +kernel
theorem d_Pipe_copyFrom_0 : decode b_Pipe_copyFrom 0 = .ok (.aload_n 0, 1) := by decide +kernel
theorem d_Pipe_copyFrom_1 : decode b_Pipe_copyFrom 1 = .ok (.aload_n 1, 1) := by decide +kernel
theorem d_Pipe_copyFrom_2 : decode b_Pipe_copyFrom 2 = .ok (.getfield 40, 3) := by decide +kernel
theorem d_Pipe_copyFrom_5 : decode b_Pipe_copyFrom 5 = .ok (.putfield 40, 3) := by decide +kernel
theorem d_Pipe_copyFrom_8 : decode b_Pipe_copyFrom 8 = .ok (.aload_n 0, 1) := by decide +kernel
theorem d_Pipe_copyFrom_9 : decode b_Pipe_copyFrom 9 = .ok (.aload_n 1, 1) := by decide +kernel
theorem d_Pipe_copyFrom_10 : decode b_Pipe_copyFrom 10 = .ok (.getfield 9, 3) := by decide +kernel
theorem d_Pipe_copyFrom_13 : decode b_Pipe_copyFrom 13 = .ok (.putfield 9, 3) := by decide +kernel
theorem d_Pipe_copyFrom_16 : decode b_Pipe_copyFrom 16 = .ok (.aload_n 0, 1) := by decide +kernel
theorem d_Pipe_copyFrom_17 : decode b_Pipe_copyFrom 17 = .ok (.aload_n 1, 1) := by decide +kernel
theorem d_Pipe_copyFrom_18 : decode b_Pipe_copyFrom 18 = .ok (.getfield 70, 3) := by decide +kernel
theorem d_Pipe_copyFrom_21 : decode b_Pipe_copyFrom 21 = .ok (.putfield 70, 3) := by decide +kernel
theorem d_Pipe_copyFrom_24 : decode b_Pipe_copyFrom 24 = .ok (.aload_n 0, 1) := by decide +kernel
theorem d_Pipe_copyFrom_25 : decode b_Pipe_copyFrom 25 = .ok (.aload_n 1, 1) := by decide +kernel
theorem d_Pipe_copyFrom_26 : decode b_Pipe_copyFrom 26 = .ok (.getfield 15, 3) := by decide +kernel
theorem d_Pipe_copyFrom_29 : decode b_Pipe_copyFrom 29 = .ok (.putfield 15, 3) := by decide +kernel
theorem d_Pipe_copyFrom_32 : decode b_Pipe_copyFrom 32 = .ok (.aload_n 0, 1) := by decide +kernel
theorem d_Pipe_copyFrom_33 : decode b_Pipe_copyFrom 33 = .ok (.aload_n 1, 1) := by decide +kernel
theorem d_Pipe_copyFrom_34 : decode b_Pipe_copyFrom 34 = .ok (.getfield 43, 3) := by decide +kernel
theorem d_Pipe_copyFrom_37 : decode b_Pipe_copyFrom 37 = .ok (.putfield 43, 3) := by decide +kernel
theorem d_Pipe_copyFrom_40 : decode b_Pipe_copyFrom 40 = .ok (.aload_n 0, 1) := by decide +kernel
theorem d_Pipe_copyFrom_41 : decode b_Pipe_copyFrom 41 = .ok (.aload_n 1, 1) := by decide +kernel
theorem d_Pipe_copyFrom_42 : decode b_Pipe_copyFrom 42 = .ok (.getfield 46, 3) := by decide +kernel
theorem d_Pipe_copyFrom_45 : decode b_Pipe_copyFrom 45 = .ok (.putfield 46, 3) := by decide +kernel
theorem d_Pipe_copyFrom_48 : decode b_Pipe_copyFrom 48 = .ok (.aload_n 1, 1) := by decide +kernel
theorem d_Pipe_copyFrom_49 : decode b_Pipe_copyFrom 49 = .ok (.getfield 18, 3) := by decide +kernel
theorem d_Pipe_copyFrom_52 : decode b_Pipe_copyFrom 52 = .ok (.aload_n 0, 1) := by decide +kernel
theorem d_Pipe_copyFrom_53 : decode b_Pipe_copyFrom 53 = .ok (.getfield 18, 3) := by decide +kernel
theorem d_Pipe_copyFrom_56 : decode b_Pipe_copyFrom 56 = .ok (.invokestatic 103, 3) := by decide +kernel
theorem d_Pipe_copyFrom_59 : decode b_Pipe_copyFrom 59 = .ok (.aload_n 1, 1) := by decide +kernel
theorem d_Pipe_copyFrom_60 : decode b_Pipe_copyFrom 60 = .ok (.getfield 22, 3) := by decide +kernel
theorem d_Pipe_copyFrom_63 : decode b_Pipe_copyFrom 63 = .ok (.aload_n 0, 1) := by decide +kernel
theorem d_Pipe_copyFrom_64 : decode b_Pipe_copyFrom 64 = .ok (.getfield 22, 3) := by decide +kernel
theorem d_Pipe_copyFrom_67 : decode b_Pipe_copyFrom 67 = .ok (.invokestatic 103, 3) := by decide +kernel
theorem d_Pipe_copyFrom_70 : decode b_Pipe_copyFrom 70 = .ok (.aload_n 1, 1) := by decide +kernel
theorem d_Pipe_copyFrom_71 : decode b_Pipe_copyFrom 71 = .ok (.getfield 25, 3) := by decide +kernel
theorem d_Pipe_copyFrom_74 : decode b_Pipe_copyFrom 74 = .ok (.aload_n 0, 1) := by decide +kernel
theorem d_Pipe_copyFrom_75 : decode b_Pipe_copyFrom 75 = .ok (.getfield 25, 3) := by decide +kernel
theorem d_Pipe_copyFrom_78 : decode b_Pipe_copyFrom 78 = .ok (.invokestatic 103, 3) := by decide +kernel
theorem d_Pipe_copyFrom_81 : decode b_Pipe_copyFrom 81 = .ok (.aload_n 1, 1) := by decide +kernel
theorem d_Pipe_copyFrom_82 : decode b_Pipe_copyFrom 82 = .ok (.getfield 28, 3) := by decide +kernel
theorem d_Pipe_copyFrom_85 : decode b_Pipe_copyFrom 85 = .ok (.aload_n 0, 1) := by decide +kernel
theorem d_Pipe_copyFrom_86 : decode b_Pipe_copyFrom 86 = .ok (.getfield 28, 3) := by decide +kernel
theorem d_Pipe_copyFrom_89 : decode b_Pipe_copyFrom 89 = .ok (.invokestatic 103, 3) := by decide +kernel
theorem d_Pipe_copyFrom_92 : decode b_Pipe_copyFrom 92 = .ok (.return_, 1) := by decide +kernel
theorem d_Row_init_0 : decode b_Row_init 0 = .ok (.aload_n 0, 1) := by decide +kernel
theorem d_Row_init_1 : decode b_Row_init 1 = .ok (.invokespecial 3, 3) := by decide +kernel
theorem d_Row_init_4 : decode b_Row_init 4 = .ok (.aload_n 0, 1) := by decide +kernel
theorem d_Row_init_5 : decode b_Row_init 5 = .ok (.bipush 8, 2) := by decide +kernel
theorem d_Row_init_7 : decode b_Row_init 7 = .ok (.newarray .int, 2) := by decide +kernel
theorem d_Row_init_9 : decode b_Row_init 9 = .ok (.putfield 9, 3) := by decide +kernel
theorem d_Row_init_12 : decode b_Row_init 12 = .ok (.aload_n 0, 1) := by decide +kernel
theorem d_Row_init_13 : decode b_Row_init 13 = .ok (.bipush 8, 2) := by decide +kernel
theorem d_Row_init_15 : decode b_Row_init 15 = .ok (.newarray .int, 2) := by decide +kernel
theorem d_Row_init_17 : decode b_Row_init 17 = .ok (.putfield 15, 3) := by decide +kernel
theorem d_Row_init_20 : decode b_Row_init 20 = .ok (.aload_n 0, 1) := by decide +kernel
theorem d_Row_init_21 : decode b_Row_init 21 = .ok (.bipush 8, 2) := by decide +kernel
theorem d_Row_init_23 : decode b_Row_init 23 = .ok (.newarray .int, 2) := by decide +kernel
theorem d_Row_init_25 : decode b_Row_init 25 = .ok (.putfield 18, 3) := by decide +kernel
theorem d_Row_init_28 : decode b_Row_init 28 = .ok (.aload_n 0, 1) := by decide +kernel
theorem d_Row_init_29 : decode b_Row_init 29 = .ok (.bipush 8, 2) := by decide +kernel
theorem d_Row_init_31 : decode b_Row_init 31 = .ok (.newarray .int, 2) := by decide +kernel
theorem d_Row_init_33 : decode b_Row_init 33 = .ok (.putfield 21, 3) := by decide +kernel
theorem d_Row_init_36 : decode b_Row_init 36 = .ok (.aload_n 0, 1) := by decide +kernel
theorem d_Row_init_37 : decode b_Row_init 37 = .ok (.bipush 8, 2) := by decide +kernel
theorem d_Row_init_39 : decode b_Row_init 39 = .ok (.newarray .int, 2) := by decide +kernel
theorem d_Row_init_41 : decode b_Row_init 41 = .ok (.putfield 24, 3) := by decide +kernel
theorem d_Row_init_44 : decode b_Row_init 44 = .ok (.return_, 1) := by decide +kernel
theorem d_Row_placeFor_0 : decode b_Row_placeFor 0 = .ok (.iconst 0, 1) := by decide +kernel
theorem d_Row_placeFor_1 : decode b_Row_placeFor 1 = .ok (.istore_n 2, 1) := by decide +kernel
theorem d_Row_placeFor_2 : decode b_Row_placeFor 2 = .ok (.iconst 0, 1) := by decide +kernel
theorem d_Row_placeFor_3 : decode b_Row_placeFor 3 = .ok (.istore_n 3, 1) := by decide +kernel
theorem d_Row_placeFor_4 : decode b_Row_placeFor 4 = .ok (.iload_n 3, 1) := by decide +kernel
theorem d_Row_placeFor_5 : decode b_Row_placeFor 5 = .ok (.aload_n 0, 1) := by decide +kernel
theorem d_Row_placeFor_6 : decode b_Row_placeFor 6 = .ok (.getfield 27, 3) := by decide +kernel
theorem d_Row_placeFor_9 : decode b_Row_placeFor 9 = .ok (.if_icmp .ge 23, 3) := by decide +kernel
theorem d_Row_placeFor_12 : decode b_Row_placeFor 12 = .ok (.aload_n 0, 1) := by decide +kernel
theorem d_Row_placeFor_13 : decode b_Row_placeFor 13 = .ok (.getfield 15, 3) := by decide +kernel
theorem d_Row_placeFor_16 : decode b_Row_placeFor 16 = .ok (.iload_n 3, 1) := by decide +kernel
theorem d_Row_placeFor_17 : decode b_Row_placeFor 17 = .ok (.iaload, 1) := by decide +kernel
theorem d_Row_placeFor_18 : decode b_Row_placeFor 18 = .ok (.iload_n 1, 1) := by decide +kernel
theorem d_Row_placeFor_19 : decode b_Row_placeFor 19 = .ok (.if_icmp .gt 7, 3) := by decide +kernel
theorem d_Row_placeFor_22 : decode b_Row_placeFor 22 = .ok (.iload_n 3, 1) := by decide +kernel
theorem d_Row_placeFor_23 : decode b_Row_placeFor 23 = .ok (.iconst 1, 1) := by decide +kernel
theorem d_Row_placeFor_24 : decode b_Row_placeFor 24 = .ok (.iadd, 1) := by decide +kernel
theorem d_Row_placeFor_25 : decode b_Row_placeFor 25 = .ok (.istore_n 2, 1) := by decide +kernel
theorem d_Row_placeFor_26 : decode b_Row_placeFor 26 = .ok (.iinc 3 1, 3) := by decide +kernel
theorem d_Row_placeFor_29 : decode b_Row_placeFor 29 = .ok (.goto (-25), 3) := by decide +kernel
theorem d_Row_placeFor_32 : decode b_Row_placeFor 32 = .ok (.iload_n 2, 1) := by decide +kernel
theorem d_Row_placeFor_33 : decode b_Row_placeFor 33 = .ok (.ireturn, 1) := by decide +kernel
theorem d_Row_putIn_0 : decode b_Row_putIn 0 = .ok (.aload_n 0, 1) := by decide +kernel
theorem d_Row_putIn_1 : decode b_Row_putIn 1 = .ok (.getfield 27, 3) := by decide +kernel
theorem d_Row_putIn_4 : decode b_Row_putIn 4 = .ok (.istore 6, 2) := by decide +kernel
theorem d_Row_putIn_6 : decode b_Row_putIn 6 = .ok (.iload 6, 2) := by decide +kernel
theorem d_Row_putIn_8 : decode b_Row_putIn 8 = .ok (.iload_n 1, 1) := by decide +kernel
theorem d_Row_putIn_9 : decode b_Row_putIn 9 = .ok (.if_icmp .le 19, 3) := by decide +kernel
theorem d_Row_putIn_12 : decode b_Row_putIn 12 = .ok (.aload_n 0, 1) := by decide +kernel
theorem d_Row_putIn_13 : decode b_Row_putIn 13 = .ok (.iload 6, 2) := by decide +kernel
theorem d_Row_putIn_15 : decode b_Row_putIn 15 = .ok (.iconst 1, 1) := by decide +kernel
theorem d_Row_putIn_16 : decode b_Row_putIn 16 = .ok (.isub, 1) := by decide +kernel
theorem d_Row_putIn_17 : decode b_Row_putIn 17 = .ok (.iload 6, 2) := by decide +kernel
theorem d_Row_putIn_19 : decode b_Row_putIn 19 = .ok (.invokevirtual 31, 3) := by decide +kernel
theorem d_Row_putIn_22 : decode b_Row_putIn 22 = .ok (.iinc 6 (-1), 3) := by decide +kernel
theorem d_Row_putIn_25 : decode b_Row_putIn 25 = .ok (.goto (-19), 3) := by decide +kernel
theorem d_Row_putIn_28 : decode b_Row_putIn 28 = .ok (.aload_n 0, 1) := by decide +kernel
theorem d_Row_putIn_29 : decode b_Row_putIn 29 = .ok (.dup, 1) := by decide +kernel
theorem d_Row_putIn_30 : decode b_Row_putIn 30 = .ok (.getfield 27, 3) := by decide +kernel
theorem d_Row_putIn_33 : decode b_Row_putIn 33 = .ok (.iconst 1, 1) := by decide +kernel
theorem d_Row_putIn_34 : decode b_Row_putIn 34 = .ok (.iadd, 1) := by decide +kernel
theorem d_Row_putIn_35 : decode b_Row_putIn 35 = .ok (.putfield 27, 3) := by decide +kernel
theorem d_Row_putIn_38 : decode b_Row_putIn 38 = .ok (.aload_n 0, 1) := by decide +kernel
theorem d_Row_putIn_39 : decode b_Row_putIn 39 = .ok (.getfield 9, 3) := by decide +kernel
theorem d_Row_putIn_42 : decode b_Row_putIn 42 = .ok (.iload_n 1, 1) := by decide +kernel
theorem d_Row_putIn_43 : decode b_Row_putIn 43 = .ok (.iload_n 2, 1) := by decide +kernel
theorem d_Row_putIn_44 : decode b_Row_putIn 44 = .ok (.iastore, 1) := by decide +kernel
theorem d_Row_putIn_45 : decode b_Row_putIn 45 = .ok (.aload_n 0, 1) := by decide +kernel
theorem d_Row_putIn_46 : decode b_Row_putIn 46 = .ok (.getfield 15, 3) := by decide +kernel
theorem d_Row_putIn_49 : decode b_Row_putIn 49 = .ok (.iload_n 1, 1) := by decide +kernel
theorem d_Row_putIn_50 : decode b_Row_putIn 50 = .ok (.iload_n 3, 1) := by decide +kernel
theorem d_Row_putIn_51 : decode b_Row_putIn 51 = .ok (.iastore, 1) := by decide +kernel
theorem d_Row_putIn_52 : decode b_Row_putIn 52 = .ok (.aload_n 0, 1) := by decide +kernel
theorem d_Row_putIn_53 : decode b_Row_putIn 53 = .ok (.getfield 18, 3) := by decide +kernel
theorem d_Row_putIn_56 : decode b_Row_putIn 56 = .ok (.iload_n 1, 1) := by decide +kernel
theorem d_Row_putIn_57 : decode b_Row_putIn 57 = .ok (.iload_n 3, 1) := by decide +kernel
theorem d_Row_putIn_58 : decode b_Row_putIn 58 = .ok (.iastore, 1) := by decide +kernel
theorem d_Row_putIn_59 : decode b_Row_putIn 59 = .ok (.aload_n 0, 1) := by decide +kernel
theorem d_Row_putIn_60 : decode b_Row_putIn 60 = .ok (.getfield 21, 3) := by decide +kernel
theorem d_Row_putIn_63 : decode b_Row_putIn 63 = .ok (.iload_n 1, 1) := by decide +kernel
theorem d_Row_putIn_64 : decode b_Row_putIn 64 = .ok (.iload 4, 2) := by decide +kernel
theorem d_Row_putIn_66 : decode b_Row_putIn 66 = .ok (.iastore, 1) := by decide +kernel
theorem d_Row_putIn_67 : decode b_Row_putIn 67 = .ok (.aload_n 0, 1) := by decide +kernel
theorem d_Row_putIn_68 : decode b_Row_putIn 68 = .ok (.getfield 24, 3) := by decide +kernel
theorem d_Row_putIn_71 : decode b_Row_putIn 71 = .ok (.iload_n 1, 1) := by decide +kernel
theorem d_Row_putIn_72 : decode b_Row_putIn 72 = .ok (.iload 5, 2) := by decide +kernel
theorem d_Row_putIn_74 : decode b_Row_putIn 74 = .ok (.iastore, 1) := by decide +kernel
theorem d_Row_putIn_75 : decode b_Row_putIn 75 = .ok (.return_, 1) := by decide +kernel
theorem d_Row_takeOut_0 : decode b_Row_takeOut 0 = .ok (.aload_n 0, 1) := by decide +kernel
theorem d_Row_takeOut_1 : decode b_Row_takeOut 1 = .ok (.dup, 1) := by decide +kernel
theorem d_Row_takeOut_2 : decode b_Row_takeOut 2 = .ok (.getfield 27, 3) := by decide +kernel
theorem d_Row_takeOut_5 : decode b_Row_takeOut 5 = .ok (.iconst 1, 1) := by decide +kernel
theorem d_Row_takeOut_6 : decode b_Row_takeOut 6 = .ok (.isub, 1) := by decide +kernel
theorem d_Row_takeOut_7 : decode b_Row_takeOut 7 = .ok (.putfield 27, 3) := by decide +kernel
theorem d_Row_takeOut_10 : decode b_Row_takeOut 10 = .ok (.iload_n 1, 1) := by decide +kernel
theorem d_Row_takeOut_11 : decode b_Row_takeOut 11 = .ok (.istore_n 2, 1) := by decide +kernel
theorem d_Row_takeOut_12 : decode b_Row_takeOut 12 = .ok (.iload_n 2, 1) := by decide +kernel
theorem d_Row_takeOut_13 : decode b_Row_takeOut 13 = .ok (.aload_n 0, 1) := by decide +kernel
theorem d_Row_takeOut_14 : decode b_Row_takeOut 14 = .ok (.getfield 27, 3) := by decide +kernel
theorem d_Row_takeOut_17 : decode b_Row_takeOut 17 = .ok (.if_icmp .ge 17, 3) := by decide +kernel
theorem d_Row_takeOut_20 : decode b_Row_takeOut 20 = .ok (.aload_n 0, 1) := by decide +kernel
theorem d_Row_takeOut_21 : decode b_Row_takeOut 21 = .ok (.iload_n 2, 1) := by decide +kernel
theorem d_Row_takeOut_22 : decode b_Row_takeOut 22 = .ok (.iconst 1, 1) := by decide +kernel
theorem d_Row_takeOut_23 : decode b_Row_takeOut 23 = .ok (.iadd, 1) := by decide +kernel
theorem d_Row_takeOut_24 : decode b_Row_takeOut 24 = .ok (.iload_n 2, 1) := by decide +kernel
theorem d_Row_takeOut_25 : decode b_Row_takeOut 25 = .ok (.invokevirtual 31, 3) := by decide +kernel
theorem d_Row_takeOut_28 : decode b_Row_takeOut 28 = .ok (.iinc 2 1, 3) := by decide +kernel
theorem d_Row_takeOut_31 : decode b_Row_takeOut 31 = .ok (.goto (-19), 3) := by decide +kernel
theorem d_Row_takeOut_34 : decode b_Row_takeOut 34 = .ok (.return_, 1) := by decide +kernel
theorem d_Row_copyFront_0 : decode b_Row_copyFront 0 = .ok (.aload_n 0, 1) := by decide +kernel
theorem d_Row_copyFront_1 : decode b_Row_copyFront 1 = .ok (.getfield 9, 3) := by decide +kernel
theorem d_Row_copyFront_4 : decode b_Row_copyFront 4 = .ok (.iload_n 2, 1) := by decide +kernel
theorem d_Row_copyFront_5 : decode b_Row_copyFront 5 = .ok (.aload_n 0, 1) := by decide +kernel
theorem d_Row_copyFront_6 : decode b_Row_copyFront 6 = .ok (.getfield 9, 3) := by decide +kernel
theorem d_Row_copyFront_9 : decode b_Row_copyFront 9 = .ok (.iload_n 1, 1) := by decide +kernel
theorem d_Row_copyFront_10 : decode b_Row_copyFront 10 = .ok (.iaload, 1) := by decide +kernel
theorem d_Row_copyFront_11 : decode b_Row_copyFront 11 = .ok (.iastore, 1) := by decide +kernel
theorem d_Row_copyFront_12 : decode b_Row_copyFront 12 = .ok (.aload_n 0, 1) := by decide +kernel
theorem d_Row_copyFront_13 : decode b_Row_copyFront 13 = .ok (.getfield 15, 3) := by decide +kernel
theorem d_Row_copyFront_16 : decode b_Row_copyFront 16 = .ok (.iload_n 2, 1) := by decide +kernel
theorem d_Row_copyFront_17 : decode b_Row_copyFront 17 = .ok (.aload_n 0, 1) := by decide +kernel
theorem d_Row_copyFront_18 : decode b_Row_copyFront 18 = .ok (.getfield 15, 3) := by decide +kernel
theorem d_Row_copyFront_21 : decode b_Row_copyFront 21 = .ok (.iload_n 1, 1) := by decide +kernel
theorem d_Row_copyFront_22 : decode b_Row_copyFront 22 = .ok (.iaload, 1) := by decide +kernel
theorem d_Row_copyFront_23 : decode b_Row_copyFront 23 = .ok (.iastore, 1) := by decide +kernel
theorem d_Row_copyFront_24 : decode b_Row_copyFront 24 = .ok (.aload_n 0, 1) := by decide +kernel
theorem d_Row_copyFront_25 : decode b_Row_copyFront 25 = .ok (.getfield 18, 3) := by decide +kernel
theorem d_Row_copyFront_28 : decode b_Row_copyFront 28 = .ok (.iload_n 2, 1) := by decide +kernel
theorem d_Row_copyFront_29 : decode b_Row_copyFront 29 = .ok (.aload_n 0, 1) := by decide +kernel
theorem d_Row_copyFront_30 : decode b_Row_copyFront 30 = .ok (.getfield 18, 3) := by decide +kernel
theorem d_Row_copyFront_33 : decode b_Row_copyFront 33 = .ok (.iload_n 1, 1) := by decide +kernel
theorem d_Row_copyFront_34 : decode b_Row_copyFront 34 = .ok (.iaload, 1) := by decide +kernel
theorem d_Row_copyFront_35 : decode b_Row_copyFront 35 = .ok (.iastore, 1) := by decide +kernel
theorem d_Row_copyFront_36 : decode b_Row_copyFront 36 = .ok (.aload_n 0, 1) := by decide +kernel
theorem d_Row_copyFront_37 : decode b_Row_copyFront 37 = .ok (.getfield 21, 3) := by decide +kernel
theorem d_Row_copyFront_40 : decode b_Row_copyFront 40 = .ok (.iload_n 2, 1) := by decide +kernel
theorem d_Row_copyFront_41 : decode b_Row_copyFront 41 = .ok (.aload_n 0, 1) := by decide +kernel
theorem d_Row_copyFront_42 : decode b_Row_copyFront 42 = .ok (.getfield 21, 3) := by decide +kernel
theorem d_Row_copyFront_45 : decode b_Row_copyFront 45 = .ok (.iload_n 1, 1) := by decide +kernel
theorem d_Row_copyFront_46 : decode b_Row_copyFront 46 = .ok (.iaload, 1) := by decide +kernel
theorem d_Row_copyFront_47 : decode b_Row_copyFront 47 = .ok (.iastore, 1) := by decide +kernel
theorem d_Row_copyFront_48 : decode b_Row_copyFront 48 = .ok (.aload_n 0, 1) := by decide +kernel
theorem d_Row_copyFront_49 : decode b_Row_copyFront 49 = .ok (.getfield 24, 3) := by decide +kernel
theorem d_Row_copyFront_52 : decode b_Row_copyFront 52 = .ok (.iload_n 2, 1) := by decide +kernel
theorem d_Row_copyFront_53 : decode b_Row_copyFront 53 = .ok (.aload_n 0, 1) := by decide +kernel
theorem d_Row_copyFront_54 : decode b_Row_copyFront 54 = .ok (.getfield 24, 3) := by decide +kernel
theorem d_Row_copyFront_57 : decode b_Row_copyFront 57 = .ok (.iload_n 1, 1) := by decide +kernel
theorem d_Row_copyFront_58 : decode b_Row_copyFront 58 = .ok (.iaload, 1) := by decide +kernel
theorem d_Row_copyFront_59 : decode b_Row_copyFront 59 = .ok (.iastore, 1) := by decide +kernel
theorem d_Row_copyFront_60 : decode b_Row_copyFront 60 = .ok (.return_, 1) := by decide +kernel
theorem d_Row_move_0 : decode b_Row_move 0 = .ok (.iconst 0, 1) := by decide +kernel
theorem d_Row_move_1 : decode b_Row_move 1 = .ok (.istore_n 1, 1) := by decide +kernel
theorem d_Row_move_2 : decode b_Row_move 2 = .ok (.iconst 0, 1) := by decide +kernel
theorem d_Row_move_3 : decode b_Row_move 3 = .ok (.istore_n 2, 1) := by decide +kernel
theorem d_Row_move_4 : decode b_Row_move 4 = .ok (.iload_n 2, 1) := by decide +kernel
theorem d_Row_move_5 : decode b_Row_move 5 = .ok (.aload_n 0, 1) := by decide +kernel
theorem d_Row_move_6 : decode b_Row_move 6 = .ok (.getfield 27, 3) := by decide +kernel
theorem d_Row_move_9 : decode b_Row_move 9 = .ok (.if_icmp .ge 101, 3) := by decide +kernel
theorem d_Row_move_12 : decode b_Row_move 12 = .ok (.aload_n 0, 1) := by decide +kernel
theorem d_Row_move_13 : decode b_Row_move 13 = .ok (.getfield 15, 3) := by decide +kernel
theorem d_Row_move_16 : decode b_Row_move 16 = .ok (.iload_n 2, 1) := by decide +kernel
theorem d_Row_move_17 : decode b_Row_move 17 = .ok (.iaload, 1) := by decide +kernel
theorem d_Row_move_18 : decode b_Row_move 18 = .ok (.aload_n 0, 1) := by decide +kernel
theorem d_Row_move_19 : decode b_Row_move 19 = .ok (.getfield 21, 3) := by decide +kernel
theorem d_Row_move_22 : decode b_Row_move 22 = .ok (.iload_n 2, 1) := by decide +kernel
theorem d_Row_move_23 : decode b_Row_move 23 = .ok (.iaload, 1) := by decide +kernel
theorem d_Row_move_24 : decode b_Row_move 24 = .ok (.iadd, 1) := by decide +kernel
theorem d_Row_move_25 : decode b_Row_move 25 = .ok (.istore_n 3, 1) := by decide +kernel
theorem d_Row_move_26 : decode b_Row_move 26 = .ok (.iload_n 3, 1) := by decide +kernel
theorem d_Row_move_27 : decode b_Row_move 27 = .ok (.ifCond .lt 9, 3) := by decide +kernel
theorem d_Row_move_30 : decode b_Row_move 30 = .ok (.iload_n 3, 1) := by decide +kernel
theorem d_Row_move_31 : decode b_Row_move 31 = .ok (.ldc 35, 2) := by decide +kernel
theorem d_Row_move_33 : decode b_Row_move 33 = .ok (.if_icmp .le 7, 3) := by decide +kernel
theorem d_Row_move_36 : decode b_Row_move 36 = .ok (.iconst 1, 1) := by decide +kernel
theorem d_Row_move_37 : decode b_Row_move 37 = .ok (.goto 4, 3) := by decide +kernel
theorem d_Row_move_40 : decode b_Row_move 40 = .ok (.iconst 0, 1) := by decide +kernel
theorem d_Row_move_41 : decode b_Row_move 41 = .ok (.istore 4, 2) := by decide +kernel
theorem d_Row_move_43 : decode b_Row_move 43 = .ok (.iload 4, 2) := by decide +kernel
theorem d_Row_move_45 : decode b_Row_move 45 = .ok (.ifCond .eq 12, 3) := by decide +kernel
theorem d_Row_move_48 : decode b_Row_move 48 = .ok (.aload_n 0, 1) := by decide +kernel
theorem d_Row_move_49 : decode b_Row_move 49 = .ok (.getfield 9, 3) := by decide +kernel
theorem d_Row_move_52 : decode b_Row_move 52 = .ok (.iload_n 2, 1) := by decide +kernel
theorem d_Row_move_53 : decode b_Row_move 53 = .ok (.iaload, 1) := by decide +kernel
theorem d_Row_move_54 : decode b_Row_move 54 = .ok (.ifCond .ne 50, 3) := by decide +kernel
theorem d_Row_move_57 : decode b_Row_move 57 = .ok (.aload_n 0, 1) := by decide +kernel
theorem d_Row_move_58 : decode b_Row_move 58 = .ok (.iload_n 2, 1) := by decide +kernel
theorem d_Row_move_59 : decode b_Row_move 59 = .ok (.iload_n 1, 1) := by decide +kernel
theorem d_Row_move_60 : decode b_Row_move 60 = .ok (.invokevirtual 31, 3) := by decide +kernel
theorem d_Row_move_63 : decode b_Row_move 63 = .ok (.aload_n 0, 1) := by decide +kernel
theorem d_Row_move_64 : decode b_Row_move 64 = .ok (.getfield 18, 3) := by decide +kernel
theorem d_Row_move_67 : decode b_Row_move 67 = .ok (.iload_n 1, 1) := by decide +kernel
theorem d_Row_move_68 : decode b_Row_move 68 = .ok (.aload_n 0, 1) := by decide +kernel
theorem d_Row_move_69 : decode b_Row_move 69 = .ok (.getfield 15, 3) := by decide +kernel
theorem d_Row_move_72 : decode b_Row_move 72 = .ok (.iload_n 2, 1) := by decide +kernel
theorem d_Row_move_73 : decode b_Row_move 73 = .ok (.iaload, 1) := by decide +kernel
theorem d_Row_move_74 : decode b_Row_move 74 = .ok (.iastore, 1) := by decide +kernel
theorem d_Row_move_75 : decode b_Row_move 75 = .ok (.aload_n 0, 1) := by decide +kernel
theorem d_Row_move_76 : decode b_Row_move 76 = .ok (.getfield 15, 3) := by decide +kernel
theorem d_Row_move_79 : decode b_Row_move 79 = .ok (.iload_n 1, 1) := by decide +kernel
theorem d_Row_move_80 : decode b_Row_move 80 = .ok (.iconst 0, 1) := by decide +kernel
theorem d_Row_move_81 : decode b_Row_move 81 = .ok (.iload_n 3, 1) := by decide +kernel
theorem d_Row_move_82 : decode b_Row_move 82 = .ok (.ldc 35, 2) := by decide +kernel
theorem d_Row_move_84 : decode b_Row_move 84 = .ok (.invokestatic 36, 3) := by decide +kernel
theorem d_Row_move_87 : decode b_Row_move 87 = .ok (.invokestatic 42, 3) := by decide +kernel
theorem d_Row_move_90 : decode b_Row_move 90 = .ok (.iastore, 1) := by decide +kernel
theorem d_Row_move_91 : decode b_Row_move 91 = .ok (.iload 4, 2) := by decide +kernel
theorem d_Row_move_93 : decode b_Row_move 93 = .ok (.ifCond .eq 8, 3) := by decide +kernel
theorem d_Row_move_96 : decode b_Row_move 96 = .ok (.aload_n 0, 1) := by decide +kernel
theorem d_Row_move_97 : decode b_Row_move 97 = .ok (.iload_n 1, 1) := by decide +kernel
theorem d_Row_move_98 : decode b_Row_move 98 = .ok (.invokevirtual 45, 3) := by decide +kernel
theorem d_Row_move_101 : decode b_Row_move 101 = .ok (.iinc 1 1, 3) := by decide +kernel
theorem d_Row_move_104 : decode b_Row_move 104 = .ok (.iinc 2 1, 3) := by decide +kernel
theorem d_Row_move_107 : decode b_Row_move 107 = .ok (.goto (-103), 3) := by decide +kernel
theorem d_Row_move_110 : decode b_Row_move 110 = .ok (.aload_n 0, 1) := by decide +kernel
theorem d_Row_move_111 : decode b_Row_move 111 = .ok (.iload_n 1, 1) := by decide +kernel
theorem d_Row_move_112 : decode b_Row_move 112 = .ok (.putfield 27, 3) := by decide +kernel
theorem d_Row_move_115 : decode b_Row_move 115 = .ok (.return_, 1) := by decide +kernel
theorem d_Row_turn_0 : decode b_Row_turn 0 = .ok (.aload_n 0, 1) := by decide +kernel
theorem d_Row_turn_1 : decode b_Row_turn 1 = .ok (.getfield 21, 3) := by decide +kernel
theorem d_Row_turn_4 : decode b_Row_turn 4 = .ok (.iload_n 1, 1) := by decide +kernel
theorem d_Row_turn_5 : decode b_Row_turn 5 = .ok (.aload_n 0, 1) := by decide +kernel
theorem d_Row_turn_6 : decode b_Row_turn 6 = .ok (.getfield 21, 3) := by decide +kernel
theorem d_Row_turn_9 : decode b_Row_turn 9 = .ok (.iload_n 1, 1) := by decide +kernel
theorem d_Row_turn_10 : decode b_Row_turn 10 = .ok (.iaload, 1) := by decide +kernel
theorem d_Row_turn_11 : decode b_Row_turn 11 = .ok (.ineg, 1) := by decide +kernel
theorem d_Row_turn_12 : decode b_Row_turn 12 = .ok (.iastore, 1) := by decide +kernel
theorem d_Row_turn_13 : decode b_Row_turn 13 = .ok (.aload_n 0, 1) := by decide +kernel
theorem d_Row_turn_14 : decode b_Row_turn 14 = .ok (.getfield 24, 3) := by decide +kernel
theorem d_Row_turn_17 : decode b_Row_turn 17 = .ok (.iload_n 1, 1) := by decide +kernel
theorem d_Row_turn_18 : decode b_Row_turn 18 = .ok (.sipush 900, 3) := by decide +kernel
theorem d_Row_turn_21 : decode b_Row_turn 21 = .ok (.aload_n 0, 1) := by decide +kernel
theorem d_Row_turn_22 : decode b_Row_turn 22 = .ok (.getfield 24, 3) := by decide +kernel
theorem d_Row_turn_25 : decode b_Row_turn 25 = .ok (.iload_n 1, 1) := by decide +kernel
theorem d_Row_turn_26 : decode b_Row_turn 26 = .ok (.iaload, 1) := by decide +kernel
theorem d_Row_turn_27 : decode b_Row_turn 27 = .ok (.iconst 3, 1) := by decide +kernel
theorem d_Row_turn_28 : decode b_Row_turn 28 = .ok (.imul, 1) := by decide +kernel
theorem d_Row_turn_29 : decode b_Row_turn 29 = .ok (.iconst 2, 1) := by decide +kernel
theorem d_Row_turn_30 : decode b_Row_turn 30 = .ok (.idiv, 1) := by decide +kernel
theorem d_Row_turn_31 : decode b_Row_turn 31 = .ok (.invokestatic 36, 3) := by decide +kernel
theorem d_Row_turn_34 : decode b_Row_turn 34 = .ok (.iastore, 1) := by decide +kernel
theorem d_Row_turn_35 : decode b_Row_turn 35 = .ok (.return_, 1) := by decide +kernel
theorem d_Row_meetAll_0 : decode b_Row_meetAll 0 = .ok (.iconst 0, 1) := by decide +kernel
theorem d_Row_meetAll_1 : decode b_Row_meetAll 1 = .ok (.istore_n 1, 1) := by decide +kernel
theorem d_Row_meetAll_2 : decode b_Row_meetAll 2 = .ok (.aload_n 0, 1) := by decide +kernel
theorem d_Row_meetAll_3 : decode b_Row_meetAll 3 = .ok (.getfield 27, 3) := by decide +kernel
theorem d_Row_meetAll_6 : decode b_Row_meetAll 6 = .ok (.iconst 1, 1) := by decide +kernel
theorem d_Row_meetAll_7 : decode b_Row_meetAll 7 = .ok (.isub, 1) := by decide +kernel
theorem d_Row_meetAll_8 : decode b_Row_meetAll 8 = .ok (.istore_n 2, 1) := by decide +kernel
theorem d_Row_meetAll_9 : decode b_Row_meetAll 9 = .ok (.iload_n 2, 1) := by decide +kernel
theorem d_Row_meetAll_10 : decode b_Row_meetAll 10 = .ok (.ifCond .le 31, 3) := by decide +kernel
theorem d_Row_meetAll_13 : decode b_Row_meetAll 13 = .ok (.iload_n 1, 1) := by decide +kernel
theorem d_Row_meetAll_14 : decode b_Row_meetAll 14 = .ok (.aload_n 0, 1) := by decide +kernel
theorem d_Row_meetAll_15 : decode b_Row_meetAll 15 = .ok (.iload_n 1, 1) := by decide +kernel
theorem d_Row_meetAll_16 : decode b_Row_meetAll 16 = .ok (.invokevirtual 49, 3) := by decide +kernel
theorem d_Row_meetAll_19 : decode b_Row_meetAll 19 = .ok (.ifCond .eq 13, 3) := by decide +kernel
theorem d_Row_meetAll_22 : decode b_Row_meetAll 22 = .ok (.aload_n 0, 1) := by decide +kernel
theorem d_Row_meetAll_23 : decode b_Row_meetAll 23 = .ok (.iload_n 1, 1) := by decide +kernel
theorem d_Row_meetAll_24 : decode b_Row_meetAll 24 = .ok (.invokevirtual 53, 3) := by decide +kernel
theorem d_Row_meetAll_27 : decode b_Row_meetAll 27 = .ok (.iconst 1, 1) := by decide +kernel
theorem d_Row_meetAll_28 : decode b_Row_meetAll 28 = .ok (.isub, 1) := by decide +kernel
theorem d_Row_meetAll_29 : decode b_Row_meetAll 29 = .ok (.goto 4, 3) := by decide +kernel
theorem d_Row_meetAll_32 : decode b_Row_meetAll 32 = .ok (.iconst 1, 1) := by decide +kernel
theorem d_Row_meetAll_33 : decode b_Row_meetAll 33 = .ok (.iadd, 1) := by decide +kernel
theorem d_Row_meetAll_34 : decode b_Row_meetAll 34 = .ok (.istore_n 1, 1) := by decide +kernel
theorem d_Row_meetAll_35 : decode b_Row_meetAll 35 = .ok (.iinc 2 (-1), 3) := by decide +kernel
theorem d_Row_meetAll_38 : decode b_Row_meetAll 38 = .ok (.goto (-29), 3) := by decide +kernel
theorem d_Row_meetAll_41 : decode b_Row_meetAll 41 = .ok (.return_, 1) := by decide +kernel
theorem d_Row_isMeeting_0 : decode b_Row_isMeeting 0 = .ok (.aload_n 0, 1) := by decide +kernel
theorem d_Row_isMeeting_1 : decode b_Row_isMeeting 1 = .ok (.getfield 15, 3) := by decide +kernel
theorem d_Row_isMeeting_4 : decode b_Row_isMeeting 4 = .ok (.iload_n 1, 1) := by decide +kernel
theorem d_Row_isMeeting_5 : decode b_Row_isMeeting 5 = .ok (.iaload, 1) := by decide +kernel
theorem d_Row_isMeeting_6 : decode b_Row_isMeeting 6 = .ok (.aload_n 0, 1) := by decide +kernel
theorem d_Row_isMeeting_7 : decode b_Row_isMeeting 7 = .ok (.getfield 15, 3) := by decide +kernel
theorem d_Row_isMeeting_10 : decode b_Row_isMeeting 10 = .ok (.iload_n 1, 1) := by decide +kernel
theorem d_Row_isMeeting_11 : decode b_Row_isMeeting 11 = .ok (.iconst 1, 1) := by decide +kernel
theorem d_Row_isMeeting_12 : decode b_Row_isMeeting 12 = .ok (.iadd, 1) := by decide +kernel
theorem d_Row_isMeeting_13 : decode b_Row_isMeeting 13 = .ok (.iaload, 1) := by decide +kernel
theorem d_Row_isMeeting_14 : decode b_Row_isMeeting 14 = .ok (.if_icmp .gt 37, 3) := by decide +kernel
theorem d_Row_isMeeting_17 : decode b_Row_isMeeting 17 = .ok (.aload_n 0, 1) := by decide +kernel
theorem d_Row_isMeeting_18 : decode b_Row_isMeeting 18 = .ok (.getfield 15, 3) := by decide +kernel
theorem d_Row_isMeeting_21 : decode b_Row_isMeeting 21 = .ok (.iload_n 1, 1) := by decide +kernel
theorem d_Row_isMeeting_22 : decode b_Row_isMeeting 22 = .ok (.iaload, 1) := by decide +kernel
theorem d_Row_isMeeting_23 : decode b_Row_isMeeting 23 = .ok (.aload_n 0, 1) := by decide +kernel
theorem d_Row_isMeeting_24 : decode b_Row_isMeeting 24 = .ok (.getfield 15, 3) := by decide +kernel
theorem d_Row_isMeeting_27 : decode b_Row_isMeeting 27 = .ok (.iload_n 1, 1) := by decide +kernel
theorem d_Row_isMeeting_28 : decode b_Row_isMeeting 28 = .ok (.iconst 1, 1) := by decide +kernel
theorem d_Row_isMeeting_29 : decode b_Row_isMeeting 29 = .ok (.iadd, 1) := by decide +kernel
theorem d_Row_isMeeting_30 : decode b_Row_isMeeting 30 = .ok (.iaload, 1) := by decide +kernel
theorem d_Row_isMeeting_31 : decode b_Row_isMeeting 31 = .ok (.if_icmp .ne 24, 3) := by decide +kernel
theorem d_Row_isMeeting_34 : decode b_Row_isMeeting 34 = .ok (.aload_n 0, 1) := by decide +kernel
theorem d_Row_isMeeting_35 : decode b_Row_isMeeting 35 = .ok (.getfield 18, 3) := by decide +kernel
theorem d_Row_isMeeting_38 : decode b_Row_isMeeting 38 = .ok (.iload_n 1, 1) := by decide +kernel
theorem d_Row_isMeeting_39 : decode b_Row_isMeeting 39 = .ok (.iaload, 1) := by decide +kernel
theorem d_Row_isMeeting_40 : decode b_Row_isMeeting 40 = .ok (.aload_n 0, 1) := by decide +kernel
theorem d_Row_isMeeting_41 : decode b_Row_isMeeting 41 = .ok (.getfield 18, 3) := by decide +kernel
theorem d_Row_isMeeting_44 : decode b_Row_isMeeting 44 = .ok (.iload_n 1, 1) := by decide +kernel
theorem d_Row_isMeeting_45 : decode b_Row_isMeeting 45 = .ok (.iconst 1, 1) := by decide +kernel
theorem d_Row_isMeeting_46 : decode b_Row_isMeeting 46 = .ok (.iadd, 1) := by decide +kernel
theorem d_Row_isMeeting_47 : decode b_Row_isMeeting 47 = .ok (.iaload, 1) := by decide +kernel
theorem d_Row_isMeeting_48 : decode b_Row_isMeeting 48 = .ok (.if_icmp .ge 7, 3) := by decide +kernel
theorem d_Row_isMeeting_51 : decode b_Row_isMeeting 51 = .ok (.iconst 1, 1) := by decide +kernel
theorem d_Row_isMeeting_52 : decode b_Row_isMeeting 52 = .ok (.goto 4, 3) := by decide +kernel
theorem d_Row_isMeeting_55 : decode b_Row_isMeeting 55 = .ok (.iconst 0, 1) := by decide +kernel
theorem d_Row_isMeeting_56 : decode b_Row_isMeeting 56 = .ok (.ireturn, 1) := by decide +kernel
theorem d_Row_meet_0 : decode b_Row_meet 0 = .ok (.iload_n 1, 1) := by decide +kernel
theorem d_Row_meet_1 : decode b_Row_meet 1 = .ok (.iconst 1, 1) := by decide +kernel
theorem d_Row_meet_2 : decode b_Row_meet 2 = .ok (.iadd, 1) := by decide +kernel
theorem d_Row_meet_3 : decode b_Row_meet 3 = .ok (.istore_n 2, 1) := by decide +kernel
theorem d_Row_meet_4 : decode b_Row_meet 4 = .ok (.aload_n 0, 1) := by decide +kernel
theorem d_Row_meet_5 : decode b_Row_meet 5 = .ok (.getfield 15, 3) := by decide +kernel
theorem d_Row_meet_8 : decode b_Row_meet 8 = .ok (.iload_n 1, 1) := by decide +kernel
theorem d_Row_meet_9 : decode b_Row_meet 9 = .ok (.iaload, 1) := by decide +kernel
theorem d_Row_meet_10 : decode b_Row_meet 10 = .ok (.aload_n 0, 1) := by decide +kernel
theorem d_Row_meet_11 : decode b_Row_meet 11 = .ok (.getfield 15, 3) := by decide +kernel
theorem d_Row_meet_14 : decode b_Row_meet 14 = .ok (.iload_n 2, 1) := by decide +kernel
theorem d_Row_meet_15 : decode b_Row_meet 15 = .ok (.iaload, 1) := by decide +kernel
theorem d_Row_meet_16 : decode b_Row_meet 16 = .ok (.iadd, 1) := by decide +kernel
theorem d_Row_meet_17 : decode b_Row_meet 17 = .ok (.iconst 2, 1) := by decide +kernel
theorem d_Row_meet_18 : decode b_Row_meet 18 = .ok (.idiv, 1) := by decide +kernel
theorem d_Row_meet_19 : decode b_Row_meet 19 = .ok (.istore_n 3, 1) := by decide +kernel
theorem d_Row_meet_20 : decode b_Row_meet 20 = .ok (.aload_n 0, 1) := by decide +kernel
theorem d_Row_meet_21 : decode b_Row_meet 21 = .ok (.iload_n 1, 1) := by decide +kernel
theorem d_Row_meet_22 : decode b_Row_meet 22 = .ok (.iload_n 3, 1) := by decide +kernel
theorem d_Row_meet_23 : decode b_Row_meet 23 = .ok (.invokevirtual 57, 3) := by decide +kernel
theorem d_Row_meet_26 : decode b_Row_meet 26 = .ok (.aload_n 0, 1) := by decide +kernel
theorem d_Row_meet_27 : decode b_Row_meet 27 = .ok (.iload_n 2, 1) := by decide +kernel
theorem d_Row_meet_28 : decode b_Row_meet 28 = .ok (.iload_n 3, 1) := by decide +kernel
theorem d_Row_meet_29 : decode b_Row_meet 29 = .ok (.invokevirtual 57, 3) := by decide +kernel
theorem d_Row_meet_32 : decode b_Row_meet 32 = .ok (.aload_n 0, 1) := by decide +kernel
theorem d_Row_meet_33 : decode b_Row_meet 33 = .ok (.getfield 9, 3) := by decide +kernel
theorem d_Row_meet_36 : decode b_Row_meet 36 = .ok (.iload_n 1, 1) := by decide +kernel
theorem d_Row_meet_37 : decode b_Row_meet 37 = .ok (.iaload, 1) := by decide +kernel
theorem d_Row_meet_38 : decode b_Row_meet 38 = .ok (.ifCond .ne 18, 3) := by decide +kernel
theorem d_Row_meet_41 : decode b_Row_meet 41 = .ok (.aload_n 0, 1) := by decide +kernel
theorem d_Row_meet_42 : decode b_Row_meet 42 = .ok (.getfield 9, 3) := by decide +kernel
theorem d_Row_meet_45 : decode b_Row_meet 45 = .ok (.iload_n 2, 1) := by decide +kernel
theorem d_Row_meet_46 : decode b_Row_meet 46 = .ok (.iaload, 1) := by decide +kernel
theorem d_Row_meet_47 : decode b_Row_meet 47 = .ok (.ifCond .ne 9, 3) := by decide +kernel
theorem d_Row_meet_50 : decode b_Row_meet 50 = .ok (.aload_n 0, 1) := by decide +kernel
theorem d_Row_meet_51 : decode b_Row_meet 51 = .ok (.iload_n 1, 1) := by decide +kernel
theorem d_Row_meet_52 : decode b_Row_meet 52 = .ok (.invokevirtual 60, 3) := by decide +kernel
theorem d_Row_meet_55 : decode b_Row_meet 55 = .ok (.ireturn, 1) := by decide +kernel
theorem d_Row_meet_56 : decode b_Row_meet 56 = .ok (.aload_n 0, 1) := by decide +kernel
theorem d_Row_meet_57 : decode b_Row_meet 57 = .ok (.getfield 9, 3) := by decide +kernel
theorem d_Row_meet_60 : decode b_Row_meet 60 = .ok (.iload_n 1, 1) := by decide +kernel
theorem d_Row_meet_61 : decode b_Row_meet 61 = .ok (.iaload, 1) := by decide +kernel
theorem d_Row_meet_62 : decode b_Row_meet 62 = .ok (.ifCond .eq 12, 3) := by decide +kernel
theorem d_Row_meet_65 : decode b_Row_meet 65 = .ok (.aload_n 0, 1) := by decide +kernel
theorem d_Row_meet_66 : decode b_Row_meet 66 = .ok (.getfield 9, 3) := by decide +kernel
theorem d_Row_meet_69 : decode b_Row_meet 69 = .ok (.iload_n 2, 1) := by decide +kernel
theorem d_Row_meet_70 : decode b_Row_meet 70 = .ok (.iaload, 1) := by decide +kernel
theorem d_Row_meet_71 : decode b_Row_meet 71 = .ok (.ifCond .ne 9, 3) := by decide +kernel
theorem d_Row_meet_74 : decode b_Row_meet 74 = .ok (.aload_n 0, 1) := by decide +kernel
theorem d_Row_meet_75 : decode b_Row_meet 75 = .ok (.iload_n 1, 1) := by decide +kernel
theorem d_Row_meet_76 : decode b_Row_meet 76 = .ok (.invokevirtual 63, 3) := by decide +kernel
theorem d_Row_meet_79 : decode b_Row_meet 79 = .ok (.ireturn, 1) := by decide +kernel
theorem d_Row_meet_80 : decode b_Row_meet 80 = .ok (.aload_n 0, 1) := by decide +kernel
theorem d_Row_meet_81 : decode b_Row_meet 81 = .ok (.getfield 9, 3) := by decide +kernel
theorem d_Row_meet_84 : decode b_Row_meet 84 = .ok (.iload_n 1, 1) := by decide +kernel
theorem d_Row_meet_85 : decode b_Row_meet 85 = .ok (.iaload, 1) := by decide +kernel
theorem d_Row_meet_86 : decode b_Row_meet 86 = .ok (.aload_n 0, 1) := by decide +kernel
theorem d_Row_meet_87 : decode b_Row_meet 87 = .ok (.getfield 9, 3) := by decide +kernel
theorem d_Row_meet_90 : decode b_Row_meet 90 = .ok (.iload_n 2, 1) := by decide +kernel
theorem d_Row_meet_91 : decode b_Row_meet 91 = .ok (.iaload, 1) := by decide +kernel
theorem d_Row_meet_92 : decode b_Row_meet 92 = .ok (.if_icmp .eq 25, 3) := by decide +kernel
theorem d_Row_meet_95 : decode b_Row_meet 95 = .ok (.aload_n 0, 1) := by decide +kernel
theorem d_Row_meet_96 : decode b_Row_meet 96 = .ok (.aload_n 0, 1) := by decide +kernel
theorem d_Row_meet_97 : decode b_Row_meet 97 = .ok (.getfield 9, 3) := by decide +kernel
theorem d_Row_meet_100 : decode b_Row_meet 100 = .ok (.iload_n 1, 1) := by decide +kernel
theorem d_Row_meet_101 : decode b_Row_meet 101 = .ok (.iaload, 1) := by decide +kernel
theorem d_Row_meet_102 : decode b_Row_meet 102 = .ok (.iconst 2, 1) := by decide +kernel
theorem d_Row_meet_103 : decode b_Row_meet 103 = .ok (.if_icmp .ne 7, 3) := by decide +kernel
theorem d_Row_meet_106 : decode b_Row_meet 106 = .ok (.iload_n 1, 1) := by decide +kernel
theorem d_Row_meet_107 : decode b_Row_meet 107 = .ok (.goto 4, 3) := by decide +kernel
theorem d_Row_meet_110 : decode b_Row_meet 110 = .ok (.iload_n 2, 1) := by decide +kernel
theorem d_Row_meet_111 : decode b_Row_meet 111 = .ok (.invokevirtual 66, 3) := by decide +kernel
theorem d_Row_meet_114 : decode b_Row_meet 114 = .ok (.goto 27, 3) := by decide +kernel
theorem d_Row_meet_117 : decode b_Row_meet 117 = .ok (.aload_n 0, 1) := by decide +kernel
theorem d_Row_meet_118 : decode b_Row_meet 118 = .ok (.aload_n 0, 1) := by decide +kernel
theorem d_Row_meet_119 : decode b_Row_meet 119 = .ok (.getfield 24, 3) := by decide +kernel
theorem d_Row_meet_122 : decode b_Row_meet 122 = .ok (.iload_n 2, 1) := by decide +kernel
theorem d_Row_meet_123 : decode b_Row_meet 123 = .ok (.iaload, 1) := by decide +kernel
theorem d_Row_meet_124 : decode b_Row_meet 124 = .ok (.aload_n 0, 1) := by decide +kernel
theorem d_Row_meet_125 : decode b_Row_meet 125 = .ok (.getfield 24, 3) := by decide +kernel
theorem d_Row_meet_128 : decode b_Row_meet 128 = .ok (.iload_n 1, 1) := by decide +kernel
theorem d_Row_meet_129 : decode b_Row_meet 129 = .ok (.iaload, 1) := by decide +kernel
theorem d_Row_meet_130 : decode b_Row_meet 130 = .ok (.if_icmp .le 7, 3) := by decide +kernel
theorem d_Row_meet_133 : decode b_Row_meet 133 = .ok (.iload_n 1, 1) := by decide +kernel
theorem d_Row_meet_134 : decode b_Row_meet 134 = .ok (.goto 4, 3) := by decide +kernel
theorem d_Row_meet_137 : decode b_Row_meet 137 = .ok (.iload_n 2, 1) := by decide +kernel
theorem d_Row_meet_138 : decode b_Row_meet 138 = .ok (.invokevirtual 66, 3) := by decide +kernel
theorem d_Row_meet_141 : decode b_Row_meet 141 = .ok (.iconst 1, 1) := by decide +kernel
theorem d_Row_meet_142 : decode b_Row_meet 142 = .ok (.ireturn, 1) := by decide +kernel
theorem d_Row_setPlace_0 : decode b_Row_setPlace 0 = .ok (.aload_n 0, 1) := by decide +kernel
theorem d_Row_setPlace_1 : decode b_Row_setPlace 1 = .ok (.getfield 15, 3) := by decide +kernel
theorem d_Row_setPlace_4 : decode b_Row_setPlace 4 = .ok (.iload_n 1, 1) := by decide +kernel
theorem d_Row_setPlace_5 : decode b_Row_setPlace 5 = .ok (.iload_n 2, 1) := by decide +kernel
theorem d_Row_setPlace_6 : decode b_Row_setPlace 6 = .ok (.iastore, 1) := by decide +kernel
theorem d_Row_setPlace_7 : decode b_Row_setPlace 7 = .ok (.aload_n 0, 1) := by decide +kernel
theorem d_Row_setPlace_8 : decode b_Row_setPlace 8 = .ok (.getfield 18, 3) := by decide +kernel
theorem d_Row_setPlace_11 : decode b_Row_setPlace 11 = .ok (.iload_n 1, 1) := by decide +kernel
theorem d_Row_setPlace_12 : decode b_Row_setPlace 12 = .ok (.iload_n 2, 1) := by decide +kernel
theorem d_Row_setPlace_13 : decode b_Row_setPlace 13 = .ok (.iastore, 1) := by decide +kernel
theorem d_Row_setPlace_14 : decode b_Row_setPlace 14 = .ok (.return_, 1) := by decide +kernel
theorem d_Row_meetShocks_0 : decode b_Row_meetShocks 0 = .ok (.iload_n 1, 1) := by decide +kernel
theorem d_Row_meetShocks_1 : decode b_Row_meetShocks 1 = .ok (.iconst 1, 1) := by decide +kernel
theorem d_Row_meetShocks_2 : decode b_Row_meetShocks 2 = .ok (.iadd, 1) := by decide +kernel
theorem d_Row_meetShocks_3 : decode b_Row_meetShocks 3 = .ok (.istore_n 2, 1) := by decide +kernel
theorem d_Row_meetShocks_4 : decode b_Row_meetShocks 4 = .ok (.aload_n 0, 1) := by decide +kernel
theorem d_Row_meetShocks_5 : decode b_Row_meetShocks 5 = .ok (.getfield 21, 3) := by decide +kernel
theorem d_Row_meetShocks_8 : decode b_Row_meetShocks 8 = .ok (.iload_n 1, 1) := by decide +kernel
theorem d_Row_meetShocks_9 : decode b_Row_meetShocks 9 = .ok (.iaload, 1) := by decide +kernel
theorem d_Row_meetShocks_10 : decode b_Row_meetShocks 10 = .ok (.aload_n 0, 1) := by decide +kernel
theorem d_Row_meetShocks_11 : decode b_Row_meetShocks 11 = .ok (.getfield 21, 3) := by decide +kernel
theorem d_Row_meetShocks_14 : decode b_Row_meetShocks 14 = .ok (.iload_n 2, 1) := by decide +kernel
theorem d_Row_meetShocks_15 : decode b_Row_meetShocks 15 = .ok (.iaload, 1) := by decide +kernel
theorem d_Row_meetShocks_16 : decode b_Row_meetShocks 16 = .ok (.imul, 1) := by decide +kernel
theorem d_Row_meetShocks_17 : decode b_Row_meetShocks 17 = .ok (.ifCond .le 10, 3) := by decide +kernel
theorem d_Row_meetShocks_20 : decode b_Row_meetShocks 20 = .ok (.aload_n 0, 1) := by decide +kernel
theorem d_Row_meetShocks_21 : decode b_Row_meetShocks 21 = .ok (.iload_n 1, 1) := by decide +kernel
theorem d_Row_meetShocks_22 : decode b_Row_meetShocks 22 = .ok (.invokevirtual 69, 3) := by decide +kernel
theorem d_Row_meetShocks_25 : decode b_Row_meetShocks 25 = .ok (.iconst 1, 1) := by decide +kernel
theorem d_Row_meetShocks_26 : decode b_Row_meetShocks 26 = .ok (.ireturn, 1) := by decide +kernel
theorem d_Row_meetShocks_27 : decode b_Row_meetShocks 27 = .ok (.aload_n 0, 1) := by decide +kernel
theorem d_Row_meetShocks_28 : decode b_Row_meetShocks 28 = .ok (.iload_n 1, 1) := by decide +kernel
theorem d_Row_meetShocks_29 : decode b_Row_meetShocks 29 = .ok (.invokevirtual 72, 3) := by decide +kernel
theorem d_Row_meetShocks_32 : decode b_Row_meetShocks 32 = .ok (.aload_n 0, 1) := by decide +kernel
theorem d_Row_meetShocks_33 : decode b_Row_meetShocks 33 = .ok (.getfield 24, 3) := by decide +kernel
theorem d_Row_meetShocks_36 : decode b_Row_meetShocks 36 = .ok (.iload_n 1, 1) := by decide +kernel
theorem d_Row_meetShocks_37 : decode b_Row_meetShocks 37 = .ok (.iaload, 1) := by decide +kernel
theorem d_Row_meetShocks_38 : decode b_Row_meetShocks 38 = .ok (.aload_n 0, 1) := by decide +kernel
theorem d_Row_meetShocks_39 : decode b_Row_meetShocks 39 = .ok (.getfield 24, 3) := by decide +kernel
theorem d_Row_meetShocks_42 : decode b_Row_meetShocks 42 = .ok (.iload_n 2, 1) := by decide +kernel
theorem d_Row_meetShocks_43 : decode b_Row_meetShocks 43 = .ok (.iaload, 1) := by decide +kernel
theorem d_Row_meetShocks_44 : decode b_Row_meetShocks 44 = .ok (.if_icmp .eq 12, 3) := by decide +kernel
theorem d_Row_meetShocks_47 : decode b_Row_meetShocks 47 = .ok (.aload_n 0, 1) := by decide +kernel
theorem d_Row_meetShocks_48 : decode b_Row_meetShocks 48 = .ok (.getfield 27, 3) := by decide +kernel
theorem d_Row_meetShocks_51 : decode b_Row_meetShocks 51 = .ok (.bipush 8, 2) := by decide +kernel
theorem d_Row_meetShocks_53 : decode b_Row_meetShocks 53 = .ok (.if_icmp .lt 5, 3) := by decide +kernel
theorem d_Row_meetShocks_56 : decode b_Row_meetShocks 56 = .ok (.iconst 2, 1) := by decide +kernel
theorem d_Row_meetShocks_57 : decode b_Row_meetShocks 57 = .ok (.ireturn, 1) := by decide +kernel
theorem d_Row_meetShocks_58 : decode b_Row_meetShocks 58 = .ok (.aload_n 0, 1) := by decide +kernel
theorem d_Row_meetShocks_59 : decode b_Row_meetShocks 59 = .ok (.getfield 21, 3) := by decide +kernel
theorem d_Row_meetShocks_62 : decode b_Row_meetShocks 62 = .ok (.iload_n 1, 1) := by decide +kernel
theorem d_Row_meetShocks_63 : decode b_Row_meetShocks 63 = .ok (.iaload, 1) := by decide +kernel
theorem d_Row_meetShocks_64 : decode b_Row_meetShocks 64 = .ok (.aload_n 0, 1) := by decide +kernel
theorem d_Row_meetShocks_65 : decode b_Row_meetShocks 65 = .ok (.getfield 21, 3) := by decide +kernel
theorem d_Row_meetShocks_68 : decode b_Row_meetShocks 68 = .ok (.iload_n 2, 1) := by decide +kernel
theorem d_Row_meetShocks_69 : decode b_Row_meetShocks 69 = .ok (.iaload, 1) := by decide +kernel
theorem d_Row_meetShocks_70 : decode b_Row_meetShocks 70 = .ok (.iadd, 1) := by decide +kernel
theorem d_Row_meetShocks_71 : decode b_Row_meetShocks 71 = .ok (.bipush 10, 2) := by decide +kernel
theorem d_Row_meetShocks_73 : decode b_Row_meetShocks 73 = .ok (.idiv, 1) := by decide +kernel
theorem d_Row_meetShocks_74 : decode b_Row_meetShocks 74 = .ok (.istore_n 3, 1) := by decide +kernel
theorem d_Row_meetShocks_75 : decode b_Row_meetShocks 75 = .ok (.aload_n 0, 1) := by decide +kernel
theorem d_Row_meetShocks_76 : decode b_Row_meetShocks 76 = .ok (.getfield 24, 3) := by decide +kernel
theorem d_Row_meetShocks_79 : decode b_Row_meetShocks 79 = .ok (.iload_n 1, 1) := by decide +kernel
theorem d_Row_meetShocks_80 : decode b_Row_meetShocks 80 = .ok (.iaload, 1) := by decide +kernel
theorem d_Row_meetShocks_81 : decode b_Row_meetShocks 81 = .ok (.aload_n 0, 1) := by decide +kernel
theorem d_Row_meetShocks_82 : decode b_Row_meetShocks 82 = .ok (.getfield 24, 3) := by decide +kernel
theorem d_Row_meetShocks_85 : decode b_Row_meetShocks 85 = .ok (.iload_n 2, 1) := by decide +kernel
theorem d_Row_meetShocks_86 : decode b_Row_meetShocks 86 = .ok (.iaload, 1) := by decide +kernel
theorem d_Row_meetShocks_87 : decode b_Row_meetShocks 87 = .ok (.isub, 1) := by decide +kernel
theorem d_Row_meetShocks_88 : decode b_Row_meetShocks 88 = .ok (.invokestatic 75, 3) := by decide +kernel
theorem d_Row_meetShocks_91 : decode b_Row_meetShocks 91 = .ok (.istore 4, 2) := by decide +kernel
theorem d_Row_meetShocks_93 : decode b_Row_meetShocks 93 = .ok (.aload_n 0, 1) := by decide +kernel
theorem d_Row_meetShocks_94 : decode b_Row_meetShocks 94 = .ok (.iload_n 2, 1) := by decide +kernel
theorem d_Row_meetShocks_95 : decode b_Row_meetShocks 95 = .ok (.iconst 1, 1) := by decide +kernel
theorem d_Row_meetShocks_96 : decode b_Row_meetShocks 96 = .ok (.aload_n 0, 1) := by decide +kernel
theorem d_Row_meetShocks_97 : decode b_Row_meetShocks 97 = .ok (.getfield 15, 3) := by decide +kernel
theorem d_Row_meetShocks_100 : decode b_Row_meetShocks 100 = .ok (.iload_n 1, 1) := by decide +kernel
theorem d_Row_meetShocks_101 : decode b_Row_meetShocks 101 = .ok (.iaload, 1) := by decide +kernel
theorem d_Row_meetShocks_102 : decode b_Row_meetShocks 102 = .ok (.iload_n 3, 1) := by decide +kernel
theorem d_Row_meetShocks_103 : decode b_Row_meetShocks 103 = .ok (.iload 4, 2) := by decide +kernel
theorem d_Row_meetShocks_105 : decode b_Row_meetShocks 105 = .ok (.invokevirtual 78, 3) := by decide +kernel
theorem d_Row_meetShocks_108 : decode b_Row_meetShocks 108 = .ok (.iconst 3, 1) := by decide +kernel
theorem d_Row_meetShocks_109 : decode b_Row_meetShocks 109 = .ok (.ireturn, 1) := by decide +kernel
theorem d_Row_merge_0 : decode b_Row_merge 0 = .ok (.iload_n 1, 1) := by decide +kernel
theorem d_Row_merge_1 : decode b_Row_merge 1 = .ok (.iconst 1, 1) := by decide +kernel
theorem d_Row_merge_2 : decode b_Row_merge 2 = .ok (.iadd, 1) := by decide +kernel
theorem d_Row_merge_3 : decode b_Row_merge 3 = .ok (.istore_n 2, 1) := by decide +kernel
theorem d_Row_merge_4 : decode b_Row_merge 4 = .ok (.aload_n 0, 1) := by decide +kernel
theorem d_Row_merge_5 : decode b_Row_merge 5 = .ok (.getfield 24, 3) := by decide +kernel
theorem d_Row_merge_8 : decode b_Row_merge 8 = .ok (.iload_n 1, 1) := by decide +kernel
theorem d_Row_merge_9 : decode b_Row_merge 9 = .ok (.iaload, 1) := by decide +kernel
theorem d_Row_merge_10 : decode b_Row_merge 10 = .ok (.aload_n 0, 1) := by decide +kernel
theorem d_Row_merge_11 : decode b_Row_merge 11 = .ok (.getfield 24, 3) := by decide +kernel
theorem d_Row_merge_14 : decode b_Row_merge 14 = .ok (.iload_n 2, 1) := by decide +kernel
theorem d_Row_merge_15 : decode b_Row_merge 15 = .ok (.iaload, 1) := by decide +kernel
theorem d_Row_merge_16 : decode b_Row_merge 16 = .ok (.iadd, 1) := by decide +kernel
theorem d_Row_merge_17 : decode b_Row_merge 17 = .ok (.istore_n 3, 1) := by decide +kernel
theorem d_Row_merge_18 : decode b_Row_merge 18 = .ok (.aload_n 0, 1) := by decide +kernel
theorem d_Row_merge_19 : decode b_Row_merge 19 = .ok (.getfield 21, 3) := by decide +kernel
theorem d_Row_merge_22 : decode b_Row_merge 22 = .ok (.iload_n 1, 1) := by decide +kernel
theorem d_Row_merge_23 : decode b_Row_merge 23 = .ok (.aload_n 0, 1) := by decide +kernel
theorem d_Row_merge_24 : decode b_Row_merge 24 = .ok (.getfield 21, 3) := by decide +kernel
theorem d_Row_merge_27 : decode b_Row_merge 27 = .ok (.iload_n 1, 1) := by decide +kernel
theorem d_Row_merge_28 : decode b_Row_merge 28 = .ok (.iaload, 1) := by decide +kernel
theorem d_Row_merge_29 : decode b_Row_merge 29 = .ok (.aload_n 0, 1) := by decide +kernel
theorem d_Row_merge_30 : decode b_Row_merge 30 = .ok (.getfield 24, 3) := by decide +kernel
theorem d_Row_merge_33 : decode b_Row_merge 33 = .ok (.iload_n 1, 1) := by decide +kernel
theorem d_Row_merge_34 : decode b_Row_merge 34 = .ok (.iaload, 1) := by decide +kernel
theorem d_Row_merge_35 : decode b_Row_merge 35 = .ok (.imul, 1) := by decide +kernel
theorem d_Row_merge_36 : decode b_Row_merge 36 = .ok (.aload_n 0, 1) := by decide +kernel
theorem d_Row_merge_37 : decode b_Row_merge 37 = .ok (.getfield 21, 3) := by decide +kernel
theorem d_Row_merge_40 : decode b_Row_merge 40 = .ok (.iload_n 2, 1) := by decide +kernel
theorem d_Row_merge_41 : decode b_Row_merge 41 = .ok (.iaload, 1) := by decide +kernel
theorem d_Row_merge_42 : decode b_Row_merge 42 = .ok (.aload_n 0, 1) := by decide +kernel
theorem d_Row_merge_43 : decode b_Row_merge 43 = .ok (.getfield 24, 3) := by decide +kernel
theorem d_Row_merge_46 : decode b_Row_merge 46 = .ok (.iload_n 2, 1) := by decide +kernel
theorem d_Row_merge_47 : decode b_Row_merge 47 = .ok (.iaload, 1) := by decide +kernel
theorem d_Row_merge_48 : decode b_Row_merge 48 = .ok (.imul, 1) := by decide +kernel
theorem d_Row_merge_49 : decode b_Row_merge 49 = .ok (.iadd, 1) := by decide +kernel
theorem d_Row_merge_50 : decode b_Row_merge 50 = .ok (.iload_n 3, 1) := by decide +kernel
theorem d_Row_merge_51 : decode b_Row_merge 51 = .ok (.idiv, 1) := by decide +kernel
theorem d_Row_merge_52 : decode b_Row_merge 52 = .ok (.iastore, 1) := by decide +kernel
theorem d_Row_merge_53 : decode b_Row_merge 53 = .ok (.aload_n 0, 1) := by decide +kernel
theorem d_Row_merge_54 : decode b_Row_merge 54 = .ok (.getfield 24, 3) := by decide +kernel
theorem d_Row_merge_57 : decode b_Row_merge 57 = .ok (.iload_n 1, 1) := by decide +kernel
theorem d_Row_merge_58 : decode b_Row_merge 58 = .ok (.sipush 900, 3) := by decide +kernel
theorem d_Row_merge_61 : decode b_Row_merge 61 = .ok (.iload_n 3, 1) := by decide +kernel
theorem d_Row_merge_62 : decode b_Row_merge 62 = .ok (.invokestatic 36, 3) := by decide +kernel
theorem d_Row_merge_65 : decode b_Row_merge 65 = .ok (.iastore, 1) := by decide +kernel
theorem d_Row_merge_66 : decode b_Row_merge 66 = .ok (.aload_n 0, 1) := by decide +kernel
theorem d_Row_merge_67 : decode b_Row_merge 67 = .ok (.iload_n 2, 1) := by decide +kernel
theorem d_Row_merge_68 : decode b_Row_merge 68 = .ok (.invokevirtual 66, 3) := by decide +kernel
theorem d_Row_merge_71 : decode b_Row_merge 71 = .ok (.return_, 1) := by decide +kernel
theorem d_Row_goThroughOther_0 : decode b_Row_goThroughOther 0 = .ok (.aload_n 0, 1) := by decide +kernel
theorem d_Row_goThroughOther_1 : decode b_Row_goThroughOther 1 = .ok (.getfield 9, 3) := by decide +kernel
theorem d_Row_goThroughOther_4 : decode b_Row_goThroughOther 4 = .ok (.iload_n 1, 1) := by decide +kernel
theorem d_Row_goThroughOther_5 : decode b_Row_goThroughOther 5 = .ok (.iaload, 1) := by decide +kernel
theorem d_Row_goThroughOther_6 : decode b_Row_goThroughOther 6 = .ok (.ifCond .ne 7, 3) := by decide +kernel
theorem d_Row_goThroughOther_9 : decode b_Row_goThroughOther 9 = .ok (.iload_n 1, 1) := by decide +kernel
theorem d_Row_goThroughOther_10 : decode b_Row_goThroughOther 10 = .ok (.goto 6, 3) := by decide +kernel
theorem d_Row_goThroughOther_13 : decode b_Row_goThroughOther 13 = .ok (.iload_n 1, 1) := by decide +kernel
theorem d_Row_goThroughOther_14 : decode b_Row_goThroughOther 14 = .ok (.iconst 1, 1) := by decide +kernel
theorem d_Row_goThroughOther_15 : decode b_Row_goThroughOther 15 = .ok (.iadd, 1) := by decide +kernel
theorem d_Row_goThroughOther_16 : decode b_Row_goThroughOther 16 = .ok (.istore_n 2, 1) := by decide +kernel
theorem d_Row_goThroughOther_17 : decode b_Row_goThroughOther 17 = .ok (.aload_n 0, 1) := by decide +kernel
theorem d_Row_goThroughOther_18 : decode b_Row_goThroughOther 18 = .ok (.getfield 9, 3) := by decide +kernel
theorem d_Row_goThroughOther_21 : decode b_Row_goThroughOther 21 = .ok (.iload_n 1, 1) := by decide +kernel
theorem d_Row_goThroughOther_22 : decode b_Row_goThroughOther 22 = .ok (.iaload, 1) := by decide +kernel
theorem d_Row_goThroughOther_23 : decode b_Row_goThroughOther 23 = .ok (.ifCond .ne 9, 3) := by decide +kernel
theorem d_Row_goThroughOther_26 : decode b_Row_goThroughOther 26 = .ok (.iload_n 1, 1) := by decide +kernel
theorem d_Row_goThroughOther_27 : decode b_Row_goThroughOther 27 = .ok (.iconst 1, 1) := by decide +kernel
theorem d_Row_goThroughOther_28 : decode b_Row_goThroughOther 28 = .ok (.iadd, 1) := by decide +kernel
theorem d_Row_goThroughOther_29 : decode b_Row_goThroughOther 29 = .ok (.goto 4, 3) := by decide +kernel
theorem d_Row_goThroughOther_32 : decode b_Row_goThroughOther 32 = .ok (.iload_n 1, 1) := by decide +kernel
theorem d_Row_goThroughOther_33 : decode b_Row_goThroughOther 33 = .ok (.istore_n 3, 1) := by decide +kernel
theorem d_Row_goThroughOther_34 : decode b_Row_goThroughOther 34 = .ok (.aload_n 0, 1) := by decide +kernel
theorem d_Row_goThroughOther_35 : decode b_Row_goThroughOther 35 = .ok (.getfield 9, 3) := by decide +kernel
theorem d_Row_goThroughOther_38 : decode b_Row_goThroughOther 38 = .ok (.iload_n 3, 1) := by decide +kernel
theorem d_Row_goThroughOther_39 : decode b_Row_goThroughOther 39 = .ok (.iaload, 1) := by decide +kernel
theorem d_Row_goThroughOther_40 : decode b_Row_goThroughOther 40 = .ok (.iconst 1, 1) := by decide +kernel
theorem d_Row_goThroughOther_41 : decode b_Row_goThroughOther 41 = .ok (.if_icmp .ne 53, 3) := by decide +kernel
theorem d_Row_goThroughOther_44 : decode b_Row_goThroughOther 44 = .ok (.aload_n 0, 1) := by decide +kernel
theorem d_Row_goThroughOther_45 : decode b_Row_goThroughOther 45 = .ok (.getfield 21, 3) := by decide +kernel
theorem d_Row_goThroughOther_48 : decode b_Row_goThroughOther 48 = .ok (.iload_n 3, 1) := by decide +kernel
theorem d_Row_goThroughOther_49 : decode b_Row_goThroughOther 49 = .ok (.aload_n 0, 1) := by decide +kernel
theorem d_Row_goThroughOther_50 : decode b_Row_goThroughOther 50 = .ok (.getfield 21, 3) := by decide +kernel
theorem d_Row_goThroughOther_53 : decode b_Row_goThroughOther 53 = .ok (.iload_n 3, 1) := by decide +kernel
theorem d_Row_goThroughOther_54 : decode b_Row_goThroughOther 54 = .ok (.iaload, 1) := by decide +kernel
theorem d_Row_goThroughOther_55 : decode b_Row_goThroughOther 55 = .ok (.aload_n 0, 1) := by decide +kernel
theorem d_Row_goThroughOther_56 : decode b_Row_goThroughOther 56 = .ok (.getfield 21, 3) := by decide +kernel
theorem d_Row_goThroughOther_59 : decode b_Row_goThroughOther 59 = .ok (.iload_n 2, 1) := by decide +kernel
theorem d_Row_goThroughOther_60 : decode b_Row_goThroughOther 60 = .ok (.iaload, 1) := by decide +kernel
theorem d_Row_goThroughOther_61 : decode b_Row_goThroughOther 61 = .ok (.bipush 10, 2) := by decide +kernel
theorem d_Row_goThroughOther_63 : decode b_Row_goThroughOther 63 = .ok (.idiv, 1) := by decide +kernel
theorem d_Row_goThroughOther_64 : decode b_Row_goThroughOther 64 = .ok (.iadd, 1) := by decide +kernel
theorem d_Row_goThroughOther_65 : decode b_Row_goThroughOther 65 = .ok (.invokestatic 82, 3) := by decide +kernel
theorem d_Row_goThroughOther_68 : decode b_Row_goThroughOther 68 = .ok (.iastore, 1) := by decide +kernel
theorem d_Row_goThroughOther_69 : decode b_Row_goThroughOther 69 = .ok (.aload_n 0, 1) := by decide +kernel
theorem d_Row_goThroughOther_70 : decode b_Row_goThroughOther 70 = .ok (.getfield 24, 3) := by decide +kernel
theorem d_Row_goThroughOther_73 : decode b_Row_goThroughOther 73 = .ok (.iload_n 2, 1) := by decide +kernel
theorem d_Row_goThroughOther_74 : decode b_Row_goThroughOther 74 = .ok (.iconst 1, 1) := by decide +kernel
theorem d_Row_goThroughOther_75 : decode b_Row_goThroughOther 75 = .ok (.aload_n 0, 1) := by decide +kernel
theorem d_Row_goThroughOther_76 : decode b_Row_goThroughOther 76 = .ok (.getfield 24, 3) := by decide +kernel
theorem d_Row_goThroughOther_79 : decode b_Row_goThroughOther 79 = .ok (.iload_n 2, 1) := by decide +kernel
theorem d_Row_goThroughOther_80 : decode b_Row_goThroughOther 80 = .ok (.iaload, 1) := by decide +kernel
theorem d_Row_goThroughOther_81 : decode b_Row_goThroughOther 81 = .ok (.bipush 9, 2) := by decide +kernel
theorem d_Row_goThroughOther_83 : decode b_Row_goThroughOther 83 = .ok (.imul, 1) := by decide +kernel
theorem d_Row_goThroughOther_84 : decode b_Row_goThroughOther 84 = .ok (.bipush 10, 2) := by decide +kernel
theorem d_Row_goThroughOther_86 : decode b_Row_goThroughOther 86 = .ok (.idiv, 1) := by decide +kernel
theorem d_Row_goThroughOther_87 : decode b_Row_goThroughOther 87 = .ok (.invokestatic 42, 3) := by decide +kernel
theorem d_Row_goThroughOther_90 : decode b_Row_goThroughOther 90 = .ok (.iastore, 1) := by decide +kernel
theorem d_Row_goThroughOther_91 : decode b_Row_goThroughOther 91 = .ok (.goto 20, 3) := by decide +kernel
theorem d_Row_goThroughOther_94 : decode b_Row_goThroughOther 94 = .ok (.aload_n 0, 1) := by decide +kernel
theorem d_Row_goThroughOther_95 : decode b_Row_goThroughOther 95 = .ok (.getfield 21, 3) := by decide +kernel
theorem d_Row_goThroughOther_98 : decode b_Row_goThroughOther 98 = .ok (.iload_n 3, 1) := by decide +kernel
theorem d_Row_goThroughOther_99 : decode b_Row_goThroughOther 99 = .ok (.aload_n 0, 1) := by decide +kernel
theorem d_Row_goThroughOther_100 : decode b_Row_goThroughOther 100 = .ok (.getfield 21, 3) := by decide +kernel
theorem d_Row_goThroughOther_103 : decode b_Row_goThroughOther 103 = .ok (.iload_n 3, 1) := by decide +kernel
theorem d_Row_goThroughOther_104 : decode b_Row_goThroughOther 104 = .ok (.iaload, 1) := by decide +kernel
theorem d_Row_goThroughOther_105 : decode b_Row_goThroughOther 105 = .ok (.iconst 2, 1) := by decide +kernel
theorem d_Row_goThroughOther_106 : decode b_Row_goThroughOther 106 = .ok (.imul, 1) := by decide +kernel
theorem d_Row_goThroughOther_107 : decode b_Row_goThroughOther 107 = .ok (.invokestatic 82, 3) := by decide +kernel
theorem d_Row_goThroughOther_110 : decode b_Row_goThroughOther 110 = .ok (.iastore, 1) := by decide +kernel
theorem d_Row_goThroughOther_111 : decode b_Row_goThroughOther 111 = .ok (.aload_n 0, 1) := by decide +kernel
theorem d_Row_goThroughOther_112 : decode b_Row_goThroughOther 112 = .ok (.iload_n 1, 1) := by decide +kernel
theorem d_Row_goThroughOther_113 : decode b_Row_goThroughOther 113 = .ok (.invokevirtual 72, 3) := by decide +kernel
theorem d_Row_goThroughOther_116 : decode b_Row_goThroughOther 116 = .ok (.iconst 2, 1) := by decide +kernel
theorem d_Row_goThroughOther_117 : decode b_Row_goThroughOther 117 = .ok (.ireturn, 1) := by decide +kernel
theorem d_Row_held_0 : decode b_Row_held 0 = .ok (.sipush (-900), 3) := by decide +kernel
theorem d_Row_held_3 : decode b_Row_held 3 = .ok (.iload_n 0, 1) := by decide +kernel
theorem d_Row_held_4 : decode b_Row_held 4 = .ok (.sipush 900, 3) := by decide +kernel
theorem d_Row_held_7 : decode b_Row_held 7 = .ok (.invokestatic 36, 3) := by decide +kernel
theorem d_Row_held_10 : decode b_Row_held 10 = .ok (.invokestatic 42, 3) := by decide +kernel
theorem d_Row_held_13 : decode b_Row_held 13 = .ok (.ireturn, 1) := by decide +kernel
theorem d_Row_changePlaces_0 : decode b_Row_changePlaces 0 = .ok (.iload_n 1, 1) := by decide +kernel
theorem d_Row_changePlaces_1 : decode b_Row_changePlaces 1 = .ok (.iconst 1, 1) := by decide +kernel
theorem d_Row_changePlaces_2 : decode b_Row_changePlaces 2 = .ok (.iadd, 1) := by decide +kernel
theorem d_Row_changePlaces_3 : decode b_Row_changePlaces 3 = .ok (.istore_n 2, 1) := by decide +kernel
theorem d_Row_changePlaces_4 : decode b_Row_changePlaces 4 = .ok (.aload_n 0, 1) := by decide +kernel
theorem d_Row_changePlaces_5 : decode b_Row_changePlaces 5 = .ok (.getfield 9, 3) := by decide +kernel
theorem d_Row_changePlaces_8 : decode b_Row_changePlaces 8 = .ok (.iload_n 1, 1) := by decide +kernel
theorem d_Row_changePlaces_9 : decode b_Row_changePlaces 9 = .ok (.iaload, 1) := by decide +kernel
theorem d_Row_changePlaces_10 : decode b_Row_changePlaces 10 = .ok (.istore_n 3, 1) := by decide +kernel
theorem d_Row_changePlaces_11 : decode b_Row_changePlaces 11 = .ok (.aload_n 0, 1) := by decide +kernel
theorem d_Row_changePlaces_12 : decode b_Row_changePlaces 12 = .ok (.getfield 21, 3) := by decide +kernel
theorem d_Row_changePlaces_15 : decode b_Row_changePlaces 15 = .ok (.iload_n 1, 1) := by decide +kernel
theorem d_Row_changePlaces_16 : decode b_Row_changePlaces 16 = .ok (.iaload, 1) := by decide +kernel
theorem d_Row_changePlaces_17 : decode b_Row_changePlaces 17 = .ok (.istore 4, 2) := by decide +kernel
theorem d_Row_changePlaces_19 : decode b_Row_changePlaces 19 = .ok (.aload_n 0, 1) := by decide +kernel
theorem d_Row_changePlaces_20 : decode b_Row_changePlaces 20 = .ok (.getfield 24, 3) := by decide +kernel
theorem d_Row_changePlaces_23 : decode b_Row_changePlaces 23 = .ok (.iload_n 1, 1) := by decide +kernel
theorem d_Row_changePlaces_24 : decode b_Row_changePlaces 24 = .ok (.iaload, 1) := by decide +kernel
theorem d_Row_changePlaces_25 : decode b_Row_changePlaces 25 = .ok (.istore 5, 2) := by decide +kernel
theorem d_Row_changePlaces_27 : decode b_Row_changePlaces 27 = .ok (.aload_n 0, 1) := by decide +kernel
theorem d_Row_changePlaces_28 : decode b_Row_changePlaces 28 = .ok (.iload_n 2, 1) := by decide +kernel
theorem d_Row_changePlaces_29 : decode b_Row_changePlaces 29 = .ok (.iload_n 1, 1) := by decide +kernel
theorem d_Row_changePlaces_30 : decode b_Row_changePlaces 30 = .ok (.invokevirtual 31, 3) := by decide +kernel
theorem d_Row_changePlaces_33 : decode b_Row_changePlaces 33 = .ok (.aload_n 0, 1) := by decide +kernel
theorem d_Row_changePlaces_34 : decode b_Row_changePlaces 34 = .ok (.getfield 9, 3) := by decide +kernel
theorem d_Row_changePlaces_37 : decode b_Row_changePlaces 37 = .ok (.iload_n 2, 1) := by decide +kernel
theorem d_Row_changePlaces_38 : decode b_Row_changePlaces 38 = .ok (.iload_n 3, 1) := by decide +kernel
theorem d_Row_changePlaces_39 : decode b_Row_changePlaces 39 = .ok (.iastore, 1) := by decide +kernel
theorem d_Row_changePlaces_40 : decode b_Row_changePlaces 40 = .ok (.aload_n 0, 1) := by decide +kernel
theorem d_Row_changePlaces_41 : decode b_Row_changePlaces 41 = .ok (.getfield 21, 3) := by decide +kernel
theorem d_Row_changePlaces_44 : decode b_Row_changePlaces 44 = .ok (.iload_n 2, 1) := by decide +kernel
theorem d_Row_changePlaces_45 : decode b_Row_changePlaces 45 = .ok (.iload 4, 2) := by decide +kernel
theorem d_Row_changePlaces_47 : decode b_Row_changePlaces 47 = .ok (.iastore, 1) := by decide +kernel
theorem d_Row_changePlaces_48 : decode b_Row_changePlaces 48 = .ok (.aload_n 0, 1) := by decide +kernel
theorem d_Row_changePlaces_49 : decode b_Row_changePlaces 49 = .ok (.getfield 24, 3) := by decide +kernel
theorem d_Row_changePlaces_52 : decode b_Row_changePlaces 52 = .ok (.iload_n 2, 1) := by decide +kernel
theorem d_Row_changePlaces_53 : decode b_Row_changePlaces 53 = .ok (.iload 5, 2) := by decide +kernel
theorem d_Row_changePlaces_55 : decode b_Row_changePlaces 55 = .ok (.iastore, 1) := by decide +kernel
theorem d_Row_changePlaces_56 : decode b_Row_changePlaces 56 = .ok (.return_, 1) := by decide +kernel
theorem d_Row_copyFrom_0 : decode b_Row_copyFrom 0 = .ok (.aload_n 0, 1) := by decide +kernel
theorem d_Row_copyFrom_1 : decode b_Row_copyFrom 1 = .ok (.aload_n 1, 1) := by decide +kernel
theorem d_Row_copyFrom_2 : decode b_Row_copyFrom 2 = .ok (.getfield 27, 3) := by decide +kernel
theorem d_Row_copyFrom_5 : decode b_Row_copyFrom 5 = .ok (.putfield 27, 3) := by decide +kernel
theorem d_Row_copyFrom_8 : decode b_Row_copyFrom 8 = .ok (.aload_n 1, 1) := by decide +kernel
theorem d_Row_copyFrom_9 : decode b_Row_copyFrom 9 = .ok (.getfield 9, 3) := by decide +kernel
theorem d_Row_copyFrom_12 : decode b_Row_copyFrom 12 = .ok (.aload_n 0, 1) := by decide +kernel
theorem d_Row_copyFrom_13 : decode b_Row_copyFrom 13 = .ok (.getfield 9, 3) := by decide +kernel
theorem d_Row_copyFrom_16 : decode b_Row_copyFrom 16 = .ok (.invokestatic 85, 3) := by decide +kernel
theorem d_Row_copyFrom_19 : decode b_Row_copyFrom 19 = .ok (.aload_n 1, 1) := by decide +kernel
theorem d_Row_copyFrom_20 : decode b_Row_copyFrom 20 = .ok (.getfield 15, 3) := by decide +kernel
theorem d_Row_copyFrom_23 : decode b_Row_copyFrom 23 = .ok (.aload_n 0, 1) := by decide +kernel
theorem d_Row_copyFrom_24 : decode b_Row_copyFrom 24 = .ok (.getfield 15, 3) := by decide +kernel
theorem d_Row_copyFrom_27 : decode b_Row_copyFrom 27 = .ok (.invokestatic 85, 3) := by decide +kernel
theorem d_Row_copyFrom_30 : decode b_Row_copyFrom 30 = .ok (.aload_n 1, 1) := by decide +kernel
theorem d_Row_copyFrom_31 : decode b_Row_copyFrom 31 = .ok (.getfield 18, 3) := by decide +kernel
theorem d_Row_copyFrom_34 : decode b_Row_copyFrom 34 = .ok (.aload_n 0, 1) := by decide +kernel
theorem d_Row_copyFrom_35 : decode b_Row_copyFrom 35 = .ok (.getfield 18, 3) := by decide +kernel
theorem d_Row_copyFrom_38 : decode b_Row_copyFrom 38 = .ok (.invokestatic 85, 3) := by decide +kernel
theorem d_Row_copyFrom_41 : decode b_Row_copyFrom 41 = .ok (.aload_n 1, 1) := by decide +kernel
theorem d_Row_copyFrom_42 : decode b_Row_copyFrom 42 = .ok (.getfield 21, 3) := by decide +kernel
theorem d_Row_copyFrom_45 : decode b_Row_copyFrom 45 = .ok (.aload_n 0, 1) := by decide +kernel
theorem d_Row_copyFrom_46 : decode b_Row_copyFrom 46 = .ok (.getfield 21, 3) := by decide +kernel
theorem d_Row_copyFrom_49 : decode b_Row_copyFrom 49 = .ok (.invokestatic 85, 3) := by decide +kernel
theorem d_Row_copyFrom_52 : decode b_Row_copyFrom 52 = .ok (.aload_n 1, 1) := by decide +kernel
theorem d_Row_copyFrom_53 : decode b_Row_copyFrom 53 = .ok (.getfield 24, 3) := by decide +kernel
theorem d_Row_copyFrom_56 : decode b_Row_copyFrom 56 = .ok (.aload_n 0, 1) := by decide +kernel
theorem d_Row_copyFrom_57 : decode b_Row_copyFrom 57 = .ok (.getfield 24, 3) := by decide +kernel
theorem d_Row_copyFrom_60 : decode b_Row_copyFrom 60 = .ok (.invokestatic 85, 3) := by decide +kernel
theorem d_Row_copyFrom_63 : decode b_Row_copyFrom 63 = .ok (.return_, 1) := by decide +kernel
theorem d_State_init_0 : decode b_State_init 0 = .ok (.aload_n 0, 1) := by decide +kernel
theorem d_State_init_1 : decode b_State_init 1 = .ok (.invokespecial 1, 3) := by decide +kernel
theorem d_State_init_4 : decode b_State_init 4 = .ok (.aload_n 0, 1) := by decide +kernel
theorem d_State_init_5 : decode b_State_init 5 = .ok (.new 7, 3) := by decide +kernel
theorem d_State_init_8 : decode b_State_init 8 = .ok (.dup, 1) := by decide +kernel
theorem d_State_init_9 : decode b_State_init 9 = .ok (.invokespecial 9, 3) := by decide +kernel
theorem d_State_init_12 : decode b_State_init 12 = .ok (.putfield 10, 3) := by decide +kernel
theorem d_State_init_15 : decode b_State_init 15 = .ok (.aload_n 0, 1) := by decide +kernel
theorem d_State_init_16 : decode b_State_init 16 = .ok (.new 16, 3) := by decide +kernel
theorem d_State_init_19 : decode b_State_init 19 = .ok (.dup, 1) := by decide +kernel
theorem d_State_init_20 : decode b_State_init 20 = .ok (.invokespecial 18, 3) := by decide +kernel
theorem d_State_init_23 : decode b_State_init 23 = .ok (.putfield 19, 3) := by decide +kernel
theorem d_State_init_26 : decode b_State_init 26 = .ok (.aload_n 0, 1) := by decide +kernel
theorem d_State_init_27 : decode b_State_init 27 = .ok (.new 23, 3) := by decide +kernel
theorem d_State_init_30 : decode b_State_init 30 = .ok (.dup, 1) := by decide +kernel
theorem d_State_init_31 : decode b_State_init 31 = .ok (.invokespecial 25, 3) := by decide +kernel
theorem d_State_init_34 : decode b_State_init 34 = .ok (.putfield 26, 3) := by decide +kernel
theorem d_State_init_37 : decode b_State_init 37 = .ok (.aload_n 0, 1) := by decide +kernel
theorem d_State_init_38 : decode b_State_init 38 = .ok (.new 30, 3) := by decide +kernel
theorem d_State_init_41 : decode b_State_init 41 = .ok (.dup, 1) := by decide +kernel
theorem d_State_init_42 : decode b_State_init 42 = .ok (.invokespecial 32, 3) := by decide +kernel
theorem d_State_init_45 : decode b_State_init 45 = .ok (.putfield 33, 3) := by decide +kernel
theorem d_State_init_48 : decode b_State_init 48 = .ok (.return_, 1) := by decide +kernel
theorem d_State_copyFrom_0 : decode b_State_copyFrom 0 = .ok (.aload_n 0, 1) := by decide +kernel
theorem d_State_copyFrom_1 : decode b_State_copyFrom 1 = .ok (.getfield 10, 3) := by decide +kernel
theorem d_State_copyFrom_4 : decode b_State_copyFrom 4 = .ok (.aload_n 1, 1) := by decide +kernel
theorem d_State_copyFrom_5 : decode b_State_copyFrom 5 = .ok (.getfield 10, 3) := by decide +kernel
theorem d_State_copyFrom_8 : decode b_State_copyFrom 8 = .ok (.invokevirtual 37, 3) := by decide +kernel
theorem d_State_copyFrom_11 : decode b_State_copyFrom 11 = .ok (.aload_n 0, 1) := by decide +kernel
theorem d_State_copyFrom_12 : decode b_State_copyFrom 12 = .ok (.getfield 19, 3) := by decide +kernel
theorem d_State_copyFrom_15 : decode b_State_copyFrom 15 = .ok (.aload_n 1, 1) := by decide +kernel
theorem d_State_copyFrom_16 : decode b_State_copyFrom 16 = .ok (.getfield 19, 3) := by decide +kernel
theorem d_State_copyFrom_19 : decode b_State_copyFrom 19 = .ok (.invokevirtual 41, 3) := by decide +kernel
theorem d_State_copyFrom_22 : decode b_State_copyFrom 22 = .ok (.aload_n 0, 1) := by decide +kernel
theorem d_State_copyFrom_23 : decode b_State_copyFrom 23 = .ok (.getfield 26, 3) := by decide +kernel
theorem d_State_copyFrom_26 : decode b_State_copyFrom 26 = .ok (.aload_n 1, 1) := by decide +kernel
theorem d_State_copyFrom_27 : decode b_State_copyFrom 27 = .ok (.getfield 26, 3) := by decide +kernel
theorem d_State_copyFrom_30 : decode b_State_copyFrom 30 = .ok (.invokevirtual 44, 3) := by decide +kernel
theorem d_State_copyFrom_33 : decode b_State_copyFrom 33 = .ok (.aload_n 0, 1) := by decide +kernel
theorem d_State_copyFrom_34 : decode b_State_copyFrom 34 = .ok (.getfield 33, 3) := by decide +kernel
theorem d_State_copyFrom_37 : decode b_State_copyFrom 37 = .ok (.aload_n 1, 1) := by decide +kernel
theorem d_State_copyFrom_38 : decode b_State_copyFrom 38 = .ok (.getfield 33, 3) := by decide +kernel
theorem d_State_copyFrom_41 : decode b_State_copyFrom 41 = .ok (.invokevirtual 47, 3) := by decide +kernel
theorem d_State_copyFrom_44 : decode b_State_copyFrom 44 = .ok (.return_, 1) := by decide +kernel
theorem d_Step_init_0 : decode b_Step_init 0 = .ok (.aload_n 0, 1) := by decide +kernel
theorem d_Step_init_1 : decode b_Step_init 1 = .ok (.invokespecial 3, 3) := by decide +kernel
theorem d_Step_init_4 : decode b_Step_init 4 = .ok (.aload_n 0, 1) := by decide +kernel
theorem d_Step_init_5 : decode b_Step_init 5 = .ok (.bipush 32, 2) := by decide +kernel
theorem d_Step_init_7 : decode b_Step_init 7 = .ok (.newarray .long, 2) := by decide +kernel
theorem d_Step_init_9 : decode b_Step_init 9 = .ok (.putfield 9, 3) := by decide +kernel
theorem d_Step_init_12 : decode b_Step_init 12 = .ok (.aload_n 0, 1) := by decide +kernel
theorem d_Step_init_13 : decode b_Step_init 13 = .ok (.bipush 32, 2) := by decide +kernel
theorem d_Step_init_15 : decode b_Step_init 15 = .ok (.newarray .long, 2) := by decide +kernel
theorem d_Step_init_17 : decode b_Step_init 17 = .ok (.putfield 15, 3) := by decide +kernel
theorem d_Step_init_20 : decode b_Step_init 20 = .ok (.aload_n 0, 1) := by decide +kernel
theorem d_Step_init_21 : decode b_Step_init 21 = .ok (.iconst 3, 1) := by decide +kernel
theorem d_Step_init_22 : decode b_Step_init 22 = .ok (.bipush 32, 2) := by decide +kernel
theorem d_Step_init_24 : decode b_Step_init 24 = .ok (.multianewarray 18 2, 4) := by decide +kernel
theorem d_Step_init_28 : decode b_Step_init 28 = .ok (.putfield 20, 3) := by decide +kernel
theorem d_Step_init_31 : decode b_Step_init 31 = .ok (.aload_n 0, 1) := by decide +kernel
theorem d_Step_init_32 : decode b_Step_init 32 = .ok (.bipush 33, 2) := by decide +kernel
theorem d_Step_init_34 : decode b_Step_init 34 = .ok (.newarray .long, 2) := by decide +kernel
theorem d_Step_init_36 : decode b_Step_init 36 = .ok (.putfield 23, 3) := by decide +kernel
theorem d_Step_init_39 : decode b_Step_init 39 = .ok (.aload_n 0, 1) := by decide +kernel
theorem d_Step_init_40 : decode b_Step_init 40 = .ok (.iconst 4, 1) := by decide +kernel
theorem d_Step_init_41 : decode b_Step_init 41 = .ok (.bipush 33, 2) := by decide +kernel
theorem d_Step_init_43 : decode b_Step_init 43 = .ok (.multianewarray 18 2, 4) := by decide +kernel
theorem d_Step_init_47 : decode b_Step_init 47 = .ok (.putfield 26, 3) := by decide +kernel
theorem d_Step_init_50 : decode b_Step_init 50 = .ok (.aload_n 0, 1) := by decide +kernel
theorem d_Step_init_51 : decode b_Step_init 51 = .ok (.iconst 4, 1) := by decide +kernel
theorem d_Step_init_52 : decode b_Step_init 52 = .ok (.bipush 32, 2) := by decide +kernel
theorem d_Step_init_54 : decode b_Step_init 54 = .ok (.multianewarray 18 2, 4) := by decide +kernel
theorem d_Step_init_58 : decode b_Step_init 58 = .ok (.putfield 29, 3) := by decide +kernel
theorem d_Step_init_61 : decode b_Step_init 61 = .ok (.aload_n 0, 1) := by decide +kernel
theorem d_Step_init_62 : decode b_Step_init 62 = .ok (.bipush 32, 2) := by decide +kernel
theorem d_Step_init_64 : decode b_Step_init 64 = .ok (.newarray .long, 2) := by decide +kernel
theorem d_Step_init_66 : decode b_Step_init 66 = .ok (.putfield 32, 3) := by decide +kernel
theorem d_Step_init_69 : decode b_Step_init 69 = .ok (.return_, 1) := by decide +kernel
theorem d_Step_isDone_0 : decode b_Step_isDone 0 = .ok (.aload_n 0, 1) := by decide +kernel
theorem d_Step_isDone_1 : decode b_Step_isDone 1 = .ok (.aload_n 1, 1) := by decide +kernel
theorem d_Step_isDone_2 : decode b_Step_isDone 2 = .ok (.invokevirtual 35, 3) := by decide +kernel
theorem d_Step_isDone_5 : decode b_Step_isDone 5 = .ok (.aload_n 0, 1) := by decide +kernel
theorem d_Step_isDone_6 : decode b_Step_isDone 6 = .ok (.aload_n 1, 1) := by decide +kernel
theorem d_Step_isDone_7 : decode b_Step_isDone 7 = .ok (.iload_n 2, 1) := by decide +kernel
theorem d_Step_isDone_8 : decode b_Step_isDone 8 = .ok (.invokevirtual 39, 3) := by decide +kernel
theorem d_Step_isDone_11 : decode b_Step_isDone 11 = .ok (.ifCond .ne 5, 3) := by decide +kernel
theorem d_Step_isDone_14 : decode b_Step_isDone 14 = .ok (.iconst 0, 1) := by decide +kernel
theorem d_Step_isDone_15 : decode b_Step_isDone 15 = .ok (.ireturn, 1) := by decide +kernel
theorem d_Step_isDone_16 : decode b_Step_isDone 16 = .ok (.iconst 0, 1) := by decide +kernel
theorem d_Step_isDone_17 : decode b_Step_isDone 17 = .ok (.istore_n 3, 1) := by decide +kernel
theorem d_Step_isDone_18 : decode b_Step_isDone 18 = .ok (.iload_n 3, 1) := by decide +kernel
theorem d_Step_isDone_19 : decode b_Step_isDone 19 = .ok (.aload_n 1, 1) := by decide +kernel
theorem d_Step_isDone_20 : decode b_Step_isDone 20 = .ok (.getfield 43, 3) := by decide +kernel
theorem d_Step_isDone_23 : decode b_Step_isDone 23 = .ok (.if_icmp .gt 16, 3) := by decide +kernel
theorem d_Step_isDone_26 : decode b_Step_isDone 26 = .ok (.aload_n 0, 1) := by decide +kernel
theorem d_Step_isDone_27 : decode b_Step_isDone 27 = .ok (.aload_n 1, 1) := by decide +kernel
theorem d_Step_isDone_28 : decode b_Step_isDone 28 = .ok (.iload_n 3, 1) := by decide +kernel
theorem d_Step_isDone_29 : decode b_Step_isDone 29 = .ok (.iload_n 2, 1) := by decide +kernel
theorem d_Step_isDone_30 : decode b_Step_isDone 30 = .ok (.invokevirtual 49, 3) := by decide +kernel
theorem d_Step_isDone_33 : decode b_Step_isDone 33 = .ok (.iinc 3 1, 3) := by decide +kernel
theorem d_Step_isDone_36 : decode b_Step_isDone 36 = .ok (.goto (-18), 3) := by decide +kernel
theorem d_Step_isDone_39 : decode b_Step_isDone 39 = .ok (.aload_n 0, 1) := by decide +kernel
theorem d_Step_isDone_40 : decode b_Step_isDone 40 = .ok (.lconst 0, 1) := by decide +kernel
theorem d_Step_isDone_41 : decode b_Step_isDone 41 = .ok (.putfield 53, 3) := by decide +kernel
theorem d_Step_isDone_44 : decode b_Step_isDone 44 = .ok (.iconst 0, 1) := by decide +kernel
theorem d_Step_isDone_45 : decode b_Step_isDone 45 = .ok (.istore_n 3, 1) := by decide +kernel
theorem d_Step_isDone_46 : decode b_Step_isDone 46 = .ok (.iload_n 3, 1) := by decide +kernel
theorem d_Step_isDone_47 : decode b_Step_isDone 47 = .ok (.aload_n 1, 1) := by decide +kernel
theorem d_Step_isDone_48 : decode b_Step_isDone 48 = .ok (.getfield 43, 3) := by decide +kernel
theorem d_Step_isDone_51 : decode b_Step_isDone 51 = .ok (.if_icmp .ge 20, 3) := by decide +kernel
theorem d_Step_isDone_54 : decode b_Step_isDone 54 = .ok (.aload_n 0, 1) := by decide +kernel
theorem d_Step_isDone_55 : decode b_Step_isDone 55 = .ok (.aload_n 1, 1) := by decide +kernel
theorem d_Step_isDone_56 : decode b_Step_isDone 56 = .ok (.iload_n 3, 1) := by decide +kernel
theorem d_Step_isDone_57 : decode b_Step_isDone 57 = .ok (.invokevirtual 57, 3) := by decide +kernel
theorem d_Step_isDone_60 : decode b_Step_isDone 60 = .ok (.ifCond .ne 5, 3) := by decide +kernel
theorem d_Step_isDone_63 : decode b_Step_isDone 63 = .ok (.iconst 0, 1) := by decide +kernel
theorem d_Step_isDone_64 : decode b_Step_isDone 64 = .ok (.ireturn, 1) := by decide +kernel
theorem d_Step_isDone_65 : decode b_Step_isDone 65 = .ok (.iinc 3 1, 3) := by decide +kernel
theorem d_Step_isDone_68 : decode b_Step_isDone 68 = .ok (.goto (-22), 3) := by decide +kernel
theorem d_Step_isDone_71 : decode b_Step_isDone 71 = .ok (.aload_n 0, 1) := by decide +kernel
theorem d_Step_isDone_72 : decode b_Step_isDone 72 = .ok (.aload_n 1, 1) := by decide +kernel
theorem d_Step_isDone_73 : decode b_Step_isDone 73 = .ok (.invokevirtual 60, 3) := by decide +kernel
theorem d_Step_isDone_76 : decode b_Step_isDone 76 = .ok (.iconst 1, 1) := by decide +kernel
theorem d_Step_isDone_77 : decode b_Step_isDone 77 = .ok (.ireturn, 1) := by decide +kernel
theorem d_Step_lookAtCells_0 : decode b_Step_lookAtCells 0 = .ok (.iconst 0, 1) := by decide +kernel
theorem d_Step_lookAtCells_1 : decode b_Step_lookAtCells 1 = .ok (.istore_n 2, 1) := by decide +kernel
theorem d_Step_lookAtCells_2 : decode b_Step_lookAtCells 2 = .ok (.iload_n 2, 1) := by decide +kernel
theorem d_Step_lookAtCells_3 : decode b_Step_lookAtCells 3 = .ok (.aload_n 1, 1) := by decide +kernel
theorem d_Step_lookAtCells_4 : decode b_Step_lookAtCells 4 = .ok (.getfield 43, 3) := by decide +kernel
theorem d_Step_lookAtCells_7 : decode b_Step_lookAtCells 7 = .ok (.if_icmp .ge 119, 3) := by decide +kernel
theorem d_Step_lookAtCells_10 : decode b_Step_lookAtCells 10 = .ok (.aload_n 1, 1) := by decide +kernel
theorem d_Step_lookAtCells_11 : decode b_Step_lookAtCells 11 = .ok (.getfield 63, 3) := by decide +kernel
theorem d_Step_lookAtCells_14 : decode b_Step_lookAtCells 14 = .ok (.iconst 0, 1) := by decide +kernel
theorem d_Step_lookAtCells_15 : decode b_Step_lookAtCells 15 = .ok (.aaload, 1) := by decide +kernel
theorem d_Step_lookAtCells_16 : decode b_Step_lookAtCells 16 = .ok (.iload_n 2, 1) := by decide +kernel
theorem d_Step_lookAtCells_17 : decode b_Step_lookAtCells 17 = .ok (.laload, 1) := by decide +kernel
theorem d_Step_lookAtCells_18 : decode b_Step_lookAtCells 18 = .ok (.lstore_n 3, 1) := by decide +kernel
theorem d_Step_lookAtCells_19 : decode b_Step_lookAtCells 19 = .ok (.aload_n 1, 1) := by decide +kernel
theorem d_Step_lookAtCells_20 : decode b_Step_lookAtCells 20 = .ok (.getfield 63, 3) := by decide +kernel
theorem d_Step_lookAtCells_23 : decode b_Step_lookAtCells 23 = .ok (.iconst 1, 1) := by decide +kernel
theorem d_Step_lookAtCells_24 : decode b_Step_lookAtCells 24 = .ok (.aaload, 1) := by decide +kernel
theorem d_Step_lookAtCells_25 : decode b_Step_lookAtCells 25 = .ok (.iload_n 2, 1) := by decide +kernel
theorem d_Step_lookAtCells_26 : decode b_Step_lookAtCells 26 = .ok (.laload, 1) := by decide +kernel
theorem d_Step_lookAtCells_27 : decode b_Step_lookAtCells 27 = .ok (.lstore 5, 2) := by decide +kernel
theorem d_Step_lookAtCells_29 : decode b_Step_lookAtCells 29 = .ok (.aload_n 1, 1) := by decide +kernel
theorem d_Step_lookAtCells_30 : decode b_Step_lookAtCells 30 = .ok (.iload_n 2, 1) := by decide +kernel
theorem d_Step_lookAtCells_31 : decode b_Step_lookAtCells 31 = .ok (.invokevirtual 66, 3) := by decide +kernel
theorem d_Step_lookAtCells_34 : decode b_Step_lookAtCells 34 = .ok (.lstore 7, 2) := by decide +kernel
theorem d_Step_lookAtCells_36 : decode b_Step_lookAtCells 36 = .ok (.aload_n 0, 1) := by decide +kernel
theorem d_Step_lookAtCells_37 : decode b_Step_lookAtCells 37 = .ok (.getfield 9, 3) := by decide +kernel
theorem d_Step_lookAtCells_40 : decode b_Step_lookAtCells 40 = .ok (.iload_n 2, 1) := by decide +kernel
theorem d_Step_lookAtCells_41 : decode b_Step_lookAtCells 41 = .ok (.lload_n 3, 1) := by decide +kernel
theorem d_Step_lookAtCells_42 : decode b_Step_lookAtCells 42 = .ok (.lload 5, 2) := by decide +kernel
theorem d_Step_lookAtCells_44 : decode b_Step_lookAtCells 44 = .ok (.invokestatic 70, 3) := by decide +kernel
theorem d_Step_lookAtCells_47 : decode b_Step_lookAtCells 47 = .ok (.lastore, 1) := by decide +kernel
theorem d_Step_lookAtCells_48 : decode b_Step_lookAtCells 48 = .ok (.aload_n 0, 1) := by decide +kernel
theorem d_Step_lookAtCells_49 : decode b_Step_lookAtCells 49 = .ok (.getfield 15, 3) := by decide +kernel
theorem d_Step_lookAtCells_52 : decode b_Step_lookAtCells 52 = .ok (.iload_n 2, 1) := by decide +kernel
theorem d_Step_lookAtCells_53 : decode b_Step_lookAtCells 53 = .ok (.aload_n 1, 1) := by decide +kernel
theorem d_Step_lookAtCells_54 : decode b_Step_lookAtCells 54 = .ok (.getfield 75, 3) := by decide +kernel
theorem d_Step_lookAtCells_57 : decode b_Step_lookAtCells 57 = .ok (.lload_n 3, 1) := by decide +kernel
theorem d_Step_lookAtCells_58 : decode b_Step_lookAtCells 58 = .ok (.lload 7, 2) := by decide +kernel
theorem d_Step_lookAtCells_60 : decode b_Step_lookAtCells 60 = .ok (.invokevirtual 79, 3) := by decide +kernel
theorem d_Step_lookAtCells_63 : decode b_Step_lookAtCells 63 = .ok (.lastore, 1) := by decide +kernel
theorem d_Step_lookAtCells_64 : decode b_Step_lookAtCells 64 = .ok (.aload_n 0, 1) := by decide +kernel
theorem d_Step_lookAtCells_65 : decode b_Step_lookAtCells 65 = .ok (.getfield 20, 3) := by decide +kernel
theorem d_Step_lookAtCells_68 : decode b_Step_lookAtCells 68 = .ok (.iconst 0, 1) := by decide +kernel
theorem d_Step_lookAtCells_69 : decode b_Step_lookAtCells 69 = .ok (.aaload, 1) := by decide +kernel
theorem d_Step_lookAtCells_70 : decode b_Step_lookAtCells 70 = .ok (.iload_n 2, 1) := by decide +kernel
theorem d_Step_lookAtCells_71 : decode b_Step_lookAtCells 71 = .ok (.lload 5, 2) := by decide +kernel
theorem d_Step_lookAtCells_73 : decode b_Step_lookAtCells 73 = .ok (.lastore, 1) := by decide +kernel
theorem d_Step_lookAtCells_74 : decode b_Step_lookAtCells 74 = .ok (.aload_n 0, 1) := by decide +kernel
theorem d_Step_lookAtCells_75 : decode b_Step_lookAtCells 75 = .ok (.getfield 20, 3) := by decide +kernel
theorem d_Step_lookAtCells_78 : decode b_Step_lookAtCells 78 = .ok (.iconst 1, 1) := by decide +kernel
theorem d_Step_lookAtCells_79 : decode b_Step_lookAtCells 79 = .ok (.aaload, 1) := by decide +kernel
theorem d_Step_lookAtCells_80 : decode b_Step_lookAtCells 80 = .ok (.iload_n 2, 1) := by decide +kernel
theorem d_Step_lookAtCells_81 : decode b_Step_lookAtCells 81 = .ok (.lload 5, 2) := by decide +kernel
theorem d_Step_lookAtCells_83 : decode b_Step_lookAtCells 83 = .ok (.lload 5, 2) := by decide +kernel
theorem d_Step_lookAtCells_85 : decode b_Step_lookAtCells 85 = .ok (.lmul, 1) := by decide +kernel
theorem d_Step_lookAtCells_86 : decode b_Step_lookAtCells 86 = .ok (.lload_n 3, 1) := by decide +kernel
theorem d_Step_lookAtCells_87 : decode b_Step_lookAtCells 87 = .ok (.invokestatic 81, 3) := by decide +kernel
theorem d_Step_lookAtCells_90 : decode b_Step_lookAtCells 90 = .ok (.lload 7, 2) := by decide +kernel
theorem d_Step_lookAtCells_92 : decode b_Step_lookAtCells 92 = .ok (.ladd, 1) := by decide +kernel
theorem d_Step_lookAtCells_93 : decode b_Step_lookAtCells 93 = .ok (.lastore, 1) := by decide +kernel
theorem d_Step_lookAtCells_94 : decode b_Step_lookAtCells 94 = .ok (.aload_n 0, 1) := by decide +kernel
theorem d_Step_lookAtCells_95 : decode b_Step_lookAtCells 95 = .ok (.getfield 20, 3) := by decide +kernel
theorem d_Step_lookAtCells_98 : decode b_Step_lookAtCells 98 = .ok (.iconst 2, 1) := by decide +kernel
theorem d_Step_lookAtCells_99 : decode b_Step_lookAtCells 99 = .ok (.aaload, 1) := by decide +kernel
theorem d_Step_lookAtCells_100 : decode b_Step_lookAtCells 100 = .ok (.iload_n 2, 1) := by decide +kernel
theorem d_Step_lookAtCells_101 : decode b_Step_lookAtCells 101 = .ok (.aload_n 1, 1) := by decide +kernel
theorem d_Step_lookAtCells_102 : decode b_Step_lookAtCells 102 = .ok (.getfield 63, 3) := by decide +kernel
theorem d_Step_lookAtCells_105 : decode b_Step_lookAtCells 105 = .ok (.iconst 2, 1) := by decide +kernel
theorem d_Step_lookAtCells_106 : decode b_Step_lookAtCells 106 = .ok (.aaload, 1) := by decide +kernel
theorem d_Step_lookAtCells_107 : decode b_Step_lookAtCells 107 = .ok (.iload_n 2, 1) := by decide +kernel
theorem d_Step_lookAtCells_108 : decode b_Step_lookAtCells 108 = .ok (.laload, 1) := by decide +kernel
theorem d_Step_lookAtCells_109 : decode b_Step_lookAtCells 109 = .ok (.lload 7, 2) := by decide +kernel
theorem d_Step_lookAtCells_111 : decode b_Step_lookAtCells 111 = .ok (.ladd, 1) := by decide +kernel
theorem d_Step_lookAtCells_112 : decode b_Step_lookAtCells 112 = .ok (.lload 5, 2) := by decide +kernel
theorem d_Step_lookAtCells_114 : decode b_Step_lookAtCells 114 = .ok (.lmul, 1) := by decide +kernel
theorem d_Step_lookAtCells_115 : decode b_Step_lookAtCells 115 = .ok (.lload_n 3, 1) := by decide +kernel
theorem d_Step_lookAtCells_116 : decode b_Step_lookAtCells 116 = .ok (.invokestatic 81, 3) := by decide +kernel
theorem d_Step_lookAtCells_119 : decode b_Step_lookAtCells 119 = .ok (.lastore, 1) := by decide +kernel
theorem d_Step_lookAtCells_120 : decode b_Step_lookAtCells 120 = .ok (.iinc 2 1, 3) := by decide +kernel
theorem d_Step_lookAtCells_123 : decode b_Step_lookAtCells 123 = .ok (.goto (-121), 3) := by decide +kernel
theorem d_Step_lookAtCells_126 : decode b_Step_lookAtCells 126 = .ok (.return_, 1) := by decide +kernel
theorem d_Step_isSlowEnough_0 : decode b_Step_isSlowEnough 0 = .ok (.iconst 1, 1) := by decide +kernel
theorem d_Step_isSlowEnough_1 : decode b_Step_isSlowEnough 1 = .ok (.istore_n 3, 1) := by decide +kernel
theorem d_Step_isSlowEnough_2 : decode b_Step_isSlowEnough 2 = .ok (.iconst 0, 1) := by decide +kernel
theorem d_Step_isSlowEnough_3 : decode b_Step_isSlowEnough 3 = .ok (.istore 4, 2) := by decide +kernel
theorem d_Step_isSlowEnough_5 : decode b_Step_isSlowEnough 5 = .ok (.iload 4, 2) := by decide +kernel
theorem d_Step_isSlowEnough_7 : decode b_Step_isSlowEnough 7 = .ok (.aload_n 1, 1) := by decide +kernel
theorem d_Step_isSlowEnough_8 : decode b_Step_isSlowEnough 8 = .ok (.getfield 43, 3) := by decide +kernel
theorem d_Step_isSlowEnough_11 : decode b_Step_isSlowEnough 11 = .ok (.if_icmp .gt 50, 3) := by decide +kernel
theorem d_Step_isSlowEnough_14 : decode b_Step_isSlowEnough 14 = .ok (.aload_n 0, 1) := by decide +kernel
theorem d_Step_isSlowEnough_15 : decode b_Step_isSlowEnough 15 = .ok (.getfield 23, 3) := by decide +kernel
theorem d_Step_isSlowEnough_18 : decode b_Step_isSlowEnough 18 = .ok (.iload 4, 2) := by decide +kernel
theorem d_Step_isSlowEnough_20 : decode b_Step_isSlowEnough 20 = .ok (.aload_n 0, 1) := by decide +kernel
theorem d_Step_isSlowEnough_21 : decode b_Step_isSlowEnough 21 = .ok (.aload_n 1, 1) := by decide +kernel
theorem d_Step_isSlowEnough_22 : decode b_Step_isSlowEnough 22 = .ok (.iload 4, 2) := by decide +kernel
theorem d_Step_isSlowEnough_24 : decode b_Step_isSlowEnough 24 = .ok (.invokevirtual 86, 3) := by decide +kernel
theorem d_Step_isSlowEnough_27 : decode b_Step_isSlowEnough 27 = .ok (.lastore, 1) := by decide +kernel
theorem d_Step_isSlowEnough_28 : decode b_Step_isSlowEnough 28 = .ok (.iload_n 3, 1) := by decide +kernel
theorem d_Step_isSlowEnough_29 : decode b_Step_isSlowEnough 29 = .ok (.ifCond .eq 24, 3) := by decide +kernel
theorem d_Step_isSlowEnough_32 : decode b_Step_isSlowEnough 32 = .ok (.iload_n 2, 1) := by decide +kernel
theorem d_Step_isSlowEnough_33 : decode b_Step_isSlowEnough 33 = .ok (.i2l, 1) := by decide +kernel
theorem d_Step_isSlowEnough_34 : decode b_Step_isSlowEnough 34 = .ok (.aload_n 0, 1) := by decide +kernel
theorem d_Step_isSlowEnough_35 : decode b_Step_isSlowEnough 35 = .ok (.getfield 23, 3) := by decide +kernel
theorem d_Step_isSlowEnough_38 : decode b_Step_isSlowEnough 38 = .ok (.iload 4, 2) := by decide +kernel
theorem d_Step_isSlowEnough_40 : decode b_Step_isSlowEnough 40 = .ok (.laload, 1) := by decide +kernel
theorem d_Step_isSlowEnough_41 : decode b_Step_isSlowEnough 41 = .ok (.lmul, 1) := by decide +kernel
theorem d_Step_isSlowEnough_42 : decode b_Step_isSlowEnough 42 = .ok (.ldc2_w 90, 3) := by decide +kernel
theorem d_Step_isSlowEnough_45 : decode b_Step_isSlowEnough 45 = .ok (.lcmp, 1) := by decide +kernel
theorem d_Step_isSlowEnough_46 : decode b_Step_isSlowEnough 46 = .ok (.ifCond .gt 7, 3) := by decide +kernel
theorem d_Step_isSlowEnough_49 : decode b_Step_isSlowEnough 49 = .ok (.iconst 1, 1) := by decide +kernel
theorem d_Step_isSlowEnough_50 : decode b_Step_isSlowEnough 50 = .ok (.goto 4, 3) := by decide +kernel
theorem d_Step_isSlowEnough_53 : decode b_Step_isSlowEnough 53 = .ok (.iconst 0, 1) := by decide +kernel
theorem d_Step_isSlowEnough_54 : decode b_Step_isSlowEnough 54 = .ok (.istore_n 3, 1) := by decide +kernel
theorem d_Step_isSlowEnough_55 : decode b_Step_isSlowEnough 55 = .ok (.iinc 4 1, 3) := by decide +kernel
theorem d_Step_isSlowEnough_58 : decode b_Step_isSlowEnough 58 = .ok (.goto (-53), 3) := by decide +kernel
theorem d_Step_isSlowEnough_61 : decode b_Step_isSlowEnough 61 = .ok (.iload_n 3, 1) := by decide +kernel
theorem d_Step_isSlowEnough_62 : decode b_Step_isSlowEnough 62 = .ok (.ireturn, 1) := by decide +kernel
theorem d_Step_paceAt_0 : decode b_Step_paceAt 0 = .ok (.iload_n 2, 1) := by decide +kernel
theorem d_Step_paceAt_1 : decode b_Step_paceAt 1 = .ok (.invokestatic 92, 3) := by decide +kernel
theorem d_Step_paceAt_4 : decode b_Step_paceAt 4 = .ok (.istore_n 3, 1) := by decide +kernel
theorem d_Step_paceAt_5 : decode b_Step_paceAt 5 = .ok (.aload_n 1, 1) := by decide +kernel
theorem d_Step_paceAt_6 : decode b_Step_paceAt 6 = .ok (.iload_n 2, 1) := by decide +kernel
theorem d_Step_paceAt_7 : decode b_Step_paceAt 7 = .ok (.invokestatic 96, 3) := by decide +kernel
theorem d_Step_paceAt_10 : decode b_Step_paceAt 10 = .ok (.istore 4, 2) := by decide +kernel
theorem d_Step_paceAt_12 : decode b_Step_paceAt 12 = .ok (.aload_n 0, 1) := by decide +kernel
theorem d_Step_paceAt_13 : decode b_Step_paceAt 13 = .ok (.getfield 9, 3) := by decide +kernel
theorem d_Step_paceAt_16 : decode b_Step_paceAt 16 = .ok (.iload_n 3, 1) := by decide +kernel
theorem d_Step_paceAt_17 : decode b_Step_paceAt 17 = .ok (.laload, 1) := by decide +kernel
theorem d_Step_paceAt_18 : decode b_Step_paceAt 18 = .ok (.invokestatic 100, 3) := by decide +kernel
theorem d_Step_paceAt_21 : decode b_Step_paceAt 21 = .ok (.lstore 5, 2) := by decide +kernel
theorem d_Step_paceAt_23 : decode b_Step_paceAt 23 = .ok (.aload_n 1, 1) := by decide +kernel
theorem d_Step_paceAt_24 : decode b_Step_paceAt 24 = .ok (.iload_n 2, 1) := by decide +kernel
theorem d_Step_paceAt_25 : decode b_Step_paceAt 25 = .ok (.invokevirtual 104, 3) := by decide +kernel
theorem d_Step_paceAt_28 : decode b_Step_paceAt 28 = .ok (.ifCond .eq 37, 3) := by decide +kernel
theorem d_Step_paceAt_31 : decode b_Step_paceAt 31 = .ok (.aload_n 1, 1) := by decide +kernel
theorem d_Step_paceAt_32 : decode b_Step_paceAt 32 = .ok (.getfield 63, 3) := by decide +kernel
theorem d_Step_paceAt_35 : decode b_Step_paceAt 35 = .ok (.iconst 0, 1) := by decide +kernel
theorem d_Step_paceAt_36 : decode b_Step_paceAt 36 = .ok (.aaload, 1) := by decide +kernel
theorem d_Step_paceAt_37 : decode b_Step_paceAt 37 = .ok (.iload_n 3, 1) := by decide +kernel
theorem d_Step_paceAt_38 : decode b_Step_paceAt 38 = .ok (.laload, 1) := by decide +kernel
theorem d_Step_paceAt_39 : decode b_Step_paceAt 39 = .ok (.aload_n 1, 1) := by decide +kernel
theorem d_Step_paceAt_40 : decode b_Step_paceAt 40 = .ok (.getfield 63, 3) := by decide +kernel
theorem d_Step_paceAt_43 : decode b_Step_paceAt 43 = .ok (.iconst 1, 1) := by decide +kernel
theorem d_Step_paceAt_44 : decode b_Step_paceAt 44 = .ok (.aaload, 1) := by decide +kernel
theorem d_Step_paceAt_45 : decode b_Step_paceAt 45 = .ok (.iload_n 3, 1) := by decide +kernel
theorem d_Step_paceAt_46 : decode b_Step_paceAt 46 = .ok (.laload, 1) := by decide +kernel
theorem d_Step_paceAt_47 : decode b_Step_paceAt 47 = .ok (.lneg, 1) := by decide +kernel
theorem d_Step_paceAt_48 : decode b_Step_paceAt 48 = .ok (.invokestatic 70, 3) := by decide +kernel
theorem d_Step_paceAt_51 : decode b_Step_paceAt 51 = .ok (.lstore 7, 2) := by decide +kernel
theorem d_Step_paceAt_53 : decode b_Step_paceAt 53 = .ok (.lload 5, 2) := by decide +kernel
theorem d_Step_paceAt_55 : decode b_Step_paceAt 55 = .ok (.lload 7, 2) := by decide +kernel
theorem d_Step_paceAt_57 : decode b_Step_paceAt 57 = .ok (.invokestatic 100, 3) := by decide +kernel
theorem d_Step_paceAt_60 : decode b_Step_paceAt 60 = .ok (.invokestatic 108, 3) := by decide +kernel
theorem d_Step_paceAt_63 : decode b_Step_paceAt 63 = .ok (.lstore 5, 2) := by decide +kernel
theorem d_Step_paceAt_65 : decode b_Step_paceAt 65 = .ok (.lload 5, 2) := by decide +kernel
theorem d_Step_paceAt_67 : decode b_Step_paceAt 67 = .ok (.aload_n 0, 1) := by decide +kernel
theorem d_Step_paceAt_68 : decode b_Step_paceAt 68 = .ok (.getfield 15, 3) := by decide +kernel
theorem d_Step_paceAt_71 : decode b_Step_paceAt 71 = .ok (.iload_n 3, 1) := by decide +kernel
theorem d_Step_paceAt_72 : decode b_Step_paceAt 72 = .ok (.laload, 1) := by decide +kernel
theorem d_Step_paceAt_73 : decode b_Step_paceAt 73 = .ok (.ladd, 1) := by decide +kernel
theorem d_Step_paceAt_74 : decode b_Step_paceAt 74 = .ok (.aload_n 0, 1) := by decide +kernel
theorem d_Step_paceAt_75 : decode b_Step_paceAt 75 = .ok (.getfield 9, 3) := by decide +kernel
theorem d_Step_paceAt_78 : decode b_Step_paceAt 78 = .ok (.iload 4, 2) := by decide +kernel
theorem d_Step_paceAt_80 : decode b_Step_paceAt 80 = .ok (.laload, 1) := by decide +kernel
theorem d_Step_paceAt_81 : decode b_Step_paceAt 81 = .ok (.invokestatic 100, 3) := by decide +kernel
theorem d_Step_paceAt_84 : decode b_Step_paceAt 84 = .ok (.aload_n 0, 1) := by decide +kernel
theorem d_Step_paceAt_85 : decode b_Step_paceAt 85 = .ok (.getfield 15, 3) := by decide +kernel
theorem d_Step_paceAt_88 : decode b_Step_paceAt 88 = .ok (.iload 4, 2) := by decide +kernel
theorem d_Step_paceAt_90 : decode b_Step_paceAt 90 = .ok (.laload, 1) := by decide +kernel
theorem d_Step_paceAt_91 : decode b_Step_paceAt 91 = .ok (.ladd, 1) := by decide +kernel
theorem d_Step_paceAt_92 : decode b_Step_paceAt 92 = .ok (.invokestatic 108, 3) := by decide +kernel
theorem d_Step_paceAt_95 : decode b_Step_paceAt 95 = .ok (.lreturn, 1) := by decide +kernel
theorem d_Step_leftOf_0 : decode b_Step_leftOf 0 = .ok (.iload_n 0, 1) := by decide +kernel
theorem d_Step_leftOf_1 : decode b_Step_leftOf 1 = .ok (.iconst 1, 1) := by decide +kernel
theorem d_Step_leftOf_2 : decode b_Step_leftOf 2 = .ok (.isub, 1) := by decide +kernel
theorem d_Step_leftOf_3 : decode b_Step_leftOf 3 = .ok (.iconst 0, 1) := by decide +kernel
theorem d_Step_leftOf_4 : decode b_Step_leftOf 4 = .ok (.invokestatic 111, 3) := by decide +kernel
theorem d_Step_leftOf_7 : decode b_Step_leftOf 7 = .ok (.ireturn, 1) := by decide +kernel
theorem d_Step_rightOf_0 : decode b_Step_rightOf 0 = .ok (.iload_n 1, 1) := by decide +kernel
theorem d_Step_rightOf_1 : decode b_Step_rightOf 1 = .ok (.aload_n 0, 1) := by decide +kernel
theorem d_Step_rightOf_2 : decode b_Step_rightOf 2 = .ok (.getfield 43, 3) := by decide +kernel
theorem d_Step_rightOf_5 : decode b_Step_rightOf 5 = .ok (.iconst 1, 1) := by decide +kernel
theorem d_Step_rightOf_6 : decode b_Step_rightOf 6 = .ok (.isub, 1) := by decide +kernel
theorem d_Step_rightOf_7 : decode b_Step_rightOf 7 = .ok (.invokestatic 114, 3) := by decide +kernel
theorem d_Step_rightOf_10 : decode b_Step_rightOf 10 = .ok (.ireturn, 1) := by decide +kernel
theorem d_Step_findBorder_0 : decode b_Step_findBorder 0 = .ok (.iload_n 2, 1) := by decide +kernel
theorem d_Step_findBorder_1 : decode b_Step_findBorder 1 = .ok (.invokestatic 92, 3) := by decide +kernel
theorem d_Step_findBorder_4 : decode b_Step_findBorder 4 = .ok (.istore 4, 2) := by decide +kernel
theorem d_Step_findBorder_6 : decode b_Step_findBorder 6 = .ok (.aload_n 1, 1) := by decide +kernel
theorem d_Step_findBorder_7 : decode b_Step_findBorder 7 = .ok (.iload_n 2, 1) := by decide +kernel
theorem d_Step_findBorder_8 : decode b_Step_findBorder 8 = .ok (.invokestatic 96, 3) := by decide +kernel
theorem d_Step_findBorder_11 : decode b_Step_findBorder 11 = .ok (.istore 5, 2) := by decide +kernel
theorem d_Step_findBorder_13 : decode b_Step_findBorder 13 = .ok (.aload_n 1, 1) := by decide +kernel
theorem d_Step_findBorder_14 : decode b_Step_findBorder 14 = .ok (.iload_n 2, 1) := by decide +kernel
theorem d_Step_findBorder_15 : decode b_Step_findBorder 15 = .ok (.invokevirtual 104, 3) := by decide +kernel
theorem d_Step_findBorder_18 : decode b_Step_findBorder 18 = .ok (.ifCond .eq 11, 3) := by decide +kernel
theorem d_Step_findBorder_21 : decode b_Step_findBorder 21 = .ok (.aload_n 0, 1) := by decide +kernel
theorem d_Step_findBorder_22 : decode b_Step_findBorder 22 = .ok (.aload_n 1, 1) := by decide +kernel
theorem d_Step_findBorder_23 : decode b_Step_findBorder 23 = .ok (.iload_n 2, 1) := by decide +kernel
theorem d_Step_findBorder_24 : decode b_Step_findBorder 24 = .ok (.iload_n 3, 1) := by decide +kernel
theorem d_Step_findBorder_25 : decode b_Step_findBorder 25 = .ok (.invokevirtual 117, 3) := by decide +kernel
theorem d_Step_findBorder_28 : decode b_Step_findBorder 28 = .ok (.return_, 1) := by decide +kernel
theorem d_Step_findBorder_29 : decode b_Step_findBorder 29 = .ok (.iconst 0, 1) := by decide +kernel
theorem d_Step_findBorder_30 : decode b_Step_findBorder 30 = .ok (.istore 6, 2) := by decide +kernel
theorem d_Step_findBorder_32 : decode b_Step_findBorder 32 = .ok (.iload 6, 2) := by decide +kernel
theorem d_Step_findBorder_34 : decode b_Step_findBorder 34 = .ok (.iconst 2, 1) := by decide +kernel
theorem d_Step_findBorder_35 : decode b_Step_findBorder 35 = .ok (.if_icmp .gt 74, 3) := by decide +kernel
theorem d_Step_findBorder_38 : decode b_Step_findBorder 38 = .ok (.aload_n 0, 1) := by decide +kernel
theorem d_Step_findBorder_39 : decode b_Step_findBorder 39 = .ok (.getfield 20, 3) := by decide +kernel
theorem d_Step_findBorder_42 : decode b_Step_findBorder 42 = .ok (.iload 6, 2) := by decide +kernel
theorem d_Step_findBorder_44 : decode b_Step_findBorder 44 = .ok (.aaload, 1) := by decide +kernel
theorem d_Step_findBorder_45 : decode b_Step_findBorder 45 = .ok (.iload 4, 2) := by decide +kernel
theorem d_Step_findBorder_47 : decode b_Step_findBorder 47 = .ok (.laload, 1) := by decide +kernel
theorem d_Step_findBorder_48 : decode b_Step_findBorder 48 = .ok (.aload_n 0, 1) := by decide +kernel
theorem d_Step_findBorder_49 : decode b_Step_findBorder 49 = .ok (.getfield 20, 3) := by decide +kernel
theorem d_Step_findBorder_52 : decode b_Step_findBorder 52 = .ok (.iload 6, 2) := by decide +kernel
theorem d_Step_findBorder_54 : decode b_Step_findBorder 54 = .ok (.aaload, 1) := by decide +kernel
theorem d_Step_findBorder_55 : decode b_Step_findBorder 55 = .ok (.iload 5, 2) := by decide +kernel
theorem d_Step_findBorder_57 : decode b_Step_findBorder 57 = .ok (.laload, 1) := by decide +kernel
theorem d_Step_findBorder_58 : decode b_Step_findBorder 58 = .ok (.ladd, 1) := by decide +kernel
theorem d_Step_findBorder_59 : decode b_Step_findBorder 59 = .ok (.lstore 7, 2) := by decide +kernel
theorem d_Step_findBorder_61 : decode b_Step_findBorder 61 = .ok (.aload_n 1, 1) := by decide +kernel
theorem d_Step_findBorder_62 : decode b_Step_findBorder 62 = .ok (.getfield 63, 3) := by decide +kernel
theorem d_Step_findBorder_65 : decode b_Step_findBorder 65 = .ok (.iload 6, 2) := by decide +kernel
theorem d_Step_findBorder_67 : decode b_Step_findBorder 67 = .ok (.aaload, 1) := by decide +kernel
theorem d_Step_findBorder_68 : decode b_Step_findBorder 68 = .ok (.iload 5, 2) := by decide +kernel
theorem d_Step_findBorder_70 : decode b_Step_findBorder 70 = .ok (.laload, 1) := by decide +kernel
theorem d_Step_findBorder_71 : decode b_Step_findBorder 71 = .ok (.aload_n 1, 1) := by decide +kernel
theorem d_Step_findBorder_72 : decode b_Step_findBorder 72 = .ok (.getfield 63, 3) := by decide +kernel
theorem d_Step_findBorder_75 : decode b_Step_findBorder 75 = .ok (.iload 6, 2) := by decide +kernel
theorem d_Step_findBorder_77 : decode b_Step_findBorder 77 = .ok (.aaload, 1) := by decide +kernel
theorem d_Step_findBorder_78 : decode b_Step_findBorder 78 = .ok (.iload 4, 2) := by decide +kernel
theorem d_Step_findBorder_80 : decode b_Step_findBorder 80 = .ok (.laload, 1) := by decide +kernel
theorem d_Step_findBorder_81 : decode b_Step_findBorder 81 = .ok (.lsub, 1) := by decide +kernel
theorem d_Step_findBorder_82 : decode b_Step_findBorder 82 = .ok (.lstore 9, 2) := by decide +kernel
theorem d_Step_findBorder_84 : decode b_Step_findBorder 84 = .ok (.aload_n 0, 1) := by decide +kernel
theorem d_Step_findBorder_85 : decode b_Step_findBorder 85 = .ok (.getfield 26, 3) := by decide +kernel
theorem d_Step_findBorder_88 : decode b_Step_findBorder 88 = .ok (.iload 6, 2) := by decide +kernel
theorem d_Step_findBorder_90 : decode b_Step_findBorder 90 = .ok (.aaload, 1) := by decide +kernel
theorem d_Step_findBorder_91 : decode b_Step_findBorder 91 = .ok (.iload_n 2, 1) := by decide +kernel
theorem d_Step_findBorder_92 : decode b_Step_findBorder 92 = .ok (.aload_n 0, 1) := by decide +kernel
theorem d_Step_findBorder_93 : decode b_Step_findBorder 93 = .ok (.iload_n 3, 1) := by decide +kernel
theorem d_Step_findBorder_94 : decode b_Step_findBorder 94 = .ok (.iload_n 2, 1) := by decide +kernel
theorem d_Step_findBorder_95 : decode b_Step_findBorder 95 = .ok (.lload 7, 2) := by decide +kernel
theorem d_Step_findBorder_97 : decode b_Step_findBorder 97 = .ok (.lload 9, 2) := by decide +kernel
theorem d_Step_findBorder_99 : decode b_Step_findBorder 99 = .ok (.invokevirtual 120, 3) := by decide +kernel
theorem d_Step_findBorder_102 : decode b_Step_findBorder 102 = .ok (.lastore, 1) := by decide +kernel
theorem d_Step_findBorder_103 : decode b_Step_findBorder 103 = .ok (.iinc 6 1, 3) := by decide +kernel
theorem d_Step_findBorder_106 : decode b_Step_findBorder 106 = .ok (.goto (-74), 3) := by decide +kernel
theorem d_Step_findBorder_109 : decode b_Step_findBorder 109 = .ok (.aload_n 0, 1) := by decide +kernel
theorem d_Step_findBorder_110 : decode b_Step_findBorder 110 = .ok (.getfield 26, 3) := by decide +kernel
theorem d_Step_findBorder_113 : decode b_Step_findBorder 113 = .ok (.iconst 3, 1) := by decide +kernel
theorem d_Step_findBorder_114 : decode b_Step_findBorder 114 = .ok (.aaload, 1) := by decide +kernel
theorem d_Step_findBorder_115 : decode b_Step_findBorder 115 = .ok (.iload_n 2, 1) := by decide +kernel
theorem d_Step_findBorder_116 : decode b_Step_findBorder 116 = .ok (.aload_n 1, 1) := by decide +kernel
theorem d_Step_findBorder_117 : decode b_Step_findBorder 117 = .ok (.iload 4, 2) := by decide +kernel
theorem d_Step_findBorder_119 : decode b_Step_findBorder 119 = .ok (.iload 5, 2) := by decide +kernel
theorem d_Step_findBorder_121 : decode b_Step_findBorder 121 = .ok (.aload_n 0, 1) := by decide +kernel
theorem d_Step_findBorder_122 : decode b_Step_findBorder 122 = .ok (.getfield 26, 3) := by decide +kernel
theorem d_Step_findBorder_125 : decode b_Step_findBorder 125 = .ok (.iconst 0, 1) := by decide +kernel
theorem d_Step_findBorder_126 : decode b_Step_findBorder 126 = .ok (.aaload, 1) := by decide +kernel
theorem d_Step_findBorder_127 : decode b_Step_findBorder 127 = .ok (.iload_n 2, 1) := by decide +kernel
theorem d_Step_findBorder_128 : decode b_Step_findBorder 128 = .ok (.laload, 1) := by decide +kernel
theorem d_Step_findBorder_129 : decode b_Step_findBorder 129 = .ok (.invokestatic 124, 3) := by decide +kernel
theorem d_Step_findBorder_132 : decode b_Step_findBorder 132 = .ok (.lastore, 1) := by decide +kernel
theorem d_Step_findBorder_133 : decode b_Step_findBorder 133 = .ok (.return_, 1) := by decide +kernel
theorem d_Step_findWall_0 : decode b_Step_findWall 0 = .ok (.iload_n 2, 1) := by decide +kernel
theorem d_Step_findWall_1 : decode b_Step_findWall 1 = .ok (.invokestatic 92, 3) := by decide +kernel
theorem d_Step_findWall_4 : decode b_Step_findWall 4 = .ok (.istore 4, 2) := by decide +kernel
theorem d_Step_findWall_6 : decode b_Step_findWall 6 = .ok (.ldc2_w 128, 3) := by decide +kernel
theorem d_Step_findWall_9 : decode b_Step_findWall 9 = .ok (.aload_n 1, 1) := by decide +kernel
theorem d_Step_findWall_10 : decode b_Step_findWall 10 = .ok (.getfield 63, 3) := by decide +kernel
theorem d_Step_findWall_13 : decode b_Step_findWall 13 = .ok (.iconst 1, 1) := by decide +kernel
theorem d_Step_findWall_14 : decode b_Step_findWall 14 = .ok (.aaload, 1) := by decide +kernel
theorem d_Step_findWall_15 : decode b_Step_findWall 15 = .ok (.iload 4, 2) := by decide +kernel
theorem d_Step_findWall_17 : decode b_Step_findWall 17 = .ok (.laload, 1) := by decide +kernel
theorem d_Step_findWall_18 : decode b_Step_findWall 18 = .ok (.lmul, 1) := by decide +kernel
theorem d_Step_findWall_19 : decode b_Step_findWall 19 = .ok (.lstore 5, 2) := by decide +kernel
theorem d_Step_findWall_21 : decode b_Step_findWall 21 = .ok (.aload_n 0, 1) := by decide +kernel
theorem d_Step_findWall_22 : decode b_Step_findWall 22 = .ok (.getfield 26, 3) := by decide +kernel
theorem d_Step_findWall_25 : decode b_Step_findWall 25 = .ok (.iconst 0, 1) := by decide +kernel
theorem d_Step_findWall_26 : decode b_Step_findWall 26 = .ok (.aaload, 1) := by decide +kernel
theorem d_Step_findWall_27 : decode b_Step_findWall 27 = .ok (.iload_n 2, 1) := by decide +kernel
theorem d_Step_findWall_28 : decode b_Step_findWall 28 = .ok (.lconst 0, 1) := by decide +kernel
theorem d_Step_findWall_29 : decode b_Step_findWall 29 = .ok (.lastore, 1) := by decide +kernel
theorem d_Step_findWall_30 : decode b_Step_findWall 30 = .ok (.aload_n 0, 1) := by decide +kernel
theorem d_Step_findWall_31 : decode b_Step_findWall 31 = .ok (.getfield 26, 3) := by decide +kernel
theorem d_Step_findWall_34 : decode b_Step_findWall 34 = .ok (.iconst 2, 1) := by decide +kernel
theorem d_Step_findWall_35 : decode b_Step_findWall 35 = .ok (.aaload, 1) := by decide +kernel
theorem d_Step_findWall_36 : decode b_Step_findWall 36 = .ok (.iload_n 2, 1) := by decide +kernel
theorem d_Step_findWall_37 : decode b_Step_findWall 37 = .ok (.lconst 0, 1) := by decide +kernel
theorem d_Step_findWall_38 : decode b_Step_findWall 38 = .ok (.lastore, 1) := by decide +kernel
theorem d_Step_findWall_39 : decode b_Step_findWall 39 = .ok (.aload_n 0, 1) := by decide +kernel
theorem d_Step_findWall_40 : decode b_Step_findWall 40 = .ok (.getfield 26, 3) := by decide +kernel
theorem d_Step_findWall_43 : decode b_Step_findWall 43 = .ok (.iconst 3, 1) := by decide +kernel
theorem d_Step_findWall_44 : decode b_Step_findWall 44 = .ok (.aaload, 1) := by decide +kernel
theorem d_Step_findWall_45 : decode b_Step_findWall 45 = .ok (.iload_n 2, 1) := by decide +kernel
theorem d_Step_findWall_46 : decode b_Step_findWall 46 = .ok (.lconst 0, 1) := by decide +kernel
theorem d_Step_findWall_47 : decode b_Step_findWall 47 = .ok (.lastore, 1) := by decide +kernel
theorem d_Step_findWall_48 : decode b_Step_findWall 48 = .ok (.aload_n 0, 1) := by decide +kernel
theorem d_Step_findWall_49 : decode b_Step_findWall 49 = .ok (.getfield 26, 3) := by decide +kernel
theorem d_Step_findWall_52 : decode b_Step_findWall 52 = .ok (.iconst 1, 1) := by decide +kernel
theorem d_Step_findWall_53 : decode b_Step_findWall 53 = .ok (.aaload, 1) := by decide +kernel
theorem d_Step_findWall_54 : decode b_Step_findWall 54 = .ok (.iload_n 2, 1) := by decide +kernel
theorem d_Step_findWall_55 : decode b_Step_findWall 55 = .ok (.aload_n 0, 1) := by decide +kernel
theorem d_Step_findWall_56 : decode b_Step_findWall 56 = .ok (.iload_n 3, 1) := by decide +kernel
theorem d_Step_findWall_57 : decode b_Step_findWall 57 = .ok (.iload_n 2, 1) := by decide +kernel
theorem d_Step_findWall_58 : decode b_Step_findWall 58 = .ok (.ldc2_w 128, 3) := by decide +kernel
theorem d_Step_findWall_61 : decode b_Step_findWall 61 = .ok (.aload_n 0, 1) := by decide +kernel
theorem d_Step_findWall_62 : decode b_Step_findWall 62 = .ok (.getfield 20, 3) := by decide +kernel
theorem d_Step_findWall_65 : decode b_Step_findWall 65 = .ok (.iconst 1, 1) := by decide +kernel
theorem d_Step_findWall_66 : decode b_Step_findWall 66 = .ok (.aaload, 1) := by decide +kernel
theorem d_Step_findWall_67 : decode b_Step_findWall 67 = .ok (.iload 4, 2) := by decide +kernel
theorem d_Step_findWall_69 : decode b_Step_findWall 69 = .ok (.laload, 1) := by decide +kernel
theorem d_Step_findWall_70 : decode b_Step_findWall 70 = .ok (.lmul, 1) := by decide +kernel
theorem d_Step_findWall_71 : decode b_Step_findWall 71 = .ok (.iload_n 2, 1) := by decide +kernel
theorem d_Step_findWall_72 : decode b_Step_findWall 72 = .ok (.ifCond .ne 8, 3) := by decide +kernel
theorem d_Step_findWall_75 : decode b_Step_findWall 75 = .ok (.lload 5, 2) := by decide +kernel
theorem d_Step_findWall_77 : decode b_Step_findWall 77 = .ok (.goto 6, 3) := by decide +kernel
theorem d_Step_findWall_80 : decode b_Step_findWall 80 = .ok (.lload 5, 2) := by decide +kernel
theorem d_Step_findWall_82 : decode b_Step_findWall 82 = .ok (.lneg, 1) := by decide +kernel
theorem d_Step_findWall_83 : decode b_Step_findWall 83 = .ok (.invokevirtual 120, 3) := by decide +kernel
theorem d_Step_findWall_86 : decode b_Step_findWall 86 = .ok (.lastore, 1) := by decide +kernel
theorem d_Step_findWall_87 : decode b_Step_findWall 87 = .ok (.return_, 1) := by decide +kernel
theorem d_Step_goes_0 : decode b_Step_goes 0 = .ok (.iload_n 1, 1) := by decide +kernel
theorem d_Step_goes_1 : decode b_Step_goes 1 = .ok (.i2l, 1) := by decide +kernel
theorem d_Step_goes_2 : decode b_Step_goes 2 = .ok (.ldc2_w 130, 3) := by decide +kernel
theorem d_Step_goes_5 : decode b_Step_goes 5 = .ok (.lload_n 3, 1) := by decide +kernel
theorem d_Step_goes_6 : decode b_Step_goes 6 = .ok (.lmul, 1) := by decide +kernel
theorem d_Step_goes_7 : decode b_Step_goes 7 = .ok (.aload_n 0, 1) := by decide +kernel
theorem d_Step_goes_8 : decode b_Step_goes 8 = .ok (.getfield 23, 3) := by decide +kernel
theorem d_Step_goes_11 : decode b_Step_goes 11 = .ok (.iload_n 2, 1) := by decide +kernel
theorem d_Step_goes_12 : decode b_Step_goes 12 = .ok (.laload, 1) := by decide +kernel
theorem d_Step_goes_13 : decode b_Step_goes 13 = .ok (.lload 5, 2) := by decide +kernel
theorem d_Step_goes_15 : decode b_Step_goes 15 = .ok (.lmul, 1) := by decide +kernel
theorem d_Step_goes_16 : decode b_Step_goes 16 = .ok (.lsub, 1) := by decide +kernel
theorem d_Step_goes_17 : decode b_Step_goes 17 = .ok (.lmul, 1) := by decide +kernel
theorem d_Step_goes_18 : decode b_Step_goes 18 = .ok (.ldc2_w 132, 3) := by decide +kernel
theorem d_Step_goes_21 : decode b_Step_goes 21 = .ok (.invokestatic 81, 3) := by decide +kernel
theorem d_Step_goes_24 : decode b_Step_goes 24 = .ok (.lreturn, 1) := by decide +kernel
theorem d_Step_fuelGoes_0 : decode b_Step_fuelGoes 0 = .ok (.lload_n 3, 1) := by decide +kernel
theorem d_Step_fuelGoes_1 : decode b_Step_fuelGoes 1 = .ok (.lconst 0, 1) := by decide +kernel
theorem d_Step_fuelGoes_2 : decode b_Step_fuelGoes 2 = .ok (.lcmp, 1) := by decide +kernel
theorem d_Step_fuelGoes_3 : decode b_Step_fuelGoes 3 = .ok (.ifCond .le 10, 3) := by decide +kernel
theorem d_Step_fuelGoes_6 : decode b_Step_fuelGoes 6 = .ok (.aload_n 0, 1) := by decide +kernel
theorem d_Step_fuelGoes_7 : decode b_Step_fuelGoes 7 = .ok (.iload_n 1, 1) := by decide +kernel
theorem d_Step_fuelGoes_8 : decode b_Step_fuelGoes 8 = .ok (.lload_n 3, 1) := by decide +kernel
theorem d_Step_fuelGoes_9 : decode b_Step_fuelGoes 9 = .ok (.invokestatic 134, 3) := by decide +kernel
theorem d_Step_fuelGoes_12 : decode b_Step_fuelGoes 12 = .ok (.lreturn, 1) := by decide +kernel
theorem d_Step_fuelGoes_13 : decode b_Step_fuelGoes 13 = .ok (.aload_n 0, 1) := by decide +kernel
theorem d_Step_fuelGoes_14 : decode b_Step_fuelGoes 14 = .ok (.iload_n 2, 1) := by decide +kernel
theorem d_Step_fuelGoes_15 : decode b_Step_fuelGoes 15 = .ok (.lload_n 3, 1) := by decide +kernel
theorem d_Step_fuelGoes_16 : decode b_Step_fuelGoes 16 = .ok (.lneg, 1) := by decide +kernel
theorem d_Step_fuelGoes_17 : decode b_Step_fuelGoes 17 = .ok (.invokestatic 134, 3) := by decide +kernel
theorem d_Step_fuelGoes_20 : decode b_Step_fuelGoes 20 = .ok (.lneg, 1) := by decide +kernel
theorem d_Step_fuelGoes_21 : decode b_Step_fuelGoes 21 = .ok (.lreturn, 1) := by decide +kernel
theorem d_Step_fuelWith_0 : decode b_Step_fuelWith 0 = .ok (.aload_n 0, 1) := by decide +kernel
theorem d_Step_fuelWith_1 : decode b_Step_fuelWith 1 = .ok (.getfield 63, 3) := by decide +kernel
theorem d_Step_fuelWith_4 : decode b_Step_fuelWith 4 = .ok (.iconst 3, 1) := by decide +kernel
theorem d_Step_fuelWith_5 : decode b_Step_fuelWith 5 = .ok (.aaload, 1) := by decide +kernel
theorem d_Step_fuelWith_6 : decode b_Step_fuelWith 6 = .ok (.iload_n 1, 1) := by decide +kernel
theorem d_Step_fuelWith_7 : decode b_Step_fuelWith 7 = .ok (.laload, 1) := by decide +kernel
theorem d_Step_fuelWith_8 : decode b_Step_fuelWith 8 = .ok (.lstore 4, 2) := by decide +kernel
theorem d_Step_fuelWith_10 : decode b_Step_fuelWith 10 = .ok (.lload_n 2, 1) := by decide +kernel
theorem d_Step_fuelWith_11 : decode b_Step_fuelWith 11 = .ok (.lload 4, 2) := by decide +kernel
theorem d_Step_fuelWith_13 : decode b_Step_fuelWith 13 = .ok (.lmul, 1) := by decide +kernel
theorem d_Step_fuelWith_14 : decode b_Step_fuelWith 14 = .ok (.aload_n 0, 1) := by decide +kernel
theorem d_Step_fuelWith_15 : decode b_Step_fuelWith 15 = .ok (.getfield 63, 3) := by decide +kernel
theorem d_Step_fuelWith_18 : decode b_Step_fuelWith 18 = .ok (.iconst 0, 1) := by decide +kernel
theorem d_Step_fuelWith_19 : decode b_Step_fuelWith 19 = .ok (.aaload, 1) := by decide +kernel
theorem d_Step_fuelWith_20 : decode b_Step_fuelWith 20 = .ok (.iload_n 1, 1) := by decide +kernel
theorem d_Step_fuelWith_21 : decode b_Step_fuelWith 21 = .ok (.laload, 1) := by decide +kernel
theorem d_Step_fuelWith_22 : decode b_Step_fuelWith 22 = .ok (.invokestatic 81, 3) := by decide +kernel
theorem d_Step_fuelWith_25 : decode b_Step_fuelWith 25 = .ok (.lload 4, 2) := by decide +kernel
theorem d_Step_fuelWith_27 : decode b_Step_fuelWith 27 = .ok (.invokestatic 138, 3) := by decide +kernel
theorem d_Step_fuelWith_30 : decode b_Step_fuelWith 30 = .ok (.lreturn, 1) := by decide +kernel
theorem d_Step_isFound_0 : decode b_Step_isFound 0 = .ok (.iconst 0, 1) := by decide +kernel
theorem d_Step_isFound_1 : decode b_Step_isFound 1 = .ok (.istore_n 3, 1) := by decide +kernel
theorem d_Step_isFound_2 : decode b_Step_isFound 2 = .ok (.iload_n 3, 1) := by decide +kernel
theorem d_Step_isFound_3 : decode b_Step_isFound 3 = .ok (.iconst 4, 1) := by decide +kernel
theorem d_Step_isFound_4 : decode b_Step_isFound 4 = .ok (.if_icmp .ge 45, 3) := by decide +kernel
theorem d_Step_isFound_7 : decode b_Step_isFound 7 = .ok (.aload_n 0, 1) := by decide +kernel
theorem d_Step_isFound_8 : decode b_Step_isFound 8 = .ok (.getfield 29, 3) := by decide +kernel
theorem d_Step_isFound_11 : decode b_Step_isFound 11 = .ok (.iload_n 3, 1) := by decide +kernel
theorem d_Step_isFound_12 : decode b_Step_isFound 12 = .ok (.aaload, 1) := by decide +kernel
theorem d_Step_isFound_13 : decode b_Step_isFound 13 = .ok (.iload_n 2, 1) := by decide +kernel
theorem d_Step_isFound_14 : decode b_Step_isFound 14 = .ok (.aload_n 1, 1) := by decide +kernel
theorem d_Step_isFound_15 : decode b_Step_isFound 15 = .ok (.getfield 63, 3) := by decide +kernel
theorem d_Step_isFound_18 : decode b_Step_isFound 18 = .ok (.iload_n 3, 1) := by decide +kernel
theorem d_Step_isFound_19 : decode b_Step_isFound 19 = .ok (.aaload, 1) := by decide +kernel
theorem d_Step_isFound_20 : decode b_Step_isFound 20 = .ok (.iload_n 2, 1) := by decide +kernel
theorem d_Step_isFound_21 : decode b_Step_isFound 21 = .ok (.laload, 1) := by decide +kernel
theorem d_Step_isFound_22 : decode b_Step_isFound 22 = .ok (.aload_n 0, 1) := by decide +kernel
theorem d_Step_isFound_23 : decode b_Step_isFound 23 = .ok (.getfield 26, 3) := by decide +kernel
theorem d_Step_isFound_26 : decode b_Step_isFound 26 = .ok (.iload_n 3, 1) := by decide +kernel
theorem d_Step_isFound_27 : decode b_Step_isFound 27 = .ok (.aaload, 1) := by decide +kernel
theorem d_Step_isFound_28 : decode b_Step_isFound 28 = .ok (.iload_n 2, 1) := by decide +kernel
theorem d_Step_isFound_29 : decode b_Step_isFound 29 = .ok (.laload, 1) := by decide +kernel
theorem d_Step_isFound_30 : decode b_Step_isFound 30 = .ok (.ladd, 1) := by decide +kernel
theorem d_Step_isFound_31 : decode b_Step_isFound 31 = .ok (.aload_n 0, 1) := by decide +kernel
theorem d_Step_isFound_32 : decode b_Step_isFound 32 = .ok (.getfield 26, 3) := by decide +kernel
theorem d_Step_isFound_35 : decode b_Step_isFound 35 = .ok (.iload_n 3, 1) := by decide +kernel
theorem d_Step_isFound_36 : decode b_Step_isFound 36 = .ok (.aaload, 1) := by decide +kernel
theorem d_Step_isFound_37 : decode b_Step_isFound 37 = .ok (.iload_n 2, 1) := by decide +kernel
theorem d_Step_isFound_38 : decode b_Step_isFound 38 = .ok (.iconst 1, 1) := by decide +kernel
theorem d_Step_isFound_39 : decode b_Step_isFound 39 = .ok (.iadd, 1) := by decide +kernel
theorem d_Step_isFound_40 : decode b_Step_isFound 40 = .ok (.laload, 1) := by decide +kernel
theorem d_Step_isFound_41 : decode b_Step_isFound 41 = .ok (.lsub, 1) := by decide +kernel
theorem d_Step_isFound_42 : decode b_Step_isFound 42 = .ok (.lastore, 1) := by decide +kernel
theorem d_Step_isFound_43 : decode b_Step_isFound 43 = .ok (.iinc 3 1, 3) := by decide +kernel
theorem d_Step_isFound_46 : decode b_Step_isFound 46 = .ok (.goto (-44), 3) := by decide +kernel
theorem d_Step_isFound_49 : decode b_Step_isFound 49 = .ok (.aload_n 0, 1) := by decide +kernel
theorem d_Step_isFound_50 : decode b_Step_isFound 50 = .ok (.iload_n 2, 1) := by decide +kernel
theorem d_Step_isFound_51 : decode b_Step_isFound 51 = .ok (.invokevirtual 140, 3) := by decide +kernel
theorem d_Step_isFound_54 : decode b_Step_isFound 54 = .ok (.ifCond .ne 5, 3) := by decide +kernel
theorem d_Step_isFound_57 : decode b_Step_isFound 57 = .ok (.iconst 0, 1) := by decide +kernel
theorem d_Step_isFound_58 : decode b_Step_isFound 58 = .ok (.ireturn, 1) := by decide +kernel
theorem d_Step_isFound_59 : decode b_Step_isFound 59 = .ok (.aload_n 0, 1) := by decide +kernel
theorem d_Step_isFound_60 : decode b_Step_isFound 60 = .ok (.getfield 29, 3) := by decide +kernel
theorem d_Step_isFound_63 : decode b_Step_isFound 63 = .ok (.iconst 0, 1) := by decide +kernel
theorem d_Step_isFound_64 : decode b_Step_isFound 64 = .ok (.aaload, 1) := by decide +kernel
theorem d_Step_isFound_65 : decode b_Step_isFound 65 = .ok (.iload_n 2, 1) := by decide +kernel
theorem d_Step_isFound_66 : decode b_Step_isFound 66 = .ok (.laload, 1) := by decide +kernel
theorem d_Step_isFound_67 : decode b_Step_isFound 67 = .ok (.lstore_n 3, 1) := by decide +kernel
theorem d_Step_isFound_68 : decode b_Step_isFound 68 = .ok (.aload_n 1, 1) := by decide +kernel
theorem d_Step_isFound_69 : decode b_Step_isFound 69 = .ok (.getfield 75, 3) := by decide +kernel
theorem d_Step_isFound_72 : decode b_Step_isFound 72 = .ok (.lload_n 3, 1) := by decide +kernel
theorem d_Step_isFound_73 : decode b_Step_isFound 73 = .ok (.aload_n 0, 1) := by decide +kernel
theorem d_Step_isFound_74 : decode b_Step_isFound 74 = .ok (.aload_n 1, 1) := by decide +kernel
theorem d_Step_isFound_75 : decode b_Step_isFound 75 = .ok (.iload_n 2, 1) := by decide +kernel
theorem d_Step_isFound_76 : decode b_Step_isFound 76 = .ok (.invokevirtual 143, 3) := by decide +kernel
theorem d_Step_isFound_79 : decode b_Step_isFound 79 = .ok (.aload_n 0, 1) := by decide +kernel
theorem d_Step_isFound_80 : decode b_Step_isFound 80 = .ok (.getfield 29, 3) := by decide +kernel
theorem d_Step_isFound_83 : decode b_Step_isFound 83 = .ok (.iconst 3, 1) := by decide +kernel
theorem d_Step_isFound_84 : decode b_Step_isFound 84 = .ok (.aaload, 1) := by decide +kernel
theorem d_Step_isFound_85 : decode b_Step_isFound 85 = .ok (.iload_n 2, 1) := by decide +kernel
theorem d_Step_isFound_86 : decode b_Step_isFound 86 = .ok (.laload, 1) := by decide +kernel
theorem d_Step_isFound_87 : decode b_Step_isFound 87 = .ok (.invokevirtual 146, 3) := by decide +kernel
theorem d_Step_isFound_90 : decode b_Step_isFound 90 = .ok (.lstore 5, 2) := by decide +kernel
theorem d_Step_isFound_92 : decode b_Step_isFound 92 = .ok (.aload_n 0, 1) := by decide +kernel
theorem d_Step_isFound_93 : decode b_Step_isFound 93 = .ok (.getfield 29, 3) := by decide +kernel
theorem d_Step_isFound_96 : decode b_Step_isFound 96 = .ok (.iconst 3, 1) := by decide +kernel
theorem d_Step_isFound_97 : decode b_Step_isFound 97 = .ok (.aaload, 1) := by decide +kernel
theorem d_Step_isFound_98 : decode b_Step_isFound 98 = .ok (.iload_n 2, 1) := by decide +kernel
theorem d_Step_isFound_99 : decode b_Step_isFound 99 = .ok (.dup2, 1) := by decide +kernel
theorem d_Step_isFound_100 : decode b_Step_isFound 100 = .ok (.laload, 1) := by decide +kernel
theorem d_Step_isFound_101 : decode b_Step_isFound 101 = .ok (.lload 5, 2) := by decide +kernel
theorem d_Step_isFound_103 : decode b_Step_isFound 103 = .ok (.lsub, 1) := by decide +kernel
theorem d_Step_isFound_104 : decode b_Step_isFound 104 = .ok (.lastore, 1) := by decide +kernel
theorem d_Step_isFound_105 : decode b_Step_isFound 105 = .ok (.aload_n 0, 1) := by decide +kernel
theorem d_Step_isFound_106 : decode b_Step_isFound 106 = .ok (.getfield 29, 3) := by decide +kernel
theorem d_Step_isFound_109 : decode b_Step_isFound 109 = .ok (.iconst 2, 1) := by decide +kernel
theorem d_Step_isFound_110 : decode b_Step_isFound 110 = .ok (.aaload, 1) := by decide +kernel
theorem d_Step_isFound_111 : decode b_Step_isFound 111 = .ok (.iload_n 2, 1) := by decide +kernel
theorem d_Step_isFound_112 : decode b_Step_isFound 112 = .ok (.dup2, 1) := by decide +kernel
theorem d_Step_isFound_113 : decode b_Step_isFound 113 = .ok (.laload, 1) := by decide +kernel
theorem d_Step_isFound_114 : decode b_Step_isFound 114 = .ok (.lload 5, 2) := by decide +kernel
theorem d_Step_isFound_116 : decode b_Step_isFound 116 = .ok (.aload_n 1, 1) := by decide +kernel
theorem d_Step_isFound_117 : decode b_Step_isFound 117 = .ok (.getfield 75, 3) := by decide +kernel
theorem d_Step_isFound_120 : decode b_Step_isFound 120 = .ok (.getfield 150, 3) := by decide +kernel
theorem d_Step_isFound_123 : decode b_Step_isFound 123 = .ok (.i2l, 1) := by decide +kernel
theorem d_Step_isFound_124 : decode b_Step_isFound 124 = .ok (.lmul, 1) := by decide +kernel
theorem d_Step_isFound_125 : decode b_Step_isFound 125 = .ok (.ladd, 1) := by decide +kernel
theorem d_Step_isFound_126 : decode b_Step_isFound 126 = .ok (.lastore, 1) := by decide +kernel
theorem d_Step_isFound_127 : decode b_Step_isFound 127 = .ok (.aload_n 0, 1) := by decide +kernel
theorem d_Step_isFound_128 : decode b_Step_isFound 128 = .ok (.dup, 1) := by decide +kernel
theorem d_Step_isFound_129 : decode b_Step_isFound 129 = .ok (.getfield 53, 3) := by decide +kernel
theorem d_Step_isFound_132 : decode b_Step_isFound 132 = .ok (.lload 5, 2) := by decide +kernel
theorem d_Step_isFound_134 : decode b_Step_isFound 134 = .ok (.ladd, 1) := by decide +kernel
theorem d_Step_isFound_135 : decode b_Step_isFound 135 = .ok (.putfield 53, 3) := by decide +kernel
theorem d_Step_isFound_138 : decode b_Step_isFound 138 = .ok (.aload_n 0, 1) := by decide +kernel
theorem d_Step_isFound_139 : decode b_Step_isFound 139 = .ok (.getfield 32, 3) := by decide +kernel
theorem d_Step_isFound_142 : decode b_Step_isFound 142 = .ok (.iload_n 2, 1) := by decide +kernel
theorem d_Step_isFound_143 : decode b_Step_isFound 143 = .ok (.aload_n 0, 1) := by decide +kernel
theorem d_Step_isFound_144 : decode b_Step_isFound 144 = .ok (.aload_n 1, 1) := by decide +kernel
theorem d_Step_isFound_145 : decode b_Step_isFound 145 = .ok (.iload_n 2, 1) := by decide +kernel
theorem d_Step_isFound_146 : decode b_Step_isFound 146 = .ok (.invokevirtual 143, 3) := by decide +kernel
theorem d_Step_isFound_149 : decode b_Step_isFound 149 = .ok (.lastore, 1) := by decide +kernel
theorem d_Step_isFound_150 : decode b_Step_isFound 150 = .ok (.aload_n 0, 1) := by decide +kernel
theorem d_Step_isFound_151 : decode b_Step_isFound 151 = .ok (.iload_n 2, 1) := by decide +kernel
theorem d_Step_isFound_152 : decode b_Step_isFound 152 = .ok (.invokevirtual 140, 3) := by decide +kernel
theorem d_Step_isFound_155 : decode b_Step_isFound 155 = .ok (.ireturn, 1) := by decide +kernel
theorem d_Step_isAllowed_0 : decode b_Step_isAllowed 0 = .ok (.aload_n 0, 1) := by decide +kernel
theorem d_Step_isAllowed_1 : decode b_Step_isAllowed 1 = .ok (.getfield 29, 3) := by decide +kernel
theorem d_Step_isAllowed_4 : decode b_Step_isAllowed 4 = .ok (.iconst 0, 1) := by decide +kernel
theorem d_Step_isAllowed_5 : decode b_Step_isAllowed 5 = .ok (.aaload, 1) := by decide +kernel
theorem d_Step_isAllowed_6 : decode b_Step_isAllowed 6 = .ok (.iload_n 1, 1) := by decide +kernel
theorem d_Step_isAllowed_7 : decode b_Step_isAllowed 7 = .ok (.laload, 1) := by decide +kernel
theorem d_Step_isAllowed_8 : decode b_Step_isAllowed 8 = .ok (.lstore_n 2, 1) := by decide +kernel
theorem d_Step_isAllowed_9 : decode b_Step_isAllowed 9 = .ok (.aload_n 0, 1) := by decide +kernel
theorem d_Step_isAllowed_10 : decode b_Step_isAllowed 10 = .ok (.getfield 29, 3) := by decide +kernel
theorem d_Step_isAllowed_13 : decode b_Step_isAllowed 13 = .ok (.iconst 2, 1) := by decide +kernel
theorem d_Step_isAllowed_14 : decode b_Step_isAllowed 14 = .ok (.aaload, 1) := by decide +kernel
theorem d_Step_isAllowed_15 : decode b_Step_isAllowed 15 = .ok (.iload_n 1, 1) := by decide +kernel
theorem d_Step_isAllowed_16 : decode b_Step_isAllowed 16 = .ok (.laload, 1) := by decide +kernel
theorem d_Step_isAllowed_17 : decode b_Step_isAllowed 17 = .ok (.lstore 4, 2) := by decide +kernel
theorem d_Step_isAllowed_19 : decode b_Step_isAllowed 19 = .ok (.aload_n 0, 1) := by decide +kernel
theorem d_Step_isAllowed_20 : decode b_Step_isAllowed 20 = .ok (.getfield 29, 3) := by decide +kernel
theorem d_Step_isAllowed_23 : decode b_Step_isAllowed 23 = .ok (.iconst 3, 1) := by decide +kernel
theorem d_Step_isAllowed_24 : decode b_Step_isAllowed 24 = .ok (.aaload, 1) := by decide +kernel
theorem d_Step_isAllowed_25 : decode b_Step_isAllowed 25 = .ok (.iload_n 1, 1) := by decide +kernel
theorem d_Step_isAllowed_26 : decode b_Step_isAllowed 26 = .ok (.laload, 1) := by decide +kernel
theorem d_Step_isAllowed_27 : decode b_Step_isAllowed 27 = .ok (.lstore 6, 2) := by decide +kernel
theorem d_Step_isAllowed_29 : decode b_Step_isAllowed 29 = .ok (.lload_n 2, 1) := by decide +kernel
theorem d_Step_isAllowed_30 : decode b_Step_isAllowed 30 = .ok (.lconst 1, 1) := by decide +kernel
theorem d_Step_isAllowed_31 : decode b_Step_isAllowed 31 = .ok (.lcmp, 1) := by decide +kernel
theorem d_Step_isAllowed_32 : decode b_Step_isAllowed 32 = .ok (.ifCond .lt 57, 3) := by decide +kernel
theorem d_Step_isAllowed_35 : decode b_Step_isAllowed 35 = .ok (.lload_n 2, 1) := by decide +kernel
theorem d_Step_isAllowed_36 : decode b_Step_isAllowed 36 = .ok (.ldc2_w 153, 3) := by decide +kernel
theorem d_Step_isAllowed_39 : decode b_Step_isAllowed 39 = .ok (.lcmp, 1) := by decide +kernel
theorem d_Step_isAllowed_40 : decode b_Step_isAllowed 40 = .ok (.ifCond .gt 49, 3) := by decide +kernel
theorem d_Step_isAllowed_43 : decode b_Step_isAllowed 43 = .ok (.lload 6, 2) := by decide +kernel
theorem d_Step_isAllowed_45 : decode b_Step_isAllowed 45 = .ok (.lconst 0, 1) := by decide +kernel
theorem d_Step_isAllowed_46 : decode b_Step_isAllowed 46 = .ok (.lcmp, 1) := by decide +kernel
theorem d_Step_isAllowed_47 : decode b_Step_isAllowed 47 = .ok (.ifCond .lt 42, 3) := by decide +kernel
theorem d_Step_isAllowed_50 : decode b_Step_isAllowed 50 = .ok (.lload 6, 2) := by decide +kernel
theorem d_Step_isAllowed_52 : decode b_Step_isAllowed 52 = .ok (.lload_n 2, 1) := by decide +kernel
theorem d_Step_isAllowed_53 : decode b_Step_isAllowed 53 = .ok (.lcmp, 1) := by decide +kernel
theorem d_Step_isAllowed_54 : decode b_Step_isAllowed 54 = .ok (.ifCond .gt 35, 3) := by decide +kernel
theorem d_Step_isAllowed_57 : decode b_Step_isAllowed 57 = .ok (.lload 4, 2) := by decide +kernel
theorem d_Step_isAllowed_59 : decode b_Step_isAllowed 59 = .ok (.ldc2_w 155, 3) := by decide +kernel
theorem d_Step_isAllowed_62 : decode b_Step_isAllowed 62 = .ok (.lcmp, 1) := by decide +kernel
theorem d_Step_isAllowed_63 : decode b_Step_isAllowed 63 = .ok (.ifCond .gt 26, 3) := by decide +kernel
theorem d_Step_isAllowed_66 : decode b_Step_isAllowed 66 = .ok (.lload_n 2, 1) := by decide +kernel
theorem d_Step_isAllowed_67 : decode b_Step_isAllowed 67 = .ok (.aload_n 0, 1) := by decide +kernel
theorem d_Step_isAllowed_68 : decode b_Step_isAllowed 68 = .ok (.getfield 29, 3) := by decide +kernel
theorem d_Step_isAllowed_71 : decode b_Step_isAllowed 71 = .ok (.iconst 1, 1) := by decide +kernel
theorem d_Step_isAllowed_72 : decode b_Step_isAllowed 72 = .ok (.aaload, 1) := by decide +kernel
theorem d_Step_isAllowed_73 : decode b_Step_isAllowed 73 = .ok (.iload_n 1, 1) := by decide +kernel
theorem d_Step_isAllowed_74 : decode b_Step_isAllowed 74 = .ok (.laload, 1) := by decide +kernel
theorem d_Step_isAllowed_75 : decode b_Step_isAllowed 75 = .ok (.lload 4, 2) := by decide +kernel
theorem d_Step_isAllowed_77 : decode b_Step_isAllowed 77 = .ok (.invokestatic 157, 3) := by decide +kernel
theorem d_Step_isAllowed_80 : decode b_Step_isAllowed 80 = .ok (.lconst 0, 1) := by decide +kernel
theorem d_Step_isAllowed_81 : decode b_Step_isAllowed 81 = .ok (.lcmp, 1) := by decide +kernel
theorem d_Step_isAllowed_82 : decode b_Step_isAllowed 82 = .ok (.ifCond .lt 7, 3) := by decide +kernel
theorem d_Step_isAllowed_85 : decode b_Step_isAllowed 85 = .ok (.iconst 1, 1) := by decide +kernel
theorem d_Step_isAllowed_86 : decode b_Step_isAllowed 86 = .ok (.goto 4, 3) := by decide +kernel
theorem d_Step_isAllowed_89 : decode b_Step_isAllowed 89 = .ok (.iconst 0, 1) := by decide +kernel
theorem d_Step_isAllowed_90 : decode b_Step_isAllowed 90 = .ok (.ireturn, 1) := by decide +kernel
theorem d_Step_pressureNext_0 : decode b_Step_pressureNext 0 = .ok (.aload_n 1, 1) := by decide +kernel
theorem d_Step_pressureNext_1 : decode b_Step_pressureNext 1 = .ok (.getfield 75, 3) := by decide +kernel
theorem d_Step_pressureNext_4 : decode b_Step_pressureNext 4 = .ok (.aload_n 0, 1) := by decide +kernel
theorem d_Step_pressureNext_5 : decode b_Step_pressureNext 5 = .ok (.getfield 29, 3) := by decide +kernel
theorem d_Step_pressureNext_8 : decode b_Step_pressureNext 8 = .ok (.iconst 0, 1) := by decide +kernel
theorem d_Step_pressureNext_9 : decode b_Step_pressureNext 9 = .ok (.aaload, 1) := by decide +kernel
theorem d_Step_pressureNext_10 : decode b_Step_pressureNext 10 = .ok (.iload_n 2, 1) := by decide +kernel
theorem d_Step_pressureNext_11 : decode b_Step_pressureNext 11 = .ok (.laload, 1) := by decide +kernel
theorem d_Step_pressureNext_12 : decode b_Step_pressureNext 12 = .ok (.aload_n 0, 1) := by decide +kernel
theorem d_Step_pressureNext_13 : decode b_Step_pressureNext 13 = .ok (.getfield 29, 3) := by decide +kernel
theorem d_Step_pressureNext_16 : decode b_Step_pressureNext 16 = .ok (.iconst 1, 1) := by decide +kernel
theorem d_Step_pressureNext_17 : decode b_Step_pressureNext 17 = .ok (.aaload, 1) := by decide +kernel
theorem d_Step_pressureNext_18 : decode b_Step_pressureNext 18 = .ok (.iload_n 2, 1) := by decide +kernel
theorem d_Step_pressureNext_19 : decode b_Step_pressureNext 19 = .ok (.laload, 1) := by decide +kernel
theorem d_Step_pressureNext_20 : decode b_Step_pressureNext 20 = .ok (.aload_n 0, 1) := by decide +kernel
theorem d_Step_pressureNext_21 : decode b_Step_pressureNext 21 = .ok (.getfield 29, 3) := by decide +kernel
theorem d_Step_pressureNext_24 : decode b_Step_pressureNext 24 = .ok (.iconst 2, 1) := by decide +kernel
theorem d_Step_pressureNext_25 : decode b_Step_pressureNext 25 = .ok (.aaload, 1) := by decide +kernel
theorem d_Step_pressureNext_26 : decode b_Step_pressureNext 26 = .ok (.iload_n 2, 1) := by decide +kernel
theorem d_Step_pressureNext_27 : decode b_Step_pressureNext 27 = .ok (.laload, 1) := by decide +kernel
theorem d_Step_pressureNext_28 : decode b_Step_pressureNext 28 = .ok (.invokestatic 157, 3) := by decide +kernel
theorem d_Step_pressureNext_31 : decode b_Step_pressureNext 31 = .ok (.invokevirtual 160, 3) := by decide +kernel
theorem d_Step_pressureNext_34 : decode b_Step_pressureNext 34 = .ok (.lreturn, 1) := by decide +kernel
theorem d_Step_take_0 : decode b_Step_take 0 = .ok (.aload_n 1, 1) := by decide +kernel
theorem d_Step_take_1 : decode b_Step_take 1 = .ok (.dup, 1) := by decide +kernel
theorem d_Step_take_2 : decode b_Step_take 2 = .ok (.getfield 162, 3) := by decide +kernel
theorem d_Step_take_5 : decode b_Step_take 5 = .ok (.iconst 1, 1) := by decide +kernel
theorem d_Step_take_6 : decode b_Step_take 6 = .ok (.iadd, 1) := by decide +kernel
theorem d_Step_take_7 : decode b_Step_take 7 = .ok (.putfield 162, 3) := by decide +kernel
theorem d_Step_take_10 : decode b_Step_take 10 = .ok (.iconst 0, 1) := by decide +kernel
theorem d_Step_take_11 : decode b_Step_take 11 = .ok (.istore_n 2, 1) := by decide +kernel
theorem d_Step_take_12 : decode b_Step_take 12 = .ok (.iload_n 2, 1) := by decide +kernel
theorem d_Step_take_13 : decode b_Step_take 13 = .ok (.iconst 4, 1) := by decide +kernel
theorem d_Step_take_14 : decode b_Step_take 14 = .ok (.if_icmp .ge 53, 3) := by decide +kernel
theorem d_Step_take_17 : decode b_Step_take 17 = .ok (.aload_n 0, 1) := by decide +kernel
theorem d_Step_take_18 : decode b_Step_take 18 = .ok (.getfield 29, 3) := by decide +kernel
theorem d_Step_take_21 : decode b_Step_take 21 = .ok (.iload_n 2, 1) := by decide +kernel
theorem d_Step_take_22 : decode b_Step_take 22 = .ok (.aaload, 1) := by decide +kernel
theorem d_Step_take_23 : decode b_Step_take 23 = .ok (.aload_n 1, 1) := by decide +kernel
theorem d_Step_take_24 : decode b_Step_take 24 = .ok (.getfield 63, 3) := by decide +kernel
theorem d_Step_take_27 : decode b_Step_take 27 = .ok (.iload_n 2, 1) := by decide +kernel
theorem d_Step_take_28 : decode b_Step_take 28 = .ok (.aaload, 1) := by decide +kernel
theorem d_Step_take_29 : decode b_Step_take 29 = .ok (.invokestatic 165, 3) := by decide +kernel
theorem d_Step_take_32 : decode b_Step_take 32 = .ok (.aload_n 1, 1) := by decide +kernel
theorem d_Step_take_33 : decode b_Step_take 33 = .ok (.getfield 169, 3) := by decide +kernel
theorem d_Step_take_36 : decode b_Step_take 36 = .ok (.iload_n 2, 1) := by decide +kernel
theorem d_Step_take_37 : decode b_Step_take 37 = .ok (.dup2, 1) := by decide +kernel
theorem d_Step_take_38 : decode b_Step_take 38 = .ok (.laload, 1) := by decide +kernel
theorem d_Step_take_39 : decode b_Step_take 39 = .ok (.aload_n 0, 1) := by decide +kernel
theorem d_Step_take_40 : decode b_Step_take 40 = .ok (.getfield 26, 3) := by decide +kernel
theorem d_Step_take_43 : decode b_Step_take 43 = .ok (.iload_n 2, 1) := by decide +kernel
theorem d_Step_take_44 : decode b_Step_take 44 = .ok (.aaload, 1) := by decide +kernel
theorem d_Step_take_45 : decode b_Step_take 45 = .ok (.iconst 0, 1) := by decide +kernel
theorem d_Step_take_46 : decode b_Step_take 46 = .ok (.laload, 1) := by decide +kernel
theorem d_Step_take_47 : decode b_Step_take 47 = .ok (.aload_n 0, 1) := by decide +kernel
theorem d_Step_take_48 : decode b_Step_take 48 = .ok (.getfield 26, 3) := by decide +kernel
theorem d_Step_take_51 : decode b_Step_take 51 = .ok (.iload_n 2, 1) := by decide +kernel
theorem d_Step_take_52 : decode b_Step_take 52 = .ok (.aaload, 1) := by decide +kernel
theorem d_Step_take_53 : decode b_Step_take 53 = .ok (.aload_n 1, 1) := by decide +kernel
theorem d_Step_take_54 : decode b_Step_take 54 = .ok (.getfield 43, 3) := by decide +kernel
theorem d_Step_take_57 : decode b_Step_take 57 = .ok (.laload, 1) := by decide +kernel
theorem d_Step_take_58 : decode b_Step_take 58 = .ok (.lsub, 1) := by decide +kernel
theorem d_Step_take_59 : decode b_Step_take 59 = .ok (.ladd, 1) := by decide +kernel
theorem d_Step_take_60 : decode b_Step_take 60 = .ok (.lastore, 1) := by decide +kernel
theorem d_Step_take_61 : decode b_Step_take 61 = .ok (.iinc 2 1, 3) := by decide +kernel
theorem d_Step_take_64 : decode b_Step_take 64 = .ok (.goto (-52), 3) := by decide +kernel
theorem d_Step_take_67 : decode b_Step_take 67 = .ok (.aload_n 1, 1) := by decide +kernel
theorem d_Step_take_68 : decode b_Step_take 68 = .ok (.getfield 169, 3) := by decide +kernel
theorem d_Step_take_71 : decode b_Step_take 71 = .ok (.iconst 4, 1) := by decide +kernel
theorem d_Step_take_72 : decode b_Step_take 72 = .ok (.dup2, 1) := by decide +kernel
theorem d_Step_take_73 : decode b_Step_take 73 = .ok (.laload, 1) := by decide +kernel
theorem d_Step_take_74 : decode b_Step_take 74 = .ok (.aload_n 0, 1) := by decide +kernel
theorem d_Step_take_75 : decode b_Step_take 75 = .ok (.getfield 53, 3) := by decide +kernel
theorem d_Step_take_78 : decode b_Step_take 78 = .ok (.aload_n 1, 1) := by decide +kernel
theorem d_Step_take_79 : decode b_Step_take 79 = .ok (.getfield 75, 3) := by decide +kernel
theorem d_Step_take_82 : decode b_Step_take 82 = .ok (.getfield 150, 3) := by decide +kernel
theorem d_Step_take_85 : decode b_Step_take 85 = .ok (.i2l, 1) := by decide +kernel
theorem d_Step_take_86 : decode b_Step_take 86 = .ok (.lmul, 1) := by decide +kernel
theorem d_Step_take_87 : decode b_Step_take 87 = .ok (.ladd, 1) := by decide +kernel
theorem d_Step_take_88 : decode b_Step_take 88 = .ok (.lastore, 1) := by decide +kernel
theorem d_Step_take_89 : decode b_Step_take 89 = .ok (.aload_n 1, 1) := by decide +kernel
theorem d_Step_take_90 : decode b_Step_take 90 = .ok (.getfield 169, 3) := by decide +kernel
theorem d_Step_take_93 : decode b_Step_take 93 = .ok (.iconst 5, 1) := by decide +kernel
theorem d_Step_take_94 : decode b_Step_take 94 = .ok (.dup2, 1) := by decide +kernel
theorem d_Step_take_95 : decode b_Step_take 95 = .ok (.laload, 1) := by decide +kernel
theorem d_Step_take_96 : decode b_Step_take 96 = .ok (.aload_n 0, 1) := by decide +kernel
theorem d_Step_take_97 : decode b_Step_take 97 = .ok (.getfield 53, 3) := by decide +kernel
theorem d_Step_take_100 : decode b_Step_take 100 = .ok (.ladd, 1) := by decide +kernel
theorem d_Step_take_101 : decode b_Step_take 101 = .ok (.lastore, 1) := by decide +kernel
theorem d_Step_take_102 : decode b_Step_take 102 = .ok (.iconst 0, 1) := by decide +kernel
theorem d_Step_take_103 : decode b_Step_take 103 = .ok (.istore_n 2, 1) := by decide +kernel
theorem d_Step_take_104 : decode b_Step_take 104 = .ok (.iload_n 2, 1) := by decide +kernel
theorem d_Step_take_105 : decode b_Step_take 105 = .ok (.aload_n 1, 1) := by decide +kernel
theorem d_Step_take_106 : decode b_Step_take 106 = .ok (.getfield 43, 3) := by decide +kernel
theorem d_Step_take_109 : decode b_Step_take 109 = .ok (.if_icmp .ge 20, 3) := by decide +kernel
theorem d_Step_take_112 : decode b_Step_take 112 = .ok (.aload_n 1, 1) := by decide +kernel
theorem d_Step_take_113 : decode b_Step_take 113 = .ok (.iload_n 2, 1) := by decide +kernel
theorem d_Step_take_114 : decode b_Step_take 114 = .ok (.aload_n 0, 1) := by decide +kernel
theorem d_Step_take_115 : decode b_Step_take 115 = .ok (.getfield 32, 3) := by decide +kernel
theorem d_Step_take_118 : decode b_Step_take 118 = .ok (.iload_n 2, 1) := by decide +kernel
theorem d_Step_take_119 : decode b_Step_take 119 = .ok (.laload, 1) := by decide +kernel
theorem d_Step_take_120 : decode b_Step_take 120 = .ok (.invokevirtual 172, 3) := by decide +kernel
theorem d_Step_take_123 : decode b_Step_take 123 = .ok (.iinc 2 1, 3) := by decide +kernel
theorem d_Step_take_126 : decode b_Step_take 126 = .ok (.goto (-22), 3) := by decide +kernel
theorem d_Step_take_129 : decode b_Step_take 129 = .ok (.return_, 1) := by decide +kernel
theorem d_Story_init_0 : decode b_Story_init 0 = .ok (.aload_n 0, 1) := by decide +kernel
theorem d_Story_init_1 : decode b_Story_init 1 = .ok (.invokespecial 3, 3) := by decide +kernel
theorem d_Story_init_4 : decode b_Story_init 4 = .ok (.aload_n 0, 1) := by decide +kernel
theorem d_Story_init_5 : decode b_Story_init 5 = .ok (.sipush 3072, 3) := by decide +kernel
theorem d_Story_init_8 : decode b_Story_init 8 = .ok (.newarray .int, 2) := by decide +kernel
theorem d_Story_init_10 : decode b_Story_init 10 = .ok (.putfield 11, 3) := by decide +kernel
theorem d_Story_init_13 : decode b_Story_init 13 = .ok (.aload_n 0, 1) := by decide +kernel
theorem d_Story_init_14 : decode b_Story_init 14 = .ok (.new 15, 3) := by decide +kernel
theorem d_Story_init_17 : decode b_Story_init 17 = .ok (.dup, 1) := by decide +kernel
theorem d_Story_init_18 : decode b_Story_init 18 = .ok (.invokespecial 17, 3) := by decide +kernel
theorem d_Story_init_21 : decode b_Story_init 21 = .ok (.putfield 18, 3) := by decide +kernel
theorem d_Story_init_24 : decode b_Story_init 24 = .ok (.return_, 1) := by decide +kernel
theorem d_Story_begin_0 : decode b_Story_begin 0 = .ok (.aload_n 0, 1) := by decide +kernel
theorem d_Story_begin_1 : decode b_Story_begin 1 = .ok (.iconst 0, 1) := by decide +kernel
theorem d_Story_begin_2 : decode b_Story_begin 2 = .ok (.putfield 22, 3) := by decide +kernel
theorem d_Story_begin_5 : decode b_Story_begin 5 = .ok (.aload_n 0, 1) := by decide +kernel
theorem d_Story_begin_6 : decode b_Story_begin 6 = .ok (.iconst 0, 1) := by decide +kernel
theorem d_Story_begin_7 : decode b_Story_begin 7 = .ok (.putfield 26, 3) := by decide +kernel
theorem d_Story_begin_10 : decode b_Story_begin 10 = .ok (.aload_n 0, 1) := by decide +kernel
theorem d_Story_begin_11 : decode b_Story_begin 11 = .ok (.getfield 18, 3) := by decide +kernel
theorem d_Story_begin_14 : decode b_Story_begin 14 = .ok (.aload_n 1, 1) := by decide +kernel
theorem d_Story_begin_15 : decode b_Story_begin 15 = .ok (.invokevirtual 29, 3) := by decide +kernel
theorem d_Story_begin_18 : decode b_Story_begin 18 = .ok (.return_, 1) := by decide +kernel
theorem d_Story_note_0 : decode b_Story_note 0 = .ok (.aload_n 0, 1) := by decide +kernel
theorem d_Story_note_1 : decode b_Story_note 1 = .ok (.getfield 22, 3) := by decide +kernel
theorem d_Story_note_4 : decode b_Story_note 4 = .ok (.sipush 512, 3) := by decide +kernel
theorem d_Story_note_7 : decode b_Story_note 7 = .ok (.if_icmp .lt 4, 3) := by decide +kernel
theorem d_Story_note_10 : decode b_Story_note 10 = .ok (.return_, 1) := by decide +kernel
theorem d_Story_note_11 : decode b_Story_note 11 = .ok (.aload_n 0, 1) := by decide +kernel
theorem d_Story_note_12 : decode b_Story_note 12 = .ok (.getfield 22, 3) := by decide +kernel
theorem d_Story_note_15 : decode b_Story_note 15 = .ok (.bipush 6, 2) := by decide +kernel
theorem d_Story_note_17 : decode b_Story_note 17 = .ok (.imul, 1) := by decide +kernel
theorem d_Story_note_18 : decode b_Story_note 18 = .ok (.istore 7, 2) := by decide +kernel
theorem d_Story_note_20 : decode b_Story_note 20 = .ok (.aload_n 0, 1) := by decide +kernel
theorem d_Story_note_21 : decode b_Story_note 21 = .ok (.getfield 11, 3) := by decide +kernel
theorem d_Story_note_24 : decode b_Story_note 24 = .ok (.iload 7, 2) := by decide +kernel
theorem d_Story_note_26 : decode b_Story_note 26 = .ok (.iload_n 1, 1) := by decide +kernel
theorem d_Story_note_27 : decode b_Story_note 27 = .ok (.iastore, 1) := by decide +kernel
theorem d_Story_note_28 : decode b_Story_note 28 = .ok (.aload_n 0, 1) := by decide +kernel
theorem d_Story_note_29 : decode b_Story_note 29 = .ok (.getfield 11, 3) := by decide +kernel
theorem d_Story_note_32 : decode b_Story_note 32 = .ok (.iload 7, 2) := by decide +kernel
theorem d_Story_note_34 : decode b_Story_note 34 = .ok (.iconst 1, 1) := by decide +kernel
theorem d_Story_note_35 : decode b_Story_note 35 = .ok (.iadd, 1) := by decide +kernel
theorem d_Story_note_36 : decode b_Story_note 36 = .ok (.iload_n 2, 1) := by decide +kernel
theorem d_Story_note_37 : decode b_Story_note 37 = .ok (.iastore, 1) := by decide +kernel
theorem d_Story_note_38 : decode b_Story_note 38 = .ok (.aload_n 0, 1) := by decide +kernel
theorem d_Story_note_39 : decode b_Story_note 39 = .ok (.getfield 11, 3) := by decide +kernel
theorem d_Story_note_42 : decode b_Story_note 42 = .ok (.iload 7, 2) := by decide +kernel
theorem d_Story_note_44 : decode b_Story_note 44 = .ok (.iconst 2, 1) := by decide +kernel
theorem d_Story_note_45 : decode b_Story_note 45 = .ok (.iadd, 1) := by decide +kernel
theorem d_Story_note_46 : decode b_Story_note 46 = .ok (.iload_n 3, 1) := by decide +kernel
theorem d_Story_note_47 : decode b_Story_note 47 = .ok (.iastore, 1) := by decide +kernel
theorem d_Story_note_48 : decode b_Story_note 48 = .ok (.aload_n 0, 1) := by decide +kernel
theorem d_Story_note_49 : decode b_Story_note 49 = .ok (.getfield 11, 3) := by decide +kernel
theorem d_Story_note_52 : decode b_Story_note 52 = .ok (.iload 7, 2) := by decide +kernel
theorem d_Story_note_54 : decode b_Story_note 54 = .ok (.iconst 3, 1) := by decide +kernel
theorem d_Story_note_55 : decode b_Story_note 55 = .ok (.iadd, 1) := by decide +kernel
theorem d_Story_note_56 : decode b_Story_note 56 = .ok (.iload 4, 2) := by decide +kernel
theorem d_Story_note_58 : decode b_Story_note 58 = .ok (.iastore, 1) := by decide +kernel
theorem d_Story_note_59 : decode b_Story_note 59 = .ok (.aload_n 0, 1) := by decide +kernel
theorem d_Story_note_60 : decode b_Story_note 60 = .ok (.getfield 11, 3) := by decide +kernel
theorem d_Story_note_63 : decode b_Story_note 63 = .ok (.iload 7, 2) := by decide +kernel
theorem d_Story_note_65 : decode b_Story_note 65 = .ok (.iconst 4, 1) := by decide +kernel
theorem d_Story_note_66 : decode b_Story_note 66 = .ok (.iadd, 1) := by decide +kernel
theorem d_Story_note_67 : decode b_Story_note 67 = .ok (.iload 5, 2) := by decide +kernel
theorem d_Story_note_69 : decode b_Story_note 69 = .ok (.iastore, 1) := by decide +kernel
theorem d_Story_note_70 : decode b_Story_note 70 = .ok (.aload_n 0, 1) := by decide +kernel
theorem d_Story_note_71 : decode b_Story_note 71 = .ok (.getfield 11, 3) := by decide +kernel
theorem d_Story_note_74 : decode b_Story_note 74 = .ok (.iload 7, 2) := by decide +kernel
theorem d_Story_note_76 : decode b_Story_note 76 = .ok (.iconst 5, 1) := by decide +kernel
theorem d_Story_note_77 : decode b_Story_note 77 = .ok (.iadd, 1) := by decide +kernel
theorem d_Story_note_78 : decode b_Story_note 78 = .ok (.iload 6, 2) := by decide +kernel
theorem d_Story_note_80 : decode b_Story_note 80 = .ok (.iastore, 1) := by decide +kernel
theorem d_Story_note_81 : decode b_Story_note 81 = .ok (.aload_n 0, 1) := by decide +kernel
theorem d_Story_note_82 : decode b_Story_note 82 = .ok (.dup, 1) := by decide +kernel
theorem d_Story_note_83 : decode b_Story_note 83 = .ok (.getfield 22, 3) := by decide +kernel
theorem d_Story_note_86 : decode b_Story_note 86 = .ok (.iconst 1, 1) := by decide +kernel
theorem d_Story_note_87 : decode b_Story_note 87 = .ok (.iadd, 1) := by decide +kernel
theorem d_Story_note_88 : decode b_Story_note 88 = .ok (.putfield 22, 3) := by decide +kernel
theorem d_Story_note_91 : decode b_Story_note 91 = .ok (.return_, 1) := by decide +kernel
theorem d_Story_goOn_0 : decode b_Story_goOn 0 = .ok (.aload_n 0, 1) := by decide +kernel
theorem d_Story_goOn_1 : decode b_Story_goOn 1 = .ok (.getfield 26, 3) := by decide +kernel
theorem d_Story_goOn_4 : decode b_Story_goOn 4 = .ok (.aload_n 0, 1) := by decide +kernel
theorem d_Story_goOn_5 : decode b_Story_goOn 5 = .ok (.getfield 22, 3) := by decide +kernel
theorem d_Story_goOn_8 : decode b_Story_goOn 8 = .ok (.if_icmp .ge 28, 3) := by decide +kernel
theorem d_Story_goOn_11 : decode b_Story_goOn 11 = .ok (.aload_n 0, 1) := by decide +kernel
theorem d_Story_goOn_12 : decode b_Story_goOn 12 = .ok (.aload_n 0, 1) := by decide +kernel
theorem d_Story_goOn_13 : decode b_Story_goOn 13 = .ok (.getfield 26, 3) := by decide +kernel
theorem d_Story_goOn_16 : decode b_Story_goOn 16 = .ok (.bipush 6, 2) := by decide +kernel
theorem d_Story_goOn_18 : decode b_Story_goOn 18 = .ok (.imul, 1) := by decide +kernel
theorem d_Story_goOn_19 : decode b_Story_goOn 19 = .ok (.aload_n 1, 1) := by decide +kernel
theorem d_Story_goOn_20 : decode b_Story_goOn 20 = .ok (.invokevirtual 33, 3) := by decide +kernel
theorem d_Story_goOn_23 : decode b_Story_goOn 23 = .ok (.aload_n 0, 1) := by decide +kernel
theorem d_Story_goOn_24 : decode b_Story_goOn 24 = .ok (.dup, 1) := by decide +kernel
theorem d_Story_goOn_25 : decode b_Story_goOn 25 = .ok (.getfield 26, 3) := by decide +kernel
theorem d_Story_goOn_28 : decode b_Story_goOn 28 = .ok (.iconst 1, 1) := by decide +kernel
theorem d_Story_goOn_29 : decode b_Story_goOn 29 = .ok (.iadd, 1) := by decide +kernel
theorem d_Story_goOn_30 : decode b_Story_goOn 30 = .ok (.putfield 26, 3) := by decide +kernel
theorem d_Story_goOn_33 : decode b_Story_goOn 33 = .ok (.goto (-33), 3) := by decide +kernel
theorem d_Story_goOn_36 : decode b_Story_goOn 36 = .ok (.return_, 1) := by decide +kernel
theorem d_Story_goThrough_0 : decode b_Story_goThrough 0 = .ok (.aload_n 0, 1) := by decide +kernel
theorem d_Story_goThrough_1 : decode b_Story_goThrough 1 = .ok (.getfield 11, 3) := by decide +kernel
theorem d_Story_goThrough_4 : decode b_Story_goThrough 4 = .ok (.iload_n 1, 1) := by decide +kernel
theorem d_Story_goThrough_5 : decode b_Story_goThrough 5 = .ok (.iconst 1, 1) := by decide +kernel
theorem d_Story_goThrough_6 : decode b_Story_goThrough 6 = .ok (.iadd, 1) := by decide +kernel
theorem d_Story_goThrough_7 : decode b_Story_goThrough 7 = .ok (.iaload, 1) := by decide +kernel
theorem d_Story_goThrough_8 : decode b_Story_goThrough 8 = .ok (.istore_n 3, 1) := by decide +kernel
theorem d_Story_goThrough_9 : decode b_Story_goThrough 9 = .ok (.aload_n 0, 1) := by decide +kernel
theorem d_Story_goThrough_10 : decode b_Story_goThrough 10 = .ok (.getfield 11, 3) := by decide +kernel
theorem d_Story_goThrough_13 : decode b_Story_goThrough 13 = .ok (.iload_n 1, 1) := by decide +kernel
theorem d_Story_goThrough_14 : decode b_Story_goThrough 14 = .ok (.iconst 2, 1) := by decide +kernel
theorem d_Story_goThrough_15 : decode b_Story_goThrough 15 = .ok (.iadd, 1) := by decide +kernel
theorem d_Story_goThrough_16 : decode b_Story_goThrough 16 = .ok (.iaload, 1) := by decide +kernel
theorem d_Story_goThrough_17 : decode b_Story_goThrough 17 = .ok (.istore 4, 2) := by decide +kernel
theorem d_Story_goThrough_19 : decode b_Story_goThrough 19 = .ok (.aload_n 0, 1) := by decide +kernel
theorem d_Story_goThrough_20 : decode b_Story_goThrough 20 = .ok (.getfield 11, 3) := by decide +kernel
theorem d_Story_goThrough_23 : decode b_Story_goThrough 23 = .ok (.iload_n 1, 1) := by decide +kernel
theorem d_Story_goThrough_24 : decode b_Story_goThrough 24 = .ok (.iconst 3, 1) := by decide +kernel
theorem d_Story_goThrough_25 : decode b_Story_goThrough 25 = .ok (.iadd, 1) := by decide +kernel
theorem d_Story_goThrough_26 : decode b_Story_goThrough 26 = .ok (.iaload, 1) := by decide +kernel
theorem d_Story_goThrough_27 : decode b_Story_goThrough 27 = .ok (.istore 5, 2) := by decide +kernel
theorem d_Story_goThrough_29 : decode b_Story_goThrough 29 = .ok (.aload_n 0, 1) := by decide +kernel
theorem d_Story_goThrough_30 : decode b_Story_goThrough 30 = .ok (.getfield 11, 3) := by decide +kernel
theorem d_Story_goThrough_33 : decode b_Story_goThrough 33 = .ok (.iload_n 1, 1) := by decide +kernel
theorem d_Story_goThrough_34 : decode b_Story_goThrough 34 = .ok (.iaload, 1) := by decide +kernel
theorem d_Story_goThrough_35 : decode b_Story_goThrough 35 = .ok (.tableswitch 88 0 2 #[25, 56, 70], 25) := by decide +kernel
theorem d_Story_goThrough_60 : decode b_Story_goThrough 60 = .ok (.aload_n 0, 1) := by decide +kernel
theorem d_Story_goThrough_61 : decode b_Story_goThrough 61 = .ok (.getfield 18, 3) := by decide +kernel
theorem d_Story_goThrough_64 : decode b_Story_goThrough 64 = .ok (.iload_n 3, 1) := by decide +kernel
theorem d_Story_goThrough_65 : decode b_Story_goThrough 65 = .ok (.iload 4, 2) := by decide +kernel
theorem d_Story_goThrough_67 : decode b_Story_goThrough 67 = .ok (.iload 5, 2) := by decide +kernel
theorem d_Story_goThrough_69 : decode b_Story_goThrough 69 = .ok (.aload_n 0, 1) := by decide +kernel
theorem d_Story_goThrough_70 : decode b_Story_goThrough 70 = .ok (.getfield 11, 3) := by decide +kernel
theorem d_Story_goThrough_73 : decode b_Story_goThrough 73 = .ok (.iload_n 1, 1) := by decide +kernel
theorem d_Story_goThrough_74 : decode b_Story_goThrough 74 = .ok (.iconst 4, 1) := by decide +kernel
theorem d_Story_goThrough_75 : decode b_Story_goThrough 75 = .ok (.iadd, 1) := by decide +kernel
theorem d_Story_goThrough_76 : decode b_Story_goThrough 76 = .ok (.iaload, 1) := by decide +kernel
theorem d_Story_goThrough_77 : decode b_Story_goThrough 77 = .ok (.aload_n 0, 1) := by decide +kernel
theorem d_Story_goThrough_78 : decode b_Story_goThrough 78 = .ok (.getfield 11, 3) := by decide +kernel
theorem d_Story_goThrough_81 : decode b_Story_goThrough 81 = .ok (.iload_n 1, 1) := by decide +kernel
theorem d_Story_goThrough_82 : decode b_Story_goThrough 82 = .ok (.iconst 5, 1) := by decide +kernel
theorem d_Story_goThrough_83 : decode b_Story_goThrough 83 = .ok (.iadd, 1) := by decide +kernel
theorem d_Story_goThrough_84 : decode b_Story_goThrough 84 = .ok (.iaload, 1) := by decide +kernel
theorem d_Story_goThrough_85 : decode b_Story_goThrough 85 = .ok (.invokevirtual 37, 3) := by decide +kernel
theorem d_Story_goThrough_88 : decode b_Story_goThrough 88 = .ok (.goto 61, 3) := by decide +kernel
theorem d_Story_goThrough_91 : decode b_Story_goThrough 91 = .ok (.aload_n 0, 1) := by decide +kernel
theorem d_Story_goThrough_92 : decode b_Story_goThrough 92 = .ok (.getfield 18, 3) := by decide +kernel
theorem d_Story_goThrough_95 : decode b_Story_goThrough 95 = .ok (.getfield 41, 3) := by decide +kernel
theorem d_Story_goThrough_98 : decode b_Story_goThrough 98 = .ok (.iload_n 3, 1) := by decide +kernel
theorem d_Story_goThrough_99 : decode b_Story_goThrough 99 = .ok (.putfield 45, 3) := by decide +kernel
theorem d_Story_goThrough_102 : decode b_Story_goThrough 102 = .ok (.goto 47, 3) := by decide +kernel
theorem d_Story_goThrough_105 : decode b_Story_goThrough 105 = .ok (.aload_n 0, 1) := by decide +kernel
theorem d_Story_goThrough_106 : decode b_Story_goThrough 106 = .ok (.getfield 18, 3) := by decide +kernel
theorem d_Story_goThrough_109 : decode b_Story_goThrough 109 = .ok (.getfield 41, 3) := by decide +kernel
theorem d_Story_goThrough_112 : decode b_Story_goThrough 112 = .ok (.iload_n 3, 1) := by decide +kernel
theorem d_Story_goThrough_113 : decode b_Story_goThrough 113 = .ok (.iload 4, 2) := by decide +kernel
theorem d_Story_goThrough_115 : decode b_Story_goThrough 115 = .ok (.iload 5, 2) := by decide +kernel
theorem d_Story_goThrough_117 : decode b_Story_goThrough 117 = .ok (.invokevirtual 50, 3) := by decide +kernel
theorem d_Story_goThrough_120 : decode b_Story_goThrough 120 = .ok (.goto 29, 3) := by decide +kernel
theorem d_Story_goThrough_123 : decode b_Story_goThrough 123 = .ok (.iconst 0, 1) := by decide +kernel
theorem d_Story_goThrough_124 : decode b_Story_goThrough 124 = .ok (.istore 6, 2) := by decide +kernel
theorem d_Story_goThrough_126 : decode b_Story_goThrough 126 = .ok (.iload 6, 2) := by decide +kernel
theorem d_Story_goThrough_128 : decode b_Story_goThrough 128 = .ok (.iload 4, 2) := by decide +kernel
theorem d_Story_goThrough_130 : decode b_Story_goThrough 130 = .ok (.if_icmp .ge 19, 3) := by decide +kernel
theorem d_Story_goThrough_133 : decode b_Story_goThrough 133 = .ok (.aload_n 2, 1) := by decide +kernel
theorem d_Story_goThrough_134 : decode b_Story_goThrough 134 = .ok (.aload_n 0, 1) := by decide +kernel
theorem d_Story_goThrough_135 : decode b_Story_goThrough 135 = .ok (.getfield 18, 3) := by decide +kernel
theorem d_Story_goThrough_138 : decode b_Story_goThrough 138 = .ok (.iload_n 3, 1) := by decide +kernel
theorem d_Story_goThrough_139 : decode b_Story_goThrough 139 = .ok (.invokevirtual 54, 3) := by decide +kernel
theorem d_Story_goThrough_142 : decode b_Story_goThrough 142 = .ok (.pop, 1) := by decide +kernel
theorem d_Story_goThrough_143 : decode b_Story_goThrough 143 = .ok (.iinc 6 1, 3) := by decide +kernel
theorem d_Story_goThrough_146 : decode b_Story_goThrough 146 = .ok (.goto (-20), 3) := by decide +kernel
theorem d_Story_goThrough_149 : decode b_Story_goThrough 149 = .ok (.return_, 1) := by decide +kernel
theorem d_Story_copyFrom_0 : decode b_Story_copyFrom 0 = .ok (.aload_n 1, 1) := by decide +kernel
theorem d_Story_copyFrom_1 : decode b_Story_copyFrom 1 = .ok (.getfield 11, 3) := by decide +kernel
theorem d_Story_copyFrom_4 : decode b_Story_copyFrom 4 = .ok (.iconst 0, 1) := by decide +kernel
theorem d_Story_copyFrom_5 : decode b_Story_copyFrom 5 = .ok (.aload_n 0, 1) := by decide +kernel
theorem d_Story_copyFrom_6 : decode b_Story_copyFrom 6 = .ok (.getfield 11, 3) := by decide +kernel
theorem d_Story_copyFrom_9 : decode b_Story_copyFrom 9 = .ok (.iconst 0, 1) := by decide +kernel
theorem d_Story_copyFrom_10 : decode b_Story_copyFrom 10 = .ok (.aload_n 1, 1) := by decide +kernel
theorem d_Story_copyFrom_11 : decode b_Story_copyFrom 11 = .ok (.getfield 22, 3) := by decide +kernel
theorem d_Story_copyFrom_14 : decode b_Story_copyFrom 14 = .ok (.bipush 6, 2) := by decide +kernel
theorem d_Story_copyFrom_16 : decode b_Story_copyFrom 16 = .ok (.imul, 1) := by decide +kernel
theorem d_Story_copyFrom_17 : decode b_Story_copyFrom 17 = .ok (.invokestatic 60, 3) := by decide +kernel
theorem d_Story_copyFrom_20 : decode b_Story_copyFrom 20 = .ok (.aload_n 0, 1) := by decide +kernel
theorem d_Story_copyFrom_21 : decode b_Story_copyFrom 21 = .ok (.aload_n 1, 1) := by decide +kernel
theorem d_Story_copyFrom_22 : decode b_Story_copyFrom 22 = .ok (.getfield 22, 3) := by decide +kernel
theorem d_Story_copyFrom_25 : decode b_Story_copyFrom 25 = .ok (.putfield 22, 3) := by decide +kernel
theorem d_Story_copyFrom_28 : decode b_Story_copyFrom 28 = .ok (.aload_n 0, 1) := by decide +kernel
theorem d_Story_copyFrom_29 : decode b_Story_copyFrom 29 = .ok (.aload_n 1, 1) := by decide +kernel
theorem d_Story_copyFrom_30 : decode b_Story_copyFrom 30 = .ok (.getfield 26, 3) := by decide +kernel
theorem d_Story_copyFrom_33 : decode b_Story_copyFrom 33 = .ok (.putfield 26, 3) := by decide +kernel
theorem d_Story_copyFrom_36 : decode b_Story_copyFrom 36 = .ok (.aload_n 0, 1) := by decide +kernel
theorem d_Story_copyFrom_37 : decode b_Story_copyFrom 37 = .ok (.getfield 18, 3) := by decide +kernel
theorem d_Story_copyFrom_40 : decode b_Story_copyFrom 40 = .ok (.aload_n 1, 1) := by decide +kernel
theorem d_Story_copyFrom_41 : decode b_Story_copyFrom 41 = .ok (.getfield 18, 3) := by decide +kernel
theorem d_Story_copyFrom_44 : decode b_Story_copyFrom 44 = .ok (.invokevirtual 29, 3) := by decide +kernel
theorem d_Story_copyFrom_47 : decode b_Story_copyFrom 47 = .ok (.return_, 1) := by decide +kernel
theorem d_Tube_init_0 : decode b_Tube_init 0 = .ok (.aload_n 0, 1) := by decide +kernel
theorem d_Tube_init_1 : decode b_Tube_init 1 = .ok (.invokespecial 3, 3) := by decide +kernel
theorem d_Tube_init_4 : decode b_Tube_init 4 = .ok (.aload_n 0, 1) := by decide +kernel
theorem d_Tube_init_5 : decode b_Tube_init 5 = .ok (.new 9, 3) := by decide +kernel
theorem d_Tube_init_8 : decode b_Tube_init 8 = .ok (.dup, 1) := by decide +kernel
theorem d_Tube_init_9 : decode b_Tube_init 9 = .ok (.invokespecial 11, 3) := by decide +kernel
theorem d_Tube_init_12 : decode b_Tube_init 12 = .ok (.putfield 12, 3) := by decide +kernel
theorem d_Tube_init_15 : decode b_Tube_init 15 = .ok (.aload_n 0, 1) := by decide +kernel
theorem d_Tube_init_16 : decode b_Tube_init 16 = .ok (.iconst 4, 1) := by decide +kernel
theorem d_Tube_init_17 : decode b_Tube_init 17 = .ok (.bipush 32, 2) := by decide +kernel
theorem d_Tube_init_19 : decode b_Tube_init 19 = .ok (.multianewarray 18 2, 4) := by decide +kernel
theorem d_Tube_init_23 : decode b_Tube_init 23 = .ok (.putfield 20, 3) := by decide +kernel
theorem d_Tube_init_26 : decode b_Tube_init 26 = .ok (.aload_n 0, 1) := by decide +kernel
theorem d_Tube_init_27 : decode b_Tube_init 27 = .ok (.iconst 4, 1) := by decide +kernel
theorem d_Tube_init_28 : decode b_Tube_init 28 = .ok (.newarray .long, 2) := by decide +kernel
theorem d_Tube_init_30 : decode b_Tube_init 30 = .ok (.putfield 23, 3) := by decide +kernel
theorem d_Tube_init_33 : decode b_Tube_init 33 = .ok (.aload_n 0, 1) := by decide +kernel
theorem d_Tube_init_34 : decode b_Tube_init 34 = .ok (.bipush 6, 2) := by decide +kernel
theorem d_Tube_init_36 : decode b_Tube_init 36 = .ok (.newarray .long, 2) := by decide +kernel
theorem d_Tube_init_38 : decode b_Tube_init 38 = .ok (.putfield 27, 3) := by decide +kernel
theorem d_Tube_init_41 : decode b_Tube_init 41 = .ok (.aload_n 0, 1) := by decide +kernel
theorem d_Tube_init_42 : decode b_Tube_init 42 = .ok (.bipush 32, 2) := by decide +kernel
theorem d_Tube_init_44 : decode b_Tube_init 44 = .ok (.newarray .long, 2) := by decide +kernel
theorem d_Tube_init_46 : decode b_Tube_init 46 = .ok (.putfield 30, 3) := by decide +kernel
theorem d_Tube_init_49 : decode b_Tube_init 49 = .ok (.aload_n 0, 1) := by decide +kernel
theorem d_Tube_init_50 : decode b_Tube_init 50 = .ok (.bipush 32, 2) := by decide +kernel
theorem d_Tube_init_52 : decode b_Tube_init 52 = .ok (.newarray .int, 2) := by decide +kernel
theorem d_Tube_init_54 : decode b_Tube_init 54 = .ok (.putfield 33, 3) := by decide +kernel
theorem d_Tube_init_57 : decode b_Tube_init 57 = .ok (.aload_n 0, 1) := by decide +kernel
theorem d_Tube_init_58 : decode b_Tube_init 58 = .ok (.bipush 8, 2) := by decide +kernel
theorem d_Tube_init_60 : decode b_Tube_init 60 = .ok (.iconst 1, 1) := by decide +kernel
theorem d_Tube_init_61 : decode b_Tube_init 61 = .ok (.iconst 1, 1) := by decide +kernel
theorem d_Tube_init_62 : decode b_Tube_init 62 = .ok (.invokevirtual 37, 3) := by decide +kernel
theorem d_Tube_init_65 : decode b_Tube_init 65 = .ok (.return_, 1) := by decide +kernel
theorem d_Tube_begin_0 : decode b_Tube_begin 0 = .ok (.aload_n 0, 1) := by decide +kernel
theorem d_Tube_begin_1 : decode b_Tube_begin 1 = .ok (.iload_n 1, 1) := by decide +kernel
theorem d_Tube_begin_2 : decode b_Tube_begin 2 = .ok (.putfield 41, 3) := by decide +kernel
theorem d_Tube_begin_5 : decode b_Tube_begin 5 = .ok (.aload_n 0, 1) := by decide +kernel
theorem d_Tube_begin_6 : decode b_Tube_begin 6 = .ok (.iload_n 2, 1) := by decide +kernel
theorem d_Tube_begin_7 : decode b_Tube_begin 7 = .ok (.putfield 45, 3) := by decide +kernel
theorem d_Tube_begin_10 : decode b_Tube_begin 10 = .ok (.aload_n 0, 1) := by decide +kernel
theorem d_Tube_begin_11 : decode b_Tube_begin 11 = .ok (.iload_n 3, 1) := by decide +kernel
theorem d_Tube_begin_12 : decode b_Tube_begin 12 = .ok (.putfield 48, 3) := by decide +kernel
theorem d_Tube_begin_15 : decode b_Tube_begin 15 = .ok (.aload_n 0, 1) := by decide +kernel
theorem d_Tube_begin_16 : decode b_Tube_begin 16 = .ok (.iconst 0, 1) := by decide +kernel
theorem d_Tube_begin_17 : decode b_Tube_begin 17 = .ok (.putfield 51, 3) := by decide +kernel
theorem d_Tube_begin_20 : decode b_Tube_begin 20 = .ok (.iconst 0, 1) := by decide +kernel
theorem d_Tube_begin_21 : decode b_Tube_begin 21 = .ok (.istore 4, 2) := by decide +kernel
theorem d_Tube_begin_23 : decode b_Tube_begin 23 = .ok (.iload 4, 2) := by decide +kernel
theorem d_Tube_begin_25 : decode b_Tube_begin 25 = .ok (.bipush 6, 2) := by decide +kernel
theorem d_Tube_begin_27 : decode b_Tube_begin 27 = .ok (.if_icmp .ge 17, 3) := by decide +kernel
theorem d_Tube_begin_30 : decode b_Tube_begin 30 = .ok (.aload_n 0, 1) := by decide +kernel
theorem d_Tube_begin_31 : decode b_Tube_begin 31 = .ok (.getfield 27, 3) := by decide +kernel
theorem d_Tube_begin_34 : decode b_Tube_begin 34 = .ok (.iload 4, 2) := by decide +kernel
theorem d_Tube_begin_36 : decode b_Tube_begin 36 = .ok (.lconst 0, 1) := by decide +kernel
theorem d_Tube_begin_37 : decode b_Tube_begin 37 = .ok (.lastore, 1) := by decide +kernel
theorem d_Tube_begin_38 : decode b_Tube_begin 38 = .ok (.iinc 4 1, 3) := by decide +kernel
theorem d_Tube_begin_41 : decode b_Tube_begin 41 = .ok (.goto (-18), 3) := by decide +kernel
theorem d_Tube_begin_44 : decode b_Tube_begin 44 = .ok (.iconst 0, 1) := by decide +kernel
theorem d_Tube_begin_45 : decode b_Tube_begin 45 = .ok (.istore 4, 2) := by decide +kernel
theorem d_Tube_begin_47 : decode b_Tube_begin 47 = .ok (.iload 4, 2) := by decide +kernel
theorem d_Tube_begin_49 : decode b_Tube_begin 49 = .ok (.iconst 4, 1) := by decide +kernel
theorem d_Tube_begin_50 : decode b_Tube_begin 50 = .ok (.if_icmp .ge 17, 3) := by decide +kernel
theorem d_Tube_begin_53 : decode b_Tube_begin 53 = .ok (.aload_n 0, 1) := by decide +kernel
theorem d_Tube_begin_54 : decode b_Tube_begin 54 = .ok (.getfield 23, 3) := by decide +kernel
theorem d_Tube_begin_57 : decode b_Tube_begin 57 = .ok (.iload 4, 2) := by decide +kernel
theorem d_Tube_begin_59 : decode b_Tube_begin 59 = .ok (.lconst 0, 1) := by decide +kernel
theorem d_Tube_begin_60 : decode b_Tube_begin 60 = .ok (.lastore, 1) := by decide +kernel
theorem d_Tube_begin_61 : decode b_Tube_begin 61 = .ok (.iinc 4 1, 3) := by decide +kernel
theorem d_Tube_begin_64 : decode b_Tube_begin 64 = .ok (.goto (-17), 3) := by decide +kernel
theorem d_Tube_begin_67 : decode b_Tube_begin 67 = .ok (.iconst 0, 1) := by decide +kernel
theorem d_Tube_begin_68 : decode b_Tube_begin 68 = .ok (.istore 4, 2) := by decide +kernel
theorem d_Tube_begin_70 : decode b_Tube_begin 70 = .ok (.iload 4, 2) := by decide +kernel
theorem d_Tube_begin_72 : decode b_Tube_begin 72 = .ok (.bipush 32, 2) := by decide +kernel
theorem d_Tube_begin_74 : decode b_Tube_begin 74 = .ok (.if_icmp .ge 15, 3) := by decide +kernel
theorem d_Tube_begin_77 : decode b_Tube_begin 77 = .ok (.aload_n 0, 1) := by decide +kernel
theorem d_Tube_begin_78 : decode b_Tube_begin 78 = .ok (.iload 4, 2) := by decide +kernel
theorem d_Tube_begin_80 : decode b_Tube_begin 80 = .ok (.invokevirtual 54, 3) := by decide +kernel
theorem d_Tube_begin_83 : decode b_Tube_begin 83 = .ok (.iinc 4 1, 3) := by decide +kernel
theorem d_Tube_begin_86 : decode b_Tube_begin 86 = .ok (.goto (-16), 3) := by decide +kernel
theorem d_Tube_begin_89 : decode b_Tube_begin 89 = .ok (.iconst 0, 1) := by decide +kernel
theorem d_Tube_begin_90 : decode b_Tube_begin 90 = .ok (.istore 4, 2) := by decide +kernel
theorem d_Tube_begin_92 : decode b_Tube_begin 92 = .ok (.iload 4, 2) := by decide +kernel
theorem d_Tube_begin_94 : decode b_Tube_begin 94 = .ok (.aload_n 0, 1) := by decide +kernel
theorem d_Tube_begin_95 : decode b_Tube_begin 95 = .ok (.getfield 41, 3) := by decide +kernel
theorem d_Tube_begin_98 : decode b_Tube_begin 98 = .ok (.if_icmp .ge 23, 3) := by decide +kernel
theorem d_Tube_begin_101 : decode b_Tube_begin 101 = .ok (.aload_n 0, 1) := by decide +kernel
theorem d_Tube_begin_102 : decode b_Tube_begin 102 = .ok (.iload 4, 2) := by decide +kernel
theorem d_Tube_begin_104 : decode b_Tube_begin 104 = .ok (.sipush 1000, 3) := by decide +kernel
theorem d_Tube_begin_107 : decode b_Tube_begin 107 = .ok (.iconst 0, 1) := by decide +kernel
theorem d_Tube_begin_108 : decode b_Tube_begin 108 = .ok (.sipush 2000, 3) := by decide +kernel
theorem d_Tube_begin_111 : decode b_Tube_begin 111 = .ok (.iconst 0, 1) := by decide +kernel
theorem d_Tube_begin_112 : decode b_Tube_begin 112 = .ok (.invokevirtual 58, 3) := by decide +kernel
theorem d_Tube_begin_115 : decode b_Tube_begin 115 = .ok (.iinc 4 1, 3) := by decide +kernel
theorem d_Tube_begin_118 : decode b_Tube_begin 118 = .ok (.goto (-26), 3) := by decide +kernel
theorem d_Tube_begin_121 : decode b_Tube_begin 121 = .ok (.return_, 1) := by decide +kernel
theorem d_Tube_clear_0 : decode b_Tube_clear 0 = .ok (.iconst 0, 1) := by decide +kernel
theorem d_Tube_clear_1 : decode b_Tube_clear 1 = .ok (.istore_n 2, 1) := by decide +kernel
theorem d_Tube_clear_2 : decode b_Tube_clear 2 = .ok (.iload_n 2, 1) := by decide +kernel
theorem d_Tube_clear_3 : decode b_Tube_clear 3 = .ok (.iconst 4, 1) := by decide +kernel
theorem d_Tube_clear_4 : decode b_Tube_clear 4 = .ok (.if_icmp .ge 18, 3) := by decide +kernel
theorem d_Tube_clear_7 : decode b_Tube_clear 7 = .ok (.aload_n 0, 1) := by decide +kernel
theorem d_Tube_clear_8 : decode b_Tube_clear 8 = .ok (.getfield 20, 3) := by decide +kernel
theorem d_Tube_clear_11 : decode b_Tube_clear 11 = .ok (.iload_n 2, 1) := by decide +kernel
theorem d_Tube_clear_12 : decode b_Tube_clear 12 = .ok (.aaload, 1) := by decide +kernel
theorem d_Tube_clear_13 : decode b_Tube_clear 13 = .ok (.iload_n 1, 1) := by decide +kernel
theorem d_Tube_clear_14 : decode b_Tube_clear 14 = .ok (.lconst 0, 1) := by decide +kernel
theorem d_Tube_clear_15 : decode b_Tube_clear 15 = .ok (.lastore, 1) := by decide +kernel
theorem d_Tube_clear_16 : decode b_Tube_clear 16 = .ok (.iinc 2 1, 3) := by decide +kernel
theorem d_Tube_clear_19 : decode b_Tube_clear 19 = .ok (.goto (-17), 3) := by decide +kernel
theorem d_Tube_clear_22 : decode b_Tube_clear 22 = .ok (.aload_n 0, 1) := by decide +kernel
theorem d_Tube_clear_23 : decode b_Tube_clear 23 = .ok (.getfield 30, 3) := by decide +kernel
theorem d_Tube_clear_26 : decode b_Tube_clear 26 = .ok (.iload_n 1, 1) := by decide +kernel
theorem d_Tube_clear_27 : decode b_Tube_clear 27 = .ok (.lconst 0, 1) := by decide +kernel
theorem d_Tube_clear_28 : decode b_Tube_clear 28 = .ok (.lastore, 1) := by decide +kernel
theorem d_Tube_clear_29 : decode b_Tube_clear 29 = .ok (.aload_n 0, 1) := by decide +kernel
theorem d_Tube_clear_30 : decode b_Tube_clear 30 = .ok (.getfield 33, 3) := by decide +kernel
theorem d_Tube_clear_33 : decode b_Tube_clear 33 = .ok (.iload_n 1, 1) := by decide +kernel
theorem d_Tube_clear_34 : decode b_Tube_clear 34 = .ok (.iconst 0, 1) := by decide +kernel
theorem d_Tube_clear_35 : decode b_Tube_clear 35 = .ok (.iastore, 1) := by decide +kernel
theorem d_Tube_clear_36 : decode b_Tube_clear 36 = .ok (.return_, 1) := by decide +kernel
theorem d_Tube_tell_0 : decode b_Tube_tell 0 = .ok (.aload_n 0, 1) := by decide +kernel
theorem d_Tube_tell_1 : decode b_Tube_tell 1 = .ok (.iconst 0, 1) := by decide +kernel
theorem d_Tube_tell_2 : decode b_Tube_tell 2 = .ok (.iload_n 1, 1) := by decide +kernel
theorem d_Tube_tell_3 : decode b_Tube_tell 3 = .ok (.iload_n 2, 1) := by decide +kernel
theorem d_Tube_tell_4 : decode b_Tube_tell 4 = .ok (.i2l, 1) := by decide +kernel
theorem d_Tube_tell_5 : decode b_Tube_tell 5 = .ok (.invokevirtual 62, 3) := by decide +kernel
theorem d_Tube_tell_8 : decode b_Tube_tell 8 = .ok (.aload_n 0, 1) := by decide +kernel
theorem d_Tube_tell_9 : decode b_Tube_tell 9 = .ok (.iconst 1, 1) := by decide +kernel
theorem d_Tube_tell_10 : decode b_Tube_tell 10 = .ok (.iload_n 1, 1) := by decide +kernel
theorem d_Tube_tell_11 : decode b_Tube_tell 11 = .ok (.iload_n 3, 1) := by decide +kernel
theorem d_Tube_tell_12 : decode b_Tube_tell 12 = .ok (.i2l, 1) := by decide +kernel
theorem d_Tube_tell_13 : decode b_Tube_tell 13 = .ok (.invokevirtual 62, 3) := by decide +kernel
theorem d_Tube_tell_16 : decode b_Tube_tell 16 = .ok (.aload_n 0, 1) := by decide +kernel
theorem d_Tube_tell_17 : decode b_Tube_tell 17 = .ok (.iconst 2, 1) := by decide +kernel
theorem d_Tube_tell_18 : decode b_Tube_tell 18 = .ok (.iload_n 1, 1) := by decide +kernel
theorem d_Tube_tell_19 : decode b_Tube_tell 19 = .ok (.iload 4, 2) := by decide +kernel
theorem d_Tube_tell_21 : decode b_Tube_tell 21 = .ok (.i2l, 1) := by decide +kernel
theorem d_Tube_tell_22 : decode b_Tube_tell 22 = .ok (.invokevirtual 62, 3) := by decide +kernel
theorem d_Tube_tell_25 : decode b_Tube_tell 25 = .ok (.aload_n 0, 1) := by decide +kernel
theorem d_Tube_tell_26 : decode b_Tube_tell 26 = .ok (.iconst 3, 1) := by decide +kernel
theorem d_Tube_tell_27 : decode b_Tube_tell 27 = .ok (.iload_n 1, 1) := by decide +kernel
theorem d_Tube_tell_28 : decode b_Tube_tell 28 = .ok (.iload 5, 2) := by decide +kernel
theorem d_Tube_tell_30 : decode b_Tube_tell 30 = .ok (.i2l, 1) := by decide +kernel
theorem d_Tube_tell_31 : decode b_Tube_tell 31 = .ok (.invokevirtual 62, 3) := by decide +kernel
theorem d_Tube_tell_34 : decode b_Tube_tell 34 = .ok (.return_, 1) := by decide +kernel
theorem d_Tube_tellPart_0 : decode b_Tube_tellPart 0 = .ok (.aload_n 0, 1) := by decide +kernel
theorem d_Tube_tellPart_1 : decode b_Tube_tellPart 1 = .ok (.getfield 23, 3) := by decide +kernel
theorem d_Tube_tellPart_4 : decode b_Tube_tellPart 4 = .ok (.iload_n 1, 1) := by decide +kernel
theorem d_Tube_tellPart_5 : decode b_Tube_tellPart 5 = .ok (.dup2, 1) := by decide +kernel
theorem d_Tube_tellPart_6 : decode b_Tube_tellPart 6 = .ok (.laload, 1) := by decide +kernel
theorem d_Tube_tellPart_7 : decode b_Tube_tellPart 7 = .ok (.lload_n 3, 1) := by decide +kernel
theorem d_Tube_tellPart_8 : decode b_Tube_tellPart 8 = .ok (.aload_n 0, 1) := by decide +kernel
theorem d_Tube_tellPart_9 : decode b_Tube_tellPart 9 = .ok (.getfield 20, 3) := by decide +kernel
theorem d_Tube_tellPart_12 : decode b_Tube_tellPart 12 = .ok (.iload_n 1, 1) := by decide +kernel
theorem d_Tube_tellPart_13 : decode b_Tube_tellPart 13 = .ok (.aaload, 1) := by decide +kernel
theorem d_Tube_tellPart_14 : decode b_Tube_tellPart 14 = .ok (.iload_n 2, 1) := by decide +kernel
theorem d_Tube_tellPart_15 : decode b_Tube_tellPart 15 = .ok (.laload, 1) := by decide +kernel
theorem d_Tube_tellPart_16 : decode b_Tube_tellPart 16 = .ok (.lsub, 1) := by decide +kernel
theorem d_Tube_tellPart_17 : decode b_Tube_tellPart 17 = .ok (.ladd, 1) := by decide +kernel
theorem d_Tube_tellPart_18 : decode b_Tube_tellPart 18 = .ok (.lastore, 1) := by decide +kernel
theorem d_Tube_tellPart_19 : decode b_Tube_tellPart 19 = .ok (.aload_n 0, 1) := by decide +kernel
theorem d_Tube_tellPart_20 : decode b_Tube_tellPart 20 = .ok (.getfield 20, 3) := by decide +kernel
theorem d_Tube_tellPart_23 : decode b_Tube_tellPart 23 = .ok (.iload_n 1, 1) := by decide +kernel
theorem d_Tube_tellPart_24 : decode b_Tube_tellPart 24 = .ok (.aaload, 1) := by decide +kernel
theorem d_Tube_tellPart_25 : decode b_Tube_tellPart 25 = .ok (.iload_n 2, 1) := by decide +kernel
theorem d_Tube_tellPart_26 : decode b_Tube_tellPart 26 = .ok (.lload_n 3, 1) := by decide +kernel
theorem d_Tube_tellPart_27 : decode b_Tube_tellPart 27 = .ok (.lastore, 1) := by decide +kernel
theorem d_Tube_tellPart_28 : decode b_Tube_tellPart 28 = .ok (.return_, 1) := by decide +kernel
theorem d_Tube_isWall_0 : decode b_Tube_isWall 0 = .ok (.iload_n 1, 1) := by decide +kernel
theorem d_Tube_isWall_1 : decode b_Tube_isWall 1 = .ok (.ifCond .ne 11, 3) := by decide +kernel
theorem d_Tube_isWall_4 : decode b_Tube_isWall 4 = .ok (.aload_n 0, 1) := by decide +kernel
theorem d_Tube_isWall_5 : decode b_Tube_isWall 5 = .ok (.getfield 45, 3) := by decide +kernel
theorem d_Tube_isWall_8 : decode b_Tube_isWall 8 = .ok (.iconst 1, 1) := by decide +kernel
theorem d_Tube_isWall_9 : decode b_Tube_isWall 9 = .ok (.if_icmp .eq 19, 3) := by decide +kernel
theorem d_Tube_isWall_12 : decode b_Tube_isWall 12 = .ok (.iload_n 1, 1) := by decide +kernel
theorem d_Tube_isWall_13 : decode b_Tube_isWall 13 = .ok (.aload_n 0, 1) := by decide +kernel
theorem d_Tube_isWall_14 : decode b_Tube_isWall 14 = .ok (.getfield 41, 3) := by decide +kernel
theorem d_Tube_isWall_17 : decode b_Tube_isWall 17 = .ok (.if_icmp .ne 15, 3) := by decide +kernel
theorem d_Tube_isWall_20 : decode b_Tube_isWall 20 = .ok (.aload_n 0, 1) := by decide +kernel
theorem d_Tube_isWall_21 : decode b_Tube_isWall 21 = .ok (.getfield 48, 3) := by decide +kernel
theorem d_Tube_isWall_24 : decode b_Tube_isWall 24 = .ok (.iconst 1, 1) := by decide +kernel
theorem d_Tube_isWall_25 : decode b_Tube_isWall 25 = .ok (.if_icmp .ne 7, 3) := by decide +kernel
theorem d_Tube_isWall_28 : decode b_Tube_isWall 28 = .ok (.iconst 1, 1) := by decide +kernel
theorem d_Tube_isWall_29 : decode b_Tube_isWall 29 = .ok (.goto 4, 3) := by decide +kernel
theorem d_Tube_isWall_32 : decode b_Tube_isWall 32 = .ok (.iconst 0, 1) := by decide +kernel
theorem d_Tube_isWall_33 : decode b_Tube_isWall 33 = .ok (.ireturn, 1) := by decide +kernel
theorem d_Tube_pressure_0 : decode b_Tube_pressure 0 = .ok (.aload_n 0, 1) := by decide +kernel
theorem d_Tube_pressure_1 : decode b_Tube_pressure 1 = .ok (.getfield 12, 3) := by decide +kernel
theorem d_Tube_pressure_4 : decode b_Tube_pressure 4 = .ok (.aload_n 0, 1) := by decide +kernel
theorem d_Tube_pressure_5 : decode b_Tube_pressure 5 = .ok (.getfield 20, 3) := by decide +kernel
theorem d_Tube_pressure_8 : decode b_Tube_pressure 8 = .ok (.iconst 0, 1) := by decide +kernel
theorem d_Tube_pressure_9 : decode b_Tube_pressure 9 = .ok (.aaload, 1) := by decide +kernel
theorem d_Tube_pressure_10 : decode b_Tube_pressure 10 = .ok (.iload_n 1, 1) := by decide +kernel
theorem d_Tube_pressure_11 : decode b_Tube_pressure 11 = .ok (.laload, 1) := by decide +kernel
theorem d_Tube_pressure_12 : decode b_Tube_pressure 12 = .ok (.aload_n 0, 1) := by decide +kernel
theorem d_Tube_pressure_13 : decode b_Tube_pressure 13 = .ok (.getfield 20, 3) := by decide +kernel
theorem d_Tube_pressure_16 : decode b_Tube_pressure 16 = .ok (.iconst 1, 1) := by decide +kernel
theorem d_Tube_pressure_17 : decode b_Tube_pressure 17 = .ok (.aaload, 1) := by decide +kernel
theorem d_Tube_pressure_18 : decode b_Tube_pressure 18 = .ok (.iload_n 1, 1) := by decide +kernel
theorem d_Tube_pressure_19 : decode b_Tube_pressure 19 = .ok (.laload, 1) := by decide +kernel
theorem d_Tube_pressure_20 : decode b_Tube_pressure 20 = .ok (.aload_n 0, 1) := by decide +kernel
theorem d_Tube_pressure_21 : decode b_Tube_pressure 21 = .ok (.getfield 20, 3) := by decide +kernel
theorem d_Tube_pressure_24 : decode b_Tube_pressure 24 = .ok (.iconst 2, 1) := by decide +kernel
theorem d_Tube_pressure_25 : decode b_Tube_pressure 25 = .ok (.aaload, 1) := by decide +kernel
theorem d_Tube_pressure_26 : decode b_Tube_pressure 26 = .ok (.iload_n 1, 1) := by decide +kernel
theorem d_Tube_pressure_27 : decode b_Tube_pressure 27 = .ok (.laload, 1) := by decide +kernel
theorem d_Tube_pressure_28 : decode b_Tube_pressure 28 = .ok (.invokestatic 66, 3) := by decide +kernel
theorem d_Tube_pressure_31 : decode b_Tube_pressure 31 = .ok (.invokevirtual 70, 3) := by decide +kernel
theorem d_Tube_pressure_34 : decode b_Tube_pressure 34 = .ok (.lreturn, 1) := by decide +kernel
theorem d_Tube_tells_0 : decode b_Tube_tells 0 = .ok (.aload_n 0, 1) := by decide +kernel
theorem d_Tube_tells_1 : decode b_Tube_tells 1 = .ok (.getfield 20, 3) := by decide +kernel
theorem d_Tube_tells_4 : decode b_Tube_tells 4 = .ok (.iconst 0, 1) := by decide +kernel
theorem d_Tube_tells_5 : decode b_Tube_tells 5 = .ok (.aaload, 1) := by decide +kernel
theorem d_Tube_tells_6 : decode b_Tube_tells 6 = .ok (.iload_n 1, 1) := by decide +kernel
theorem d_Tube_tells_7 : decode b_Tube_tells 7 = .ok (.laload, 1) := by decide +kernel
theorem d_Tube_tells_8 : decode b_Tube_tells 8 = .ok (.lstore_n 3, 1) := by decide +kernel
theorem d_Tube_tells_9 : decode b_Tube_tells 9 = .ok (.iload_n 2, 1) := by decide +kernel
theorem d_Tube_tells_10 : decode b_Tube_tells 10 = .ok (.tableswitch 73 4 7 #[30, 36, 49, 63], 30) := by decide +kernel
theorem d_Tube_tells_40 : decode b_Tube_tells 40 = .ok (.aload_n 0, 1) := by decide +kernel
theorem d_Tube_tells_41 : decode b_Tube_tells 41 = .ok (.iload_n 1, 1) := by decide +kernel
theorem d_Tube_tells_42 : decode b_Tube_tells 42 = .ok (.invokevirtual 74, 3) := by decide +kernel
theorem d_Tube_tells_45 : decode b_Tube_tells 45 = .ok (.lreturn, 1) := by decide +kernel
theorem d_Tube_tells_46 : decode b_Tube_tells 46 = .ok (.lload_n 3, 1) := by decide +kernel
theorem d_Tube_tells_47 : decode b_Tube_tells 47 = .ok (.aload_n 0, 1) := by decide +kernel
theorem d_Tube_tells_48 : decode b_Tube_tells 48 = .ok (.getfield 20, 3) := by decide +kernel
theorem d_Tube_tells_51 : decode b_Tube_tells 51 = .ok (.iconst 1, 1) := by decide +kernel
theorem d_Tube_tells_52 : decode b_Tube_tells 52 = .ok (.aaload, 1) := by decide +kernel
theorem d_Tube_tells_53 : decode b_Tube_tells 53 = .ok (.iload_n 1, 1) := by decide +kernel
theorem d_Tube_tells_54 : decode b_Tube_tells 54 = .ok (.laload, 1) := by decide +kernel
theorem d_Tube_tells_55 : decode b_Tube_tells 55 = .ok (.invokestatic 77, 3) := by decide +kernel
theorem d_Tube_tells_58 : decode b_Tube_tells 58 = .ok (.lreturn, 1) := by decide +kernel
theorem d_Tube_tells_59 : decode b_Tube_tells 59 = .ok (.aload_n 0, 1) := by decide +kernel
theorem d_Tube_tells_60 : decode b_Tube_tells 60 = .ok (.getfield 12, 3) := by decide +kernel
theorem d_Tube_tells_63 : decode b_Tube_tells 63 = .ok (.lload_n 3, 1) := by decide +kernel
theorem d_Tube_tells_64 : decode b_Tube_tells 64 = .ok (.aload_n 0, 1) := by decide +kernel
theorem d_Tube_tells_65 : decode b_Tube_tells 65 = .ok (.iload_n 1, 1) := by decide +kernel
theorem d_Tube_tells_66 : decode b_Tube_tells 66 = .ok (.invokevirtual 74, 3) := by decide +kernel
theorem d_Tube_tells_69 : decode b_Tube_tells 69 = .ok (.invokevirtual 81, 3) := by decide +kernel
theorem d_Tube_tells_72 : decode b_Tube_tells 72 = .ok (.lreturn, 1) := by decide +kernel
theorem d_Tube_tells_73 : decode b_Tube_tells 73 = .ok (.lload_n 3, 1) := by decide +kernel
theorem d_Tube_tells_74 : decode b_Tube_tells 74 = .ok (.aload_n 0, 1) := by decide +kernel
theorem d_Tube_tells_75 : decode b_Tube_tells 75 = .ok (.iload_n 1, 1) := by decide +kernel
theorem d_Tube_tells_76 : decode b_Tube_tells 76 = .ok (.invokevirtual 74, 3) := by decide +kernel
theorem d_Tube_tells_79 : decode b_Tube_tells 79 = .ok (.invokestatic 84, 3) := by decide +kernel
theorem d_Tube_tells_82 : decode b_Tube_tells 82 = .ok (.lreturn, 1) := by decide +kernel
theorem d_Tube_tells_83 : decode b_Tube_tells 83 = .ok (.aload_n 0, 1) := by decide +kernel
theorem d_Tube_tells_84 : decode b_Tube_tells 84 = .ok (.getfield 20, 3) := by decide +kernel
theorem d_Tube_tells_87 : decode b_Tube_tells 87 = .ok (.iload_n 2, 1) := by decide +kernel
theorem d_Tube_tells_88 : decode b_Tube_tells 88 = .ok (.aaload, 1) := by decide +kernel
theorem d_Tube_tells_89 : decode b_Tube_tells 89 = .ok (.iload_n 1, 1) := by decide +kernel
theorem d_Tube_tells_90 : decode b_Tube_tells 90 = .ok (.laload, 1) := by decide +kernel
theorem d_Tube_tells_91 : decode b_Tube_tells 91 = .ok (.lreturn, 1) := by decide +kernel
theorem d_Tube_isBalanced_0 : decode b_Tube_isBalanced 0 = .ok (.lconst 0, 1) := by decide +kernel
theorem d_Tube_isBalanced_1 : decode b_Tube_isBalanced 1 = .ok (.lstore_n 2, 1) := by decide +kernel
theorem d_Tube_isBalanced_2 : decode b_Tube_isBalanced 2 = .ok (.iconst 0, 1) := by decide +kernel
theorem d_Tube_isBalanced_3 : decode b_Tube_isBalanced 3 = .ok (.istore 4, 2) := by decide +kernel
theorem d_Tube_isBalanced_5 : decode b_Tube_isBalanced 5 = .ok (.iload 4, 2) := by decide +kernel
theorem d_Tube_isBalanced_7 : decode b_Tube_isBalanced 7 = .ok (.aload_n 0, 1) := by decide +kernel
theorem d_Tube_isBalanced_8 : decode b_Tube_isBalanced 8 = .ok (.getfield 41, 3) := by decide +kernel
theorem d_Tube_isBalanced_11 : decode b_Tube_isBalanced 11 = .ok (.if_icmp .ge 21, 3) := by decide +kernel
theorem d_Tube_isBalanced_14 : decode b_Tube_isBalanced 14 = .ok (.lload_n 2, 1) := by decide +kernel
theorem d_Tube_isBalanced_15 : decode b_Tube_isBalanced 15 = .ok (.aload_n 0, 1) := by decide +kernel
theorem d_Tube_isBalanced_16 : decode b_Tube_isBalanced 16 = .ok (.getfield 20, 3) := by decide +kernel
theorem d_Tube_isBalanced_19 : decode b_Tube_isBalanced 19 = .ok (.iload_n 1, 1) := by decide +kernel
theorem d_Tube_isBalanced_20 : decode b_Tube_isBalanced 20 = .ok (.aaload, 1) := by decide +kernel
theorem d_Tube_isBalanced_21 : decode b_Tube_isBalanced 21 = .ok (.iload 4, 2) := by decide +kernel
theorem d_Tube_isBalanced_23 : decode b_Tube_isBalanced 23 = .ok (.laload, 1) := by decide +kernel
theorem d_Tube_isBalanced_24 : decode b_Tube_isBalanced 24 = .ok (.ladd, 1) := by decide +kernel
theorem d_Tube_isBalanced_25 : decode b_Tube_isBalanced 25 = .ok (.lstore_n 2, 1) := by decide +kernel
theorem d_Tube_isBalanced_26 : decode b_Tube_isBalanced 26 = .ok (.iinc 4 1, 3) := by decide +kernel
theorem d_Tube_isBalanced_29 : decode b_Tube_isBalanced 29 = .ok (.goto (-24), 3) := by decide +kernel
theorem d_Tube_isBalanced_32 : decode b_Tube_isBalanced 32 = .ok (.lconst 0, 1) := by decide +kernel
theorem d_Tube_isBalanced_33 : decode b_Tube_isBalanced 33 = .ok (.lstore 4, 2) := by decide +kernel
theorem d_Tube_isBalanced_35 : decode b_Tube_isBalanced 35 = .ok (.iload_n 1, 1) := by decide +kernel
theorem d_Tube_isBalanced_36 : decode b_Tube_isBalanced 36 = .ok (.iconst 2, 1) := by decide +kernel
theorem d_Tube_isBalanced_37 : decode b_Tube_isBalanced 37 = .ok (.if_icmp .ne 14, 3) := by decide +kernel
theorem d_Tube_isBalanced_40 : decode b_Tube_isBalanced 40 = .ok (.aload_n 0, 1) := by decide +kernel
theorem d_Tube_isBalanced_41 : decode b_Tube_isBalanced 41 = .ok (.getfield 27, 3) := by decide +kernel
theorem d_Tube_isBalanced_44 : decode b_Tube_isBalanced 44 = .ok (.iconst 4, 1) := by decide +kernel
theorem d_Tube_isBalanced_45 : decode b_Tube_isBalanced 45 = .ok (.laload, 1) := by decide +kernel
theorem d_Tube_isBalanced_46 : decode b_Tube_isBalanced 46 = .ok (.lstore 4, 2) := by decide +kernel
theorem d_Tube_isBalanced_48 : decode b_Tube_isBalanced 48 = .ok (.goto 17, 3) := by decide +kernel
theorem d_Tube_isBalanced_51 : decode b_Tube_isBalanced 51 = .ok (.iload_n 1, 1) := by decide +kernel
theorem d_Tube_isBalanced_52 : decode b_Tube_isBalanced 52 = .ok (.iconst 3, 1) := by decide +kernel
theorem d_Tube_isBalanced_53 : decode b_Tube_isBalanced 53 = .ok (.if_icmp .ne 12, 3) := by decide +kernel
theorem d_Tube_isBalanced_56 : decode b_Tube_isBalanced 56 = .ok (.aload_n 0, 1) := by decide +kernel
theorem d_Tube_isBalanced_57 : decode b_Tube_isBalanced 57 = .ok (.getfield 27, 3) := by decide +kernel
theorem d_Tube_isBalanced_60 : decode b_Tube_isBalanced 60 = .ok (.iconst 5, 1) := by decide +kernel
theorem d_Tube_isBalanced_61 : decode b_Tube_isBalanced 61 = .ok (.laload, 1) := by decide +kernel
theorem d_Tube_isBalanced_62 : decode b_Tube_isBalanced 62 = .ok (.lneg, 1) := by decide +kernel
theorem d_Tube_isBalanced_63 : decode b_Tube_isBalanced 63 = .ok (.lstore 4, 2) := by decide +kernel
theorem d_Tube_isBalanced_65 : decode b_Tube_isBalanced 65 = .ok (.lload_n 2, 1) := by decide +kernel
theorem d_Tube_isBalanced_66 : decode b_Tube_isBalanced 66 = .ok (.aload_n 0, 1) := by decide +kernel
theorem d_Tube_isBalanced_67 : decode b_Tube_isBalanced 67 = .ok (.getfield 23, 3) := by decide +kernel
theorem d_Tube_isBalanced_70 : decode b_Tube_isBalanced 70 = .ok (.iload_n 1, 1) := by decide +kernel
theorem d_Tube_isBalanced_71 : decode b_Tube_isBalanced 71 = .ok (.laload, 1) := by decide +kernel
theorem d_Tube_isBalanced_72 : decode b_Tube_isBalanced 72 = .ok (.aload_n 0, 1) := by decide +kernel
theorem d_Tube_isBalanced_73 : decode b_Tube_isBalanced 73 = .ok (.getfield 27, 3) := by decide +kernel
theorem d_Tube_isBalanced_76 : decode b_Tube_isBalanced 76 = .ok (.iload_n 1, 1) := by decide +kernel
theorem d_Tube_isBalanced_77 : decode b_Tube_isBalanced 77 = .ok (.laload, 1) := by decide +kernel
theorem d_Tube_isBalanced_78 : decode b_Tube_isBalanced 78 = .ok (.ladd, 1) := by decide +kernel
theorem d_Tube_isBalanced_79 : decode b_Tube_isBalanced 79 = .ok (.lload 4, 2) := by decide +kernel
theorem d_Tube_isBalanced_81 : decode b_Tube_isBalanced 81 = .ok (.ladd, 1) := by decide +kernel
theorem d_Tube_isBalanced_82 : decode b_Tube_isBalanced 82 = .ok (.lcmp, 1) := by decide +kernel
theorem d_Tube_isBalanced_83 : decode b_Tube_isBalanced 83 = .ok (.ifCond .ne 7, 3) := by decide +kernel
theorem d_Tube_isBalanced_86 : decode b_Tube_isBalanced 86 = .ok (.iconst 1, 1) := by decide +kernel
theorem d_Tube_isBalanced_87 : decode b_Tube_isBalanced 87 = .ok (.goto 4, 3) := by decide +kernel
theorem d_Tube_isBalanced_90 : decode b_Tube_isBalanced 90 = .ok (.iconst 0, 1) := by decide +kernel
theorem d_Tube_isBalanced_91 : decode b_Tube_isBalanced 91 = .ok (.ireturn, 1) := by decide +kernel
theorem d_Tube_noteProbe_0 : decode b_Tube_noteProbe 0 = .ok (.lload_n 2, 1) := by decide +kernel
theorem d_Tube_noteProbe_1 : decode b_Tube_noteProbe 1 = .ok (.aload_n 0, 1) := by decide +kernel
theorem d_Tube_noteProbe_2 : decode b_Tube_noteProbe 2 = .ok (.getfield 30, 3) := by decide +kernel
theorem d_Tube_noteProbe_5 : decode b_Tube_noteProbe 5 = .ok (.iload_n 1, 1) := by decide +kernel
theorem d_Tube_noteProbe_6 : decode b_Tube_noteProbe 6 = .ok (.laload, 1) := by decide +kernel
theorem d_Tube_noteProbe_7 : decode b_Tube_noteProbe 7 = .ok (.lcmp, 1) := by decide +kernel
theorem d_Tube_noteProbe_8 : decode b_Tube_noteProbe 8 = .ok (.ifCond .le 20, 3) := by decide +kernel
theorem d_Tube_noteProbe_11 : decode b_Tube_noteProbe 11 = .ok (.aload_n 0, 1) := by decide +kernel
theorem d_Tube_noteProbe_12 : decode b_Tube_noteProbe 12 = .ok (.getfield 30, 3) := by decide +kernel
theorem d_Tube_noteProbe_15 : decode b_Tube_noteProbe 15 = .ok (.iload_n 1, 1) := by decide +kernel
theorem d_Tube_noteProbe_16 : decode b_Tube_noteProbe 16 = .ok (.lload_n 2, 1) := by decide +kernel
theorem d_Tube_noteProbe_17 : decode b_Tube_noteProbe 17 = .ok (.lastore, 1) := by decide +kernel
theorem d_Tube_noteProbe_18 : decode b_Tube_noteProbe 18 = .ok (.aload_n 0, 1) := by decide +kernel
theorem d_Tube_noteProbe_19 : decode b_Tube_noteProbe 19 = .ok (.getfield 33, 3) := by decide +kernel
theorem d_Tube_noteProbe_22 : decode b_Tube_noteProbe 22 = .ok (.iload_n 1, 1) := by decide +kernel
theorem d_Tube_noteProbe_23 : decode b_Tube_noteProbe 23 = .ok (.aload_n 0, 1) := by decide +kernel
theorem d_Tube_noteProbe_24 : decode b_Tube_noteProbe 24 = .ok (.getfield 51, 3) := by decide +kernel
theorem d_Tube_noteProbe_27 : decode b_Tube_noteProbe 27 = .ok (.iastore, 1) := by decide +kernel
theorem d_Tube_noteProbe_28 : decode b_Tube_noteProbe 28 = .ok (.return_, 1) := by decide +kernel
theorem d_Tube_copyFrom_0 : decode b_Tube_copyFrom 0 = .ok (.aload_n 0, 1) := by decide +kernel
theorem d_Tube_copyFrom_1 : decode b_Tube_copyFrom 1 = .ok (.getfield 12, 3) := by decide +kernel
theorem d_Tube_copyFrom_4 : decode b_Tube_copyFrom 4 = .ok (.aload_n 1, 1) := by decide +kernel
theorem d_Tube_copyFrom_5 : decode b_Tube_copyFrom 5 = .ok (.getfield 12, 3) := by decide +kernel
theorem d_Tube_copyFrom_8 : decode b_Tube_copyFrom 8 = .ok (.invokevirtual 87, 3) := by decide +kernel
theorem d_Tube_copyFrom_11 : decode b_Tube_copyFrom 11 = .ok (.aload_n 0, 1) := by decide +kernel
theorem d_Tube_copyFrom_12 : decode b_Tube_copyFrom 12 = .ok (.aload_n 1, 1) := by decide +kernel
theorem d_Tube_copyFrom_13 : decode b_Tube_copyFrom 13 = .ok (.getfield 41, 3) := by decide +kernel
theorem d_Tube_copyFrom_16 : decode b_Tube_copyFrom 16 = .ok (.putfield 41, 3) := by decide +kernel
theorem d_Tube_copyFrom_19 : decode b_Tube_copyFrom 19 = .ok (.aload_n 0, 1) := by decide +kernel
theorem d_Tube_copyFrom_20 : decode b_Tube_copyFrom 20 = .ok (.aload_n 1, 1) := by decide +kernel
theorem d_Tube_copyFrom_21 : decode b_Tube_copyFrom 21 = .ok (.getfield 45, 3) := by decide +kernel
theorem d_Tube_copyFrom_24 : decode b_Tube_copyFrom 24 = .ok (.putfield 45, 3) := by decide +kernel
theorem d_Tube_copyFrom_27 : decode b_Tube_copyFrom 27 = .ok (.aload_n 0, 1) := by decide +kernel
theorem d_Tube_copyFrom_28 : decode b_Tube_copyFrom 28 = .ok (.aload_n 1, 1) := by decide +kernel
theorem d_Tube_copyFrom_29 : decode b_Tube_copyFrom 29 = .ok (.getfield 48, 3) := by decide +kernel
theorem d_Tube_copyFrom_32 : decode b_Tube_copyFrom 32 = .ok (.putfield 48, 3) := by decide +kernel
theorem d_Tube_copyFrom_35 : decode b_Tube_copyFrom 35 = .ok (.aload_n 0, 1) := by decide +kernel
theorem d_Tube_copyFrom_36 : decode b_Tube_copyFrom 36 = .ok (.aload_n 1, 1) := by decide +kernel
theorem d_Tube_copyFrom_37 : decode b_Tube_copyFrom 37 = .ok (.getfield 51, 3) := by decide +kernel
theorem d_Tube_copyFrom_40 : decode b_Tube_copyFrom 40 = .ok (.putfield 51, 3) := by decide +kernel
theorem d_Tube_copyFrom_43 : decode b_Tube_copyFrom 43 = .ok (.iconst 0, 1) := by decide +kernel
theorem d_Tube_copyFrom_44 : decode b_Tube_copyFrom 44 = .ok (.istore_n 2, 1) := by decide +kernel
theorem d_Tube_copyFrom_45 : decode b_Tube_copyFrom 45 = .ok (.iload_n 2, 1) := by decide +kernel
theorem d_Tube_copyFrom_46 : decode b_Tube_copyFrom 46 = .ok (.iconst 4, 1) := by decide +kernel
theorem d_Tube_copyFrom_47 : decode b_Tube_copyFrom 47 = .ok (.if_icmp .ge 24, 3) := by decide +kernel
theorem d_Tube_copyFrom_50 : decode b_Tube_copyFrom 50 = .ok (.aload_n 1, 1) := by decide +kernel
theorem d_Tube_copyFrom_51 : decode b_Tube_copyFrom 51 = .ok (.getfield 20, 3) := by decide +kernel
theorem d_Tube_copyFrom_54 : decode b_Tube_copyFrom 54 = .ok (.iload_n 2, 1) := by decide +kernel
theorem d_Tube_copyFrom_55 : decode b_Tube_copyFrom 55 = .ok (.aaload, 1) := by decide +kernel
theorem d_Tube_copyFrom_56 : decode b_Tube_copyFrom 56 = .ok (.aload_n 0, 1) := by decide +kernel
theorem d_Tube_copyFrom_57 : decode b_Tube_copyFrom 57 = .ok (.getfield 20, 3) := by decide +kernel
theorem d_Tube_copyFrom_60 : decode b_Tube_copyFrom 60 = .ok (.iload_n 2, 1) := by decide +kernel
theorem d_Tube_copyFrom_61 : decode b_Tube_copyFrom 61 = .ok (.aaload, 1) := by decide +kernel
theorem d_Tube_copyFrom_62 : decode b_Tube_copyFrom 62 = .ok (.invokestatic 91, 3) := by decide +kernel
theorem d_Tube_copyFrom_65 : decode b_Tube_copyFrom 65 = .ok (.iinc 2 1, 3) := by decide +kernel
theorem d_Tube_copyFrom_68 : decode b_Tube_copyFrom 68 = .ok (.goto (-23), 3) := by decide +kernel
theorem d_Tube_copyFrom_71 : decode b_Tube_copyFrom 71 = .ok (.aload_n 1, 1) := by decide +kernel
theorem d_Tube_copyFrom_72 : decode b_Tube_copyFrom 72 = .ok (.getfield 23, 3) := by decide +kernel
theorem d_Tube_copyFrom_75 : decode b_Tube_copyFrom 75 = .ok (.aload_n 0, 1) := by decide +kernel
theorem d_Tube_copyFrom_76 : decode b_Tube_copyFrom 76 = .ok (.getfield 23, 3) := by decide +kernel
theorem d_Tube_copyFrom_79 : decode b_Tube_copyFrom 79 = .ok (.invokestatic 91, 3) := by decide +kernel
theorem d_Tube_copyFrom_82 : decode b_Tube_copyFrom 82 = .ok (.aload_n 1, 1) := by decide +kernel
theorem d_Tube_copyFrom_83 : decode b_Tube_copyFrom 83 = .ok (.getfield 27, 3) := by decide +kernel
theorem d_Tube_copyFrom_86 : decode b_Tube_copyFrom 86 = .ok (.aload_n 0, 1) := by decide +kernel
theorem d_Tube_copyFrom_87 : decode b_Tube_copyFrom 87 = .ok (.getfield 27, 3) := by decide +kernel
theorem d_Tube_copyFrom_90 : decode b_Tube_copyFrom 90 = .ok (.invokestatic 91, 3) := by decide +kernel
theorem d_Tube_copyFrom_93 : decode b_Tube_copyFrom 93 = .ok (.aload_n 1, 1) := by decide +kernel
theorem d_Tube_copyFrom_94 : decode b_Tube_copyFrom 94 = .ok (.getfield 30, 3) := by decide +kernel
theorem d_Tube_copyFrom_97 : decode b_Tube_copyFrom 97 = .ok (.aload_n 0, 1) := by decide +kernel
theorem d_Tube_copyFrom_98 : decode b_Tube_copyFrom 98 = .ok (.getfield 30, 3) := by decide +kernel
theorem d_Tube_copyFrom_101 : decode b_Tube_copyFrom 101 = .ok (.invokestatic 91, 3) := by decide +kernel
theorem d_Tube_copyFrom_104 : decode b_Tube_copyFrom 104 = .ok (.aload_n 1, 1) := by decide +kernel
theorem d_Tube_copyFrom_105 : decode b_Tube_copyFrom 105 = .ok (.getfield 33, 3) := by decide +kernel
theorem d_Tube_copyFrom_108 : decode b_Tube_copyFrom 108 = .ok (.aload_n 0, 1) := by decide +kernel
theorem d_Tube_copyFrom_109 : decode b_Tube_copyFrom 109 = .ok (.getfield 33, 3) := by decide +kernel
theorem d_Tube_copyFrom_112 : decode b_Tube_copyFrom 112 = .ok (.invokestatic 95, 3) := by decide +kernel
theorem d_Tube_copyFrom_115 : decode b_Tube_copyFrom 115 = .ok (.return_, 1) := by decide +kernel
theorem d_Math_abs_0_0 : decode b_Math_abs_0 0 = .ok (.iload_n 0, 1) := by decide +kernel
theorem d_Math_abs_0_1 : decode b_Math_abs_0 1 = .ok (.ifCond .ge 8, 3) := by decide +kernel
theorem d_Math_abs_0_4 : decode b_Math_abs_0 4 = .ok (.iload_n 0, 1) := by decide +kernel
theorem d_Math_abs_0_5 : decode b_Math_abs_0 5 = .ok (.ineg, 1) := by decide +kernel
theorem d_Math_abs_0_6 : decode b_Math_abs_0 6 = .ok (.goto 4, 3) := by decide +kernel
theorem d_Math_abs_0_9 : decode b_Math_abs_0 9 = .ok (.iload_n 0, 1) := by decide +kernel
theorem d_Math_abs_0_10 : decode b_Math_abs_0 10 = .ok (.ireturn, 1) := by decide +kernel
theorem d_Math_abs_1_0 : decode b_Math_abs_1 0 = .ok (.lload_n 0, 1) := by decide +kernel
theorem d_Math_abs_1_1 : decode b_Math_abs_1 1 = .ok (.lconst 0, 1) := by decide +kernel
theorem d_Math_abs_1_2 : decode b_Math_abs_1 2 = .ok (.lcmp, 1) := by decide +kernel
theorem d_Math_abs_1_3 : decode b_Math_abs_1 3 = .ok (.ifCond .ge 8, 3) := by decide +kernel
theorem d_Math_abs_1_6 : decode b_Math_abs_1 6 = .ok (.lload_n 0, 1) := by decide +kernel
theorem d_Math_abs_1_7 : decode b_Math_abs_1 7 = .ok (.lneg, 1) := by decide +kernel
theorem d_Math_abs_1_8 : decode b_Math_abs_1 8 = .ok (.goto 4, 3) := by decide +kernel
theorem d_Math_abs_1_11 : decode b_Math_abs_1 11 = .ok (.lload_n 0, 1) := by decide +kernel
theorem d_Math_abs_1_12 : decode b_Math_abs_1 12 = .ok (.lreturn, 1) := by decide +kernel
theorem d_Math_floorDiv_0 : decode b_Math_floorDiv 0 = .ok (.lload_n 0, 1) := by decide +kernel
theorem d_Math_floorDiv_1 : decode b_Math_floorDiv 1 = .ok (.lload_n 2, 1) := by decide +kernel
theorem d_Math_floorDiv_2 : decode b_Math_floorDiv 2 = .ok (.ldiv, 1) := by decide +kernel
theorem d_Math_floorDiv_3 : decode b_Math_floorDiv 3 = .ok (.lstore 4, 2) := by decide +kernel
theorem d_Math_floorDiv_5 : decode b_Math_floorDiv 5 = .ok (.lload_n 0, 1) := by decide +kernel
theorem d_Math_floorDiv_6 : decode b_Math_floorDiv 6 = .ok (.lload_n 2, 1) := by decide +kernel
theorem d_Math_floorDiv_7 : decode b_Math_floorDiv 7 = .ok (.lxor, 1) := by decide +kernel
theorem d_Math_floorDiv_8 : decode b_Math_floorDiv 8 = .ok (.lconst 0, 1) := by decide +kernel
theorem d_Math_floorDiv_9 : decode b_Math_floorDiv 9 = .ok (.lcmp, 1) := by decide +kernel
theorem d_Math_floorDiv_10 : decode b_Math_floorDiv 10 = .ok (.ifCond .ge 17, 3) := by decide +kernel
theorem d_Math_floorDiv_13 : decode b_Math_floorDiv 13 = .ok (.lload 4, 2) := by decide +kernel
theorem d_Math_floorDiv_15 : decode b_Math_floorDiv 15 = .ok (.lload_n 2, 1) := by decide +kernel
theorem d_Math_floorDiv_16 : decode b_Math_floorDiv 16 = .ok (.lmul, 1) := by decide +kernel
theorem d_Math_floorDiv_17 : decode b_Math_floorDiv 17 = .ok (.lload_n 0, 1) := by decide +kernel
theorem d_Math_floorDiv_18 : decode b_Math_floorDiv 18 = .ok (.lcmp, 1) := by decide +kernel
theorem d_Math_floorDiv_19 : decode b_Math_floorDiv 19 = .ok (.ifCond .eq 8, 3) := by decide +kernel
theorem d_Math_floorDiv_22 : decode b_Math_floorDiv 22 = .ok (.lload 4, 2) := by decide +kernel
theorem d_Math_floorDiv_24 : decode b_Math_floorDiv 24 = .ok (.lconst 1, 1) := by decide +kernel
theorem d_Math_floorDiv_25 : decode b_Math_floorDiv 25 = .ok (.lsub, 1) := by decide +kernel
theorem d_Math_floorDiv_26 : decode b_Math_floorDiv 26 = .ok (.lreturn, 1) := by decide +kernel
theorem d_Math_floorDiv_27 : decode b_Math_floorDiv 27 = .ok (.lload 4, 2) := by decide +kernel
theorem d_Math_floorDiv_29 : decode b_Math_floorDiv 29 = .ok (.lreturn, 1) := by decide +kernel
theorem d_Math_max_0_0 : decode b_Math_max_0 0 = .ok (.iload_n 0, 1) := by decide +kernel
theorem d_Math_max_0_1 : decode b_Math_max_0 1 = .ok (.iload_n 1, 1) := by decide +kernel
theorem d_Math_max_0_2 : decode b_Math_max_0 2 = .ok (.if_icmp .lt 7, 3) := by decide +kernel
theorem d_Math_max_0_5 : decode b_Math_max_0 5 = .ok (.iload_n 0, 1) := by decide +kernel
theorem d_Math_max_0_6 : decode b_Math_max_0 6 = .ok (.goto 4, 3) := by decide +kernel
theorem d_Math_max_0_9 : decode b_Math_max_0 9 = .ok (.iload_n 1, 1) := by decide +kernel
theorem d_Math_max_0_10 : decode b_Math_max_0 10 = .ok (.ireturn, 1) := by decide +kernel
theorem d_Math_max_1_0 : decode b_Math_max_1 0 = .ok (.lload_n 0, 1) := by decide +kernel
theorem d_Math_max_1_1 : decode b_Math_max_1 1 = .ok (.lload_n 2, 1) := by decide +kernel
theorem d_Math_max_1_2 : decode b_Math_max_1 2 = .ok (.lcmp, 1) := by decide +kernel
theorem d_Math_max_1_3 : decode b_Math_max_1 3 = .ok (.ifCond .lt 7, 3) := by decide +kernel
theorem d_Math_max_1_6 : decode b_Math_max_1 6 = .ok (.lload_n 0, 1) := by decide +kernel
theorem d_Math_max_1_7 : decode b_Math_max_1 7 = .ok (.goto 4, 3) := by decide +kernel
theorem d_Math_max_1_10 : decode b_Math_max_1 10 = .ok (.lload_n 2, 1) := by decide +kernel
theorem d_Math_max_1_11 : decode b_Math_max_1 11 = .ok (.lreturn, 1) := by decide +kernel
theorem d_Math_min_0_0 : decode b_Math_min_0 0 = .ok (.iload_n 0, 1) := by decide +kernel
theorem d_Math_min_0_1 : decode b_Math_min_0 1 = .ok (.iload_n 1, 1) := by decide +kernel
theorem d_Math_min_0_2 : decode b_Math_min_0 2 = .ok (.if_icmp .gt 7, 3) := by decide +kernel
theorem d_Math_min_0_5 : decode b_Math_min_0 5 = .ok (.iload_n 0, 1) := by decide +kernel
theorem d_Math_min_0_6 : decode b_Math_min_0 6 = .ok (.goto 4, 3) := by decide +kernel
theorem d_Math_min_0_9 : decode b_Math_min_0 9 = .ok (.iload_n 1, 1) := by decide +kernel
theorem d_Math_min_0_10 : decode b_Math_min_0 10 = .ok (.ireturn, 1) := by decide +kernel
theorem d_Math_min_1_0 : decode b_Math_min_1 0 = .ok (.lload_n 0, 1) := by decide +kernel
theorem d_Math_min_1_1 : decode b_Math_min_1 1 = .ok (.lload_n 2, 1) := by decide +kernel
theorem d_Math_min_1_2 : decode b_Math_min_1 2 = .ok (.lcmp, 1) := by decide +kernel
theorem d_Math_min_1_3 : decode b_Math_min_1 3 = .ok (.ifCond .gt 7, 3) := by decide +kernel
theorem d_Math_min_1_6 : decode b_Math_min_1 6 = .ok (.lload_n 0, 1) := by decide +kernel
theorem d_Math_min_1_7 : decode b_Math_min_1 7 = .ok (.goto 4, 3) := by decide +kernel
theorem d_Math_min_1_10 : decode b_Math_min_1 10 = .ok (.lload_n 2, 1) := by decide +kernel
theorem d_Math_min_1_11 : decode b_Math_min_1 11 = .ok (.lreturn, 1) := by decide +kernel
