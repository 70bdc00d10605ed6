theorem dX1_init_0 : decode cX1_init 0 = .ok (.aload_n 0, 1) := by decide +kernel
theorem dX1_init_1 : decode cX1_init 1 = .ok (.invokespecial 1, 3) := by decide +kernel
theorem dX1_init_4 : decode cX1_init 4 = .ok (.aload_n 0, 1) := by decide +kernel
theorem dX1_init_5 : decode cX1_init 5 = .ok (.sipush 512, 3) := by decide +kernel
theorem dX1_init_8 : decode cX1_init 8 = .ok (.newarray .boolean, 2) := by decide +kernel
theorem dX1_init_10 : decode cX1_init 10 = .ok (.putfield 7, 3) := by decide +kernel
theorem dX1_init_13 : decode cX1_init 13 = .ok (.aload_n 0, 1) := by decide +kernel
theorem dX1_init_14 : decode cX1_init 14 = .ok (.sipush 512, 3) := by decide +kernel
theorem dX1_init_17 : decode cX1_init 17 = .ok (.newarray .long, 2) := by decide +kernel
theorem dX1_init_19 : decode cX1_init 19 = .ok (.putfield 13, 3) := by decide +kernel
theorem dX1_init_22 : decode cX1_init 22 = .ok (.aload_n 0, 1) := by decide +kernel
theorem dX1_init_23 : decode cX1_init 23 = .ok (.sipush 512, 3) := by decide +kernel
theorem dX1_init_26 : decode cX1_init 26 = .ok (.newarray .long, 2) := by decide +kernel
theorem dX1_init_28 : decode cX1_init 28 = .ok (.putfield 17, 3) := by decide +kernel
theorem dX1_init_31 : decode cX1_init 31 = .ok (.aload_n 0, 1) := by decide +kernel
theorem dX1_init_32 : decode cX1_init 32 = .ok (.iconst (-1), 1) := by decide +kernel
theorem dX1_init_33 : decode cX1_init 33 = .ok (.putfield 20, 3) := by decide +kernel
theorem dX1_init_36 : decode cX1_init 36 = .ok (.aload_n 0, 1) := by decide +kernel
theorem dX1_init_37 : decode cX1_init 37 = .ok (.sipush 513, 3) := by decide +kernel
theorem dX1_init_40 : decode cX1_init 40 = .ok (.newarray .long, 2) := by decide +kernel
theorem dX1_init_42 : decode cX1_init 42 = .ok (.putfield 24, 3) := by decide +kernel
theorem dX1_init_45 : decode cX1_init 45 = .ok (.aload_n 0, 1) := by decide +kernel
theorem dX1_init_46 : decode cX1_init 46 = .ok (.sipush 513, 3) := by decide +kernel
theorem dX1_init_49 : decode cX1_init 49 = .ok (.newarray .long, 2) := by decide +kernel
theorem dX1_init_51 : decode cX1_init 51 = .ok (.putfield 27, 3) := by decide +kernel
theorem dX1_init_54 : decode cX1_init 54 = .ok (.aload_n 0, 1) := by decide +kernel
theorem dX1_init_55 : decode cX1_init 55 = .ok (.iload_n 1, 1) := by decide +kernel
theorem dX1_init_56 : decode cX1_init 56 = .ok (.bipush 32, 2) := by decide +kernel
theorem dX1_init_58 : decode cX1_init 58 = .ok (.if_icmp .eq 9, 3) := by decide +kernel
theorem dX1_init_61 : decode cX1_init 61 = .ok (.iload_n 1, 1) := by decide +kernel
theorem dX1_init_62 : decode cX1_init 62 = .ok (.bipush 64, 2) := by decide +kernel
theorem dX1_init_64 : decode cX1_init 64 = .ok (.if_icmp .ne 7, 3) := by decide +kernel
theorem dX1_init_67 : decode cX1_init 67 = .ok (.iload_n 1, 1) := by decide +kernel
theorem dX1_init_68 : decode cX1_init 68 = .ok (.goto 5, 3) := by decide +kernel
theorem dX1_init_71 : decode cX1_init 71 = .ok (.bipush 16, 2) := by decide +kernel
theorem dX1_init_73 : decode cX1_init 73 = .ok (.putfield 30, 3) := by decide +kernel
theorem dX1_init_76 : decode cX1_init 76 = .ok (.aload_n 0, 1) := by decide +kernel
theorem dX1_init_77 : decode cX1_init 77 = .ok (.aload_n 0, 1) := by decide +kernel
theorem dX1_init_78 : decode cX1_init 78 = .ok (.getfield 30, 3) := by decide +kernel
theorem dX1_init_81 : decode cX1_init 81 = .ok (.putfield 33, 3) := by decide +kernel
theorem dX1_init_84 : decode cX1_init 84 = .ok (.return_, 1) := by decide +kernel
theorem dX1_segments_0 : decode cX1_segments 0 = .ok (.aload_n 0, 1) := by decide +kernel
theorem dX1_segments_1 : decode cX1_segments 1 = .ok (.getfield 33, 3) := by decide +kernel
theorem dX1_segments_4 : decode cX1_segments 4 = .ok (.bipush 8, 2) := by decide +kernel
theorem dX1_segments_6 : decode cX1_segments 6 = .ok (.idiv, 1) := by decide +kernel
theorem dX1_segments_7 : decode cX1_segments 7 = .ok (.ireturn, 1) := by decide +kernel
theorem dX1_levels_0 : decode cX1_levels 0 = .ok (.iconst 0, 1) := by decide +kernel
theorem dX1_levels_1 : decode cX1_levels 1 = .ok (.istore_n 1, 1) := by decide +kernel
theorem dX1_levels_2 : decode cX1_levels 2 = .ok (.aload_n 0, 1) := by decide +kernel
theorem dX1_levels_3 : decode cX1_levels 3 = .ok (.invokevirtual 36, 3) := by decide +kernel
theorem dX1_levels_6 : decode cX1_levels 6 = .ok (.istore_n 2, 1) := by decide +kernel
theorem dX1_levels_7 : decode cX1_levels 7 = .ok (.iload_n 2, 1) := by decide +kernel
theorem dX1_levels_8 : decode cX1_levels 8 = .ok (.iconst 1, 1) := by decide +kernel
theorem dX1_levels_9 : decode cX1_levels 9 = .ok (.if_icmp .le 13, 3) := by decide +kernel
theorem dX1_levels_12 : decode cX1_levels 12 = .ok (.iinc 1 1, 3) := by decide +kernel
theorem dX1_levels_15 : decode cX1_levels 15 = .ok (.iload_n 2, 1) := by decide +kernel
theorem dX1_levels_16 : decode cX1_levels 16 = .ok (.iconst 2, 1) := by decide +kernel
theorem dX1_levels_17 : decode cX1_levels 17 = .ok (.idiv, 1) := by decide +kernel
theorem dX1_levels_18 : decode cX1_levels 18 = .ok (.istore_n 2, 1) := by decide +kernel
theorem dX1_levels_19 : decode cX1_levels 19 = .ok (.goto (-12), 3) := by decide +kernel
theorem dX1_levels_22 : decode cX1_levels 22 = .ok (.iload_n 1, 1) := by decide +kernel
theorem dX1_levels_23 : decode cX1_levels 23 = .ok (.ireturn, 1) := by decide +kernel
theorem dX1_greatest_0 : decode cX1_greatest 0 = .ok (.ldc2_w 40, 3) := by decide +kernel
theorem dX1_greatest_3 : decode cX1_greatest 3 = .ok (.lstore_n 3, 1) := by decide +kernel
theorem dX1_greatest_4 : decode cX1_greatest 4 = .ok (.bipush 8, 2) := by decide +kernel
theorem dX1_greatest_6 : decode cX1_greatest 6 = .ok (.iload_n 1, 1) := by decide +kernel
theorem dX1_greatest_7 : decode cX1_greatest 7 = .ok (.imul, 1) := by decide +kernel
theorem dX1_greatest_8 : decode cX1_greatest 8 = .ok (.istore 5, 2) := by decide +kernel
theorem dX1_greatest_10 : decode cX1_greatest 10 = .ok (.iload 5, 2) := by decide +kernel
theorem dX1_greatest_12 : decode cX1_greatest 12 = .ok (.bipush 8, 2) := by decide +kernel
theorem dX1_greatest_14 : decode cX1_greatest 14 = .ok (.iload_n 1, 1) := by decide +kernel
theorem dX1_greatest_15 : decode cX1_greatest 15 = .ok (.iload_n 2, 1) := by decide +kernel
theorem dX1_greatest_16 : decode cX1_greatest 16 = .ok (.iadd, 1) := by decide +kernel
theorem dX1_greatest_17 : decode cX1_greatest 17 = .ok (.imul, 1) := by decide +kernel
theorem dX1_greatest_18 : decode cX1_greatest 18 = .ok (.if_icmp .ge 31, 3) := by decide +kernel
theorem dX1_greatest_21 : decode cX1_greatest 21 = .ok (.aload_n 0, 1) := by decide +kernel
theorem dX1_greatest_22 : decode cX1_greatest 22 = .ok (.getfield 7, 3) := by decide +kernel
theorem dX1_greatest_25 : decode cX1_greatest 25 = .ok (.iload 5, 2) := by decide +kernel
theorem dX1_greatest_27 : decode cX1_greatest 27 = .ok (.baload, 1) := by decide +kernel
theorem dX1_greatest_28 : decode cX1_greatest 28 = .ok (.ifCond .eq 13, 3) := by decide +kernel
theorem dX1_greatest_31 : decode cX1_greatest 31 = .ok (.aload_n 0, 1) := by decide +kernel
theorem dX1_greatest_32 : decode cX1_greatest 32 = .ok (.getfield 13, 3) := by decide +kernel
theorem dX1_greatest_35 : decode cX1_greatest 35 = .ok (.iload 5, 2) := by decide +kernel
theorem dX1_greatest_37 : decode cX1_greatest 37 = .ok (.laload, 1) := by decide +kernel
theorem dX1_greatest_38 : decode cX1_greatest 38 = .ok (.goto 4, 3) := by decide +kernel
theorem dX1_greatest_41 : decode cX1_greatest 41 = .ok (.lload_n 3, 1) := by decide +kernel
theorem dX1_greatest_42 : decode cX1_greatest 42 = .ok (.lstore_n 3, 1) := by decide +kernel
theorem dX1_greatest_43 : decode cX1_greatest 43 = .ok (.iinc 5 1, 3) := by decide +kernel
theorem dX1_greatest_46 : decode cX1_greatest 46 = .ok (.goto (-36), 3) := by decide +kernel
theorem dX1_greatest_49 : decode cX1_greatest 49 = .ok (.lload_n 3, 1) := by decide +kernel
theorem dX1_greatest_50 : decode cX1_greatest 50 = .ok (.lreturn, 1) := by decide +kernel
theorem dX1_levelOf_0 : decode cX1_levelOf 0 = .ok (.iconst 0, 1) := by decide +kernel
theorem dX1_levelOf_1 : decode cX1_levelOf 1 = .ok (.istore_n 1, 1) := by decide +kernel
theorem dX1_levelOf_2 : decode cX1_levelOf 2 = .ok (.iload_n 0, 1) := by decide +kernel
theorem dX1_levelOf_3 : decode cX1_levelOf 3 = .ok (.istore_n 2, 1) := by decide +kernel
theorem dX1_levelOf_4 : decode cX1_levelOf 4 = .ok (.iload_n 2, 1) := by decide +kernel
theorem dX1_levelOf_5 : decode cX1_levelOf 5 = .ok (.iconst 1, 1) := by decide +kernel
theorem dX1_levelOf_6 : decode cX1_levelOf 6 = .ok (.if_icmp .le 13, 3) := by decide +kernel
theorem dX1_levelOf_9 : decode cX1_levelOf 9 = .ok (.iinc 1 1, 3) := by decide +kernel
theorem dX1_levelOf_12 : decode cX1_levelOf 12 = .ok (.iload_n 2, 1) := by decide +kernel
theorem dX1_levelOf_13 : decode cX1_levelOf 13 = .ok (.iconst 2, 1) := by decide +kernel
theorem dX1_levelOf_14 : decode cX1_levelOf 14 = .ok (.idiv, 1) := by decide +kernel
theorem dX1_levelOf_15 : decode cX1_levelOf 15 = .ok (.istore_n 2, 1) := by decide +kernel
theorem dX1_levelOf_16 : decode cX1_levelOf 16 = .ok (.goto (-12), 3) := by decide +kernel
theorem dX1_levelOf_19 : decode cX1_levelOf 19 = .ok (.iload_n 1, 1) := by decide +kernel
theorem dX1_levelOf_20 : decode cX1_levelOf 20 = .ok (.ireturn, 1) := by decide +kernel
theorem dX1_bears_0 : decode cX1_bears 0 = .ok (.aload_n 0, 1) := by decide +kernel
theorem dX1_bears_1 : decode cX1_bears 1 = .ok (.invokevirtual 36, 3) := by decide +kernel
theorem dX1_bears_4 : decode cX1_bears 4 = .ok (.iload_n 1, 1) := by decide +kernel
theorem dX1_bears_5 : decode cX1_bears 5 = .ok (.invokestatic 42, 3) := by decide +kernel
theorem dX1_bears_8 : decode cX1_bears 8 = .ok (.ishr, 1) := by decide +kernel
theorem dX1_bears_9 : decode cX1_bears 9 = .ok (.istore_n 2, 1) := by decide +kernel
theorem dX1_bears_10 : decode cX1_bears 10 = .ok (.iload_n 1, 1) := by decide +kernel
theorem dX1_bears_11 : decode cX1_bears 11 = .ok (.iconst 1, 1) := by decide +kernel
theorem dX1_bears_12 : decode cX1_bears 12 = .ok (.iload_n 1, 1) := by decide +kernel
theorem dX1_bears_13 : decode cX1_bears 13 = .ok (.invokestatic 42, 3) := by decide +kernel
theorem dX1_bears_16 : decode cX1_bears 16 = .ok (.ishl, 1) := by decide +kernel
theorem dX1_bears_17 : decode cX1_bears 17 = .ok (.isub, 1) := by decide +kernel
theorem dX1_bears_18 : decode cX1_bears 18 = .ok (.iload_n 2, 1) := by decide +kernel
theorem dX1_bears_19 : decode cX1_bears 19 = .ok (.imul, 1) := by decide +kernel
theorem dX1_bears_20 : decode cX1_bears 20 = .ok (.istore_n 3, 1) := by decide +kernel
theorem dX1_bears_21 : decode cX1_bears 21 = .ok (.aload_n 0, 1) := by decide +kernel
theorem dX1_bears_22 : decode cX1_bears 22 = .ok (.iload_n 3, 1) := by decide +kernel
theorem dX1_bears_23 : decode cX1_bears 23 = .ok (.iload_n 2, 1) := by decide +kernel
theorem dX1_bears_24 : decode cX1_bears 24 = .ok (.iconst 2, 1) := by decide +kernel
theorem dX1_bears_25 : decode cX1_bears 25 = .ok (.idiv, 1) := by decide +kernel
theorem dX1_bears_26 : decode cX1_bears 26 = .ok (.invokevirtual 46, 3) := by decide +kernel
theorem dX1_bears_29 : decode cX1_bears 29 = .ok (.lreturn, 1) := by decide +kernel
theorem dX1_step_0 : decode cX1_step 0 = .ok (.aload_n 0, 1) := by decide +kernel
theorem dX1_step_1 : decode cX1_step 1 = .ok (.iload_n 1, 1) := by decide +kernel
theorem dX1_step_2 : decode cX1_step 2 = .ok (.invokevirtual 50, 3) := by decide +kernel
theorem dX1_step_5 : decode cX1_step 5 = .ok (.lstore 4, 2) := by decide +kernel
theorem dX1_step_7 : decode cX1_step 7 = .ok (.lload 4, 2) := by decide +kernel
theorem dX1_step_9 : decode cX1_step 9 = .ok (.ldc2_w 40, 3) := by decide +kernel
theorem dX1_step_12 : decode cX1_step 12 = .ok (.lcmp, 1) := by decide +kernel
theorem dX1_step_13 : decode cX1_step 13 = .ok (.ifCond .eq 16, 3) := by decide +kernel
theorem dX1_step_16 : decode cX1_step 16 = .ok (.lload 4, 2) := by decide +kernel
theorem dX1_step_18 : decode cX1_step 18 = .ok (.lload_n 2, 1) := by decide +kernel
theorem dX1_step_19 : decode cX1_step 19 = .ok (.lcmp, 1) := by decide +kernel
theorem dX1_step_20 : decode cX1_step 20 = .ok (.ifCond .lt 9, 3) := by decide +kernel
theorem dX1_step_23 : decode cX1_step 23 = .ok (.iconst 2, 1) := by decide +kernel
theorem dX1_step_24 : decode cX1_step 24 = .ok (.iload_n 1, 1) := by decide +kernel
theorem dX1_step_25 : decode cX1_step 25 = .ok (.imul, 1) := by decide +kernel
theorem dX1_step_26 : decode cX1_step 26 = .ok (.goto 8, 3) := by decide +kernel
theorem dX1_step_29 : decode cX1_step 29 = .ok (.iconst 2, 1) := by decide +kernel
theorem dX1_step_30 : decode cX1_step 30 = .ok (.iload_n 1, 1) := by decide +kernel
theorem dX1_step_31 : decode cX1_step 31 = .ok (.imul, 1) := by decide +kernel
theorem dX1_step_32 : decode cX1_step 32 = .ok (.iconst 1, 1) := by decide +kernel
theorem dX1_step_33 : decode cX1_step 33 = .ok (.iadd, 1) := by decide +kernel
theorem dX1_step_34 : decode cX1_step 34 = .ok (.ireturn, 1) := by decide +kernel
theorem dX1_seek_0 : decode cX1_seek 0 = .ok (.iconst 1, 1) := by decide +kernel
theorem dX1_seek_1 : decode cX1_seek 1 = .ok (.istore_n 3, 1) := by decide +kernel
theorem dX1_seek_2 : decode cX1_seek 2 = .ok (.iload_n 3, 1) := by decide +kernel
theorem dX1_seek_3 : decode cX1_seek 3 = .ok (.aload_n 0, 1) := by decide +kernel
theorem dX1_seek_4 : decode cX1_seek 4 = .ok (.invokevirtual 36, 3) := by decide +kernel
theorem dX1_seek_7 : decode cX1_seek 7 = .ok (.if_icmp .ge 13, 3) := by decide +kernel
theorem dX1_seek_10 : decode cX1_seek 10 = .ok (.aload_n 0, 1) := by decide +kernel
theorem dX1_seek_11 : decode cX1_seek 11 = .ok (.iload_n 3, 1) := by decide +kernel
theorem dX1_seek_12 : decode cX1_seek 12 = .ok (.lload_n 1, 1) := by decide +kernel
theorem dX1_seek_13 : decode cX1_seek 13 = .ok (.invokevirtual 54, 3) := by decide +kernel
theorem dX1_seek_16 : decode cX1_seek 16 = .ok (.istore_n 3, 1) := by decide +kernel
theorem dX1_seek_17 : decode cX1_seek 17 = .ok (.goto (-15), 3) := by decide +kernel
theorem dX1_seek_20 : decode cX1_seek 20 = .ok (.iload_n 3, 1) := by decide +kernel
theorem dX1_seek_21 : decode cX1_seek 21 = .ok (.aload_n 0, 1) := by decide +kernel
theorem dX1_seek_22 : decode cX1_seek 22 = .ok (.invokevirtual 36, 3) := by decide +kernel
theorem dX1_seek_25 : decode cX1_seek 25 = .ok (.isub, 1) := by decide +kernel
theorem dX1_seek_26 : decode cX1_seek 26 = .ok (.ireturn, 1) := by decide +kernel
theorem dX1_placeOf_0 : decode cX1_placeOf 0 = .ok (.iconst 1, 1) := by decide +kernel
theorem dX1_placeOf_1 : decode cX1_placeOf 1 = .ok (.istore_n 2, 1) := by decide +kernel
theorem dX1_placeOf_2 : decode cX1_placeOf 2 = .ok (.aload_n 0, 1) := by decide +kernel
theorem dX1_placeOf_3 : decode cX1_placeOf 3 = .ok (.invokevirtual 58, 3) := by decide +kernel
theorem dX1_placeOf_6 : decode cX1_placeOf 6 = .ok (.istore_n 3, 1) := by decide +kernel
theorem dX1_placeOf_7 : decode cX1_placeOf 7 = .ok (.iload_n 1, 1) := by decide +kernel
theorem dX1_placeOf_8 : decode cX1_placeOf 8 = .ok (.invokestatic 42, 3) := by decide +kernel
theorem dX1_placeOf_11 : decode cX1_placeOf 11 = .ok (.istore 4, 2) := by decide +kernel
theorem dX1_placeOf_13 : decode cX1_placeOf 13 = .ok (.iconst 0, 1) := by decide +kernel
theorem dX1_placeOf_14 : decode cX1_placeOf 14 = .ok (.istore 5, 2) := by decide +kernel
theorem dX1_placeOf_16 : decode cX1_placeOf 16 = .ok (.iload_n 3, 1) := by decide +kernel
theorem dX1_placeOf_17 : decode cX1_placeOf 17 = .ok (.iconst 1, 1) := by decide +kernel
theorem dX1_placeOf_18 : decode cX1_placeOf 18 = .ok (.if_icmp .le 82, 3) := by decide +kernel
theorem dX1_placeOf_21 : decode cX1_placeOf 21 = .ok (.iload_n 3, 1) := by decide +kernel
theorem dX1_placeOf_22 : decode cX1_placeOf 22 = .ok (.iconst 1, 1) := by decide +kernel
theorem dX1_placeOf_23 : decode cX1_placeOf 23 = .ok (.iadd, 1) := by decide +kernel
theorem dX1_placeOf_24 : decode cX1_placeOf 24 = .ok (.iconst 2, 1) := by decide +kernel
theorem dX1_placeOf_25 : decode cX1_placeOf 25 = .ok (.idiv, 1) := by decide +kernel
theorem dX1_placeOf_26 : decode cX1_placeOf 26 = .ok (.istore 6, 2) := by decide +kernel
theorem dX1_placeOf_28 : decode cX1_placeOf 28 = .ok (.iload 4, 2) := by decide +kernel
theorem dX1_placeOf_30 : decode cX1_placeOf 30 = .ok (.iload 6, 2) := by decide +kernel
theorem dX1_placeOf_32 : decode cX1_placeOf 32 = .ok (.if_icmp .lt 62, 3) := by decide +kernel
theorem dX1_placeOf_35 : decode cX1_placeOf 35 = .ok (.iload_n 1, 1) := by decide +kernel
theorem dX1_placeOf_36 : decode cX1_placeOf 36 = .ok (.iload 4, 2) := by decide +kernel
theorem dX1_placeOf_38 : decode cX1_placeOf 38 = .ok (.iload 6, 2) := by decide +kernel
theorem dX1_placeOf_40 : decode cX1_placeOf 40 = .ok (.isub, 1) := by decide +kernel
theorem dX1_placeOf_41 : decode cX1_placeOf 41 = .ok (.ishr, 1) := by decide +kernel
theorem dX1_placeOf_42 : decode cX1_placeOf 42 = .ok (.istore 7, 2) := by decide +kernel
theorem dX1_placeOf_44 : decode cX1_placeOf 44 = .ok (.iload 7, 2) := by decide +kernel
theorem dX1_placeOf_46 : decode cX1_placeOf 46 = .ok (.iload_n 2, 1) := by decide +kernel
theorem dX1_placeOf_47 : decode cX1_placeOf 47 = .ok (.iload 6, 2) := by decide +kernel
theorem dX1_placeOf_49 : decode cX1_placeOf 49 = .ok (.ishl, 1) := by decide +kernel
theorem dX1_placeOf_50 : decode cX1_placeOf 50 = .ok (.isub, 1) := by decide +kernel
theorem dX1_placeOf_51 : decode cX1_placeOf 51 = .ok (.istore 8, 2) := by decide +kernel
theorem dX1_placeOf_53 : decode cX1_placeOf 53 = .ok (.iload 5, 2) := by decide +kernel
theorem dX1_placeOf_55 : decode cX1_placeOf 55 = .ok (.iconst 1, 1) := by decide +kernel
theorem dX1_placeOf_56 : decode cX1_placeOf 56 = .ok (.iload 6, 2) := by decide +kernel
theorem dX1_placeOf_58 : decode cX1_placeOf 58 = .ok (.ishl, 1) := by decide +kernel
theorem dX1_placeOf_59 : decode cX1_placeOf 59 = .ok (.iconst 1, 1) := by decide +kernel
theorem dX1_placeOf_60 : decode cX1_placeOf 60 = .ok (.isub, 1) := by decide +kernel
theorem dX1_placeOf_61 : decode cX1_placeOf 61 = .ok (.iload 8, 2) := by decide +kernel
theorem dX1_placeOf_63 : decode cX1_placeOf 63 = .ok (.iconst 1, 1) := by decide +kernel
theorem dX1_placeOf_64 : decode cX1_placeOf 64 = .ok (.iload_n 3, 1) := by decide +kernel
theorem dX1_placeOf_65 : decode cX1_placeOf 65 = .ok (.iload 6, 2) := by decide +kernel
theorem dX1_placeOf_67 : decode cX1_placeOf 67 = .ok (.isub, 1) := by decide +kernel
theorem dX1_placeOf_68 : decode cX1_placeOf 68 = .ok (.ishl, 1) := by decide +kernel
theorem dX1_placeOf_69 : decode cX1_placeOf 69 = .ok (.iconst 1, 1) := by decide +kernel
theorem dX1_placeOf_70 : decode cX1_placeOf 70 = .ok (.isub, 1) := by decide +kernel
theorem dX1_placeOf_71 : decode cX1_placeOf 71 = .ok (.imul, 1) := by decide +kernel
theorem dX1_placeOf_72 : decode cX1_placeOf 72 = .ok (.iadd, 1) := by decide +kernel
theorem dX1_placeOf_73 : decode cX1_placeOf 73 = .ok (.iadd, 1) := by decide +kernel
theorem dX1_placeOf_74 : decode cX1_placeOf 74 = .ok (.istore 5, 2) := by decide +kernel
theorem dX1_placeOf_76 : decode cX1_placeOf 76 = .ok (.iload 7, 2) := by decide +kernel
theorem dX1_placeOf_78 : decode cX1_placeOf 78 = .ok (.istore_n 2, 1) := by decide +kernel
theorem dX1_placeOf_79 : decode cX1_placeOf 79 = .ok (.iload 4, 2) := by decide +kernel
theorem dX1_placeOf_81 : decode cX1_placeOf 81 = .ok (.iload 6, 2) := by decide +kernel
theorem dX1_placeOf_83 : decode cX1_placeOf 83 = .ok (.isub, 1) := by decide +kernel
theorem dX1_placeOf_84 : decode cX1_placeOf 84 = .ok (.istore 4, 2) := by decide +kernel
theorem dX1_placeOf_86 : decode cX1_placeOf 86 = .ok (.iload_n 3, 1) := by decide +kernel
theorem dX1_placeOf_87 : decode cX1_placeOf 87 = .ok (.iload 6, 2) := by decide +kernel
theorem dX1_placeOf_89 : decode cX1_placeOf 89 = .ok (.isub, 1) := by decide +kernel
theorem dX1_placeOf_90 : decode cX1_placeOf 90 = .ok (.istore_n 3, 1) := by decide +kernel
theorem dX1_placeOf_91 : decode cX1_placeOf 91 = .ok (.goto 6, 3) := by decide +kernel
theorem dX1_placeOf_94 : decode cX1_placeOf 94 = .ok (.iload 6, 2) := by decide +kernel
theorem dX1_placeOf_96 : decode cX1_placeOf 96 = .ok (.istore_n 3, 1) := by decide +kernel
theorem dX1_placeOf_97 : decode cX1_placeOf 97 = .ok (.goto (-81), 3) := by decide +kernel
theorem dX1_placeOf_100 : decode cX1_placeOf 100 = .ok (.iload 5, 2) := by decide +kernel
theorem dX1_placeOf_102 : decode cX1_placeOf 102 = .ok (.ireturn, 1) := by decide +kernel
theorem dX1_isNode_0 : decode cX1_isNode 0 = .ok (.iload_n 1, 1) := by decide +kernel
theorem dX1_isNode_1 : decode cX1_isNode 1 = .ok (.iconst 1, 1) := by decide +kernel
theorem dX1_isNode_2 : decode cX1_isNode 2 = .ok (.if_icmp .lt 15, 3) := by decide +kernel
theorem dX1_isNode_5 : decode cX1_isNode 5 = .ok (.iload_n 1, 1) := by decide +kernel
theorem dX1_isNode_6 : decode cX1_isNode 6 = .ok (.aload_n 0, 1) := by decide +kernel
theorem dX1_isNode_7 : decode cX1_isNode 7 = .ok (.invokevirtual 36, 3) := by decide +kernel
theorem dX1_isNode_10 : decode cX1_isNode 10 = .ok (.if_icmp .ge 7, 3) := by decide +kernel
theorem dX1_isNode_13 : decode cX1_isNode 13 = .ok (.iconst 1, 1) := by decide +kernel
theorem dX1_isNode_14 : decode cX1_isNode 14 = .ok (.goto 4, 3) := by decide +kernel
theorem dX1_isNode_17 : decode cX1_isNode 17 = .ok (.iconst 0, 1) := by decide +kernel
theorem dX1_isNode_18 : decode cX1_isNode 18 = .ok (.ireturn, 1) := by decide +kernel
theorem dX1_place_0 : decode cX1_place 0 = .ok (.aload_n 0, 1) := by decide +kernel
theorem dX1_place_1 : decode cX1_place 1 = .ok (.iload_n 1, 1) := by decide +kernel
theorem dX1_place_2 : decode cX1_place 2 = .ok (.invokevirtual 61, 3) := by decide +kernel
theorem dX1_place_5 : decode cX1_place 5 = .ok (.ifCond .eq 11, 3) := by decide +kernel
theorem dX1_place_8 : decode cX1_place 8 = .ok (.aload_n 0, 1) := by decide +kernel
theorem dX1_place_9 : decode cX1_place 9 = .ok (.iload_n 1, 1) := by decide +kernel
theorem dX1_place_10 : decode cX1_place 10 = .ok (.invokevirtual 65, 3) := by decide +kernel
theorem dX1_place_13 : decode cX1_place 13 = .ok (.goto 4, 3) := by decide +kernel
theorem dX1_place_16 : decode cX1_place 16 = .ok (.iconst (-1), 1) := by decide +kernel
theorem dX1_place_17 : decode cX1_place 17 = .ok (.ireturn, 1) := by decide +kernel
theorem dX1_borne_0 : decode cX1_borne 0 = .ok (.ldc2_w 40, 3) := by decide +kernel
theorem dX1_borne_3 : decode cX1_borne 3 = .ok (.lstore_n 2, 1) := by decide +kernel
theorem dX1_borne_4 : decode cX1_borne 4 = .ok (.iconst 1, 1) := by decide +kernel
theorem dX1_borne_5 : decode cX1_borne 5 = .ok (.istore 4, 2) := by decide +kernel
theorem dX1_borne_7 : decode cX1_borne 7 = .ok (.iload 4, 2) := by decide +kernel
theorem dX1_borne_9 : decode cX1_borne 9 = .ok (.aload_n 0, 1) := by decide +kernel
theorem dX1_borne_10 : decode cX1_borne 10 = .ok (.invokevirtual 36, 3) := by decide +kernel
theorem dX1_borne_13 : decode cX1_borne 13 = .ok (.if_icmp .ge 30, 3) := by decide +kernel
theorem dX1_borne_16 : decode cX1_borne 16 = .ok (.aload_n 0, 1) := by decide +kernel
theorem dX1_borne_17 : decode cX1_borne 17 = .ok (.iload 4, 2) := by decide +kernel
theorem dX1_borne_19 : decode cX1_borne 19 = .ok (.invokevirtual 65, 3) := by decide +kernel
theorem dX1_borne_22 : decode cX1_borne 22 = .ok (.iload_n 1, 1) := by decide +kernel
theorem dX1_borne_23 : decode cX1_borne 23 = .ok (.if_icmp .ne 12, 3) := by decide +kernel
theorem dX1_borne_26 : decode cX1_borne 26 = .ok (.aload_n 0, 1) := by decide +kernel
theorem dX1_borne_27 : decode cX1_borne 27 = .ok (.iload 4, 2) := by decide +kernel
theorem dX1_borne_29 : decode cX1_borne 29 = .ok (.invokevirtual 50, 3) := by decide +kernel
theorem dX1_borne_32 : decode cX1_borne 32 = .ok (.goto 4, 3) := by decide +kernel
theorem dX1_borne_35 : decode cX1_borne 35 = .ok (.lload_n 2, 1) := by decide +kernel
theorem dX1_borne_36 : decode cX1_borne 36 = .ok (.lstore_n 2, 1) := by decide +kernel
theorem dX1_borne_37 : decode cX1_borne 37 = .ok (.iinc 4 1, 3) := by decide +kernel
theorem dX1_borne_40 : decode cX1_borne 40 = .ok (.goto (-33), 3) := by decide +kernel
theorem dX1_borne_43 : decode cX1_borne 43 = .ok (.lload_n 2, 1) := by decide +kernel
theorem dX1_borne_44 : decode cX1_borne 44 = .ok (.lreturn, 1) := by decide +kernel
theorem dX1_touched_0 : decode cX1_touched 0 = .ok (.iload_n 3, 1) := by decide +kernel
theorem dX1_touched_1 : decode cX1_touched 1 = .ok (.iconst 1, 1) := by decide +kernel
theorem dX1_touched_2 : decode cX1_touched 2 = .ok (.if_icmp .lt 10, 3) := by decide +kernel
theorem dX1_touched_5 : decode cX1_touched 5 = .ok (.iload_n 3, 1) := by decide +kernel
theorem dX1_touched_6 : decode cX1_touched 6 = .ok (.sipush 1024, 3) := by decide +kernel
theorem dX1_touched_9 : decode cX1_touched 9 = .ok (.if_icmp .le 5, 3) := by decide +kernel
theorem dX1_touched_12 : decode cX1_touched 12 = .ok (.iconst (-1), 1) := by decide +kernel
theorem dX1_touched_13 : decode cX1_touched 13 = .ok (.ireturn, 1) := by decide +kernel
theorem dX1_touched_14 : decode cX1_touched 14 = .ok (.aload_n 0, 1) := by decide +kernel
theorem dX1_touched_15 : decode cX1_touched 15 = .ok (.getfield 33, 3) := by decide +kernel
theorem dX1_touched_18 : decode cX1_touched 18 = .ok (.aload_n 0, 1) := by decide +kernel
theorem dX1_touched_19 : decode cX1_touched 19 = .ok (.invokevirtual 36, 3) := by decide +kernel
theorem dX1_touched_22 : decode cX1_touched 22 = .ok (.iadd, 1) := by decide +kernel
theorem dX1_touched_23 : decode cX1_touched 23 = .ok (.istore 4, 2) := by decide +kernel
theorem dX1_touched_25 : decode cX1_touched 25 = .ok (.aload_n 0, 1) := by decide +kernel
theorem dX1_touched_26 : decode cX1_touched 26 = .ok (.lload_n 1, 1) := by decide +kernel
theorem dX1_touched_27 : decode cX1_touched 27 = .ok (.invokevirtual 68, 3) := by decide +kernel
theorem dX1_touched_30 : decode cX1_touched 30 = .ok (.istore 5, 2) := by decide +kernel
theorem dX1_touched_32 : decode cX1_touched 32 = .ok (.iconst 0, 1) := by decide +kernel
theorem dX1_touched_33 : decode cX1_touched 33 = .ok (.istore 6, 2) := by decide +kernel
theorem dX1_touched_35 : decode cX1_touched 35 = .ok (.iconst 0, 1) := by decide +kernel
theorem dX1_touched_36 : decode cX1_touched 36 = .ok (.istore 7, 2) := by decide +kernel
theorem dX1_touched_38 : decode cX1_touched 38 = .ok (.iload 7, 2) := by decide +kernel
theorem dX1_touched_40 : decode cX1_touched 40 = .ok (.iload_n 3, 1) := by decide +kernel
theorem dX1_touched_41 : decode cX1_touched 41 = .ok (.imul, 1) := by decide +kernel
theorem dX1_touched_42 : decode cX1_touched 42 = .ok (.iload 4, 2) := by decide +kernel
theorem dX1_touched_44 : decode cX1_touched 44 = .ok (.if_icmp .ge 129, 3) := by decide +kernel
theorem dX1_touched_47 : decode cX1_touched 47 = .ok (.iconst 0, 1) := by decide +kernel
theorem dX1_touched_48 : decode cX1_touched 48 = .ok (.istore 8, 2) := by decide +kernel
theorem dX1_touched_50 : decode cX1_touched 50 = .ok (.bipush 8, 2) := by decide +kernel
theorem dX1_touched_52 : decode cX1_touched 52 = .ok (.iload 5, 2) := by decide +kernel
theorem dX1_touched_54 : decode cX1_touched 54 = .ok (.imul, 1) := by decide +kernel
theorem dX1_touched_55 : decode cX1_touched 55 = .ok (.istore 9, 2) := by decide +kernel
theorem dX1_touched_57 : decode cX1_touched 57 = .ok (.iload 9, 2) := by decide +kernel
theorem dX1_touched_59 : decode cX1_touched 59 = .ok (.bipush 8, 2) := by decide +kernel
theorem dX1_touched_61 : decode cX1_touched 61 = .ok (.iload 5, 2) := by decide +kernel
theorem dX1_touched_63 : decode cX1_touched 63 = .ok (.imul, 1) := by decide +kernel
theorem dX1_touched_64 : decode cX1_touched 64 = .ok (.bipush 8, 2) := by decide +kernel
theorem dX1_touched_66 : decode cX1_touched 66 = .ok (.iadd, 1) := by decide +kernel
theorem dX1_touched_67 : decode cX1_touched 67 = .ok (.if_icmp .ge 35, 3) := by decide +kernel
theorem dX1_touched_70 : decode cX1_touched 70 = .ok (.iload 8, 2) := by decide +kernel
theorem dX1_touched_72 : decode cX1_touched 72 = .ok (.ifCond .ne 17, 3) := by decide +kernel
theorem dX1_touched_75 : decode cX1_touched 75 = .ok (.aload_n 0, 1) := by decide +kernel
theorem dX1_touched_76 : decode cX1_touched 76 = .ok (.invokevirtual 36, 3) := by decide +kernel
theorem dX1_touched_79 : decode cX1_touched 79 = .ok (.iload 9, 2) := by decide +kernel
theorem dX1_touched_81 : decode cX1_touched 81 = .ok (.iadd, 1) := by decide +kernel
theorem dX1_touched_82 : decode cX1_touched 82 = .ok (.iload_n 3, 1) := by decide +kernel
theorem dX1_touched_83 : decode cX1_touched 83 = .ok (.idiv, 1) := by decide +kernel
theorem dX1_touched_84 : decode cX1_touched 84 = .ok (.iload 7, 2) := by decide +kernel
theorem dX1_touched_86 : decode cX1_touched 86 = .ok (.if_icmp .ne 7, 3) := by decide +kernel
theorem dX1_touched_89 : decode cX1_touched 89 = .ok (.iconst 1, 1) := by decide +kernel
theorem dX1_touched_90 : decode cX1_touched 90 = .ok (.goto 4, 3) := by decide +kernel
theorem dX1_touched_93 : decode cX1_touched 93 = .ok (.iconst 0, 1) := by decide +kernel
theorem dX1_touched_94 : decode cX1_touched 94 = .ok (.istore 8, 2) := by decide +kernel
theorem dX1_touched_96 : decode cX1_touched 96 = .ok (.iinc 9 1, 3) := by decide +kernel
theorem dX1_touched_99 : decode cX1_touched 99 = .ok (.goto (-42), 3) := by decide +kernel
theorem dX1_touched_102 : decode cX1_touched 102 = .ok (.iconst 1, 1) := by decide +kernel
theorem dX1_touched_103 : decode cX1_touched 103 = .ok (.istore 9, 2) := by decide +kernel
theorem dX1_touched_105 : decode cX1_touched 105 = .ok (.iload 9, 2) := by decide +kernel
theorem dX1_touched_107 : decode cX1_touched 107 = .ok (.aload_n 0, 1) := by decide +kernel
theorem dX1_touched_108 : decode cX1_touched 108 = .ok (.invokevirtual 36, 3) := by decide +kernel
theorem dX1_touched_111 : decode cX1_touched 111 = .ok (.if_icmp .ge 40, 3) := by decide +kernel
theorem dX1_touched_114 : decode cX1_touched 114 = .ok (.iload 8, 2) := by decide +kernel
theorem dX1_touched_116 : decode cX1_touched 116 = .ok (.ifCond .ne 16, 3) := by decide +kernel
theorem dX1_touched_119 : decode cX1_touched 119 = .ok (.aload_n 0, 1) := by decide +kernel
theorem dX1_touched_120 : decode cX1_touched 120 = .ok (.iload 9, 2) := by decide +kernel
theorem dX1_touched_122 : decode cX1_touched 122 = .ok (.invokevirtual 65, 3) := by decide +kernel
theorem dX1_touched_125 : decode cX1_touched 125 = .ok (.iload_n 3, 1) := by decide +kernel
theorem dX1_touched_126 : decode cX1_touched 126 = .ok (.idiv, 1) := by decide +kernel
theorem dX1_touched_127 : decode cX1_touched 127 = .ok (.iload 7, 2) := by decide +kernel
theorem dX1_touched_129 : decode cX1_touched 129 = .ok (.if_icmp .ne 7, 3) := by decide +kernel
theorem dX1_touched_132 : decode cX1_touched 132 = .ok (.iconst 1, 1) := by decide +kernel
theorem dX1_touched_133 : decode cX1_touched 133 = .ok (.goto 4, 3) := by decide +kernel
theorem dX1_touched_136 : decode cX1_touched 136 = .ok (.iconst 0, 1) := by decide +kernel
theorem dX1_touched_137 : decode cX1_touched 137 = .ok (.istore 8, 2) := by decide +kernel
theorem dX1_touched_139 : decode cX1_touched 139 = .ok (.aload_n 0, 1) := by decide +kernel
theorem dX1_touched_140 : decode cX1_touched 140 = .ok (.iload 9, 2) := by decide +kernel
theorem dX1_touched_142 : decode cX1_touched 142 = .ok (.lload_n 1, 1) := by decide +kernel
theorem dX1_touched_143 : decode cX1_touched 143 = .ok (.invokevirtual 54, 3) := by decide +kernel
theorem dX1_touched_146 : decode cX1_touched 146 = .ok (.istore 9, 2) := by decide +kernel
theorem dX1_touched_148 : decode cX1_touched 148 = .ok (.goto (-43), 3) := by decide +kernel
theorem dX1_touched_151 : decode cX1_touched 151 = .ok (.iload 8, 2) := by decide +kernel
theorem dX1_touched_153 : decode cX1_touched 153 = .ok (.ifCond .eq 10, 3) := by decide +kernel
theorem dX1_touched_156 : decode cX1_touched 156 = .ok (.iload 6, 2) := by decide +kernel
theorem dX1_touched_158 : decode cX1_touched 158 = .ok (.iconst 1, 1) := by decide +kernel
theorem dX1_touched_159 : decode cX1_touched 159 = .ok (.iadd, 1) := by decide +kernel
theorem dX1_touched_160 : decode cX1_touched 160 = .ok (.goto 5, 3) := by decide +kernel
theorem dX1_touched_163 : decode cX1_touched 163 = .ok (.iload 6, 2) := by decide +kernel
theorem dX1_touched_165 : decode cX1_touched 165 = .ok (.istore 6, 2) := by decide +kernel
theorem dX1_touched_167 : decode cX1_touched 167 = .ok (.iinc 7 1, 3) := by decide +kernel
theorem dX1_touched_170 : decode cX1_touched 170 = .ok (.goto (-132), 3) := by decide +kernel
theorem dX1_touched_173 : decode cX1_touched 173 = .ok (.iload 6, 2) := by decide +kernel
theorem dX1_touched_175 : decode cX1_touched 175 = .ok (.ireturn, 1) := by decide +kernel
theorem dX1_most_0 : decode cX1_most 0 = .ok (.aload_n 0, 1) := by decide +kernel
theorem dX1_most_1 : decode cX1_most 1 = .ok (.invokevirtual 58, 3) := by decide +kernel
theorem dX1_most_4 : decode cX1_most 4 = .ok (.istore_n 2, 1) := by decide +kernel
theorem dX1_most_5 : decode cX1_most 5 = .ok (.bipush 8, 2) := by decide +kernel
theorem dX1_most_7 : decode cX1_most 7 = .ok (.iload_n 1, 1) := by decide +kernel
theorem dX1_most_8 : decode cX1_most 8 = .ok (.ishl, 1) := by decide +kernel
theorem dX1_most_9 : decode cX1_most 9 = .ok (.iconst 4, 1) := by decide +kernel
theorem dX1_most_10 : decode cX1_most 10 = .ok (.iload_n 2, 1) := by decide +kernel
theorem dX1_most_11 : decode cX1_most 11 = .ok (.imul, 1) := by decide +kernel
theorem dX1_most_12 : decode cX1_most 12 = .ok (.iload_n 1, 1) := by decide +kernel
theorem dX1_most_13 : decode cX1_most 13 = .ok (.isub, 1) := by decide +kernel
theorem dX1_most_14 : decode cX1_most 14 = .ok (.imul, 1) := by decide +kernel
theorem dX1_most_15 : decode cX1_most 15 = .ok (.iconst 4, 1) := by decide +kernel
theorem dX1_most_16 : decode cX1_most 16 = .ok (.iload_n 2, 1) := by decide +kernel
theorem dX1_most_17 : decode cX1_most 17 = .ok (.imul, 1) := by decide +kernel
theorem dX1_most_18 : decode cX1_most 18 = .ok (.idiv, 1) := by decide +kernel
theorem dX1_most_19 : decode cX1_most 19 = .ok (.ireturn, 1) := by decide +kernel
theorem dX1_fewest_0 : decode cX1_fewest 0 = .ok (.aload_n 0, 1) := by decide +kernel
theorem dX1_fewest_1 : decode cX1_fewest 1 = .ok (.invokevirtual 58, 3) := by decide +kernel
theorem dX1_fewest_4 : decode cX1_fewest 4 = .ok (.istore_n 2, 1) := by decide +kernel
theorem dX1_fewest_5 : decode cX1_fewest 5 = .ok (.bipush 8, 2) := by decide +kernel
theorem dX1_fewest_7 : decode cX1_fewest 7 = .ok (.iload_n 1, 1) := by decide +kernel
theorem dX1_fewest_8 : decode cX1_fewest 8 = .ok (.ishl, 1) := by decide +kernel
theorem dX1_fewest_9 : decode cX1_fewest 9 = .ok (.iload_n 2, 1) := by decide +kernel
theorem dX1_fewest_10 : decode cX1_fewest 10 = .ok (.iload_n 1, 1) := by decide +kernel
theorem dX1_fewest_11 : decode cX1_fewest 11 = .ok (.iadd, 1) := by decide +kernel
theorem dX1_fewest_12 : decode cX1_fewest 12 = .ok (.imul, 1) := by decide +kernel
theorem dX1_fewest_13 : decode cX1_fewest 13 = .ok (.bipush 8, 2) := by decide +kernel
theorem dX1_fewest_15 : decode cX1_fewest 15 = .ok (.iload_n 2, 1) := by decide +kernel
theorem dX1_fewest_16 : decode cX1_fewest 16 = .ok (.imul, 1) := by decide +kernel
theorem dX1_fewest_17 : decode cX1_fewest 17 = .ok (.iadd, 1) := by decide +kernel
theorem dX1_fewest_18 : decode cX1_fewest 18 = .ok (.iconst 1, 1) := by decide +kernel
theorem dX1_fewest_19 : decode cX1_fewest 19 = .ok (.isub, 1) := by decide +kernel
theorem dX1_fewest_20 : decode cX1_fewest 20 = .ok (.bipush 8, 2) := by decide +kernel
theorem dX1_fewest_22 : decode cX1_fewest 22 = .ok (.iload_n 2, 1) := by decide +kernel
theorem dX1_fewest_23 : decode cX1_fewest 23 = .ok (.imul, 1) := by decide +kernel
theorem dX1_fewest_24 : decode cX1_fewest 24 = .ok (.idiv, 1) := by decide +kernel
theorem dX1_fewest_25 : decode cX1_fewest 25 = .ok (.ireturn, 1) := by decide +kernel
theorem dX1_firstOf_0 : decode cX1_firstOf 0 = .ok (.iload_n 0, 1) := by decide +kernel
theorem dX1_firstOf_1 : decode cX1_firstOf 1 = .ok (.iload_n 1, 1) := by decide +kernel
theorem dX1_firstOf_2 : decode cX1_firstOf 2 = .ok (.ishr, 1) := by decide +kernel
theorem dX1_firstOf_3 : decode cX1_firstOf 3 = .ok (.iload_n 1, 1) := by decide +kernel
theorem dX1_firstOf_4 : decode cX1_firstOf 4 = .ok (.ishl, 1) := by decide +kernel
theorem dX1_firstOf_5 : decode cX1_firstOf 5 = .ok (.bipush 8, 2) := by decide +kernel
theorem dX1_firstOf_7 : decode cX1_firstOf 7 = .ok (.imul, 1) := by decide +kernel
theorem dX1_firstOf_8 : decode cX1_firstOf 8 = .ok (.ireturn, 1) := by decide +kernel
theorem dX1_held_0 : decode cX1_held 0 = .ok (.iconst 0, 1) := by decide +kernel
theorem dX1_held_1 : decode cX1_held 1 = .ok (.istore_n 3, 1) := by decide +kernel
theorem dX1_held_2 : decode cX1_held 2 = .ok (.iload_n 1, 1) := by decide +kernel
theorem dX1_held_3 : decode cX1_held 3 = .ok (.istore 4, 2) := by decide +kernel
theorem dX1_held_5 : decode cX1_held 5 = .ok (.iload 4, 2) := by decide +kernel
theorem dX1_held_7 : decode cX1_held 7 = .ok (.iload_n 1, 1) := by decide +kernel
theorem dX1_held_8 : decode cX1_held 8 = .ok (.iload_n 2, 1) := by decide +kernel
theorem dX1_held_9 : decode cX1_held 9 = .ok (.iadd, 1) := by decide +kernel
theorem dX1_held_10 : decode cX1_held 10 = .ok (.if_icmp .ge 27, 3) := by decide +kernel
theorem dX1_held_13 : decode cX1_held 13 = .ok (.iload_n 3, 1) := by decide +kernel
theorem dX1_held_14 : decode cX1_held 14 = .ok (.aload_n 0, 1) := by decide +kernel
theorem dX1_held_15 : decode cX1_held 15 = .ok (.getfield 7, 3) := by decide +kernel
theorem dX1_held_18 : decode cX1_held 18 = .ok (.iload 4, 2) := by decide +kernel
theorem dX1_held_20 : decode cX1_held 20 = .ok (.baload, 1) := by decide +kernel
theorem dX1_held_21 : decode cX1_held 21 = .ok (.ifCond .eq 7, 3) := by decide +kernel
theorem dX1_held_24 : decode cX1_held 24 = .ok (.iconst 1, 1) := by decide +kernel
theorem dX1_held_25 : decode cX1_held 25 = .ok (.goto 4, 3) := by decide +kernel
theorem dX1_held_28 : decode cX1_held 28 = .ok (.iconst 0, 1) := by decide +kernel
theorem dX1_held_29 : decode cX1_held 29 = .ok (.iadd, 1) := by decide +kernel
theorem dX1_held_30 : decode cX1_held 30 = .ok (.istore_n 3, 1) := by decide +kernel
theorem dX1_held_31 : decode cX1_held 31 = .ok (.iinc 4 1, 3) := by decide +kernel
theorem dX1_held_34 : decode cX1_held 34 = .ok (.goto (-29), 3) := by decide +kernel
theorem dX1_held_37 : decode cX1_held 37 = .ok (.iload_n 3, 1) := by decide +kernel
theorem dX1_held_38 : decode cX1_held 38 = .ok (.ireturn, 1) := by decide +kernel
theorem dX1_lift_0 : decode cX1_lift 0 = .ok (.iload_n 1, 1) := by decide +kernel
theorem dX1_lift_1 : decode cX1_lift 1 = .ok (.istore_n 3, 1) := by decide +kernel
theorem dX1_lift_2 : decode cX1_lift 2 = .ok (.iload_n 3, 1) := by decide +kernel
theorem dX1_lift_3 : decode cX1_lift 3 = .ok (.iload_n 1, 1) := by decide +kernel
theorem dX1_lift_4 : decode cX1_lift 4 = .ok (.iload_n 2, 1) := by decide +kernel
theorem dX1_lift_5 : decode cX1_lift 5 = .ok (.iadd, 1) := by decide +kernel
theorem dX1_lift_6 : decode cX1_lift 6 = .ok (.if_icmp .ge 65, 3) := by decide +kernel
theorem dX1_lift_9 : decode cX1_lift 9 = .ok (.aload_n 0, 1) := by decide +kernel
theorem dX1_lift_10 : decode cX1_lift 10 = .ok (.getfield 7, 3) := by decide +kernel
theorem dX1_lift_13 : decode cX1_lift 13 = .ok (.iload_n 3, 1) := by decide +kernel
theorem dX1_lift_14 : decode cX1_lift 14 = .ok (.baload, 1) := by decide +kernel
theorem dX1_lift_15 : decode cX1_lift 15 = .ok (.ifCond .eq 50, 3) := by decide +kernel
theorem dX1_lift_18 : decode cX1_lift 18 = .ok (.aload_n 0, 1) := by decide +kernel
theorem dX1_lift_19 : decode cX1_lift 19 = .ok (.getfield 24, 3) := by decide +kernel
theorem dX1_lift_22 : decode cX1_lift 22 = .ok (.aload_n 0, 1) := by decide +kernel
theorem dX1_lift_23 : decode cX1_lift 23 = .ok (.getfield 72, 3) := by decide +kernel
theorem dX1_lift_26 : decode cX1_lift 26 = .ok (.aload_n 0, 1) := by decide +kernel
theorem dX1_lift_27 : decode cX1_lift 27 = .ok (.getfield 13, 3) := by decide +kernel
theorem dX1_lift_30 : decode cX1_lift 30 = .ok (.iload_n 3, 1) := by decide +kernel
theorem dX1_lift_31 : decode cX1_lift 31 = .ok (.laload, 1) := by decide +kernel
theorem dX1_lift_32 : decode cX1_lift 32 = .ok (.lastore, 1) := by decide +kernel
theorem dX1_lift_33 : decode cX1_lift 33 = .ok (.aload_n 0, 1) := by decide +kernel
theorem dX1_lift_34 : decode cX1_lift 34 = .ok (.getfield 27, 3) := by decide +kernel
theorem dX1_lift_37 : decode cX1_lift 37 = .ok (.aload_n 0, 1) := by decide +kernel
theorem dX1_lift_38 : decode cX1_lift 38 = .ok (.getfield 72, 3) := by decide +kernel
theorem dX1_lift_41 : decode cX1_lift 41 = .ok (.aload_n 0, 1) := by decide +kernel
theorem dX1_lift_42 : decode cX1_lift 42 = .ok (.getfield 17, 3) := by decide +kernel
theorem dX1_lift_45 : decode cX1_lift 45 = .ok (.iload_n 3, 1) := by decide +kernel
theorem dX1_lift_46 : decode cX1_lift 46 = .ok (.laload, 1) := by decide +kernel
theorem dX1_lift_47 : decode cX1_lift 47 = .ok (.lastore, 1) := by decide +kernel
theorem dX1_lift_48 : decode cX1_lift 48 = .ok (.aload_n 0, 1) := by decide +kernel
theorem dX1_lift_49 : decode cX1_lift 49 = .ok (.dup, 1) := by decide +kernel
theorem dX1_lift_50 : decode cX1_lift 50 = .ok (.getfield 72, 3) := by decide +kernel
theorem dX1_lift_53 : decode cX1_lift 53 = .ok (.iconst 1, 1) := by decide +kernel
theorem dX1_lift_54 : decode cX1_lift 54 = .ok (.iadd, 1) := by decide +kernel
theorem dX1_lift_55 : decode cX1_lift 55 = .ok (.putfield 72, 3) := by decide +kernel
theorem dX1_lift_58 : decode cX1_lift 58 = .ok (.aload_n 0, 1) := by decide +kernel
theorem dX1_lift_59 : decode cX1_lift 59 = .ok (.getfield 7, 3) := by decide +kernel
theorem dX1_lift_62 : decode cX1_lift 62 = .ok (.iload_n 3, 1) := by decide +kernel
theorem dX1_lift_63 : decode cX1_lift 63 = .ok (.iconst 0, 1) := by decide +kernel
theorem dX1_lift_64 : decode cX1_lift 64 = .ok (.bastore, 1) := by decide +kernel
theorem dX1_lift_65 : decode cX1_lift 65 = .ok (.iinc 3 1, 3) := by decide +kernel
theorem dX1_lift_68 : decode cX1_lift 68 = .ok (.goto (-66), 3) := by decide +kernel
theorem dX1_lift_71 : decode cX1_lift 71 = .ok (.return_, 1) := by decide +kernel
theorem dX1_join_0 : decode cX1_join 0 = .ok (.aload_n 0, 1) := by decide +kernel
theorem dX1_join_1 : decode cX1_join 1 = .ok (.getfield 72, 3) := by decide +kernel
theorem dX1_join_4 : decode cX1_join 4 = .ok (.istore 5, 2) := by decide +kernel
theorem dX1_join_6 : decode cX1_join 6 = .ok (.iload 5, 2) := by decide +kernel
theorem dX1_join_8 : decode cX1_join 8 = .ok (.ifCond .le 55, 3) := by decide +kernel
theorem dX1_join_11 : decode cX1_join 11 = .ok (.aload_n 0, 1) := by decide +kernel
theorem dX1_join_12 : decode cX1_join 12 = .ok (.getfield 24, 3) := by decide +kernel
theorem dX1_join_15 : decode cX1_join 15 = .ok (.iload 5, 2) := by decide +kernel
theorem dX1_join_17 : decode cX1_join 17 = .ok (.iconst 1, 1) := by decide +kernel
theorem dX1_join_18 : decode cX1_join 18 = .ok (.isub, 1) := by decide +kernel
theorem dX1_join_19 : decode cX1_join 19 = .ok (.laload, 1) := by decide +kernel
theorem dX1_join_20 : decode cX1_join 20 = .ok (.lload_n 1, 1) := by decide +kernel
theorem dX1_join_21 : decode cX1_join 21 = .ok (.lcmp, 1) := by decide +kernel
theorem dX1_join_22 : decode cX1_join 22 = .ok (.ifCond .le 41, 3) := by decide +kernel
theorem dX1_join_25 : decode cX1_join 25 = .ok (.aload_n 0, 1) := by decide +kernel
theorem dX1_join_26 : decode cX1_join 26 = .ok (.getfield 24, 3) := by decide +kernel
theorem dX1_join_29 : decode cX1_join 29 = .ok (.iload 5, 2) := by decide +kernel
theorem dX1_join_31 : decode cX1_join 31 = .ok (.aload_n 0, 1) := by decide +kernel
theorem dX1_join_32 : decode cX1_join 32 = .ok (.getfield 24, 3) := by decide +kernel
theorem dX1_join_35 : decode cX1_join 35 = .ok (.iload 5, 2) := by decide +kernel
theorem dX1_join_37 : decode cX1_join 37 = .ok (.iconst 1, 1) := by decide +kernel
theorem dX1_join_38 : decode cX1_join 38 = .ok (.isub, 1) := by decide +kernel
theorem dX1_join_39 : decode cX1_join 39 = .ok (.laload, 1) := by decide +kernel
theorem dX1_join_40 : decode cX1_join 40 = .ok (.lastore, 1) := by decide +kernel
theorem dX1_join_41 : decode cX1_join 41 = .ok (.aload_n 0, 1) := by decide +kernel
theorem dX1_join_42 : decode cX1_join 42 = .ok (.getfield 27, 3) := by decide +kernel
theorem dX1_join_45 : decode cX1_join 45 = .ok (.iload 5, 2) := by decide +kernel
theorem dX1_join_47 : decode cX1_join 47 = .ok (.aload_n 0, 1) := by decide +kernel
theorem dX1_join_48 : decode cX1_join 48 = .ok (.getfield 27, 3) := by decide +kernel
theorem dX1_join_51 : decode cX1_join 51 = .ok (.iload 5, 2) := by decide +kernel
theorem dX1_join_53 : decode cX1_join 53 = .ok (.iconst 1, 1) := by decide +kernel
theorem dX1_join_54 : decode cX1_join 54 = .ok (.isub, 1) := by decide +kernel
theorem dX1_join_55 : decode cX1_join 55 = .ok (.laload, 1) := by decide +kernel
theorem dX1_join_56 : decode cX1_join 56 = .ok (.lastore, 1) := by decide +kernel
theorem dX1_join_57 : decode cX1_join 57 = .ok (.iinc 5 (-1), 3) := by decide +kernel
theorem dX1_join_60 : decode cX1_join 60 = .ok (.goto (-54), 3) := by decide +kernel
theorem dX1_join_63 : decode cX1_join 63 = .ok (.aload_n 0, 1) := by decide +kernel
theorem dX1_join_64 : decode cX1_join 64 = .ok (.getfield 24, 3) := by decide +kernel
theorem dX1_join_67 : decode cX1_join 67 = .ok (.iload 5, 2) := by decide +kernel
theorem dX1_join_69 : decode cX1_join 69 = .ok (.lload_n 1, 1) := by decide +kernel
theorem dX1_join_70 : decode cX1_join 70 = .ok (.lastore, 1) := by decide +kernel
theorem dX1_join_71 : decode cX1_join 71 = .ok (.aload_n 0, 1) := by decide +kernel
theorem dX1_join_72 : decode cX1_join 72 = .ok (.getfield 27, 3) := by decide +kernel
theorem dX1_join_75 : decode cX1_join 75 = .ok (.iload 5, 2) := by decide +kernel
theorem dX1_join_77 : decode cX1_join 77 = .ok (.lload_n 3, 1) := by decide +kernel
theorem dX1_join_78 : decode cX1_join 78 = .ok (.lastore, 1) := by decide +kernel
theorem dX1_join_79 : decode cX1_join 79 = .ok (.aload_n 0, 1) := by decide +kernel
theorem dX1_join_80 : decode cX1_join 80 = .ok (.dup, 1) := by decide +kernel
theorem dX1_join_81 : decode cX1_join 81 = .ok (.getfield 72, 3) := by decide +kernel
theorem dX1_join_84 : decode cX1_join 84 = .ok (.iconst 1, 1) := by decide +kernel
theorem dX1_join_85 : decode cX1_join 85 = .ok (.iadd, 1) := by decide +kernel
theorem dX1_join_86 : decode cX1_join 86 = .ok (.putfield 72, 3) := by decide +kernel
theorem dX1_join_89 : decode cX1_join 89 = .ok (.return_, 1) := by decide +kernel
theorem dX1_spread_0 : decode cX1_spread 0 = .ok (.bipush 8, 2) := by decide +kernel
theorem dX1_spread_2 : decode cX1_spread 2 = .ok (.iload_n 2, 1) := by decide +kernel
theorem dX1_spread_3 : decode cX1_spread 3 = .ok (.ishl, 1) := by decide +kernel
theorem dX1_spread_4 : decode cX1_spread 4 = .ok (.istore_n 3, 1) := by decide +kernel
theorem dX1_spread_5 : decode cX1_spread 5 = .ok (.iconst 0, 1) := by decide +kernel
theorem dX1_spread_6 : decode cX1_spread 6 = .ok (.istore 4, 2) := by decide +kernel
theorem dX1_spread_8 : decode cX1_spread 8 = .ok (.iload 4, 2) := by decide +kernel
theorem dX1_spread_10 : decode cX1_spread 10 = .ok (.aload_n 0, 1) := by decide +kernel
theorem dX1_spread_11 : decode cX1_spread 11 = .ok (.getfield 72, 3) := by decide +kernel
theorem dX1_spread_14 : decode cX1_spread 14 = .ok (.if_icmp .ge 58, 3) := by decide +kernel
theorem dX1_spread_17 : decode cX1_spread 17 = .ok (.iload_n 1, 1) := by decide +kernel
theorem dX1_spread_18 : decode cX1_spread 18 = .ok (.iload 4, 2) := by decide +kernel
theorem dX1_spread_20 : decode cX1_spread 20 = .ok (.iload_n 3, 1) := by decide +kernel
theorem dX1_spread_21 : decode cX1_spread 21 = .ok (.imul, 1) := by decide +kernel
theorem dX1_spread_22 : decode cX1_spread 22 = .ok (.aload_n 0, 1) := by decide +kernel
theorem dX1_spread_23 : decode cX1_spread 23 = .ok (.getfield 72, 3) := by decide +kernel
theorem dX1_spread_26 : decode cX1_spread 26 = .ok (.idiv, 1) := by decide +kernel
theorem dX1_spread_27 : decode cX1_spread 27 = .ok (.iadd, 1) := by decide +kernel
theorem dX1_spread_28 : decode cX1_spread 28 = .ok (.istore 5, 2) := by decide +kernel
theorem dX1_spread_30 : decode cX1_spread 30 = .ok (.aload_n 0, 1) := by decide +kernel
theorem dX1_spread_31 : decode cX1_spread 31 = .ok (.getfield 7, 3) := by decide +kernel
theorem dX1_spread_34 : decode cX1_spread 34 = .ok (.iload 5, 2) := by decide +kernel
theorem dX1_spread_36 : decode cX1_spread 36 = .ok (.iconst 1, 1) := by decide +kernel
theorem dX1_spread_37 : decode cX1_spread 37 = .ok (.bastore, 1) := by decide +kernel
theorem dX1_spread_38 : decode cX1_spread 38 = .ok (.aload_n 0, 1) := by decide +kernel
theorem dX1_spread_39 : decode cX1_spread 39 = .ok (.getfield 13, 3) := by decide +kernel
theorem dX1_spread_42 : decode cX1_spread 42 = .ok (.iload 5, 2) := by decide +kernel
theorem dX1_spread_44 : decode cX1_spread 44 = .ok (.aload_n 0, 1) := by decide +kernel
theorem dX1_spread_45 : decode cX1_spread 45 = .ok (.getfield 24, 3) := by decide +kernel
theorem dX1_spread_48 : decode cX1_spread 48 = .ok (.iload 4, 2) := by decide +kernel
theorem dX1_spread_50 : decode cX1_spread 50 = .ok (.laload, 1) := by decide +kernel
theorem dX1_spread_51 : decode cX1_spread 51 = .ok (.lastore, 1) := by decide +kernel
theorem dX1_spread_52 : decode cX1_spread 52 = .ok (.aload_n 0, 1) := by decide +kernel
theorem dX1_spread_53 : decode cX1_spread 53 = .ok (.getfield 17, 3) := by decide +kernel
theorem dX1_spread_56 : decode cX1_spread 56 = .ok (.iload 5, 2) := by decide +kernel
theorem dX1_spread_58 : decode cX1_spread 58 = .ok (.aload_n 0, 1) := by decide +kernel
theorem dX1_spread_59 : decode cX1_spread 59 = .ok (.getfield 27, 3) := by decide +kernel
theorem dX1_spread_62 : decode cX1_spread 62 = .ok (.iload 4, 2) := by decide +kernel
theorem dX1_spread_64 : decode cX1_spread 64 = .ok (.laload, 1) := by decide +kernel
theorem dX1_spread_65 : decode cX1_spread 65 = .ok (.lastore, 1) := by decide +kernel
theorem dX1_spread_66 : decode cX1_spread 66 = .ok (.iinc 4 1, 3) := by decide +kernel
theorem dX1_spread_69 : decode cX1_spread 69 = .ok (.goto (-61), 3) := by decide +kernel
theorem dX1_spread_72 : decode cX1_spread 72 = .ok (.aload_n 0, 1) := by decide +kernel
theorem dX1_spread_73 : decode cX1_spread 73 = .ok (.dup, 1) := by decide +kernel
theorem dX1_spread_74 : decode cX1_spread 74 = .ok (.getfield 75, 3) := by decide +kernel
theorem dX1_spread_77 : decode cX1_spread 77 = .ok (.aload_n 0, 1) := by decide +kernel
theorem dX1_spread_78 : decode cX1_spread 78 = .ok (.getfield 72, 3) := by decide +kernel
theorem dX1_spread_81 : decode cX1_spread 81 = .ok (.i2l, 1) := by decide +kernel
theorem dX1_spread_82 : decode cX1_spread 82 = .ok (.ladd, 1) := by decide +kernel
theorem dX1_spread_83 : decode cX1_spread 83 = .ok (.putfield 75, 3) := by decide +kernel
theorem dX1_spread_86 : decode cX1_spread 86 = .ok (.aload_n 0, 1) := by decide +kernel
theorem dX1_spread_87 : decode cX1_spread 87 = .ok (.iload_n 2, 1) := by decide +kernel
theorem dX1_spread_88 : decode cX1_spread 88 = .ok (.putfield 20, 3) := by decide +kernel
theorem dX1_spread_91 : decode cX1_spread 91 = .ok (.aload_n 0, 1) := by decide +kernel
theorem dX1_spread_92 : decode cX1_spread 92 = .ok (.iconst 0, 1) := by decide +kernel
theorem dX1_spread_93 : decode cX1_spread 93 = .ok (.putfield 72, 3) := by decide +kernel
theorem dX1_spread_96 : decode cX1_spread 96 = .ok (.return_, 1) := by decide +kernel
theorem dX1_cellOf_0 : decode cX1_cellOf 0 = .ok (.iconst (-1), 1) := by decide +kernel
theorem dX1_cellOf_1 : decode cX1_cellOf 1 = .ok (.istore_n 3, 1) := by decide +kernel
theorem dX1_cellOf_2 : decode cX1_cellOf 2 = .ok (.iconst 0, 1) := by decide +kernel
theorem dX1_cellOf_3 : decode cX1_cellOf 3 = .ok (.istore 4, 2) := by decide +kernel
theorem dX1_cellOf_5 : decode cX1_cellOf 5 = .ok (.iload 4, 2) := by decide +kernel
theorem dX1_cellOf_7 : decode cX1_cellOf 7 = .ok (.aload_n 0, 1) := by decide +kernel
theorem dX1_cellOf_8 : decode cX1_cellOf 8 = .ok (.getfield 33, 3) := by decide +kernel
theorem dX1_cellOf_11 : decode cX1_cellOf 11 = .ok (.if_icmp .ge 38, 3) := by decide +kernel
theorem dX1_cellOf_14 : decode cX1_cellOf 14 = .ok (.aload_n 0, 1) := by decide +kernel
theorem dX1_cellOf_15 : decode cX1_cellOf 15 = .ok (.getfield 7, 3) := by decide +kernel
theorem dX1_cellOf_18 : decode cX1_cellOf 18 = .ok (.iload 4, 2) := by decide +kernel
theorem dX1_cellOf_20 : decode cX1_cellOf 20 = .ok (.baload, 1) := by decide +kernel
theorem dX1_cellOf_21 : decode cX1_cellOf 21 = .ok (.ifCond .eq 20, 3) := by decide +kernel
theorem dX1_cellOf_24 : decode cX1_cellOf 24 = .ok (.aload_n 0, 1) := by decide +kernel
theorem dX1_cellOf_25 : decode cX1_cellOf 25 = .ok (.getfield 13, 3) := by decide +kernel
theorem dX1_cellOf_28 : decode cX1_cellOf 28 = .ok (.iload 4, 2) := by decide +kernel
theorem dX1_cellOf_30 : decode cX1_cellOf 30 = .ok (.laload, 1) := by decide +kernel
theorem dX1_cellOf_31 : decode cX1_cellOf 31 = .ok (.lload_n 1, 1) := by decide +kernel
theorem dX1_cellOf_32 : decode cX1_cellOf 32 = .ok (.lcmp, 1) := by decide +kernel
theorem dX1_cellOf_33 : decode cX1_cellOf 33 = .ok (.ifCond .ne 8, 3) := by decide +kernel
theorem dX1_cellOf_36 : decode cX1_cellOf 36 = .ok (.iload 4, 2) := by decide +kernel
theorem dX1_cellOf_38 : decode cX1_cellOf 38 = .ok (.goto 4, 3) := by decide +kernel
theorem dX1_cellOf_41 : decode cX1_cellOf 41 = .ok (.iload_n 3, 1) := by decide +kernel
theorem dX1_cellOf_42 : decode cX1_cellOf 42 = .ok (.istore_n 3, 1) := by decide +kernel
theorem dX1_cellOf_43 : decode cX1_cellOf 43 = .ok (.iinc 4 1, 3) := by decide +kernel
theorem dX1_cellOf_46 : decode cX1_cellOf 46 = .ok (.goto (-41), 3) := by decide +kernel
theorem dX1_cellOf_49 : decode cX1_cellOf 49 = .ok (.iload_n 3, 1) := by decide +kernel
theorem dX1_cellOf_50 : decode cX1_cellOf 50 = .ok (.ireturn, 1) := by decide +kernel
theorem dX1_put_0 : decode cX1_put 0 = .ok (.lload_n 1, 1) := by decide +kernel
theorem dX1_put_1 : decode cX1_put 1 = .ok (.ldc2_w 40, 3) := by decide +kernel
theorem dX1_put_4 : decode cX1_put 4 = .ok (.lcmp, 1) := by decide +kernel
theorem dX1_put_5 : decode cX1_put 5 = .ok (.ifCond .ne 5, 3) := by decide +kernel
theorem dX1_put_8 : decode cX1_put 8 = .ok (.iconst (-1), 1) := by decide +kernel
theorem dX1_put_9 : decode cX1_put 9 = .ok (.ireturn, 1) := by decide +kernel
theorem dX1_put_10 : decode cX1_put 10 = .ok (.aload_n 0, 1) := by decide +kernel
theorem dX1_put_11 : decode cX1_put 11 = .ok (.lload_n 1, 1) := by decide +kernel
theorem dX1_put_12 : decode cX1_put 12 = .ok (.invokevirtual 79, 3) := by decide +kernel
theorem dX1_put_15 : decode cX1_put 15 = .ok (.istore 5, 2) := by decide +kernel
theorem dX1_put_17 : decode cX1_put 17 = .ok (.iload 5, 2) := by decide +kernel
theorem dX1_put_19 : decode cX1_put 19 = .ok (.ifCond .lt 13, 3) := by decide +kernel
theorem dX1_put_22 : decode cX1_put 22 = .ok (.aload_n 0, 1) := by decide +kernel
theorem dX1_put_23 : decode cX1_put 23 = .ok (.getfield 17, 3) := by decide +kernel
theorem dX1_put_26 : decode cX1_put 26 = .ok (.iload 5, 2) := by decide +kernel
theorem dX1_put_28 : decode cX1_put 28 = .ok (.lload_n 3, 1) := by decide +kernel
theorem dX1_put_29 : decode cX1_put 29 = .ok (.lastore, 1) := by decide +kernel
theorem dX1_put_30 : decode cX1_put 30 = .ok (.iconst 0, 1) := by decide +kernel
theorem dX1_put_31 : decode cX1_put 31 = .ok (.ireturn, 1) := by decide +kernel
theorem dX1_put_32 : decode cX1_put 32 = .ok (.aload_n 0, 1) := by decide +kernel
theorem dX1_put_33 : decode cX1_put 33 = .ok (.lload_n 1, 1) := by decide +kernel
theorem dX1_put_34 : decode cX1_put 34 = .ok (.invokevirtual 68, 3) := by decide +kernel
theorem dX1_put_37 : decode cX1_put 37 = .ok (.istore 6, 2) := by decide +kernel
theorem dX1_put_39 : decode cX1_put 39 = .ok (.aload_n 0, 1) := by decide +kernel
theorem dX1_put_40 : decode cX1_put 40 = .ok (.invokevirtual 58, 3) := by decide +kernel
theorem dX1_put_43 : decode cX1_put 43 = .ok (.istore 7, 2) := by decide +kernel
theorem dX1_put_45 : decode cX1_put 45 = .ok (.iconst 0, 1) := by decide +kernel
theorem dX1_put_46 : decode cX1_put 46 = .ok (.istore 8, 2) := by decide +kernel
theorem dX1_put_48 : decode cX1_put 48 = .ok (.iload 8, 2) := by decide +kernel
theorem dX1_put_50 : decode cX1_put 50 = .ok (.iload 7, 2) := by decide +kernel
theorem dX1_put_52 : decode cX1_put 52 = .ok (.if_icmp .gt 67, 3) := by decide +kernel
theorem dX1_put_55 : decode cX1_put 55 = .ok (.iload 6, 2) := by decide +kernel
theorem dX1_put_57 : decode cX1_put 57 = .ok (.iload 8, 2) := by decide +kernel
theorem dX1_put_59 : decode cX1_put 59 = .ok (.invokestatic 82, 3) := by decide +kernel
theorem dX1_put_62 : decode cX1_put 62 = .ok (.istore 9, 2) := by decide +kernel
theorem dX1_put_64 : decode cX1_put 64 = .ok (.aload_n 0, 1) := by decide +kernel
theorem dX1_put_65 : decode cX1_put 65 = .ok (.iload 9, 2) := by decide +kernel
theorem dX1_put_67 : decode cX1_put 67 = .ok (.bipush 8, 2) := by decide +kernel
theorem dX1_put_69 : decode cX1_put 69 = .ok (.iload 8, 2) := by decide +kernel
theorem dX1_put_71 : decode cX1_put 71 = .ok (.ishl, 1) := by decide +kernel
theorem dX1_put_72 : decode cX1_put 72 = .ok (.invokevirtual 86, 3) := by decide +kernel
theorem dX1_put_75 : decode cX1_put 75 = .ok (.iconst 1, 1) := by decide +kernel
theorem dX1_put_76 : decode cX1_put 76 = .ok (.iadd, 1) := by decide +kernel
theorem dX1_put_77 : decode cX1_put 77 = .ok (.aload_n 0, 1) := by decide +kernel
theorem dX1_put_78 : decode cX1_put 78 = .ok (.iload 8, 2) := by decide +kernel
theorem dX1_put_80 : decode cX1_put 80 = .ok (.invokevirtual 89, 3) := by decide +kernel
theorem dX1_put_83 : decode cX1_put 83 = .ok (.if_icmp .gt 30, 3) := by decide +kernel
theorem dX1_put_86 : decode cX1_put 86 = .ok (.aload_n 0, 1) := by decide +kernel
theorem dX1_put_87 : decode cX1_put 87 = .ok (.iload 9, 2) := by decide +kernel
theorem dX1_put_89 : decode cX1_put 89 = .ok (.bipush 8, 2) := by decide +kernel
theorem dX1_put_91 : decode cX1_put 91 = .ok (.iload 8, 2) := by decide +kernel
theorem dX1_put_93 : decode cX1_put 93 = .ok (.ishl, 1) := by decide +kernel
theorem dX1_put_94 : decode cX1_put 94 = .ok (.invokevirtual 92, 3) := by decide +kernel
theorem dX1_put_97 : decode cX1_put 97 = .ok (.aload_n 0, 1) := by decide +kernel
theorem dX1_put_98 : decode cX1_put 98 = .ok (.lload_n 1, 1) := by decide +kernel
theorem dX1_put_99 : decode cX1_put 99 = .ok (.lload_n 3, 1) := by decide +kernel
theorem dX1_put_100 : decode cX1_put 100 = .ok (.invokevirtual 96, 3) := by decide +kernel
theorem dX1_put_103 : decode cX1_put 103 = .ok (.aload_n 0, 1) := by decide +kernel
theorem dX1_put_104 : decode cX1_put 104 = .ok (.iload 9, 2) := by decide +kernel
theorem dX1_put_106 : decode cX1_put 106 = .ok (.iload 8, 2) := by decide +kernel
theorem dX1_put_108 : decode cX1_put 108 = .ok (.invokevirtual 100, 3) := by decide +kernel
theorem dX1_put_111 : decode cX1_put 111 = .ok (.iconst 1, 1) := by decide +kernel
theorem dX1_put_112 : decode cX1_put 112 = .ok (.ireturn, 1) := by decide +kernel
theorem dX1_put_113 : decode cX1_put 113 = .ok (.iinc 8 1, 3) := by decide +kernel
theorem dX1_put_116 : decode cX1_put 116 = .ok (.goto (-68), 3) := by decide +kernel
theorem dX1_put_119 : decode cX1_put 119 = .ok (.aload_n 0, 1) := by decide +kernel
theorem dX1_put_120 : decode cX1_put 120 = .ok (.getfield 33, 3) := by decide +kernel
theorem dX1_put_123 : decode cX1_put 123 = .ok (.sipush 512, 3) := by decide +kernel
theorem dX1_put_126 : decode cX1_put 126 = .ok (.if_icmp .ne 5, 3) := by decide +kernel
theorem dX1_put_129 : decode cX1_put 129 = .ok (.iconst (-1), 1) := by decide +kernel
theorem dX1_put_130 : decode cX1_put 130 = .ok (.ireturn, 1) := by decide +kernel
theorem dX1_put_131 : decode cX1_put 131 = .ok (.aload_n 0, 1) := by decide +kernel
theorem dX1_put_132 : decode cX1_put 132 = .ok (.iconst 0, 1) := by decide +kernel
theorem dX1_put_133 : decode cX1_put 133 = .ok (.aload_n 0, 1) := by decide +kernel
theorem dX1_put_134 : decode cX1_put 134 = .ok (.getfield 33, 3) := by decide +kernel
theorem dX1_put_137 : decode cX1_put 137 = .ok (.invokevirtual 92, 3) := by decide +kernel
theorem dX1_put_140 : decode cX1_put 140 = .ok (.aload_n 0, 1) := by decide +kernel
theorem dX1_put_141 : decode cX1_put 141 = .ok (.lload_n 1, 1) := by decide +kernel
theorem dX1_put_142 : decode cX1_put 142 = .ok (.lload_n 3, 1) := by decide +kernel
theorem dX1_put_143 : decode cX1_put 143 = .ok (.invokevirtual 96, 3) := by decide +kernel
theorem dX1_put_146 : decode cX1_put 146 = .ok (.aload_n 0, 1) := by decide +kernel
theorem dX1_put_147 : decode cX1_put 147 = .ok (.iconst 2, 1) := by decide +kernel
theorem dX1_put_148 : decode cX1_put 148 = .ok (.aload_n 0, 1) := by decide +kernel
theorem dX1_put_149 : decode cX1_put 149 = .ok (.getfield 33, 3) := by decide +kernel
theorem dX1_put_152 : decode cX1_put 152 = .ok (.imul, 1) := by decide +kernel
theorem dX1_put_153 : decode cX1_put 153 = .ok (.putfield 33, 3) := by decide +kernel
theorem dX1_put_156 : decode cX1_put 156 = .ok (.aload_n 0, 1) := by decide +kernel
theorem dX1_put_157 : decode cX1_put 157 = .ok (.iconst 0, 1) := by decide +kernel
theorem dX1_put_158 : decode cX1_put 158 = .ok (.iload 7, 2) := by decide +kernel
theorem dX1_put_160 : decode cX1_put 160 = .ok (.iconst 1, 1) := by decide +kernel
theorem dX1_put_161 : decode cX1_put 161 = .ok (.iadd, 1) := by decide +kernel
theorem dX1_put_162 : decode cX1_put 162 = .ok (.invokevirtual 100, 3) := by decide +kernel
theorem dX1_put_165 : decode cX1_put 165 = .ok (.iconst 1, 1) := by decide +kernel
theorem dX1_put_166 : decode cX1_put 166 = .ok (.ireturn, 1) := by decide +kernel
theorem dX1_fill_0 : decode cX1_fill 0 = .ok (.iload 5, 2) := by decide +kernel
theorem dX1_fill_2 : decode cX1_fill 2 = .ok (.ifCond .lt 10, 3) := by decide +kernel
theorem dX1_fill_5 : decode cX1_fill 5 = .ok (.iload 5, 2) := by decide +kernel
theorem dX1_fill_7 : decode cX1_fill 7 = .ok (.bipush 64, 2) := by decide +kernel
theorem dX1_fill_9 : decode cX1_fill 9 = .ok (.if_icmp .le 5, 3) := by decide +kernel
theorem dX1_fill_12 : decode cX1_fill 12 = .ok (.iconst (-1), 1) := by decide +kernel
theorem dX1_fill_13 : decode cX1_fill 13 = .ok (.ireturn, 1) := by decide +kernel
theorem dX1_fill_14 : decode cX1_fill 14 = .ok (.iconst 0, 1) := by decide +kernel
theorem dX1_fill_15 : decode cX1_fill 15 = .ok (.istore 6, 2) := by decide +kernel
theorem dX1_fill_17 : decode cX1_fill 17 = .ok (.lload_n 1, 1) := by decide +kernel
theorem dX1_fill_18 : decode cX1_fill 18 = .ok (.lstore 7, 2) := by decide +kernel
theorem dX1_fill_20 : decode cX1_fill 20 = .ok (.iconst 0, 1) := by decide +kernel
theorem dX1_fill_21 : decode cX1_fill 21 = .ok (.istore 9, 2) := by decide +kernel
theorem dX1_fill_23 : decode cX1_fill 23 = .ok (.iload 9, 2) := by decide +kernel
theorem dX1_fill_25 : decode cX1_fill 25 = .ok (.iload 5, 2) := by decide +kernel
theorem dX1_fill_27 : decode cX1_fill 27 = .ok (.if_icmp .ge 41, 3) := by decide +kernel
theorem dX1_fill_30 : decode cX1_fill 30 = .ok (.aload_n 0, 1) := by decide +kernel
theorem dX1_fill_31 : decode cX1_fill 31 = .ok (.lload 7, 2) := by decide +kernel
theorem dX1_fill_33 : decode cX1_fill 33 = .ok (.iload 9, 2) := by decide +kernel
theorem dX1_fill_35 : decode cX1_fill 35 = .ok (.i2l, 1) := by decide +kernel
theorem dX1_fill_36 : decode cX1_fill 36 = .ok (.invokevirtual 103, 3) := by decide +kernel
theorem dX1_fill_39 : decode cX1_fill 39 = .ok (.istore 10, 2) := by decide +kernel
theorem dX1_fill_41 : decode cX1_fill 41 = .ok (.iload 10, 2) := by decide +kernel
theorem dX1_fill_43 : decode cX1_fill 43 = .ok (.ifCond .ge 6, 3) := by decide +kernel
theorem dX1_fill_46 : decode cX1_fill 46 = .ok (.iload 6, 2) := by decide +kernel
theorem dX1_fill_48 : decode cX1_fill 48 = .ok (.ireturn, 1) := by decide +kernel
theorem dX1_fill_49 : decode cX1_fill 49 = .ok (.iload 6, 2) := by decide +kernel
theorem dX1_fill_51 : decode cX1_fill 51 = .ok (.iload 10, 2) := by decide +kernel
theorem dX1_fill_53 : decode cX1_fill 53 = .ok (.iadd, 1) := by decide +kernel
theorem dX1_fill_54 : decode cX1_fill 54 = .ok (.istore 6, 2) := by decide +kernel
theorem dX1_fill_56 : decode cX1_fill 56 = .ok (.lload 7, 2) := by decide +kernel
theorem dX1_fill_58 : decode cX1_fill 58 = .ok (.lload_n 3, 1) := by decide +kernel
theorem dX1_fill_59 : decode cX1_fill 59 = .ok (.ladd, 1) := by decide +kernel
theorem dX1_fill_60 : decode cX1_fill 60 = .ok (.lstore 7, 2) := by decide +kernel
theorem dX1_fill_62 : decode cX1_fill 62 = .ok (.iinc 9 1, 3) := by decide +kernel
theorem dX1_fill_65 : decode cX1_fill 65 = .ok (.goto (-42), 3) := by decide +kernel
theorem dX1_fill_68 : decode cX1_fill 68 = .ok (.iload 6, 2) := by decide +kernel
theorem dX1_fill_70 : decode cX1_fill 70 = .ok (.ireturn, 1) := by decide +kernel
theorem dX1_remove_0 : decode cX1_remove 0 = .ok (.aload_n 0, 1) := by decide +kernel
theorem dX1_remove_1 : decode cX1_remove 1 = .ok (.lload_n 1, 1) := by decide +kernel
theorem dX1_remove_2 : decode cX1_remove 2 = .ok (.invokevirtual 79, 3) := by decide +kernel
theorem dX1_remove_5 : decode cX1_remove 5 = .ok (.istore_n 3, 1) := by decide +kernel
theorem dX1_remove_6 : decode cX1_remove 6 = .ok (.iload_n 3, 1) := by decide +kernel
theorem dX1_remove_7 : decode cX1_remove 7 = .ok (.ifCond .ge 5, 3) := by decide +kernel
theorem dX1_remove_10 : decode cX1_remove 10 = .ok (.iconst 0, 1) := by decide +kernel
theorem dX1_remove_11 : decode cX1_remove 11 = .ok (.ireturn, 1) := by decide +kernel
theorem dX1_remove_12 : decode cX1_remove 12 = .ok (.aload_n 0, 1) := by decide +kernel
theorem dX1_remove_13 : decode cX1_remove 13 = .ok (.getfield 7, 3) := by decide +kernel
theorem dX1_remove_16 : decode cX1_remove 16 = .ok (.iload_n 3, 1) := by decide +kernel
theorem dX1_remove_17 : decode cX1_remove 17 = .ok (.iconst 0, 1) := by decide +kernel
theorem dX1_remove_18 : decode cX1_remove 18 = .ok (.bastore, 1) := by decide +kernel
theorem dX1_remove_19 : decode cX1_remove 19 = .ok (.aload_n 0, 1) := by decide +kernel
theorem dX1_remove_20 : decode cX1_remove 20 = .ok (.invokevirtual 58, 3) := by decide +kernel
theorem dX1_remove_23 : decode cX1_remove 23 = .ok (.istore 4, 2) := by decide +kernel
theorem dX1_remove_25 : decode cX1_remove 25 = .ok (.iconst 0, 1) := by decide +kernel
theorem dX1_remove_26 : decode cX1_remove 26 = .ok (.istore 5, 2) := by decide +kernel
theorem dX1_remove_28 : decode cX1_remove 28 = .ok (.iload 5, 2) := by decide +kernel
theorem dX1_remove_30 : decode cX1_remove 30 = .ok (.iload 4, 2) := by decide +kernel
theorem dX1_remove_32 : decode cX1_remove 32 = .ok (.if_icmp .gt 61, 3) := by decide +kernel
theorem dX1_remove_35 : decode cX1_remove 35 = .ok (.iload_n 3, 1) := by decide +kernel
theorem dX1_remove_36 : decode cX1_remove 36 = .ok (.bipush 8, 2) := by decide +kernel
theorem dX1_remove_38 : decode cX1_remove 38 = .ok (.idiv, 1) := by decide +kernel
theorem dX1_remove_39 : decode cX1_remove 39 = .ok (.iload 5, 2) := by decide +kernel
theorem dX1_remove_41 : decode cX1_remove 41 = .ok (.invokestatic 82, 3) := by decide +kernel
theorem dX1_remove_44 : decode cX1_remove 44 = .ok (.istore 6, 2) := by decide +kernel
theorem dX1_remove_46 : decode cX1_remove 46 = .ok (.aload_n 0, 1) := by decide +kernel
theorem dX1_remove_47 : decode cX1_remove 47 = .ok (.iload 6, 2) := by decide +kernel
theorem dX1_remove_49 : decode cX1_remove 49 = .ok (.bipush 8, 2) := by decide +kernel
theorem dX1_remove_51 : decode cX1_remove 51 = .ok (.iload 5, 2) := by decide +kernel
theorem dX1_remove_53 : decode cX1_remove 53 = .ok (.ishl, 1) := by decide +kernel
theorem dX1_remove_54 : decode cX1_remove 54 = .ok (.invokevirtual 86, 3) := by decide +kernel
theorem dX1_remove_57 : decode cX1_remove 57 = .ok (.aload_n 0, 1) := by decide +kernel
theorem dX1_remove_58 : decode cX1_remove 58 = .ok (.iload 5, 2) := by decide +kernel
theorem dX1_remove_60 : decode cX1_remove 60 = .ok (.invokevirtual 107, 3) := by decide +kernel
theorem dX1_remove_63 : decode cX1_remove 63 = .ok (.if_icmp .lt 24, 3) := by decide +kernel
theorem dX1_remove_66 : decode cX1_remove 66 = .ok (.aload_n 0, 1) := by decide +kernel
theorem dX1_remove_67 : decode cX1_remove 67 = .ok (.iload 6, 2) := by decide +kernel
theorem dX1_remove_69 : decode cX1_remove 69 = .ok (.bipush 8, 2) := by decide +kernel
theorem dX1_remove_71 : decode cX1_remove 71 = .ok (.iload 5, 2) := by decide +kernel
theorem dX1_remove_73 : decode cX1_remove 73 = .ok (.ishl, 1) := by decide +kernel
theorem dX1_remove_74 : decode cX1_remove 74 = .ok (.invokevirtual 92, 3) := by decide +kernel
theorem dX1_remove_77 : decode cX1_remove 77 = .ok (.aload_n 0, 1) := by decide +kernel
theorem dX1_remove_78 : decode cX1_remove 78 = .ok (.iload 6, 2) := by decide +kernel
theorem dX1_remove_80 : decode cX1_remove 80 = .ok (.iload 5, 2) := by decide +kernel
theorem dX1_remove_82 : decode cX1_remove 82 = .ok (.invokevirtual 100, 3) := by decide +kernel
theorem dX1_remove_85 : decode cX1_remove 85 = .ok (.iconst 1, 1) := by decide +kernel
theorem dX1_remove_86 : decode cX1_remove 86 = .ok (.ireturn, 1) := by decide +kernel
theorem dX1_remove_87 : decode cX1_remove 87 = .ok (.iinc 5 1, 3) := by decide +kernel
theorem dX1_remove_90 : decode cX1_remove 90 = .ok (.goto (-62), 3) := by decide +kernel
theorem dX1_remove_93 : decode cX1_remove 93 = .ok (.aload_n 0, 1) := by decide +kernel
theorem dX1_remove_94 : decode cX1_remove 94 = .ok (.getfield 33, 3) := by decide +kernel
theorem dX1_remove_97 : decode cX1_remove 97 = .ok (.aload_n 0, 1) := by decide +kernel
theorem dX1_remove_98 : decode cX1_remove 98 = .ok (.getfield 30, 3) := by decide +kernel
theorem dX1_remove_101 : decode cX1_remove 101 = .ok (.if_icmp .le 31, 3) := by decide +kernel
theorem dX1_remove_104 : decode cX1_remove 104 = .ok (.aload_n 0, 1) := by decide +kernel
theorem dX1_remove_105 : decode cX1_remove 105 = .ok (.iconst 0, 1) := by decide +kernel
theorem dX1_remove_106 : decode cX1_remove 106 = .ok (.aload_n 0, 1) := by decide +kernel
theorem dX1_remove_107 : decode cX1_remove 107 = .ok (.getfield 33, 3) := by decide +kernel
theorem dX1_remove_110 : decode cX1_remove 110 = .ok (.invokevirtual 92, 3) := by decide +kernel
theorem dX1_remove_113 : decode cX1_remove 113 = .ok (.aload_n 0, 1) := by decide +kernel
theorem dX1_remove_114 : decode cX1_remove 114 = .ok (.aload_n 0, 1) := by decide +kernel
theorem dX1_remove_115 : decode cX1_remove 115 = .ok (.getfield 33, 3) := by decide +kernel
theorem dX1_remove_118 : decode cX1_remove 118 = .ok (.iconst 2, 1) := by decide +kernel
theorem dX1_remove_119 : decode cX1_remove 119 = .ok (.idiv, 1) := by decide +kernel
theorem dX1_remove_120 : decode cX1_remove 120 = .ok (.putfield 33, 3) := by decide +kernel
theorem dX1_remove_123 : decode cX1_remove 123 = .ok (.aload_n 0, 1) := by decide +kernel
theorem dX1_remove_124 : decode cX1_remove 124 = .ok (.iconst 0, 1) := by decide +kernel
theorem dX1_remove_125 : decode cX1_remove 125 = .ok (.iload 4, 2) := by decide +kernel
theorem dX1_remove_127 : decode cX1_remove 127 = .ok (.iconst 1, 1) := by decide +kernel
theorem dX1_remove_128 : decode cX1_remove 128 = .ok (.isub, 1) := by decide +kernel
theorem dX1_remove_129 : decode cX1_remove 129 = .ok (.invokevirtual 100, 3) := by decide +kernel
theorem dX1_remove_132 : decode cX1_remove 132 = .ok (.iconst 1, 1) := by decide +kernel
theorem dX1_remove_133 : decode cX1_remove 133 = .ok (.ireturn, 1) := by decide +kernel
theorem dX1_drop_0 : decode cX1_drop 0 = .ok (.iload_n 3, 1) := by decide +kernel
theorem dX1_drop_1 : decode cX1_drop 1 = .ok (.ifCond .lt 9, 3) := by decide +kernel
theorem dX1_drop_4 : decode cX1_drop 4 = .ok (.iload_n 3, 1) := by decide +kernel
theorem dX1_drop_5 : decode cX1_drop 5 = .ok (.bipush 64, 2) := by decide +kernel
theorem dX1_drop_7 : decode cX1_drop 7 = .ok (.if_icmp .le 5, 3) := by decide +kernel
theorem dX1_drop_10 : decode cX1_drop 10 = .ok (.iconst (-1), 1) := by decide +kernel
theorem dX1_drop_11 : decode cX1_drop 11 = .ok (.ireturn, 1) := by decide +kernel
theorem dX1_drop_12 : decode cX1_drop 12 = .ok (.iconst 0, 1) := by decide +kernel
theorem dX1_drop_13 : decode cX1_drop 13 = .ok (.istore 4, 2) := by decide +kernel
theorem dX1_drop_15 : decode cX1_drop 15 = .ok (.iconst 1, 1) := by decide +kernel
theorem dX1_drop_16 : decode cX1_drop 16 = .ok (.istore 5, 2) := by decide +kernel
theorem dX1_drop_18 : decode cX1_drop 18 = .ok (.iconst 0, 1) := by decide +kernel
theorem dX1_drop_19 : decode cX1_drop 19 = .ok (.istore 6, 2) := by decide +kernel
theorem dX1_drop_21 : decode cX1_drop 21 = .ok (.iload 6, 2) := by decide +kernel
theorem dX1_drop_23 : decode cX1_drop 23 = .ok (.iload_n 3, 1) := by decide +kernel
theorem dX1_drop_24 : decode cX1_drop 24 = .ok (.if_icmp .ge 61, 3) := by decide +kernel
theorem dX1_drop_27 : decode cX1_drop 27 = .ok (.iload 5, 2) := by decide +kernel
theorem dX1_drop_29 : decode cX1_drop 29 = .ok (.ifCond .eq 56, 3) := by decide +kernel
theorem dX1_drop_32 : decode cX1_drop 32 = .ok (.aload_n 0, 1) := by decide +kernel
theorem dX1_drop_33 : decode cX1_drop 33 = .ok (.lload_n 1, 1) := by decide +kernel
theorem dX1_drop_34 : decode cX1_drop 34 = .ok (.invokevirtual 110, 3) := by decide +kernel
theorem dX1_drop_37 : decode cX1_drop 37 = .ok (.lstore 7, 2) := by decide +kernel
theorem dX1_drop_39 : decode cX1_drop 39 = .ok (.lload 7, 2) := by decide +kernel
theorem dX1_drop_41 : decode cX1_drop 41 = .ok (.ldc2_w 40, 3) := by decide +kernel
theorem dX1_drop_44 : decode cX1_drop 44 = .ok (.lcmp, 1) := by decide +kernel
theorem dX1_drop_45 : decode cX1_drop 45 = .ok (.ifCond .eq 16, 3) := by decide +kernel
theorem dX1_drop_48 : decode cX1_drop 48 = .ok (.aload_n 0, 1) := by decide +kernel
theorem dX1_drop_49 : decode cX1_drop 49 = .ok (.lload 7, 2) := by decide +kernel
theorem dX1_drop_51 : decode cX1_drop 51 = .ok (.invokevirtual 114, 3) := by decide +kernel
theorem dX1_drop_54 : decode cX1_drop 54 = .ok (.ifCond .eq 7, 3) := by decide +kernel
theorem dX1_drop_57 : decode cX1_drop 57 = .ok (.iconst 1, 1) := by decide +kernel
theorem dX1_drop_58 : decode cX1_drop 58 = .ok (.goto 4, 3) := by decide +kernel
theorem dX1_drop_61 : decode cX1_drop 61 = .ok (.iconst 0, 1) := by decide +kernel
theorem dX1_drop_62 : decode cX1_drop 62 = .ok (.istore 5, 2) := by decide +kernel
theorem dX1_drop_64 : decode cX1_drop 64 = .ok (.iload 4, 2) := by decide +kernel
theorem dX1_drop_66 : decode cX1_drop 66 = .ok (.iload 5, 2) := by decide +kernel
theorem dX1_drop_68 : decode cX1_drop 68 = .ok (.ifCond .eq 7, 3) := by decide +kernel
theorem dX1_drop_71 : decode cX1_drop 71 = .ok (.iconst 1, 1) := by decide +kernel
theorem dX1_drop_72 : decode cX1_drop 72 = .ok (.goto 4, 3) := by decide +kernel
theorem dX1_drop_75 : decode cX1_drop 75 = .ok (.iconst 0, 1) := by decide +kernel
theorem dX1_drop_76 : decode cX1_drop 76 = .ok (.iadd, 1) := by decide +kernel
theorem dX1_drop_77 : decode cX1_drop 77 = .ok (.istore 4, 2) := by decide +kernel
theorem dX1_drop_79 : decode cX1_drop 79 = .ok (.iinc 6 1, 3) := by decide +kernel
theorem dX1_drop_82 : decode cX1_drop 82 = .ok (.goto (-61), 3) := by decide +kernel
theorem dX1_drop_85 : decode cX1_drop 85 = .ok (.iload 4, 2) := by decide +kernel
theorem dX1_drop_87 : decode cX1_drop 87 = .ok (.ireturn, 1) := by decide +kernel
theorem dX1_has_0 : decode cX1_has 0 = .ok (.aload_n 0, 1) := by decide +kernel
theorem dX1_has_1 : decode cX1_has 1 = .ok (.lload_n 1, 1) := by decide +kernel
theorem dX1_has_2 : decode cX1_has 2 = .ok (.invokevirtual 79, 3) := by decide +kernel
theorem dX1_has_5 : decode cX1_has 5 = .ok (.ifCond .lt 7, 3) := by decide +kernel
theorem dX1_has_8 : decode cX1_has 8 = .ok (.iconst 1, 1) := by decide +kernel
theorem dX1_has_9 : decode cX1_has 9 = .ok (.goto 4, 3) := by decide +kernel
theorem dX1_has_12 : decode cX1_has 12 = .ok (.iconst 0, 1) := by decide +kernel
theorem dX1_has_13 : decode cX1_has 13 = .ok (.ireturn, 1) := by decide +kernel
theorem dX1_get_0 : decode cX1_get 0 = .ok (.aload_n 0, 1) := by decide +kernel
theorem dX1_get_1 : decode cX1_get 1 = .ok (.lload_n 1, 1) := by decide +kernel
theorem dX1_get_2 : decode cX1_get 2 = .ok (.invokevirtual 79, 3) := by decide +kernel
theorem dX1_get_5 : decode cX1_get 5 = .ok (.istore_n 3, 1) := by decide +kernel
theorem dX1_get_6 : decode cX1_get 6 = .ok (.iload_n 3, 1) := by decide +kernel
theorem dX1_get_7 : decode cX1_get 7 = .ok (.ifCond .ge 7, 3) := by decide +kernel
theorem dX1_get_10 : decode cX1_get 10 = .ok (.lconst 0, 1) := by decide +kernel
theorem dX1_get_11 : decode cX1_get 11 = .ok (.goto 9, 3) := by decide +kernel
theorem dX1_get_14 : decode cX1_get 14 = .ok (.aload_n 0, 1) := by decide +kernel
theorem dX1_get_15 : decode cX1_get 15 = .ok (.getfield 17, 3) := by decide +kernel
theorem dX1_get_18 : decode cX1_get 18 = .ok (.iload_n 3, 1) := by decide +kernel
theorem dX1_get_19 : decode cX1_get 19 = .ok (.laload, 1) := by decide +kernel
theorem dX1_get_20 : decode cX1_get 20 = .ok (.lreturn, 1) := by decide +kernel
theorem dX1_floor_0 : decode cX1_floor 0 = .ok (.ldc2_w 40, 3) := by decide +kernel
theorem dX1_floor_3 : decode cX1_floor 3 = .ok (.lstore_n 3, 1) := by decide +kernel
theorem dX1_floor_4 : decode cX1_floor 4 = .ok (.iconst 0, 1) := by decide +kernel
theorem dX1_floor_5 : decode cX1_floor 5 = .ok (.istore 5, 2) := by decide +kernel
theorem dX1_floor_7 : decode cX1_floor 7 = .ok (.iload 5, 2) := by decide +kernel
theorem dX1_floor_9 : decode cX1_floor 9 = .ok (.aload_n 0, 1) := by decide +kernel
theorem dX1_floor_10 : decode cX1_floor 10 = .ok (.getfield 33, 3) := by decide +kernel
theorem dX1_floor_13 : decode cX1_floor 13 = .ok (.if_icmp .ge 43, 3) := by decide +kernel
theorem dX1_floor_16 : decode cX1_floor 16 = .ok (.aload_n 0, 1) := by decide +kernel
theorem dX1_floor_17 : decode cX1_floor 17 = .ok (.getfield 7, 3) := by decide +kernel
theorem dX1_floor_20 : decode cX1_floor 20 = .ok (.iload 5, 2) := by decide +kernel
theorem dX1_floor_22 : decode cX1_floor 22 = .ok (.baload, 1) := by decide +kernel
theorem dX1_floor_23 : decode cX1_floor 23 = .ok (.ifCond .eq 25, 3) := by decide +kernel
theorem dX1_floor_26 : decode cX1_floor 26 = .ok (.aload_n 0, 1) := by decide +kernel
theorem dX1_floor_27 : decode cX1_floor 27 = .ok (.getfield 13, 3) := by decide +kernel
theorem dX1_floor_30 : decode cX1_floor 30 = .ok (.iload 5, 2) := by decide +kernel
theorem dX1_floor_32 : decode cX1_floor 32 = .ok (.laload, 1) := by decide +kernel
theorem dX1_floor_33 : decode cX1_floor 33 = .ok (.lload_n 1, 1) := by decide +kernel
theorem dX1_floor_34 : decode cX1_floor 34 = .ok (.lcmp, 1) := by decide +kernel
theorem dX1_floor_35 : decode cX1_floor 35 = .ok (.ifCond .gt 13, 3) := by decide +kernel
theorem dX1_floor_38 : decode cX1_floor 38 = .ok (.aload_n 0, 1) := by decide +kernel
theorem dX1_floor_39 : decode cX1_floor 39 = .ok (.getfield 13, 3) := by decide +kernel
theorem dX1_floor_42 : decode cX1_floor 42 = .ok (.iload 5, 2) := by decide +kernel
theorem dX1_floor_44 : decode cX1_floor 44 = .ok (.laload, 1) := by decide +kernel
theorem dX1_floor_45 : decode cX1_floor 45 = .ok (.goto 4, 3) := by decide +kernel
theorem dX1_floor_48 : decode cX1_floor 48 = .ok (.lload_n 3, 1) := by decide +kernel
theorem dX1_floor_49 : decode cX1_floor 49 = .ok (.lstore_n 3, 1) := by decide +kernel
theorem dX1_floor_50 : decode cX1_floor 50 = .ok (.iinc 5 1, 3) := by decide +kernel
theorem dX1_floor_53 : decode cX1_floor 53 = .ok (.goto (-46), 3) := by decide +kernel
theorem dX1_floor_56 : decode cX1_floor 56 = .ok (.lload_n 3, 1) := by decide +kernel
theorem dX1_floor_57 : decode cX1_floor 57 = .ok (.lreturn, 1) := by decide +kernel
theorem dX1_ceiling_0 : decode cX1_ceiling 0 = .ok (.ldc2_w 40, 3) := by decide +kernel
theorem dX1_ceiling_3 : decode cX1_ceiling 3 = .ok (.lstore_n 3, 1) := by decide +kernel
theorem dX1_ceiling_4 : decode cX1_ceiling 4 = .ok (.aload_n 0, 1) := by decide +kernel
theorem dX1_ceiling_5 : decode cX1_ceiling 5 = .ok (.getfield 33, 3) := by decide +kernel
theorem dX1_ceiling_8 : decode cX1_ceiling 8 = .ok (.iconst 1, 1) := by decide +kernel
theorem dX1_ceiling_9 : decode cX1_ceiling 9 = .ok (.isub, 1) := by decide +kernel
theorem dX1_ceiling_10 : decode cX1_ceiling 10 = .ok (.istore 5, 2) := by decide +kernel
theorem dX1_ceiling_12 : decode cX1_ceiling 12 = .ok (.iload 5, 2) := by decide +kernel
theorem dX1_ceiling_14 : decode cX1_ceiling 14 = .ok (.ifCond .lt 43, 3) := by decide +kernel
theorem dX1_ceiling_17 : decode cX1_ceiling 17 = .ok (.aload_n 0, 1) := by decide +kernel
theorem dX1_ceiling_18 : decode cX1_ceiling 18 = .ok (.getfield 7, 3) := by decide +kernel
theorem dX1_ceiling_21 : decode cX1_ceiling 21 = .ok (.iload 5, 2) := by decide +kernel
theorem dX1_ceiling_23 : decode cX1_ceiling 23 = .ok (.baload, 1) := by decide +kernel
theorem dX1_ceiling_24 : decode cX1_ceiling 24 = .ok (.ifCond .eq 25, 3) := by decide +kernel
theorem dX1_ceiling_27 : decode cX1_ceiling 27 = .ok (.aload_n 0, 1) := by decide +kernel
theorem dX1_ceiling_28 : decode cX1_ceiling 28 = .ok (.getfield 13, 3) := by decide +kernel
theorem dX1_ceiling_31 : decode cX1_ceiling 31 = .ok (.iload 5, 2) := by decide +kernel
theorem dX1_ceiling_33 : decode cX1_ceiling 33 = .ok (.laload, 1) := by decide +kernel
theorem dX1_ceiling_34 : decode cX1_ceiling 34 = .ok (.lload_n 1, 1) := by decide +kernel
theorem dX1_ceiling_35 : decode cX1_ceiling 35 = .ok (.lcmp, 1) := by decide +kernel
theorem dX1_ceiling_36 : decode cX1_ceiling 36 = .ok (.ifCond .lt 13, 3) := by decide +kernel
theorem dX1_ceiling_39 : decode cX1_ceiling 39 = .ok (.aload_n 0, 1) := by decide +kernel
theorem dX1_ceiling_40 : decode cX1_ceiling 40 = .ok (.getfield 13, 3) := by decide +kernel
theorem dX1_ceiling_43 : decode cX1_ceiling 43 = .ok (.iload 5, 2) := by decide +kernel
theorem dX1_ceiling_45 : decode cX1_ceiling 45 = .ok (.laload, 1) := by decide +kernel
theorem dX1_ceiling_46 : decode cX1_ceiling 46 = .ok (.goto 4, 3) := by decide +kernel
theorem dX1_ceiling_49 : decode cX1_ceiling 49 = .ok (.lload_n 3, 1) := by decide +kernel
theorem dX1_ceiling_50 : decode cX1_ceiling 50 = .ok (.lstore_n 3, 1) := by decide +kernel
theorem dX1_ceiling_51 : decode cX1_ceiling 51 = .ok (.iinc 5 (-1), 3) := by decide +kernel
theorem dX1_ceiling_54 : decode cX1_ceiling 54 = .ok (.goto (-42), 3) := by decide +kernel
theorem dX1_ceiling_57 : decode cX1_ceiling 57 = .ok (.lload_n 3, 1) := by decide +kernel
theorem dX1_ceiling_58 : decode cX1_ceiling 58 = .ok (.lreturn, 1) := by decide +kernel
theorem dX1_select_0 : decode cX1_select 0 = .ok (.iconst 0, 1) := by decide +kernel
theorem dX1_select_1 : decode cX1_select 1 = .ok (.istore_n 2, 1) := by decide +kernel
theorem dX1_select_2 : decode cX1_select 2 = .ok (.ldc2_w 40, 3) := by decide +kernel
theorem dX1_select_5 : decode cX1_select 5 = .ok (.lstore_n 3, 1) := by decide +kernel
theorem dX1_select_6 : decode cX1_select 6 = .ok (.iconst 0, 1) := by decide +kernel
theorem dX1_select_7 : decode cX1_select 7 = .ok (.istore 5, 2) := by decide +kernel
theorem dX1_select_9 : decode cX1_select 9 = .ok (.iload 5, 2) := by decide +kernel
theorem dX1_select_11 : decode cX1_select 11 = .ok (.aload_n 0, 1) := by decide +kernel
theorem dX1_select_12 : decode cX1_select 12 = .ok (.getfield 33, 3) := by decide +kernel
theorem dX1_select_15 : decode cX1_select 15 = .ok (.if_icmp .ge 54, 3) := by decide +kernel
theorem dX1_select_18 : decode cX1_select 18 = .ok (.aload_n 0, 1) := by decide +kernel
theorem dX1_select_19 : decode cX1_select 19 = .ok (.getfield 7, 3) := by decide +kernel
theorem dX1_select_22 : decode cX1_select 22 = .ok (.iload 5, 2) := by decide +kernel
theorem dX1_select_24 : decode cX1_select 24 = .ok (.baload, 1) := by decide +kernel
theorem dX1_select_25 : decode cX1_select 25 = .ok (.ifCond .eq 18, 3) := by decide +kernel
theorem dX1_select_28 : decode cX1_select 28 = .ok (.iload_n 2, 1) := by decide +kernel
theorem dX1_select_29 : decode cX1_select 29 = .ok (.iload_n 1, 1) := by decide +kernel
theorem dX1_select_30 : decode cX1_select 30 = .ok (.if_icmp .ne 13, 3) := by decide +kernel
theorem dX1_select_33 : decode cX1_select 33 = .ok (.aload_n 0, 1) := by decide +kernel
theorem dX1_select_34 : decode cX1_select 34 = .ok (.getfield 13, 3) := by decide +kernel
theorem dX1_select_37 : decode cX1_select 37 = .ok (.iload 5, 2) := by decide +kernel
theorem dX1_select_39 : decode cX1_select 39 = .ok (.laload, 1) := by decide +kernel
theorem dX1_select_40 : decode cX1_select 40 = .ok (.goto 4, 3) := by decide +kernel
theorem dX1_select_43 : decode cX1_select 43 = .ok (.lload_n 3, 1) := by decide +kernel
theorem dX1_select_44 : decode cX1_select 44 = .ok (.lstore_n 3, 1) := by decide +kernel
theorem dX1_select_45 : decode cX1_select 45 = .ok (.iload_n 2, 1) := by decide +kernel
theorem dX1_select_46 : decode cX1_select 46 = .ok (.aload_n 0, 1) := by decide +kernel
theorem dX1_select_47 : decode cX1_select 47 = .ok (.getfield 7, 3) := by decide +kernel
theorem dX1_select_50 : decode cX1_select 50 = .ok (.iload 5, 2) := by decide +kernel
theorem dX1_select_52 : decode cX1_select 52 = .ok (.baload, 1) := by decide +kernel
theorem dX1_select_53 : decode cX1_select 53 = .ok (.ifCond .eq 7, 3) := by decide +kernel
theorem dX1_select_56 : decode cX1_select 56 = .ok (.iconst 1, 1) := by decide +kernel
theorem dX1_select_57 : decode cX1_select 57 = .ok (.goto 4, 3) := by decide +kernel
theorem dX1_select_60 : decode cX1_select 60 = .ok (.iconst 0, 1) := by decide +kernel
theorem dX1_select_61 : decode cX1_select 61 = .ok (.iadd, 1) := by decide +kernel
theorem dX1_select_62 : decode cX1_select 62 = .ok (.istore_n 2, 1) := by decide +kernel
theorem dX1_select_63 : decode cX1_select 63 = .ok (.iinc 5 1, 3) := by decide +kernel
theorem dX1_select_66 : decode cX1_select 66 = .ok (.goto (-57), 3) := by decide +kernel
theorem dX1_select_69 : decode cX1_select 69 = .ok (.lload_n 3, 1) := by decide +kernel
theorem dX1_select_70 : decode cX1_select 70 = .ok (.lreturn, 1) := by decide +kernel
theorem dX1_count_0 : decode cX1_count 0 = .ok (.iconst 0, 1) := by decide +kernel
theorem dX1_count_1 : decode cX1_count 1 = .ok (.istore 5, 2) := by decide +kernel
theorem dX1_count_3 : decode cX1_count 3 = .ok (.iconst 0, 1) := by decide +kernel
theorem dX1_count_4 : decode cX1_count 4 = .ok (.istore 6, 2) := by decide +kernel
theorem dX1_count_6 : decode cX1_count 6 = .ok (.iload 6, 2) := by decide +kernel
theorem dX1_count_8 : decode cX1_count 8 = .ok (.aload_n 0, 1) := by decide +kernel
theorem dX1_count_9 : decode cX1_count 9 = .ok (.getfield 33, 3) := by decide +kernel
theorem dX1_count_12 : decode cX1_count 12 = .ok (.if_icmp .ge 53, 3) := by decide +kernel
theorem dX1_count_15 : decode cX1_count 15 = .ok (.iload 5, 2) := by decide +kernel
theorem dX1_count_17 : decode cX1_count 17 = .ok (.aload_n 0, 1) := by decide +kernel
theorem dX1_count_18 : decode cX1_count 18 = .ok (.getfield 7, 3) := by decide +kernel
theorem dX1_count_21 : decode cX1_count 21 = .ok (.iload 6, 2) := by decide +kernel
theorem dX1_count_23 : decode cX1_count 23 = .ok (.baload, 1) := by decide +kernel
theorem dX1_count_24 : decode cX1_count 24 = .ok (.ifCond .eq 31, 3) := by decide +kernel
theorem dX1_count_27 : decode cX1_count 27 = .ok (.aload_n 0, 1) := by decide +kernel
theorem dX1_count_28 : decode cX1_count 28 = .ok (.getfield 13, 3) := by decide +kernel
theorem dX1_count_31 : decode cX1_count 31 = .ok (.iload 6, 2) := by decide +kernel
theorem dX1_count_33 : decode cX1_count 33 = .ok (.laload, 1) := by decide +kernel
theorem dX1_count_34 : decode cX1_count 34 = .ok (.lload_n 1, 1) := by decide +kernel
theorem dX1_count_35 : decode cX1_count 35 = .ok (.lcmp, 1) := by decide +kernel
theorem dX1_count_36 : decode cX1_count 36 = .ok (.ifCond .lt 19, 3) := by decide +kernel
theorem dX1_count_39 : decode cX1_count 39 = .ok (.aload_n 0, 1) := by decide +kernel
theorem dX1_count_40 : decode cX1_count 40 = .ok (.getfield 13, 3) := by decide +kernel
theorem dX1_count_43 : decode cX1_count 43 = .ok (.iload 6, 2) := by decide +kernel
theorem dX1_count_45 : decode cX1_count 45 = .ok (.laload, 1) := by decide +kernel
theorem dX1_count_46 : decode cX1_count 46 = .ok (.lload_n 3, 1) := by decide +kernel
theorem dX1_count_47 : decode cX1_count 47 = .ok (.lcmp, 1) := by decide +kernel
theorem dX1_count_48 : decode cX1_count 48 = .ok (.ifCond .gt 7, 3) := by decide +kernel
theorem dX1_count_51 : decode cX1_count 51 = .ok (.iconst 1, 1) := by decide +kernel
theorem dX1_count_52 : decode cX1_count 52 = .ok (.goto 4, 3) := by decide +kernel
theorem dX1_count_55 : decode cX1_count 55 = .ok (.iconst 0, 1) := by decide +kernel
theorem dX1_count_56 : decode cX1_count 56 = .ok (.iadd, 1) := by decide +kernel
theorem dX1_count_57 : decode cX1_count 57 = .ok (.istore 5, 2) := by decide +kernel
theorem dX1_count_59 : decode cX1_count 59 = .ok (.iinc 6 1, 3) := by decide +kernel
theorem dX1_count_62 : decode cX1_count 62 = .ok (.goto (-56), 3) := by decide +kernel
theorem dX1_count_65 : decode cX1_count 65 = .ok (.iload 5, 2) := by decide +kernel
theorem dX1_count_67 : decode cX1_count 67 = .ok (.ireturn, 1) := by decide +kernel
theorem dX1_sum_0 : decode cX1_sum 0 = .ok (.lconst 0, 1) := by decide +kernel
theorem dX1_sum_1 : decode cX1_sum 1 = .ok (.lstore 5, 2) := by decide +kernel
theorem dX1_sum_3 : decode cX1_sum 3 = .ok (.iconst 0, 1) := by decide +kernel
theorem dX1_sum_4 : decode cX1_sum 4 = .ok (.istore 7, 2) := by decide +kernel
theorem dX1_sum_6 : decode cX1_sum 6 = .ok (.iload 7, 2) := by decide +kernel
theorem dX1_sum_8 : decode cX1_sum 8 = .ok (.aload_n 0, 1) := by decide +kernel
theorem dX1_sum_9 : decode cX1_sum 9 = .ok (.getfield 33, 3) := by decide +kernel
theorem dX1_sum_12 : decode cX1_sum 12 = .ok (.if_icmp .ge 59, 3) := by decide +kernel
theorem dX1_sum_15 : decode cX1_sum 15 = .ok (.lload 5, 2) := by decide +kernel
theorem dX1_sum_17 : decode cX1_sum 17 = .ok (.aload_n 0, 1) := by decide +kernel
theorem dX1_sum_18 : decode cX1_sum 18 = .ok (.getfield 7, 3) := by decide +kernel
theorem dX1_sum_21 : decode cX1_sum 21 = .ok (.iload 7, 2) := by decide +kernel
theorem dX1_sum_23 : decode cX1_sum 23 = .ok (.baload, 1) := by decide +kernel
theorem dX1_sum_24 : decode cX1_sum 24 = .ok (.ifCond .eq 37, 3) := by decide +kernel
theorem dX1_sum_27 : decode cX1_sum 27 = .ok (.aload_n 0, 1) := by decide +kernel
theorem dX1_sum_28 : decode cX1_sum 28 = .ok (.getfield 13, 3) := by decide +kernel
theorem dX1_sum_31 : decode cX1_sum 31 = .ok (.iload 7, 2) := by decide +kernel
theorem dX1_sum_33 : decode cX1_sum 33 = .ok (.laload, 1) := by decide +kernel
theorem dX1_sum_34 : decode cX1_sum 34 = .ok (.lload_n 1, 1) := by decide +kernel
theorem dX1_sum_35 : decode cX1_sum 35 = .ok (.lcmp, 1) := by decide +kernel
theorem dX1_sum_36 : decode cX1_sum 36 = .ok (.ifCond .lt 25, 3) := by decide +kernel
theorem dX1_sum_39 : decode cX1_sum 39 = .ok (.aload_n 0, 1) := by decide +kernel
theorem dX1_sum_40 : decode cX1_sum 40 = .ok (.getfield 13, 3) := by decide +kernel
theorem dX1_sum_43 : decode cX1_sum 43 = .ok (.iload 7, 2) := by decide +kernel
theorem dX1_sum_45 : decode cX1_sum 45 = .ok (.laload, 1) := by decide +kernel
theorem dX1_sum_46 : decode cX1_sum 46 = .ok (.lload_n 3, 1) := by decide +kernel
theorem dX1_sum_47 : decode cX1_sum 47 = .ok (.lcmp, 1) := by decide +kernel
theorem dX1_sum_48 : decode cX1_sum 48 = .ok (.ifCond .gt 13, 3) := by decide +kernel
theorem dX1_sum_51 : decode cX1_sum 51 = .ok (.aload_n 0, 1) := by decide +kernel
theorem dX1_sum_52 : decode cX1_sum 52 = .ok (.getfield 17, 3) := by decide +kernel
theorem dX1_sum_55 : decode cX1_sum 55 = .ok (.iload 7, 2) := by decide +kernel
theorem dX1_sum_57 : decode cX1_sum 57 = .ok (.laload, 1) := by decide +kernel
theorem dX1_sum_58 : decode cX1_sum 58 = .ok (.goto 4, 3) := by decide +kernel
theorem dX1_sum_61 : decode cX1_sum 61 = .ok (.lconst 0, 1) := by decide +kernel
theorem dX1_sum_62 : decode cX1_sum 62 = .ok (.ladd, 1) := by decide +kernel
theorem dX1_sum_63 : decode cX1_sum 63 = .ok (.lstore 5, 2) := by decide +kernel
theorem dX1_sum_65 : decode cX1_sum 65 = .ok (.iinc 7 1, 3) := by decide +kernel
theorem dX1_sum_68 : decode cX1_sum 68 = .ok (.goto (-62), 3) := by decide +kernel
theorem dX1_sum_71 : decode cX1_sum 71 = .ok (.lload 5, 2) := by decide +kernel
theorem dX1_sum_73 : decode cX1_sum 73 = .ok (.lreturn, 1) := by decide +kernel
theorem dX1_size_0 : decode cX1_size 0 = .ok (.aload_n 0, 1) := by decide +kernel
theorem dX1_size_1 : decode cX1_size 1 = .ok (.iconst 0, 1) := by decide +kernel
theorem dX1_size_2 : decode cX1_size 2 = .ok (.aload_n 0, 1) := by decide +kernel
theorem dX1_size_3 : decode cX1_size 3 = .ok (.getfield 33, 3) := by decide +kernel
theorem dX1_size_6 : decode cX1_size 6 = .ok (.invokevirtual 86, 3) := by decide +kernel
theorem dX1_size_9 : decode cX1_size 9 = .ok (.ireturn, 1) := by decide +kernel
theorem dX1_cells_0 : decode cX1_cells 0 = .ok (.aload_n 0, 1) := by decide +kernel
theorem dX1_cells_1 : decode cX1_cells 1 = .ok (.getfield 33, 3) := by decide +kernel
theorem dX1_cells_4 : decode cX1_cells 4 = .ok (.ireturn, 1) := by decide +kernel
theorem dX1_cellKey_0 : decode cX1_cellKey 0 = .ok (.iload_n 1, 1) := by decide +kernel
theorem dX1_cellKey_1 : decode cX1_cellKey 1 = .ok (.ifCond .lt 29, 3) := by decide +kernel
theorem dX1_cellKey_4 : decode cX1_cellKey 4 = .ok (.iload_n 1, 1) := by decide +kernel
theorem dX1_cellKey_5 : decode cX1_cellKey 5 = .ok (.aload_n 0, 1) := by decide +kernel
theorem dX1_cellKey_6 : decode cX1_cellKey 6 = .ok (.getfield 33, 3) := by decide +kernel
theorem dX1_cellKey_9 : decode cX1_cellKey 9 = .ok (.if_icmp .ge 21, 3) := by decide +kernel
theorem dX1_cellKey_12 : decode cX1_cellKey 12 = .ok (.aload_n 0, 1) := by decide +kernel
theorem dX1_cellKey_13 : decode cX1_cellKey 13 = .ok (.getfield 7, 3) := by decide +kernel
theorem dX1_cellKey_16 : decode cX1_cellKey 16 = .ok (.iload_n 1, 1) := by decide +kernel
theorem dX1_cellKey_17 : decode cX1_cellKey 17 = .ok (.baload, 1) := by decide +kernel
theorem dX1_cellKey_18 : decode cX1_cellKey 18 = .ok (.ifCond .eq 12, 3) := by decide +kernel
theorem dX1_cellKey_21 : decode cX1_cellKey 21 = .ok (.aload_n 0, 1) := by decide +kernel
theorem dX1_cellKey_22 : decode cX1_cellKey 22 = .ok (.getfield 13, 3) := by decide +kernel
theorem dX1_cellKey_25 : decode cX1_cellKey 25 = .ok (.iload_n 1, 1) := by decide +kernel
theorem dX1_cellKey_26 : decode cX1_cellKey 26 = .ok (.laload, 1) := by decide +kernel
theorem dX1_cellKey_27 : decode cX1_cellKey 27 = .ok (.goto 6, 3) := by decide +kernel
theorem dX1_cellKey_30 : decode cX1_cellKey 30 = .ok (.ldc2_w 40, 3) := by decide +kernel
theorem dX1_cellKey_33 : decode cX1_cellKey 33 = .ok (.lreturn, 1) := by decide +kernel
theorem dX1_window_0 : decode cX1_window 0 = .ok (.aload_n 0, 1) := by decide +kernel
theorem dX1_window_1 : decode cX1_window 1 = .ok (.getfield 20, 3) := by decide +kernel
theorem dX1_window_4 : decode cX1_window 4 = .ok (.ireturn, 1) := by decide +kernel
theorem dX1_moved_0 : decode cX1_moved 0 = .ok (.aload_n 0, 1) := by decide +kernel
theorem dX1_moved_1 : decode cX1_moved 1 = .ok (.getfield 75, 3) := by decide +kernel
theorem dX1_moved_4 : decode cX1_moved 4 = .ok (.lreturn, 1) := by decide +kernel
