theorem dX0_init_0 : decode cX0_init 0 = .ok (.aload_n 0, 1) := by decide +kernel
theorem dX0_init_1 : decode cX0_init 1 = .ok (.invokespecial 3, 3) := by decide +kernel
theorem dX0_init_4 : decode cX0_init 4 = .ok (.aload_n 0, 1) := by decide +kernel
theorem dX0_init_5 : decode cX0_init 5 = .ok (.sipush 512, 3) := by decide +kernel
theorem dX0_init_8 : decode cX0_init 8 = .ok (.newarray .long, 2) := by decide +kernel
theorem dX0_init_10 : decode cX0_init 10 = .ok (.putfield 9, 3) := by decide +kernel
theorem dX0_init_13 : decode cX0_init 13 = .ok (.aload_n 0, 1) := by decide +kernel
theorem dX0_init_14 : decode cX0_init 14 = .ok (.getfield 9, 3) := by decide +kernel
theorem dX0_init_17 : decode cX0_init 17 = .ok (.ldc2_w 13, 3) := by decide +kernel
theorem dX0_init_20 : decode cX0_init 20 = .ok (.invokestatic 15, 3) := by decide +kernel
theorem dX0_init_23 : decode cX0_init 23 = .ok (.aload_n 0, 1) := by decide +kernel
theorem dX0_init_24 : decode cX0_init 24 = .ok (.sipush 512, 3) := by decide +kernel
theorem dX0_init_27 : decode cX0_init 27 = .ok (.newarray .long, 2) := by decide +kernel
theorem dX0_init_29 : decode cX0_init 29 = .ok (.putfield 21, 3) := by decide +kernel
theorem dX0_init_32 : decode cX0_init 32 = .ok (.aload_n 0, 1) := by decide +kernel
theorem dX0_init_33 : decode cX0_init 33 = .ok (.bipush 14, 2) := by decide +kernel
theorem dX0_init_35 : decode cX0_init 35 = .ok (.newarray .int, 2) := by decide +kernel
theorem dX0_init_37 : decode cX0_init 37 = .ok (.putfield 24, 3) := by decide +kernel
theorem dX0_init_40 : decode cX0_init 40 = .ok (.aload_n 0, 1) := by decide +kernel
theorem dX0_init_41 : decode cX0_init 41 = .ok (.iload_n 1, 1) := by decide +kernel
theorem dX0_init_42 : decode cX0_init 42 = .ok (.bipush 64, 2) := by decide +kernel
theorem dX0_init_44 : decode cX0_init 44 = .ok (.if_icmp .ne 7, 3) := by decide +kernel
theorem dX0_init_47 : decode cX0_init 47 = .ok (.iconst 3, 1) := by decide +kernel
theorem dX0_init_48 : decode cX0_init 48 = .ok (.goto 14, 3) := by decide +kernel
theorem dX0_init_51 : decode cX0_init 51 = .ok (.iload_n 1, 1) := by decide +kernel
theorem dX0_init_52 : decode cX0_init 52 = .ok (.bipush 32, 2) := by decide +kernel
theorem dX0_init_54 : decode cX0_init 54 = .ok (.if_icmp .ne 7, 3) := by decide +kernel
theorem dX0_init_57 : decode cX0_init 57 = .ok (.iconst 2, 1) := by decide +kernel
theorem dX0_init_58 : decode cX0_init 58 = .ok (.goto 4, 3) := by decide +kernel
theorem dX0_init_61 : decode cX0_init 61 = .ok (.iconst 1, 1) := by decide +kernel
theorem dX0_init_62 : decode cX0_init 62 = .ok (.putfield 28, 3) := by decide +kernel
theorem dX0_init_65 : decode cX0_init 65 = .ok (.aload_n 0, 1) := by decide +kernel
theorem dX0_init_66 : decode cX0_init 66 = .ok (.aload_n 0, 1) := by decide +kernel
theorem dX0_init_67 : decode cX0_init 67 = .ok (.getfield 28, 3) := by decide +kernel
theorem dX0_init_70 : decode cX0_init 70 = .ok (.putfield 32, 3) := by decide +kernel
theorem dX0_init_73 : decode cX0_init 73 = .ok (.aload_n 0, 1) := by decide +kernel
theorem dX0_init_74 : decode cX0_init 74 = .ok (.iconst (-1), 1) := by decide +kernel
theorem dX0_init_75 : decode cX0_init 75 = .ok (.putfield 35, 3) := by decide +kernel
theorem dX0_init_78 : decode cX0_init 78 = .ok (.aload_n 0, 1) := by decide +kernel
theorem dX0_init_79 : decode cX0_init 79 = .ok (.lconst 0, 1) := by decide +kernel
theorem dX0_init_80 : decode cX0_init 80 = .ok (.putfield 38, 3) := by decide +kernel
theorem dX0_init_83 : decode cX0_init 83 = .ok (.return_, 1) := by decide +kernel
theorem dX0_put_0 : decode cX0_put 0 = .ok (.lload_n 1, 1) := by decide +kernel
theorem dX0_put_1 : decode cX0_put 1 = .ok (.ldc2_w 13, 3) := by decide +kernel
theorem dX0_put_4 : decode cX0_put 4 = .ok (.lcmp, 1) := by decide +kernel
theorem dX0_put_5 : decode cX0_put 5 = .ok (.ifCond .ne 5, 3) := by decide +kernel
theorem dX0_put_8 : decode cX0_put 8 = .ok (.iconst (-1), 1) := by decide +kernel
theorem dX0_put_9 : decode cX0_put 9 = .ok (.ireturn, 1) := by decide +kernel
theorem dX0_put_10 : decode cX0_put 10 = .ok (.aload_n 0, 1) := by decide +kernel
theorem dX0_put_11 : decode cX0_put 11 = .ok (.lload_n 1, 1) := by decide +kernel
theorem dX0_put_12 : decode cX0_put 12 = .ok (.invokevirtual 42, 3) := by decide +kernel
theorem dX0_put_15 : decode cX0_put 15 = .ok (.istore 5, 2) := by decide +kernel
theorem dX0_put_17 : decode cX0_put 17 = .ok (.iload 5, 2) := by decide +kernel
theorem dX0_put_19 : decode cX0_put 19 = .ok (.iconst (-1), 1) := by decide +kernel
theorem dX0_put_20 : decode cX0_put 20 = .ok (.if_icmp .eq 13, 3) := by decide +kernel
theorem dX0_put_23 : decode cX0_put 23 = .ok (.aload_n 0, 1) := by decide +kernel
theorem dX0_put_24 : decode cX0_put 24 = .ok (.getfield 21, 3) := by decide +kernel
theorem dX0_put_27 : decode cX0_put 27 = .ok (.iload 5, 2) := by decide +kernel
theorem dX0_put_29 : decode cX0_put 29 = .ok (.lload_n 3, 1) := by decide +kernel
theorem dX0_put_30 : decode cX0_put 30 = .ok (.lastore, 1) := by decide +kernel
theorem dX0_put_31 : decode cX0_put 31 = .ok (.iconst 0, 1) := by decide +kernel
theorem dX0_put_32 : decode cX0_put 32 = .ok (.ireturn, 1) := by decide +kernel
theorem dX0_put_33 : decode cX0_put 33 = .ok (.aload_n 0, 1) := by decide +kernel
theorem dX0_put_34 : decode cX0_put 34 = .ok (.lload_n 1, 1) := by decide +kernel
theorem dX0_put_35 : decode cX0_put 35 = .ok (.lload_n 3, 1) := by decide +kernel
theorem dX0_put_36 : decode cX0_put 36 = .ok (.invokevirtual 46, 3) := by decide +kernel
theorem dX0_put_39 : decode cX0_put 39 = .ok (.ifCond .eq 7, 3) := by decide +kernel
theorem dX0_put_42 : decode cX0_put 42 = .ok (.iconst 1, 1) := by decide +kernel
theorem dX0_put_43 : decode cX0_put 43 = .ok (.goto 4, 3) := by decide +kernel
theorem dX0_put_46 : decode cX0_put 46 = .ok (.iconst (-1), 1) := by decide +kernel
theorem dX0_put_47 : decode cX0_put 47 = .ok (.ireturn, 1) := by decide +kernel
theorem dX0_fill_0 : decode cX0_fill 0 = .ok (.iload 5, 2) := by decide +kernel
theorem dX0_fill_2 : decode cX0_fill 2 = .ok (.ifCond .lt 10, 3) := by decide +kernel
theorem dX0_fill_5 : decode cX0_fill 5 = .ok (.iload 5, 2) := by decide +kernel
theorem dX0_fill_7 : decode cX0_fill 7 = .ok (.bipush 64, 2) := by decide +kernel
theorem dX0_fill_9 : decode cX0_fill 9 = .ok (.if_icmp .le 5, 3) := by decide +kernel
theorem dX0_fill_12 : decode cX0_fill 12 = .ok (.iconst (-1), 1) := by decide +kernel
theorem dX0_fill_13 : decode cX0_fill 13 = .ok (.ireturn, 1) := by decide +kernel
theorem dX0_fill_14 : decode cX0_fill 14 = .ok (.iconst 0, 1) := by decide +kernel
theorem dX0_fill_15 : decode cX0_fill 15 = .ok (.istore 6, 2) := by decide +kernel
theorem dX0_fill_17 : decode cX0_fill 17 = .ok (.iconst 0, 1) := by decide +kernel
theorem dX0_fill_18 : decode cX0_fill 18 = .ok (.istore 7, 2) := by decide +kernel
theorem dX0_fill_20 : decode cX0_fill 20 = .ok (.iload 7, 2) := by decide +kernel
theorem dX0_fill_22 : decode cX0_fill 22 = .ok (.iload 5, 2) := by decide +kernel
theorem dX0_fill_24 : decode cX0_fill 24 = .ok (.if_icmp .ge 41, 3) := by decide +kernel
theorem dX0_fill_27 : decode cX0_fill 27 = .ok (.aload_n 0, 1) := by decide +kernel
theorem dX0_fill_28 : decode cX0_fill 28 = .ok (.lload_n 1, 1) := by decide +kernel
theorem dX0_fill_29 : decode cX0_fill 29 = .ok (.iload 7, 2) := by decide +kernel
theorem dX0_fill_31 : decode cX0_fill 31 = .ok (.i2l, 1) := by decide +kernel
theorem dX0_fill_32 : decode cX0_fill 32 = .ok (.lload_n 3, 1) := by decide +kernel
theorem dX0_fill_33 : decode cX0_fill 33 = .ok (.lmul, 1) := by decide +kernel
theorem dX0_fill_34 : decode cX0_fill 34 = .ok (.ladd, 1) := by decide +kernel
theorem dX0_fill_35 : decode cX0_fill 35 = .ok (.iload 7, 2) := by decide +kernel
theorem dX0_fill_37 : decode cX0_fill 37 = .ok (.i2l, 1) := by decide +kernel
theorem dX0_fill_38 : decode cX0_fill 38 = .ok (.invokevirtual 50, 3) := by decide +kernel
theorem dX0_fill_41 : decode cX0_fill 41 = .ok (.istore 8, 2) := by decide +kernel
theorem dX0_fill_43 : decode cX0_fill 43 = .ok (.iload 8, 2) := by decide +kernel
theorem dX0_fill_45 : decode cX0_fill 45 = .ok (.iconst (-1), 1) := by decide +kernel
theorem dX0_fill_46 : decode cX0_fill 46 = .ok (.if_icmp .ne 6, 3) := by decide +kernel
theorem dX0_fill_49 : decode cX0_fill 49 = .ok (.iload 6, 2) := by decide +kernel
theorem dX0_fill_51 : decode cX0_fill 51 = .ok (.ireturn, 1) := by decide +kernel
theorem dX0_fill_52 : decode cX0_fill 52 = .ok (.iload 6, 2) := by decide +kernel
theorem dX0_fill_54 : decode cX0_fill 54 = .ok (.iload 8, 2) := by decide +kernel
theorem dX0_fill_56 : decode cX0_fill 56 = .ok (.iadd, 1) := by decide +kernel
theorem dX0_fill_57 : decode cX0_fill 57 = .ok (.istore 6, 2) := by decide +kernel
theorem dX0_fill_59 : decode cX0_fill 59 = .ok (.iinc 7 1, 3) := by decide +kernel
theorem dX0_fill_62 : decode cX0_fill 62 = .ok (.goto (-42), 3) := by decide +kernel
theorem dX0_fill_65 : decode cX0_fill 65 = .ok (.iload 6, 2) := by decide +kernel
theorem dX0_fill_67 : decode cX0_fill 67 = .ok (.ireturn, 1) := by decide +kernel
theorem dX0_remove_0 : decode cX0_remove 0 = .ok (.aload_n 0, 1) := by decide +kernel
theorem dX0_remove_1 : decode cX0_remove 1 = .ok (.lload_n 1, 1) := by decide +kernel
theorem dX0_remove_2 : decode cX0_remove 2 = .ok (.invokevirtual 42, 3) := by decide +kernel
theorem dX0_remove_5 : decode cX0_remove 5 = .ok (.istore_n 3, 1) := by decide +kernel
theorem dX0_remove_6 : decode cX0_remove 6 = .ok (.iload_n 3, 1) := by decide +kernel
theorem dX0_remove_7 : decode cX0_remove 7 = .ok (.iconst (-1), 1) := by decide +kernel
theorem dX0_remove_8 : decode cX0_remove 8 = .ok (.if_icmp .ne 5, 3) := by decide +kernel
theorem dX0_remove_11 : decode cX0_remove 11 = .ok (.iconst 0, 1) := by decide +kernel
theorem dX0_remove_12 : decode cX0_remove 12 = .ok (.ireturn, 1) := by decide +kernel
theorem dX0_remove_13 : decode cX0_remove 13 = .ok (.aload_n 0, 1) := by decide +kernel
theorem dX0_remove_14 : decode cX0_remove 14 = .ok (.iload_n 3, 1) := by decide +kernel
theorem dX0_remove_15 : decode cX0_remove 15 = .ok (.invokevirtual 54, 3) := by decide +kernel
theorem dX0_remove_18 : decode cX0_remove 18 = .ok (.iconst 1, 1) := by decide +kernel
theorem dX0_remove_19 : decode cX0_remove 19 = .ok (.ireturn, 1) := by decide +kernel
theorem dX0_drop_0 : decode cX0_drop 0 = .ok (.iload_n 3, 1) := by decide +kernel
theorem dX0_drop_1 : decode cX0_drop 1 = .ok (.ifCond .lt 9, 3) := by decide +kernel
theorem dX0_drop_4 : decode cX0_drop 4 = .ok (.iload_n 3, 1) := by decide +kernel
theorem dX0_drop_5 : decode cX0_drop 5 = .ok (.bipush 64, 2) := by decide +kernel
theorem dX0_drop_7 : decode cX0_drop 7 = .ok (.if_icmp .le 5, 3) := by decide +kernel
theorem dX0_drop_10 : decode cX0_drop 10 = .ok (.iconst (-1), 1) := by decide +kernel
theorem dX0_drop_11 : decode cX0_drop 11 = .ok (.ireturn, 1) := by decide +kernel
theorem dX0_drop_12 : decode cX0_drop 12 = .ok (.iconst 0, 1) := by decide +kernel
theorem dX0_drop_13 : decode cX0_drop 13 = .ok (.istore 4, 2) := by decide +kernel
theorem dX0_drop_15 : decode cX0_drop 15 = .ok (.iload 4, 2) := by decide +kernel
theorem dX0_drop_17 : decode cX0_drop 17 = .ok (.iload_n 3, 1) := by decide +kernel
theorem dX0_drop_18 : decode cX0_drop 18 = .ok (.if_icmp .ge 31, 3) := by decide +kernel
theorem dX0_drop_21 : decode cX0_drop 21 = .ok (.aload_n 0, 1) := by decide +kernel
theorem dX0_drop_22 : decode cX0_drop 22 = .ok (.lload_n 1, 1) := by decide +kernel
theorem dX0_drop_23 : decode cX0_drop 23 = .ok (.invokevirtual 58, 3) := by decide +kernel
theorem dX0_drop_26 : decode cX0_drop 26 = .ok (.istore 5, 2) := by decide +kernel
theorem dX0_drop_28 : decode cX0_drop 28 = .ok (.iload 5, 2) := by decide +kernel
theorem dX0_drop_30 : decode cX0_drop 30 = .ok (.iconst (-1), 1) := by decide +kernel
theorem dX0_drop_31 : decode cX0_drop 31 = .ok (.if_icmp .ne 6, 3) := by decide +kernel
theorem dX0_drop_34 : decode cX0_drop 34 = .ok (.iload 4, 2) := by decide +kernel
theorem dX0_drop_36 : decode cX0_drop 36 = .ok (.ireturn, 1) := by decide +kernel
theorem dX0_drop_37 : decode cX0_drop 37 = .ok (.aload_n 0, 1) := by decide +kernel
theorem dX0_drop_38 : decode cX0_drop 38 = .ok (.iload 5, 2) := by decide +kernel
theorem dX0_drop_40 : decode cX0_drop 40 = .ok (.invokevirtual 54, 3) := by decide +kernel
theorem dX0_drop_43 : decode cX0_drop 43 = .ok (.iinc 4 1, 3) := by decide +kernel
theorem dX0_drop_46 : decode cX0_drop 46 = .ok (.goto (-31), 3) := by decide +kernel
theorem dX0_drop_49 : decode cX0_drop 49 = .ok (.iload_n 3, 1) := by decide +kernel
theorem dX0_drop_50 : decode cX0_drop 50 = .ok (.ireturn, 1) := by decide +kernel
theorem dX0_has_0 : decode cX0_has 0 = .ok (.aload_n 0, 1) := by decide +kernel
theorem dX0_has_1 : decode cX0_has 1 = .ok (.lload_n 1, 1) := by decide +kernel
theorem dX0_has_2 : decode cX0_has 2 = .ok (.invokevirtual 42, 3) := by decide +kernel
theorem dX0_has_5 : decode cX0_has 5 = .ok (.iconst (-1), 1) := by decide +kernel
theorem dX0_has_6 : decode cX0_has 6 = .ok (.if_icmp .eq 7, 3) := by decide +kernel
theorem dX0_has_9 : decode cX0_has 9 = .ok (.iconst 1, 1) := by decide +kernel
theorem dX0_has_10 : decode cX0_has 10 = .ok (.goto 4, 3) := by decide +kernel
theorem dX0_has_13 : decode cX0_has 13 = .ok (.iconst 0, 1) := by decide +kernel
theorem dX0_has_14 : decode cX0_has 14 = .ok (.ireturn, 1) := by decide +kernel
theorem dX0_get_0 : decode cX0_get 0 = .ok (.aload_n 0, 1) := by decide +kernel
theorem dX0_get_1 : decode cX0_get 1 = .ok (.lload_n 1, 1) := by decide +kernel
theorem dX0_get_2 : decode cX0_get 2 = .ok (.invokevirtual 42, 3) := by decide +kernel
theorem dX0_get_5 : decode cX0_get 5 = .ok (.istore_n 3, 1) := by decide +kernel
theorem dX0_get_6 : decode cX0_get 6 = .ok (.iload_n 3, 1) := by decide +kernel
theorem dX0_get_7 : decode cX0_get 7 = .ok (.iconst (-1), 1) := by decide +kernel
theorem dX0_get_8 : decode cX0_get 8 = .ok (.if_icmp .ne 7, 3) := by decide +kernel
theorem dX0_get_11 : decode cX0_get 11 = .ok (.lconst 0, 1) := by decide +kernel
theorem dX0_get_12 : decode cX0_get 12 = .ok (.goto 9, 3) := by decide +kernel
theorem dX0_get_15 : decode cX0_get 15 = .ok (.aload_n 0, 1) := by decide +kernel
theorem dX0_get_16 : decode cX0_get 16 = .ok (.getfield 21, 3) := by decide +kernel
theorem dX0_get_19 : decode cX0_get 19 = .ok (.iload_n 3, 1) := by decide +kernel
theorem dX0_get_20 : decode cX0_get 20 = .ok (.laload, 1) := by decide +kernel
theorem dX0_get_21 : decode cX0_get 21 = .ok (.lreturn, 1) := by decide +kernel
theorem dX0_floor_0 : decode cX0_floor 0 = .ok (.aload_n 0, 1) := by decide +kernel
theorem dX0_floor_1 : decode cX0_floor 1 = .ok (.invokevirtual 61, 3) := by decide +kernel
theorem dX0_floor_4 : decode cX0_floor 4 = .ok (.iconst 1, 1) := by decide +kernel
theorem dX0_floor_5 : decode cX0_floor 5 = .ok (.isub, 1) := by decide +kernel
theorem dX0_floor_6 : decode cX0_floor 6 = .ok (.istore_n 3, 1) := by decide +kernel
theorem dX0_floor_7 : decode cX0_floor 7 = .ok (.iload_n 3, 1) := by decide +kernel
theorem dX0_floor_8 : decode cX0_floor 8 = .ok (.ifCond .lt 40, 3) := by decide +kernel
theorem dX0_floor_11 : decode cX0_floor 11 = .ok (.aload_n 0, 1) := by decide +kernel
theorem dX0_floor_12 : decode cX0_floor 12 = .ok (.getfield 9, 3) := by decide +kernel
theorem dX0_floor_15 : decode cX0_floor 15 = .ok (.iload_n 3, 1) := by decide +kernel
theorem dX0_floor_16 : decode cX0_floor 16 = .ok (.laload, 1) := by decide +kernel
theorem dX0_floor_17 : decode cX0_floor 17 = .ok (.ldc2_w 13, 3) := by decide +kernel
theorem dX0_floor_20 : decode cX0_floor 20 = .ok (.lcmp, 1) := by decide +kernel
theorem dX0_floor_21 : decode cX0_floor 21 = .ok (.ifCond .eq 21, 3) := by decide +kernel
theorem dX0_floor_24 : decode cX0_floor 24 = .ok (.aload_n 0, 1) := by decide +kernel
theorem dX0_floor_25 : decode cX0_floor 25 = .ok (.getfield 9, 3) := by decide +kernel
theorem dX0_floor_28 : decode cX0_floor 28 = .ok (.iload_n 3, 1) := by decide +kernel
theorem dX0_floor_29 : decode cX0_floor 29 = .ok (.laload, 1) := by decide +kernel
theorem dX0_floor_30 : decode cX0_floor 30 = .ok (.lload_n 1, 1) := by decide +kernel
theorem dX0_floor_31 : decode cX0_floor 31 = .ok (.lcmp, 1) := by decide +kernel
theorem dX0_floor_32 : decode cX0_floor 32 = .ok (.ifCond .gt 10, 3) := by decide +kernel
theorem dX0_floor_35 : decode cX0_floor 35 = .ok (.aload_n 0, 1) := by decide +kernel
theorem dX0_floor_36 : decode cX0_floor 36 = .ok (.getfield 9, 3) := by decide +kernel
theorem dX0_floor_39 : decode cX0_floor 39 = .ok (.iload_n 3, 1) := by decide +kernel
theorem dX0_floor_40 : decode cX0_floor 40 = .ok (.laload, 1) := by decide +kernel
theorem dX0_floor_41 : decode cX0_floor 41 = .ok (.lreturn, 1) := by decide +kernel
theorem dX0_floor_42 : decode cX0_floor 42 = .ok (.iinc 3 (-1), 3) := by decide +kernel
theorem dX0_floor_45 : decode cX0_floor 45 = .ok (.goto (-38), 3) := by decide +kernel
theorem dX0_floor_48 : decode cX0_floor 48 = .ok (.ldc2_w 13, 3) := by decide +kernel
theorem dX0_floor_51 : decode cX0_floor 51 = .ok (.lreturn, 1) := by decide +kernel
theorem dX0_ceiling_0 : decode cX0_ceiling 0 = .ok (.aload_n 0, 1) := by decide +kernel
theorem dX0_ceiling_1 : decode cX0_ceiling 1 = .ok (.lload_n 1, 1) := by decide +kernel
theorem dX0_ceiling_2 : decode cX0_ceiling 2 = .ok (.invokevirtual 58, 3) := by decide +kernel
theorem dX0_ceiling_5 : decode cX0_ceiling 5 = .ok (.istore_n 3, 1) := by decide +kernel
theorem dX0_ceiling_6 : decode cX0_ceiling 6 = .ok (.iload_n 3, 1) := by decide +kernel
theorem dX0_ceiling_7 : decode cX0_ceiling 7 = .ok (.iconst (-1), 1) := by decide +kernel
theorem dX0_ceiling_8 : decode cX0_ceiling 8 = .ok (.if_icmp .ne 9, 3) := by decide +kernel
theorem dX0_ceiling_11 : decode cX0_ceiling 11 = .ok (.ldc2_w 13, 3) := by decide +kernel
theorem dX0_ceiling_14 : decode cX0_ceiling 14 = .ok (.goto 9, 3) := by decide +kernel
theorem dX0_ceiling_17 : decode cX0_ceiling 17 = .ok (.aload_n 0, 1) := by decide +kernel
theorem dX0_ceiling_18 : decode cX0_ceiling 18 = .ok (.getfield 9, 3) := by decide +kernel
theorem dX0_ceiling_21 : decode cX0_ceiling 21 = .ok (.iload_n 3, 1) := by decide +kernel
theorem dX0_ceiling_22 : decode cX0_ceiling 22 = .ok (.laload, 1) := by decide +kernel
theorem dX0_ceiling_23 : decode cX0_ceiling 23 = .ok (.lreturn, 1) := by decide +kernel
theorem dX0_select_0 : decode cX0_select 0 = .ok (.iconst 0, 1) := by decide +kernel
theorem dX0_select_1 : decode cX0_select 1 = .ok (.istore_n 2, 1) := by decide +kernel
theorem dX0_select_2 : decode cX0_select 2 = .ok (.iconst 0, 1) := by decide +kernel
theorem dX0_select_3 : decode cX0_select 3 = .ok (.istore_n 3, 1) := by decide +kernel
theorem dX0_select_4 : decode cX0_select 4 = .ok (.iload_n 3, 1) := by decide +kernel
theorem dX0_select_5 : decode cX0_select 5 = .ok (.aload_n 0, 1) := by decide +kernel
theorem dX0_select_6 : decode cX0_select 6 = .ok (.invokevirtual 61, 3) := by decide +kernel
theorem dX0_select_9 : decode cX0_select 9 = .ok (.if_icmp .ge 37, 3) := by decide +kernel
theorem dX0_select_12 : decode cX0_select 12 = .ok (.aload_n 0, 1) := by decide +kernel
theorem dX0_select_13 : decode cX0_select 13 = .ok (.getfield 9, 3) := by decide +kernel
theorem dX0_select_16 : decode cX0_select 16 = .ok (.iload_n 3, 1) := by decide +kernel
theorem dX0_select_17 : decode cX0_select 17 = .ok (.laload, 1) := by decide +kernel
theorem dX0_select_18 : decode cX0_select 18 = .ok (.ldc2_w 13, 3) := by decide +kernel
theorem dX0_select_21 : decode cX0_select 21 = .ok (.lcmp, 1) := by decide +kernel
theorem dX0_select_22 : decode cX0_select 22 = .ok (.ifCond .eq 18, 3) := by decide +kernel
theorem dX0_select_25 : decode cX0_select 25 = .ok (.iload_n 2, 1) := by decide +kernel
theorem dX0_select_26 : decode cX0_select 26 = .ok (.iload_n 1, 1) := by decide +kernel
theorem dX0_select_27 : decode cX0_select 27 = .ok (.if_icmp .ne 10, 3) := by decide +kernel
theorem dX0_select_30 : decode cX0_select 30 = .ok (.aload_n 0, 1) := by decide +kernel
theorem dX0_select_31 : decode cX0_select 31 = .ok (.getfield 9, 3) := by decide +kernel
theorem dX0_select_34 : decode cX0_select 34 = .ok (.iload_n 3, 1) := by decide +kernel
theorem dX0_select_35 : decode cX0_select 35 = .ok (.laload, 1) := by decide +kernel
theorem dX0_select_36 : decode cX0_select 36 = .ok (.lreturn, 1) := by decide +kernel
theorem dX0_select_37 : decode cX0_select 37 = .ok (.iinc 2 1, 3) := by decide +kernel
theorem dX0_select_40 : decode cX0_select 40 = .ok (.iinc 3 1, 3) := by decide +kernel
theorem dX0_select_43 : decode cX0_select 43 = .ok (.goto (-39), 3) := by decide +kernel
theorem dX0_select_46 : decode cX0_select 46 = .ok (.ldc2_w 13, 3) := by decide +kernel
theorem dX0_select_49 : decode cX0_select 49 = .ok (.lreturn, 1) := by decide +kernel
theorem dX0_count_0 : decode cX0_count 0 = .ok (.iconst 0, 1) := by decide +kernel
theorem dX0_count_1 : decode cX0_count 1 = .ok (.istore 5, 2) := by decide +kernel
theorem dX0_count_3 : decode cX0_count 3 = .ok (.iconst 0, 1) := by decide +kernel
theorem dX0_count_4 : decode cX0_count 4 = .ok (.istore 6, 2) := by decide +kernel
theorem dX0_count_6 : decode cX0_count 6 = .ok (.iload 6, 2) := by decide +kernel
theorem dX0_count_8 : decode cX0_count 8 = .ok (.aload_n 0, 1) := by decide +kernel
theorem dX0_count_9 : decode cX0_count 9 = .ok (.invokevirtual 61, 3) := by decide +kernel
theorem dX0_count_12 : decode cX0_count 12 = .ok (.if_icmp .ge 23, 3) := by decide +kernel
theorem dX0_count_15 : decode cX0_count 15 = .ok (.aload_n 0, 1) := by decide +kernel
theorem dX0_count_16 : decode cX0_count 16 = .ok (.iload 6, 2) := by decide +kernel
theorem dX0_count_18 : decode cX0_count 18 = .ok (.lload_n 1, 1) := by decide +kernel
theorem dX0_count_19 : decode cX0_count 19 = .ok (.lload_n 3, 1) := by decide +kernel
theorem dX0_count_20 : decode cX0_count 20 = .ok (.invokevirtual 65, 3) := by decide +kernel
theorem dX0_count_23 : decode cX0_count 23 = .ok (.ifCond .eq 6, 3) := by decide +kernel
theorem dX0_count_26 : decode cX0_count 26 = .ok (.iinc 5 1, 3) := by decide +kernel
theorem dX0_count_29 : decode cX0_count 29 = .ok (.iinc 6 1, 3) := by decide +kernel
theorem dX0_count_32 : decode cX0_count 32 = .ok (.goto (-26), 3) := by decide +kernel
theorem dX0_count_35 : decode cX0_count 35 = .ok (.iload 5, 2) := by decide +kernel
theorem dX0_count_37 : decode cX0_count 37 = .ok (.ireturn, 1) := by decide +kernel
theorem dX0_sum_0 : decode cX0_sum 0 = .ok (.lconst 0, 1) := by decide +kernel
theorem dX0_sum_1 : decode cX0_sum 1 = .ok (.lstore 5, 2) := by decide +kernel
theorem dX0_sum_3 : decode cX0_sum 3 = .ok (.iconst 0, 1) := by decide +kernel
theorem dX0_sum_4 : decode cX0_sum 4 = .ok (.istore 7, 2) := by decide +kernel
theorem dX0_sum_6 : decode cX0_sum 6 = .ok (.iload 7, 2) := by decide +kernel
theorem dX0_sum_8 : decode cX0_sum 8 = .ok (.aload_n 0, 1) := by decide +kernel
theorem dX0_sum_9 : decode cX0_sum 9 = .ok (.invokevirtual 61, 3) := by decide +kernel
theorem dX0_sum_12 : decode cX0_sum 12 = .ok (.if_icmp .ge 32, 3) := by decide +kernel
theorem dX0_sum_15 : decode cX0_sum 15 = .ok (.aload_n 0, 1) := by decide +kernel
theorem dX0_sum_16 : decode cX0_sum 16 = .ok (.iload 7, 2) := by decide +kernel
theorem dX0_sum_18 : decode cX0_sum 18 = .ok (.lload_n 1, 1) := by decide +kernel
theorem dX0_sum_19 : decode cX0_sum 19 = .ok (.lload_n 3, 1) := by decide +kernel
theorem dX0_sum_20 : decode cX0_sum 20 = .ok (.invokevirtual 65, 3) := by decide +kernel
theorem dX0_sum_23 : decode cX0_sum 23 = .ok (.ifCond .eq 15, 3) := by decide +kernel
theorem dX0_sum_26 : decode cX0_sum 26 = .ok (.lload 5, 2) := by decide +kernel
theorem dX0_sum_28 : decode cX0_sum 28 = .ok (.aload_n 0, 1) := by decide +kernel
theorem dX0_sum_29 : decode cX0_sum 29 = .ok (.getfield 21, 3) := by decide +kernel
theorem dX0_sum_32 : decode cX0_sum 32 = .ok (.iload 7, 2) := by decide +kernel
theorem dX0_sum_34 : decode cX0_sum 34 = .ok (.laload, 1) := by decide +kernel
theorem dX0_sum_35 : decode cX0_sum 35 = .ok (.ladd, 1) := by decide +kernel
theorem dX0_sum_36 : decode cX0_sum 36 = .ok (.lstore 5, 2) := by decide +kernel
theorem dX0_sum_38 : decode cX0_sum 38 = .ok (.iinc 7 1, 3) := by decide +kernel
theorem dX0_sum_41 : decode cX0_sum 41 = .ok (.goto (-35), 3) := by decide +kernel
theorem dX0_sum_44 : decode cX0_sum 44 = .ok (.lload 5, 2) := by decide +kernel
theorem dX0_sum_46 : decode cX0_sum 46 = .ok (.lreturn, 1) := by decide +kernel
theorem dX0_size_0 : decode cX0_size 0 = .ok (.aload_n 0, 1) := by decide +kernel
theorem dX0_size_1 : decode cX0_size 1 = .ok (.iconst 0, 1) := by decide +kernel
theorem dX0_size_2 : decode cX0_size 2 = .ok (.aload_n 0, 1) := by decide +kernel
theorem dX0_size_3 : decode cX0_size 3 = .ok (.invokevirtual 61, 3) := by decide +kernel
theorem dX0_size_6 : decode cX0_size 6 = .ok (.invokevirtual 69, 3) := by decide +kernel
theorem dX0_size_9 : decode cX0_size 9 = .ok (.ireturn, 1) := by decide +kernel
theorem dX0_cells_0 : decode cX0_cells 0 = .ok (.aload_n 0, 1) := by decide +kernel
theorem dX0_cells_1 : decode cX0_cells 1 = .ok (.getfield 32, 3) := by decide +kernel
theorem dX0_cells_4 : decode cX0_cells 4 = .ok (.invokestatic 73, 3) := by decide +kernel
theorem dX0_cells_7 : decode cX0_cells 7 = .ok (.ireturn, 1) := by decide +kernel
theorem dX0_cellKey_0 : decode cX0_cellKey 0 = .ok (.iload_n 1, 1) := by decide +kernel
theorem dX0_cellKey_1 : decode cX0_cellKey 1 = .ok (.ifCond .lt 11, 3) := by decide +kernel
theorem dX0_cellKey_4 : decode cX0_cellKey 4 = .ok (.iload_n 1, 1) := by decide +kernel
theorem dX0_cellKey_5 : decode cX0_cellKey 5 = .ok (.aload_n 0, 1) := by decide +kernel
theorem dX0_cellKey_6 : decode cX0_cellKey 6 = .ok (.invokevirtual 61, 3) := by decide +kernel
theorem dX0_cellKey_9 : decode cX0_cellKey 9 = .ok (.if_icmp .lt 9, 3) := by decide +kernel
theorem dX0_cellKey_12 : decode cX0_cellKey 12 = .ok (.ldc2_w 13, 3) := by decide +kernel
theorem dX0_cellKey_15 : decode cX0_cellKey 15 = .ok (.goto 9, 3) := by decide +kernel
theorem dX0_cellKey_18 : decode cX0_cellKey 18 = .ok (.aload_n 0, 1) := by decide +kernel
theorem dX0_cellKey_19 : decode cX0_cellKey 19 = .ok (.getfield 9, 3) := by decide +kernel
theorem dX0_cellKey_22 : decode cX0_cellKey 22 = .ok (.iload_n 1, 1) := by decide +kernel
theorem dX0_cellKey_23 : decode cX0_cellKey 23 = .ok (.laload, 1) := by decide +kernel
theorem dX0_cellKey_24 : decode cX0_cellKey 24 = .ok (.lreturn, 1) := by decide +kernel
theorem dX0_place_0 : decode cX0_place 0 = .ok (.iload_n 1, 1) := by decide +kernel
theorem dX0_place_1 : decode cX0_place 1 = .ok (.iconst 1, 1) := by decide +kernel
theorem dX0_place_2 : decode cX0_place 2 = .ok (.if_icmp .lt 11, 3) := by decide +kernel
theorem dX0_place_5 : decode cX0_place 5 = .ok (.iload_n 1, 1) := by decide +kernel
theorem dX0_place_6 : decode cX0_place 6 = .ok (.aload_n 0, 1) := by decide +kernel
theorem dX0_place_7 : decode cX0_place 7 = .ok (.invokevirtual 77, 3) := by decide +kernel
theorem dX0_place_10 : decode cX0_place 10 = .ok (.if_icmp .lt 7, 3) := by decide +kernel
theorem dX0_place_13 : decode cX0_place 13 = .ok (.iconst (-1), 1) := by decide +kernel
theorem dX0_place_14 : decode cX0_place 14 = .ok (.goto 11, 3) := by decide +kernel
theorem dX0_place_17 : decode cX0_place 17 = .ok (.iload_n 1, 1) := by decide +kernel
theorem dX0_place_18 : decode cX0_place 18 = .ok (.aload_n 0, 1) := by decide +kernel
theorem dX0_place_19 : decode cX0_place 19 = .ok (.getfield 32, 3) := by decide +kernel
theorem dX0_place_22 : decode cX0_place 22 = .ok (.invokestatic 80, 3) := by decide +kernel
theorem dX0_place_25 : decode cX0_place 25 = .ok (.ireturn, 1) := by decide +kernel
theorem dX0_borne_0 : decode cX0_borne 0 = .ok (.iconst 1, 1) := by decide +kernel
theorem dX0_borne_1 : decode cX0_borne 1 = .ok (.istore_n 2, 1) := by decide +kernel
theorem dX0_borne_2 : decode cX0_borne 2 = .ok (.iload_n 2, 1) := by decide +kernel
theorem dX0_borne_3 : decode cX0_borne 3 = .ok (.aload_n 0, 1) := by decide +kernel
theorem dX0_borne_4 : decode cX0_borne 4 = .ok (.invokevirtual 77, 3) := by decide +kernel
theorem dX0_borne_7 : decode cX0_borne 7 = .ok (.if_icmp .ge 27, 3) := by decide +kernel
theorem dX0_borne_10 : decode cX0_borne 10 = .ok (.iload_n 2, 1) := by decide +kernel
theorem dX0_borne_11 : decode cX0_borne 11 = .ok (.aload_n 0, 1) := by decide +kernel
theorem dX0_borne_12 : decode cX0_borne 12 = .ok (.getfield 32, 3) := by decide +kernel
theorem dX0_borne_15 : decode cX0_borne 15 = .ok (.invokestatic 80, 3) := by decide +kernel
theorem dX0_borne_18 : decode cX0_borne 18 = .ok (.iload_n 1, 1) := by decide +kernel
theorem dX0_borne_19 : decode cX0_borne 19 = .ok (.if_icmp .ne 9, 3) := by decide +kernel
theorem dX0_borne_22 : decode cX0_borne 22 = .ok (.aload_n 0, 1) := by decide +kernel
theorem dX0_borne_23 : decode cX0_borne 23 = .ok (.iload_n 2, 1) := by decide +kernel
theorem dX0_borne_24 : decode cX0_borne 24 = .ok (.invokevirtual 83, 3) := by decide +kernel
theorem dX0_borne_27 : decode cX0_borne 27 = .ok (.lreturn, 1) := by decide +kernel
theorem dX0_borne_28 : decode cX0_borne 28 = .ok (.iinc 2 1, 3) := by decide +kernel
theorem dX0_borne_31 : decode cX0_borne 31 = .ok (.goto (-29), 3) := by decide +kernel
theorem dX0_borne_34 : decode cX0_borne 34 = .ok (.ldc2_w 13, 3) := by decide +kernel
theorem dX0_borne_37 : decode cX0_borne 37 = .ok (.lreturn, 1) := by decide +kernel
theorem dX0_touched_0 : decode cX0_touched 0 = .ok (.iload_n 3, 1) := by decide +kernel
theorem dX0_touched_1 : decode cX0_touched 1 = .ok (.iconst 1, 1) := by decide +kernel
theorem dX0_touched_2 : decode cX0_touched 2 = .ok (.if_icmp .lt 10, 3) := by decide +kernel
theorem dX0_touched_5 : decode cX0_touched 5 = .ok (.iload_n 3, 1) := by decide +kernel
theorem dX0_touched_6 : decode cX0_touched 6 = .ok (.sipush 1024, 3) := by decide +kernel
theorem dX0_touched_9 : decode cX0_touched 9 = .ok (.if_icmp .le 5, 3) := by decide +kernel
theorem dX0_touched_12 : decode cX0_touched 12 = .ok (.iconst (-1), 1) := by decide +kernel
theorem dX0_touched_13 : decode cX0_touched 13 = .ok (.ireturn, 1) := by decide +kernel
theorem dX0_touched_14 : decode cX0_touched 14 = .ok (.aload_n 0, 1) := by decide +kernel
theorem dX0_touched_15 : decode cX0_touched 15 = .ok (.lload_n 1, 1) := by decide +kernel
theorem dX0_touched_16 : decode cX0_touched 16 = .ok (.invokevirtual 87, 3) := by decide +kernel
theorem dX0_touched_19 : decode cX0_touched 19 = .ok (.istore 4, 2) := by decide +kernel
theorem dX0_touched_21 : decode cX0_touched 21 = .ok (.iconst 0, 1) := by decide +kernel
theorem dX0_touched_22 : decode cX0_touched 22 = .ok (.istore 5, 2) := by decide +kernel
theorem dX0_touched_24 : decode cX0_touched 24 = .ok (.aload_n 0, 1) := by decide +kernel
theorem dX0_touched_25 : decode cX0_touched 25 = .ok (.invokevirtual 77, 3) := by decide +kernel
theorem dX0_touched_28 : decode cX0_touched 28 = .ok (.iload 4, 2) := by decide +kernel
theorem dX0_touched_30 : decode cX0_touched 30 = .ok (.iadd, 1) := by decide +kernel
theorem dX0_touched_31 : decode cX0_touched 31 = .ok (.iconst 2, 1) := by decide +kernel
theorem dX0_touched_32 : decode cX0_touched 32 = .ok (.idiv, 1) := by decide +kernel
theorem dX0_touched_33 : decode cX0_touched 33 = .ok (.istore 6, 2) := by decide +kernel
theorem dX0_touched_35 : decode cX0_touched 35 = .ok (.iload 6, 2) := by decide +kernel
theorem dX0_touched_37 : decode cX0_touched 37 = .ok (.iconst 1, 1) := by decide +kernel
theorem dX0_touched_38 : decode cX0_touched 38 = .ok (.if_icmp .lt 31, 3) := by decide +kernel
theorem dX0_touched_41 : decode cX0_touched 41 = .ok (.aload_n 0, 1) := by decide +kernel
theorem dX0_touched_42 : decode cX0_touched 42 = .ok (.iload 6, 2) := by decide +kernel
theorem dX0_touched_44 : decode cX0_touched 44 = .ok (.aload_n 0, 1) := by decide +kernel
theorem dX0_touched_45 : decode cX0_touched 45 = .ok (.getfield 32, 3) := by decide +kernel
theorem dX0_touched_48 : decode cX0_touched 48 = .ok (.invokestatic 80, 3) := by decide +kernel
theorem dX0_touched_51 : decode cX0_touched 51 = .ok (.iload_n 3, 1) := by decide +kernel
theorem dX0_touched_52 : decode cX0_touched 52 = .ok (.idiv, 1) := by decide +kernel
theorem dX0_touched_53 : decode cX0_touched 53 = .ok (.iload 5, 2) := by decide +kernel
theorem dX0_touched_55 : decode cX0_touched 55 = .ok (.invokevirtual 90, 3) := by decide +kernel
theorem dX0_touched_58 : decode cX0_touched 58 = .ok (.istore 5, 2) := by decide +kernel
theorem dX0_touched_60 : decode cX0_touched 60 = .ok (.iload 6, 2) := by decide +kernel
theorem dX0_touched_62 : decode cX0_touched 62 = .ok (.iconst 2, 1) := by decide +kernel
theorem dX0_touched_63 : decode cX0_touched 63 = .ok (.idiv, 1) := by decide +kernel
theorem dX0_touched_64 : decode cX0_touched 64 = .ok (.istore 6, 2) := by decide +kernel
theorem dX0_touched_66 : decode cX0_touched 66 = .ok (.goto (-31), 3) := by decide +kernel
theorem dX0_touched_69 : decode cX0_touched 69 = .ok (.aload_n 0, 1) := by decide +kernel
theorem dX0_touched_70 : decode cX0_touched 70 = .ok (.invokevirtual 77, 3) := by decide +kernel
theorem dX0_touched_73 : decode cX0_touched 73 = .ok (.iload 4, 2) := by decide +kernel
theorem dX0_touched_75 : decode cX0_touched 75 = .ok (.bipush 8, 2) := by decide +kernel
theorem dX0_touched_77 : decode cX0_touched 77 = .ok (.imul, 1) := by decide +kernel
theorem dX0_touched_78 : decode cX0_touched 78 = .ok (.iadd, 1) := by decide +kernel
theorem dX0_touched_79 : decode cX0_touched 79 = .ok (.istore 6, 2) := by decide +kernel
theorem dX0_touched_81 : decode cX0_touched 81 = .ok (.iconst 0, 1) := by decide +kernel
theorem dX0_touched_82 : decode cX0_touched 82 = .ok (.istore 7, 2) := by decide +kernel
theorem dX0_touched_84 : decode cX0_touched 84 = .ok (.iload 7, 2) := by decide +kernel
theorem dX0_touched_86 : decode cX0_touched 86 = .ok (.bipush 8, 2) := by decide +kernel
theorem dX0_touched_88 : decode cX0_touched 88 = .ok (.if_icmp .ge 24, 3) := by decide +kernel
theorem dX0_touched_91 : decode cX0_touched 91 = .ok (.aload_n 0, 1) := by decide +kernel
theorem dX0_touched_92 : decode cX0_touched 92 = .ok (.iload 6, 2) := by decide +kernel
theorem dX0_touched_94 : decode cX0_touched 94 = .ok (.iload 7, 2) := by decide +kernel
theorem dX0_touched_96 : decode cX0_touched 96 = .ok (.iadd, 1) := by decide +kernel
theorem dX0_touched_97 : decode cX0_touched 97 = .ok (.iload_n 3, 1) := by decide +kernel
theorem dX0_touched_98 : decode cX0_touched 98 = .ok (.idiv, 1) := by decide +kernel
theorem dX0_touched_99 : decode cX0_touched 99 = .ok (.iload 5, 2) := by decide +kernel
theorem dX0_touched_101 : decode cX0_touched 101 = .ok (.invokevirtual 90, 3) := by decide +kernel
theorem dX0_touched_104 : decode cX0_touched 104 = .ok (.istore 5, 2) := by decide +kernel
theorem dX0_touched_106 : decode cX0_touched 106 = .ok (.iinc 7 1, 3) := by decide +kernel
theorem dX0_touched_109 : decode cX0_touched 109 = .ok (.goto (-25), 3) := by decide +kernel
theorem dX0_touched_112 : decode cX0_touched 112 = .ok (.iload 5, 2) := by decide +kernel
theorem dX0_touched_114 : decode cX0_touched 114 = .ok (.ireturn, 1) := by decide +kernel
theorem dX0_window_0 : decode cX0_window 0 = .ok (.aload_n 0, 1) := by decide +kernel
theorem dX0_window_1 : decode cX0_window 1 = .ok (.getfield 35, 3) := by decide +kernel
theorem dX0_window_4 : decode cX0_window 4 = .ok (.ireturn, 1) := by decide +kernel
theorem dX0_moved_0 : decode cX0_moved 0 = .ok (.aload_n 0, 1) := by decide +kernel
theorem dX0_moved_1 : decode cX0_moved 1 = .ok (.getfield 38, 3) := by decide +kernel
theorem dX0_moved_4 : decode cX0_moved 4 = .ok (.lreturn, 1) := by decide +kernel
theorem dX0_segments_0 : decode cX0_segments 0 = .ok (.iconst 1, 1) := by decide +kernel
theorem dX0_segments_1 : decode cX0_segments 1 = .ok (.aload_n 0, 1) := by decide +kernel
theorem dX0_segments_2 : decode cX0_segments 2 = .ok (.getfield 32, 3) := by decide +kernel
theorem dX0_segments_5 : decode cX0_segments 5 = .ok (.ishl, 1) := by decide +kernel
theorem dX0_segments_6 : decode cX0_segments 6 = .ok (.ireturn, 1) := by decide +kernel
theorem dX0_seek_0 : decode cX0_seek 0 = .ok (.iconst 1, 1) := by decide +kernel
theorem dX0_seek_1 : decode cX0_seek 1 = .ok (.istore_n 3, 1) := by decide +kernel
theorem dX0_seek_2 : decode cX0_seek 2 = .ok (.iconst 0, 1) := by decide +kernel
theorem dX0_seek_3 : decode cX0_seek 3 = .ok (.istore 4, 2) := by decide +kernel
theorem dX0_seek_5 : decode cX0_seek 5 = .ok (.iload 4, 2) := by decide +kernel
theorem dX0_seek_7 : decode cX0_seek 7 = .ok (.aload_n 0, 1) := by decide +kernel
theorem dX0_seek_8 : decode cX0_seek 8 = .ok (.getfield 32, 3) := by decide +kernel
theorem dX0_seek_11 : decode cX0_seek 11 = .ok (.if_icmp .ge 56, 3) := by decide +kernel
theorem dX0_seek_14 : decode cX0_seek 14 = .ok (.aload_n 0, 1) := by decide +kernel
theorem dX0_seek_15 : decode cX0_seek 15 = .ok (.iload_n 3, 1) := by decide +kernel
theorem dX0_seek_16 : decode cX0_seek 16 = .ok (.invokevirtual 83, 3) := by decide +kernel
theorem dX0_seek_19 : decode cX0_seek 19 = .ok (.lstore 5, 2) := by decide +kernel
theorem dX0_seek_21 : decode cX0_seek 21 = .ok (.lload 5, 2) := by decide +kernel
theorem dX0_seek_23 : decode cX0_seek 23 = .ok (.ldc2_w 13, 3) := by decide +kernel
theorem dX0_seek_26 : decode cX0_seek 26 = .ok (.lcmp, 1) := by decide +kernel
theorem dX0_seek_27 : decode cX0_seek 27 = .ok (.ifCond .eq 14, 3) := by decide +kernel
theorem dX0_seek_30 : decode cX0_seek 30 = .ok (.lload 5, 2) := by decide +kernel
theorem dX0_seek_32 : decode cX0_seek 32 = .ok (.lload_n 1, 1) := by decide +kernel
theorem dX0_seek_33 : decode cX0_seek 33 = .ok (.lcmp, 1) := by decide +kernel
theorem dX0_seek_34 : decode cX0_seek 34 = .ok (.ifCond .lt 7, 3) := by decide +kernel
theorem dX0_seek_37 : decode cX0_seek 37 = .ok (.iconst 1, 1) := by decide +kernel
theorem dX0_seek_38 : decode cX0_seek 38 = .ok (.goto 4, 3) := by decide +kernel
theorem dX0_seek_41 : decode cX0_seek 41 = .ok (.iconst 0, 1) := by decide +kernel
theorem dX0_seek_42 : decode cX0_seek 42 = .ok (.istore 7, 2) := by decide +kernel
theorem dX0_seek_44 : decode cX0_seek 44 = .ok (.iload 7, 2) := by decide +kernel
theorem dX0_seek_46 : decode cX0_seek 46 = .ok (.ifCond .eq 9, 3) := by decide +kernel
theorem dX0_seek_49 : decode cX0_seek 49 = .ok (.iconst 2, 1) := by decide +kernel
theorem dX0_seek_50 : decode cX0_seek 50 = .ok (.iload_n 3, 1) := by decide +kernel
theorem dX0_seek_51 : decode cX0_seek 51 = .ok (.imul, 1) := by decide +kernel
theorem dX0_seek_52 : decode cX0_seek 52 = .ok (.goto 8, 3) := by decide +kernel
theorem dX0_seek_55 : decode cX0_seek 55 = .ok (.iconst 2, 1) := by decide +kernel
theorem dX0_seek_56 : decode cX0_seek 56 = .ok (.iload_n 3, 1) := by decide +kernel
theorem dX0_seek_57 : decode cX0_seek 57 = .ok (.imul, 1) := by decide +kernel
theorem dX0_seek_58 : decode cX0_seek 58 = .ok (.iconst 1, 1) := by decide +kernel
theorem dX0_seek_59 : decode cX0_seek 59 = .ok (.iadd, 1) := by decide +kernel
theorem dX0_seek_60 : decode cX0_seek 60 = .ok (.istore_n 3, 1) := by decide +kernel
theorem dX0_seek_61 : decode cX0_seek 61 = .ok (.iinc 4 1, 3) := by decide +kernel
theorem dX0_seek_64 : decode cX0_seek 64 = .ok (.goto (-59), 3) := by decide +kernel
theorem dX0_seek_67 : decode cX0_seek 67 = .ok (.iload_n 3, 1) := by decide +kernel
theorem dX0_seek_68 : decode cX0_seek 68 = .ok (.aload_n 0, 1) := by decide +kernel
theorem dX0_seek_69 : decode cX0_seek 69 = .ok (.invokevirtual 77, 3) := by decide +kernel
theorem dX0_seek_72 : decode cX0_seek 72 = .ok (.isub, 1) := by decide +kernel
theorem dX0_seek_73 : decode cX0_seek 73 = .ok (.ireturn, 1) := by decide +kernel
theorem dX0_borneBy_0 : decode cX0_borneBy 0 = .ok (.aload_n 0, 1) := by decide +kernel
theorem dX0_borneBy_1 : decode cX0_borneBy 1 = .ok (.getfield 32, 3) := by decide +kernel
theorem dX0_borneBy_4 : decode cX0_borneBy 4 = .ok (.iload_n 1, 1) := by decide +kernel
theorem dX0_borneBy_5 : decode cX0_borneBy 5 = .ok (.invokestatic 93, 3) := by decide +kernel
theorem dX0_borneBy_8 : decode cX0_borneBy 8 = .ok (.isub, 1) := by decide +kernel
theorem dX0_borneBy_9 : decode cX0_borneBy 9 = .ok (.iconst 1, 1) := by decide +kernel
theorem dX0_borneBy_10 : decode cX0_borneBy 10 = .ok (.isub, 1) := by decide +kernel
theorem dX0_borneBy_11 : decode cX0_borneBy 11 = .ok (.istore_n 2, 1) := by decide +kernel
theorem dX0_borneBy_12 : decode cX0_borneBy 12 = .ok (.iconst 2, 1) := by decide +kernel
theorem dX0_borneBy_13 : decode cX0_borneBy 13 = .ok (.iload_n 1, 1) := by decide +kernel
theorem dX0_borneBy_14 : decode cX0_borneBy 14 = .ok (.imul, 1) := by decide +kernel
theorem dX0_borneBy_15 : decode cX0_borneBy 15 = .ok (.iload_n 2, 1) := by decide +kernel
theorem dX0_borneBy_16 : decode cX0_borneBy 16 = .ok (.ishl, 1) := by decide +kernel
theorem dX0_borneBy_17 : decode cX0_borneBy 17 = .ok (.aload_n 0, 1) := by decide +kernel
theorem dX0_borneBy_18 : decode cX0_borneBy 18 = .ok (.invokevirtual 77, 3) := by decide +kernel
theorem dX0_borneBy_21 : decode cX0_borneBy 21 = .ok (.isub, 1) := by decide +kernel
theorem dX0_borneBy_22 : decode cX0_borneBy 22 = .ok (.istore_n 3, 1) := by decide +kernel
theorem dX0_borneBy_23 : decode cX0_borneBy 23 = .ok (.aload_n 0, 1) := by decide +kernel
theorem dX0_borneBy_24 : decode cX0_borneBy 24 = .ok (.iload_n 3, 1) := by decide +kernel
theorem dX0_borneBy_25 : decode cX0_borneBy 25 = .ok (.bipush 8, 2) := by decide +kernel
theorem dX0_borneBy_27 : decode cX0_borneBy 27 = .ok (.imul, 1) := by decide +kernel
theorem dX0_borneBy_28 : decode cX0_borneBy 28 = .ok (.iload_n 2, 1) := by decide +kernel
theorem dX0_borneBy_29 : decode cX0_borneBy 29 = .ok (.invokestatic 73, 3) := by decide +kernel
theorem dX0_borneBy_32 : decode cX0_borneBy 32 = .ok (.invokevirtual 96, 3) := by decide +kernel
theorem dX0_borneBy_35 : decode cX0_borneBy 35 = .ok (.lreturn, 1) := by decide +kernel
theorem dX0_greatestKey_0 : decode cX0_greatestKey 0 = .ok (.iload_n 1, 1) := by decide +kernel
theorem dX0_greatestKey_1 : decode cX0_greatestKey 1 = .ok (.iload_n 2, 1) := by decide +kernel
theorem dX0_greatestKey_2 : decode cX0_greatestKey 2 = .ok (.iadd, 1) := by decide +kernel
theorem dX0_greatestKey_3 : decode cX0_greatestKey 3 = .ok (.iconst 1, 1) := by decide +kernel
theorem dX0_greatestKey_4 : decode cX0_greatestKey 4 = .ok (.isub, 1) := by decide +kernel
theorem dX0_greatestKey_5 : decode cX0_greatestKey 5 = .ok (.istore_n 3, 1) := by decide +kernel
theorem dX0_greatestKey_6 : decode cX0_greatestKey 6 = .ok (.iload_n 3, 1) := by decide +kernel
theorem dX0_greatestKey_7 : decode cX0_greatestKey 7 = .ok (.iload_n 1, 1) := by decide +kernel
theorem dX0_greatestKey_8 : decode cX0_greatestKey 8 = .ok (.if_icmp .lt 29, 3) := by decide +kernel
theorem dX0_greatestKey_11 : decode cX0_greatestKey 11 = .ok (.aload_n 0, 1) := by decide +kernel
theorem dX0_greatestKey_12 : decode cX0_greatestKey 12 = .ok (.getfield 9, 3) := by decide +kernel
theorem dX0_greatestKey_15 : decode cX0_greatestKey 15 = .ok (.iload_n 3, 1) := by decide +kernel
theorem dX0_greatestKey_16 : decode cX0_greatestKey 16 = .ok (.laload, 1) := by decide +kernel
theorem dX0_greatestKey_17 : decode cX0_greatestKey 17 = .ok (.ldc2_w 13, 3) := by decide +kernel
theorem dX0_greatestKey_20 : decode cX0_greatestKey 20 = .ok (.lcmp, 1) := by decide +kernel
theorem dX0_greatestKey_21 : decode cX0_greatestKey 21 = .ok (.ifCond .eq 10, 3) := by decide +kernel
theorem dX0_greatestKey_24 : decode cX0_greatestKey 24 = .ok (.aload_n 0, 1) := by decide +kernel
theorem dX0_greatestKey_25 : decode cX0_greatestKey 25 = .ok (.getfield 9, 3) := by decide +kernel
theorem dX0_greatestKey_28 : decode cX0_greatestKey 28 = .ok (.iload_n 3, 1) := by decide +kernel
theorem dX0_greatestKey_29 : decode cX0_greatestKey 29 = .ok (.laload, 1) := by decide +kernel
theorem dX0_greatestKey_30 : decode cX0_greatestKey 30 = .ok (.lreturn, 1) := by decide +kernel
theorem dX0_greatestKey_31 : decode cX0_greatestKey 31 = .ok (.iinc 3 (-1), 3) := by decide +kernel
theorem dX0_greatestKey_34 : decode cX0_greatestKey 34 = .ok (.goto (-28), 3) := by decide +kernel
theorem dX0_greatestKey_37 : decode cX0_greatestKey 37 = .ok (.ldc2_w 13, 3) := by decide +kernel
theorem dX0_greatestKey_40 : decode cX0_greatestKey 40 = .ok (.lreturn, 1) := by decide +kernel
theorem dX0_depthOf_0 : decode cX0_depthOf 0 = .ok (.iconst 0, 1) := by decide +kernel
theorem dX0_depthOf_1 : decode cX0_depthOf 1 = .ok (.istore_n 1, 1) := by decide +kernel
theorem dX0_depthOf_2 : decode cX0_depthOf 2 = .ok (.iload_n 0, 1) := by decide +kernel
theorem dX0_depthOf_3 : decode cX0_depthOf 3 = .ok (.iconst 2, 1) := by decide +kernel
theorem dX0_depthOf_4 : decode cX0_depthOf 4 = .ok (.idiv, 1) := by decide +kernel
theorem dX0_depthOf_5 : decode cX0_depthOf 5 = .ok (.istore_n 2, 1) := by decide +kernel
theorem dX0_depthOf_6 : decode cX0_depthOf 6 = .ok (.iload_n 2, 1) := by decide +kernel
theorem dX0_depthOf_7 : decode cX0_depthOf 7 = .ok (.iconst 1, 1) := by decide +kernel
theorem dX0_depthOf_8 : decode cX0_depthOf 8 = .ok (.if_icmp .lt 13, 3) := by decide +kernel
theorem dX0_depthOf_11 : decode cX0_depthOf 11 = .ok (.iinc 1 1, 3) := by decide +kernel
theorem dX0_depthOf_14 : decode cX0_depthOf 14 = .ok (.iload_n 2, 1) := by decide +kernel
theorem dX0_depthOf_15 : decode cX0_depthOf 15 = .ok (.iconst 2, 1) := by decide +kernel
theorem dX0_depthOf_16 : decode cX0_depthOf 16 = .ok (.idiv, 1) := by decide +kernel
theorem dX0_depthOf_17 : decode cX0_depthOf 17 = .ok (.istore_n 2, 1) := by decide +kernel
theorem dX0_depthOf_18 : decode cX0_depthOf 18 = .ok (.goto (-12), 3) := by decide +kernel
theorem dX0_depthOf_21 : decode cX0_depthOf 21 = .ok (.iload_n 1, 1) := by decide +kernel
theorem dX0_depthOf_22 : decode cX0_depthOf 22 = .ok (.ireturn, 1) := by decide +kernel
theorem dX0_nodesOfTree_0 : decode cX0_nodesOfTree 0 = .ok (.iconst 1, 1) := by decide +kernel
theorem dX0_nodesOfTree_1 : decode cX0_nodesOfTree 1 = .ok (.iload_n 0, 1) := by decide +kernel
theorem dX0_nodesOfTree_2 : decode cX0_nodesOfTree 2 = .ok (.ishl, 1) := by decide +kernel
theorem dX0_nodesOfTree_3 : decode cX0_nodesOfTree 3 = .ok (.iconst 1, 1) := by decide +kernel
theorem dX0_nodesOfTree_4 : decode cX0_nodesOfTree 4 = .ok (.isub, 1) := by decide +kernel
theorem dX0_nodesOfTree_5 : decode cX0_nodesOfTree 5 = .ok (.ireturn, 1) := by decide +kernel
theorem dX0_placeInTree_0 : decode cX0_placeInTree 0 = .ok (.iload_n 1, 1) := by decide +kernel
theorem dX0_placeInTree_1 : decode cX0_placeInTree 1 = .ok (.iconst 1, 1) := by decide +kernel
theorem dX0_placeInTree_2 : decode cX0_placeInTree 2 = .ok (.if_icmp .gt 5, 3) := by decide +kernel
theorem dX0_placeInTree_5 : decode cX0_placeInTree 5 = .ok (.iconst 0, 1) := by decide +kernel
theorem dX0_placeInTree_6 : decode cX0_placeInTree 6 = .ok (.ireturn, 1) := by decide +kernel
theorem dX0_placeInTree_7 : decode cX0_placeInTree 7 = .ok (.iload_n 1, 1) := by decide +kernel
theorem dX0_placeInTree_8 : decode cX0_placeInTree 8 = .ok (.iconst 1, 1) := by decide +kernel
theorem dX0_placeInTree_9 : decode cX0_placeInTree 9 = .ok (.iadd, 1) := by decide +kernel
theorem dX0_placeInTree_10 : decode cX0_placeInTree 10 = .ok (.iconst 2, 1) := by decide +kernel
theorem dX0_placeInTree_11 : decode cX0_placeInTree 11 = .ok (.idiv, 1) := by decide +kernel
theorem dX0_placeInTree_12 : decode cX0_placeInTree 12 = .ok (.istore_n 2, 1) := by decide +kernel
theorem dX0_placeInTree_13 : decode cX0_placeInTree 13 = .ok (.iload_n 1, 1) := by decide +kernel
theorem dX0_placeInTree_14 : decode cX0_placeInTree 14 = .ok (.iload_n 2, 1) := by decide +kernel
theorem dX0_placeInTree_15 : decode cX0_placeInTree 15 = .ok (.isub, 1) := by decide +kernel
theorem dX0_placeInTree_16 : decode cX0_placeInTree 16 = .ok (.istore_n 3, 1) := by decide +kernel
theorem dX0_placeInTree_17 : decode cX0_placeInTree 17 = .ok (.iload_n 0, 1) := by decide +kernel
theorem dX0_placeInTree_18 : decode cX0_placeInTree 18 = .ok (.invokestatic 93, 3) := by decide +kernel
theorem dX0_placeInTree_21 : decode cX0_placeInTree 21 = .ok (.iload_n 2, 1) := by decide +kernel
theorem dX0_placeInTree_22 : decode cX0_placeInTree 22 = .ok (.isub, 1) := by decide +kernel
theorem dX0_placeInTree_23 : decode cX0_placeInTree 23 = .ok (.istore 4, 2) := by decide +kernel
theorem dX0_placeInTree_25 : decode cX0_placeInTree 25 = .ok (.iload 4, 2) := by decide +kernel
theorem dX0_placeInTree_27 : decode cX0_placeInTree 27 = .ok (.ifCond .ge 9, 3) := by decide +kernel
theorem dX0_placeInTree_30 : decode cX0_placeInTree 30 = .ok (.iload_n 0, 1) := by decide +kernel
theorem dX0_placeInTree_31 : decode cX0_placeInTree 31 = .ok (.iload_n 2, 1) := by decide +kernel
theorem dX0_placeInTree_32 : decode cX0_placeInTree 32 = .ok (.invokestatic 80, 3) := by decide +kernel
theorem dX0_placeInTree_35 : decode cX0_placeInTree 35 = .ok (.ireturn, 1) := by decide +kernel
theorem dX0_placeInTree_36 : decode cX0_placeInTree 36 = .ok (.iload_n 0, 1) := by decide +kernel
theorem dX0_placeInTree_37 : decode cX0_placeInTree 37 = .ok (.iload 4, 2) := by decide +kernel
theorem dX0_placeInTree_39 : decode cX0_placeInTree 39 = .ok (.ishr, 1) := by decide +kernel
theorem dX0_placeInTree_40 : decode cX0_placeInTree 40 = .ok (.iconst 1, 1) := by decide +kernel
theorem dX0_placeInTree_41 : decode cX0_placeInTree 41 = .ok (.iload_n 2, 1) := by decide +kernel
theorem dX0_placeInTree_42 : decode cX0_placeInTree 42 = .ok (.ishl, 1) := by decide +kernel
theorem dX0_placeInTree_43 : decode cX0_placeInTree 43 = .ok (.isub, 1) := by decide +kernel
theorem dX0_placeInTree_44 : decode cX0_placeInTree 44 = .ok (.istore 5, 2) := by decide +kernel
theorem dX0_placeInTree_46 : decode cX0_placeInTree 46 = .ok (.iconst 1, 1) := by decide +kernel
theorem dX0_placeInTree_47 : decode cX0_placeInTree 47 = .ok (.iload 4, 2) := by decide +kernel
theorem dX0_placeInTree_49 : decode cX0_placeInTree 49 = .ok (.ishl, 1) := by decide +kernel
theorem dX0_placeInTree_50 : decode cX0_placeInTree 50 = .ok (.iload_n 0, 1) := by decide +kernel
theorem dX0_placeInTree_51 : decode cX0_placeInTree 51 = .ok (.iconst 1, 1) := by decide +kernel
theorem dX0_placeInTree_52 : decode cX0_placeInTree 52 = .ok (.iload 4, 2) := by decide +kernel
theorem dX0_placeInTree_54 : decode cX0_placeInTree 54 = .ok (.ishl, 1) := by decide +kernel
theorem dX0_placeInTree_55 : decode cX0_placeInTree 55 = .ok (.irem, 1) := by decide +kernel
theorem dX0_placeInTree_56 : decode cX0_placeInTree 56 = .ok (.iadd, 1) := by decide +kernel
theorem dX0_placeInTree_57 : decode cX0_placeInTree 57 = .ok (.istore 6, 2) := by decide +kernel
theorem dX0_placeInTree_59 : decode cX0_placeInTree 59 = .ok (.iload_n 2, 1) := by decide +kernel
theorem dX0_placeInTree_60 : decode cX0_placeInTree 60 = .ok (.invokestatic 100, 3) := by decide +kernel
theorem dX0_placeInTree_63 : decode cX0_placeInTree 63 = .ok (.iload 5, 2) := by decide +kernel
theorem dX0_placeInTree_65 : decode cX0_placeInTree 65 = .ok (.iload_n 3, 1) := by decide +kernel
theorem dX0_placeInTree_66 : decode cX0_placeInTree 66 = .ok (.invokestatic 100, 3) := by decide +kernel
theorem dX0_placeInTree_69 : decode cX0_placeInTree 69 = .ok (.imul, 1) := by decide +kernel
theorem dX0_placeInTree_70 : decode cX0_placeInTree 70 = .ok (.iadd, 1) := by decide +kernel
theorem dX0_placeInTree_71 : decode cX0_placeInTree 71 = .ok (.iload 6, 2) := by decide +kernel
theorem dX0_placeInTree_73 : decode cX0_placeInTree 73 = .ok (.iload_n 3, 1) := by decide +kernel
theorem dX0_placeInTree_74 : decode cX0_placeInTree 74 = .ok (.invokestatic 80, 3) := by decide +kernel
theorem dX0_placeInTree_77 : decode cX0_placeInTree 77 = .ok (.iadd, 1) := by decide +kernel
theorem dX0_placeInTree_78 : decode cX0_placeInTree 78 = .ok (.ireturn, 1) := by decide +kernel
theorem dX0_noteBlock_0 : decode cX0_noteBlock 0 = .ok (.iconst 0, 1) := by decide +kernel
theorem dX0_noteBlock_1 : decode cX0_noteBlock 1 = .ok (.istore_n 3, 1) := by decide +kernel
theorem dX0_noteBlock_2 : decode cX0_noteBlock 2 = .ok (.iload_n 3, 1) := by decide +kernel
theorem dX0_noteBlock_3 : decode cX0_noteBlock 3 = .ok (.iload_n 2, 1) := by decide +kernel
theorem dX0_noteBlock_4 : decode cX0_noteBlock 4 = .ok (.if_icmp .ge 21, 3) := by decide +kernel
theorem dX0_noteBlock_7 : decode cX0_noteBlock 7 = .ok (.aload_n 0, 1) := by decide +kernel
theorem dX0_noteBlock_8 : decode cX0_noteBlock 8 = .ok (.getfield 24, 3) := by decide +kernel
theorem dX0_noteBlock_11 : decode cX0_noteBlock 11 = .ok (.iload_n 3, 1) := by decide +kernel
theorem dX0_noteBlock_12 : decode cX0_noteBlock 12 = .ok (.iaload, 1) := by decide +kernel
theorem dX0_noteBlock_13 : decode cX0_noteBlock 13 = .ok (.iload_n 1, 1) := by decide +kernel
theorem dX0_noteBlock_14 : decode cX0_noteBlock 14 = .ok (.if_icmp .ne 5, 3) := by decide +kernel
theorem dX0_noteBlock_17 : decode cX0_noteBlock 17 = .ok (.iload_n 2, 1) := by decide +kernel
theorem dX0_noteBlock_18 : decode cX0_noteBlock 18 = .ok (.ireturn, 1) := by decide +kernel
theorem dX0_noteBlock_19 : decode cX0_noteBlock 19 = .ok (.iinc 3 1, 3) := by decide +kernel
theorem dX0_noteBlock_22 : decode cX0_noteBlock 22 = .ok (.goto (-20), 3) := by decide +kernel
theorem dX0_noteBlock_25 : decode cX0_noteBlock 25 = .ok (.aload_n 0, 1) := by decide +kernel
theorem dX0_noteBlock_26 : decode cX0_noteBlock 26 = .ok (.getfield 24, 3) := by decide +kernel
theorem dX0_noteBlock_29 : decode cX0_noteBlock 29 = .ok (.iload_n 2, 1) := by decide +kernel
theorem dX0_noteBlock_30 : decode cX0_noteBlock 30 = .ok (.iload_n 1, 1) := by decide +kernel
theorem dX0_noteBlock_31 : decode cX0_noteBlock 31 = .ok (.iastore, 1) := by decide +kernel
theorem dX0_noteBlock_32 : decode cX0_noteBlock 32 = .ok (.iload_n 2, 1) := by decide +kernel
theorem dX0_noteBlock_33 : decode cX0_noteBlock 33 = .ok (.iconst 1, 1) := by decide +kernel
theorem dX0_noteBlock_34 : decode cX0_noteBlock 34 = .ok (.iadd, 1) := by decide +kernel
theorem dX0_noteBlock_35 : decode cX0_noteBlock 35 = .ok (.ireturn, 1) := by decide +kernel
theorem dX0_cellNotBelow_0 : decode cX0_cellNotBelow 0 = .ok (.aload_n 0, 1) := by decide +kernel
theorem dX0_cellNotBelow_1 : decode cX0_cellNotBelow 1 = .ok (.lload_n 1, 1) := by decide +kernel
theorem dX0_cellNotBelow_2 : decode cX0_cellNotBelow 2 = .ok (.invokevirtual 87, 3) := by decide +kernel
theorem dX0_cellNotBelow_5 : decode cX0_cellNotBelow 5 = .ok (.bipush 8, 2) := by decide +kernel
theorem dX0_cellNotBelow_7 : decode cX0_cellNotBelow 7 = .ok (.imul, 1) := by decide +kernel
theorem dX0_cellNotBelow_8 : decode cX0_cellNotBelow 8 = .ok (.istore_n 3, 1) := by decide +kernel
theorem dX0_cellNotBelow_9 : decode cX0_cellNotBelow 9 = .ok (.iload_n 3, 1) := by decide +kernel
theorem dX0_cellNotBelow_10 : decode cX0_cellNotBelow 10 = .ok (.istore 4, 2) := by decide +kernel
theorem dX0_cellNotBelow_12 : decode cX0_cellNotBelow 12 = .ok (.iload 4, 2) := by decide +kernel
theorem dX0_cellNotBelow_14 : decode cX0_cellNotBelow 14 = .ok (.iload_n 3, 1) := by decide +kernel
theorem dX0_cellNotBelow_15 : decode cX0_cellNotBelow 15 = .ok (.bipush 8, 2) := by decide +kernel
theorem dX0_cellNotBelow_17 : decode cX0_cellNotBelow 17 = .ok (.iadd, 1) := by decide +kernel
theorem dX0_cellNotBelow_18 : decode cX0_cellNotBelow 18 = .ok (.if_icmp .ge 38, 3) := by decide +kernel
theorem dX0_cellNotBelow_21 : decode cX0_cellNotBelow 21 = .ok (.aload_n 0, 1) := by decide +kernel
theorem dX0_cellNotBelow_22 : decode cX0_cellNotBelow 22 = .ok (.getfield 9, 3) := by decide +kernel
theorem dX0_cellNotBelow_25 : decode cX0_cellNotBelow 25 = .ok (.iload 4, 2) := by decide +kernel
theorem dX0_cellNotBelow_27 : decode cX0_cellNotBelow 27 = .ok (.laload, 1) := by decide +kernel
theorem dX0_cellNotBelow_28 : decode cX0_cellNotBelow 28 = .ok (.ldc2_w 13, 3) := by decide +kernel
theorem dX0_cellNotBelow_31 : decode cX0_cellNotBelow 31 = .ok (.lcmp, 1) := by decide +kernel
theorem dX0_cellNotBelow_32 : decode cX0_cellNotBelow 32 = .ok (.ifCond .eq 18, 3) := by decide +kernel
theorem dX0_cellNotBelow_35 : decode cX0_cellNotBelow 35 = .ok (.aload_n 0, 1) := by decide +kernel
theorem dX0_cellNotBelow_36 : decode cX0_cellNotBelow 36 = .ok (.getfield 9, 3) := by decide +kernel
theorem dX0_cellNotBelow_39 : decode cX0_cellNotBelow 39 = .ok (.iload 4, 2) := by decide +kernel
theorem dX0_cellNotBelow_41 : decode cX0_cellNotBelow 41 = .ok (.laload, 1) := by decide +kernel
theorem dX0_cellNotBelow_42 : decode cX0_cellNotBelow 42 = .ok (.lload_n 1, 1) := by decide +kernel
theorem dX0_cellNotBelow_43 : decode cX0_cellNotBelow 43 = .ok (.lcmp, 1) := by decide +kernel
theorem dX0_cellNotBelow_44 : decode cX0_cellNotBelow 44 = .ok (.ifCond .lt 6, 3) := by decide +kernel
theorem dX0_cellNotBelow_47 : decode cX0_cellNotBelow 47 = .ok (.iload 4, 2) := by decide +kernel
theorem dX0_cellNotBelow_49 : decode cX0_cellNotBelow 49 = .ok (.ireturn, 1) := by decide +kernel
theorem dX0_cellNotBelow_50 : decode cX0_cellNotBelow 50 = .ok (.iinc 4 1, 3) := by decide +kernel
theorem dX0_cellNotBelow_53 : decode cX0_cellNotBelow 53 = .ok (.goto (-41), 3) := by decide +kernel
theorem dX0_cellNotBelow_56 : decode cX0_cellNotBelow 56 = .ok (.iconst (-1), 1) := by decide +kernel
theorem dX0_cellNotBelow_57 : decode cX0_cellNotBelow 57 = .ok (.ireturn, 1) := by decide +kernel
theorem dX0_cellOf_0 : decode cX0_cellOf 0 = .ok (.aload_n 0, 1) := by decide +kernel
theorem dX0_cellOf_1 : decode cX0_cellOf 1 = .ok (.lload_n 1, 1) := by decide +kernel
theorem dX0_cellOf_2 : decode cX0_cellOf 2 = .ok (.invokevirtual 58, 3) := by decide +kernel
theorem dX0_cellOf_5 : decode cX0_cellOf 5 = .ok (.istore_n 3, 1) := by decide +kernel
theorem dX0_cellOf_6 : decode cX0_cellOf 6 = .ok (.iload_n 3, 1) := by decide +kernel
theorem dX0_cellOf_7 : decode cX0_cellOf 7 = .ok (.iconst (-1), 1) := by decide +kernel
theorem dX0_cellOf_8 : decode cX0_cellOf 8 = .ok (.if_icmp .eq 18, 3) := by decide +kernel
theorem dX0_cellOf_11 : decode cX0_cellOf 11 = .ok (.aload_n 0, 1) := by decide +kernel
theorem dX0_cellOf_12 : decode cX0_cellOf 12 = .ok (.getfield 9, 3) := by decide +kernel
theorem dX0_cellOf_15 : decode cX0_cellOf 15 = .ok (.iload_n 3, 1) := by decide +kernel
theorem dX0_cellOf_16 : decode cX0_cellOf 16 = .ok (.laload, 1) := by decide +kernel
theorem dX0_cellOf_17 : decode cX0_cellOf 17 = .ok (.lload_n 1, 1) := by decide +kernel
theorem dX0_cellOf_18 : decode cX0_cellOf 18 = .ok (.lcmp, 1) := by decide +kernel
theorem dX0_cellOf_19 : decode cX0_cellOf 19 = .ok (.ifCond .ne 7, 3) := by decide +kernel
theorem dX0_cellOf_22 : decode cX0_cellOf 22 = .ok (.iload_n 3, 1) := by decide +kernel
theorem dX0_cellOf_23 : decode cX0_cellOf 23 = .ok (.goto 4, 3) := by decide +kernel
theorem dX0_cellOf_26 : decode cX0_cellOf 26 = .ok (.iconst (-1), 1) := by decide +kernel
theorem dX0_cellOf_27 : decode cX0_cellOf 27 = .ok (.ireturn, 1) := by decide +kernel
theorem dX0_isHeldBetween_0 : decode cX0_isHeldBetween 0 = .ok (.aload_n 0, 1) := by decide +kernel
theorem dX0_isHeldBetween_1 : decode cX0_isHeldBetween 1 = .ok (.getfield 9, 3) := by decide +kernel
theorem dX0_isHeldBetween_4 : decode cX0_isHeldBetween 4 = .ok (.iload_n 1, 1) := by decide +kernel
theorem dX0_isHeldBetween_5 : decode cX0_isHeldBetween 5 = .ok (.laload, 1) := by decide +kernel
theorem dX0_isHeldBetween_6 : decode cX0_isHeldBetween 6 = .ok (.lstore 6, 2) := by decide +kernel
theorem dX0_isHeldBetween_8 : decode cX0_isHeldBetween 8 = .ok (.lload 6, 2) := by decide +kernel
theorem dX0_isHeldBetween_10 : decode cX0_isHeldBetween 10 = .ok (.ldc2_w 13, 3) := by decide +kernel
theorem dX0_isHeldBetween_13 : decode cX0_isHeldBetween 13 = .ok (.lcmp, 1) := by decide +kernel
theorem dX0_isHeldBetween_14 : decode cX0_isHeldBetween 14 = .ok (.ifCond .eq 22, 3) := by decide +kernel
theorem dX0_isHeldBetween_17 : decode cX0_isHeldBetween 17 = .ok (.lload 6, 2) := by decide +kernel
theorem dX0_isHeldBetween_19 : decode cX0_isHeldBetween 19 = .ok (.lload_n 2, 1) := by decide +kernel
theorem dX0_isHeldBetween_20 : decode cX0_isHeldBetween 20 = .ok (.lcmp, 1) := by decide +kernel
theorem dX0_isHeldBetween_21 : decode cX0_isHeldBetween 21 = .ok (.ifCond .lt 15, 3) := by decide +kernel
theorem dX0_isHeldBetween_24 : decode cX0_isHeldBetween 24 = .ok (.lload 6, 2) := by decide +kernel
theorem dX0_isHeldBetween_26 : decode cX0_isHeldBetween 26 = .ok (.lload 4, 2) := by decide +kernel
theorem dX0_isHeldBetween_28 : decode cX0_isHeldBetween 28 = .ok (.lcmp, 1) := by decide +kernel
theorem dX0_isHeldBetween_29 : decode cX0_isHeldBetween 29 = .ok (.ifCond .gt 7, 3) := by decide +kernel
theorem dX0_isHeldBetween_32 : decode cX0_isHeldBetween 32 = .ok (.iconst 1, 1) := by decide +kernel
theorem dX0_isHeldBetween_33 : decode cX0_isHeldBetween 33 = .ok (.goto 4, 3) := by decide +kernel
theorem dX0_isHeldBetween_36 : decode cX0_isHeldBetween 36 = .ok (.iconst 0, 1) := by decide +kernel
theorem dX0_isHeldBetween_37 : decode cX0_isHeldBetween 37 = .ok (.ireturn, 1) := by decide +kernel
theorem dX0_keysAmong_0 : decode cX0_keysAmong 0 = .ok (.iconst 0, 1) := by decide +kernel
theorem dX0_keysAmong_1 : decode cX0_keysAmong 1 = .ok (.istore_n 3, 1) := by decide +kernel
theorem dX0_keysAmong_2 : decode cX0_keysAmong 2 = .ok (.iload_n 1, 1) := by decide +kernel
theorem dX0_keysAmong_3 : decode cX0_keysAmong 3 = .ok (.istore 4, 2) := by decide +kernel
theorem dX0_keysAmong_5 : decode cX0_keysAmong 5 = .ok (.iload 4, 2) := by decide +kernel
theorem dX0_keysAmong_7 : decode cX0_keysAmong 7 = .ok (.iload_n 1, 1) := by decide +kernel
theorem dX0_keysAmong_8 : decode cX0_keysAmong 8 = .ok (.iload_n 2, 1) := by decide +kernel
theorem dX0_keysAmong_9 : decode cX0_keysAmong 9 = .ok (.iadd, 1) := by decide +kernel
theorem dX0_keysAmong_10 : decode cX0_keysAmong 10 = .ok (.if_icmp .ge 26, 3) := by decide +kernel
theorem dX0_keysAmong_13 : decode cX0_keysAmong 13 = .ok (.aload_n 0, 1) := by decide +kernel
theorem dX0_keysAmong_14 : decode cX0_keysAmong 14 = .ok (.getfield 9, 3) := by decide +kernel
theorem dX0_keysAmong_17 : decode cX0_keysAmong 17 = .ok (.iload 4, 2) := by decide +kernel
theorem dX0_keysAmong_19 : decode cX0_keysAmong 19 = .ok (.laload, 1) := by decide +kernel
theorem dX0_keysAmong_20 : decode cX0_keysAmong 20 = .ok (.ldc2_w 13, 3) := by decide +kernel
theorem dX0_keysAmong_23 : decode cX0_keysAmong 23 = .ok (.lcmp, 1) := by decide +kernel
theorem dX0_keysAmong_24 : decode cX0_keysAmong 24 = .ok (.ifCond .eq 6, 3) := by decide +kernel
theorem dX0_keysAmong_27 : decode cX0_keysAmong 27 = .ok (.iinc 3 1, 3) := by decide +kernel
theorem dX0_keysAmong_30 : decode cX0_keysAmong 30 = .ok (.iinc 4 1, 3) := by decide +kernel
theorem dX0_keysAmong_33 : decode cX0_keysAmong 33 = .ok (.goto (-28), 3) := by decide +kernel
theorem dX0_keysAmong_36 : decode cX0_keysAmong 36 = .ok (.iload_n 3, 1) := by decide +kernel
theorem dX0_keysAmong_37 : decode cX0_keysAmong 37 = .ok (.ireturn, 1) := by decide +kernel
theorem dX0_windowCells_0 : decode cX0_windowCells 0 = .ok (.bipush 8, 2) := by decide +kernel
theorem dX0_windowCells_2 : decode cX0_windowCells 2 = .ok (.iload_n 0, 1) := by decide +kernel
theorem dX0_windowCells_3 : decode cX0_windowCells 3 = .ok (.ishl, 1) := by decide +kernel
theorem dX0_windowCells_4 : decode cX0_windowCells 4 = .ok (.ireturn, 1) := by decide +kernel
theorem dX0_firstCell_0 : decode cX0_firstCell 0 = .ok (.iload_n 0, 1) := by decide +kernel
theorem dX0_firstCell_1 : decode cX0_firstCell 1 = .ok (.iload_n 1, 1) := by decide +kernel
theorem dX0_firstCell_2 : decode cX0_firstCell 2 = .ok (.ishr, 1) := by decide +kernel
theorem dX0_firstCell_3 : decode cX0_firstCell 3 = .ok (.iload_n 1, 1) := by decide +kernel
theorem dX0_firstCell_4 : decode cX0_firstCell 4 = .ok (.invokestatic 73, 3) := by decide +kernel
theorem dX0_firstCell_7 : decode cX0_firstCell 7 = .ok (.imul, 1) := by decide +kernel
theorem dX0_firstCell_8 : decode cX0_firstCell 8 = .ok (.ireturn, 1) := by decide +kernel
theorem dX0_keysInWindow_0 : decode cX0_keysInWindow 0 = .ok (.aload_n 0, 1) := by decide +kernel
theorem dX0_keysInWindow_1 : decode cX0_keysInWindow 1 = .ok (.iload_n 1, 1) := by decide +kernel
theorem dX0_keysInWindow_2 : decode cX0_keysInWindow 2 = .ok (.iload_n 2, 1) := by decide +kernel
theorem dX0_keysInWindow_3 : decode cX0_keysInWindow 3 = .ok (.invokestatic 103, 3) := by decide +kernel
theorem dX0_keysInWindow_6 : decode cX0_keysInWindow 6 = .ok (.iload_n 2, 1) := by decide +kernel
theorem dX0_keysInWindow_7 : decode cX0_keysInWindow 7 = .ok (.invokestatic 73, 3) := by decide +kernel
theorem dX0_keysInWindow_10 : decode cX0_keysInWindow 10 = .ok (.invokevirtual 69, 3) := by decide +kernel
theorem dX0_keysInWindow_13 : decode cX0_keysInWindow 13 = .ok (.ireturn, 1) := by decide +kernel
theorem dX0_mostKeys_0 : decode cX0_mostKeys 0 = .ok (.iload_n 1, 1) := by decide +kernel
theorem dX0_mostKeys_1 : decode cX0_mostKeys 1 = .ok (.invokestatic 73, 3) := by decide +kernel
theorem dX0_mostKeys_4 : decode cX0_mostKeys 4 = .ok (.iconst 4, 1) := by decide +kernel
theorem dX0_mostKeys_5 : decode cX0_mostKeys 5 = .ok (.aload_n 0, 1) := by decide +kernel
theorem dX0_mostKeys_6 : decode cX0_mostKeys 6 = .ok (.getfield 32, 3) := by decide +kernel
theorem dX0_mostKeys_9 : decode cX0_mostKeys 9 = .ok (.imul, 1) := by decide +kernel
theorem dX0_mostKeys_10 : decode cX0_mostKeys 10 = .ok (.iload_n 1, 1) := by decide +kernel
theorem dX0_mostKeys_11 : decode cX0_mostKeys 11 = .ok (.isub, 1) := by decide +kernel
theorem dX0_mostKeys_12 : decode cX0_mostKeys 12 = .ok (.imul, 1) := by decide +kernel
theorem dX0_mostKeys_13 : decode cX0_mostKeys 13 = .ok (.iconst 4, 1) := by decide +kernel
theorem dX0_mostKeys_14 : decode cX0_mostKeys 14 = .ok (.aload_n 0, 1) := by decide +kernel
theorem dX0_mostKeys_15 : decode cX0_mostKeys 15 = .ok (.getfield 32, 3) := by decide +kernel
theorem dX0_mostKeys_18 : decode cX0_mostKeys 18 = .ok (.imul, 1) := by decide +kernel
theorem dX0_mostKeys_19 : decode cX0_mostKeys 19 = .ok (.idiv, 1) := by decide +kernel
theorem dX0_mostKeys_20 : decode cX0_mostKeys 20 = .ok (.ireturn, 1) := by decide +kernel
theorem dX0_fewestKeys_0 : decode cX0_fewestKeys 0 = .ok (.bipush 8, 2) := by decide +kernel
theorem dX0_fewestKeys_2 : decode cX0_fewestKeys 2 = .ok (.aload_n 0, 1) := by decide +kernel
theorem dX0_fewestKeys_3 : decode cX0_fewestKeys 3 = .ok (.getfield 32, 3) := by decide +kernel
theorem dX0_fewestKeys_6 : decode cX0_fewestKeys 6 = .ok (.imul, 1) := by decide +kernel
theorem dX0_fewestKeys_7 : decode cX0_fewestKeys 7 = .ok (.istore_n 2, 1) := by decide +kernel
theorem dX0_fewestKeys_8 : decode cX0_fewestKeys 8 = .ok (.iload_n 1, 1) := by decide +kernel
theorem dX0_fewestKeys_9 : decode cX0_fewestKeys 9 = .ok (.invokestatic 73, 3) := by decide +kernel
theorem dX0_fewestKeys_12 : decode cX0_fewestKeys 12 = .ok (.aload_n 0, 1) := by decide +kernel
theorem dX0_fewestKeys_13 : decode cX0_fewestKeys 13 = .ok (.getfield 32, 3) := by decide +kernel
theorem dX0_fewestKeys_16 : decode cX0_fewestKeys 16 = .ok (.iload_n 1, 1) := by decide +kernel
theorem dX0_fewestKeys_17 : decode cX0_fewestKeys 17 = .ok (.iadd, 1) := by decide +kernel
theorem dX0_fewestKeys_18 : decode cX0_fewestKeys 18 = .ok (.imul, 1) := by decide +kernel
theorem dX0_fewestKeys_19 : decode cX0_fewestKeys 19 = .ok (.iload_n 2, 1) := by decide +kernel
theorem dX0_fewestKeys_20 : decode cX0_fewestKeys 20 = .ok (.iadd, 1) := by decide +kernel
theorem dX0_fewestKeys_21 : decode cX0_fewestKeys 21 = .ok (.iconst 1, 1) := by decide +kernel
theorem dX0_fewestKeys_22 : decode cX0_fewestKeys 22 = .ok (.isub, 1) := by decide +kernel
theorem dX0_fewestKeys_23 : decode cX0_fewestKeys 23 = .ok (.iload_n 2, 1) := by decide +kernel
theorem dX0_fewestKeys_24 : decode cX0_fewestKeys 24 = .ok (.idiv, 1) := by decide +kernel
theorem dX0_fewestKeys_25 : decode cX0_fewestKeys 25 = .ok (.ireturn, 1) := by decide +kernel
theorem dX0_heightWithRoom_0 : decode cX0_heightWithRoom 0 = .ok (.iconst 0, 1) := by decide +kernel
theorem dX0_heightWithRoom_1 : decode cX0_heightWithRoom 1 = .ok (.istore_n 2, 1) := by decide +kernel
theorem dX0_heightWithRoom_2 : decode cX0_heightWithRoom 2 = .ok (.iload_n 2, 1) := by decide +kernel
theorem dX0_heightWithRoom_3 : decode cX0_heightWithRoom 3 = .ok (.aload_n 0, 1) := by decide +kernel
theorem dX0_heightWithRoom_4 : decode cX0_heightWithRoom 4 = .ok (.getfield 32, 3) := by decide +kernel
theorem dX0_heightWithRoom_7 : decode cX0_heightWithRoom 7 = .ok (.if_icmp .gt 27, 3) := by decide +kernel
theorem dX0_heightWithRoom_10 : decode cX0_heightWithRoom 10 = .ok (.aload_n 0, 1) := by decide +kernel
theorem dX0_heightWithRoom_11 : decode cX0_heightWithRoom 11 = .ok (.iload_n 1, 1) := by decide +kernel
theorem dX0_heightWithRoom_12 : decode cX0_heightWithRoom 12 = .ok (.iload_n 2, 1) := by decide +kernel
theorem dX0_heightWithRoom_13 : decode cX0_heightWithRoom 13 = .ok (.invokevirtual 106, 3) := by decide +kernel
theorem dX0_heightWithRoom_16 : decode cX0_heightWithRoom 16 = .ok (.iconst 1, 1) := by decide +kernel
theorem dX0_heightWithRoom_17 : decode cX0_heightWithRoom 17 = .ok (.iadd, 1) := by decide +kernel
theorem dX0_heightWithRoom_18 : decode cX0_heightWithRoom 18 = .ok (.aload_n 0, 1) := by decide +kernel
theorem dX0_heightWithRoom_19 : decode cX0_heightWithRoom 19 = .ok (.iload_n 2, 1) := by decide +kernel
theorem dX0_heightWithRoom_20 : decode cX0_heightWithRoom 20 = .ok (.invokevirtual 109, 3) := by decide +kernel
theorem dX0_heightWithRoom_23 : decode cX0_heightWithRoom 23 = .ok (.if_icmp .gt 5, 3) := by decide +kernel
theorem dX0_heightWithRoom_26 : decode cX0_heightWithRoom 26 = .ok (.iload_n 2, 1) := by decide +kernel
theorem dX0_heightWithRoom_27 : decode cX0_heightWithRoom 27 = .ok (.ireturn, 1) := by decide +kernel
theorem dX0_heightWithRoom_28 : decode cX0_heightWithRoom 28 = .ok (.iinc 2 1, 3) := by decide +kernel
theorem dX0_heightWithRoom_31 : decode cX0_heightWithRoom 31 = .ok (.goto (-29), 3) := by decide +kernel
theorem dX0_heightWithRoom_34 : decode cX0_heightWithRoom 34 = .ok (.iconst (-1), 1) := by decide +kernel
theorem dX0_heightWithRoom_35 : decode cX0_heightWithRoom 35 = .ok (.ireturn, 1) := by decide +kernel
theorem dX0_heightWithEnough_0 : decode cX0_heightWithEnough 0 = .ok (.iconst 0, 1) := by decide +kernel
theorem dX0_heightWithEnough_1 : decode cX0_heightWithEnough 1 = .ok (.istore_n 2, 1) := by decide +kernel
theorem dX0_heightWithEnough_2 : decode cX0_heightWithEnough 2 = .ok (.iload_n 2, 1) := by decide +kernel
theorem dX0_heightWithEnough_3 : decode cX0_heightWithEnough 3 = .ok (.aload_n 0, 1) := by decide +kernel
theorem dX0_heightWithEnough_4 : decode cX0_heightWithEnough 4 = .ok (.getfield 32, 3) := by decide +kernel
theorem dX0_heightWithEnough_7 : decode cX0_heightWithEnough 7 = .ok (.if_icmp .gt 25, 3) := by decide +kernel
theorem dX0_heightWithEnough_10 : decode cX0_heightWithEnough 10 = .ok (.aload_n 0, 1) := by decide +kernel
theorem dX0_heightWithEnough_11 : decode cX0_heightWithEnough 11 = .ok (.iload_n 1, 1) := by decide +kernel
theorem dX0_heightWithEnough_12 : decode cX0_heightWithEnough 12 = .ok (.iload_n 2, 1) := by decide +kernel
theorem dX0_heightWithEnough_13 : decode cX0_heightWithEnough 13 = .ok (.invokevirtual 106, 3) := by decide +kernel
theorem dX0_heightWithEnough_16 : decode cX0_heightWithEnough 16 = .ok (.aload_n 0, 1) := by decide +kernel
theorem dX0_heightWithEnough_17 : decode cX0_heightWithEnough 17 = .ok (.iload_n 2, 1) := by decide +kernel
theorem dX0_heightWithEnough_18 : decode cX0_heightWithEnough 18 = .ok (.invokevirtual 112, 3) := by decide +kernel
theorem dX0_heightWithEnough_21 : decode cX0_heightWithEnough 21 = .ok (.if_icmp .lt 5, 3) := by decide +kernel
theorem dX0_heightWithEnough_24 : decode cX0_heightWithEnough 24 = .ok (.iload_n 2, 1) := by decide +kernel
theorem dX0_heightWithEnough_25 : decode cX0_heightWithEnough 25 = .ok (.ireturn, 1) := by decide +kernel
theorem dX0_heightWithEnough_26 : decode cX0_heightWithEnough 26 = .ok (.iinc 2 1, 3) := by decide +kernel
theorem dX0_heightWithEnough_29 : decode cX0_heightWithEnough 29 = .ok (.goto (-27), 3) := by decide +kernel
theorem dX0_heightWithEnough_32 : decode cX0_heightWithEnough 32 = .ok (.iconst (-1), 1) := by decide +kernel
theorem dX0_heightWithEnough_33 : decode cX0_heightWithEnough 33 = .ok (.ireturn, 1) := by decide +kernel
theorem dX0_putNew_0 : decode cX0_putNew 0 = .ok (.aload_n 0, 1) := by decide +kernel
theorem dX0_putNew_1 : decode cX0_putNew 1 = .ok (.lload_n 1, 1) := by decide +kernel
theorem dX0_putNew_2 : decode cX0_putNew 2 = .ok (.invokevirtual 87, 3) := by decide +kernel
theorem dX0_putNew_5 : decode cX0_putNew 5 = .ok (.istore 5, 2) := by decide +kernel
theorem dX0_putNew_7 : decode cX0_putNew 7 = .ok (.aload_n 0, 1) := by decide +kernel
theorem dX0_putNew_8 : decode cX0_putNew 8 = .ok (.iload 5, 2) := by decide +kernel
theorem dX0_putNew_10 : decode cX0_putNew 10 = .ok (.invokevirtual 115, 3) := by decide +kernel
theorem dX0_putNew_13 : decode cX0_putNew 13 = .ok (.istore 6, 2) := by decide +kernel
theorem dX0_putNew_15 : decode cX0_putNew 15 = .ok (.iload 6, 2) := by decide +kernel
theorem dX0_putNew_17 : decode cX0_putNew 17 = .ok (.iconst (-1), 1) := by decide +kernel
theorem dX0_putNew_18 : decode cX0_putNew 18 = .ok (.if_icmp .ne 31, 3) := by decide +kernel
theorem dX0_putNew_21 : decode cX0_putNew 21 = .ok (.aload_n 0, 1) := by decide +kernel
theorem dX0_putNew_22 : decode cX0_putNew 22 = .ok (.invokevirtual 61, 3) := by decide +kernel
theorem dX0_putNew_25 : decode cX0_putNew 25 = .ok (.sipush 512, 3) := by decide +kernel
theorem dX0_putNew_28 : decode cX0_putNew 28 = .ok (.if_icmp .ne 5, 3) := by decide +kernel
theorem dX0_putNew_31 : decode cX0_putNew 31 = .ok (.iconst 0, 1) := by decide +kernel
theorem dX0_putNew_32 : decode cX0_putNew 32 = .ok (.ireturn, 1) := by decide +kernel
theorem dX0_putNew_33 : decode cX0_putNew 33 = .ok (.aload_n 0, 1) := by decide +kernel
theorem dX0_putNew_34 : decode cX0_putNew 34 = .ok (.dup, 1) := by decide +kernel
theorem dX0_putNew_35 : decode cX0_putNew 35 = .ok (.getfield 32, 3) := by decide +kernel
theorem dX0_putNew_38 : decode cX0_putNew 38 = .ok (.iconst 1, 1) := by decide +kernel
theorem dX0_putNew_39 : decode cX0_putNew 39 = .ok (.iadd, 1) := by decide +kernel
theorem dX0_putNew_40 : decode cX0_putNew 40 = .ok (.putfield 32, 3) := by decide +kernel
theorem dX0_putNew_43 : decode cX0_putNew 43 = .ok (.aload_n 0, 1) := by decide +kernel
theorem dX0_putNew_44 : decode cX0_putNew 44 = .ok (.getfield 32, 3) := by decide +kernel
theorem dX0_putNew_47 : decode cX0_putNew 47 = .ok (.istore 6, 2) := by decide +kernel
theorem dX0_putNew_49 : decode cX0_putNew 49 = .ok (.iload 5, 2) := by decide +kernel
theorem dX0_putNew_51 : decode cX0_putNew 51 = .ok (.iload 6, 2) := by decide +kernel
theorem dX0_putNew_53 : decode cX0_putNew 53 = .ok (.invokestatic 103, 3) := by decide +kernel
theorem dX0_putNew_56 : decode cX0_putNew 56 = .ok (.istore 7, 2) := by decide +kernel
theorem dX0_putNew_58 : decode cX0_putNew 58 = .ok (.aload_n 0, 1) := by decide +kernel
theorem dX0_putNew_59 : decode cX0_putNew 59 = .ok (.iload 7, 2) := by decide +kernel
theorem dX0_putNew_61 : decode cX0_putNew 61 = .ok (.iload 6, 2) := by decide +kernel
theorem dX0_putNew_63 : decode cX0_putNew 63 = .ok (.invokestatic 73, 3) := by decide +kernel
theorem dX0_putNew_66 : decode cX0_putNew 66 = .ok (.invokevirtual 118, 3) := by decide +kernel
theorem dX0_putNew_69 : decode cX0_putNew 69 = .ok (.istore 8, 2) := by decide +kernel
theorem dX0_putNew_71 : decode cX0_putNew 71 = .ok (.aload_n 0, 1) := by decide +kernel
theorem dX0_putNew_72 : decode cX0_putNew 72 = .ok (.iload 7, 2) := by decide +kernel
theorem dX0_putNew_74 : decode cX0_putNew 74 = .ok (.iload 8, 2) := by decide +kernel
theorem dX0_putNew_76 : decode cX0_putNew 76 = .ok (.lload_n 1, 1) := by decide +kernel
theorem dX0_putNew_77 : decode cX0_putNew 77 = .ok (.lload_n 3, 1) := by decide +kernel
theorem dX0_putNew_78 : decode cX0_putNew 78 = .ok (.invokevirtual 121, 3) := by decide +kernel
theorem dX0_putNew_81 : decode cX0_putNew 81 = .ok (.aload_n 0, 1) := by decide +kernel
theorem dX0_putNew_82 : decode cX0_putNew 82 = .ok (.iload 7, 2) := by decide +kernel
theorem dX0_putNew_84 : decode cX0_putNew 84 = .ok (.iload 6, 2) := by decide +kernel
theorem dX0_putNew_86 : decode cX0_putNew 86 = .ok (.iload 8, 2) := by decide +kernel
theorem dX0_putNew_88 : decode cX0_putNew 88 = .ok (.iconst 1, 1) := by decide +kernel
theorem dX0_putNew_89 : decode cX0_putNew 89 = .ok (.iadd, 1) := by decide +kernel
theorem dX0_putNew_90 : decode cX0_putNew 90 = .ok (.invokevirtual 125, 3) := by decide +kernel
theorem dX0_putNew_93 : decode cX0_putNew 93 = .ok (.iconst 1, 1) := by decide +kernel
theorem dX0_putNew_94 : decode cX0_putNew 94 = .ok (.ireturn, 1) := by decide +kernel
theorem dX0_takeOut_0 : decode cX0_takeOut 0 = .ok (.aload_n 0, 1) := by decide +kernel
theorem dX0_takeOut_1 : decode cX0_takeOut 1 = .ok (.iload_n 1, 1) := by decide +kernel
theorem dX0_takeOut_2 : decode cX0_takeOut 2 = .ok (.invokevirtual 129, 3) := by decide +kernel
theorem dX0_takeOut_5 : decode cX0_takeOut 5 = .ok (.iload_n 1, 1) := by decide +kernel
theorem dX0_takeOut_6 : decode cX0_takeOut 6 = .ok (.bipush 8, 2) := by decide +kernel
theorem dX0_takeOut_8 : decode cX0_takeOut 8 = .ok (.idiv, 1) := by decide +kernel
theorem dX0_takeOut_9 : decode cX0_takeOut 9 = .ok (.istore_n 2, 1) := by decide +kernel
theorem dX0_takeOut_10 : decode cX0_takeOut 10 = .ok (.aload_n 0, 1) := by decide +kernel
theorem dX0_takeOut_11 : decode cX0_takeOut 11 = .ok (.iload_n 2, 1) := by decide +kernel
theorem dX0_takeOut_12 : decode cX0_takeOut 12 = .ok (.invokevirtual 132, 3) := by decide +kernel
theorem dX0_takeOut_15 : decode cX0_takeOut 15 = .ok (.istore_n 3, 1) := by decide +kernel
theorem dX0_takeOut_16 : decode cX0_takeOut 16 = .ok (.iload_n 3, 1) := by decide +kernel
theorem dX0_takeOut_17 : decode cX0_takeOut 17 = .ok (.iconst (-1), 1) := by decide +kernel
theorem dX0_takeOut_18 : decode cX0_takeOut 18 = .ok (.if_icmp .eq 30, 3) := by decide +kernel
theorem dX0_takeOut_21 : decode cX0_takeOut 21 = .ok (.iload_n 2, 1) := by decide +kernel
theorem dX0_takeOut_22 : decode cX0_takeOut 22 = .ok (.iload_n 3, 1) := by decide +kernel
theorem dX0_takeOut_23 : decode cX0_takeOut 23 = .ok (.invokestatic 103, 3) := by decide +kernel
theorem dX0_takeOut_26 : decode cX0_takeOut 26 = .ok (.istore 4, 2) := by decide +kernel
theorem dX0_takeOut_28 : decode cX0_takeOut 28 = .ok (.aload_n 0, 1) := by decide +kernel
theorem dX0_takeOut_29 : decode cX0_takeOut 29 = .ok (.iload 4, 2) := by decide +kernel
theorem dX0_takeOut_31 : decode cX0_takeOut 31 = .ok (.iload_n 3, 1) := by decide +kernel
theorem dX0_takeOut_32 : decode cX0_takeOut 32 = .ok (.aload_n 0, 1) := by decide +kernel
theorem dX0_takeOut_33 : decode cX0_takeOut 33 = .ok (.iload 4, 2) := by decide +kernel
theorem dX0_takeOut_35 : decode cX0_takeOut 35 = .ok (.iload_n 3, 1) := by decide +kernel
theorem dX0_takeOut_36 : decode cX0_takeOut 36 = .ok (.invokestatic 73, 3) := by decide +kernel
theorem dX0_takeOut_39 : decode cX0_takeOut 39 = .ok (.invokevirtual 118, 3) := by decide +kernel
theorem dX0_takeOut_42 : decode cX0_takeOut 42 = .ok (.invokevirtual 125, 3) := by decide +kernel
theorem dX0_takeOut_45 : decode cX0_takeOut 45 = .ok (.goto 18, 3) := by decide +kernel
theorem dX0_takeOut_48 : decode cX0_takeOut 48 = .ok (.aload_n 0, 1) := by decide +kernel
theorem dX0_takeOut_49 : decode cX0_takeOut 49 = .ok (.getfield 32, 3) := by decide +kernel
theorem dX0_takeOut_52 : decode cX0_takeOut 52 = .ok (.aload_n 0, 1) := by decide +kernel
theorem dX0_takeOut_53 : decode cX0_takeOut 53 = .ok (.getfield 28, 3) := by decide +kernel
theorem dX0_takeOut_56 : decode cX0_takeOut 56 = .ok (.if_icmp .le 7, 3) := by decide +kernel
theorem dX0_takeOut_59 : decode cX0_takeOut 59 = .ok (.aload_n 0, 1) := by decide +kernel
theorem dX0_takeOut_60 : decode cX0_takeOut 60 = .ok (.invokevirtual 135, 3) := by decide +kernel
theorem dX0_takeOut_63 : decode cX0_takeOut 63 = .ok (.return_, 1) := by decide +kernel
theorem dX0_halve_0 : decode cX0_halve 0 = .ok (.aload_n 0, 1) := by decide +kernel
theorem dX0_halve_1 : decode cX0_halve 1 = .ok (.iconst 0, 1) := by decide +kernel
theorem dX0_halve_2 : decode cX0_halve 2 = .ok (.aload_n 0, 1) := by decide +kernel
theorem dX0_halve_3 : decode cX0_halve 3 = .ok (.invokevirtual 61, 3) := by decide +kernel
theorem dX0_halve_6 : decode cX0_halve 6 = .ok (.invokevirtual 118, 3) := by decide +kernel
theorem dX0_halve_9 : decode cX0_halve 9 = .ok (.istore_n 1, 1) := by decide +kernel
theorem dX0_halve_10 : decode cX0_halve 10 = .ok (.aload_n 0, 1) := by decide +kernel
theorem dX0_halve_11 : decode cX0_halve 11 = .ok (.dup, 1) := by decide +kernel
theorem dX0_halve_12 : decode cX0_halve 12 = .ok (.getfield 32, 3) := by decide +kernel
theorem dX0_halve_15 : decode cX0_halve 15 = .ok (.iconst 1, 1) := by decide +kernel
theorem dX0_halve_16 : decode cX0_halve 16 = .ok (.isub, 1) := by decide +kernel
theorem dX0_halve_17 : decode cX0_halve 17 = .ok (.putfield 32, 3) := by decide +kernel
theorem dX0_halve_20 : decode cX0_halve 20 = .ok (.aload_n 0, 1) := by decide +kernel
theorem dX0_halve_21 : decode cX0_halve 21 = .ok (.iconst 0, 1) := by decide +kernel
theorem dX0_halve_22 : decode cX0_halve 22 = .ok (.aload_n 0, 1) := by decide +kernel
theorem dX0_halve_23 : decode cX0_halve 23 = .ok (.getfield 32, 3) := by decide +kernel
theorem dX0_halve_26 : decode cX0_halve 26 = .ok (.iload_n 1, 1) := by decide +kernel
theorem dX0_halve_27 : decode cX0_halve 27 = .ok (.invokevirtual 125, 3) := by decide +kernel
theorem dX0_halve_30 : decode cX0_halve 30 = .ok (.return_, 1) := by decide +kernel
theorem dX0_pack_0 : decode cX0_pack 0 = .ok (.iload_n 1, 1) := by decide +kernel
theorem dX0_pack_1 : decode cX0_pack 1 = .ok (.istore_n 3, 1) := by decide +kernel
theorem dX0_pack_2 : decode cX0_pack 2 = .ok (.iload_n 1, 1) := by decide +kernel
theorem dX0_pack_3 : decode cX0_pack 3 = .ok (.istore 4, 2) := by decide +kernel
theorem dX0_pack_5 : decode cX0_pack 5 = .ok (.iload 4, 2) := by decide +kernel
theorem dX0_pack_7 : decode cX0_pack 7 = .ok (.iload_n 1, 1) := by decide +kernel
theorem dX0_pack_8 : decode cX0_pack 8 = .ok (.iload_n 2, 1) := by decide +kernel
theorem dX0_pack_9 : decode cX0_pack 9 = .ok (.iadd, 1) := by decide +kernel
theorem dX0_pack_10 : decode cX0_pack 10 = .ok (.if_icmp .ge 33, 3) := by decide +kernel
theorem dX0_pack_13 : decode cX0_pack 13 = .ok (.aload_n 0, 1) := by decide +kernel
theorem dX0_pack_14 : decode cX0_pack 14 = .ok (.getfield 9, 3) := by decide +kernel
theorem dX0_pack_17 : decode cX0_pack 17 = .ok (.iload 4, 2) := by decide +kernel
theorem dX0_pack_19 : decode cX0_pack 19 = .ok (.laload, 1) := by decide +kernel
theorem dX0_pack_20 : decode cX0_pack 20 = .ok (.ldc2_w 13, 3) := by decide +kernel
theorem dX0_pack_23 : decode cX0_pack 23 = .ok (.lcmp, 1) := by decide +kernel
theorem dX0_pack_24 : decode cX0_pack 24 = .ok (.ifCond .eq 13, 3) := by decide +kernel
theorem dX0_pack_27 : decode cX0_pack 27 = .ok (.aload_n 0, 1) := by decide +kernel
theorem dX0_pack_28 : decode cX0_pack 28 = .ok (.iload 4, 2) := by decide +kernel
theorem dX0_pack_30 : decode cX0_pack 30 = .ok (.iload_n 3, 1) := by decide +kernel
theorem dX0_pack_31 : decode cX0_pack 31 = .ok (.invokevirtual 138, 3) := by decide +kernel
theorem dX0_pack_34 : decode cX0_pack 34 = .ok (.iinc 3 1, 3) := by decide +kernel
theorem dX0_pack_37 : decode cX0_pack 37 = .ok (.iinc 4 1, 3) := by decide +kernel
theorem dX0_pack_40 : decode cX0_pack 40 = .ok (.goto (-35), 3) := by decide +kernel
theorem dX0_pack_43 : decode cX0_pack 43 = .ok (.iload_n 3, 1) := by decide +kernel
theorem dX0_pack_44 : decode cX0_pack 44 = .ok (.iload_n 1, 1) := by decide +kernel
theorem dX0_pack_45 : decode cX0_pack 45 = .ok (.isub, 1) := by decide +kernel
theorem dX0_pack_46 : decode cX0_pack 46 = .ok (.ireturn, 1) := by decide +kernel
theorem dX0_insertPacked_0 : decode cX0_insertPacked 0 = .ok (.iload_n 1, 1) := by decide +kernel
theorem dX0_insertPacked_1 : decode cX0_insertPacked 1 = .ok (.iload_n 2, 1) := by decide +kernel
theorem dX0_insertPacked_2 : decode cX0_insertPacked 2 = .ok (.iadd, 1) := by decide +kernel
theorem dX0_insertPacked_3 : decode cX0_insertPacked 3 = .ok (.istore 7, 2) := by decide +kernel
theorem dX0_insertPacked_5 : decode cX0_insertPacked 5 = .ok (.iload 7, 2) := by decide +kernel
theorem dX0_insertPacked_7 : decode cX0_insertPacked 7 = .ok (.iload_n 1, 1) := by decide +kernel
theorem dX0_insertPacked_8 : decode cX0_insertPacked 8 = .ok (.if_icmp .le 33, 3) := by decide +kernel
theorem dX0_insertPacked_11 : decode cX0_insertPacked 11 = .ok (.aload_n 0, 1) := by decide +kernel
theorem dX0_insertPacked_12 : decode cX0_insertPacked 12 = .ok (.getfield 9, 3) := by decide +kernel
theorem dX0_insertPacked_15 : decode cX0_insertPacked 15 = .ok (.iload 7, 2) := by decide +kernel
theorem dX0_insertPacked_17 : decode cX0_insertPacked 17 = .ok (.iconst 1, 1) := by decide +kernel
theorem dX0_insertPacked_18 : decode cX0_insertPacked 18 = .ok (.isub, 1) := by decide +kernel
theorem dX0_insertPacked_19 : decode cX0_insertPacked 19 = .ok (.laload, 1) := by decide +kernel
theorem dX0_insertPacked_20 : decode cX0_insertPacked 20 = .ok (.lload_n 3, 1) := by decide +kernel
theorem dX0_insertPacked_21 : decode cX0_insertPacked 21 = .ok (.lcmp, 1) := by decide +kernel
theorem dX0_insertPacked_22 : decode cX0_insertPacked 22 = .ok (.ifCond .le 19, 3) := by decide +kernel
theorem dX0_insertPacked_25 : decode cX0_insertPacked 25 = .ok (.aload_n 0, 1) := by decide +kernel
theorem dX0_insertPacked_26 : decode cX0_insertPacked 26 = .ok (.iload 7, 2) := by decide +kernel
theorem dX0_insertPacked_28 : decode cX0_insertPacked 28 = .ok (.iconst 1, 1) := by decide +kernel
theorem dX0_insertPacked_29 : decode cX0_insertPacked 29 = .ok (.isub, 1) := by decide +kernel
theorem dX0_insertPacked_30 : decode cX0_insertPacked 30 = .ok (.iload 7, 2) := by decide +kernel
theorem dX0_insertPacked_32 : decode cX0_insertPacked 32 = .ok (.invokevirtual 138, 3) := by decide +kernel
theorem dX0_insertPacked_35 : decode cX0_insertPacked 35 = .ok (.iinc 7 (-1), 3) := by decide +kernel
theorem dX0_insertPacked_38 : decode cX0_insertPacked 38 = .ok (.goto (-33), 3) := by decide +kernel
theorem dX0_insertPacked_41 : decode cX0_insertPacked 41 = .ok (.aload_n 0, 1) := by decide +kernel
theorem dX0_insertPacked_42 : decode cX0_insertPacked 42 = .ok (.getfield 9, 3) := by decide +kernel
theorem dX0_insertPacked_45 : decode cX0_insertPacked 45 = .ok (.iload 7, 2) := by decide +kernel
theorem dX0_insertPacked_47 : decode cX0_insertPacked 47 = .ok (.lload_n 3, 1) := by decide +kernel
theorem dX0_insertPacked_48 : decode cX0_insertPacked 48 = .ok (.lastore, 1) := by decide +kernel
theorem dX0_insertPacked_49 : decode cX0_insertPacked 49 = .ok (.aload_n 0, 1) := by decide +kernel
theorem dX0_insertPacked_50 : decode cX0_insertPacked 50 = .ok (.getfield 21, 3) := by decide +kernel
theorem dX0_insertPacked_53 : decode cX0_insertPacked 53 = .ok (.iload 7, 2) := by decide +kernel
theorem dX0_insertPacked_55 : decode cX0_insertPacked 55 = .ok (.lload 5, 2) := by decide +kernel
theorem dX0_insertPacked_57 : decode cX0_insertPacked 57 = .ok (.lastore, 1) := by decide +kernel
theorem dX0_insertPacked_58 : decode cX0_insertPacked 58 = .ok (.return_, 1) := by decide +kernel
theorem dX0_spreadPacked_0 : decode cX0_spreadPacked 0 = .ok (.iload_n 3, 1) := by decide +kernel
theorem dX0_spreadPacked_1 : decode cX0_spreadPacked 1 = .ok (.iconst 1, 1) := by decide +kernel
theorem dX0_spreadPacked_2 : decode cX0_spreadPacked 2 = .ok (.isub, 1) := by decide +kernel
theorem dX0_spreadPacked_3 : decode cX0_spreadPacked 3 = .ok (.istore 4, 2) := by decide +kernel
theorem dX0_spreadPacked_5 : decode cX0_spreadPacked 5 = .ok (.iload 4, 2) := by decide +kernel
theorem dX0_spreadPacked_7 : decode cX0_spreadPacked 7 = .ok (.ifCond .lt 28, 3) := by decide +kernel
theorem dX0_spreadPacked_10 : decode cX0_spreadPacked 10 = .ok (.aload_n 0, 1) := by decide +kernel
theorem dX0_spreadPacked_11 : decode cX0_spreadPacked 11 = .ok (.iload_n 1, 1) := by decide +kernel
theorem dX0_spreadPacked_12 : decode cX0_spreadPacked 12 = .ok (.iload 4, 2) := by decide +kernel
theorem dX0_spreadPacked_14 : decode cX0_spreadPacked 14 = .ok (.iadd, 1) := by decide +kernel
theorem dX0_spreadPacked_15 : decode cX0_spreadPacked 15 = .ok (.iload_n 1, 1) := by decide +kernel
theorem dX0_spreadPacked_16 : decode cX0_spreadPacked 16 = .ok (.iload 4, 2) := by decide +kernel
theorem dX0_spreadPacked_18 : decode cX0_spreadPacked 18 = .ok (.iload_n 2, 1) := by decide +kernel
theorem dX0_spreadPacked_19 : decode cX0_spreadPacked 19 = .ok (.invokestatic 73, 3) := by decide +kernel
theorem dX0_spreadPacked_22 : decode cX0_spreadPacked 22 = .ok (.imul, 1) := by decide +kernel
theorem dX0_spreadPacked_23 : decode cX0_spreadPacked 23 = .ok (.iload_n 3, 1) := by decide +kernel
theorem dX0_spreadPacked_24 : decode cX0_spreadPacked 24 = .ok (.idiv, 1) := by decide +kernel
theorem dX0_spreadPacked_25 : decode cX0_spreadPacked 25 = .ok (.iadd, 1) := by decide +kernel
theorem dX0_spreadPacked_26 : decode cX0_spreadPacked 26 = .ok (.invokevirtual 138, 3) := by decide +kernel
theorem dX0_spreadPacked_29 : decode cX0_spreadPacked 29 = .ok (.iinc 4 (-1), 3) := by decide +kernel
theorem dX0_spreadPacked_32 : decode cX0_spreadPacked 32 = .ok (.goto (-27), 3) := by decide +kernel
theorem dX0_spreadPacked_35 : decode cX0_spreadPacked 35 = .ok (.aload_n 0, 1) := by decide +kernel
theorem dX0_spreadPacked_36 : decode cX0_spreadPacked 36 = .ok (.iload_n 2, 1) := by decide +kernel
theorem dX0_spreadPacked_37 : decode cX0_spreadPacked 37 = .ok (.putfield 35, 3) := by decide +kernel
theorem dX0_spreadPacked_40 : decode cX0_spreadPacked 40 = .ok (.aload_n 0, 1) := by decide +kernel
theorem dX0_spreadPacked_41 : decode cX0_spreadPacked 41 = .ok (.dup, 1) := by decide +kernel
theorem dX0_spreadPacked_42 : decode cX0_spreadPacked 42 = .ok (.getfield 38, 3) := by decide +kernel
theorem dX0_spreadPacked_45 : decode cX0_spreadPacked 45 = .ok (.iload_n 3, 1) := by decide +kernel
theorem dX0_spreadPacked_46 : decode cX0_spreadPacked 46 = .ok (.i2l, 1) := by decide +kernel
theorem dX0_spreadPacked_47 : decode cX0_spreadPacked 47 = .ok (.ladd, 1) := by decide +kernel
theorem dX0_spreadPacked_48 : decode cX0_spreadPacked 48 = .ok (.putfield 38, 3) := by decide +kernel
theorem dX0_spreadPacked_51 : decode cX0_spreadPacked 51 = .ok (.return_, 1) := by decide +kernel
theorem dX0_shift_0 : decode cX0_shift 0 = .ok (.iload_n 1, 1) := by decide +kernel
theorem dX0_shift_1 : decode cX0_shift 1 = .ok (.iload_n 2, 1) := by decide +kernel
theorem dX0_shift_2 : decode cX0_shift 2 = .ok (.if_icmp .eq 32, 3) := by decide +kernel
theorem dX0_shift_5 : decode cX0_shift 5 = .ok (.aload_n 0, 1) := by decide +kernel
theorem dX0_shift_6 : decode cX0_shift 6 = .ok (.getfield 9, 3) := by decide +kernel
theorem dX0_shift_9 : decode cX0_shift 9 = .ok (.iload_n 2, 1) := by decide +kernel
theorem dX0_shift_10 : decode cX0_shift 10 = .ok (.aload_n 0, 1) := by decide +kernel
theorem dX0_shift_11 : decode cX0_shift 11 = .ok (.getfield 9, 3) := by decide +kernel
theorem dX0_shift_14 : decode cX0_shift 14 = .ok (.iload_n 1, 1) := by decide +kernel
theorem dX0_shift_15 : decode cX0_shift 15 = .ok (.laload, 1) := by decide +kernel
theorem dX0_shift_16 : decode cX0_shift 16 = .ok (.lastore, 1) := by decide +kernel
theorem dX0_shift_17 : decode cX0_shift 17 = .ok (.aload_n 0, 1) := by decide +kernel
theorem dX0_shift_18 : decode cX0_shift 18 = .ok (.getfield 21, 3) := by decide +kernel
theorem dX0_shift_21 : decode cX0_shift 21 = .ok (.iload_n 2, 1) := by decide +kernel
theorem dX0_shift_22 : decode cX0_shift 22 = .ok (.aload_n 0, 1) := by decide +kernel
theorem dX0_shift_23 : decode cX0_shift 23 = .ok (.getfield 21, 3) := by decide +kernel
theorem dX0_shift_26 : decode cX0_shift 26 = .ok (.iload_n 1, 1) := by decide +kernel
theorem dX0_shift_27 : decode cX0_shift 27 = .ok (.laload, 1) := by decide +kernel
theorem dX0_shift_28 : decode cX0_shift 28 = .ok (.lastore, 1) := by decide +kernel
theorem dX0_shift_29 : decode cX0_shift 29 = .ok (.aload_n 0, 1) := by decide +kernel
theorem dX0_shift_30 : decode cX0_shift 30 = .ok (.iload_n 1, 1) := by decide +kernel
theorem dX0_shift_31 : decode cX0_shift 31 = .ok (.invokevirtual 129, 3) := by decide +kernel
theorem dX0_shift_34 : decode cX0_shift 34 = .ok (.return_, 1) := by decide +kernel
theorem dX0_clear_0 : decode cX0_clear 0 = .ok (.aload_n 0, 1) := by decide +kernel
theorem dX0_clear_1 : decode cX0_clear 1 = .ok (.getfield 9, 3) := by decide +kernel
theorem dX0_clear_4 : decode cX0_clear 4 = .ok (.iload_n 1, 1) := by decide +kernel
theorem dX0_clear_5 : decode cX0_clear 5 = .ok (.ldc2_w 13, 3) := by decide +kernel
theorem dX0_clear_8 : decode cX0_clear 8 = .ok (.lastore, 1) := by decide +kernel
theorem dX0_clear_9 : decode cX0_clear 9 = .ok (.aload_n 0, 1) := by decide +kernel
theorem dX0_clear_10 : decode cX0_clear 10 = .ok (.getfield 21, 3) := by decide +kernel
theorem dX0_clear_13 : decode cX0_clear 13 = .ok (.iload_n 1, 1) := by decide +kernel
theorem dX0_clear_14 : decode cX0_clear 14 = .ok (.lconst 0, 1) := by decide +kernel
theorem dX0_clear_15 : decode cX0_clear 15 = .ok (.lastore, 1) := by decide +kernel
theorem dX0_clear_16 : decode cX0_clear 16 = .ok (.return_, 1) := by decide +kernel
theorem dJ7_fill_d0a16_0 : decode cJ7_fill_d0a16 0 = .ok (.iconst 0, 1) := by decide +kernel
theorem dJ7_fill_d0a16_1 : decode cJ7_fill_d0a16 1 = .ok (.istore_n 3, 1) := by decide +kernel
theorem dJ7_fill_d0a16_2 : decode cJ7_fill_d0a16 2 = .ok (.aload_n 0, 1) := by decide +kernel
theorem dJ7_fill_d0a16_3 : decode cJ7_fill_d0a16 3 = .ok (.arraylength, 1) := by decide +kernel
theorem dJ7_fill_d0a16_4 : decode cJ7_fill_d0a16 4 = .ok (.istore 4, 2) := by decide +kernel
theorem dJ7_fill_d0a16_6 : decode cJ7_fill_d0a16 6 = .ok (.iload_n 3, 1) := by decide +kernel
theorem dJ7_fill_d0a16_7 : decode cJ7_fill_d0a16 7 = .ok (.iload 4, 2) := by decide +kernel
theorem dJ7_fill_d0a16_9 : decode cJ7_fill_d0a16 9 = .ok (.if_icmp .ge 13, 3) := by decide +kernel
theorem dJ7_fill_d0a16_12 : decode cJ7_fill_d0a16 12 = .ok (.aload_n 0, 1) := by decide +kernel
theorem dJ7_fill_d0a16_13 : decode cJ7_fill_d0a16 13 = .ok (.iload_n 3, 1) := by decide +kernel
theorem dJ7_fill_d0a16_14 : decode cJ7_fill_d0a16 14 = .ok (.lload_n 1, 1) := by decide +kernel
theorem dJ7_fill_d0a16_15 : decode cJ7_fill_d0a16 15 = .ok (.lastore, 1) := by decide +kernel
theorem dJ7_fill_d0a16_16 : decode cJ7_fill_d0a16 16 = .ok (.iinc 3 1, 3) := by decide +kernel
theorem dJ7_fill_d0a16_19 : decode cJ7_fill_d0a16 19 = .ok (.goto (-13), 3) := by decide +kernel
theorem dJ7_fill_d0a16_22 : decode cJ7_fill_d0a16 22 = .ok (.return_, 1) := by decide +kernel
theorem dL_cell_0 : decode cL_cell 0 = .ok (.iload_n 1, 1) := by decide +kernel
theorem dL_cell_1 : decode cL_cell 1 = .ok (.aload_n 0, 1) := by decide +kernel
theorem dL_cell_2 : decode cL_cell 2 = .ok (.arraylength, 1) := by decide +kernel
theorem dL_cell_3 : decode cL_cell 3 = .ok (.if_icmp .ge 9, 3) := by decide +kernel
theorem dL_cell_6 : decode cL_cell 6 = .ok (.aload_n 0, 1) := by decide +kernel
theorem dL_cell_7 : decode cL_cell 7 = .ok (.iload_n 1, 1) := by decide +kernel
theorem dL_cell_8 : decode cL_cell 8 = .ok (.iaload, 1) := by decide +kernel
theorem dL_cell_9 : decode cL_cell 9 = .ok (.goto 4, 3) := by decide +kernel
theorem dL_cell_12 : decode cL_cell 12 = .ok (.iconst 0, 1) := by decide +kernel
theorem dL_cell_13 : decode cL_cell 13 = .ok (.ireturn, 1) := by decide +kernel
