theorem dX3_init_0 : decode cX3_init 0 = .ok (.aload_n 0, 1) := by decide +kernel
theorem dX3_init_1 : decode cX3_init 1 = .ok (.invokespecial 1, 3) := by decide +kernel
theorem dX3_init_4 : decode cX3_init 4 = .ok (.aload_n 0, 1) := by decide +kernel
theorem dX3_init_5 : decode cX3_init 5 = .ok (.sipush 5184, 3) := by decide +kernel
theorem dX3_init_8 : decode cX3_init 8 = .ok (.newarray .int, 2) := by decide +kernel
theorem dX3_init_10 : decode cX3_init 10 = .ok (.putfield 7, 3) := by decide +kernel
theorem dX3_init_13 : decode cX3_init 13 = .ok (.aload_n 0, 1) := by decide +kernel
theorem dX3_init_14 : decode cX3_init 14 = .ok (.sipush 5184, 3) := by decide +kernel
theorem dX3_init_17 : decode cX3_init 17 = .ok (.newarray .int, 2) := by decide +kernel
theorem dX3_init_19 : decode cX3_init 19 = .ok (.putfield 13, 3) := by decide +kernel
theorem dX3_init_22 : decode cX3_init 22 = .ok (.aload_n 0, 1) := by decide +kernel
theorem dX3_init_23 : decode cX3_init 23 = .ok (.sipush 1296, 3) := by decide +kernel
theorem dX3_init_26 : decode cX3_init 26 = .ok (.newarray .int, 2) := by decide +kernel
theorem dX3_init_28 : decode cX3_init 28 = .ok (.putfield 16, 3) := by decide +kernel
theorem dX3_init_31 : decode cX3_init 31 = .ok (.aload_n 0, 1) := by decide +kernel
theorem dX3_init_32 : decode cX3_init 32 = .ok (.sipush 1296, 3) := by decide +kernel
theorem dX3_init_35 : decode cX3_init 35 = .ok (.newarray .int, 2) := by decide +kernel
theorem dX3_init_37 : decode cX3_init 37 = .ok (.putfield 19, 3) := by decide +kernel
theorem dX3_init_40 : decode cX3_init 40 = .ok (.aload_n 0, 1) := by decide +kernel
theorem dX3_init_41 : decode cX3_init 41 = .ok (.bipush 96, 2) := by decide +kernel
theorem dX3_init_43 : decode cX3_init 43 = .ok (.newarray .int, 2) := by decide +kernel
theorem dX3_init_45 : decode cX3_init 45 = .ok (.putfield 22, 3) := by decide +kernel
theorem dX3_init_48 : decode cX3_init 48 = .ok (.aload_n 0, 1) := by decide +kernel
theorem dX3_init_49 : decode cX3_init 49 = .ok (.bipush 96, 2) := by decide +kernel
theorem dX3_init_51 : decode cX3_init 51 = .ok (.newarray .int, 2) := by decide +kernel
theorem dX3_init_53 : decode cX3_init 53 = .ok (.putfield 25, 3) := by decide +kernel
theorem dX3_init_56 : decode cX3_init 56 = .ok (.aload_n 0, 1) := by decide +kernel
theorem dX3_init_57 : decode cX3_init 57 = .ok (.bipush 96, 2) := by decide +kernel
theorem dX3_init_59 : decode cX3_init 59 = .ok (.newarray .int, 2) := by decide +kernel
theorem dX3_init_61 : decode cX3_init 61 = .ok (.putfield 28, 3) := by decide +kernel
theorem dX3_init_64 : decode cX3_init 64 = .ok (.aload_n 0, 1) := by decide +kernel
theorem dX3_init_65 : decode cX3_init 65 = .ok (.iload_n 1, 1) := by decide +kernel
theorem dX3_init_66 : decode cX3_init 66 = .ok (.iconst 1, 1) := by decide +kernel
theorem dX3_init_67 : decode cX3_init 67 = .ok (.if_icmp .ge 7, 3) := by decide +kernel
theorem dX3_init_70 : decode cX3_init 70 = .ok (.iconst 1, 1) := by decide +kernel
theorem dX3_init_71 : decode cX3_init 71 = .ok (.goto 13, 3) := by decide +kernel
theorem dX3_init_74 : decode cX3_init 74 = .ok (.iload_n 1, 1) := by decide +kernel
theorem dX3_init_75 : decode cX3_init 75 = .ok (.iconst 3, 1) := by decide +kernel
theorem dX3_init_76 : decode cX3_init 76 = .ok (.if_icmp .le 7, 3) := by decide +kernel
theorem dX3_init_79 : decode cX3_init 79 = .ok (.iconst 3, 1) := by decide +kernel
theorem dX3_init_80 : decode cX3_init 80 = .ok (.goto 4, 3) := by decide +kernel
theorem dX3_init_83 : decode cX3_init 83 = .ok (.iload_n 1, 1) := by decide +kernel
theorem dX3_init_84 : decode cX3_init 84 = .ok (.putfield 31, 3) := by decide +kernel
theorem dX3_init_87 : decode cX3_init 87 = .ok (.return_, 1) := by decide +kernel
theorem dX3_placeOf_0 : decode cX3_placeOf 0 = .ok (.iload_n 0, 1) := by decide +kernel
theorem dX3_placeOf_1 : decode cX3_placeOf 1 = .ok (.ifCond .lt 10, 3) := by decide +kernel
theorem dX3_placeOf_4 : decode cX3_placeOf 4 = .ok (.iload_n 0, 1) := by decide +kernel
theorem dX3_placeOf_5 : decode cX3_placeOf 5 = .ok (.sipush 5555, 3) := by decide +kernel
theorem dX3_placeOf_8 : decode cX3_placeOf 8 = .ok (.if_icmp .le 5, 3) := by decide +kernel
theorem dX3_placeOf_11 : decode cX3_placeOf 11 = .ok (.iconst (-1), 1) := by decide +kernel
theorem dX3_placeOf_12 : decode cX3_placeOf 12 = .ok (.ireturn, 1) := by decide +kernel
theorem dX3_placeOf_13 : decode cX3_placeOf 13 = .ok (.iconst 0, 1) := by decide +kernel
theorem dX3_placeOf_14 : decode cX3_placeOf 14 = .ok (.istore_n 1, 1) := by decide +kernel
theorem dX3_placeOf_15 : decode cX3_placeOf 15 = .ok (.sipush 1000, 3) := by decide +kernel
theorem dX3_placeOf_18 : decode cX3_placeOf 18 = .ok (.istore_n 2, 1) := by decide +kernel
theorem dX3_placeOf_19 : decode cX3_placeOf 19 = .ok (.iload_n 2, 1) := by decide +kernel
theorem dX3_placeOf_20 : decode cX3_placeOf 20 = .ok (.ifCond .le 42, 3) := by decide +kernel
theorem dX3_placeOf_23 : decode cX3_placeOf 23 = .ok (.iload_n 0, 1) := by decide +kernel
theorem dX3_placeOf_24 : decode cX3_placeOf 24 = .ok (.iload_n 2, 1) := by decide +kernel
theorem dX3_placeOf_25 : decode cX3_placeOf 25 = .ok (.idiv, 1) := by decide +kernel
theorem dX3_placeOf_26 : decode cX3_placeOf 26 = .ok (.bipush 10, 2) := by decide +kernel
theorem dX3_placeOf_28 : decode cX3_placeOf 28 = .ok (.irem, 1) := by decide +kernel
theorem dX3_placeOf_29 : decode cX3_placeOf 29 = .ok (.istore_n 3, 1) := by decide +kernel
theorem dX3_placeOf_30 : decode cX3_placeOf 30 = .ok (.iload_n 0, 1) := by decide +kernel
theorem dX3_placeOf_31 : decode cX3_placeOf 31 = .ok (.iload_n 2, 1) := by decide +kernel
theorem dX3_placeOf_32 : decode cX3_placeOf 32 = .ok (.if_icmp .lt 15, 3) := by decide +kernel
theorem dX3_placeOf_35 : decode cX3_placeOf 35 = .ok (.iload_n 3, 1) := by decide +kernel
theorem dX3_placeOf_36 : decode cX3_placeOf 36 = .ok (.iconst 1, 1) := by decide +kernel
theorem dX3_placeOf_37 : decode cX3_placeOf 37 = .ok (.if_icmp .lt 8, 3) := by decide +kernel
theorem dX3_placeOf_40 : decode cX3_placeOf 40 = .ok (.iload_n 3, 1) := by decide +kernel
theorem dX3_placeOf_41 : decode cX3_placeOf 41 = .ok (.iconst 5, 1) := by decide +kernel
theorem dX3_placeOf_42 : decode cX3_placeOf 42 = .ok (.if_icmp .le 5, 3) := by decide +kernel
theorem dX3_placeOf_45 : decode cX3_placeOf 45 = .ok (.iconst (-1), 1) := by decide +kernel
theorem dX3_placeOf_46 : decode cX3_placeOf 46 = .ok (.ireturn, 1) := by decide +kernel
theorem dX3_placeOf_47 : decode cX3_placeOf 47 = .ok (.bipush 6, 2) := by decide +kernel
theorem dX3_placeOf_49 : decode cX3_placeOf 49 = .ok (.iload_n 1, 1) := by decide +kernel
theorem dX3_placeOf_50 : decode cX3_placeOf 50 = .ok (.imul, 1) := by decide +kernel
theorem dX3_placeOf_51 : decode cX3_placeOf 51 = .ok (.iload_n 3, 1) := by decide +kernel
theorem dX3_placeOf_52 : decode cX3_placeOf 52 = .ok (.iadd, 1) := by decide +kernel
theorem dX3_placeOf_53 : decode cX3_placeOf 53 = .ok (.istore_n 1, 1) := by decide +kernel
theorem dX3_placeOf_54 : decode cX3_placeOf 54 = .ok (.iload_n 2, 1) := by decide +kernel
theorem dX3_placeOf_55 : decode cX3_placeOf 55 = .ok (.bipush 10, 2) := by decide +kernel
theorem dX3_placeOf_57 : decode cX3_placeOf 57 = .ok (.idiv, 1) := by decide +kernel
theorem dX3_placeOf_58 : decode cX3_placeOf 58 = .ok (.istore_n 2, 1) := by decide +kernel
theorem dX3_placeOf_59 : decode cX3_placeOf 59 = .ok (.goto (-40), 3) := by decide +kernel
theorem dX3_placeOf_62 : decode cX3_placeOf 62 = .ok (.iload_n 1, 1) := by decide +kernel
theorem dX3_placeOf_63 : decode cX3_placeOf 63 = .ok (.ireturn, 1) := by decide +kernel
theorem dX3_depth_0 : decode cX3_depth 0 = .ok (.iload_n 0, 1) := by decide +kernel
theorem dX3_depth_1 : decode cX3_depth 1 = .ok (.ifCond .ne 7, 3) := by decide +kernel
theorem dX3_depth_4 : decode cX3_depth 4 = .ok (.iconst 0, 1) := by decide +kernel
theorem dX3_depth_5 : decode cX3_depth 5 = .ok (.goto 35, 3) := by decide +kernel
theorem dX3_depth_8 : decode cX3_depth 8 = .ok (.iload_n 0, 1) := by decide +kernel
theorem dX3_depth_9 : decode cX3_depth 9 = .ok (.bipush 6, 2) := by decide +kernel
theorem dX3_depth_11 : decode cX3_depth 11 = .ok (.if_icmp .ge 7, 3) := by decide +kernel
theorem dX3_depth_14 : decode cX3_depth 14 = .ok (.iconst 1, 1) := by decide +kernel
theorem dX3_depth_15 : decode cX3_depth 15 = .ok (.goto 25, 3) := by decide +kernel
theorem dX3_depth_18 : decode cX3_depth 18 = .ok (.iload_n 0, 1) := by decide +kernel
theorem dX3_depth_19 : decode cX3_depth 19 = .ok (.bipush 36, 2) := by decide +kernel
theorem dX3_depth_21 : decode cX3_depth 21 = .ok (.if_icmp .ge 7, 3) := by decide +kernel
theorem dX3_depth_24 : decode cX3_depth 24 = .ok (.iconst 2, 1) := by decide +kernel
theorem dX3_depth_25 : decode cX3_depth 25 = .ok (.goto 15, 3) := by decide +kernel
theorem dX3_depth_28 : decode cX3_depth 28 = .ok (.iload_n 0, 1) := by decide +kernel
theorem dX3_depth_29 : decode cX3_depth 29 = .ok (.sipush 216, 3) := by decide +kernel
theorem dX3_depth_32 : decode cX3_depth 32 = .ok (.if_icmp .ge 7, 3) := by decide +kernel
theorem dX3_depth_35 : decode cX3_depth 35 = .ok (.iconst 3, 1) := by decide +kernel
theorem dX3_depth_36 : decode cX3_depth 36 = .ok (.goto 4, 3) := by decide +kernel
theorem dX3_depth_39 : decode cX3_depth 39 = .ok (.iconst 4, 1) := by decide +kernel
theorem dX3_depth_40 : decode cX3_depth 40 = .ok (.ireturn, 1) := by decide +kernel
theorem dX3_without_0 : decode cX3_without 0 = .ok (.iload_n 0, 1) := by decide +kernel
theorem dX3_without_1 : decode cX3_without 1 = .ok (.istore_n 2, 1) := by decide +kernel
theorem dX3_without_2 : decode cX3_without 2 = .ok (.iconst 0, 1) := by decide +kernel
theorem dX3_without_3 : decode cX3_without 3 = .ok (.istore_n 3, 1) := by decide +kernel
theorem dX3_without_4 : decode cX3_without 4 = .ok (.iload_n 3, 1) := by decide +kernel
theorem dX3_without_5 : decode cX3_without 5 = .ok (.iload_n 1, 1) := by decide +kernel
theorem dX3_without_6 : decode cX3_without 6 = .ok (.if_icmp .ge 14, 3) := by decide +kernel
theorem dX3_without_9 : decode cX3_without 9 = .ok (.iload_n 2, 1) := by decide +kernel
theorem dX3_without_10 : decode cX3_without 10 = .ok (.bipush 6, 2) := by decide +kernel
theorem dX3_without_12 : decode cX3_without 12 = .ok (.idiv, 1) := by decide +kernel
theorem dX3_without_13 : decode cX3_without 13 = .ok (.istore_n 2, 1) := by decide +kernel
theorem dX3_without_14 : decode cX3_without 14 = .ok (.iinc 3 1, 3) := by decide +kernel
theorem dX3_without_17 : decode cX3_without 17 = .ok (.goto (-13), 3) := by decide +kernel
theorem dX3_without_20 : decode cX3_without 20 = .ok (.iload_n 2, 1) := by decide +kernel
theorem dX3_without_21 : decode cX3_without 21 = .ok (.ireturn, 1) := by decide +kernel
theorem dX3_isPath_0 : decode cX3_isPath 0 = .ok (.iload_n 0, 1) := by decide +kernel
theorem dX3_isPath_1 : decode cX3_isPath 1 = .ok (.ifCond .le 7, 3) := by decide +kernel
theorem dX3_isPath_4 : decode cX3_isPath 4 = .ok (.iconst 1, 1) := by decide +kernel
theorem dX3_isPath_5 : decode cX3_isPath 5 = .ok (.goto 4, 3) := by decide +kernel
theorem dX3_isPath_8 : decode cX3_isPath 8 = .ok (.iconst 0, 1) := by decide +kernel
theorem dX3_isPath_9 : decode cX3_isPath 9 = .ok (.istore_n 1, 1) := by decide +kernel
theorem dX3_isPath_10 : decode cX3_isPath 10 = .ok (.iload_n 0, 1) := by decide +kernel
theorem dX3_isPath_11 : decode cX3_isPath 11 = .ok (.istore_n 2, 1) := by decide +kernel
theorem dX3_isPath_12 : decode cX3_isPath 12 = .ok (.iload_n 2, 1) := by decide +kernel
theorem dX3_isPath_13 : decode cX3_isPath 13 = .ok (.ifCond .le 28, 3) := by decide +kernel
theorem dX3_isPath_16 : decode cX3_isPath 16 = .ok (.iload_n 1, 1) := by decide +kernel
theorem dX3_isPath_17 : decode cX3_isPath 17 = .ok (.ifCond .eq 14, 3) := by decide +kernel
theorem dX3_isPath_20 : decode cX3_isPath 20 = .ok (.iload_n 2, 1) := by decide +kernel
theorem dX3_isPath_21 : decode cX3_isPath 21 = .ok (.bipush 6, 2) := by decide +kernel
theorem dX3_isPath_23 : decode cX3_isPath 23 = .ok (.irem, 1) := by decide +kernel
theorem dX3_isPath_24 : decode cX3_isPath 24 = .ok (.ifCond .le 7, 3) := by decide +kernel
theorem dX3_isPath_27 : decode cX3_isPath 27 = .ok (.iconst 1, 1) := by decide +kernel
theorem dX3_isPath_28 : decode cX3_isPath 28 = .ok (.goto 4, 3) := by decide +kernel
theorem dX3_isPath_31 : decode cX3_isPath 31 = .ok (.iconst 0, 1) := by decide +kernel
theorem dX3_isPath_32 : decode cX3_isPath 32 = .ok (.istore_n 1, 1) := by decide +kernel
theorem dX3_isPath_33 : decode cX3_isPath 33 = .ok (.iload_n 2, 1) := by decide +kernel
theorem dX3_isPath_34 : decode cX3_isPath 34 = .ok (.bipush 6, 2) := by decide +kernel
theorem dX3_isPath_36 : decode cX3_isPath 36 = .ok (.idiv, 1) := by decide +kernel
theorem dX3_isPath_37 : decode cX3_isPath 37 = .ok (.istore_n 2, 1) := by decide +kernel
theorem dX3_isPath_38 : decode cX3_isPath 38 = .ok (.goto (-26), 3) := by decide +kernel
theorem dX3_isPath_41 : decode cX3_isPath 41 = .ok (.iload_n 1, 1) := by decide +kernel
theorem dX3_isPath_42 : decode cX3_isPath 42 = .ok (.ireturn, 1) := by decide +kernel
theorem dX3_isBelow_0 : decode cX3_isBelow 0 = .ok (.iload_n 0, 1) := by decide +kernel
theorem dX3_isBelow_1 : decode cX3_isBelow 1 = .ok (.invokestatic 35, 3) := by decide +kernel
theorem dX3_isBelow_4 : decode cX3_isBelow 4 = .ok (.iload_n 1, 1) := by decide +kernel
theorem dX3_isBelow_5 : decode cX3_isBelow 5 = .ok (.invokestatic 35, 3) := by decide +kernel
theorem dX3_isBelow_8 : decode cX3_isBelow 8 = .ok (.isub, 1) := by decide +kernel
theorem dX3_isBelow_9 : decode cX3_isBelow 9 = .ok (.istore_n 2, 1) := by decide +kernel
theorem dX3_isBelow_10 : decode cX3_isBelow 10 = .ok (.iload_n 2, 1) := by decide +kernel
theorem dX3_isBelow_11 : decode cX3_isBelow 11 = .ok (.ifCond .le 16, 3) := by decide +kernel
theorem dX3_isBelow_14 : decode cX3_isBelow 14 = .ok (.iload_n 0, 1) := by decide +kernel
theorem dX3_isBelow_15 : decode cX3_isBelow 15 = .ok (.iload_n 2, 1) := by decide +kernel
theorem dX3_isBelow_16 : decode cX3_isBelow 16 = .ok (.invokestatic 39, 3) := by decide +kernel
theorem dX3_isBelow_19 : decode cX3_isBelow 19 = .ok (.iload_n 1, 1) := by decide +kernel
theorem dX3_isBelow_20 : decode cX3_isBelow 20 = .ok (.if_icmp .ne 7, 3) := by decide +kernel
theorem dX3_isBelow_23 : decode cX3_isBelow 23 = .ok (.iconst 1, 1) := by decide +kernel
theorem dX3_isBelow_24 : decode cX3_isBelow 24 = .ok (.goto 4, 3) := by decide +kernel
theorem dX3_isBelow_27 : decode cX3_isBelow 27 = .ok (.iconst 0, 1) := by decide +kernel
theorem dX3_isBelow_28 : decode cX3_isBelow 28 = .ok (.ireturn, 1) := by decide +kernel
theorem dX3_resolve_0 : decode cX3_resolve 0 = .ok (.aload_n 0, 1) := by decide +kernel
theorem dX3_resolve_1 : decode cX3_resolve 1 = .ok (.iconst 0, 1) := by decide +kernel
theorem dX3_resolve_2 : decode cX3_resolve 2 = .ok (.putfield 43, 3) := by decide +kernel
theorem dX3_resolve_5 : decode cX3_resolve 5 = .ok (.aload_n 0, 1) := by decide +kernel
theorem dX3_resolve_6 : decode cX3_resolve 6 = .ok (.iconst 0, 1) := by decide +kernel
theorem dX3_resolve_7 : decode cX3_resolve 7 = .ok (.putfield 46, 3) := by decide +kernel
theorem dX3_resolve_10 : decode cX3_resolve 10 = .ok (.aload_n 0, 1) := by decide +kernel
theorem dX3_resolve_11 : decode cX3_resolve 11 = .ok (.iconst (-1), 1) := by decide +kernel
theorem dX3_resolve_12 : decode cX3_resolve 12 = .ok (.putfield 49, 3) := by decide +kernel
theorem dX3_resolve_15 : decode cX3_resolve 15 = .ok (.aload_n 0, 1) := by decide +kernel
theorem dX3_resolve_16 : decode cX3_resolve 16 = .ok (.iconst 0, 1) := by decide +kernel
theorem dX3_resolve_17 : decode cX3_resolve 17 = .ok (.putfield 52, 3) := by decide +kernel
theorem dX3_resolve_20 : decode cX3_resolve 20 = .ok (.iload_n 3, 1) := by decide +kernel
theorem dX3_resolve_21 : decode cX3_resolve 21 = .ok (.iconst 1, 1) := by decide +kernel
theorem dX3_resolve_22 : decode cX3_resolve 22 = .ok (.isub, 1) := by decide +kernel
theorem dX3_resolve_23 : decode cX3_resolve 23 = .ok (.istore 4, 2) := by decide +kernel
theorem dX3_resolve_25 : decode cX3_resolve 25 = .ok (.iload 4, 2) := by decide +kernel
theorem dX3_resolve_27 : decode cX3_resolve 27 = .ok (.ifCond .lt 146, 3) := by decide +kernel
theorem dX3_resolve_30 : decode cX3_resolve 30 = .ok (.iload_n 2, 1) := by decide +kernel
theorem dX3_resolve_31 : decode cX3_resolve 31 = .ok (.iload 4, 2) := by decide +kernel
theorem dX3_resolve_33 : decode cX3_resolve 33 = .ok (.ishr, 1) := by decide +kernel
theorem dX3_resolve_34 : decode cX3_resolve 34 = .ok (.iconst 1, 1) := by decide +kernel
theorem dX3_resolve_35 : decode cX3_resolve 35 = .ok (.iand, 1) := by decide +kernel
theorem dX3_resolve_36 : decode cX3_resolve 36 = .ok (.iconst 1, 1) := by decide +kernel
theorem dX3_resolve_37 : decode cX3_resolve 37 = .ok (.if_icmp .ne 19, 3) := by decide +kernel
theorem dX3_resolve_40 : decode cX3_resolve 40 = .ok (.aload_n 0, 1) := by decide +kernel
theorem dX3_resolve_41 : decode cX3_resolve 41 = .ok (.getfield 7, 3) := by decide +kernel
theorem dX3_resolve_44 : decode cX3_resolve 44 = .ok (.sipush 1296, 3) := by decide +kernel
theorem dX3_resolve_47 : decode cX3_resolve 47 = .ok (.iload 4, 2) := by decide +kernel
theorem dX3_resolve_49 : decode cX3_resolve 49 = .ok (.imul, 1) := by decide +kernel
theorem dX3_resolve_50 : decode cX3_resolve 50 = .ok (.iload_n 1, 1) := by decide +kernel
theorem dX3_resolve_51 : decode cX3_resolve 51 = .ok (.iadd, 1) := by decide +kernel
theorem dX3_resolve_52 : decode cX3_resolve 52 = .ok (.iaload, 1) := by decide +kernel
theorem dX3_resolve_53 : decode cX3_resolve 53 = .ok (.goto 4, 3) := by decide +kernel
theorem dX3_resolve_56 : decode cX3_resolve 56 = .ok (.iconst 0, 1) := by decide +kernel
theorem dX3_resolve_57 : decode cX3_resolve 57 = .ok (.istore 5, 2) := by decide +kernel
theorem dX3_resolve_59 : decode cX3_resolve 59 = .ok (.iload 5, 2) := by decide +kernel
theorem dX3_resolve_61 : decode cX3_resolve 61 = .ok (.ifCond .le 68, 3) := by decide +kernel
theorem dX3_resolve_64 : decode cX3_resolve 64 = .ok (.aload_n 0, 1) := by decide +kernel
theorem dX3_resolve_65 : decode cX3_resolve 65 = .ok (.getfield 49, 3) := by decide +kernel
theorem dX3_resolve_68 : decode cX3_resolve 68 = .ok (.ifCond .ge 61, 3) := by decide +kernel
theorem dX3_resolve_71 : decode cX3_resolve 71 = .ok (.aload_n 0, 1) := by decide +kernel
theorem dX3_resolve_72 : decode cX3_resolve 72 = .ok (.iload 4, 2) := by decide +kernel
theorem dX3_resolve_74 : decode cX3_resolve 74 = .ok (.putfield 49, 3) := by decide +kernel
theorem dX3_resolve_77 : decode cX3_resolve 77 = .ok (.aload_n 0, 1) := by decide +kernel
theorem dX3_resolve_78 : decode cX3_resolve 78 = .ok (.iload 5, 2) := by decide +kernel
theorem dX3_resolve_80 : decode cX3_resolve 80 = .ok (.iconst 1, 1) := by decide +kernel
theorem dX3_resolve_81 : decode cX3_resolve 81 = .ok (.if_icmp .ne 7, 3) := by decide +kernel
theorem dX3_resolve_84 : decode cX3_resolve 84 = .ok (.iconst 1, 1) := by decide +kernel
theorem dX3_resolve_85 : decode cX3_resolve 85 = .ok (.goto 14, 3) := by decide +kernel
theorem dX3_resolve_88 : decode cX3_resolve 88 = .ok (.iload 5, 2) := by decide +kernel
theorem dX3_resolve_90 : decode cX3_resolve 90 = .ok (.iconst 4, 1) := by decide +kernel
theorem dX3_resolve_91 : decode cX3_resolve 91 = .ok (.if_icmp .ne 7, 3) := by decide +kernel
theorem dX3_resolve_94 : decode cX3_resolve 94 = .ok (.iconst 0, 1) := by decide +kernel
theorem dX3_resolve_95 : decode cX3_resolve 95 = .ok (.goto 4, 3) := by decide +kernel
theorem dX3_resolve_98 : decode cX3_resolve 98 = .ok (.iconst 2, 1) := by decide +kernel
theorem dX3_resolve_99 : decode cX3_resolve 99 = .ok (.putfield 43, 3) := by decide +kernel
theorem dX3_resolve_102 : decode cX3_resolve 102 = .ok (.aload_n 0, 1) := by decide +kernel
theorem dX3_resolve_103 : decode cX3_resolve 103 = .ok (.iload 5, 2) := by decide +kernel
theorem dX3_resolve_105 : decode cX3_resolve 105 = .ok (.iconst 1, 1) := by decide +kernel
theorem dX3_resolve_106 : decode cX3_resolve 106 = .ok (.if_icmp .ne 19, 3) := by decide +kernel
theorem dX3_resolve_109 : decode cX3_resolve 109 = .ok (.aload_n 0, 1) := by decide +kernel
theorem dX3_resolve_110 : decode cX3_resolve 110 = .ok (.getfield 13, 3) := by decide +kernel
theorem dX3_resolve_113 : decode cX3_resolve 113 = .ok (.sipush 1296, 3) := by decide +kernel
theorem dX3_resolve_116 : decode cX3_resolve 116 = .ok (.iload 4, 2) := by decide +kernel
theorem dX3_resolve_118 : decode cX3_resolve 118 = .ok (.imul, 1) := by decide +kernel
theorem dX3_resolve_119 : decode cX3_resolve 119 = .ok (.iload_n 1, 1) := by decide +kernel
theorem dX3_resolve_120 : decode cX3_resolve 120 = .ok (.iadd, 1) := by decide +kernel
theorem dX3_resolve_121 : decode cX3_resolve 121 = .ok (.iaload, 1) := by decide +kernel
theorem dX3_resolve_122 : decode cX3_resolve 122 = .ok (.goto 4, 3) := by decide +kernel
theorem dX3_resolve_125 : decode cX3_resolve 125 = .ok (.iconst 0, 1) := by decide +kernel
theorem dX3_resolve_126 : decode cX3_resolve 126 = .ok (.putfield 52, 3) := by decide +kernel
theorem dX3_resolve_129 : decode cX3_resolve 129 = .ok (.iload 5, 2) := by decide +kernel
theorem dX3_resolve_131 : decode cX3_resolve 131 = .ok (.iconst 2, 1) := by decide +kernel
theorem dX3_resolve_132 : decode cX3_resolve 132 = .ok (.if_icmp .eq 9, 3) := by decide +kernel
theorem dX3_resolve_135 : decode cX3_resolve 135 = .ok (.iload 5, 2) := by decide +kernel
theorem dX3_resolve_137 : decode cX3_resolve 137 = .ok (.iconst 3, 1) := by decide +kernel
theorem dX3_resolve_138 : decode cX3_resolve 138 = .ok (.if_icmp .ne 16, 3) := by decide +kernel
theorem dX3_resolve_141 : decode cX3_resolve 141 = .ok (.aload_n 0, 1) := by decide +kernel
theorem dX3_resolve_142 : decode cX3_resolve 142 = .ok (.dup, 1) := by decide +kernel
theorem dX3_resolve_143 : decode cX3_resolve 143 = .ok (.getfield 46, 3) := by decide +kernel
theorem dX3_resolve_146 : decode cX3_resolve 146 = .ok (.iconst 1, 1) := by decide +kernel
theorem dX3_resolve_147 : decode cX3_resolve 147 = .ok (.iload 4, 2) := by decide +kernel
theorem dX3_resolve_149 : decode cX3_resolve 149 = .ok (.ishl, 1) := by decide +kernel
theorem dX3_resolve_150 : decode cX3_resolve 150 = .ok (.ior, 1) := by decide +kernel
theorem dX3_resolve_151 : decode cX3_resolve 151 = .ok (.putfield 46, 3) := by decide +kernel
theorem dX3_resolve_154 : decode cX3_resolve 154 = .ok (.iload 5, 2) := by decide +kernel
theorem dX3_resolve_156 : decode cX3_resolve 156 = .ok (.iconst 1, 1) := by decide +kernel
theorem dX3_resolve_157 : decode cX3_resolve 157 = .ok (.if_icmp .eq 9, 3) := by decide +kernel
theorem dX3_resolve_160 : decode cX3_resolve 160 = .ok (.iload 5, 2) := by decide +kernel
theorem dX3_resolve_162 : decode cX3_resolve 162 = .ok (.iconst 2, 1) := by decide +kernel
theorem dX3_resolve_163 : decode cX3_resolve 163 = .ok (.if_icmp .le 4, 3) := by decide +kernel
theorem dX3_resolve_166 : decode cX3_resolve 166 = .ok (.return_, 1) := by decide +kernel
theorem dX3_resolve_167 : decode cX3_resolve 167 = .ok (.iinc 4 (-1), 3) := by decide +kernel
theorem dX3_resolve_170 : decode cX3_resolve 170 = .ok (.goto (-145), 3) := by decide +kernel
theorem dX3_resolve_173 : decode cX3_resolve 173 = .ok (.return_, 1) := by decide +kernel
theorem dX3_look_0 : decode cX3_look 0 = .ok (.aload_n 0, 1) := by decide +kernel
theorem dX3_look_1 : decode cX3_look 1 = .ok (.iconst 2, 1) := by decide +kernel
theorem dX3_look_2 : decode cX3_look 2 = .ok (.putfield 43, 3) := by decide +kernel
theorem dX3_look_5 : decode cX3_look 5 = .ok (.aload_n 0, 1) := by decide +kernel
theorem dX3_look_6 : decode cX3_look 6 = .ok (.iconst 1, 1) := by decide +kernel
theorem dX3_look_7 : decode cX3_look 7 = .ok (.aload_n 0, 1) := by decide +kernel
theorem dX3_look_8 : decode cX3_look 8 = .ok (.getfield 31, 3) := by decide +kernel
theorem dX3_look_11 : decode cX3_look 11 = .ok (.iconst 1, 1) := by decide +kernel
theorem dX3_look_12 : decode cX3_look 12 = .ok (.iadd, 1) := by decide +kernel
theorem dX3_look_13 : decode cX3_look 13 = .ok (.ishl, 1) := by decide +kernel
theorem dX3_look_14 : decode cX3_look 14 = .ok (.iconst 1, 1) := by decide +kernel
theorem dX3_look_15 : decode cX3_look 15 = .ok (.isub, 1) := by decide +kernel
theorem dX3_look_16 : decode cX3_look 16 = .ok (.putfield 46, 3) := by decide +kernel
theorem dX3_look_19 : decode cX3_look 19 = .ok (.aload_n 0, 1) := by decide +kernel
theorem dX3_look_20 : decode cX3_look 20 = .ok (.iconst (-1), 1) := by decide +kernel
theorem dX3_look_21 : decode cX3_look 21 = .ok (.putfield 49, 3) := by decide +kernel
theorem dX3_look_24 : decode cX3_look 24 = .ok (.iload_n 1, 1) := by decide +kernel
theorem dX3_look_25 : decode cX3_look 25 = .ok (.invokestatic 35, 3) := by decide +kernel
theorem dX3_look_28 : decode cX3_look 28 = .ok (.iconst 1, 1) := by decide +kernel
theorem dX3_look_29 : decode cX3_look 29 = .ok (.isub, 1) := by decide +kernel
theorem dX3_look_30 : decode cX3_look 30 = .ok (.istore_n 2, 1) := by decide +kernel
theorem dX3_look_31 : decode cX3_look 31 = .ok (.iload_n 2, 1) := by decide +kernel
theorem dX3_look_32 : decode cX3_look 32 = .ok (.ifCond .lt 42, 3) := by decide +kernel
theorem dX3_look_35 : decode cX3_look 35 = .ok (.aload_n 0, 1) := by decide +kernel
theorem dX3_look_36 : decode cX3_look 36 = .ok (.getfield 43, 3) := by decide +kernel
theorem dX3_look_39 : decode cX3_look 39 = .ok (.iconst 2, 1) := by decide +kernel
theorem dX3_look_40 : decode cX3_look 40 = .ok (.if_icmp .ne 10, 3) := by decide +kernel
theorem dX3_look_43 : decode cX3_look 43 = .ok (.aload_n 0, 1) := by decide +kernel
theorem dX3_look_44 : decode cX3_look 44 = .ok (.getfield 46, 3) := by decide +kernel
theorem dX3_look_47 : decode cX3_look 47 = .ok (.goto 4, 3) := by decide +kernel
theorem dX3_look_50 : decode cX3_look 50 = .ok (.iconst 0, 1) := by decide +kernel
theorem dX3_look_51 : decode cX3_look 51 = .ok (.istore_n 3, 1) := by decide +kernel
theorem dX3_look_52 : decode cX3_look 52 = .ok (.aload_n 0, 1) := by decide +kernel
theorem dX3_look_53 : decode cX3_look 53 = .ok (.iload_n 1, 1) := by decide +kernel
theorem dX3_look_54 : decode cX3_look 54 = .ok (.iload_n 2, 1) := by decide +kernel
theorem dX3_look_55 : decode cX3_look 55 = .ok (.invokestatic 39, 3) := by decide +kernel
theorem dX3_look_58 : decode cX3_look 58 = .ok (.iload_n 3, 1) := by decide +kernel
theorem dX3_look_59 : decode cX3_look 59 = .ok (.aload_n 0, 1) := by decide +kernel
theorem dX3_look_60 : decode cX3_look 60 = .ok (.getfield 31, 3) := by decide +kernel
theorem dX3_look_63 : decode cX3_look 63 = .ok (.iconst 1, 1) := by decide +kernel
theorem dX3_look_64 : decode cX3_look 64 = .ok (.iadd, 1) := by decide +kernel
theorem dX3_look_65 : decode cX3_look 65 = .ok (.invokevirtual 55, 3) := by decide +kernel
theorem dX3_look_68 : decode cX3_look 68 = .ok (.iinc 2 (-1), 3) := by decide +kernel
theorem dX3_look_71 : decode cX3_look 71 = .ok (.goto (-40), 3) := by decide +kernel
theorem dX3_look_74 : decode cX3_look 74 = .ok (.return_, 1) := by decide +kernel
theorem dX3_isCovered_0 : decode cX3_isCovered 0 = .ok (.aload_n 0, 1) := by decide +kernel
theorem dX3_isCovered_1 : decode cX3_isCovered 1 = .ok (.iload_n 1, 1) := by decide +kernel
theorem dX3_isCovered_2 : decode cX3_isCovered 2 = .ok (.bipush 6, 2) := by decide +kernel
theorem dX3_isCovered_4 : decode cX3_isCovered 4 = .ok (.idiv, 1) := by decide +kernel
theorem dX3_isCovered_5 : decode cX3_isCovered 5 = .ok (.invokevirtual 59, 3) := by decide +kernel
theorem dX3_isCovered_8 : decode cX3_isCovered 8 = .ok (.aload_n 0, 1) := by decide +kernel
theorem dX3_isCovered_9 : decode cX3_isCovered 9 = .ok (.getfield 43, 3) := by decide +kernel
theorem dX3_isCovered_12 : decode cX3_isCovered 12 = .ok (.iconst 2, 1) := by decide +kernel
theorem dX3_isCovered_13 : decode cX3_isCovered 13 = .ok (.if_icmp .ne 10, 3) := by decide +kernel
theorem dX3_isCovered_16 : decode cX3_isCovered 16 = .ok (.aload_n 0, 1) := by decide +kernel
theorem dX3_isCovered_17 : decode cX3_isCovered 17 = .ok (.getfield 46, 3) := by decide +kernel
theorem dX3_isCovered_20 : decode cX3_isCovered 20 = .ok (.goto 4, 3) := by decide +kernel
theorem dX3_isCovered_23 : decode cX3_isCovered 23 = .ok (.iconst 0, 1) := by decide +kernel
theorem dX3_isCovered_24 : decode cX3_isCovered 24 = .ok (.istore_n 2, 1) := by decide +kernel
theorem dX3_isCovered_25 : decode cX3_isCovered 25 = .ok (.aload_n 0, 1) := by decide +kernel
theorem dX3_isCovered_26 : decode cX3_isCovered 26 = .ok (.iload_n 1, 1) := by decide +kernel
theorem dX3_isCovered_27 : decode cX3_isCovered 27 = .ok (.iload_n 2, 1) := by decide +kernel
theorem dX3_isCovered_28 : decode cX3_isCovered 28 = .ok (.aload_n 0, 1) := by decide +kernel
theorem dX3_isCovered_29 : decode cX3_isCovered 29 = .ok (.getfield 31, 3) := by decide +kernel
theorem dX3_isCovered_32 : decode cX3_isCovered 32 = .ok (.invokevirtual 55, 3) := by decide +kernel
theorem dX3_isCovered_35 : decode cX3_isCovered 35 = .ok (.aload_n 0, 1) := by decide +kernel
theorem dX3_isCovered_36 : decode cX3_isCovered 36 = .ok (.getfield 43, 3) := by decide +kernel
theorem dX3_isCovered_39 : decode cX3_isCovered 39 = .ok (.ifCond .le 7, 3) := by decide +kernel
theorem dX3_isCovered_42 : decode cX3_isCovered 42 = .ok (.iconst 1, 1) := by decide +kernel
theorem dX3_isCovered_43 : decode cX3_isCovered 43 = .ok (.goto 4, 3) := by decide +kernel
theorem dX3_isCovered_46 : decode cX3_isCovered 46 = .ok (.iconst 0, 1) := by decide +kernel
theorem dX3_isCovered_47 : decode cX3_isCovered 47 = .ok (.ireturn, 1) := by decide +kernel
theorem dX3_children_0 : decode cX3_children 0 = .ok (.iconst 0, 1) := by decide +kernel
theorem dX3_children_1 : decode cX3_children 1 = .ok (.istore_n 2, 1) := by decide +kernel
theorem dX3_children_2 : decode cX3_children 2 = .ok (.iconst 1, 1) := by decide +kernel
theorem dX3_children_3 : decode cX3_children 3 = .ok (.istore_n 3, 1) := by decide +kernel
theorem dX3_children_4 : decode cX3_children 4 = .ok (.iload_n 3, 1) := by decide +kernel
theorem dX3_children_5 : decode cX3_children 5 = .ok (.iconst 5, 1) := by decide +kernel
theorem dX3_children_6 : decode cX3_children 6 = .ok (.if_icmp .gt 41, 3) := by decide +kernel
theorem dX3_children_9 : decode cX3_children 9 = .ok (.iload_n 1, 1) := by decide +kernel
theorem dX3_children_10 : decode cX3_children 10 = .ok (.sipush 216, 3) := by decide +kernel
theorem dX3_children_13 : decode cX3_children 13 = .ok (.if_icmp .ge 34, 3) := by decide +kernel
theorem dX3_children_16 : decode cX3_children 16 = .ok (.aload_n 0, 1) := by decide +kernel
theorem dX3_children_17 : decode cX3_children 17 = .ok (.bipush 6, 2) := by decide +kernel
theorem dX3_children_19 : decode cX3_children 19 = .ok (.iload_n 1, 1) := by decide +kernel
theorem dX3_children_20 : decode cX3_children 20 = .ok (.imul, 1) := by decide +kernel
theorem dX3_children_21 : decode cX3_children 21 = .ok (.iload_n 3, 1) := by decide +kernel
theorem dX3_children_22 : decode cX3_children 22 = .ok (.iadd, 1) := by decide +kernel
theorem dX3_children_23 : decode cX3_children 23 = .ok (.invokevirtual 59, 3) := by decide +kernel
theorem dX3_children_26 : decode cX3_children 26 = .ok (.iload_n 2, 1) := by decide +kernel
theorem dX3_children_27 : decode cX3_children 27 = .ok (.aload_n 0, 1) := by decide +kernel
theorem dX3_children_28 : decode cX3_children 28 = .ok (.getfield 43, 3) := by decide +kernel
theorem dX3_children_31 : decode cX3_children 31 = .ok (.ifCond .le 7, 3) := by decide +kernel
theorem dX3_children_34 : decode cX3_children 34 = .ok (.iconst 1, 1) := by decide +kernel
theorem dX3_children_35 : decode cX3_children 35 = .ok (.goto 4, 3) := by decide +kernel
theorem dX3_children_38 : decode cX3_children 38 = .ok (.iconst 0, 1) := by decide +kernel
theorem dX3_children_39 : decode cX3_children 39 = .ok (.iadd, 1) := by decide +kernel
theorem dX3_children_40 : decode cX3_children 40 = .ok (.istore_n 2, 1) := by decide +kernel
theorem dX3_children_41 : decode cX3_children 41 = .ok (.iinc 3 1, 3) := by decide +kernel
theorem dX3_children_44 : decode cX3_children 44 = .ok (.goto (-40), 3) := by decide +kernel
theorem dX3_children_47 : decode cX3_children 47 = .ok (.iload_n 2, 1) := by decide +kernel
theorem dX3_children_48 : decode cX3_children 48 = .ok (.ireturn, 1) := by decide +kernel
theorem dX3_upper_0 : decode cX3_upper 0 = .ok (.aload_n 0, 1) := by decide +kernel
theorem dX3_upper_1 : decode cX3_upper 1 = .ok (.getfield 7, 3) := by decide +kernel
theorem dX3_upper_4 : decode cX3_upper 4 = .ok (.sipush 1296, 3) := by decide +kernel
theorem dX3_upper_7 : decode cX3_upper 7 = .ok (.aload_n 0, 1) := by decide +kernel
theorem dX3_upper_8 : decode cX3_upper 8 = .ok (.getfield 31, 3) := by decide +kernel
theorem dX3_upper_11 : decode cX3_upper 11 = .ok (.imul, 1) := by decide +kernel
theorem dX3_upper_12 : decode cX3_upper 12 = .ok (.iload_n 1, 1) := by decide +kernel
theorem dX3_upper_13 : decode cX3_upper 13 = .ok (.iadd, 1) := by decide +kernel
theorem dX3_upper_14 : decode cX3_upper 14 = .ok (.iaload, 1) := by decide +kernel
theorem dX3_upper_15 : decode cX3_upper 15 = .ok (.ireturn, 1) := by decide +kernel
theorem dX3_set_0 : decode cX3_set 0 = .ok (.aload_n 0, 1) := by decide +kernel
theorem dX3_set_1 : decode cX3_set 1 = .ok (.getfield 7, 3) := by decide +kernel
theorem dX3_set_4 : decode cX3_set 4 = .ok (.sipush 1296, 3) := by decide +kernel
theorem dX3_set_7 : decode cX3_set 7 = .ok (.aload_n 0, 1) := by decide +kernel
theorem dX3_set_8 : decode cX3_set 8 = .ok (.getfield 31, 3) := by decide +kernel
theorem dX3_set_11 : decode cX3_set 11 = .ok (.imul, 1) := by decide +kernel
theorem dX3_set_12 : decode cX3_set 12 = .ok (.iload_n 1, 1) := by decide +kernel
theorem dX3_set_13 : decode cX3_set 13 = .ok (.iadd, 1) := by decide +kernel
theorem dX3_set_14 : decode cX3_set 14 = .ok (.iload_n 2, 1) := by decide +kernel
theorem dX3_set_15 : decode cX3_set 15 = .ok (.iastore, 1) := by decide +kernel
theorem dX3_set_16 : decode cX3_set 16 = .ok (.aload_n 0, 1) := by decide +kernel
theorem dX3_set_17 : decode cX3_set 17 = .ok (.getfield 13, 3) := by decide +kernel
theorem dX3_set_20 : decode cX3_set 20 = .ok (.sipush 1296, 3) := by decide +kernel
theorem dX3_set_23 : decode cX3_set 23 = .ok (.aload_n 0, 1) := by decide +kernel
theorem dX3_set_24 : decode cX3_set 24 = .ok (.getfield 31, 3) := by decide +kernel
theorem dX3_set_27 : decode cX3_set 27 = .ok (.imul, 1) := by decide +kernel
theorem dX3_set_28 : decode cX3_set 28 = .ok (.iload_n 1, 1) := by decide +kernel
theorem dX3_set_29 : decode cX3_set 29 = .ok (.iadd, 1) := by decide +kernel
theorem dX3_set_30 : decode cX3_set 30 = .ok (.iload_n 3, 1) := by decide +kernel
theorem dX3_set_31 : decode cX3_set 31 = .ok (.iastore, 1) := by decide +kernel
theorem dX3_set_32 : decode cX3_set 32 = .ok (.return_, 1) := by decide +kernel
theorem dX3_raise_0 : decode cX3_raise 0 = .ok (.iload_n 1, 1) := by decide +kernel
theorem dX3_raise_1 : decode cX3_raise 1 = .ok (.invokestatic 35, 3) := by decide +kernel
theorem dX3_raise_4 : decode cX3_raise 4 = .ok (.iconst 1, 1) := by decide +kernel
theorem dX3_raise_5 : decode cX3_raise 5 = .ok (.isub, 1) := by decide +kernel
theorem dX3_raise_6 : decode cX3_raise 6 = .ok (.istore_n 2, 1) := by decide +kernel
theorem dX3_raise_7 : decode cX3_raise 7 = .ok (.iload_n 2, 1) := by decide +kernel
theorem dX3_raise_8 : decode cX3_raise 8 = .ok (.ifCond .lt 40, 3) := by decide +kernel
theorem dX3_raise_11 : decode cX3_raise 11 = .ok (.iload_n 1, 1) := by decide +kernel
theorem dX3_raise_12 : decode cX3_raise 12 = .ok (.iload_n 2, 1) := by decide +kernel
theorem dX3_raise_13 : decode cX3_raise 13 = .ok (.invokestatic 39, 3) := by decide +kernel
theorem dX3_raise_16 : decode cX3_raise 16 = .ok (.istore_n 3, 1) := by decide +kernel
theorem dX3_raise_17 : decode cX3_raise 17 = .ok (.aload_n 0, 1) := by decide +kernel
theorem dX3_raise_18 : decode cX3_raise 18 = .ok (.iload_n 3, 1) := by decide +kernel
theorem dX3_raise_19 : decode cX3_raise 19 = .ok (.invokevirtual 63, 3) := by decide +kernel
theorem dX3_raise_22 : decode cX3_raise 22 = .ok (.ifCond .ne 20, 3) := by decide +kernel
theorem dX3_raise_25 : decode cX3_raise 25 = .ok (.aload_n 0, 1) := by decide +kernel
theorem dX3_raise_26 : decode cX3_raise 26 = .ok (.iload_n 3, 1) := by decide +kernel
theorem dX3_raise_27 : decode cX3_raise 27 = .ok (.iconst 2, 1) := by decide +kernel
theorem dX3_raise_28 : decode cX3_raise 28 = .ok (.iconst 0, 1) := by decide +kernel
theorem dX3_raise_29 : decode cX3_raise 29 = .ok (.invokevirtual 66, 3) := by decide +kernel
theorem dX3_raise_32 : decode cX3_raise 32 = .ok (.aload_n 0, 1) := by decide +kernel
theorem dX3_raise_33 : decode cX3_raise 33 = .ok (.dup, 1) := by decide +kernel
theorem dX3_raise_34 : decode cX3_raise 34 = .ok (.getfield 69, 3) := by decide +kernel
theorem dX3_raise_37 : decode cX3_raise 37 = .ok (.iconst 1, 1) := by decide +kernel
theorem dX3_raise_38 : decode cX3_raise 38 = .ok (.iadd, 1) := by decide +kernel
theorem dX3_raise_39 : decode cX3_raise 39 = .ok (.putfield 69, 3) := by decide +kernel
theorem dX3_raise_42 : decode cX3_raise 42 = .ok (.iinc 2 (-1), 3) := by decide +kernel
theorem dX3_raise_45 : decode cX3_raise 45 = .ok (.goto (-38), 3) := by decide +kernel
theorem dX3_raise_48 : decode cX3_raise 48 = .ok (.return_, 1) := by decide +kernel
theorem dX3_strip_0 : decode cX3_strip 0 = .ok (.iconst 1, 1) := by decide +kernel
theorem dX3_strip_1 : decode cX3_strip 1 = .ok (.istore_n 2, 1) := by decide +kernel
theorem dX3_strip_2 : decode cX3_strip 2 = .ok (.iload_n 2, 1) := by decide +kernel
theorem dX3_strip_3 : decode cX3_strip 3 = .ok (.sipush 1296, 3) := by decide +kernel
theorem dX3_strip_6 : decode cX3_strip 6 = .ok (.if_icmp .ge 29, 3) := by decide +kernel
theorem dX3_strip_9 : decode cX3_strip 9 = .ok (.iload_n 2, 1) := by decide +kernel
theorem dX3_strip_10 : decode cX3_strip 10 = .ok (.iload_n 1, 1) := by decide +kernel
theorem dX3_strip_11 : decode cX3_strip 11 = .ok (.if_icmp .eq 11, 3) := by decide +kernel
theorem dX3_strip_14 : decode cX3_strip 14 = .ok (.iload_n 2, 1) := by decide +kernel
theorem dX3_strip_15 : decode cX3_strip 15 = .ok (.iload_n 1, 1) := by decide +kernel
theorem dX3_strip_16 : decode cX3_strip 16 = .ok (.invokestatic 72, 3) := by decide +kernel
theorem dX3_strip_19 : decode cX3_strip 19 = .ok (.ifCond .eq 10, 3) := by decide +kernel
theorem dX3_strip_22 : decode cX3_strip 22 = .ok (.aload_n 0, 1) := by decide +kernel
theorem dX3_strip_23 : decode cX3_strip 23 = .ok (.iload_n 2, 1) := by decide +kernel
theorem dX3_strip_24 : decode cX3_strip 24 = .ok (.iconst 0, 1) := by decide +kernel
theorem dX3_strip_25 : decode cX3_strip 25 = .ok (.iconst 0, 1) := by decide +kernel
theorem dX3_strip_26 : decode cX3_strip 26 = .ok (.invokevirtual 66, 3) := by decide +kernel
theorem dX3_strip_29 : decode cX3_strip 29 = .ok (.iinc 2 1, 3) := by decide +kernel
theorem dX3_strip_32 : decode cX3_strip 32 = .ok (.goto (-30), 3) := by decide +kernel
theorem dX3_strip_35 : decode cX3_strip 35 = .ok (.return_, 1) := by decide +kernel
theorem dX3_make_0 : decode cX3_make 0 = .ok (.aload_n 0, 1) := by decide +kernel
theorem dX3_make_1 : decode cX3_make 1 = .ok (.iload_n 1, 1) := by decide +kernel
theorem dX3_make_2 : decode cX3_make 2 = .ok (.bipush 6, 2) := by decide +kernel
theorem dX3_make_4 : decode cX3_make 4 = .ok (.idiv, 1) := by decide +kernel
theorem dX3_make_5 : decode cX3_make 5 = .ok (.invokevirtual 76, 3) := by decide +kernel
theorem dX3_make_8 : decode cX3_make 8 = .ok (.aload_n 0, 1) := by decide +kernel
theorem dX3_make_9 : decode cX3_make 9 = .ok (.iload_n 1, 1) := by decide +kernel
theorem dX3_make_10 : decode cX3_make 10 = .ok (.invokevirtual 79, 3) := by decide +kernel
theorem dX3_make_13 : decode cX3_make 13 = .ok (.istore 4, 2) := by decide +kernel
theorem dX3_make_15 : decode cX3_make 15 = .ok (.aload_n 0, 1) := by decide +kernel
theorem dX3_make_16 : decode cX3_make 16 = .ok (.iload_n 1, 1) := by decide +kernel
theorem dX3_make_17 : decode cX3_make 17 = .ok (.invokevirtual 83, 3) := by decide +kernel
theorem dX3_make_20 : decode cX3_make 20 = .ok (.aload_n 0, 1) := by decide +kernel
theorem dX3_make_21 : decode cX3_make 21 = .ok (.iload_n 1, 1) := by decide +kernel
theorem dX3_make_22 : decode cX3_make 22 = .ok (.iload_n 2, 1) := by decide +kernel
theorem dX3_make_23 : decode cX3_make 23 = .ok (.iconst 2, 1) := by decide +kernel
theorem dX3_make_24 : decode cX3_make 24 = .ok (.if_icmp .ne 12, 3) := by decide +kernel
theorem dX3_make_27 : decode cX3_make 27 = .ok (.iload 4, 2) := by decide +kernel
theorem dX3_make_29 : decode cX3_make 29 = .ok (.ifCond .eq 7, 3) := by decide +kernel
theorem dX3_make_32 : decode cX3_make 32 = .ok (.iconst 3, 1) := by decide +kernel
theorem dX3_make_33 : decode cX3_make 33 = .ok (.goto 4, 3) := by decide +kernel
theorem dX3_make_36 : decode cX3_make 36 = .ok (.iload_n 2, 1) := by decide +kernel
theorem dX3_make_37 : decode cX3_make 37 = .ok (.iload_n 3, 1) := by decide +kernel
theorem dX3_make_38 : decode cX3_make 38 = .ok (.invokevirtual 66, 3) := by decide +kernel
theorem dX3_make_41 : decode cX3_make 41 = .ok (.return_, 1) := by decide +kernel
theorem dX3_unmake_0 : decode cX3_unmake 0 = .ok (.aload_n 0, 1) := by decide +kernel
theorem dX3_unmake_1 : decode cX3_unmake 1 = .ok (.iload_n 1, 1) := by decide +kernel
theorem dX3_unmake_2 : decode cX3_unmake 2 = .ok (.invokevirtual 83, 3) := by decide +kernel
theorem dX3_unmake_5 : decode cX3_unmake 5 = .ok (.aload_n 0, 1) := by decide +kernel
theorem dX3_unmake_6 : decode cX3_unmake 6 = .ok (.iload_n 1, 1) := by decide +kernel
theorem dX3_unmake_7 : decode cX3_unmake 7 = .ok (.invokevirtual 79, 3) := by decide +kernel
theorem dX3_unmake_10 : decode cX3_unmake 10 = .ok (.ifCond .eq 18, 3) := by decide +kernel
theorem dX3_unmake_13 : decode cX3_unmake 13 = .ok (.aload_n 0, 1) := by decide +kernel
theorem dX3_unmake_14 : decode cX3_unmake 14 = .ok (.iload_n 1, 1) := by decide +kernel
theorem dX3_unmake_15 : decode cX3_unmake 15 = .ok (.bipush 6, 2) := by decide +kernel
theorem dX3_unmake_17 : decode cX3_unmake 17 = .ok (.idiv, 1) := by decide +kernel
theorem dX3_unmake_18 : decode cX3_unmake 18 = .ok (.invokevirtual 76, 3) := by decide +kernel
theorem dX3_unmake_21 : decode cX3_unmake 21 = .ok (.aload_n 0, 1) := by decide +kernel
theorem dX3_unmake_22 : decode cX3_unmake 22 = .ok (.iload_n 1, 1) := by decide +kernel
theorem dX3_unmake_23 : decode cX3_unmake 23 = .ok (.iconst 4, 1) := by decide +kernel
theorem dX3_unmake_24 : decode cX3_unmake 24 = .ok (.iconst 0, 1) := by decide +kernel
theorem dX3_unmake_25 : decode cX3_unmake 25 = .ok (.invokevirtual 66, 3) := by decide +kernel
theorem dX3_unmake_28 : decode cX3_unmake 28 = .ok (.return_, 1) := by decide +kernel
theorem dX3_keep_0 : decode cX3_keep 0 = .ok (.iconst 0, 1) := by decide +kernel
theorem dX3_keep_1 : decode cX3_keep 1 = .ok (.istore_n 1, 1) := by decide +kernel
theorem dX3_keep_2 : decode cX3_keep 2 = .ok (.iload_n 1, 1) := by decide +kernel
theorem dX3_keep_3 : decode cX3_keep 3 = .ok (.sipush 1296, 3) := by decide +kernel
theorem dX3_keep_6 : decode cX3_keep 6 = .ok (.if_icmp .ge 41, 3) := by decide +kernel
theorem dX3_keep_9 : decode cX3_keep 9 = .ok (.aload_n 0, 1) := by decide +kernel
theorem dX3_keep_10 : decode cX3_keep 10 = .ok (.getfield 16, 3) := by decide +kernel
theorem dX3_keep_13 : decode cX3_keep 13 = .ok (.iload_n 1, 1) := by decide +kernel
theorem dX3_keep_14 : decode cX3_keep 14 = .ok (.aload_n 0, 1) := by decide +kernel
theorem dX3_keep_15 : decode cX3_keep 15 = .ok (.iload_n 1, 1) := by decide +kernel
theorem dX3_keep_16 : decode cX3_keep 16 = .ok (.invokevirtual 63, 3) := by decide +kernel
theorem dX3_keep_19 : decode cX3_keep 19 = .ok (.iastore, 1) := by decide +kernel
theorem dX3_keep_20 : decode cX3_keep 20 = .ok (.aload_n 0, 1) := by decide +kernel
theorem dX3_keep_21 : decode cX3_keep 21 = .ok (.getfield 19, 3) := by decide +kernel
theorem dX3_keep_24 : decode cX3_keep 24 = .ok (.iload_n 1, 1) := by decide +kernel
theorem dX3_keep_25 : decode cX3_keep 25 = .ok (.aload_n 0, 1) := by decide +kernel
theorem dX3_keep_26 : decode cX3_keep 26 = .ok (.getfield 13, 3) := by decide +kernel
theorem dX3_keep_29 : decode cX3_keep 29 = .ok (.sipush 1296, 3) := by decide +kernel
theorem dX3_keep_32 : decode cX3_keep 32 = .ok (.aload_n 0, 1) := by decide +kernel
theorem dX3_keep_33 : decode cX3_keep 33 = .ok (.getfield 31, 3) := by decide +kernel
theorem dX3_keep_36 : decode cX3_keep 36 = .ok (.imul, 1) := by decide +kernel
theorem dX3_keep_37 : decode cX3_keep 37 = .ok (.iload_n 1, 1) := by decide +kernel
theorem dX3_keep_38 : decode cX3_keep 38 = .ok (.iadd, 1) := by decide +kernel
theorem dX3_keep_39 : decode cX3_keep 39 = .ok (.iaload, 1) := by decide +kernel
theorem dX3_keep_40 : decode cX3_keep 40 = .ok (.iastore, 1) := by decide +kernel
theorem dX3_keep_41 : decode cX3_keep 41 = .ok (.iinc 1 1, 3) := by decide +kernel
theorem dX3_keep_44 : decode cX3_keep 44 = .ok (.goto (-42), 3) := by decide +kernel
theorem dX3_keep_47 : decode cX3_keep 47 = .ok (.return_, 1) := by decide +kernel
theorem dX3_end_0 : decode cX3_end 0 = .ok (.aload_n 0, 1) := by decide +kernel
theorem dX3_end_1 : decode cX3_end 1 = .ok (.aload_n 0, 1) := by decide +kernel
theorem dX3_end_2 : decode cX3_end 2 = .ok (.getfield 31, 3) := by decide +kernel
theorem dX3_end_5 : decode cX3_end 5 = .ok (.invokevirtual 86, 3) := by decide +kernel
theorem dX3_end_8 : decode cX3_end 8 = .ok (.bipush 30, 2) := by decide +kernel
theorem dX3_end_10 : decode cX3_end 10 = .ok (.if_icmp .gt 5, 3) := by decide +kernel
theorem dX3_end_13 : decode cX3_end 13 = .ok (.iconst 0, 1) := by decide +kernel
theorem dX3_end_14 : decode cX3_end 14 = .ok (.ireturn, 1) := by decide +kernel
theorem dX3_end_15 : decode cX3_end 15 = .ok (.iconst 0, 1) := by decide +kernel
theorem dX3_end_16 : decode cX3_end 16 = .ok (.istore_n 2, 1) := by decide +kernel
theorem dX3_end_17 : decode cX3_end 17 = .ok (.iload_n 2, 1) := by decide +kernel
theorem dX3_end_18 : decode cX3_end 18 = .ok (.sipush 1296, 3) := by decide +kernel
theorem dX3_end_21 : decode cX3_end 21 = .ok (.if_icmp .ge 26, 3) := by decide +kernel
theorem dX3_end_24 : decode cX3_end 24 = .ok (.aload_n 0, 1) := by decide +kernel
theorem dX3_end_25 : decode cX3_end 25 = .ok (.iload_n 2, 1) := by decide +kernel
theorem dX3_end_26 : decode cX3_end 26 = .ok (.aload_n 0, 1) := by decide +kernel
theorem dX3_end_27 : decode cX3_end 27 = .ok (.getfield 16, 3) := by decide +kernel
theorem dX3_end_30 : decode cX3_end 30 = .ok (.iload_n 2, 1) := by decide +kernel
theorem dX3_end_31 : decode cX3_end 31 = .ok (.iaload, 1) := by decide +kernel
theorem dX3_end_32 : decode cX3_end 32 = .ok (.aload_n 0, 1) := by decide +kernel
theorem dX3_end_33 : decode cX3_end 33 = .ok (.getfield 19, 3) := by decide +kernel
theorem dX3_end_36 : decode cX3_end 36 = .ok (.iload_n 2, 1) := by decide +kernel
theorem dX3_end_37 : decode cX3_end 37 = .ok (.iaload, 1) := by decide +kernel
theorem dX3_end_38 : decode cX3_end 38 = .ok (.invokevirtual 66, 3) := by decide +kernel
theorem dX3_end_41 : decode cX3_end 41 = .ok (.iinc 2 1, 3) := by decide +kernel
theorem dX3_end_44 : decode cX3_end 44 = .ok (.goto (-27), 3) := by decide +kernel
theorem dX3_end_47 : decode cX3_end 47 = .ok (.aload_n 0, 1) := by decide +kernel
theorem dX3_end_48 : decode cX3_end 48 = .ok (.iload_n 1, 1) := by decide +kernel
theorem dX3_end_49 : decode cX3_end 49 = .ok (.putfield 69, 3) := by decide +kernel
theorem dX3_end_52 : decode cX3_end 52 = .ok (.bipush (-11), 2) := by decide +kernel
theorem dX3_end_54 : decode cX3_end 54 = .ok (.ireturn, 1) := by decide +kernel
theorem dX3_isLayer_0 : decode cX3_isLayer 0 = .ok (.iload_n 1, 1) := by decide +kernel
theorem dX3_isLayer_1 : decode cX3_isLayer 1 = .ok (.ifCond .lt 15, 3) := by decide +kernel
theorem dX3_isLayer_4 : decode cX3_isLayer 4 = .ok (.iload_n 1, 1) := by decide +kernel
theorem dX3_isLayer_5 : decode cX3_isLayer 5 = .ok (.aload_n 0, 1) := by decide +kernel
theorem dX3_isLayer_6 : decode cX3_isLayer 6 = .ok (.getfield 31, 3) := by decide +kernel
theorem dX3_isLayer_9 : decode cX3_isLayer 9 = .ok (.if_icmp .gt 7, 3) := by decide +kernel
theorem dX3_isLayer_12 : decode cX3_isLayer 12 = .ok (.iconst 1, 1) := by decide +kernel
theorem dX3_isLayer_13 : decode cX3_isLayer 13 = .ok (.goto 4, 3) := by decide +kernel
theorem dX3_isLayer_16 : decode cX3_isLayer 16 = .ok (.iconst 0, 1) := by decide +kernel
theorem dX3_isLayer_17 : decode cX3_isLayer 17 = .ok (.ireturn, 1) := by decide +kernel
theorem dX3_entries_0 : decode cX3_entries 0 = .ok (.aload_n 0, 1) := by decide +kernel
theorem dX3_entries_1 : decode cX3_entries 1 = .ok (.iload_n 1, 1) := by decide +kernel
theorem dX3_entries_2 : decode cX3_entries 2 = .ok (.invokevirtual 89, 3) := by decide +kernel
theorem dX3_entries_5 : decode cX3_entries 5 = .ok (.ifCond .ne 6, 3) := by decide +kernel
theorem dX3_entries_8 : decode cX3_entries 8 = .ok (.bipush (-2), 2) := by decide +kernel
theorem dX3_entries_10 : decode cX3_entries 10 = .ok (.ireturn, 1) := by decide +kernel
theorem dX3_entries_11 : decode cX3_entries 11 = .ok (.iconst 0, 1) := by decide +kernel
theorem dX3_entries_12 : decode cX3_entries 12 = .ok (.istore_n 2, 1) := by decide +kernel
theorem dX3_entries_13 : decode cX3_entries 13 = .ok (.iconst 1, 1) := by decide +kernel
theorem dX3_entries_14 : decode cX3_entries 14 = .ok (.istore_n 3, 1) := by decide +kernel
theorem dX3_entries_15 : decode cX3_entries 15 = .ok (.iload_n 3, 1) := by decide +kernel
theorem dX3_entries_16 : decode cX3_entries 16 = .ok (.sipush 1296, 3) := by decide +kernel
theorem dX3_entries_19 : decode cX3_entries 19 = .ok (.if_icmp .ge 32, 3) := by decide +kernel
theorem dX3_entries_22 : decode cX3_entries 22 = .ok (.iload_n 2, 1) := by decide +kernel
theorem dX3_entries_23 : decode cX3_entries 23 = .ok (.aload_n 0, 1) := by decide +kernel
theorem dX3_entries_24 : decode cX3_entries 24 = .ok (.getfield 7, 3) := by decide +kernel
theorem dX3_entries_27 : decode cX3_entries 27 = .ok (.sipush 1296, 3) := by decide +kernel
theorem dX3_entries_30 : decode cX3_entries 30 = .ok (.iload_n 1, 1) := by decide +kernel
theorem dX3_entries_31 : decode cX3_entries 31 = .ok (.imul, 1) := by decide +kernel
theorem dX3_entries_32 : decode cX3_entries 32 = .ok (.iload_n 3, 1) := by decide +kernel
theorem dX3_entries_33 : decode cX3_entries 33 = .ok (.iadd, 1) := by decide +kernel
theorem dX3_entries_34 : decode cX3_entries 34 = .ok (.iaload, 1) := by decide +kernel
theorem dX3_entries_35 : decode cX3_entries 35 = .ok (.ifCond .le 7, 3) := by decide +kernel
theorem dX3_entries_38 : decode cX3_entries 38 = .ok (.iconst 1, 1) := by decide +kernel
theorem dX3_entries_39 : decode cX3_entries 39 = .ok (.goto 4, 3) := by decide +kernel
theorem dX3_entries_42 : decode cX3_entries 42 = .ok (.iconst 0, 1) := by decide +kernel
theorem dX3_entries_43 : decode cX3_entries 43 = .ok (.iadd, 1) := by decide +kernel
theorem dX3_entries_44 : decode cX3_entries 44 = .ok (.istore_n 2, 1) := by decide +kernel
theorem dX3_entries_45 : decode cX3_entries 45 = .ok (.iinc 3 1, 3) := by decide +kernel
theorem dX3_entries_48 : decode cX3_entries 48 = .ok (.goto (-33), 3) := by decide +kernel
theorem dX3_entries_51 : decode cX3_entries 51 = .ok (.iload_n 2, 1) := by decide +kernel
theorem dX3_entries_52 : decode cX3_entries 52 = .ok (.ireturn, 1) := by decide +kernel
theorem dX3_room_0 : decode cX3_room 0 = .ok (.iconst 0, 1) := by decide +kernel
theorem dX3_room_1 : decode cX3_room 1 = .ok (.istore_n 2, 1) := by decide +kernel
theorem dX3_room_2 : decode cX3_room 2 = .ok (.iconst 0, 1) := by decide +kernel
theorem dX3_room_3 : decode cX3_room 3 = .ok (.istore_n 3, 1) := by decide +kernel
theorem dX3_room_4 : decode cX3_room 4 = .ok (.iload_n 3, 1) := by decide +kernel
theorem dX3_room_5 : decode cX3_room 5 = .ok (.aload_n 0, 1) := by decide +kernel
theorem dX3_room_6 : decode cX3_room 6 = .ok (.getfield 31, 3) := by decide +kernel
theorem dX3_room_9 : decode cX3_room 9 = .ok (.if_icmp .ge 17, 3) := by decide +kernel
theorem dX3_room_12 : decode cX3_room 12 = .ok (.iload_n 2, 1) := by decide +kernel
theorem dX3_room_13 : decode cX3_room 13 = .ok (.aload_n 0, 1) := by decide +kernel
theorem dX3_room_14 : decode cX3_room 14 = .ok (.iload_n 3, 1) := by decide +kernel
theorem dX3_room_15 : decode cX3_room 15 = .ok (.invokevirtual 86, 3) := by decide +kernel
theorem dX3_room_18 : decode cX3_room 18 = .ok (.iadd, 1) := by decide +kernel
theorem dX3_room_19 : decode cX3_room 19 = .ok (.istore_n 2, 1) := by decide +kernel
theorem dX3_room_20 : decode cX3_room 20 = .ok (.iinc 3 1, 3) := by decide +kernel
theorem dX3_room_23 : decode cX3_room 23 = .ok (.goto (-19), 3) := by decide +kernel
theorem dX3_room_26 : decode cX3_room 26 = .ok (.iload_n 1, 1) := by decide +kernel
theorem dX3_room_27 : decode cX3_room 27 = .ok (.aload_n 0, 1) := by decide +kernel
theorem dX3_room_28 : decode cX3_room 28 = .ok (.getfield 31, 3) := by decide +kernel
theorem dX3_room_31 : decode cX3_room 31 = .ok (.if_icmp .ne 24, 3) := by decide +kernel
theorem dX3_room_34 : decode cX3_room 34 = .ok (.aload_n 0, 1) := by decide +kernel
theorem dX3_room_35 : decode cX3_room 35 = .ok (.aload_n 0, 1) := by decide +kernel
theorem dX3_room_36 : decode cX3_room 36 = .ok (.getfield 31, 3) := by decide +kernel
theorem dX3_room_39 : decode cX3_room 39 = .ok (.invokevirtual 86, 3) := by decide +kernel
theorem dX3_room_42 : decode cX3_room 42 = .ok (.bipush 30, 2) := by decide +kernel
theorem dX3_room_44 : decode cX3_room 44 = .ok (.if_icmp .ge 7, 3) := by decide +kernel
theorem dX3_room_47 : decode cX3_room 47 = .ok (.iconst 1, 1) := by decide +kernel
theorem dX3_room_48 : decode cX3_room 48 = .ok (.goto 18, 3) := by decide +kernel
theorem dX3_room_51 : decode cX3_room 51 = .ok (.iconst 0, 1) := by decide +kernel
theorem dX3_room_52 : decode cX3_room 52 = .ok (.goto 14, 3) := by decide +kernel
theorem dX3_room_55 : decode cX3_room 55 = .ok (.iload_n 2, 1) := by decide +kernel
theorem dX3_room_56 : decode cX3_room 56 = .ok (.bipush 60, 2) := by decide +kernel
theorem dX3_room_58 : decode cX3_room 58 = .ok (.if_icmp .ge 7, 3) := by decide +kernel
theorem dX3_room_61 : decode cX3_room 61 = .ok (.iconst 1, 1) := by decide +kernel
theorem dX3_room_62 : decode cX3_room 62 = .ok (.goto 4, 3) := by decide +kernel
theorem dX3_room_65 : decode cX3_room 65 = .ok (.iconst 0, 1) := by decide +kernel
theorem dX3_room_66 : decode cX3_room 66 = .ok (.ireturn, 1) := by decide +kernel
theorem dX3_put_0 : decode cX3_put 0 = .ok (.iload_n 2, 1) := by decide +kernel
theorem dX3_put_1 : decode cX3_put 1 = .ok (.invokestatic 92, 3) := by decide +kernel
theorem dX3_put_4 : decode cX3_put 4 = .ok (.istore 5, 2) := by decide +kernel
theorem dX3_put_6 : decode cX3_put 6 = .ok (.aload_n 0, 1) := by decide +kernel
theorem dX3_put_7 : decode cX3_put 7 = .ok (.getfield 95, 3) := by decide +kernel
theorem dX3_put_10 : decode cX3_put 10 = .ok (.ifCond .ne 36, 3) := by decide +kernel
theorem dX3_put_13 : decode cX3_put 13 = .ok (.aload_n 0, 1) := by decide +kernel
theorem dX3_put_14 : decode cX3_put 14 = .ok (.iload_n 1, 1) := by decide +kernel
theorem dX3_put_15 : decode cX3_put 15 = .ok (.invokevirtual 89, 3) := by decide +kernel
theorem dX3_put_18 : decode cX3_put 18 = .ok (.ifCond .eq 28, 3) := by decide +kernel
theorem dX3_put_21 : decode cX3_put 21 = .ok (.iload 5, 2) := by decide +kernel
theorem dX3_put_23 : decode cX3_put 23 = .ok (.ifCond .le 23, 3) := by decide +kernel
theorem dX3_put_26 : decode cX3_put 26 = .ok (.iload_n 3, 1) := by decide +kernel
theorem dX3_put_27 : decode cX3_put 27 = .ok (.iconst 1, 1) := by decide +kernel
theorem dX3_put_28 : decode cX3_put 28 = .ok (.if_icmp .lt 18, 3) := by decide +kernel
theorem dX3_put_31 : decode cX3_put 31 = .ok (.iload_n 3, 1) := by decide +kernel
theorem dX3_put_32 : decode cX3_put 32 = .ok (.iconst 4, 1) := by decide +kernel
theorem dX3_put_33 : decode cX3_put 33 = .ok (.if_icmp .gt 13, 3) := by decide +kernel
theorem dX3_put_36 : decode cX3_put 36 = .ok (.iload_n 3, 1) := by decide +kernel
theorem dX3_put_37 : decode cX3_put 37 = .ok (.iconst 1, 1) := by decide +kernel
theorem dX3_put_38 : decode cX3_put 38 = .ok (.if_icmp .ne 10, 3) := by decide +kernel
theorem dX3_put_41 : decode cX3_put 41 = .ok (.iload 4, 2) := by decide +kernel
theorem dX3_put_43 : decode cX3_put 43 = .ok (.ifCond .ge 5, 3) := by decide +kernel
theorem dX3_put_46 : decode cX3_put 46 = .ok (.iconst 0, 1) := by decide +kernel
theorem dX3_put_47 : decode cX3_put 47 = .ok (.ireturn, 1) := by decide +kernel
theorem dX3_put_48 : decode cX3_put 48 = .ok (.sipush 1296, 3) := by decide +kernel
theorem dX3_put_51 : decode cX3_put 51 = .ok (.iload_n 1, 1) := by decide +kernel
theorem dX3_put_52 : decode cX3_put 52 = .ok (.imul, 1) := by decide +kernel
theorem dX3_put_53 : decode cX3_put 53 = .ok (.istore 6, 2) := by decide +kernel
theorem dX3_put_55 : decode cX3_put 55 = .ok (.iload 5, 2) := by decide +kernel
theorem dX3_put_57 : decode cX3_put 57 = .ok (.bipush 6, 2) := by decide +kernel
theorem dX3_put_59 : decode cX3_put 59 = .ok (.idiv, 1) := by decide +kernel
theorem dX3_put_60 : decode cX3_put 60 = .ok (.ifCond .ne 7, 3) := by decide +kernel
theorem dX3_put_63 : decode cX3_put 63 = .ok (.iconst 2, 1) := by decide +kernel
theorem dX3_put_64 : decode cX3_put 64 = .ok (.goto 16, 3) := by decide +kernel
theorem dX3_put_67 : decode cX3_put 67 = .ok (.aload_n 0, 1) := by decide +kernel
theorem dX3_put_68 : decode cX3_put 68 = .ok (.getfield 7, 3) := by decide +kernel
theorem dX3_put_71 : decode cX3_put 71 = .ok (.iload 6, 2) := by decide +kernel
theorem dX3_put_73 : decode cX3_put 73 = .ok (.iload 5, 2) := by decide +kernel
theorem dX3_put_75 : decode cX3_put 75 = .ok (.bipush 6, 2) := by decide +kernel
theorem dX3_put_77 : decode cX3_put 77 = .ok (.idiv, 1) := by decide +kernel
theorem dX3_put_78 : decode cX3_put 78 = .ok (.iadd, 1) := by decide +kernel
theorem dX3_put_79 : decode cX3_put 79 = .ok (.iaload, 1) := by decide +kernel
theorem dX3_put_80 : decode cX3_put 80 = .ok (.istore 7, 2) := by decide +kernel
theorem dX3_put_82 : decode cX3_put 82 = .ok (.aload_n 0, 1) := by decide +kernel
theorem dX3_put_83 : decode cX3_put 83 = .ok (.getfield 7, 3) := by decide +kernel
theorem dX3_put_86 : decode cX3_put 86 = .ok (.iload 6, 2) := by decide +kernel
theorem dX3_put_88 : decode cX3_put 88 = .ok (.iload 5, 2) := by decide +kernel
theorem dX3_put_90 : decode cX3_put 90 = .ok (.iadd, 1) := by decide +kernel
theorem dX3_put_91 : decode cX3_put 91 = .ok (.iaload, 1) := by decide +kernel
theorem dX3_put_92 : decode cX3_put 92 = .ok (.ifCond .gt 23, 3) := by decide +kernel
theorem dX3_put_95 : decode cX3_put 95 = .ok (.iload 7, 2) := by decide +kernel
theorem dX3_put_97 : decode cX3_put 97 = .ok (.iconst 2, 1) := by decide +kernel
theorem dX3_put_98 : decode cX3_put 98 = .ok (.if_icmp .eq 9, 3) := by decide +kernel
theorem dX3_put_101 : decode cX3_put 101 = .ok (.iload 7, 2) := by decide +kernel
theorem dX3_put_103 : decode cX3_put 103 = .ok (.iconst 3, 1) := by decide +kernel
theorem dX3_put_104 : decode cX3_put 104 = .ok (.if_icmp .ne 11, 3) := by decide +kernel
theorem dX3_put_107 : decode cX3_put 107 = .ok (.aload_n 0, 1) := by decide +kernel
theorem dX3_put_108 : decode cX3_put 108 = .ok (.iload_n 1, 1) := by decide +kernel
theorem dX3_put_109 : decode cX3_put 109 = .ok (.invokevirtual 99, 3) := by decide +kernel
theorem dX3_put_112 : decode cX3_put 112 = .ok (.ifCond .ne 5, 3) := by decide +kernel
theorem dX3_put_115 : decode cX3_put 115 = .ok (.iconst 0, 1) := by decide +kernel
theorem dX3_put_116 : decode cX3_put 116 = .ok (.ireturn, 1) := by decide +kernel
theorem dX3_put_117 : decode cX3_put 117 = .ok (.aload_n 0, 1) := by decide +kernel
theorem dX3_put_118 : decode cX3_put 118 = .ok (.getfield 7, 3) := by decide +kernel
theorem dX3_put_121 : decode cX3_put 121 = .ok (.iload 6, 2) := by decide +kernel
theorem dX3_put_123 : decode cX3_put 123 = .ok (.iload 5, 2) := by decide +kernel
theorem dX3_put_125 : decode cX3_put 125 = .ok (.iadd, 1) := by decide +kernel
theorem dX3_put_126 : decode cX3_put 126 = .ok (.iload_n 3, 1) := by decide +kernel
theorem dX3_put_127 : decode cX3_put 127 = .ok (.iastore, 1) := by decide +kernel
theorem dX3_put_128 : decode cX3_put 128 = .ok (.aload_n 0, 1) := by decide +kernel
theorem dX3_put_129 : decode cX3_put 129 = .ok (.getfield 13, 3) := by decide +kernel
theorem dX3_put_132 : decode cX3_put 132 = .ok (.iload 6, 2) := by decide +kernel
theorem dX3_put_134 : decode cX3_put 134 = .ok (.iload 5, 2) := by decide +kernel
theorem dX3_put_136 : decode cX3_put 136 = .ok (.iadd, 1) := by decide +kernel
theorem dX3_put_137 : decode cX3_put 137 = .ok (.iload_n 3, 1) := by decide +kernel
theorem dX3_put_138 : decode cX3_put 138 = .ok (.iconst 1, 1) := by decide +kernel
theorem dX3_put_139 : decode cX3_put 139 = .ok (.if_icmp .ne 8, 3) := by decide +kernel
theorem dX3_put_142 : decode cX3_put 142 = .ok (.iload 4, 2) := by decide +kernel
theorem dX3_put_144 : decode cX3_put 144 = .ok (.goto 4, 3) := by decide +kernel
theorem dX3_put_147 : decode cX3_put 147 = .ok (.iconst 0, 1) := by decide +kernel
theorem dX3_put_148 : decode cX3_put 148 = .ok (.iastore, 1) := by decide +kernel
theorem dX3_put_149 : decode cX3_put 149 = .ok (.iconst 1, 1) := by decide +kernel
theorem dX3_put_150 : decode cX3_put 150 = .ok (.ireturn, 1) := by decide +kernel
theorem dX3_mount_0 : decode cX3_mount 0 = .ok (.aload_n 0, 1) := by decide +kernel
theorem dX3_mount_1 : decode cX3_mount 1 = .ok (.getfield 95, 3) := by decide +kernel
theorem dX3_mount_4 : decode cX3_mount 4 = .ok (.istore_n 1, 1) := by decide +kernel
theorem dX3_mount_5 : decode cX3_mount 5 = .ok (.aload_n 0, 1) := by decide +kernel
theorem dX3_mount_6 : decode cX3_mount 6 = .ok (.iconst 1, 1) := by decide +kernel
theorem dX3_mount_7 : decode cX3_mount 7 = .ok (.putfield 95, 3) := by decide +kernel
theorem dX3_mount_10 : decode cX3_mount 10 = .ok (.iload_n 1, 1) := by decide +kernel
theorem dX3_mount_11 : decode cX3_mount 11 = .ok (.ifCond .ne 7, 3) := by decide +kernel
theorem dX3_mount_14 : decode cX3_mount 14 = .ok (.iconst 1, 1) := by decide +kernel
theorem dX3_mount_15 : decode cX3_mount 15 = .ok (.goto 4, 3) := by decide +kernel
theorem dX3_mount_18 : decode cX3_mount 18 = .ok (.iconst 0, 1) := by decide +kernel
theorem dX3_mount_19 : decode cX3_mount 19 = .ok (.ireturn, 1) := by decide +kernel
theorem dX3_entry_0 : decode cX3_entry 0 = .ok (.iload_n 2, 1) := by decide +kernel
theorem dX3_entry_1 : decode cX3_entry 1 = .ok (.invokestatic 92, 3) := by decide +kernel
theorem dX3_entry_4 : decode cX3_entry 4 = .ok (.istore_n 3, 1) := by decide +kernel
theorem dX3_entry_5 : decode cX3_entry 5 = .ok (.aload_n 0, 1) := by decide +kernel
theorem dX3_entry_6 : decode cX3_entry 6 = .ok (.iload_n 1, 1) := by decide +kernel
theorem dX3_entry_7 : decode cX3_entry 7 = .ok (.invokevirtual 89, 3) := by decide +kernel
theorem dX3_entry_10 : decode cX3_entry 10 = .ok (.ifCond .eq 7, 3) := by decide +kernel
theorem dX3_entry_13 : decode cX3_entry 13 = .ok (.iload_n 3, 1) := by decide +kernel
theorem dX3_entry_14 : decode cX3_entry 14 = .ok (.ifCond .gt 8, 3) := by decide +kernel
theorem dX3_entry_17 : decode cX3_entry 17 = .ok (.bipush (-2), 2) := by decide +kernel
theorem dX3_entry_19 : decode cX3_entry 19 = .ok (.goto 15, 3) := by decide +kernel
theorem dX3_entry_22 : decode cX3_entry 22 = .ok (.aload_n 0, 1) := by decide +kernel
theorem dX3_entry_23 : decode cX3_entry 23 = .ok (.getfield 7, 3) := by decide +kernel
theorem dX3_entry_26 : decode cX3_entry 26 = .ok (.sipush 1296, 3) := by decide +kernel
theorem dX3_entry_29 : decode cX3_entry 29 = .ok (.iload_n 1, 1) := by decide +kernel
theorem dX3_entry_30 : decode cX3_entry 30 = .ok (.imul, 1) := by decide +kernel
theorem dX3_entry_31 : decode cX3_entry 31 = .ok (.iload_n 3, 1) := by decide +kernel
theorem dX3_entry_32 : decode cX3_entry 32 = .ok (.iadd, 1) := by decide +kernel
theorem dX3_entry_33 : decode cX3_entry 33 = .ok (.iaload, 1) := by decide +kernel
theorem dX3_entry_34 : decode cX3_entry 34 = .ok (.ireturn, 1) := by decide +kernel
theorem dX3_entryValue_0 : decode cX3_entryValue 0 = .ok (.aload_n 0, 1) := by decide +kernel
theorem dX3_entryValue_1 : decode cX3_entryValue 1 = .ok (.iload_n 1, 1) := by decide +kernel
theorem dX3_entryValue_2 : decode cX3_entryValue 2 = .ok (.iload_n 2, 1) := by decide +kernel
theorem dX3_entryValue_3 : decode cX3_entryValue 3 = .ok (.invokevirtual 102, 3) := by decide +kernel
theorem dX3_entryValue_6 : decode cX3_entryValue 6 = .ok (.istore_n 3, 1) := by decide +kernel
theorem dX3_entryValue_7 : decode cX3_entryValue 7 = .ok (.iload_n 3, 1) := by decide +kernel
theorem dX3_entryValue_8 : decode cX3_entryValue 8 = .ok (.ifCond .ge 8, 3) := by decide +kernel
theorem dX3_entryValue_11 : decode cX3_entryValue 11 = .ok (.bipush (-2), 2) := by decide +kernel
theorem dX3_entryValue_13 : decode cX3_entryValue 13 = .ok (.goto 28, 3) := by decide +kernel
theorem dX3_entryValue_16 : decode cX3_entryValue 16 = .ok (.iload_n 3, 1) := by decide +kernel
theorem dX3_entryValue_17 : decode cX3_entryValue 17 = .ok (.iconst 1, 1) := by decide +kernel
theorem dX3_entryValue_18 : decode cX3_entryValue 18 = .ok (.if_icmp .eq 8, 3) := by decide +kernel
theorem dX3_entryValue_21 : decode cX3_entryValue 21 = .ok (.bipush (-3), 2) := by decide +kernel
theorem dX3_entryValue_23 : decode cX3_entryValue 23 = .ok (.goto 18, 3) := by decide +kernel
theorem dX3_entryValue_26 : decode cX3_entryValue 26 = .ok (.aload_n 0, 1) := by decide +kernel
theorem dX3_entryValue_27 : decode cX3_entryValue 27 = .ok (.getfield 13, 3) := by decide +kernel
theorem dX3_entryValue_30 : decode cX3_entryValue 30 = .ok (.sipush 1296, 3) := by decide +kernel
theorem dX3_entryValue_33 : decode cX3_entryValue 33 = .ok (.iload_n 1, 1) := by decide +kernel
theorem dX3_entryValue_34 : decode cX3_entryValue 34 = .ok (.imul, 1) := by decide +kernel
theorem dX3_entryValue_35 : decode cX3_entryValue 35 = .ok (.iload_n 2, 1) := by decide +kernel
theorem dX3_entryValue_36 : decode cX3_entryValue 36 = .ok (.invokestatic 92, 3) := by decide +kernel
theorem dX3_entryValue_39 : decode cX3_entryValue 39 = .ok (.iadd, 1) := by decide +kernel
theorem dX3_entryValue_40 : decode cX3_entryValue 40 = .ok (.iaload, 1) := by decide +kernel
theorem dX3_entryValue_41 : decode cX3_entryValue 41 = .ok (.ireturn, 1) := by decide +kernel
theorem dX3_whiteouts_0 : decode cX3_whiteouts 0 = .ok (.iconst 0, 1) := by decide +kernel
theorem dX3_whiteouts_1 : decode cX3_whiteouts 1 = .ok (.istore_n 1, 1) := by decide +kernel
theorem dX3_whiteouts_2 : decode cX3_whiteouts 2 = .ok (.iconst 1, 1) := by decide +kernel
theorem dX3_whiteouts_3 : decode cX3_whiteouts 3 = .ok (.istore_n 2, 1) := by decide +kernel
theorem dX3_whiteouts_4 : decode cX3_whiteouts 4 = .ok (.iload_n 2, 1) := by decide +kernel
theorem dX3_whiteouts_5 : decode cX3_whiteouts 5 = .ok (.sipush 1296, 3) := by decide +kernel
theorem dX3_whiteouts_8 : decode cX3_whiteouts 8 = .ok (.if_icmp .ge 26, 3) := by decide +kernel
theorem dX3_whiteouts_11 : decode cX3_whiteouts 11 = .ok (.iload_n 1, 1) := by decide +kernel
theorem dX3_whiteouts_12 : decode cX3_whiteouts 12 = .ok (.aload_n 0, 1) := by decide +kernel
theorem dX3_whiteouts_13 : decode cX3_whiteouts 13 = .ok (.iload_n 2, 1) := by decide +kernel
theorem dX3_whiteouts_14 : decode cX3_whiteouts 14 = .ok (.invokevirtual 63, 3) := by decide +kernel
theorem dX3_whiteouts_17 : decode cX3_whiteouts 17 = .ok (.iconst 4, 1) := by decide +kernel
theorem dX3_whiteouts_18 : decode cX3_whiteouts 18 = .ok (.if_icmp .ne 7, 3) := by decide +kernel
theorem dX3_whiteouts_21 : decode cX3_whiteouts 21 = .ok (.iconst 1, 1) := by decide +kernel
theorem dX3_whiteouts_22 : decode cX3_whiteouts 22 = .ok (.goto 4, 3) := by decide +kernel
theorem dX3_whiteouts_25 : decode cX3_whiteouts 25 = .ok (.iconst 0, 1) := by decide +kernel
theorem dX3_whiteouts_26 : decode cX3_whiteouts 26 = .ok (.iadd, 1) := by decide +kernel
theorem dX3_whiteouts_27 : decode cX3_whiteouts 27 = .ok (.istore_n 1, 1) := by decide +kernel
theorem dX3_whiteouts_28 : decode cX3_whiteouts 28 = .ok (.iinc 2 1, 3) := by decide +kernel
theorem dX3_whiteouts_31 : decode cX3_whiteouts 31 = .ok (.goto (-27), 3) := by decide +kernel
theorem dX3_whiteouts_34 : decode cX3_whiteouts 34 = .ok (.iload_n 1, 1) := by decide +kernel
theorem dX3_whiteouts_35 : decode cX3_whiteouts 35 = .ok (.ireturn, 1) := by decide +kernel
theorem dX3_copies_0 : decode cX3_copies 0 = .ok (.aload_n 0, 1) := by decide +kernel
theorem dX3_copies_1 : decode cX3_copies 1 = .ok (.getfield 69, 3) := by decide +kernel
theorem dX3_copies_4 : decode cX3_copies 4 = .ok (.ireturn, 1) := by decide +kernel
theorem dX3_kind_0 : decode cX3_kind 0 = .ok (.iload_n 1, 1) := by decide +kernel
theorem dX3_kind_1 : decode cX3_kind 1 = .ok (.invokestatic 92, 3) := by decide +kernel
theorem dX3_kind_4 : decode cX3_kind 4 = .ok (.istore_n 2, 1) := by decide +kernel
theorem dX3_kind_5 : decode cX3_kind 5 = .ok (.aload_n 0, 1) := by decide +kernel
theorem dX3_kind_6 : decode cX3_kind 6 = .ok (.getfield 95, 3) := by decide +kernel
theorem dX3_kind_9 : decode cX3_kind 9 = .ok (.ifCond .eq 7, 3) := by decide +kernel
theorem dX3_kind_12 : decode cX3_kind 12 = .ok (.iload_n 2, 1) := by decide +kernel
theorem dX3_kind_13 : decode cX3_kind 13 = .ok (.ifCond .ge 17, 3) := by decide +kernel
theorem dX3_kind_16 : decode cX3_kind 16 = .ok (.aload_n 0, 1) := by decide +kernel
theorem dX3_kind_17 : decode cX3_kind 17 = .ok (.getfield 95, 3) := by decide +kernel
theorem dX3_kind_20 : decode cX3_kind 20 = .ok (.ifCond .ne 7, 3) := by decide +kernel
theorem dX3_kind_23 : decode cX3_kind 23 = .ok (.iconst (-1), 1) := by decide +kernel
theorem dX3_kind_24 : decode cX3_kind 24 = .ok (.goto 5, 3) := by decide +kernel
theorem dX3_kind_27 : decode cX3_kind 27 = .ok (.bipush (-2), 2) := by decide +kernel
theorem dX3_kind_29 : decode cX3_kind 29 = .ok (.ireturn, 1) := by decide +kernel
theorem dX3_kind_30 : decode cX3_kind 30 = .ok (.aload_n 0, 1) := by decide +kernel
theorem dX3_kind_31 : decode cX3_kind 31 = .ok (.iload_n 2, 1) := by decide +kernel
theorem dX3_kind_32 : decode cX3_kind 32 = .ok (.invokevirtual 59, 3) := by decide +kernel
theorem dX3_kind_35 : decode cX3_kind 35 = .ok (.aload_n 0, 1) := by decide +kernel
theorem dX3_kind_36 : decode cX3_kind 36 = .ok (.getfield 43, 3) := by decide +kernel
theorem dX3_kind_39 : decode cX3_kind 39 = .ok (.ireturn, 1) := by decide +kernel
theorem dX3_read_0 : decode cX3_read 0 = .ok (.aload_n 0, 1) := by decide +kernel
theorem dX3_read_1 : decode cX3_read 1 = .ok (.iload_n 1, 1) := by decide +kernel
theorem dX3_read_2 : decode cX3_read 2 = .ok (.invokevirtual 105, 3) := by decide +kernel
theorem dX3_read_5 : decode cX3_read 5 = .ok (.istore_n 2, 1) := by decide +kernel
theorem dX3_read_6 : decode cX3_read 6 = .ok (.iload_n 2, 1) := by decide +kernel
theorem dX3_read_7 : decode cX3_read 7 = .ok (.ifCond .ge 7, 3) := by decide +kernel
theorem dX3_read_10 : decode cX3_read 10 = .ok (.iload_n 2, 1) := by decide +kernel
theorem dX3_read_11 : decode cX3_read 11 = .ok (.goto 26, 3) := by decide +kernel
theorem dX3_read_14 : decode cX3_read 14 = .ok (.iload_n 2, 1) := by decide +kernel
theorem dX3_read_15 : decode cX3_read 15 = .ok (.ifCond .ne 8, 3) := by decide +kernel
theorem dX3_read_18 : decode cX3_read 18 = .ok (.bipush (-3), 2) := by decide +kernel
theorem dX3_read_20 : decode cX3_read 20 = .ok (.goto 17, 3) := by decide +kernel
theorem dX3_read_23 : decode cX3_read 23 = .ok (.iload_n 2, 1) := by decide +kernel
theorem dX3_read_24 : decode cX3_read 24 = .ok (.iconst 2, 1) := by decide +kernel
theorem dX3_read_25 : decode cX3_read 25 = .ok (.if_icmp .ne 8, 3) := by decide +kernel
theorem dX3_read_28 : decode cX3_read 28 = .ok (.bipush (-6), 2) := by decide +kernel
theorem dX3_read_30 : decode cX3_read 30 = .ok (.goto 7, 3) := by decide +kernel
theorem dX3_read_33 : decode cX3_read 33 = .ok (.aload_n 0, 1) := by decide +kernel
theorem dX3_read_34 : decode cX3_read 34 = .ok (.getfield 52, 3) := by decide +kernel
theorem dX3_read_37 : decode cX3_read 37 = .ok (.ireturn, 1) := by decide +kernel
theorem dX3_size_0 : decode cX3_size 0 = .ok (.aload_n 0, 1) := by decide +kernel
theorem dX3_size_1 : decode cX3_size 1 = .ok (.iload_n 1, 1) := by decide +kernel
theorem dX3_size_2 : decode cX3_size 2 = .ok (.invokevirtual 105, 3) := by decide +kernel
theorem dX3_size_5 : decode cX3_size 5 = .ok (.istore_n 2, 1) := by decide +kernel
theorem dX3_size_6 : decode cX3_size 6 = .ok (.iload_n 2, 1) := by decide +kernel
theorem dX3_size_7 : decode cX3_size 7 = .ok (.iconst 2, 1) := by decide +kernel
theorem dX3_size_8 : decode cX3_size 8 = .ok (.if_icmp .ge 23, 3) := by decide +kernel
theorem dX3_size_11 : decode cX3_size 11 = .ok (.iload_n 2, 1) := by decide +kernel
theorem dX3_size_12 : decode cX3_size 12 = .ok (.ifCond .ge 7, 3) := by decide +kernel
theorem dX3_size_15 : decode cX3_size 15 = .ok (.iload_n 2, 1) := by decide +kernel
theorem dX3_size_16 : decode cX3_size 16 = .ok (.goto 14, 3) := by decide +kernel
theorem dX3_size_19 : decode cX3_size 19 = .ok (.iload_n 2, 1) := by decide +kernel
theorem dX3_size_20 : decode cX3_size 20 = .ok (.ifCond .ne 8, 3) := by decide +kernel
theorem dX3_size_23 : decode cX3_size 23 = .ok (.bipush (-3), 2) := by decide +kernel
theorem dX3_size_25 : decode cX3_size 25 = .ok (.goto 5, 3) := by decide +kernel
theorem dX3_size_28 : decode cX3_size 28 = .ok (.bipush (-7), 2) := by decide +kernel
theorem dX3_size_30 : decode cX3_size 30 = .ok (.ireturn, 1) := by decide +kernel
theorem dX3_size_31 : decode cX3_size 31 = .ok (.aload_n 0, 1) := by decide +kernel
theorem dX3_size_32 : decode cX3_size 32 = .ok (.iload_n 1, 1) := by decide +kernel
theorem dX3_size_33 : decode cX3_size 33 = .ok (.invokestatic 92, 3) := by decide +kernel
theorem dX3_size_36 : decode cX3_size 36 = .ok (.invokevirtual 108, 3) := by decide +kernel
theorem dX3_size_39 : decode cX3_size 39 = .ok (.ireturn, 1) := by decide +kernel
theorem dX3_name_0 : decode cX3_name 0 = .ok (.aload_n 0, 1) := by decide +kernel
theorem dX3_name_1 : decode cX3_name 1 = .ok (.iload_n 1, 1) := by decide +kernel
theorem dX3_name_2 : decode cX3_name 2 = .ok (.invokevirtual 111, 3) := by decide +kernel
theorem dX3_name_5 : decode cX3_name 5 = .ok (.istore_n 3, 1) := by decide +kernel
theorem dX3_name_6 : decode cX3_name 6 = .ok (.iload_n 3, 1) := by decide +kernel
theorem dX3_name_7 : decode cX3_name 7 = .ok (.ifCond .ge 5, 3) := by decide +kernel
theorem dX3_name_10 : decode cX3_name 10 = .ok (.iload_n 3, 1) := by decide +kernel
theorem dX3_name_11 : decode cX3_name 11 = .ok (.ireturn, 1) := by decide +kernel
theorem dX3_name_12 : decode cX3_name 12 = .ok (.iload_n 1, 1) := by decide +kernel
theorem dX3_name_13 : decode cX3_name 13 = .ok (.invokestatic 92, 3) := by decide +kernel
theorem dX3_name_16 : decode cX3_name 16 = .ok (.istore 4, 2) := by decide +kernel
theorem dX3_name_18 : decode cX3_name 18 = .ok (.iload_n 2, 1) := by decide +kernel
theorem dX3_name_19 : decode cX3_name 19 = .ok (.istore 5, 2) := by decide +kernel
theorem dX3_name_21 : decode cX3_name 21 = .ok (.iconst 1, 1) := by decide +kernel
theorem dX3_name_22 : decode cX3_name 22 = .ok (.istore 6, 2) := by decide +kernel
theorem dX3_name_24 : decode cX3_name 24 = .ok (.iload 6, 2) := by decide +kernel
theorem dX3_name_26 : decode cX3_name 26 = .ok (.iconst 5, 1) := by decide +kernel
theorem dX3_name_27 : decode cX3_name 27 = .ok (.if_icmp .gt 62, 3) := by decide +kernel
theorem dX3_name_30 : decode cX3_name 30 = .ok (.iload_n 2, 1) := by decide +kernel
theorem dX3_name_31 : decode cX3_name 31 = .ok (.ifCond .lt 58, 3) := by decide +kernel
theorem dX3_name_34 : decode cX3_name 34 = .ok (.iload_n 2, 1) := by decide +kernel
theorem dX3_name_35 : decode cX3_name 35 = .ok (.iload_n 3, 1) := by decide +kernel
theorem dX3_name_36 : decode cX3_name 36 = .ok (.if_icmp .ge 53, 3) := by decide +kernel
theorem dX3_name_39 : decode cX3_name 39 = .ok (.aload_n 0, 1) := by decide +kernel
theorem dX3_name_40 : decode cX3_name 40 = .ok (.bipush 6, 2) := by decide +kernel
theorem dX3_name_42 : decode cX3_name 42 = .ok (.iload 4, 2) := by decide +kernel
theorem dX3_name_44 : decode cX3_name 44 = .ok (.imul, 1) := by decide +kernel
theorem dX3_name_45 : decode cX3_name 45 = .ok (.iload 6, 2) := by decide +kernel
theorem dX3_name_47 : decode cX3_name 47 = .ok (.iadd, 1) := by decide +kernel
theorem dX3_name_48 : decode cX3_name 48 = .ok (.invokevirtual 59, 3) := by decide +kernel
theorem dX3_name_51 : decode cX3_name 51 = .ok (.aload_n 0, 1) := by decide +kernel
theorem dX3_name_52 : decode cX3_name 52 = .ok (.getfield 43, 3) := by decide +kernel
theorem dX3_name_55 : decode cX3_name 55 = .ok (.ifCond .le 11, 3) := by decide +kernel
theorem dX3_name_58 : decode cX3_name 58 = .ok (.iload 5, 2) := by decide +kernel
theorem dX3_name_60 : decode cX3_name 60 = .ok (.ifCond .ne 6, 3) := by decide +kernel
theorem dX3_name_63 : decode cX3_name 63 = .ok (.iload 6, 2) := by decide +kernel
theorem dX3_name_65 : decode cX3_name 65 = .ok (.ireturn, 1) := by decide +kernel
theorem dX3_name_66 : decode cX3_name 66 = .ok (.iload 5, 2) := by decide +kernel
theorem dX3_name_68 : decode cX3_name 68 = .ok (.aload_n 0, 1) := by decide +kernel
theorem dX3_name_69 : decode cX3_name 69 = .ok (.getfield 43, 3) := by decide +kernel
theorem dX3_name_72 : decode cX3_name 72 = .ok (.ifCond .le 7, 3) := by decide +kernel
theorem dX3_name_75 : decode cX3_name 75 = .ok (.iconst 1, 1) := by decide +kernel
theorem dX3_name_76 : decode cX3_name 76 = .ok (.goto 4, 3) := by decide +kernel
theorem dX3_name_79 : decode cX3_name 79 = .ok (.iconst 0, 1) := by decide +kernel
theorem dX3_name_80 : decode cX3_name 80 = .ok (.isub, 1) := by decide +kernel
theorem dX3_name_81 : decode cX3_name 81 = .ok (.istore 5, 2) := by decide +kernel
theorem dX3_name_83 : decode cX3_name 83 = .ok (.iinc 6 1, 3) := by decide +kernel
theorem dX3_name_86 : decode cX3_name 86 = .ok (.goto (-62), 3) := by decide +kernel
theorem dX3_name_89 : decode cX3_name 89 = .ok (.bipush (-3), 2) := by decide +kernel
theorem dX3_name_91 : decode cX3_name 91 = .ok (.ireturn, 1) := by decide +kernel
theorem dX3_objects_0 : decode cX3_objects 0 = .ok (.aload_n 0, 1) := by decide +kernel
theorem dX3_objects_1 : decode cX3_objects 1 = .ok (.getfield 95, 3) := by decide +kernel
theorem dX3_objects_4 : decode cX3_objects 4 = .ok (.ifCond .ne 5, 3) := by decide +kernel
theorem dX3_objects_7 : decode cX3_objects 7 = .ok (.iconst (-1), 1) := by decide +kernel
theorem dX3_objects_8 : decode cX3_objects 8 = .ok (.ireturn, 1) := by decide +kernel
theorem dX3_objects_9 : decode cX3_objects 9 = .ok (.iconst 0, 1) := by decide +kernel
theorem dX3_objects_10 : decode cX3_objects 10 = .ok (.istore_n 1, 1) := by decide +kernel
theorem dX3_objects_11 : decode cX3_objects 11 = .ok (.iconst 1, 1) := by decide +kernel
theorem dX3_objects_12 : decode cX3_objects 12 = .ok (.istore_n 2, 1) := by decide +kernel
theorem dX3_objects_13 : decode cX3_objects 13 = .ok (.iload_n 2, 1) := by decide +kernel
theorem dX3_objects_14 : decode cX3_objects 14 = .ok (.sipush 1296, 3) := by decide +kernel
theorem dX3_objects_17 : decode cX3_objects 17 = .ok (.if_icmp .ge 42, 3) := by decide +kernel
theorem dX3_objects_20 : decode cX3_objects 20 = .ok (.iload_n 2, 1) := by decide +kernel
theorem dX3_objects_21 : decode cX3_objects 21 = .ok (.invokestatic 114, 3) := by decide +kernel
theorem dX3_objects_24 : decode cX3_objects 24 = .ok (.istore_n 3, 1) := by decide +kernel
theorem dX3_objects_25 : decode cX3_objects 25 = .ok (.iload_n 3, 1) := by decide +kernel
theorem dX3_objects_26 : decode cX3_objects 26 = .ok (.ifCond .eq 8, 3) := by decide +kernel
theorem dX3_objects_29 : decode cX3_objects 29 = .ok (.aload_n 0, 1) := by decide +kernel
theorem dX3_objects_30 : decode cX3_objects 30 = .ok (.iload_n 2, 1) := by decide +kernel
theorem dX3_objects_31 : decode cX3_objects 31 = .ok (.invokevirtual 59, 3) := by decide +kernel
theorem dX3_objects_34 : decode cX3_objects 34 = .ok (.iload_n 1, 1) := by decide +kernel
theorem dX3_objects_35 : decode cX3_objects 35 = .ok (.iload_n 3, 1) := by decide +kernel
theorem dX3_objects_36 : decode cX3_objects 36 = .ok (.ifCond .eq 14, 3) := by decide +kernel
theorem dX3_objects_39 : decode cX3_objects 39 = .ok (.aload_n 0, 1) := by decide +kernel
theorem dX3_objects_40 : decode cX3_objects 40 = .ok (.getfield 43, 3) := by decide +kernel
theorem dX3_objects_43 : decode cX3_objects 43 = .ok (.ifCond .le 7, 3) := by decide +kernel
theorem dX3_objects_46 : decode cX3_objects 46 = .ok (.iconst 1, 1) := by decide +kernel
theorem dX3_objects_47 : decode cX3_objects 47 = .ok (.goto 4, 3) := by decide +kernel
theorem dX3_objects_50 : decode cX3_objects 50 = .ok (.iconst 0, 1) := by decide +kernel
theorem dX3_objects_51 : decode cX3_objects 51 = .ok (.iadd, 1) := by decide +kernel
theorem dX3_objects_52 : decode cX3_objects 52 = .ok (.istore_n 1, 1) := by decide +kernel
theorem dX3_objects_53 : decode cX3_objects 53 = .ok (.iinc 2 1, 3) := by decide +kernel
theorem dX3_objects_56 : decode cX3_objects 56 = .ok (.goto (-43), 3) := by decide +kernel
theorem dX3_objects_59 : decode cX3_objects 59 = .ok (.iload_n 1, 1) := by decide +kernel
theorem dX3_objects_60 : decode cX3_objects 60 = .ok (.ireturn, 1) := by decide +kernel
theorem dX3_origin_0 : decode cX3_origin 0 = .ok (.aload_n 0, 1) := by decide +kernel
theorem dX3_origin_1 : decode cX3_origin 1 = .ok (.iload_n 1, 1) := by decide +kernel
theorem dX3_origin_2 : decode cX3_origin 2 = .ok (.invokevirtual 105, 3) := by decide +kernel
theorem dX3_origin_5 : decode cX3_origin 5 = .ok (.istore_n 2, 1) := by decide +kernel
theorem dX3_origin_6 : decode cX3_origin 6 = .ok (.iload_n 2, 1) := by decide +kernel
theorem dX3_origin_7 : decode cX3_origin 7 = .ok (.ifCond .ge 7, 3) := by decide +kernel
theorem dX3_origin_10 : decode cX3_origin 10 = .ok (.iload_n 2, 1) := by decide +kernel
theorem dX3_origin_11 : decode cX3_origin 11 = .ok (.goto 25, 3) := by decide +kernel
theorem dX3_origin_14 : decode cX3_origin 14 = .ok (.iload_n 1, 1) := by decide +kernel
theorem dX3_origin_15 : decode cX3_origin 15 = .ok (.ifCond .ne 8, 3) := by decide +kernel
theorem dX3_origin_18 : decode cX3_origin 18 = .ok (.bipush (-2), 2) := by decide +kernel
theorem dX3_origin_20 : decode cX3_origin 20 = .ok (.goto 16, 3) := by decide +kernel
theorem dX3_origin_23 : decode cX3_origin 23 = .ok (.iload_n 2, 1) := by decide +kernel
theorem dX3_origin_24 : decode cX3_origin 24 = .ok (.ifCond .ne 8, 3) := by decide +kernel
theorem dX3_origin_27 : decode cX3_origin 27 = .ok (.bipush (-3), 2) := by decide +kernel
theorem dX3_origin_29 : decode cX3_origin 29 = .ok (.goto 7, 3) := by decide +kernel
theorem dX3_origin_32 : decode cX3_origin 32 = .ok (.aload_n 0, 1) := by decide +kernel
theorem dX3_origin_33 : decode cX3_origin 33 = .ok (.getfield 49, 3) := by decide +kernel
theorem dX3_origin_36 : decode cX3_origin 36 = .ok (.ireturn, 1) := by decide +kernel
theorem dX3_target_0 : decode cX3_target 0 = .ok (.iload_n 1, 1) := by decide +kernel
theorem dX3_target_1 : decode cX3_target 1 = .ok (.invokestatic 92, 3) := by decide +kernel
theorem dX3_target_4 : decode cX3_target 4 = .ok (.istore_n 2, 1) := by decide +kernel
theorem dX3_target_5 : decode cX3_target 5 = .ok (.aload_n 0, 1) := by decide +kernel
theorem dX3_target_6 : decode cX3_target 6 = .ok (.getfield 95, 3) := by decide +kernel
theorem dX3_target_9 : decode cX3_target 9 = .ok (.ifCond .ne 7, 3) := by decide +kernel
theorem dX3_target_12 : decode cX3_target 12 = .ok (.iconst (-1), 1) := by decide +kernel
theorem dX3_target_13 : decode cX3_target 13 = .ok (.goto 13, 3) := by decide +kernel
theorem dX3_target_16 : decode cX3_target 16 = .ok (.iload_n 2, 1) := by decide +kernel
theorem dX3_target_17 : decode cX3_target 17 = .ok (.ifCond .gt 8, 3) := by decide +kernel
theorem dX3_target_20 : decode cX3_target 20 = .ok (.bipush (-2), 2) := by decide +kernel
theorem dX3_target_22 : decode cX3_target 22 = .ok (.goto 4, 3) := by decide +kernel
theorem dX3_target_25 : decode cX3_target 25 = .ok (.iload_n 2, 1) := by decide +kernel
theorem dX3_target_26 : decode cX3_target 26 = .ok (.ireturn, 1) := by decide +kernel
theorem dX3_isDirectory_0 : decode cX3_isDirectory 0 = .ok (.aload_n 0, 1) := by decide +kernel
theorem dX3_isDirectory_1 : decode cX3_isDirectory 1 = .ok (.iload_n 1, 1) := by decide +kernel
theorem dX3_isDirectory_2 : decode cX3_isDirectory 2 = .ok (.invokevirtual 59, 3) := by decide +kernel
theorem dX3_isDirectory_5 : decode cX3_isDirectory 5 = .ok (.aload_n 0, 1) := by decide +kernel
theorem dX3_isDirectory_6 : decode cX3_isDirectory 6 = .ok (.getfield 43, 3) := by decide +kernel
theorem dX3_isDirectory_9 : decode cX3_isDirectory 9 = .ok (.iconst 2, 1) := by decide +kernel
theorem dX3_isDirectory_10 : decode cX3_isDirectory 10 = .ok (.if_icmp .ne 7, 3) := by decide +kernel
theorem dX3_isDirectory_13 : decode cX3_isDirectory 13 = .ok (.iconst 1, 1) := by decide +kernel
theorem dX3_isDirectory_14 : decode cX3_isDirectory 14 = .ok (.goto 4, 3) := by decide +kernel
theorem dX3_isDirectory_17 : decode cX3_isDirectory 17 = .ok (.iconst 0, 1) := by decide +kernel
theorem dX3_isDirectory_18 : decode cX3_isDirectory 18 = .ok (.ireturn, 1) := by decide +kernel
theorem dX3_makeDir_0 : decode cX3_makeDir 0 = .ok (.aload_n 0, 1) := by decide +kernel
theorem dX3_makeDir_1 : decode cX3_makeDir 1 = .ok (.iload_n 1, 1) := by decide +kernel
theorem dX3_makeDir_2 : decode cX3_makeDir 2 = .ok (.invokevirtual 117, 3) := by decide +kernel
theorem dX3_makeDir_5 : decode cX3_makeDir 5 = .ok (.istore_n 2, 1) := by decide +kernel
theorem dX3_makeDir_6 : decode cX3_makeDir 6 = .ok (.iload_n 2, 1) := by decide +kernel
theorem dX3_makeDir_7 : decode cX3_makeDir 7 = .ok (.ifCond .ge 5, 3) := by decide +kernel
theorem dX3_makeDir_10 : decode cX3_makeDir 10 = .ok (.iload_n 2, 1) := by decide +kernel
theorem dX3_makeDir_11 : decode cX3_makeDir 11 = .ok (.ireturn, 1) := by decide +kernel
theorem dX3_makeDir_12 : decode cX3_makeDir 12 = .ok (.aload_n 0, 1) := by decide +kernel
theorem dX3_makeDir_13 : decode cX3_makeDir 13 = .ok (.iload_n 2, 1) := by decide +kernel
theorem dX3_makeDir_14 : decode cX3_makeDir 14 = .ok (.bipush 6, 2) := by decide +kernel
theorem dX3_makeDir_16 : decode cX3_makeDir 16 = .ok (.idiv, 1) := by decide +kernel
theorem dX3_makeDir_17 : decode cX3_makeDir 17 = .ok (.invokevirtual 120, 3) := by decide +kernel
theorem dX3_makeDir_20 : decode cX3_makeDir 20 = .ok (.ifCond .ne 6, 3) := by decide +kernel
theorem dX3_makeDir_23 : decode cX3_makeDir 23 = .ok (.bipush (-4), 2) := by decide +kernel
theorem dX3_makeDir_25 : decode cX3_makeDir 25 = .ok (.ireturn, 1) := by decide +kernel
theorem dX3_makeDir_26 : decode cX3_makeDir 26 = .ok (.aload_n 0, 1) := by decide +kernel
theorem dX3_makeDir_27 : decode cX3_makeDir 27 = .ok (.iload_n 2, 1) := by decide +kernel
theorem dX3_makeDir_28 : decode cX3_makeDir 28 = .ok (.invokevirtual 59, 3) := by decide +kernel
theorem dX3_makeDir_31 : decode cX3_makeDir 31 = .ok (.aload_n 0, 1) := by decide +kernel
theorem dX3_makeDir_32 : decode cX3_makeDir 32 = .ok (.getfield 43, 3) := by decide +kernel
theorem dX3_makeDir_35 : decode cX3_makeDir 35 = .ok (.ifCond .le 6, 3) := by decide +kernel
theorem dX3_makeDir_38 : decode cX3_makeDir 38 = .ok (.bipush (-5), 2) := by decide +kernel
theorem dX3_makeDir_40 : decode cX3_makeDir 40 = .ok (.ireturn, 1) := by decide +kernel
theorem dX3_makeDir_41 : decode cX3_makeDir 41 = .ok (.aload_n 0, 1) := by decide +kernel
theorem dX3_makeDir_42 : decode cX3_makeDir 42 = .ok (.getfield 69, 3) := by decide +kernel
theorem dX3_makeDir_45 : decode cX3_makeDir 45 = .ok (.istore_n 3, 1) := by decide +kernel
theorem dX3_makeDir_46 : decode cX3_makeDir 46 = .ok (.aload_n 0, 1) := by decide +kernel
theorem dX3_makeDir_47 : decode cX3_makeDir 47 = .ok (.invokevirtual 123, 3) := by decide +kernel
theorem dX3_makeDir_50 : decode cX3_makeDir 50 = .ok (.aload_n 0, 1) := by decide +kernel
theorem dX3_makeDir_51 : decode cX3_makeDir 51 = .ok (.iload_n 2, 1) := by decide +kernel
theorem dX3_makeDir_52 : decode cX3_makeDir 52 = .ok (.iconst 2, 1) := by decide +kernel
theorem dX3_makeDir_53 : decode cX3_makeDir 53 = .ok (.iconst 0, 1) := by decide +kernel
theorem dX3_makeDir_54 : decode cX3_makeDir 54 = .ok (.invokevirtual 126, 3) := by decide +kernel
theorem dX3_makeDir_57 : decode cX3_makeDir 57 = .ok (.aload_n 0, 1) := by decide +kernel
theorem dX3_makeDir_58 : decode cX3_makeDir 58 = .ok (.iload_n 3, 1) := by decide +kernel
theorem dX3_makeDir_59 : decode cX3_makeDir 59 = .ok (.invokevirtual 129, 3) := by decide +kernel
theorem dX3_makeDir_62 : decode cX3_makeDir 62 = .ok (.ireturn, 1) := by decide +kernel
theorem dX3_write_0 : decode cX3_write 0 = .ok (.aload_n 0, 1) := by decide +kernel
theorem dX3_write_1 : decode cX3_write 1 = .ok (.iload_n 1, 1) := by decide +kernel
theorem dX3_write_2 : decode cX3_write 2 = .ok (.invokevirtual 117, 3) := by decide +kernel
theorem dX3_write_5 : decode cX3_write 5 = .ok (.istore_n 3, 1) := by decide +kernel
theorem dX3_write_6 : decode cX3_write 6 = .ok (.iload_n 3, 1) := by decide +kernel
theorem dX3_write_7 : decode cX3_write 7 = .ok (.iconst (-1), 1) := by decide +kernel
theorem dX3_write_8 : decode cX3_write 8 = .ok (.if_icmp .eq 13, 3) := by decide +kernel
theorem dX3_write_11 : decode cX3_write 11 = .ok (.iload_n 3, 1) := by decide +kernel
theorem dX3_write_12 : decode cX3_write 12 = .ok (.bipush (-2), 2) := by decide +kernel
theorem dX3_write_14 : decode cX3_write 14 = .ok (.if_icmp .eq 7, 3) := by decide +kernel
theorem dX3_write_17 : decode cX3_write 17 = .ok (.iload_n 2, 1) := by decide +kernel
theorem dX3_write_18 : decode cX3_write 18 = .ok (.ifCond .ge 15, 3) := by decide +kernel
theorem dX3_write_21 : decode cX3_write 21 = .ok (.iload_n 3, 1) := by decide +kernel
theorem dX3_write_22 : decode cX3_write 22 = .ok (.iconst (-1), 1) := by decide +kernel
theorem dX3_write_23 : decode cX3_write 23 = .ok (.if_icmp .ne 7, 3) := by decide +kernel
theorem dX3_write_26 : decode cX3_write 26 = .ok (.iconst (-1), 1) := by decide +kernel
theorem dX3_write_27 : decode cX3_write 27 = .ok (.goto 5, 3) := by decide +kernel
theorem dX3_write_30 : decode cX3_write 30 = .ok (.bipush (-2), 2) := by decide +kernel
theorem dX3_write_32 : decode cX3_write 32 = .ok (.ireturn, 1) := by decide +kernel
theorem dX3_write_33 : decode cX3_write 33 = .ok (.aload_n 0, 1) := by decide +kernel
theorem dX3_write_34 : decode cX3_write 34 = .ok (.iload_n 3, 1) := by decide +kernel
theorem dX3_write_35 : decode cX3_write 35 = .ok (.bipush 6, 2) := by decide +kernel
theorem dX3_write_37 : decode cX3_write 37 = .ok (.idiv, 1) := by decide +kernel
theorem dX3_write_38 : decode cX3_write 38 = .ok (.invokevirtual 120, 3) := by decide +kernel
theorem dX3_write_41 : decode cX3_write 41 = .ok (.ifCond .ne 6, 3) := by decide +kernel
theorem dX3_write_44 : decode cX3_write 44 = .ok (.bipush (-4), 2) := by decide +kernel
theorem dX3_write_46 : decode cX3_write 46 = .ok (.ireturn, 1) := by decide +kernel
theorem dX3_write_47 : decode cX3_write 47 = .ok (.aload_n 0, 1) := by decide +kernel
theorem dX3_write_48 : decode cX3_write 48 = .ok (.iload_n 3, 1) := by decide +kernel
theorem dX3_write_49 : decode cX3_write 49 = .ok (.invokevirtual 59, 3) := by decide +kernel
theorem dX3_write_52 : decode cX3_write 52 = .ok (.aload_n 0, 1) := by decide +kernel
theorem dX3_write_53 : decode cX3_write 53 = .ok (.getfield 43, 3) := by decide +kernel
theorem dX3_write_56 : decode cX3_write 56 = .ok (.iconst 2, 1) := by decide +kernel
theorem dX3_write_57 : decode cX3_write 57 = .ok (.if_icmp .ne 6, 3) := by decide +kernel
theorem dX3_write_60 : decode cX3_write 60 = .ok (.bipush (-6), 2) := by decide +kernel
theorem dX3_write_62 : decode cX3_write 62 = .ok (.ireturn, 1) := by decide +kernel
theorem dX3_write_63 : decode cX3_write 63 = .ok (.aload_n 0, 1) := by decide +kernel
theorem dX3_write_64 : decode cX3_write 64 = .ok (.getfield 69, 3) := by decide +kernel
theorem dX3_write_67 : decode cX3_write 67 = .ok (.istore 4, 2) := by decide +kernel
theorem dX3_write_69 : decode cX3_write 69 = .ok (.aload_n 0, 1) := by decide +kernel
theorem dX3_write_70 : decode cX3_write 70 = .ok (.getfield 43, 3) := by decide +kernel
theorem dX3_write_73 : decode cX3_write 73 = .ok (.iconst 1, 1) := by decide +kernel
theorem dX3_write_74 : decode cX3_write 74 = .ok (.if_icmp .ne 18, 3) := by decide +kernel
theorem dX3_write_77 : decode cX3_write 77 = .ok (.aload_n 0, 1) := by decide +kernel
theorem dX3_write_78 : decode cX3_write 78 = .ok (.getfield 49, 3) := by decide +kernel
theorem dX3_write_81 : decode cX3_write 81 = .ok (.aload_n 0, 1) := by decide +kernel
theorem dX3_write_82 : decode cX3_write 82 = .ok (.getfield 31, 3) := by decide +kernel
theorem dX3_write_85 : decode cX3_write 85 = .ok (.if_icmp .ge 7, 3) := by decide +kernel
theorem dX3_write_88 : decode cX3_write 88 = .ok (.iconst 1, 1) := by decide +kernel
theorem dX3_write_89 : decode cX3_write 89 = .ok (.goto 4, 3) := by decide +kernel
theorem dX3_write_92 : decode cX3_write 92 = .ok (.iconst 0, 1) := by decide +kernel
theorem dX3_write_93 : decode cX3_write 93 = .ok (.istore 5, 2) := by decide +kernel
theorem dX3_write_95 : decode cX3_write 95 = .ok (.aload_n 0, 1) := by decide +kernel
theorem dX3_write_96 : decode cX3_write 96 = .ok (.invokevirtual 123, 3) := by decide +kernel
theorem dX3_write_99 : decode cX3_write 99 = .ok (.aload_n 0, 1) := by decide +kernel
theorem dX3_write_100 : decode cX3_write 100 = .ok (.iload_n 3, 1) := by decide +kernel
theorem dX3_write_101 : decode cX3_write 101 = .ok (.iconst 1, 1) := by decide +kernel
theorem dX3_write_102 : decode cX3_write 102 = .ok (.iload_n 2, 1) := by decide +kernel
theorem dX3_write_103 : decode cX3_write 103 = .ok (.invokevirtual 126, 3) := by decide +kernel
theorem dX3_write_106 : decode cX3_write 106 = .ok (.aload_n 0, 1) := by decide +kernel
theorem dX3_write_107 : decode cX3_write 107 = .ok (.dup, 1) := by decide +kernel
theorem dX3_write_108 : decode cX3_write 108 = .ok (.getfield 69, 3) := by decide +kernel
theorem dX3_write_111 : decode cX3_write 111 = .ok (.iload 5, 2) := by decide +kernel
theorem dX3_write_113 : decode cX3_write 113 = .ok (.ifCond .eq 7, 3) := by decide +kernel
theorem dX3_write_116 : decode cX3_write 116 = .ok (.iconst 1, 1) := by decide +kernel
theorem dX3_write_117 : decode cX3_write 117 = .ok (.goto 4, 3) := by decide +kernel
theorem dX3_write_120 : decode cX3_write 120 = .ok (.iconst 0, 1) := by decide +kernel
theorem dX3_write_121 : decode cX3_write 121 = .ok (.iadd, 1) := by decide +kernel
theorem dX3_write_122 : decode cX3_write 122 = .ok (.putfield 69, 3) := by decide +kernel
theorem dX3_write_125 : decode cX3_write 125 = .ok (.aload_n 0, 1) := by decide +kernel
theorem dX3_write_126 : decode cX3_write 126 = .ok (.iload 4, 2) := by decide +kernel
theorem dX3_write_128 : decode cX3_write 128 = .ok (.invokevirtual 129, 3) := by decide +kernel
theorem dX3_write_131 : decode cX3_write 131 = .ok (.ireturn, 1) := by decide +kernel
theorem dX3_remove_0 : decode cX3_remove 0 = .ok (.aload_n 0, 1) := by decide +kernel
theorem dX3_remove_1 : decode cX3_remove 1 = .ok (.iload_n 1, 1) := by decide +kernel
theorem dX3_remove_2 : decode cX3_remove 2 = .ok (.invokevirtual 117, 3) := by decide +kernel
theorem dX3_remove_5 : decode cX3_remove 5 = .ok (.istore_n 2, 1) := by decide +kernel
theorem dX3_remove_6 : decode cX3_remove 6 = .ok (.iload_n 2, 1) := by decide +kernel
theorem dX3_remove_7 : decode cX3_remove 7 = .ok (.ifCond .ge 5, 3) := by decide +kernel
theorem dX3_remove_10 : decode cX3_remove 10 = .ok (.iload_n 2, 1) := by decide +kernel
theorem dX3_remove_11 : decode cX3_remove 11 = .ok (.ireturn, 1) := by decide +kernel
theorem dX3_remove_12 : decode cX3_remove 12 = .ok (.aload_n 0, 1) := by decide +kernel
theorem dX3_remove_13 : decode cX3_remove 13 = .ok (.iload_n 2, 1) := by decide +kernel
theorem dX3_remove_14 : decode cX3_remove 14 = .ok (.invokevirtual 59, 3) := by decide +kernel
theorem dX3_remove_17 : decode cX3_remove 17 = .ok (.aload_n 0, 1) := by decide +kernel
theorem dX3_remove_18 : decode cX3_remove 18 = .ok (.getfield 43, 3) := by decide +kernel
theorem dX3_remove_21 : decode cX3_remove 21 = .ok (.ifCond .ne 6, 3) := by decide +kernel
theorem dX3_remove_24 : decode cX3_remove 24 = .ok (.bipush (-3), 2) := by decide +kernel
theorem dX3_remove_26 : decode cX3_remove 26 = .ok (.ireturn, 1) := by decide +kernel
theorem dX3_remove_27 : decode cX3_remove 27 = .ok (.aload_n 0, 1) := by decide +kernel
theorem dX3_remove_28 : decode cX3_remove 28 = .ok (.getfield 43, 3) := by decide +kernel
theorem dX3_remove_31 : decode cX3_remove 31 = .ok (.iconst 2, 1) := by decide +kernel
theorem dX3_remove_32 : decode cX3_remove 32 = .ok (.if_icmp .ne 14, 3) := by decide +kernel
theorem dX3_remove_35 : decode cX3_remove 35 = .ok (.aload_n 0, 1) := by decide +kernel
theorem dX3_remove_36 : decode cX3_remove 36 = .ok (.iload_n 2, 1) := by decide +kernel
theorem dX3_remove_37 : decode cX3_remove 37 = .ok (.invokevirtual 108, 3) := by decide +kernel
theorem dX3_remove_40 : decode cX3_remove 40 = .ok (.ifCond .le 6, 3) := by decide +kernel
theorem dX3_remove_43 : decode cX3_remove 43 = .ok (.bipush (-8), 2) := by decide +kernel
theorem dX3_remove_45 : decode cX3_remove 45 = .ok (.ireturn, 1) := by decide +kernel
theorem dX3_remove_46 : decode cX3_remove 46 = .ok (.aload_n 0, 1) := by decide +kernel
theorem dX3_remove_47 : decode cX3_remove 47 = .ok (.getfield 69, 3) := by decide +kernel
theorem dX3_remove_50 : decode cX3_remove 50 = .ok (.istore_n 3, 1) := by decide +kernel
theorem dX3_remove_51 : decode cX3_remove 51 = .ok (.aload_n 0, 1) := by decide +kernel
theorem dX3_remove_52 : decode cX3_remove 52 = .ok (.invokevirtual 123, 3) := by decide +kernel
theorem dX3_remove_55 : decode cX3_remove 55 = .ok (.aload_n 0, 1) := by decide +kernel
theorem dX3_remove_56 : decode cX3_remove 56 = .ok (.iload_n 2, 1) := by decide +kernel
theorem dX3_remove_57 : decode cX3_remove 57 = .ok (.invokevirtual 132, 3) := by decide +kernel
theorem dX3_remove_60 : decode cX3_remove 60 = .ok (.aload_n 0, 1) := by decide +kernel
theorem dX3_remove_61 : decode cX3_remove 61 = .ok (.iload_n 3, 1) := by decide +kernel
theorem dX3_remove_62 : decode cX3_remove 62 = .ok (.invokevirtual 129, 3) := by decide +kernel
theorem dX3_remove_65 : decode cX3_remove 65 = .ok (.ireturn, 1) := by decide +kernel
theorem dX3_note_0 : decode cX3_note 0 = .ok (.iconst 0, 1) := by decide +kernel
theorem dX3_note_1 : decode cX3_note 1 = .ok (.istore_n 2, 1) := by decide +kernel
theorem dX3_note_2 : decode cX3_note 2 = .ok (.aload_n 0, 1) := by decide +kernel
theorem dX3_note_3 : decode cX3_note 3 = .ok (.iconst 0, 1) := by decide +kernel
theorem dX3_note_4 : decode cX3_note 4 = .ok (.putfield 135, 3) := by decide +kernel
theorem dX3_note_7 : decode cX3_note 7 = .ok (.iload_n 1, 1) := by decide +kernel
theorem dX3_note_8 : decode cX3_note 8 = .ok (.istore_n 3, 1) := by decide +kernel
theorem dX3_note_9 : decode cX3_note 9 = .ok (.iload_n 3, 1) := by decide +kernel
theorem dX3_note_10 : decode cX3_note 10 = .ok (.sipush 1296, 3) := by decide +kernel
theorem dX3_note_13 : decode cX3_note 13 = .ok (.if_icmp .ge 128, 3) := by decide +kernel
theorem dX3_note_16 : decode cX3_note 16 = .ok (.iload_n 3, 1) := by decide +kernel
theorem dX3_note_17 : decode cX3_note 17 = .ok (.iload_n 1, 1) := by decide +kernel
theorem dX3_note_18 : decode cX3_note 18 = .ok (.if_icmp .eq 18, 3) := by decide +kernel
theorem dX3_note_21 : decode cX3_note 21 = .ok (.iload_n 3, 1) := by decide +kernel
theorem dX3_note_22 : decode cX3_note 22 = .ok (.iload_n 1, 1) := by decide +kernel
theorem dX3_note_23 : decode cX3_note 23 = .ok (.invokestatic 72, 3) := by decide +kernel
theorem dX3_note_26 : decode cX3_note 26 = .ok (.ifCond .eq 14, 3) := by decide +kernel
theorem dX3_note_29 : decode cX3_note 29 = .ok (.iload_n 3, 1) := by decide +kernel
theorem dX3_note_30 : decode cX3_note 30 = .ok (.invokestatic 114, 3) := by decide +kernel
theorem dX3_note_33 : decode cX3_note 33 = .ok (.ifCond .eq 7, 3) := by decide +kernel
theorem dX3_note_36 : decode cX3_note 36 = .ok (.iconst 1, 1) := by decide +kernel
theorem dX3_note_37 : decode cX3_note 37 = .ok (.goto 4, 3) := by decide +kernel
theorem dX3_note_40 : decode cX3_note 40 = .ok (.iconst 0, 1) := by decide +kernel
theorem dX3_note_41 : decode cX3_note 41 = .ok (.istore 4, 2) := by decide +kernel
theorem dX3_note_43 : decode cX3_note 43 = .ok (.iload 4, 2) := by decide +kernel
theorem dX3_note_45 : decode cX3_note 45 = .ok (.ifCond .eq 8, 3) := by decide +kernel
theorem dX3_note_48 : decode cX3_note 48 = .ok (.aload_n 0, 1) := by decide +kernel
theorem dX3_note_49 : decode cX3_note 49 = .ok (.iload_n 3, 1) := by decide +kernel
theorem dX3_note_50 : decode cX3_note 50 = .ok (.invokevirtual 59, 3) := by decide +kernel
theorem dX3_note_53 : decode cX3_note 53 = .ok (.iload 4, 2) := by decide +kernel
theorem dX3_note_55 : decode cX3_note 55 = .ok (.ifCond .eq 80, 3) := by decide +kernel
theorem dX3_note_58 : decode cX3_note 58 = .ok (.aload_n 0, 1) := by decide +kernel
theorem dX3_note_59 : decode cX3_note 59 = .ok (.getfield 43, 3) := by decide +kernel
theorem dX3_note_62 : decode cX3_note 62 = .ok (.ifCond .le 73, 3) := by decide +kernel
theorem dX3_note_65 : decode cX3_note 65 = .ok (.aload_n 0, 1) := by decide +kernel
theorem dX3_note_66 : decode cX3_note 66 = .ok (.getfield 22, 3) := by decide +kernel
theorem dX3_note_69 : decode cX3_note 69 = .ok (.aload_n 0, 1) := by decide +kernel
theorem dX3_note_70 : decode cX3_note 70 = .ok (.getfield 135, 3) := by decide +kernel
theorem dX3_note_73 : decode cX3_note 73 = .ok (.iload_n 3, 1) := by decide +kernel
theorem dX3_note_74 : decode cX3_note 74 = .ok (.iastore, 1) := by decide +kernel
theorem dX3_note_75 : decode cX3_note 75 = .ok (.aload_n 0, 1) := by decide +kernel
theorem dX3_note_76 : decode cX3_note 76 = .ok (.getfield 25, 3) := by decide +kernel
theorem dX3_note_79 : decode cX3_note 79 = .ok (.aload_n 0, 1) := by decide +kernel
theorem dX3_note_80 : decode cX3_note 80 = .ok (.getfield 135, 3) := by decide +kernel
theorem dX3_note_83 : decode cX3_note 83 = .ok (.aload_n 0, 1) := by decide +kernel
theorem dX3_note_84 : decode cX3_note 84 = .ok (.getfield 43, 3) := by decide +kernel
theorem dX3_note_87 : decode cX3_note 87 = .ok (.iastore, 1) := by decide +kernel
theorem dX3_note_88 : decode cX3_note 88 = .ok (.aload_n 0, 1) := by decide +kernel
theorem dX3_note_89 : decode cX3_note 89 = .ok (.getfield 28, 3) := by decide +kernel
theorem dX3_note_92 : decode cX3_note 92 = .ok (.aload_n 0, 1) := by decide +kernel
theorem dX3_note_93 : decode cX3_note 93 = .ok (.getfield 135, 3) := by decide +kernel
theorem dX3_note_96 : decode cX3_note 96 = .ok (.aload_n 0, 1) := by decide +kernel
theorem dX3_note_97 : decode cX3_note 97 = .ok (.getfield 52, 3) := by decide +kernel
theorem dX3_note_100 : decode cX3_note 100 = .ok (.iastore, 1) := by decide +kernel
theorem dX3_note_101 : decode cX3_note 101 = .ok (.aload_n 0, 1) := by decide +kernel
theorem dX3_note_102 : decode cX3_note 102 = .ok (.dup, 1) := by decide +kernel
theorem dX3_note_103 : decode cX3_note 103 = .ok (.getfield 135, 3) := by decide +kernel
theorem dX3_note_106 : decode cX3_note 106 = .ok (.iconst 1, 1) := by decide +kernel
theorem dX3_note_107 : decode cX3_note 107 = .ok (.iadd, 1) := by decide +kernel
theorem dX3_note_108 : decode cX3_note 108 = .ok (.putfield 135, 3) := by decide +kernel
theorem dX3_note_111 : decode cX3_note 111 = .ok (.iload_n 3, 1) := by decide +kernel
theorem dX3_note_112 : decode cX3_note 112 = .ok (.invokestatic 35, 3) := by decide +kernel
theorem dX3_note_115 : decode cX3_note 115 = .ok (.iload_n 1, 1) := by decide +kernel
theorem dX3_note_116 : decode cX3_note 116 = .ok (.invokestatic 35, 3) := by decide +kernel
theorem dX3_note_119 : decode cX3_note 119 = .ok (.isub, 1) := by decide +kernel
theorem dX3_note_120 : decode cX3_note 120 = .ok (.istore 5, 2) := by decide +kernel
theorem dX3_note_122 : decode cX3_note 122 = .ok (.iload 5, 2) := by decide +kernel
theorem dX3_note_124 : decode cX3_note 124 = .ok (.iload_n 2, 1) := by decide +kernel
theorem dX3_note_125 : decode cX3_note 125 = .ok (.if_icmp .le 8, 3) := by decide +kernel
theorem dX3_note_128 : decode cX3_note 128 = .ok (.iload 5, 2) := by decide +kernel
theorem dX3_note_130 : decode cX3_note 130 = .ok (.goto 4, 3) := by decide +kernel
theorem dX3_note_133 : decode cX3_note 133 = .ok (.iload_n 2, 1) := by decide +kernel
theorem dX3_note_134 : decode cX3_note 134 = .ok (.istore_n 2, 1) := by decide +kernel
theorem dX3_note_135 : decode cX3_note 135 = .ok (.iinc 3 1, 3) := by decide +kernel
theorem dX3_note_138 : decode cX3_note 138 = .ok (.goto (-129), 3) := by decide +kernel
theorem dX3_note_141 : decode cX3_note 141 = .ok (.iload_n 2, 1) := by decide +kernel
theorem dX3_note_142 : decode cX3_note 142 = .ok (.ireturn, 1) := by decide +kernel
theorem dX3_rename_0 : decode cX3_rename 0 = .ok (.aload_n 0, 1) := by decide +kernel
theorem dX3_rename_1 : decode cX3_rename 1 = .ok (.iload_n 1, 1) := by decide +kernel
theorem dX3_rename_2 : decode cX3_rename 2 = .ok (.invokevirtual 117, 3) := by decide +kernel
theorem dX3_rename_5 : decode cX3_rename 5 = .ok (.istore_n 3, 1) := by decide +kernel
theorem dX3_rename_6 : decode cX3_rename 6 = .ok (.aload_n 0, 1) := by decide +kernel
theorem dX3_rename_7 : decode cX3_rename 7 = .ok (.iload_n 2, 1) := by decide +kernel
theorem dX3_rename_8 : decode cX3_rename 8 = .ok (.invokevirtual 117, 3) := by decide +kernel
theorem dX3_rename_11 : decode cX3_rename 11 = .ok (.istore 4, 2) := by decide +kernel
theorem dX3_rename_13 : decode cX3_rename 13 = .ok (.iload_n 3, 1) := by decide +kernel
theorem dX3_rename_14 : decode cX3_rename 14 = .ok (.ifCond .lt 8, 3) := by decide +kernel
theorem dX3_rename_17 : decode cX3_rename 17 = .ok (.iload 4, 2) := by decide +kernel
theorem dX3_rename_19 : decode cX3_rename 19 = .ok (.ifCond .ge 17, 3) := by decide +kernel
theorem dX3_rename_22 : decode cX3_rename 22 = .ok (.aload_n 0, 1) := by decide +kernel
theorem dX3_rename_23 : decode cX3_rename 23 = .ok (.getfield 95, 3) := by decide +kernel
theorem dX3_rename_26 : decode cX3_rename 26 = .ok (.ifCond .ne 7, 3) := by decide +kernel
theorem dX3_rename_29 : decode cX3_rename 29 = .ok (.iconst (-1), 1) := by decide +kernel
theorem dX3_rename_30 : decode cX3_rename 30 = .ok (.goto 5, 3) := by decide +kernel
theorem dX3_rename_33 : decode cX3_rename 33 = .ok (.bipush (-2), 2) := by decide +kernel
theorem dX3_rename_35 : decode cX3_rename 35 = .ok (.ireturn, 1) := by decide +kernel
theorem dX3_rename_36 : decode cX3_rename 36 = .ok (.aload_n 0, 1) := by decide +kernel
theorem dX3_rename_37 : decode cX3_rename 37 = .ok (.iload_n 3, 1) := by decide +kernel
theorem dX3_rename_38 : decode cX3_rename 38 = .ok (.invokevirtual 59, 3) := by decide +kernel
theorem dX3_rename_41 : decode cX3_rename 41 = .ok (.aload_n 0, 1) := by decide +kernel
theorem dX3_rename_42 : decode cX3_rename 42 = .ok (.getfield 43, 3) := by decide +kernel
theorem dX3_rename_45 : decode cX3_rename 45 = .ok (.istore 5, 2) := by decide +kernel
theorem dX3_rename_47 : decode cX3_rename 47 = .ok (.iload 5, 2) := by decide +kernel
theorem dX3_rename_49 : decode cX3_rename 49 = .ok (.ifCond .ne 6, 3) := by decide +kernel
theorem dX3_rename_52 : decode cX3_rename 52 = .ok (.bipush (-3), 2) := by decide +kernel
theorem dX3_rename_54 : decode cX3_rename 54 = .ok (.ireturn, 1) := by decide +kernel
theorem dX3_rename_55 : decode cX3_rename 55 = .ok (.iload_n 3, 1) := by decide +kernel
theorem dX3_rename_56 : decode cX3_rename 56 = .ok (.iload 4, 2) := by decide +kernel
theorem dX3_rename_58 : decode cX3_rename 58 = .ok (.if_icmp .ne 5, 3) := by decide +kernel
theorem dX3_rename_61 : decode cX3_rename 61 = .ok (.iconst 0, 1) := by decide +kernel
theorem dX3_rename_62 : decode cX3_rename 62 = .ok (.ireturn, 1) := by decide +kernel
theorem dX3_rename_63 : decode cX3_rename 63 = .ok (.iload 4, 2) := by decide +kernel
theorem dX3_rename_65 : decode cX3_rename 65 = .ok (.iload_n 3, 1) := by decide +kernel
theorem dX3_rename_66 : decode cX3_rename 66 = .ok (.invokestatic 72, 3) := by decide +kernel
theorem dX3_rename_69 : decode cX3_rename 69 = .ok (.ifCond .eq 6, 3) := by decide +kernel
theorem dX3_rename_72 : decode cX3_rename 72 = .ok (.bipush (-9), 2) := by decide +kernel
theorem dX3_rename_74 : decode cX3_rename 74 = .ok (.ireturn, 1) := by decide +kernel
theorem dX3_rename_75 : decode cX3_rename 75 = .ok (.aload_n 0, 1) := by decide +kernel
theorem dX3_rename_76 : decode cX3_rename 76 = .ok (.iload 4, 2) := by decide +kernel
theorem dX3_rename_78 : decode cX3_rename 78 = .ok (.bipush 6, 2) := by decide +kernel
theorem dX3_rename_80 : decode cX3_rename 80 = .ok (.idiv, 1) := by decide +kernel
theorem dX3_rename_81 : decode cX3_rename 81 = .ok (.invokevirtual 120, 3) := by decide +kernel
theorem dX3_rename_84 : decode cX3_rename 84 = .ok (.ifCond .ne 6, 3) := by decide +kernel
theorem dX3_rename_87 : decode cX3_rename 87 = .ok (.bipush (-4), 2) := by decide +kernel
theorem dX3_rename_89 : decode cX3_rename 89 = .ok (.ireturn, 1) := by decide +kernel
theorem dX3_rename_90 : decode cX3_rename 90 = .ok (.aload_n 0, 1) := by decide +kernel
theorem dX3_rename_91 : decode cX3_rename 91 = .ok (.iload 4, 2) := by decide +kernel
theorem dX3_rename_93 : decode cX3_rename 93 = .ok (.invokevirtual 59, 3) := by decide +kernel
theorem dX3_rename_96 : decode cX3_rename 96 = .ok (.aload_n 0, 1) := by decide +kernel
theorem dX3_rename_97 : decode cX3_rename 97 = .ok (.getfield 43, 3) := by decide +kernel
theorem dX3_rename_100 : decode cX3_rename 100 = .ok (.istore 6, 2) := by decide +kernel
theorem dX3_rename_102 : decode cX3_rename 102 = .ok (.iload 6, 2) := by decide +kernel
theorem dX3_rename_104 : decode cX3_rename 104 = .ok (.ifCond .le 24, 3) := by decide +kernel
theorem dX3_rename_107 : decode cX3_rename 107 = .ok (.iload 6, 2) := by decide +kernel
theorem dX3_rename_109 : decode cX3_rename 109 = .ok (.iload 5, 2) := by decide +kernel
theorem dX3_rename_111 : decode cX3_rename 111 = .ok (.if_icmp .eq 17, 3) := by decide +kernel
theorem dX3_rename_114 : decode cX3_rename 114 = .ok (.iload 6, 2) := by decide +kernel
theorem dX3_rename_116 : decode cX3_rename 116 = .ok (.iconst 2, 1) := by decide +kernel
theorem dX3_rename_117 : decode cX3_rename 117 = .ok (.if_icmp .ne 8, 3) := by decide +kernel
theorem dX3_rename_120 : decode cX3_rename 120 = .ok (.bipush (-6), 2) := by decide +kernel
theorem dX3_rename_122 : decode cX3_rename 122 = .ok (.goto 5, 3) := by decide +kernel
theorem dX3_rename_125 : decode cX3_rename 125 = .ok (.bipush (-7), 2) := by decide +kernel
theorem dX3_rename_127 : decode cX3_rename 127 = .ok (.ireturn, 1) := by decide +kernel
theorem dX3_rename_128 : decode cX3_rename 128 = .ok (.iload 6, 2) := by decide +kernel
theorem dX3_rename_130 : decode cX3_rename 130 = .ok (.iconst 2, 1) := by decide +kernel
theorem dX3_rename_131 : decode cX3_rename 131 = .ok (.if_icmp .ne 15, 3) := by decide +kernel
theorem dX3_rename_134 : decode cX3_rename 134 = .ok (.aload_n 0, 1) := by decide +kernel
theorem dX3_rename_135 : decode cX3_rename 135 = .ok (.iload 4, 2) := by decide +kernel
theorem dX3_rename_137 : decode cX3_rename 137 = .ok (.invokevirtual 108, 3) := by decide +kernel
theorem dX3_rename_140 : decode cX3_rename 140 = .ok (.ifCond .le 6, 3) := by decide +kernel
theorem dX3_rename_143 : decode cX3_rename 143 = .ok (.bipush (-8), 2) := by decide +kernel
theorem dX3_rename_145 : decode cX3_rename 145 = .ok (.ireturn, 1) := by decide +kernel
theorem dX3_rename_146 : decode cX3_rename 146 = .ok (.aload_n 0, 1) := by decide +kernel
theorem dX3_rename_147 : decode cX3_rename 147 = .ok (.iload_n 3, 1) := by decide +kernel
theorem dX3_rename_148 : decode cX3_rename 148 = .ok (.invokevirtual 138, 3) := by decide +kernel
theorem dX3_rename_151 : decode cX3_rename 151 = .ok (.istore 7, 2) := by decide +kernel
theorem dX3_rename_153 : decode cX3_rename 153 = .ok (.iload 4, 2) := by decide +kernel
theorem dX3_rename_155 : decode cX3_rename 155 = .ok (.invokestatic 35, 3) := by decide +kernel
theorem dX3_rename_158 : decode cX3_rename 158 = .ok (.iload 7, 2) := by decide +kernel
theorem dX3_rename_160 : decode cX3_rename 160 = .ok (.iadd, 1) := by decide +kernel
theorem dX3_rename_161 : decode cX3_rename 161 = .ok (.iconst 4, 1) := by decide +kernel
theorem dX3_rename_162 : decode cX3_rename 162 = .ok (.if_icmp .le 6, 3) := by decide +kernel
theorem dX3_rename_165 : decode cX3_rename 165 = .ok (.bipush (-10), 2) := by decide +kernel
theorem dX3_rename_167 : decode cX3_rename 167 = .ok (.ireturn, 1) := by decide +kernel
theorem dX3_rename_168 : decode cX3_rename 168 = .ok (.aload_n 0, 1) := by decide +kernel
theorem dX3_rename_169 : decode cX3_rename 169 = .ok (.getfield 69, 3) := by decide +kernel
theorem dX3_rename_172 : decode cX3_rename 172 = .ok (.istore 8, 2) := by decide +kernel
theorem dX3_rename_174 : decode cX3_rename 174 = .ok (.aload_n 0, 1) := by decide +kernel
theorem dX3_rename_175 : decode cX3_rename 175 = .ok (.invokevirtual 123, 3) := by decide +kernel
theorem dX3_rename_178 : decode cX3_rename 178 = .ok (.iconst 0, 1) := by decide +kernel
theorem dX3_rename_179 : decode cX3_rename 179 = .ok (.istore 9, 2) := by decide +kernel
theorem dX3_rename_181 : decode cX3_rename 181 = .ok (.iload 9, 2) := by decide +kernel
theorem dX3_rename_183 : decode cX3_rename 183 = .ok (.aload_n 0, 1) := by decide +kernel
theorem dX3_rename_184 : decode cX3_rename 184 = .ok (.getfield 135, 3) := by decide +kernel
theorem dX3_rename_187 : decode cX3_rename 187 = .ok (.if_icmp .ge 95, 3) := by decide +kernel
theorem dX3_rename_190 : decode cX3_rename 190 = .ok (.aload_n 0, 1) := by decide +kernel
theorem dX3_rename_191 : decode cX3_rename 191 = .ok (.getfield 22, 3) := by decide +kernel
theorem dX3_rename_194 : decode cX3_rename 194 = .ok (.iload 9, 2) := by decide +kernel
theorem dX3_rename_196 : decode cX3_rename 196 = .ok (.iaload, 1) := by decide +kernel
theorem dX3_rename_197 : decode cX3_rename 197 = .ok (.istore 10, 2) := by decide +kernel
theorem dX3_rename_199 : decode cX3_rename 199 = .ok (.iload 4, 2) := by decide +kernel
theorem dX3_rename_201 : decode cX3_rename 201 = .ok (.istore 11, 2) := by decide +kernel
theorem dX3_rename_203 : decode cX3_rename 203 = .ok (.iconst 1, 1) := by decide +kernel
theorem dX3_rename_204 : decode cX3_rename 204 = .ok (.istore 12, 2) := by decide +kernel
theorem dX3_rename_206 : decode cX3_rename 206 = .ok (.aload_n 0, 1) := by decide +kernel
theorem dX3_rename_207 : decode cX3_rename 207 = .ok (.getfield 22, 3) := by decide +kernel
theorem dX3_rename_210 : decode cX3_rename 210 = .ok (.iload 9, 2) := by decide +kernel
theorem dX3_rename_212 : decode cX3_rename 212 = .ok (.iaload, 1) := by decide +kernel
theorem dX3_rename_213 : decode cX3_rename 213 = .ok (.invokestatic 35, 3) := by decide +kernel
theorem dX3_rename_216 : decode cX3_rename 216 = .ok (.iload_n 3, 1) := by decide +kernel
theorem dX3_rename_217 : decode cX3_rename 217 = .ok (.invokestatic 35, 3) := by decide +kernel
theorem dX3_rename_220 : decode cX3_rename 220 = .ok (.isub, 1) := by decide +kernel
theorem dX3_rename_221 : decode cX3_rename 221 = .ok (.istore 13, 2) := by decide +kernel
theorem dX3_rename_223 : decode cX3_rename 223 = .ok (.iload 13, 2) := by decide +kernel
theorem dX3_rename_225 : decode cX3_rename 225 = .ok (.ifCond .le 23, 3) := by decide +kernel
theorem dX3_rename_228 : decode cX3_rename 228 = .ok (.iload 11, 2) := by decide +kernel
theorem dX3_rename_230 : decode cX3_rename 230 = .ok (.bipush 6, 2) := by decide +kernel
theorem dX3_rename_232 : decode cX3_rename 232 = .ok (.imul, 1) := by decide +kernel
theorem dX3_rename_233 : decode cX3_rename 233 = .ok (.istore 11, 2) := by decide +kernel
theorem dX3_rename_235 : decode cX3_rename 235 = .ok (.iload 12, 2) := by decide +kernel
theorem dX3_rename_237 : decode cX3_rename 237 = .ok (.bipush 6, 2) := by decide +kernel
theorem dX3_rename_239 : decode cX3_rename 239 = .ok (.imul, 1) := by decide +kernel
theorem dX3_rename_240 : decode cX3_rename 240 = .ok (.istore 12, 2) := by decide +kernel
theorem dX3_rename_242 : decode cX3_rename 242 = .ok (.iinc 13 (-1), 3) := by decide +kernel
theorem dX3_rename_245 : decode cX3_rename 245 = .ok (.goto (-22), 3) := by decide +kernel
theorem dX3_rename_248 : decode cX3_rename 248 = .ok (.aload_n 0, 1) := by decide +kernel
theorem dX3_rename_249 : decode cX3_rename 249 = .ok (.iload 11, 2) := by decide +kernel
theorem dX3_rename_251 : decode cX3_rename 251 = .ok (.iload 10, 2) := by decide +kernel
theorem dX3_rename_253 : decode cX3_rename 253 = .ok (.iadd, 1) := by decide +kernel
theorem dX3_rename_254 : decode cX3_rename 254 = .ok (.iload_n 3, 1) := by decide +kernel
theorem dX3_rename_255 : decode cX3_rename 255 = .ok (.iload 12, 2) := by decide +kernel
theorem dX3_rename_257 : decode cX3_rename 257 = .ok (.imul, 1) := by decide +kernel
theorem dX3_rename_258 : decode cX3_rename 258 = .ok (.isub, 1) := by decide +kernel
theorem dX3_rename_259 : decode cX3_rename 259 = .ok (.aload_n 0, 1) := by decide +kernel
theorem dX3_rename_260 : decode cX3_rename 260 = .ok (.getfield 25, 3) := by decide +kernel
theorem dX3_rename_263 : decode cX3_rename 263 = .ok (.iload 9, 2) := by decide +kernel
theorem dX3_rename_265 : decode cX3_rename 265 = .ok (.iaload, 1) := by decide +kernel
theorem dX3_rename_266 : decode cX3_rename 266 = .ok (.aload_n 0, 1) := by decide +kernel
theorem dX3_rename_267 : decode cX3_rename 267 = .ok (.getfield 28, 3) := by decide +kernel
theorem dX3_rename_270 : decode cX3_rename 270 = .ok (.iload 9, 2) := by decide +kernel
theorem dX3_rename_272 : decode cX3_rename 272 = .ok (.iaload, 1) := by decide +kernel
theorem dX3_rename_273 : decode cX3_rename 273 = .ok (.invokevirtual 126, 3) := by decide +kernel
theorem dX3_rename_276 : decode cX3_rename 276 = .ok (.iinc 9 1, 3) := by decide +kernel
theorem dX3_rename_279 : decode cX3_rename 279 = .ok (.goto (-98), 3) := by decide +kernel
theorem dX3_rename_282 : decode cX3_rename 282 = .ok (.aload_n 0, 1) := by decide +kernel
theorem dX3_rename_283 : decode cX3_rename 283 = .ok (.iload_n 3, 1) := by decide +kernel
theorem dX3_rename_284 : decode cX3_rename 284 = .ok (.invokevirtual 132, 3) := by decide +kernel
theorem dX3_rename_287 : decode cX3_rename 287 = .ok (.aload_n 0, 1) := by decide +kernel
theorem dX3_rename_288 : decode cX3_rename 288 = .ok (.iload 8, 2) := by decide +kernel
theorem dX3_rename_290 : decode cX3_rename 290 = .ok (.invokevirtual 129, 3) := by decide +kernel
theorem dX3_rename_293 : decode cX3_rename 293 = .ok (.ireturn, 1) := by decide +kernel
