theorem dX2_init_0 : decode cX2_init 0 = .ok (.aload_n 0, 1) := by decide +kernel
theorem dX2_init_1 : decode cX2_init 1 = .ok (.invokespecial 1, 3) := by decide +kernel
theorem dX2_init_4 : decode cX2_init 4 = .ok (.aload_n 0, 1) := by decide +kernel
theorem dX2_init_5 : decode cX2_init 5 = .ok (.iconst 1, 1) := by decide +kernel
theorem dX2_init_6 : decode cX2_init 6 = .ok (.iload_n 1, 1) := by decide +kernel
theorem dX2_init_7 : decode cX2_init 7 = .ok (.iconst 3, 1) := by decide +kernel
theorem dX2_init_8 : decode cX2_init 8 = .ok (.invokestatic 9, 3) := by decide +kernel
theorem dX2_init_11 : decode cX2_init 11 = .ok (.invokestatic 15, 3) := by decide +kernel
theorem dX2_init_14 : decode cX2_init 14 = .ok (.putfield 18, 3) := by decide +kernel
theorem dX2_init_17 : decode cX2_init 17 = .ok (.aload_n 0, 1) := by decide +kernel
theorem dX2_init_18 : decode cX2_init 18 = .ok (.aload_n 0, 1) := by decide +kernel
theorem dX2_init_19 : decode cX2_init 19 = .ok (.getfield 18, 3) := by decide +kernel
theorem dX2_init_22 : decode cX2_init 22 = .ok (.iconst 1, 1) := by decide +kernel
theorem dX2_init_23 : decode cX2_init 23 = .ok (.iadd, 1) := by decide +kernel
theorem dX2_init_24 : decode cX2_init 24 = .ok (.anewarray 22, 3) := by decide +kernel
theorem dX2_init_27 : decode cX2_init 27 = .ok (.putfield 24, 3) := by decide +kernel
theorem dX2_init_30 : decode cX2_init 30 = .ok (.iconst 0, 1) := by decide +kernel
theorem dX2_init_31 : decode cX2_init 31 = .ok (.istore_n 2, 1) := by decide +kernel
theorem dX2_init_32 : decode cX2_init 32 = .ok (.iload_n 2, 1) := by decide +kernel
theorem dX2_init_33 : decode cX2_init 33 = .ok (.aload_n 0, 1) := by decide +kernel
theorem dX2_init_34 : decode cX2_init 34 = .ok (.getfield 18, 3) := by decide +kernel
theorem dX2_init_37 : decode cX2_init 37 = .ok (.if_icmp .gt 22, 3) := by decide +kernel
theorem dX2_init_40 : decode cX2_init 40 = .ok (.aload_n 0, 1) := by decide +kernel
theorem dX2_init_41 : decode cX2_init 41 = .ok (.getfield 24, 3) := by decide +kernel
theorem dX2_init_44 : decode cX2_init 44 = .ok (.iload_n 2, 1) := by decide +kernel
theorem dX2_init_45 : decode cX2_init 45 = .ok (.new 22, 3) := by decide +kernel
theorem dX2_init_48 : decode cX2_init 48 = .ok (.dup, 1) := by decide +kernel
theorem dX2_init_49 : decode cX2_init 49 = .ok (.invokespecial 28, 3) := by decide +kernel
theorem dX2_init_52 : decode cX2_init 52 = .ok (.aastore, 1) := by decide +kernel
theorem dX2_init_53 : decode cX2_init 53 = .ok (.iinc 2 1, 3) := by decide +kernel
theorem dX2_init_56 : decode cX2_init 56 = .ok (.goto (-24), 3) := by decide +kernel
theorem dX2_init_59 : decode cX2_init 59 = .ok (.aload_n 0, 1) := by decide +kernel
theorem dX2_init_60 : decode cX2_init 60 = .ok (.aload_n 0, 1) := by decide +kernel
theorem dX2_init_61 : decode cX2_init 61 = .ok (.getfield 24, 3) := by decide +kernel
theorem dX2_init_64 : decode cX2_init 64 = .ok (.aload_n 0, 1) := by decide +kernel
theorem dX2_init_65 : decode cX2_init 65 = .ok (.getfield 18, 3) := by decide +kernel
theorem dX2_init_68 : decode cX2_init 68 = .ok (.aaload, 1) := by decide +kernel
theorem dX2_init_69 : decode cX2_init 69 = .ok (.putfield 29, 3) := by decide +kernel
theorem dX2_init_72 : decode cX2_init 72 = .ok (.aload_n 0, 1) := by decide +kernel
theorem dX2_init_73 : decode cX2_init 73 = .ok (.new 22, 3) := by decide +kernel
theorem dX2_init_76 : decode cX2_init 76 = .ok (.dup, 1) := by decide +kernel
theorem dX2_init_77 : decode cX2_init 77 = .ok (.invokespecial 28, 3) := by decide +kernel
theorem dX2_init_80 : decode cX2_init 80 = .ok (.putfield 33, 3) := by decide +kernel
theorem dX2_init_83 : decode cX2_init 83 = .ok (.aload_n 0, 1) := by decide +kernel
theorem dX2_init_84 : decode cX2_init 84 = .ok (.sipush 156, 3) := by decide +kernel
theorem dX2_init_87 : decode cX2_init 87 = .ok (.newarray .int, 2) := by decide +kernel
theorem dX2_init_89 : decode cX2_init 89 = .ok (.putfield 38, 3) := by decide +kernel
theorem dX2_init_92 : decode cX2_init 92 = .ok (.return_, 1) := by decide +kernel
theorem dX2_put_0 : decode cX2_put 0 = .ok (.iload_n 2, 1) := by decide +kernel
theorem dX2_put_1 : decode cX2_put 1 = .ok (.invokestatic 42, 3) := by decide +kernel
theorem dX2_put_4 : decode cX2_put 4 = .ok (.istore 5, 2) := by decide +kernel
theorem dX2_put_6 : decode cX2_put 6 = .ok (.aload_n 0, 1) := by decide +kernel
theorem dX2_put_7 : decode cX2_put 7 = .ok (.getfield 46, 3) := by decide +kernel
theorem dX2_put_10 : decode cX2_put 10 = .ok (.ifCond .ne 16, 3) := by decide +kernel
theorem dX2_put_13 : decode cX2_put 13 = .ok (.aload_n 0, 1) := by decide +kernel
theorem dX2_put_14 : decode cX2_put 14 = .ok (.iload_n 1, 1) := by decide +kernel
theorem dX2_put_15 : decode cX2_put 15 = .ok (.invokevirtual 50, 3) := by decide +kernel
theorem dX2_put_18 : decode cX2_put 18 = .ok (.ifCond .eq 8, 3) := by decide +kernel
theorem dX2_put_21 : decode cX2_put 21 = .ok (.iload 5, 2) := by decide +kernel
theorem dX2_put_23 : decode cX2_put 23 = .ok (.ifCond .gt 5, 3) := by decide +kernel
theorem dX2_put_26 : decode cX2_put 26 = .ok (.iconst 0, 1) := by decide +kernel
theorem dX2_put_27 : decode cX2_put 27 = .ok (.ireturn, 1) := by decide +kernel
theorem dX2_put_28 : decode cX2_put 28 = .ok (.iload_n 3, 1) := by decide +kernel
theorem dX2_put_29 : decode cX2_put 29 = .ok (.iconst 1, 1) := by decide +kernel
theorem dX2_put_30 : decode cX2_put 30 = .ok (.if_icmp .lt 18, 3) := by decide +kernel
theorem dX2_put_33 : decode cX2_put 33 = .ok (.iload_n 3, 1) := by decide +kernel
theorem dX2_put_34 : decode cX2_put 34 = .ok (.iconst 4, 1) := by decide +kernel
theorem dX2_put_35 : decode cX2_put 35 = .ok (.if_icmp .gt 13, 3) := by decide +kernel
theorem dX2_put_38 : decode cX2_put 38 = .ok (.iload_n 3, 1) := by decide +kernel
theorem dX2_put_39 : decode cX2_put 39 = .ok (.iconst 1, 1) := by decide +kernel
theorem dX2_put_40 : decode cX2_put 40 = .ok (.if_icmp .ne 10, 3) := by decide +kernel
theorem dX2_put_43 : decode cX2_put 43 = .ok (.iload 4, 2) := by decide +kernel
theorem dX2_put_45 : decode cX2_put 45 = .ok (.ifCond .ge 5, 3) := by decide +kernel
theorem dX2_put_48 : decode cX2_put 48 = .ok (.iconst 0, 1) := by decide +kernel
theorem dX2_put_49 : decode cX2_put 49 = .ok (.ireturn, 1) := by decide +kernel
theorem dX2_put_50 : decode cX2_put 50 = .ok (.aload_n 0, 1) := by decide +kernel
theorem dX2_put_51 : decode cX2_put 51 = .ok (.getfield 24, 3) := by decide +kernel
theorem dX2_put_54 : decode cX2_put 54 = .ok (.iload_n 1, 1) := by decide +kernel
theorem dX2_put_55 : decode cX2_put 55 = .ok (.aaload, 1) := by decide +kernel
theorem dX2_put_56 : decode cX2_put 56 = .ok (.astore 6, 2) := by decide +kernel
theorem dX2_put_58 : decode cX2_put 58 = .ok (.aload 6, 2) := by decide +kernel
theorem dX2_put_60 : decode cX2_put 60 = .ok (.iload 5, 2) := by decide +kernel
theorem dX2_put_62 : decode cX2_put 62 = .ok (.invokevirtual 54, 3) := by decide +kernel
theorem dX2_put_65 : decode cX2_put 65 = .ok (.ifCond .ne 24, 3) := by decide +kernel
theorem dX2_put_68 : decode cX2_put 68 = .ok (.aload 6, 2) := by decide +kernel
theorem dX2_put_70 : decode cX2_put 70 = .ok (.iload 5, 2) := by decide +kernel
theorem dX2_put_72 : decode cX2_put 72 = .ok (.invokestatic 57, 3) := by decide +kernel
theorem dX2_put_75 : decode cX2_put 75 = .ok (.invokevirtual 60, 3) := by decide +kernel
theorem dX2_put_78 : decode cX2_put 78 = .ok (.ifCond .eq 11, 3) := by decide +kernel
theorem dX2_put_81 : decode cX2_put 81 = .ok (.aload_n 0, 1) := by decide +kernel
theorem dX2_put_82 : decode cX2_put 82 = .ok (.iload_n 1, 1) := by decide +kernel
theorem dX2_put_83 : decode cX2_put 83 = .ok (.invokevirtual 63, 3) := by decide +kernel
theorem dX2_put_86 : decode cX2_put 86 = .ok (.ifCond .ne 5, 3) := by decide +kernel
theorem dX2_put_89 : decode cX2_put 89 = .ok (.iconst 0, 1) := by decide +kernel
theorem dX2_put_90 : decode cX2_put 90 = .ok (.ireturn, 1) := by decide +kernel
theorem dX2_put_91 : decode cX2_put 91 = .ok (.aload 6, 2) := by decide +kernel
theorem dX2_put_93 : decode cX2_put 93 = .ok (.iload 5, 2) := by decide +kernel
theorem dX2_put_95 : decode cX2_put 95 = .ok (.iload_n 3, 1) := by decide +kernel
theorem dX2_put_96 : decode cX2_put 96 = .ok (.iconst 1, 1) := by decide +kernel
theorem dX2_put_97 : decode cX2_put 97 = .ok (.if_icmp .ne 11, 3) := by decide +kernel
theorem dX2_put_100 : decode cX2_put 100 = .ok (.iload 4, 2) := by decide +kernel
theorem dX2_put_102 : decode cX2_put 102 = .ok (.invokestatic 66, 3) := by decide +kernel
theorem dX2_put_105 : decode cX2_put 105 = .ok (.goto 4, 3) := by decide +kernel
theorem dX2_put_108 : decode cX2_put 108 = .ok (.iload_n 3, 1) := by decide +kernel
theorem dX2_put_109 : decode cX2_put 109 = .ok (.invokevirtual 69, 3) := by decide +kernel
theorem dX2_put_112 : decode cX2_put 112 = .ok (.iconst 1, 1) := by decide +kernel
theorem dX2_put_113 : decode cX2_put 113 = .ok (.ireturn, 1) := by decide +kernel
theorem dX2_mount_0 : decode cX2_mount 0 = .ok (.aload_n 0, 1) := by decide +kernel
theorem dX2_mount_1 : decode cX2_mount 1 = .ok (.getfield 46, 3) := by decide +kernel
theorem dX2_mount_4 : decode cX2_mount 4 = .ok (.ifCond .eq 5, 3) := by decide +kernel
theorem dX2_mount_7 : decode cX2_mount 7 = .ok (.iconst 0, 1) := by decide +kernel
theorem dX2_mount_8 : decode cX2_mount 8 = .ok (.ireturn, 1) := by decide +kernel
theorem dX2_mount_9 : decode cX2_mount 9 = .ok (.aload_n 0, 1) := by decide +kernel
theorem dX2_mount_10 : decode cX2_mount 10 = .ok (.iconst 1, 1) := by decide +kernel
theorem dX2_mount_11 : decode cX2_mount 11 = .ok (.putfield 46, 3) := by decide +kernel
theorem dX2_mount_14 : decode cX2_mount 14 = .ok (.iconst 1, 1) := by decide +kernel
theorem dX2_mount_15 : decode cX2_mount 15 = .ok (.ireturn, 1) := by decide +kernel
theorem dX2_kind_0 : decode cX2_kind 0 = .ok (.aload_n 0, 1) := by decide +kernel
theorem dX2_kind_1 : decode cX2_kind 1 = .ok (.iload_n 1, 1) := by decide +kernel
theorem dX2_kind_2 : decode cX2_kind 2 = .ok (.invokevirtual 73, 3) := by decide +kernel
theorem dX2_kind_5 : decode cX2_kind 5 = .ok (.istore_n 2, 1) := by decide +kernel
theorem dX2_kind_6 : decode cX2_kind 6 = .ok (.iload_n 2, 1) := by decide +kernel
theorem dX2_kind_7 : decode cX2_kind 7 = .ok (.ifCond .ge 5, 3) := by decide +kernel
theorem dX2_kind_10 : decode cX2_kind 10 = .ok (.iload_n 2, 1) := by decide +kernel
theorem dX2_kind_11 : decode cX2_kind 11 = .ok (.ireturn, 1) := by decide +kernel
theorem dX2_kind_12 : decode cX2_kind 12 = .ok (.aload_n 0, 1) := by decide +kernel
theorem dX2_kind_13 : decode cX2_kind 13 = .ok (.iload_n 2, 1) := by decide +kernel
theorem dX2_kind_14 : decode cX2_kind 14 = .ok (.invokevirtual 76, 3) := by decide +kernel
theorem dX2_kind_17 : decode cX2_kind 17 = .ok (.istore_n 3, 1) := by decide +kernel
theorem dX2_kind_18 : decode cX2_kind 18 = .ok (.iload_n 3, 1) := by decide +kernel
theorem dX2_kind_19 : decode cX2_kind 19 = .ok (.ifCond .ne 5, 3) := by decide +kernel
theorem dX2_kind_22 : decode cX2_kind 22 = .ok (.iconst 0, 1) := by decide +kernel
theorem dX2_kind_23 : decode cX2_kind 23 = .ok (.ireturn, 1) := by decide +kernel
theorem dX2_kind_24 : decode cX2_kind 24 = .ok (.iload_n 3, 1) := by decide +kernel
theorem dX2_kind_25 : decode cX2_kind 25 = .ok (.invokestatic 79, 3) := by decide +kernel
theorem dX2_kind_28 : decode cX2_kind 28 = .ok (.ifCond .eq 7, 3) := by decide +kernel
theorem dX2_kind_31 : decode cX2_kind 31 = .ok (.iconst 1, 1) := by decide +kernel
theorem dX2_kind_32 : decode cX2_kind 32 = .ok (.goto 4, 3) := by decide +kernel
theorem dX2_kind_35 : decode cX2_kind 35 = .ok (.iconst 2, 1) := by decide +kernel
theorem dX2_kind_36 : decode cX2_kind 36 = .ok (.ireturn, 1) := by decide +kernel
theorem dX2_read_0 : decode cX2_read 0 = .ok (.aload_n 0, 1) := by decide +kernel
theorem dX2_read_1 : decode cX2_read 1 = .ok (.iload_n 1, 1) := by decide +kernel
theorem dX2_read_2 : decode cX2_read 2 = .ok (.invokevirtual 73, 3) := by decide +kernel
theorem dX2_read_5 : decode cX2_read 5 = .ok (.istore_n 2, 1) := by decide +kernel
theorem dX2_read_6 : decode cX2_read 6 = .ok (.iload_n 2, 1) := by decide +kernel
theorem dX2_read_7 : decode cX2_read 7 = .ok (.ifCond .ge 5, 3) := by decide +kernel
theorem dX2_read_10 : decode cX2_read 10 = .ok (.iload_n 2, 1) := by decide +kernel
theorem dX2_read_11 : decode cX2_read 11 = .ok (.ireturn, 1) := by decide +kernel
theorem dX2_read_12 : decode cX2_read 12 = .ok (.aload_n 0, 1) := by decide +kernel
theorem dX2_read_13 : decode cX2_read 13 = .ok (.iload_n 2, 1) := by decide +kernel
theorem dX2_read_14 : decode cX2_read 14 = .ok (.invokevirtual 76, 3) := by decide +kernel
theorem dX2_read_17 : decode cX2_read 17 = .ok (.istore_n 3, 1) := by decide +kernel
theorem dX2_read_18 : decode cX2_read 18 = .ok (.iload_n 3, 1) := by decide +kernel
theorem dX2_read_19 : decode cX2_read 19 = .ok (.ifCond .ne 6, 3) := by decide +kernel
theorem dX2_read_22 : decode cX2_read 22 = .ok (.bipush (-3), 2) := by decide +kernel
theorem dX2_read_24 : decode cX2_read 24 = .ok (.ireturn, 1) := by decide +kernel
theorem dX2_read_25 : decode cX2_read 25 = .ok (.iload_n 3, 1) := by decide +kernel
theorem dX2_read_26 : decode cX2_read 26 = .ok (.invokestatic 79, 3) := by decide +kernel
theorem dX2_read_29 : decode cX2_read 29 = .ok (.ifCond .eq 19, 3) := by decide +kernel
theorem dX2_read_32 : decode cX2_read 32 = .ok (.aload_n 0, 1) := by decide +kernel
theorem dX2_read_33 : decode cX2_read 33 = .ok (.getfield 24, 3) := by decide +kernel
theorem dX2_read_36 : decode cX2_read 36 = .ok (.iload_n 3, 1) := by decide +kernel
theorem dX2_read_37 : decode cX2_read 37 = .ok (.invokestatic 82, 3) := by decide +kernel
theorem dX2_read_40 : decode cX2_read 40 = .ok (.aaload, 1) := by decide +kernel
theorem dX2_read_41 : decode cX2_read 41 = .ok (.iload_n 2, 1) := by decide +kernel
theorem dX2_read_42 : decode cX2_read 42 = .ok (.invokevirtual 85, 3) := by decide +kernel
theorem dX2_read_45 : decode cX2_read 45 = .ok (.goto 5, 3) := by decide +kernel
theorem dX2_read_48 : decode cX2_read 48 = .ok (.bipush (-6), 2) := by decide +kernel
theorem dX2_read_50 : decode cX2_read 50 = .ok (.ireturn, 1) := by decide +kernel
theorem dX2_size_0 : decode cX2_size 0 = .ok (.aload_n 0, 1) := by decide +kernel
theorem dX2_size_1 : decode cX2_size 1 = .ok (.iload_n 1, 1) := by decide +kernel
theorem dX2_size_2 : decode cX2_size 2 = .ok (.invokevirtual 88, 3) := by decide +kernel
theorem dX2_size_5 : decode cX2_size 5 = .ok (.istore_n 2, 1) := by decide +kernel
theorem dX2_size_6 : decode cX2_size 6 = .ok (.iload_n 2, 1) := by decide +kernel
theorem dX2_size_7 : decode cX2_size 7 = .ok (.ifCond .ge 7, 3) := by decide +kernel
theorem dX2_size_10 : decode cX2_size 10 = .ok (.iload_n 2, 1) := by decide +kernel
theorem dX2_size_11 : decode cX2_size 11 = .ok (.goto 13, 3) := by decide +kernel
theorem dX2_size_14 : decode cX2_size 14 = .ok (.aload_n 0, 1) := by decide +kernel
theorem dX2_size_15 : decode cX2_size 15 = .ok (.iload_n 2, 1) := by decide +kernel
theorem dX2_size_16 : decode cX2_size 16 = .ok (.aload_n 0, 1) := by decide +kernel
theorem dX2_size_17 : decode cX2_size 17 = .ok (.iload_n 2, 1) := by decide +kernel
theorem dX2_size_18 : decode cX2_size 18 = .ok (.invokevirtual 76, 3) := by decide +kernel
theorem dX2_size_21 : decode cX2_size 21 = .ok (.invokevirtual 91, 3) := by decide +kernel
theorem dX2_size_24 : decode cX2_size 24 = .ok (.ireturn, 1) := by decide +kernel
theorem dX2_name_0 : decode cX2_name 0 = .ok (.aload_n 0, 1) := by decide +kernel
theorem dX2_name_1 : decode cX2_name 1 = .ok (.iload_n 1, 1) := by decide +kernel
theorem dX2_name_2 : decode cX2_name 2 = .ok (.invokevirtual 88, 3) := by decide +kernel
theorem dX2_name_5 : decode cX2_name 5 = .ok (.istore_n 3, 1) := by decide +kernel
theorem dX2_name_6 : decode cX2_name 6 = .ok (.iload_n 3, 1) := by decide +kernel
theorem dX2_name_7 : decode cX2_name 7 = .ok (.ifCond .ge 5, 3) := by decide +kernel
theorem dX2_name_10 : decode cX2_name 10 = .ok (.iload_n 3, 1) := by decide +kernel
theorem dX2_name_11 : decode cX2_name 11 = .ok (.ireturn, 1) := by decide +kernel
theorem dX2_name_12 : decode cX2_name 12 = .ok (.aload_n 0, 1) := by decide +kernel
theorem dX2_name_13 : decode cX2_name 13 = .ok (.iload_n 3, 1) := by decide +kernel
theorem dX2_name_14 : decode cX2_name 14 = .ok (.invokevirtual 76, 3) := by decide +kernel
theorem dX2_name_17 : decode cX2_name 17 = .ok (.istore 4, 2) := by decide +kernel
theorem dX2_name_19 : decode cX2_name 19 = .ok (.iconst 0, 1) := by decide +kernel
theorem dX2_name_20 : decode cX2_name 20 = .ok (.istore 5, 2) := by decide +kernel
theorem dX2_name_22 : decode cX2_name 22 = .ok (.iconst 1, 1) := by decide +kernel
theorem dX2_name_23 : decode cX2_name 23 = .ok (.istore 6, 2) := by decide +kernel
theorem dX2_name_25 : decode cX2_name 25 = .ok (.iload 6, 2) := by decide +kernel
theorem dX2_name_27 : decode cX2_name 27 = .ok (.iconst 5, 1) := by decide +kernel
theorem dX2_name_28 : decode cX2_name 28 = .ok (.if_icmp .gt 36, 3) := by decide +kernel
theorem dX2_name_31 : decode cX2_name 31 = .ok (.aload_n 0, 1) := by decide +kernel
theorem dX2_name_32 : decode cX2_name 32 = .ok (.iload 4, 2) := by decide +kernel
theorem dX2_name_34 : decode cX2_name 34 = .ok (.iload_n 3, 1) := by decide +kernel
theorem dX2_name_35 : decode cX2_name 35 = .ok (.iload 6, 2) := by decide +kernel
theorem dX2_name_37 : decode cX2_name 37 = .ok (.invokestatic 94, 3) := by decide +kernel
theorem dX2_name_40 : decode cX2_name 40 = .ok (.invokevirtual 97, 3) := by decide +kernel
theorem dX2_name_43 : decode cX2_name 43 = .ok (.ifCond .eq 15, 3) := by decide +kernel
theorem dX2_name_46 : decode cX2_name 46 = .ok (.iload 5, 2) := by decide +kernel
theorem dX2_name_48 : decode cX2_name 48 = .ok (.iload_n 2, 1) := by decide +kernel
theorem dX2_name_49 : decode cX2_name 49 = .ok (.if_icmp .ne 6, 3) := by decide +kernel
theorem dX2_name_52 : decode cX2_name 52 = .ok (.iload 6, 2) := by decide +kernel
theorem dX2_name_54 : decode cX2_name 54 = .ok (.ireturn, 1) := by decide +kernel
theorem dX2_name_55 : decode cX2_name 55 = .ok (.iinc 5 1, 3) := by decide +kernel
theorem dX2_name_58 : decode cX2_name 58 = .ok (.iinc 6 1, 3) := by decide +kernel
theorem dX2_name_61 : decode cX2_name 61 = .ok (.goto (-36), 3) := by decide +kernel
theorem dX2_name_64 : decode cX2_name 64 = .ok (.bipush (-3), 2) := by decide +kernel
theorem dX2_name_66 : decode cX2_name 66 = .ok (.ireturn, 1) := by decide +kernel
theorem dX2_objects_0 : decode cX2_objects 0 = .ok (.aload_n 0, 1) := by decide +kernel
theorem dX2_objects_1 : decode cX2_objects 1 = .ok (.getfield 46, 3) := by decide +kernel
theorem dX2_objects_4 : decode cX2_objects 4 = .ok (.ifCond .eq 16, 3) := by decide +kernel
theorem dX2_objects_7 : decode cX2_objects 7 = .ok (.aload_n 0, 1) := by decide +kernel
theorem dX2_objects_8 : decode cX2_objects 8 = .ok (.iconst 0, 1) := by decide +kernel
theorem dX2_objects_9 : decode cX2_objects 9 = .ok (.aload_n 0, 1) := by decide +kernel
theorem dX2_objects_10 : decode cX2_objects 10 = .ok (.iconst 0, 1) := by decide +kernel
theorem dX2_objects_11 : decode cX2_objects 11 = .ok (.invokevirtual 76, 3) := by decide +kernel
theorem dX2_objects_14 : decode cX2_objects 14 = .ok (.invokevirtual 100, 3) := by decide +kernel
theorem dX2_objects_17 : decode cX2_objects 17 = .ok (.goto 4, 3) := by decide +kernel
theorem dX2_objects_20 : decode cX2_objects 20 = .ok (.iconst (-1), 1) := by decide +kernel
theorem dX2_objects_21 : decode cX2_objects 21 = .ok (.ireturn, 1) := by decide +kernel
theorem dX2_origin_0 : decode cX2_origin 0 = .ok (.aload_n 0, 1) := by decide +kernel
theorem dX2_origin_1 : decode cX2_origin 1 = .ok (.iload_n 1, 1) := by decide +kernel
theorem dX2_origin_2 : decode cX2_origin 2 = .ok (.invokevirtual 103, 3) := by decide +kernel
theorem dX2_origin_5 : decode cX2_origin 5 = .ok (.istore_n 2, 1) := by decide +kernel
theorem dX2_origin_6 : decode cX2_origin 6 = .ok (.iload_n 2, 1) := by decide +kernel
theorem dX2_origin_7 : decode cX2_origin 7 = .ok (.ifCond .ge 5, 3) := by decide +kernel
theorem dX2_origin_10 : decode cX2_origin 10 = .ok (.iload_n 2, 1) := by decide +kernel
theorem dX2_origin_11 : decode cX2_origin 11 = .ok (.ireturn, 1) := by decide +kernel
theorem dX2_origin_12 : decode cX2_origin 12 = .ok (.aload_n 0, 1) := by decide +kernel
theorem dX2_origin_13 : decode cX2_origin 13 = .ok (.iload_n 2, 1) := by decide +kernel
theorem dX2_origin_14 : decode cX2_origin 14 = .ok (.invokevirtual 76, 3) := by decide +kernel
theorem dX2_origin_17 : decode cX2_origin 17 = .ok (.istore_n 3, 1) := by decide +kernel
theorem dX2_origin_18 : decode cX2_origin 18 = .ok (.iload_n 3, 1) := by decide +kernel
theorem dX2_origin_19 : decode cX2_origin 19 = .ok (.ifCond .ne 8, 3) := by decide +kernel
theorem dX2_origin_22 : decode cX2_origin 22 = .ok (.bipush (-3), 2) := by decide +kernel
theorem dX2_origin_24 : decode cX2_origin 24 = .ok (.goto 8, 3) := by decide +kernel
theorem dX2_origin_27 : decode cX2_origin 27 = .ok (.aload_n 0, 1) := by decide +kernel
theorem dX2_origin_28 : decode cX2_origin 28 = .ok (.iload_n 3, 1) := by decide +kernel
theorem dX2_origin_29 : decode cX2_origin 29 = .ok (.invokevirtual 106, 3) := by decide +kernel
theorem dX2_origin_32 : decode cX2_origin 32 = .ok (.ireturn, 1) := by decide +kernel
theorem dX2_makeDir_0 : decode cX2_makeDir 0 = .ok (.aload_n 0, 1) := by decide +kernel
theorem dX2_makeDir_1 : decode cX2_makeDir 1 = .ok (.iload_n 1, 1) := by decide +kernel
theorem dX2_makeDir_2 : decode cX2_makeDir 2 = .ok (.invokevirtual 103, 3) := by decide +kernel
theorem dX2_makeDir_5 : decode cX2_makeDir 5 = .ok (.istore_n 2, 1) := by decide +kernel
theorem dX2_makeDir_6 : decode cX2_makeDir 6 = .ok (.iload_n 2, 1) := by decide +kernel
theorem dX2_makeDir_7 : decode cX2_makeDir 7 = .ok (.ifCond .ge 5, 3) := by decide +kernel
theorem dX2_makeDir_10 : decode cX2_makeDir 10 = .ok (.iload_n 2, 1) := by decide +kernel
theorem dX2_makeDir_11 : decode cX2_makeDir 11 = .ok (.ireturn, 1) := by decide +kernel
theorem dX2_makeDir_12 : decode cX2_makeDir 12 = .ok (.aload_n 0, 1) := by decide +kernel
theorem dX2_makeDir_13 : decode cX2_makeDir 13 = .ok (.iload_n 2, 1) := by decide +kernel
theorem dX2_makeDir_14 : decode cX2_makeDir 14 = .ok (.invokestatic 57, 3) := by decide +kernel
theorem dX2_makeDir_17 : decode cX2_makeDir 17 = .ok (.invokevirtual 76, 3) := by decide +kernel
theorem dX2_makeDir_20 : decode cX2_makeDir 20 = .ok (.invokestatic 109, 3) := by decide +kernel
theorem dX2_makeDir_23 : decode cX2_makeDir 23 = .ok (.ifCond .ne 6, 3) := by decide +kernel
theorem dX2_makeDir_26 : decode cX2_makeDir 26 = .ok (.bipush (-4), 2) := by decide +kernel
theorem dX2_makeDir_28 : decode cX2_makeDir 28 = .ok (.ireturn, 1) := by decide +kernel
theorem dX2_makeDir_29 : decode cX2_makeDir 29 = .ok (.aload_n 0, 1) := by decide +kernel
theorem dX2_makeDir_30 : decode cX2_makeDir 30 = .ok (.iload_n 2, 1) := by decide +kernel
theorem dX2_makeDir_31 : decode cX2_makeDir 31 = .ok (.invokevirtual 76, 3) := by decide +kernel
theorem dX2_makeDir_34 : decode cX2_makeDir 34 = .ok (.ifCond .eq 6, 3) := by decide +kernel
theorem dX2_makeDir_37 : decode cX2_makeDir 37 = .ok (.bipush (-5), 2) := by decide +kernel
theorem dX2_makeDir_39 : decode cX2_makeDir 39 = .ok (.ireturn, 1) := by decide +kernel
theorem dX2_makeDir_40 : decode cX2_makeDir 40 = .ok (.aload_n 0, 1) := by decide +kernel
theorem dX2_makeDir_41 : decode cX2_makeDir 41 = .ok (.invokevirtual 112, 3) := by decide +kernel
theorem dX2_makeDir_44 : decode cX2_makeDir 44 = .ok (.aload_n 0, 1) := by decide +kernel
theorem dX2_makeDir_45 : decode cX2_makeDir 45 = .ok (.iload_n 2, 1) := by decide +kernel
theorem dX2_makeDir_46 : decode cX2_makeDir 46 = .ok (.iconst 2, 1) := by decide +kernel
theorem dX2_makeDir_47 : decode cX2_makeDir 47 = .ok (.invokevirtual 115, 3) := by decide +kernel
theorem dX2_makeDir_50 : decode cX2_makeDir 50 = .ok (.aload_n 0, 1) := by decide +kernel
theorem dX2_makeDir_51 : decode cX2_makeDir 51 = .ok (.invokevirtual 118, 3) := by decide +kernel
theorem dX2_makeDir_54 : decode cX2_makeDir 54 = .ok (.ireturn, 1) := by decide +kernel
theorem dX2_write_0 : decode cX2_write 0 = .ok (.aload_n 0, 1) := by decide +kernel
theorem dX2_write_1 : decode cX2_write 1 = .ok (.iload_n 1, 1) := by decide +kernel
theorem dX2_write_2 : decode cX2_write 2 = .ok (.invokevirtual 103, 3) := by decide +kernel
theorem dX2_write_5 : decode cX2_write 5 = .ok (.istore_n 3, 1) := by decide +kernel
theorem dX2_write_6 : decode cX2_write 6 = .ok (.iload_n 3, 1) := by decide +kernel
theorem dX2_write_7 : decode cX2_write 7 = .ok (.ifCond .ge 5, 3) := by decide +kernel
theorem dX2_write_10 : decode cX2_write 10 = .ok (.iload_n 3, 1) := by decide +kernel
theorem dX2_write_11 : decode cX2_write 11 = .ok (.ireturn, 1) := by decide +kernel
theorem dX2_write_12 : decode cX2_write 12 = .ok (.iload_n 2, 1) := by decide +kernel
theorem dX2_write_13 : decode cX2_write 13 = .ok (.ifCond .ge 6, 3) := by decide +kernel
theorem dX2_write_16 : decode cX2_write 16 = .ok (.bipush (-2), 2) := by decide +kernel
theorem dX2_write_18 : decode cX2_write 18 = .ok (.ireturn, 1) := by decide +kernel
theorem dX2_write_19 : decode cX2_write 19 = .ok (.aload_n 0, 1) := by decide +kernel
theorem dX2_write_20 : decode cX2_write 20 = .ok (.iload_n 3, 1) := by decide +kernel
theorem dX2_write_21 : decode cX2_write 21 = .ok (.invokestatic 57, 3) := by decide +kernel
theorem dX2_write_24 : decode cX2_write 24 = .ok (.invokevirtual 76, 3) := by decide +kernel
theorem dX2_write_27 : decode cX2_write 27 = .ok (.invokestatic 109, 3) := by decide +kernel
theorem dX2_write_30 : decode cX2_write 30 = .ok (.ifCond .ne 6, 3) := by decide +kernel
theorem dX2_write_33 : decode cX2_write 33 = .ok (.bipush (-4), 2) := by decide +kernel
theorem dX2_write_35 : decode cX2_write 35 = .ok (.ireturn, 1) := by decide +kernel
theorem dX2_write_36 : decode cX2_write 36 = .ok (.aload_n 0, 1) := by decide +kernel
theorem dX2_write_37 : decode cX2_write 37 = .ok (.iload_n 3, 1) := by decide +kernel
theorem dX2_write_38 : decode cX2_write 38 = .ok (.invokevirtual 76, 3) := by decide +kernel
theorem dX2_write_41 : decode cX2_write 41 = .ok (.istore 4, 2) := by decide +kernel
theorem dX2_write_43 : decode cX2_write 43 = .ok (.iload 4, 2) := by decide +kernel
theorem dX2_write_45 : decode cX2_write 45 = .ok (.invokestatic 109, 3) := by decide +kernel
theorem dX2_write_48 : decode cX2_write 48 = .ok (.ifCond .eq 6, 3) := by decide +kernel
theorem dX2_write_51 : decode cX2_write 51 = .ok (.bipush (-6), 2) := by decide +kernel
theorem dX2_write_53 : decode cX2_write 53 = .ok (.ireturn, 1) := by decide +kernel
theorem dX2_write_54 : decode cX2_write 54 = .ok (.aload_n 0, 1) := by decide +kernel
theorem dX2_write_55 : decode cX2_write 55 = .ok (.invokevirtual 112, 3) := by decide +kernel
theorem dX2_write_58 : decode cX2_write 58 = .ok (.iload 4, 2) := by decide +kernel
theorem dX2_write_60 : decode cX2_write 60 = .ok (.invokestatic 79, 3) := by decide +kernel
theorem dX2_write_63 : decode cX2_write 63 = .ok (.ifCond .eq 25, 3) := by decide +kernel
theorem dX2_write_66 : decode cX2_write 66 = .ok (.iload 4, 2) := by decide +kernel
theorem dX2_write_68 : decode cX2_write 68 = .ok (.invokestatic 82, 3) := by decide +kernel
theorem dX2_write_71 : decode cX2_write 71 = .ok (.aload_n 0, 1) := by decide +kernel
theorem dX2_write_72 : decode cX2_write 72 = .ok (.getfield 18, 3) := by decide +kernel
theorem dX2_write_75 : decode cX2_write 75 = .ok (.if_icmp .eq 13, 3) := by decide +kernel
theorem dX2_write_78 : decode cX2_write 78 = .ok (.aload_n 0, 1) := by decide +kernel
theorem dX2_write_79 : decode cX2_write 79 = .ok (.dup, 1) := by decide +kernel
theorem dX2_write_80 : decode cX2_write 80 = .ok (.getfield 122, 3) := by decide +kernel
theorem dX2_write_83 : decode cX2_write 83 = .ok (.iconst 1, 1) := by decide +kernel
theorem dX2_write_84 : decode cX2_write 84 = .ok (.iadd, 1) := by decide +kernel
theorem dX2_write_85 : decode cX2_write 85 = .ok (.putfield 122, 3) := by decide +kernel
theorem dX2_write_88 : decode cX2_write 88 = .ok (.aload_n 0, 1) := by decide +kernel
theorem dX2_write_89 : decode cX2_write 89 = .ok (.iload_n 3, 1) := by decide +kernel
theorem dX2_write_90 : decode cX2_write 90 = .ok (.iload_n 2, 1) := by decide +kernel
theorem dX2_write_91 : decode cX2_write 91 = .ok (.invokestatic 66, 3) := by decide +kernel
theorem dX2_write_94 : decode cX2_write 94 = .ok (.invokevirtual 115, 3) := by decide +kernel
theorem dX2_write_97 : decode cX2_write 97 = .ok (.aload_n 0, 1) := by decide +kernel
theorem dX2_write_98 : decode cX2_write 98 = .ok (.invokevirtual 118, 3) := by decide +kernel
theorem dX2_write_101 : decode cX2_write 101 = .ok (.ireturn, 1) := by decide +kernel
theorem dX2_remove_0 : decode cX2_remove 0 = .ok (.aload_n 0, 1) := by decide +kernel
theorem dX2_remove_1 : decode cX2_remove 1 = .ok (.iload_n 1, 1) := by decide +kernel
theorem dX2_remove_2 : decode cX2_remove 2 = .ok (.invokevirtual 103, 3) := by decide +kernel
theorem dX2_remove_5 : decode cX2_remove 5 = .ok (.istore_n 2, 1) := by decide +kernel
theorem dX2_remove_6 : decode cX2_remove 6 = .ok (.iload_n 2, 1) := by decide +kernel
theorem dX2_remove_7 : decode cX2_remove 7 = .ok (.ifCond .ge 5, 3) := by decide +kernel
theorem dX2_remove_10 : decode cX2_remove 10 = .ok (.iload_n 2, 1) := by decide +kernel
theorem dX2_remove_11 : decode cX2_remove 11 = .ok (.ireturn, 1) := by decide +kernel
theorem dX2_remove_12 : decode cX2_remove 12 = .ok (.aload_n 0, 1) := by decide +kernel
theorem dX2_remove_13 : decode cX2_remove 13 = .ok (.iload_n 2, 1) := by decide +kernel
theorem dX2_remove_14 : decode cX2_remove 14 = .ok (.invokevirtual 76, 3) := by decide +kernel
theorem dX2_remove_17 : decode cX2_remove 17 = .ok (.istore_n 3, 1) := by decide +kernel
theorem dX2_remove_18 : decode cX2_remove 18 = .ok (.iload_n 3, 1) := by decide +kernel
theorem dX2_remove_19 : decode cX2_remove 19 = .ok (.ifCond .ne 6, 3) := by decide +kernel
theorem dX2_remove_22 : decode cX2_remove 22 = .ok (.bipush (-3), 2) := by decide +kernel
theorem dX2_remove_24 : decode cX2_remove 24 = .ok (.ireturn, 1) := by decide +kernel
theorem dX2_remove_25 : decode cX2_remove 25 = .ok (.aload_n 0, 1) := by decide +kernel
theorem dX2_remove_26 : decode cX2_remove 26 = .ok (.iload_n 2, 1) := by decide +kernel
theorem dX2_remove_27 : decode cX2_remove 27 = .ok (.iload_n 3, 1) := by decide +kernel
theorem dX2_remove_28 : decode cX2_remove 28 = .ok (.invokevirtual 125, 3) := by decide +kernel
theorem dX2_remove_31 : decode cX2_remove 31 = .ok (.ifCond .eq 6, 3) := by decide +kernel
theorem dX2_remove_34 : decode cX2_remove 34 = .ok (.bipush (-8), 2) := by decide +kernel
theorem dX2_remove_36 : decode cX2_remove 36 = .ok (.ireturn, 1) := by decide +kernel
theorem dX2_remove_37 : decode cX2_remove 37 = .ok (.aload_n 0, 1) := by decide +kernel
theorem dX2_remove_38 : decode cX2_remove 38 = .ok (.invokevirtual 112, 3) := by decide +kernel
theorem dX2_remove_41 : decode cX2_remove 41 = .ok (.aload_n 0, 1) := by decide +kernel
theorem dX2_remove_42 : decode cX2_remove 42 = .ok (.iload_n 2, 1) := by decide +kernel
theorem dX2_remove_43 : decode cX2_remove 43 = .ok (.invokevirtual 129, 3) := by decide +kernel
theorem dX2_remove_46 : decode cX2_remove 46 = .ok (.aload_n 0, 1) := by decide +kernel
theorem dX2_remove_47 : decode cX2_remove 47 = .ok (.invokevirtual 118, 3) := by decide +kernel
theorem dX2_remove_50 : decode cX2_remove 50 = .ok (.ireturn, 1) := by decide +kernel
theorem dX2_rename_0 : decode cX2_rename 0 = .ok (.aload_n 0, 1) := by decide +kernel
theorem dX2_rename_1 : decode cX2_rename 1 = .ok (.iload_n 1, 1) := by decide +kernel
theorem dX2_rename_2 : decode cX2_rename 2 = .ok (.invokevirtual 103, 3) := by decide +kernel
theorem dX2_rename_5 : decode cX2_rename 5 = .ok (.istore_n 3, 1) := by decide +kernel
theorem dX2_rename_6 : decode cX2_rename 6 = .ok (.aload_n 0, 1) := by decide +kernel
theorem dX2_rename_7 : decode cX2_rename 7 = .ok (.iload_n 2, 1) := by decide +kernel
theorem dX2_rename_8 : decode cX2_rename 8 = .ok (.invokevirtual 103, 3) := by decide +kernel
theorem dX2_rename_11 : decode cX2_rename 11 = .ok (.istore 4, 2) := by decide +kernel
theorem dX2_rename_13 : decode cX2_rename 13 = .ok (.iload_n 3, 1) := by decide +kernel
theorem dX2_rename_14 : decode cX2_rename 14 = .ok (.ifCond .ge 5, 3) := by decide +kernel
theorem dX2_rename_17 : decode cX2_rename 17 = .ok (.iload_n 3, 1) := by decide +kernel
theorem dX2_rename_18 : decode cX2_rename 18 = .ok (.ireturn, 1) := by decide +kernel
theorem dX2_rename_19 : decode cX2_rename 19 = .ok (.iload 4, 2) := by decide +kernel
theorem dX2_rename_21 : decode cX2_rename 21 = .ok (.ifCond .ge 6, 3) := by decide +kernel
theorem dX2_rename_24 : decode cX2_rename 24 = .ok (.iload 4, 2) := by decide +kernel
theorem dX2_rename_26 : decode cX2_rename 26 = .ok (.ireturn, 1) := by decide +kernel
theorem dX2_rename_27 : decode cX2_rename 27 = .ok (.aload_n 0, 1) := by decide +kernel
theorem dX2_rename_28 : decode cX2_rename 28 = .ok (.iload_n 3, 1) := by decide +kernel
theorem dX2_rename_29 : decode cX2_rename 29 = .ok (.invokevirtual 76, 3) := by decide +kernel
theorem dX2_rename_32 : decode cX2_rename 32 = .ok (.ifCond .ne 6, 3) := by decide +kernel
theorem dX2_rename_35 : decode cX2_rename 35 = .ok (.bipush (-3), 2) := by decide +kernel
theorem dX2_rename_37 : decode cX2_rename 37 = .ok (.ireturn, 1) := by decide +kernel
theorem dX2_rename_38 : decode cX2_rename 38 = .ok (.iload_n 3, 1) := by decide +kernel
theorem dX2_rename_39 : decode cX2_rename 39 = .ok (.iload 4, 2) := by decide +kernel
theorem dX2_rename_41 : decode cX2_rename 41 = .ok (.if_icmp .ne 5, 3) := by decide +kernel
theorem dX2_rename_44 : decode cX2_rename 44 = .ok (.iconst 0, 1) := by decide +kernel
theorem dX2_rename_45 : decode cX2_rename 45 = .ok (.ireturn, 1) := by decide +kernel
theorem dX2_rename_46 : decode cX2_rename 46 = .ok (.aload_n 0, 1) := by decide +kernel
theorem dX2_rename_47 : decode cX2_rename 47 = .ok (.iload_n 3, 1) := by decide +kernel
theorem dX2_rename_48 : decode cX2_rename 48 = .ok (.iload 4, 2) := by decide +kernel
theorem dX2_rename_50 : decode cX2_rename 50 = .ok (.invokevirtual 133, 3) := by decide +kernel
theorem dX2_rename_53 : decode cX2_rename 53 = .ok (.istore 5, 2) := by decide +kernel
theorem dX2_rename_55 : decode cX2_rename 55 = .ok (.iload 5, 2) := by decide +kernel
theorem dX2_rename_57 : decode cX2_rename 57 = .ok (.ifCond .eq 6, 3) := by decide +kernel
theorem dX2_rename_60 : decode cX2_rename 60 = .ok (.iload 5, 2) := by decide +kernel
theorem dX2_rename_62 : decode cX2_rename 62 = .ok (.ireturn, 1) := by decide +kernel
theorem dX2_rename_63 : decode cX2_rename 63 = .ok (.aload_n 0, 1) := by decide +kernel
theorem dX2_rename_64 : decode cX2_rename 64 = .ok (.iload_n 3, 1) := by decide +kernel
theorem dX2_rename_65 : decode cX2_rename 65 = .ok (.invokevirtual 136, 3) := by decide +kernel
theorem dX2_rename_68 : decode cX2_rename 68 = .ok (.iload 4, 2) := by decide +kernel
theorem dX2_rename_70 : decode cX2_rename 70 = .ok (.invokestatic 139, 3) := by decide +kernel
theorem dX2_rename_73 : decode cX2_rename 73 = .ok (.aload_n 0, 1) := by decide +kernel
theorem dX2_rename_74 : decode cX2_rename 74 = .ok (.invokevirtual 142, 3) := by decide +kernel
theorem dX2_rename_77 : decode cX2_rename 77 = .ok (.iadd, 1) := by decide +kernel
theorem dX2_rename_78 : decode cX2_rename 78 = .ok (.iconst 4, 1) := by decide +kernel
theorem dX2_rename_79 : decode cX2_rename 79 = .ok (.if_icmp .le 6, 3) := by decide +kernel
theorem dX2_rename_82 : decode cX2_rename 82 = .ok (.bipush (-10), 2) := by decide +kernel
theorem dX2_rename_84 : decode cX2_rename 84 = .ok (.ireturn, 1) := by decide +kernel
theorem dX2_rename_85 : decode cX2_rename 85 = .ok (.aload_n 0, 1) := by decide +kernel
theorem dX2_rename_86 : decode cX2_rename 86 = .ok (.invokevirtual 112, 3) := by decide +kernel
theorem dX2_rename_89 : decode cX2_rename 89 = .ok (.aload_n 0, 1) := by decide +kernel
theorem dX2_rename_90 : decode cX2_rename 90 = .ok (.iload 4, 2) := by decide +kernel
theorem dX2_rename_92 : decode cX2_rename 92 = .ok (.invokevirtual 145, 3) := by decide +kernel
theorem dX2_rename_95 : decode cX2_rename 95 = .ok (.aload_n 0, 1) := by decide +kernel
theorem dX2_rename_96 : decode cX2_rename 96 = .ok (.iload_n 3, 1) := by decide +kernel
theorem dX2_rename_97 : decode cX2_rename 97 = .ok (.invokevirtual 129, 3) := by decide +kernel
theorem dX2_rename_100 : decode cX2_rename 100 = .ok (.aload_n 0, 1) := by decide +kernel
theorem dX2_rename_101 : decode cX2_rename 101 = .ok (.invokevirtual 118, 3) := by decide +kernel
theorem dX2_rename_104 : decode cX2_rename 104 = .ok (.ireturn, 1) := by decide +kernel
theorem dX2_entry_0 : decode cX2_entry 0 = .ok (.iload_n 2, 1) := by decide +kernel
theorem dX2_entry_1 : decode cX2_entry 1 = .ok (.invokestatic 42, 3) := by decide +kernel
theorem dX2_entry_4 : decode cX2_entry 4 = .ok (.istore_n 3, 1) := by decide +kernel
theorem dX2_entry_5 : decode cX2_entry 5 = .ok (.aload_n 0, 1) := by decide +kernel
theorem dX2_entry_6 : decode cX2_entry 6 = .ok (.iload_n 1, 1) := by decide +kernel
theorem dX2_entry_7 : decode cX2_entry 7 = .ok (.invokevirtual 50, 3) := by decide +kernel
theorem dX2_entry_10 : decode cX2_entry 10 = .ok (.ifCond .eq 7, 3) := by decide +kernel
theorem dX2_entry_13 : decode cX2_entry 13 = .ok (.iload_n 3, 1) := by decide +kernel
theorem dX2_entry_14 : decode cX2_entry 14 = .ok (.ifCond .gt 6, 3) := by decide +kernel
theorem dX2_entry_17 : decode cX2_entry 17 = .ok (.bipush (-2), 2) := by decide +kernel
theorem dX2_entry_19 : decode cX2_entry 19 = .ok (.ireturn, 1) := by decide +kernel
theorem dX2_entry_20 : decode cX2_entry 20 = .ok (.aload_n 0, 1) := by decide +kernel
theorem dX2_entry_21 : decode cX2_entry 21 = .ok (.getfield 24, 3) := by decide +kernel
theorem dX2_entry_24 : decode cX2_entry 24 = .ok (.iload_n 1, 1) := by decide +kernel
theorem dX2_entry_25 : decode cX2_entry 25 = .ok (.aaload, 1) := by decide +kernel
theorem dX2_entry_26 : decode cX2_entry 26 = .ok (.iload_n 3, 1) := by decide +kernel
theorem dX2_entry_27 : decode cX2_entry 27 = .ok (.invokevirtual 54, 3) := by decide +kernel
theorem dX2_entry_30 : decode cX2_entry 30 = .ok (.ireturn, 1) := by decide +kernel
theorem dX2_entryValue_0 : decode cX2_entryValue 0 = .ok (.iload_n 2, 1) := by decide +kernel
theorem dX2_entryValue_1 : decode cX2_entryValue 1 = .ok (.invokestatic 42, 3) := by decide +kernel
theorem dX2_entryValue_4 : decode cX2_entryValue 4 = .ok (.istore_n 3, 1) := by decide +kernel
theorem dX2_entryValue_5 : decode cX2_entryValue 5 = .ok (.aload_n 0, 1) := by decide +kernel
theorem dX2_entryValue_6 : decode cX2_entryValue 6 = .ok (.iload_n 1, 1) := by decide +kernel
theorem dX2_entryValue_7 : decode cX2_entryValue 7 = .ok (.invokevirtual 50, 3) := by decide +kernel
theorem dX2_entryValue_10 : decode cX2_entryValue 10 = .ok (.ifCond .eq 7, 3) := by decide +kernel
theorem dX2_entryValue_13 : decode cX2_entryValue 13 = .ok (.iload_n 3, 1) := by decide +kernel
theorem dX2_entryValue_14 : decode cX2_entryValue 14 = .ok (.ifCond .gt 6, 3) := by decide +kernel
theorem dX2_entryValue_17 : decode cX2_entryValue 17 = .ok (.bipush (-2), 2) := by decide +kernel
theorem dX2_entryValue_19 : decode cX2_entryValue 19 = .ok (.ireturn, 1) := by decide +kernel
theorem dX2_entryValue_20 : decode cX2_entryValue 20 = .ok (.aload_n 0, 1) := by decide +kernel
theorem dX2_entryValue_21 : decode cX2_entryValue 21 = .ok (.getfield 24, 3) := by decide +kernel
theorem dX2_entryValue_24 : decode cX2_entryValue 24 = .ok (.iload_n 1, 1) := by decide +kernel
theorem dX2_entryValue_25 : decode cX2_entryValue 25 = .ok (.aaload, 1) := by decide +kernel
theorem dX2_entryValue_26 : decode cX2_entryValue 26 = .ok (.iload_n 3, 1) := by decide +kernel
theorem dX2_entryValue_27 : decode cX2_entryValue 27 = .ok (.invokevirtual 54, 3) := by decide +kernel
theorem dX2_entryValue_30 : decode cX2_entryValue 30 = .ok (.iconst 1, 1) := by decide +kernel
theorem dX2_entryValue_31 : decode cX2_entryValue 31 = .ok (.if_icmp .ne 16, 3) := by decide +kernel
theorem dX2_entryValue_34 : decode cX2_entryValue 34 = .ok (.aload_n 0, 1) := by decide +kernel
theorem dX2_entryValue_35 : decode cX2_entryValue 35 = .ok (.getfield 24, 3) := by decide +kernel
theorem dX2_entryValue_38 : decode cX2_entryValue 38 = .ok (.iload_n 1, 1) := by decide +kernel
theorem dX2_entryValue_39 : decode cX2_entryValue 39 = .ok (.aaload, 1) := by decide +kernel
theorem dX2_entryValue_40 : decode cX2_entryValue 40 = .ok (.iload_n 3, 1) := by decide +kernel
theorem dX2_entryValue_41 : decode cX2_entryValue 41 = .ok (.invokevirtual 85, 3) := by decide +kernel
theorem dX2_entryValue_44 : decode cX2_entryValue 44 = .ok (.goto 5, 3) := by decide +kernel
theorem dX2_entryValue_47 : decode cX2_entryValue 47 = .ok (.bipush (-3), 2) := by decide +kernel
theorem dX2_entryValue_49 : decode cX2_entryValue 49 = .ok (.ireturn, 1) := by decide +kernel
theorem dX2_entries_0 : decode cX2_entries 0 = .ok (.aload_n 0, 1) := by decide +kernel
theorem dX2_entries_1 : decode cX2_entries 1 = .ok (.iload_n 1, 1) := by decide +kernel
theorem dX2_entries_2 : decode cX2_entries 2 = .ok (.invokevirtual 50, 3) := by decide +kernel
theorem dX2_entries_5 : decode cX2_entries 5 = .ok (.ifCond .eq 15, 3) := by decide +kernel
theorem dX2_entries_8 : decode cX2_entries 8 = .ok (.aload_n 0, 1) := by decide +kernel
theorem dX2_entries_9 : decode cX2_entries 9 = .ok (.getfield 24, 3) := by decide +kernel
theorem dX2_entries_12 : decode cX2_entries 12 = .ok (.iload_n 1, 1) := by decide +kernel
theorem dX2_entries_13 : decode cX2_entries 13 = .ok (.aaload, 1) := by decide +kernel
theorem dX2_entries_14 : decode cX2_entries 14 = .ok (.invokevirtual 148, 3) := by decide +kernel
theorem dX2_entries_17 : decode cX2_entries 17 = .ok (.goto 5, 3) := by decide +kernel
theorem dX2_entries_20 : decode cX2_entries 20 = .ok (.bipush (-2), 2) := by decide +kernel
theorem dX2_entries_22 : decode cX2_entries 22 = .ok (.ireturn, 1) := by decide +kernel
theorem dX2_whiteouts_0 : decode cX2_whiteouts 0 = .ok (.aload_n 0, 1) := by decide +kernel
theorem dX2_whiteouts_1 : decode cX2_whiteouts 1 = .ok (.getfield 29, 3) := by decide +kernel
theorem dX2_whiteouts_4 : decode cX2_whiteouts 4 = .ok (.invokevirtual 151, 3) := by decide +kernel
theorem dX2_whiteouts_7 : decode cX2_whiteouts 7 = .ok (.ireturn, 1) := by decide +kernel
theorem dX2_copies_0 : decode cX2_copies 0 = .ok (.aload_n 0, 1) := by decide +kernel
theorem dX2_copies_1 : decode cX2_copies 1 = .ok (.getfield 122, 3) := by decide +kernel
theorem dX2_copies_4 : decode cX2_copies 4 = .ok (.ireturn, 1) := by decide +kernel
theorem dX2_placeOrRefusal_0 : decode cX2_placeOrRefusal 0 = .ok (.aload_n 0, 1) := by decide +kernel
theorem dX2_placeOrRefusal_1 : decode cX2_placeOrRefusal 1 = .ok (.getfield 46, 3) := by decide +kernel
theorem dX2_placeOrRefusal_4 : decode cX2_placeOrRefusal 4 = .ok (.ifCond .ne 5, 3) := by decide +kernel
theorem dX2_placeOrRefusal_7 : decode cX2_placeOrRefusal 7 = .ok (.iconst (-1), 1) := by decide +kernel
theorem dX2_placeOrRefusal_8 : decode cX2_placeOrRefusal 8 = .ok (.ireturn, 1) := by decide +kernel
theorem dX2_placeOrRefusal_9 : decode cX2_placeOrRefusal 9 = .ok (.iload_n 1, 1) := by decide +kernel
theorem dX2_placeOrRefusal_10 : decode cX2_placeOrRefusal 10 = .ok (.invokestatic 42, 3) := by decide +kernel
theorem dX2_placeOrRefusal_13 : decode cX2_placeOrRefusal 13 = .ok (.istore_n 2, 1) := by decide +kernel
theorem dX2_placeOrRefusal_14 : decode cX2_placeOrRefusal 14 = .ok (.iload_n 2, 1) := by decide +kernel
theorem dX2_placeOrRefusal_15 : decode cX2_placeOrRefusal 15 = .ok (.iconst (-1), 1) := by decide +kernel
theorem dX2_placeOrRefusal_16 : decode cX2_placeOrRefusal 16 = .ok (.if_icmp .ne 8, 3) := by decide +kernel
theorem dX2_placeOrRefusal_19 : decode cX2_placeOrRefusal 19 = .ok (.bipush (-2), 2) := by decide +kernel
theorem dX2_placeOrRefusal_21 : decode cX2_placeOrRefusal 21 = .ok (.goto 4, 3) := by decide +kernel
theorem dX2_placeOrRefusal_24 : decode cX2_placeOrRefusal 24 = .ok (.iload_n 2, 1) := by decide +kernel
theorem dX2_placeOrRefusal_25 : decode cX2_placeOrRefusal 25 = .ok (.ireturn, 1) := by decide +kernel
theorem dX2_objectPlaceOrRefusal_0 : decode cX2_objectPlaceOrRefusal 0 = .ok (.aload_n 0, 1) := by decide +kernel
theorem dX2_objectPlaceOrRefusal_1 : decode cX2_objectPlaceOrRefusal 1 = .ok (.iload_n 1, 1) := by decide +kernel
theorem dX2_objectPlaceOrRefusal_2 : decode cX2_objectPlaceOrRefusal 2 = .ok (.invokevirtual 73, 3) := by decide +kernel
theorem dX2_objectPlaceOrRefusal_5 : decode cX2_objectPlaceOrRefusal 5 = .ok (.istore_n 2, 1) := by decide +kernel
theorem dX2_objectPlaceOrRefusal_6 : decode cX2_objectPlaceOrRefusal 6 = .ok (.iload_n 2, 1) := by decide +kernel
theorem dX2_objectPlaceOrRefusal_7 : decode cX2_objectPlaceOrRefusal 7 = .ok (.ifCond .ne 8, 3) := by decide +kernel
theorem dX2_objectPlaceOrRefusal_10 : decode cX2_objectPlaceOrRefusal 10 = .ok (.bipush (-2), 2) := by decide +kernel
theorem dX2_objectPlaceOrRefusal_12 : decode cX2_objectPlaceOrRefusal 12 = .ok (.goto 4, 3) := by decide +kernel
theorem dX2_objectPlaceOrRefusal_15 : decode cX2_objectPlaceOrRefusal 15 = .ok (.iload_n 2, 1) := by decide +kernel
theorem dX2_objectPlaceOrRefusal_16 : decode cX2_objectPlaceOrRefusal 16 = .ok (.ireturn, 1) := by decide +kernel
theorem dX2_directoryPlaceOrRefusal_0 : decode cX2_directoryPlaceOrRefusal 0 = .ok (.aload_n 0, 1) := by decide +kernel
theorem dX2_directoryPlaceOrRefusal_1 : decode cX2_directoryPlaceOrRefusal 1 = .ok (.iload_n 1, 1) := by decide +kernel
theorem dX2_directoryPlaceOrRefusal_2 : decode cX2_directoryPlaceOrRefusal 2 = .ok (.invokevirtual 73, 3) := by decide +kernel
theorem dX2_directoryPlaceOrRefusal_5 : decode cX2_directoryPlaceOrRefusal 5 = .ok (.istore_n 2, 1) := by decide +kernel
theorem dX2_directoryPlaceOrRefusal_6 : decode cX2_directoryPlaceOrRefusal 6 = .ok (.iload_n 2, 1) := by decide +kernel
theorem dX2_directoryPlaceOrRefusal_7 : decode cX2_directoryPlaceOrRefusal 7 = .ok (.ifCond .ge 5, 3) := by decide +kernel
theorem dX2_directoryPlaceOrRefusal_10 : decode cX2_directoryPlaceOrRefusal 10 = .ok (.iload_n 2, 1) := by decide +kernel
theorem dX2_directoryPlaceOrRefusal_11 : decode cX2_directoryPlaceOrRefusal 11 = .ok (.ireturn, 1) := by decide +kernel
theorem dX2_directoryPlaceOrRefusal_12 : decode cX2_directoryPlaceOrRefusal 12 = .ok (.aload_n 0, 1) := by decide +kernel
theorem dX2_directoryPlaceOrRefusal_13 : decode cX2_directoryPlaceOrRefusal 13 = .ok (.iload_n 2, 1) := by decide +kernel
theorem dX2_directoryPlaceOrRefusal_14 : decode cX2_directoryPlaceOrRefusal 14 = .ok (.invokevirtual 76, 3) := by decide +kernel
theorem dX2_directoryPlaceOrRefusal_17 : decode cX2_directoryPlaceOrRefusal 17 = .ok (.istore_n 3, 1) := by decide +kernel
theorem dX2_directoryPlaceOrRefusal_18 : decode cX2_directoryPlaceOrRefusal 18 = .ok (.iload_n 3, 1) := by decide +kernel
theorem dX2_directoryPlaceOrRefusal_19 : decode cX2_directoryPlaceOrRefusal 19 = .ok (.ifCond .ne 6, 3) := by decide +kernel
theorem dX2_directoryPlaceOrRefusal_22 : decode cX2_directoryPlaceOrRefusal 22 = .ok (.bipush (-3), 2) := by decide +kernel
theorem dX2_directoryPlaceOrRefusal_24 : decode cX2_directoryPlaceOrRefusal 24 = .ok (.ireturn, 1) := by decide +kernel
theorem dX2_directoryPlaceOrRefusal_25 : decode cX2_directoryPlaceOrRefusal 25 = .ok (.iload_n 3, 1) := by decide +kernel
theorem dX2_directoryPlaceOrRefusal_26 : decode cX2_directoryPlaceOrRefusal 26 = .ok (.invokestatic 79, 3) := by decide +kernel
theorem dX2_directoryPlaceOrRefusal_29 : decode cX2_directoryPlaceOrRefusal 29 = .ok (.ifCond .eq 8, 3) := by decide +kernel
theorem dX2_directoryPlaceOrRefusal_32 : decode cX2_directoryPlaceOrRefusal 32 = .ok (.bipush (-7), 2) := by decide +kernel
theorem dX2_directoryPlaceOrRefusal_34 : decode cX2_directoryPlaceOrRefusal 34 = .ok (.goto 4, 3) := by decide +kernel
theorem dX2_directoryPlaceOrRefusal_37 : decode cX2_directoryPlaceOrRefusal 37 = .ok (.iload_n 2, 1) := by decide +kernel
theorem dX2_directoryPlaceOrRefusal_38 : decode cX2_directoryPlaceOrRefusal 38 = .ok (.ireturn, 1) := by decide +kernel
theorem dX2_isLayer_0 : decode cX2_isLayer 0 = .ok (.iload_n 1, 1) := by decide +kernel
theorem dX2_isLayer_1 : decode cX2_isLayer 1 = .ok (.ifCond .lt 15, 3) := by decide +kernel
theorem dX2_isLayer_4 : decode cX2_isLayer 4 = .ok (.iload_n 1, 1) := by decide +kernel
theorem dX2_isLayer_5 : decode cX2_isLayer 5 = .ok (.aload_n 0, 1) := by decide +kernel
theorem dX2_isLayer_6 : decode cX2_isLayer 6 = .ok (.getfield 18, 3) := by decide +kernel
theorem dX2_isLayer_9 : decode cX2_isLayer 9 = .ok (.if_icmp .gt 7, 3) := by decide +kernel
theorem dX2_isLayer_12 : decode cX2_isLayer 12 = .ok (.iconst 1, 1) := by decide +kernel
theorem dX2_isLayer_13 : decode cX2_isLayer 13 = .ok (.goto 4, 3) := by decide +kernel
theorem dX2_isLayer_16 : decode cX2_isLayer 16 = .ok (.iconst 0, 1) := by decide +kernel
theorem dX2_isLayer_17 : decode cX2_isLayer 17 = .ok (.ireturn, 1) := by decide +kernel
theorem dX2_hasRoomIn_0 : decode cX2_hasRoomIn 0 = .ok (.iload_n 1, 1) := by decide +kernel
theorem dX2_hasRoomIn_1 : decode cX2_hasRoomIn 1 = .ok (.aload_n 0, 1) := by decide +kernel
theorem dX2_hasRoomIn_2 : decode cX2_hasRoomIn 2 = .ok (.getfield 18, 3) := by decide +kernel
theorem dX2_hasRoomIn_5 : decode cX2_hasRoomIn 5 = .ok (.if_icmp .ne 21, 3) := by decide +kernel
theorem dX2_hasRoomIn_8 : decode cX2_hasRoomIn 8 = .ok (.aload_n 0, 1) := by decide +kernel
theorem dX2_hasRoomIn_9 : decode cX2_hasRoomIn 9 = .ok (.getfield 29, 3) := by decide +kernel
theorem dX2_hasRoomIn_12 : decode cX2_hasRoomIn 12 = .ok (.invokevirtual 148, 3) := by decide +kernel
theorem dX2_hasRoomIn_15 : decode cX2_hasRoomIn 15 = .ok (.bipush 30, 2) := by decide +kernel
theorem dX2_hasRoomIn_17 : decode cX2_hasRoomIn 17 = .ok (.if_icmp .ge 7, 3) := by decide +kernel
theorem dX2_hasRoomIn_20 : decode cX2_hasRoomIn 20 = .ok (.iconst 1, 1) := by decide +kernel
theorem dX2_hasRoomIn_21 : decode cX2_hasRoomIn 21 = .ok (.goto 4, 3) := by decide +kernel
theorem dX2_hasRoomIn_24 : decode cX2_hasRoomIn 24 = .ok (.iconst 0, 1) := by decide +kernel
theorem dX2_hasRoomIn_25 : decode cX2_hasRoomIn 25 = .ok (.ireturn, 1) := by decide +kernel
theorem dX2_hasRoomIn_26 : decode cX2_hasRoomIn 26 = .ok (.iconst 0, 1) := by decide +kernel
theorem dX2_hasRoomIn_27 : decode cX2_hasRoomIn 27 = .ok (.istore_n 2, 1) := by decide +kernel
theorem dX2_hasRoomIn_28 : decode cX2_hasRoomIn 28 = .ok (.iconst 0, 1) := by decide +kernel
theorem dX2_hasRoomIn_29 : decode cX2_hasRoomIn 29 = .ok (.istore_n 3, 1) := by decide +kernel
theorem dX2_hasRoomIn_30 : decode cX2_hasRoomIn 30 = .ok (.iload_n 3, 1) := by decide +kernel
theorem dX2_hasRoomIn_31 : decode cX2_hasRoomIn 31 = .ok (.aload_n 0, 1) := by decide +kernel
theorem dX2_hasRoomIn_32 : decode cX2_hasRoomIn 32 = .ok (.getfield 18, 3) := by decide +kernel
theorem dX2_hasRoomIn_35 : decode cX2_hasRoomIn 35 = .ok (.if_icmp .ge 21, 3) := by decide +kernel
theorem dX2_hasRoomIn_38 : decode cX2_hasRoomIn 38 = .ok (.iload_n 2, 1) := by decide +kernel
theorem dX2_hasRoomIn_39 : decode cX2_hasRoomIn 39 = .ok (.aload_n 0, 1) := by decide +kernel
theorem dX2_hasRoomIn_40 : decode cX2_hasRoomIn 40 = .ok (.getfield 24, 3) := by decide +kernel
theorem dX2_hasRoomIn_43 : decode cX2_hasRoomIn 43 = .ok (.iload_n 3, 1) := by decide +kernel
theorem dX2_hasRoomIn_44 : decode cX2_hasRoomIn 44 = .ok (.aaload, 1) := by decide +kernel
theorem dX2_hasRoomIn_45 : decode cX2_hasRoomIn 45 = .ok (.invokevirtual 148, 3) := by decide +kernel
theorem dX2_hasRoomIn_48 : decode cX2_hasRoomIn 48 = .ok (.iadd, 1) := by decide +kernel
theorem dX2_hasRoomIn_49 : decode cX2_hasRoomIn 49 = .ok (.istore_n 2, 1) := by decide +kernel
theorem dX2_hasRoomIn_50 : decode cX2_hasRoomIn 50 = .ok (.iinc 3 1, 3) := by decide +kernel
theorem dX2_hasRoomIn_53 : decode cX2_hasRoomIn 53 = .ok (.goto (-23), 3) := by decide +kernel
theorem dX2_hasRoomIn_56 : decode cX2_hasRoomIn 56 = .ok (.iload_n 2, 1) := by decide +kernel
theorem dX2_hasRoomIn_57 : decode cX2_hasRoomIn 57 = .ok (.bipush 60, 2) := by decide +kernel
theorem dX2_hasRoomIn_59 : decode cX2_hasRoomIn 59 = .ok (.if_icmp .ge 7, 3) := by decide +kernel
theorem dX2_hasRoomIn_62 : decode cX2_hasRoomIn 62 = .ok (.iconst 1, 1) := by decide +kernel
theorem dX2_hasRoomIn_63 : decode cX2_hasRoomIn 63 = .ok (.goto 4, 3) := by decide +kernel
theorem dX2_hasRoomIn_66 : decode cX2_hasRoomIn 66 = .ok (.iconst 0, 1) := by decide +kernel
theorem dX2_hasRoomIn_67 : decode cX2_hasRoomIn 67 = .ok (.ireturn, 1) := by decide +kernel
theorem dX2_isDirectory_0 : decode cX2_isDirectory 0 = .ok (.iload_n 0, 1) := by decide +kernel
theorem dX2_isDirectory_1 : decode cX2_isDirectory 1 = .ok (.ifCond .le 7, 3) := by decide +kernel
theorem dX2_isDirectory_4 : decode cX2_isDirectory 4 = .ok (.iconst 1, 1) := by decide +kernel
theorem dX2_isDirectory_5 : decode cX2_isDirectory 5 = .ok (.goto 4, 3) := by decide +kernel
theorem dX2_isDirectory_8 : decode cX2_isDirectory 8 = .ok (.iconst 0, 1) := by decide +kernel
theorem dX2_isDirectory_9 : decode cX2_isDirectory 9 = .ok (.ireturn, 1) := by decide +kernel
theorem dX2_isFile_0 : decode cX2_isFile 0 = .ok (.iload_n 0, 1) := by decide +kernel
theorem dX2_isFile_1 : decode cX2_isFile 1 = .ok (.ifCond .ge 7, 3) := by decide +kernel
theorem dX2_isFile_4 : decode cX2_isFile 4 = .ok (.iconst 1, 1) := by decide +kernel
theorem dX2_isFile_5 : decode cX2_isFile 5 = .ok (.goto 4, 3) := by decide +kernel
theorem dX2_isFile_8 : decode cX2_isFile 8 = .ok (.iconst 0, 1) := by decide +kernel
theorem dX2_isFile_9 : decode cX2_isFile 9 = .ok (.ireturn, 1) := by decide +kernel
theorem dX2_foundFile_0 : decode cX2_foundFile 0 = .ok (.iload_n 0, 1) := by decide +kernel
theorem dX2_foundFile_1 : decode cX2_foundFile 1 = .ok (.iconst (-1), 1) := by decide +kernel
theorem dX2_foundFile_2 : decode cX2_foundFile 2 = .ok (.ixor, 1) := by decide +kernel
theorem dX2_foundFile_3 : decode cX2_foundFile 3 = .ok (.ireturn, 1) := by decide +kernel
theorem dX2_layerOfFile_0 : decode cX2_layerOfFile 0 = .ok (.iload_n 0, 1) := by decide +kernel
theorem dX2_layerOfFile_1 : decode cX2_layerOfFile 1 = .ok (.iconst (-1), 1) := by decide +kernel
theorem dX2_layerOfFile_2 : decode cX2_layerOfFile 2 = .ok (.ixor, 1) := by decide +kernel
theorem dX2_layerOfFile_3 : decode cX2_layerOfFile 3 = .ok (.ireturn, 1) := by decide +kernel
theorem dX2_originOf_0 : decode cX2_originOf 0 = .ok (.iload_n 1, 1) := by decide +kernel
theorem dX2_originOf_1 : decode cX2_originOf 1 = .ok (.invokestatic 79, 3) := by decide +kernel
theorem dX2_originOf_4 : decode cX2_originOf 4 = .ok (.ifCond .eq 8, 3) := by decide +kernel
theorem dX2_originOf_7 : decode cX2_originOf 7 = .ok (.iload_n 1, 1) := by decide +kernel
theorem dX2_originOf_8 : decode cX2_originOf 8 = .ok (.invokestatic 82, 3) := by decide +kernel
theorem dX2_originOf_11 : decode cX2_originOf 11 = .ok (.ireturn, 1) := by decide +kernel
theorem dX2_originOf_12 : decode cX2_originOf 12 = .ok (.aload_n 0, 1) := by decide +kernel
theorem dX2_originOf_13 : decode cX2_originOf 13 = .ok (.getfield 18, 3) := by decide +kernel
theorem dX2_originOf_16 : decode cX2_originOf 16 = .ok (.istore_n 2, 1) := by decide +kernel
theorem dX2_originOf_17 : decode cX2_originOf 17 = .ok (.iload_n 2, 1) := by decide +kernel
theorem dX2_originOf_18 : decode cX2_originOf 18 = .ok (.ifCond .le 17, 3) := by decide +kernel
theorem dX2_originOf_21 : decode cX2_originOf 21 = .ok (.iload_n 2, 1) := by decide +kernel
theorem dX2_originOf_22 : decode cX2_originOf 22 = .ok (.iload_n 1, 1) := by decide +kernel
theorem dX2_originOf_23 : decode cX2_originOf 23 = .ok (.invokestatic 154, 3) := by decide +kernel
theorem dX2_originOf_26 : decode cX2_originOf 26 = .ok (.ifCond .ne 9, 3) := by decide +kernel
theorem dX2_originOf_29 : decode cX2_originOf 29 = .ok (.iinc 2 (-1), 3) := by decide +kernel
theorem dX2_originOf_32 : decode cX2_originOf 32 = .ok (.goto (-15), 3) := by decide +kernel
theorem dX2_originOf_35 : decode cX2_originOf 35 = .ok (.iload_n 2, 1) := by decide +kernel
theorem dX2_originOf_36 : decode cX2_originOf 36 = .ok (.ireturn, 1) := by decide +kernel
theorem dX2_isPart_0 : decode cX2_isPart 0 = .ok (.iload_n 1, 1) := by decide +kernel
theorem dX2_isPart_1 : decode cX2_isPart 1 = .ok (.iload_n 0, 1) := by decide +kernel
theorem dX2_isPart_2 : decode cX2_isPart 2 = .ok (.ishr, 1) := by decide +kernel
theorem dX2_isPart_3 : decode cX2_isPart 3 = .ok (.iconst 1, 1) := by decide +kernel
theorem dX2_isPart_4 : decode cX2_isPart 4 = .ok (.iand, 1) := by decide +kernel
theorem dX2_isPart_5 : decode cX2_isPart 5 = .ok (.iconst 1, 1) := by decide +kernel
theorem dX2_isPart_6 : decode cX2_isPart 6 = .ok (.if_icmp .ne 7, 3) := by decide +kernel
theorem dX2_isPart_9 : decode cX2_isPart 9 = .ok (.iconst 1, 1) := by decide +kernel
theorem dX2_isPart_10 : decode cX2_isPart 10 = .ok (.goto 4, 3) := by decide +kernel
theorem dX2_isPart_13 : decode cX2_isPart 13 = .ok (.iconst 0, 1) := by decide +kernel
theorem dX2_isPart_14 : decode cX2_isPart 14 = .ok (.ireturn, 1) := by decide +kernel
theorem dX2_partOf_0 : decode cX2_partOf 0 = .ok (.iconst 1, 1) := by decide +kernel
theorem dX2_partOf_1 : decode cX2_partOf 1 = .ok (.iload_n 0, 1) := by decide +kernel
theorem dX2_partOf_2 : decode cX2_partOf 2 = .ok (.ishl, 1) := by decide +kernel
theorem dX2_partOf_3 : decode cX2_partOf 3 = .ok (.ireturn, 1) := by decide +kernel
theorem dX2_allParts_0 : decode cX2_allParts 0 = .ok (.aload_n 0, 1) := by decide +kernel
theorem dX2_allParts_1 : decode cX2_allParts 1 = .ok (.getfield 18, 3) := by decide +kernel
theorem dX2_allParts_4 : decode cX2_allParts 4 = .ok (.iconst 1, 1) := by decide +kernel
theorem dX2_allParts_5 : decode cX2_allParts 5 = .ok (.iadd, 1) := by decide +kernel
theorem dX2_allParts_6 : decode cX2_allParts 6 = .ok (.invokestatic 157, 3) := by decide +kernel
theorem dX2_allParts_9 : decode cX2_allParts 9 = .ok (.iconst 1, 1) := by decide +kernel
theorem dX2_allParts_10 : decode cX2_allParts 10 = .ok (.isub, 1) := by decide +kernel
theorem dX2_allParts_11 : decode cX2_allParts 11 = .ok (.ireturn, 1) := by decide +kernel
theorem dX2_find_0 : decode cX2_find 0 = .ok (.aload_n 0, 1) := by decide +kernel
theorem dX2_find_1 : decode cX2_find 1 = .ok (.invokevirtual 160, 3) := by decide +kernel
theorem dX2_find_4 : decode cX2_find 4 = .ok (.istore_n 2, 1) := by decide +kernel
theorem dX2_find_5 : decode cX2_find 5 = .ok (.iload_n 1, 1) := by decide +kernel
theorem dX2_find_6 : decode cX2_find 6 = .ok (.invokestatic 139, 3) := by decide +kernel
theorem dX2_find_9 : decode cX2_find 9 = .ok (.iconst 1, 1) := by decide +kernel
theorem dX2_find_10 : decode cX2_find 10 = .ok (.isub, 1) := by decide +kernel
theorem dX2_find_11 : decode cX2_find 11 = .ok (.istore_n 3, 1) := by decide +kernel
theorem dX2_find_12 : decode cX2_find 12 = .ok (.iload_n 3, 1) := by decide +kernel
theorem dX2_find_13 : decode cX2_find 13 = .ok (.ifCond .lt 29, 3) := by decide +kernel
theorem dX2_find_16 : decode cX2_find 16 = .ok (.iload_n 2, 1) := by decide +kernel
theorem dX2_find_17 : decode cX2_find 17 = .ok (.invokestatic 109, 3) := by decide +kernel
theorem dX2_find_20 : decode cX2_find 20 = .ok (.ifCond .ne 5, 3) := by decide +kernel
theorem dX2_find_23 : decode cX2_find 23 = .ok (.iconst 0, 1) := by decide +kernel
theorem dX2_find_24 : decode cX2_find 24 = .ok (.ireturn, 1) := by decide +kernel
theorem dX2_find_25 : decode cX2_find 25 = .ok (.aload_n 0, 1) := by decide +kernel
theorem dX2_find_26 : decode cX2_find 26 = .ok (.iload_n 2, 1) := by decide +kernel
theorem dX2_find_27 : decode cX2_find 27 = .ok (.iload_n 1, 1) := by decide +kernel
theorem dX2_find_28 : decode cX2_find 28 = .ok (.iload_n 3, 1) := by decide +kernel
theorem dX2_find_29 : decode cX2_find 29 = .ok (.invokestatic 163, 3) := by decide +kernel
theorem dX2_find_32 : decode cX2_find 32 = .ok (.invokevirtual 97, 3) := by decide +kernel
theorem dX2_find_35 : decode cX2_find 35 = .ok (.istore_n 2, 1) := by decide +kernel
theorem dX2_find_36 : decode cX2_find 36 = .ok (.iinc 3 (-1), 3) := by decide +kernel
theorem dX2_find_39 : decode cX2_find 39 = .ok (.goto (-27), 3) := by decide +kernel
theorem dX2_find_42 : decode cX2_find 42 = .ok (.iload_n 2, 1) := by decide +kernel
theorem dX2_find_43 : decode cX2_find 43 = .ok (.ireturn, 1) := by decide +kernel
theorem dX2_findAmong_0 : decode cX2_findAmong 0 = .ok (.iconst 0, 1) := by decide +kernel
theorem dX2_findAmong_1 : decode cX2_findAmong 1 = .ok (.istore_n 3, 1) := by decide +kernel
theorem dX2_findAmong_2 : decode cX2_findAmong 2 = .ok (.aload_n 0, 1) := by decide +kernel
theorem dX2_findAmong_3 : decode cX2_findAmong 3 = .ok (.getfield 18, 3) := by decide +kernel
theorem dX2_findAmong_6 : decode cX2_findAmong 6 = .ok (.istore 4, 2) := by decide +kernel
theorem dX2_findAmong_8 : decode cX2_findAmong 8 = .ok (.iload 4, 2) := by decide +kernel
theorem dX2_findAmong_10 : decode cX2_findAmong 10 = .ok (.ifCond .lt 87, 3) := by decide +kernel
theorem dX2_findAmong_13 : decode cX2_findAmong 13 = .ok (.iload 4, 2) := by decide +kernel
theorem dX2_findAmong_15 : decode cX2_findAmong 15 = .ok (.iload_n 1, 1) := by decide +kernel
theorem dX2_findAmong_16 : decode cX2_findAmong 16 = .ok (.invokestatic 154, 3) := by decide +kernel
theorem dX2_findAmong_19 : decode cX2_findAmong 19 = .ok (.ifCond .eq 72, 3) := by decide +kernel
theorem dX2_findAmong_22 : decode cX2_findAmong 22 = .ok (.aload_n 0, 1) := by decide +kernel
theorem dX2_findAmong_23 : decode cX2_findAmong 23 = .ok (.getfield 24, 3) := by decide +kernel
theorem dX2_findAmong_26 : decode cX2_findAmong 26 = .ok (.iload 4, 2) := by decide +kernel
theorem dX2_findAmong_28 : decode cX2_findAmong 28 = .ok (.aaload, 1) := by decide +kernel
theorem dX2_findAmong_29 : decode cX2_findAmong 29 = .ok (.iload_n 2, 1) := by decide +kernel
theorem dX2_findAmong_30 : decode cX2_findAmong 30 = .ok (.invokevirtual 54, 3) := by decide +kernel
theorem dX2_findAmong_33 : decode cX2_findAmong 33 = .ok (.istore 5, 2) := by decide +kernel
theorem dX2_findAmong_35 : decode cX2_findAmong 35 = .ok (.iload 5, 2) := by decide +kernel
theorem dX2_findAmong_37 : decode cX2_findAmong 37 = .ok (.iconst 1, 1) := by decide +kernel
theorem dX2_findAmong_38 : decode cX2_findAmong 38 = .ok (.if_icmp .ne 17, 3) := by decide +kernel
theorem dX2_findAmong_41 : decode cX2_findAmong 41 = .ok (.iload_n 3, 1) := by decide +kernel
theorem dX2_findAmong_42 : decode cX2_findAmong 42 = .ok (.ifCond .ne 11, 3) := by decide +kernel
theorem dX2_findAmong_45 : decode cX2_findAmong 45 = .ok (.iload 4, 2) := by decide +kernel
theorem dX2_findAmong_47 : decode cX2_findAmong 47 = .ok (.invokestatic 166, 3) := by decide +kernel
theorem dX2_findAmong_50 : decode cX2_findAmong 50 = .ok (.goto 4, 3) := by decide +kernel
theorem dX2_findAmong_53 : decode cX2_findAmong 53 = .ok (.iload_n 3, 1) := by decide +kernel
theorem dX2_findAmong_54 : decode cX2_findAmong 54 = .ok (.ireturn, 1) := by decide +kernel
theorem dX2_findAmong_55 : decode cX2_findAmong 55 = .ok (.iload 5, 2) := by decide +kernel
theorem dX2_findAmong_57 : decode cX2_findAmong 57 = .ok (.iconst 4, 1) := by decide +kernel
theorem dX2_findAmong_58 : decode cX2_findAmong 58 = .ok (.if_icmp .ne 5, 3) := by decide +kernel
theorem dX2_findAmong_61 : decode cX2_findAmong 61 = .ok (.iload_n 3, 1) := by decide +kernel
theorem dX2_findAmong_62 : decode cX2_findAmong 62 = .ok (.ireturn, 1) := by decide +kernel
theorem dX2_findAmong_63 : decode cX2_findAmong 63 = .ok (.iload 5, 2) := by decide +kernel
theorem dX2_findAmong_65 : decode cX2_findAmong 65 = .ok (.iconst 3, 1) := by decide +kernel
theorem dX2_findAmong_66 : decode cX2_findAmong 66 = .ok (.if_icmp .ne 11, 3) := by decide +kernel
theorem dX2_findAmong_69 : decode cX2_findAmong 69 = .ok (.iload_n 3, 1) := by decide +kernel
theorem dX2_findAmong_70 : decode cX2_findAmong 70 = .ok (.iload 4, 2) := by decide +kernel
theorem dX2_findAmong_72 : decode cX2_findAmong 72 = .ok (.invokestatic 157, 3) := by decide +kernel
theorem dX2_findAmong_75 : decode cX2_findAmong 75 = .ok (.ior, 1) := by decide +kernel
theorem dX2_findAmong_76 : decode cX2_findAmong 76 = .ok (.ireturn, 1) := by decide +kernel
theorem dX2_findAmong_77 : decode cX2_findAmong 77 = .ok (.iload 5, 2) := by decide +kernel
theorem dX2_findAmong_79 : decode cX2_findAmong 79 = .ok (.iconst 2, 1) := by decide +kernel
theorem dX2_findAmong_80 : decode cX2_findAmong 80 = .ok (.if_icmp .ne 11, 3) := by decide +kernel
theorem dX2_findAmong_83 : decode cX2_findAmong 83 = .ok (.iload_n 3, 1) := by decide +kernel
theorem dX2_findAmong_84 : decode cX2_findAmong 84 = .ok (.iload 4, 2) := by decide +kernel
theorem dX2_findAmong_86 : decode cX2_findAmong 86 = .ok (.invokestatic 157, 3) := by decide +kernel
theorem dX2_findAmong_89 : decode cX2_findAmong 89 = .ok (.ior, 1) := by decide +kernel
theorem dX2_findAmong_90 : decode cX2_findAmong 90 = .ok (.istore_n 3, 1) := by decide +kernel
theorem dX2_findAmong_91 : decode cX2_findAmong 91 = .ok (.iinc 4 (-1), 3) := by decide +kernel
theorem dX2_findAmong_94 : decode cX2_findAmong 94 = .ok (.goto (-86), 3) := by decide +kernel
theorem dX2_findAmong_97 : decode cX2_findAmong 97 = .ok (.iload_n 3, 1) := by decide +kernel
theorem dX2_findAmong_98 : decode cX2_findAmong 98 = .ok (.ireturn, 1) := by decide +kernel
theorem dX2_isCovered_0 : decode cX2_isCovered 0 = .ok (.aload_n 0, 1) := by decide +kernel
theorem dX2_isCovered_1 : decode cX2_isCovered 1 = .ok (.iload_n 1, 1) := by decide +kernel
theorem dX2_isCovered_2 : decode cX2_isCovered 2 = .ok (.invokestatic 57, 3) := by decide +kernel
theorem dX2_isCovered_5 : decode cX2_isCovered 5 = .ok (.invokevirtual 76, 3) := by decide +kernel
theorem dX2_isCovered_8 : decode cX2_isCovered 8 = .ok (.istore_n 2, 1) := by decide +kernel
theorem dX2_isCovered_9 : decode cX2_isCovered 9 = .ok (.iload_n 2, 1) := by decide +kernel
theorem dX2_isCovered_10 : decode cX2_isCovered 10 = .ok (.invokestatic 109, 3) := by decide +kernel
theorem dX2_isCovered_13 : decode cX2_isCovered 13 = .ok (.ifCond .eq 26, 3) := by decide +kernel
theorem dX2_isCovered_16 : decode cX2_isCovered 16 = .ok (.aload_n 0, 1) := by decide +kernel
theorem dX2_isCovered_17 : decode cX2_isCovered 17 = .ok (.iload_n 2, 1) := by decide +kernel
theorem dX2_isCovered_18 : decode cX2_isCovered 18 = .ok (.aload_n 0, 1) := by decide +kernel
theorem dX2_isCovered_19 : decode cX2_isCovered 19 = .ok (.getfield 18, 3) := by decide +kernel
theorem dX2_isCovered_22 : decode cX2_isCovered 22 = .ok (.invokestatic 157, 3) := by decide +kernel
theorem dX2_isCovered_25 : decode cX2_isCovered 25 = .ok (.iconst (-1), 1) := by decide +kernel
theorem dX2_isCovered_26 : decode cX2_isCovered 26 = .ok (.ixor, 1) := by decide +kernel
theorem dX2_isCovered_27 : decode cX2_isCovered 27 = .ok (.iand, 1) := by decide +kernel
theorem dX2_isCovered_28 : decode cX2_isCovered 28 = .ok (.iload_n 1, 1) := by decide +kernel
theorem dX2_isCovered_29 : decode cX2_isCovered 29 = .ok (.invokevirtual 97, 3) := by decide +kernel
theorem dX2_isCovered_32 : decode cX2_isCovered 32 = .ok (.ifCond .eq 7, 3) := by decide +kernel
theorem dX2_isCovered_35 : decode cX2_isCovered 35 = .ok (.iconst 1, 1) := by decide +kernel
theorem dX2_isCovered_36 : decode cX2_isCovered 36 = .ok (.goto 4, 3) := by decide +kernel
theorem dX2_isCovered_39 : decode cX2_isCovered 39 = .ok (.iconst 0, 1) := by decide +kernel
theorem dX2_isCovered_40 : decode cX2_isCovered 40 = .ok (.ireturn, 1) := by decide +kernel
theorem dX2_countIn_0 : decode cX2_countIn 0 = .ok (.iconst 0, 1) := by decide +kernel
theorem dX2_countIn_1 : decode cX2_countIn 1 = .ok (.istore_n 3, 1) := by decide +kernel
theorem dX2_countIn_2 : decode cX2_countIn 2 = .ok (.iconst 1, 1) := by decide +kernel
theorem dX2_countIn_3 : decode cX2_countIn 3 = .ok (.istore 4, 2) := by decide +kernel
theorem dX2_countIn_5 : decode cX2_countIn 5 = .ok (.iload 4, 2) := by decide +kernel
theorem dX2_countIn_7 : decode cX2_countIn 7 = .ok (.iconst 5, 1) := by decide +kernel
theorem dX2_countIn_8 : decode cX2_countIn 8 = .ok (.if_icmp .gt 26, 3) := by decide +kernel
theorem dX2_countIn_11 : decode cX2_countIn 11 = .ok (.aload_n 0, 1) := by decide +kernel
theorem dX2_countIn_12 : decode cX2_countIn 12 = .ok (.iload_n 2, 1) := by decide +kernel
theorem dX2_countIn_13 : decode cX2_countIn 13 = .ok (.iload_n 1, 1) := by decide +kernel
theorem dX2_countIn_14 : decode cX2_countIn 14 = .ok (.iload 4, 2) := by decide +kernel
theorem dX2_countIn_16 : decode cX2_countIn 16 = .ok (.invokestatic 94, 3) := by decide +kernel
theorem dX2_countIn_19 : decode cX2_countIn 19 = .ok (.invokevirtual 97, 3) := by decide +kernel
theorem dX2_countIn_22 : decode cX2_countIn 22 = .ok (.ifCond .eq 6, 3) := by decide +kernel
theorem dX2_countIn_25 : decode cX2_countIn 25 = .ok (.iinc 3 1, 3) := by decide +kernel
theorem dX2_countIn_28 : decode cX2_countIn 28 = .ok (.iinc 4 1, 3) := by decide +kernel
theorem dX2_countIn_31 : decode cX2_countIn 31 = .ok (.goto (-26), 3) := by decide +kernel
theorem dX2_countIn_34 : decode cX2_countIn 34 = .ok (.iload_n 3, 1) := by decide +kernel
theorem dX2_countIn_35 : decode cX2_countIn 35 = .ok (.ireturn, 1) := by decide +kernel
theorem dX2_countBelow_0 : decode cX2_countBelow 0 = .ok (.iload_n 1, 1) := by decide +kernel
theorem dX2_countBelow_1 : decode cX2_countBelow 1 = .ok (.invokestatic 139, 3) := by decide +kernel
theorem dX2_countBelow_4 : decode cX2_countBelow 4 = .ok (.iconst 4, 1) := by decide +kernel
theorem dX2_countBelow_5 : decode cX2_countBelow 5 = .ok (.if_icmp .lt 5, 3) := by decide +kernel
theorem dX2_countBelow_8 : decode cX2_countBelow 8 = .ok (.iconst 0, 1) := by decide +kernel
theorem dX2_countBelow_9 : decode cX2_countBelow 9 = .ok (.ireturn, 1) := by decide +kernel
theorem dX2_countBelow_10 : decode cX2_countBelow 10 = .ok (.iconst 0, 1) := by decide +kernel
theorem dX2_countBelow_11 : decode cX2_countBelow 11 = .ok (.istore_n 3, 1) := by decide +kernel
theorem dX2_countBelow_12 : decode cX2_countBelow 12 = .ok (.iconst 1, 1) := by decide +kernel
theorem dX2_countBelow_13 : decode cX2_countBelow 13 = .ok (.istore 4, 2) := by decide +kernel
theorem dX2_countBelow_15 : decode cX2_countBelow 15 = .ok (.iload 4, 2) := by decide +kernel
theorem dX2_countBelow_17 : decode cX2_countBelow 17 = .ok (.iconst 5, 1) := by decide +kernel
theorem dX2_countBelow_18 : decode cX2_countBelow 18 = .ok (.if_icmp .gt 53, 3) := by decide +kernel
theorem dX2_countBelow_21 : decode cX2_countBelow 21 = .ok (.iload_n 1, 1) := by decide +kernel
theorem dX2_countBelow_22 : decode cX2_countBelow 22 = .ok (.iload 4, 2) := by decide +kernel
theorem dX2_countBelow_24 : decode cX2_countBelow 24 = .ok (.invokestatic 94, 3) := by decide +kernel
theorem dX2_countBelow_27 : decode cX2_countBelow 27 = .ok (.istore 5, 2) := by decide +kernel
theorem dX2_countBelow_29 : decode cX2_countBelow 29 = .ok (.aload_n 0, 1) := by decide +kernel
theorem dX2_countBelow_30 : decode cX2_countBelow 30 = .ok (.iload_n 2, 1) := by decide +kernel
theorem dX2_countBelow_31 : decode cX2_countBelow 31 = .ok (.iload 5, 2) := by decide +kernel
theorem dX2_countBelow_33 : decode cX2_countBelow 33 = .ok (.invokevirtual 97, 3) := by decide +kernel
theorem dX2_countBelow_36 : decode cX2_countBelow 36 = .ok (.istore 6, 2) := by decide +kernel
theorem dX2_countBelow_38 : decode cX2_countBelow 38 = .ok (.iload 6, 2) := by decide +kernel
theorem dX2_countBelow_40 : decode cX2_countBelow 40 = .ok (.ifCond .eq 6, 3) := by decide +kernel
theorem dX2_countBelow_43 : decode cX2_countBelow 43 = .ok (.iinc 3 1, 3) := by decide +kernel
theorem dX2_countBelow_46 : decode cX2_countBelow 46 = .ok (.iload 6, 2) := by decide +kernel
theorem dX2_countBelow_48 : decode cX2_countBelow 48 = .ok (.invokestatic 109, 3) := by decide +kernel
theorem dX2_countBelow_51 : decode cX2_countBelow 51 = .ok (.ifCond .eq 14, 3) := by decide +kernel
theorem dX2_countBelow_54 : decode cX2_countBelow 54 = .ok (.iload_n 3, 1) := by decide +kernel
theorem dX2_countBelow_55 : decode cX2_countBelow 55 = .ok (.aload_n 0, 1) := by decide +kernel
theorem dX2_countBelow_56 : decode cX2_countBelow 56 = .ok (.iload 5, 2) := by decide +kernel
theorem dX2_countBelow_58 : decode cX2_countBelow 58 = .ok (.iload 6, 2) := by decide +kernel
theorem dX2_countBelow_60 : decode cX2_countBelow 60 = .ok (.invokevirtual 100, 3) := by decide +kernel
theorem dX2_countBelow_63 : decode cX2_countBelow 63 = .ok (.iadd, 1) := by decide +kernel
theorem dX2_countBelow_64 : decode cX2_countBelow 64 = .ok (.istore_n 3, 1) := by decide +kernel
theorem dX2_countBelow_65 : decode cX2_countBelow 65 = .ok (.iinc 4 1, 3) := by decide +kernel
theorem dX2_countBelow_68 : decode cX2_countBelow 68 = .ok (.goto (-53), 3) := by decide +kernel
theorem dX2_countBelow_71 : decode cX2_countBelow 71 = .ok (.iload_n 3, 1) := by decide +kernel
theorem dX2_countBelow_72 : decode cX2_countBelow 72 = .ok (.ireturn, 1) := by decide +kernel
theorem dX2_isFilledDirectory_0 : decode cX2_isFilledDirectory 0 = .ok (.iload_n 2, 1) := by decide +kernel
theorem dX2_isFilledDirectory_1 : decode cX2_isFilledDirectory 1 = .ok (.invokestatic 109, 3) := by decide +kernel
theorem dX2_isFilledDirectory_4 : decode cX2_isFilledDirectory 4 = .ok (.ifCond .eq 16, 3) := by decide +kernel
theorem dX2_isFilledDirectory_7 : decode cX2_isFilledDirectory 7 = .ok (.aload_n 0, 1) := by decide +kernel
theorem dX2_isFilledDirectory_8 : decode cX2_isFilledDirectory 8 = .ok (.iload_n 1, 1) := by decide +kernel
theorem dX2_isFilledDirectory_9 : decode cX2_isFilledDirectory 9 = .ok (.iload_n 2, 1) := by decide +kernel
theorem dX2_isFilledDirectory_10 : decode cX2_isFilledDirectory 10 = .ok (.invokevirtual 91, 3) := by decide +kernel
theorem dX2_isFilledDirectory_13 : decode cX2_isFilledDirectory 13 = .ok (.ifCond .le 7, 3) := by decide +kernel
theorem dX2_isFilledDirectory_16 : decode cX2_isFilledDirectory 16 = .ok (.iconst 1, 1) := by decide +kernel
theorem dX2_isFilledDirectory_17 : decode cX2_isFilledDirectory 17 = .ok (.goto 4, 3) := by decide +kernel
theorem dX2_isFilledDirectory_20 : decode cX2_isFilledDirectory 20 = .ok (.iconst 0, 1) := by decide +kernel
theorem dX2_isFilledDirectory_21 : decode cX2_isFilledDirectory 21 = .ok (.ireturn, 1) := by decide +kernel
theorem dX2_keepUpper_0 : decode cX2_keepUpper 0 = .ok (.aload_n 0, 1) := by decide +kernel
theorem dX2_keepUpper_1 : decode cX2_keepUpper 1 = .ok (.getfield 33, 3) := by decide +kernel
theorem dX2_keepUpper_4 : decode cX2_keepUpper 4 = .ok (.aload_n 0, 1) := by decide +kernel
theorem dX2_keepUpper_5 : decode cX2_keepUpper 5 = .ok (.getfield 29, 3) := by decide +kernel
theorem dX2_keepUpper_8 : decode cX2_keepUpper 8 = .ok (.invokevirtual 169, 3) := by decide +kernel
theorem dX2_keepUpper_11 : decode cX2_keepUpper 11 = .ok (.aload_n 0, 1) := by decide +kernel
theorem dX2_keepUpper_12 : decode cX2_keepUpper 12 = .ok (.aload_n 0, 1) := by decide +kernel
theorem dX2_keepUpper_13 : decode cX2_keepUpper 13 = .ok (.getfield 122, 3) := by decide +kernel
theorem dX2_keepUpper_16 : decode cX2_keepUpper 16 = .ok (.putfield 173, 3) := by decide +kernel
theorem dX2_keepUpper_19 : decode cX2_keepUpper 19 = .ok (.return_, 1) := by decide +kernel
theorem dX2_settle_0 : decode cX2_settle 0 = .ok (.aload_n 0, 1) := by decide +kernel
theorem dX2_settle_1 : decode cX2_settle 1 = .ok (.getfield 29, 3) := by decide +kernel
theorem dX2_settle_4 : decode cX2_settle 4 = .ok (.invokevirtual 148, 3) := by decide +kernel
theorem dX2_settle_7 : decode cX2_settle 7 = .ok (.bipush 30, 2) := by decide +kernel
theorem dX2_settle_9 : decode cX2_settle 9 = .ok (.if_icmp .gt 5, 3) := by decide +kernel
theorem dX2_settle_12 : decode cX2_settle 12 = .ok (.iconst 0, 1) := by decide +kernel
theorem dX2_settle_13 : decode cX2_settle 13 = .ok (.ireturn, 1) := by decide +kernel
theorem dX2_settle_14 : decode cX2_settle 14 = .ok (.aload_n 0, 1) := by decide +kernel
theorem dX2_settle_15 : decode cX2_settle 15 = .ok (.getfield 29, 3) := by decide +kernel
theorem dX2_settle_18 : decode cX2_settle 18 = .ok (.aload_n 0, 1) := by decide +kernel
theorem dX2_settle_19 : decode cX2_settle 19 = .ok (.getfield 33, 3) := by decide +kernel
theorem dX2_settle_22 : decode cX2_settle 22 = .ok (.invokevirtual 169, 3) := by decide +kernel
theorem dX2_settle_25 : decode cX2_settle 25 = .ok (.aload_n 0, 1) := by decide +kernel
theorem dX2_settle_26 : decode cX2_settle 26 = .ok (.aload_n 0, 1) := by decide +kernel
theorem dX2_settle_27 : decode cX2_settle 27 = .ok (.getfield 173, 3) := by decide +kernel
theorem dX2_settle_30 : decode cX2_settle 30 = .ok (.putfield 122, 3) := by decide +kernel
theorem dX2_settle_33 : decode cX2_settle 33 = .ok (.bipush (-11), 2) := by decide +kernel
theorem dX2_settle_35 : decode cX2_settle 35 = .ok (.ireturn, 1) := by decide +kernel
theorem dX2_raise_0 : decode cX2_raise 0 = .ok (.iload_n 1, 1) := by decide +kernel
theorem dX2_raise_1 : decode cX2_raise 1 = .ok (.invokestatic 139, 3) := by decide +kernel
theorem dX2_raise_4 : decode cX2_raise 4 = .ok (.iconst 1, 1) := by decide +kernel
theorem dX2_raise_5 : decode cX2_raise 5 = .ok (.isub, 1) := by decide +kernel
theorem dX2_raise_6 : decode cX2_raise 6 = .ok (.istore_n 2, 1) := by decide +kernel
theorem dX2_raise_7 : decode cX2_raise 7 = .ok (.iload_n 2, 1) := by decide +kernel
theorem dX2_raise_8 : decode cX2_raise 8 = .ok (.ifCond .lt 45, 3) := by decide +kernel
theorem dX2_raise_11 : decode cX2_raise 11 = .ok (.iload_n 1, 1) := by decide +kernel
theorem dX2_raise_12 : decode cX2_raise 12 = .ok (.iload_n 2, 1) := by decide +kernel
theorem dX2_raise_13 : decode cX2_raise 13 = .ok (.invokestatic 163, 3) := by decide +kernel
theorem dX2_raise_16 : decode cX2_raise 16 = .ok (.istore_n 3, 1) := by decide +kernel
theorem dX2_raise_17 : decode cX2_raise 17 = .ok (.aload_n 0, 1) := by decide +kernel
theorem dX2_raise_18 : decode cX2_raise 18 = .ok (.getfield 29, 3) := by decide +kernel
theorem dX2_raise_21 : decode cX2_raise 21 = .ok (.iload_n 3, 1) := by decide +kernel
theorem dX2_raise_22 : decode cX2_raise 22 = .ok (.invokevirtual 54, 3) := by decide +kernel
theorem dX2_raise_25 : decode cX2_raise 25 = .ok (.ifCond .ne 22, 3) := by decide +kernel
theorem dX2_raise_28 : decode cX2_raise 28 = .ok (.aload_n 0, 1) := by decide +kernel
theorem dX2_raise_29 : decode cX2_raise 29 = .ok (.getfield 29, 3) := by decide +kernel
theorem dX2_raise_32 : decode cX2_raise 32 = .ok (.iload_n 3, 1) := by decide +kernel
theorem dX2_raise_33 : decode cX2_raise 33 = .ok (.iconst 2, 1) := by decide +kernel
theorem dX2_raise_34 : decode cX2_raise 34 = .ok (.invokevirtual 69, 3) := by decide +kernel
theorem dX2_raise_37 : decode cX2_raise 37 = .ok (.aload_n 0, 1) := by decide +kernel
theorem dX2_raise_38 : decode cX2_raise 38 = .ok (.dup, 1) := by decide +kernel
theorem dX2_raise_39 : decode cX2_raise 39 = .ok (.getfield 122, 3) := by decide +kernel
theorem dX2_raise_42 : decode cX2_raise 42 = .ok (.iconst 1, 1) := by decide +kernel
theorem dX2_raise_43 : decode cX2_raise 43 = .ok (.iadd, 1) := by decide +kernel
theorem dX2_raise_44 : decode cX2_raise 44 = .ok (.putfield 122, 3) := by decide +kernel
theorem dX2_raise_47 : decode cX2_raise 47 = .ok (.iinc 2 (-1), 3) := by decide +kernel
theorem dX2_raise_50 : decode cX2_raise 50 = .ok (.goto (-43), 3) := by decide +kernel
theorem dX2_raise_53 : decode cX2_raise 53 = .ok (.return_, 1) := by decide +kernel
theorem dX2_makeAt_0 : decode cX2_makeAt 0 = .ok (.aload_n 0, 1) := by decide +kernel
theorem dX2_makeAt_1 : decode cX2_makeAt 1 = .ok (.iload_n 1, 1) := by decide +kernel
theorem dX2_makeAt_2 : decode cX2_makeAt 2 = .ok (.invokestatic 57, 3) := by decide +kernel
theorem dX2_makeAt_5 : decode cX2_makeAt 5 = .ok (.invokevirtual 176, 3) := by decide +kernel
theorem dX2_makeAt_8 : decode cX2_makeAt 8 = .ok (.aload_n 0, 1) := by decide +kernel
theorem dX2_makeAt_9 : decode cX2_makeAt 9 = .ok (.getfield 29, 3) := by decide +kernel
theorem dX2_makeAt_12 : decode cX2_makeAt 12 = .ok (.iload_n 1, 1) := by decide +kernel
theorem dX2_makeAt_13 : decode cX2_makeAt 13 = .ok (.invokevirtual 179, 3) := by decide +kernel
theorem dX2_makeAt_16 : decode cX2_makeAt 16 = .ok (.aload_n 0, 1) := by decide +kernel
theorem dX2_makeAt_17 : decode cX2_makeAt 17 = .ok (.getfield 29, 3) := by decide +kernel
theorem dX2_makeAt_20 : decode cX2_makeAt 20 = .ok (.iload_n 1, 1) := by decide +kernel
theorem dX2_makeAt_21 : decode cX2_makeAt 21 = .ok (.iload_n 2, 1) := by decide +kernel
theorem dX2_makeAt_22 : decode cX2_makeAt 22 = .ok (.iconst 2, 1) := by decide +kernel
theorem dX2_makeAt_23 : decode cX2_makeAt 23 = .ok (.if_icmp .ne 15, 3) := by decide +kernel
theorem dX2_makeAt_26 : decode cX2_makeAt 26 = .ok (.aload_n 0, 1) := by decide +kernel
theorem dX2_makeAt_27 : decode cX2_makeAt 27 = .ok (.iload_n 1, 1) := by decide +kernel
theorem dX2_makeAt_28 : decode cX2_makeAt 28 = .ok (.invokevirtual 182, 3) := by decide +kernel
theorem dX2_makeAt_31 : decode cX2_makeAt 31 = .ok (.ifCond .eq 7, 3) := by decide +kernel
theorem dX2_makeAt_34 : decode cX2_makeAt 34 = .ok (.iconst 3, 1) := by decide +kernel
theorem dX2_makeAt_35 : decode cX2_makeAt 35 = .ok (.goto 4, 3) := by decide +kernel
theorem dX2_makeAt_38 : decode cX2_makeAt 38 = .ok (.iload_n 2, 1) := by decide +kernel
theorem dX2_makeAt_39 : decode cX2_makeAt 39 = .ok (.invokevirtual 69, 3) := by decide +kernel
theorem dX2_makeAt_42 : decode cX2_makeAt 42 = .ok (.return_, 1) := by decide +kernel
theorem dX2_unmakeAt_0 : decode cX2_unmakeAt 0 = .ok (.aload_n 0, 1) := by decide +kernel
theorem dX2_unmakeAt_1 : decode cX2_unmakeAt 1 = .ok (.getfield 29, 3) := by decide +kernel
theorem dX2_unmakeAt_4 : decode cX2_unmakeAt 4 = .ok (.iload_n 1, 1) := by decide +kernel
theorem dX2_unmakeAt_5 : decode cX2_unmakeAt 5 = .ok (.invokevirtual 179, 3) := by decide +kernel
theorem dX2_unmakeAt_8 : decode cX2_unmakeAt 8 = .ok (.aload_n 0, 1) := by decide +kernel
theorem dX2_unmakeAt_9 : decode cX2_unmakeAt 9 = .ok (.iload_n 1, 1) := by decide +kernel
theorem dX2_unmakeAt_10 : decode cX2_unmakeAt 10 = .ok (.invokevirtual 182, 3) := by decide +kernel
theorem dX2_unmakeAt_13 : decode cX2_unmakeAt 13 = .ok (.ifCond .eq 20, 3) := by decide +kernel
theorem dX2_unmakeAt_16 : decode cX2_unmakeAt 16 = .ok (.aload_n 0, 1) := by decide +kernel
theorem dX2_unmakeAt_17 : decode cX2_unmakeAt 17 = .ok (.iload_n 1, 1) := by decide +kernel
theorem dX2_unmakeAt_18 : decode cX2_unmakeAt 18 = .ok (.invokestatic 57, 3) := by decide +kernel
theorem dX2_unmakeAt_21 : decode cX2_unmakeAt 21 = .ok (.invokevirtual 176, 3) := by decide +kernel
theorem dX2_unmakeAt_24 : decode cX2_unmakeAt 24 = .ok (.aload_n 0, 1) := by decide +kernel
theorem dX2_unmakeAt_25 : decode cX2_unmakeAt 25 = .ok (.getfield 29, 3) := by decide +kernel
theorem dX2_unmakeAt_28 : decode cX2_unmakeAt 28 = .ok (.iload_n 1, 1) := by decide +kernel
theorem dX2_unmakeAt_29 : decode cX2_unmakeAt 29 = .ok (.iconst 4, 1) := by decide +kernel
theorem dX2_unmakeAt_30 : decode cX2_unmakeAt 30 = .ok (.invokevirtual 69, 3) := by decide +kernel
theorem dX2_unmakeAt_33 : decode cX2_unmakeAt 33 = .ok (.return_, 1) := by decide +kernel
theorem dX2_refusalOfTarget_0 : decode cX2_refusalOfTarget 0 = .ok (.iload_n 2, 1) := by decide +kernel
theorem dX2_refusalOfTarget_1 : decode cX2_refusalOfTarget 1 = .ok (.iload_n 1, 1) := by decide +kernel
theorem dX2_refusalOfTarget_2 : decode cX2_refusalOfTarget 2 = .ok (.invokestatic 185, 3) := by decide +kernel
theorem dX2_refusalOfTarget_5 : decode cX2_refusalOfTarget 5 = .ok (.ifCond .eq 6, 3) := by decide +kernel
theorem dX2_refusalOfTarget_8 : decode cX2_refusalOfTarget 8 = .ok (.bipush (-9), 2) := by decide +kernel
theorem dX2_refusalOfTarget_10 : decode cX2_refusalOfTarget 10 = .ok (.ireturn, 1) := by decide +kernel
theorem dX2_refusalOfTarget_11 : decode cX2_refusalOfTarget 11 = .ok (.aload_n 0, 1) := by decide +kernel
theorem dX2_refusalOfTarget_12 : decode cX2_refusalOfTarget 12 = .ok (.iload_n 2, 1) := by decide +kernel
theorem dX2_refusalOfTarget_13 : decode cX2_refusalOfTarget 13 = .ok (.invokestatic 57, 3) := by decide +kernel
theorem dX2_refusalOfTarget_16 : decode cX2_refusalOfTarget 16 = .ok (.invokevirtual 76, 3) := by decide +kernel
theorem dX2_refusalOfTarget_19 : decode cX2_refusalOfTarget 19 = .ok (.invokestatic 109, 3) := by decide +kernel
theorem dX2_refusalOfTarget_22 : decode cX2_refusalOfTarget 22 = .ok (.ifCond .ne 6, 3) := by decide +kernel
theorem dX2_refusalOfTarget_25 : decode cX2_refusalOfTarget 25 = .ok (.bipush (-4), 2) := by decide +kernel
theorem dX2_refusalOfTarget_27 : decode cX2_refusalOfTarget 27 = .ok (.ireturn, 1) := by decide +kernel
theorem dX2_refusalOfTarget_28 : decode cX2_refusalOfTarget 28 = .ok (.aload_n 0, 1) := by decide +kernel
theorem dX2_refusalOfTarget_29 : decode cX2_refusalOfTarget 29 = .ok (.iload_n 1, 1) := by decide +kernel
theorem dX2_refusalOfTarget_30 : decode cX2_refusalOfTarget 30 = .ok (.invokevirtual 76, 3) := by decide +kernel
theorem dX2_refusalOfTarget_33 : decode cX2_refusalOfTarget 33 = .ok (.istore_n 3, 1) := by decide +kernel
theorem dX2_refusalOfTarget_34 : decode cX2_refusalOfTarget 34 = .ok (.aload_n 0, 1) := by decide +kernel
theorem dX2_refusalOfTarget_35 : decode cX2_refusalOfTarget 35 = .ok (.iload_n 2, 1) := by decide +kernel
theorem dX2_refusalOfTarget_36 : decode cX2_refusalOfTarget 36 = .ok (.invokevirtual 76, 3) := by decide +kernel
theorem dX2_refusalOfTarget_39 : decode cX2_refusalOfTarget 39 = .ok (.istore 4, 2) := by decide +kernel
theorem dX2_refusalOfTarget_41 : decode cX2_refusalOfTarget 41 = .ok (.iload 4, 2) := by decide +kernel
theorem dX2_refusalOfTarget_43 : decode cX2_refusalOfTarget 43 = .ok (.invokestatic 109, 3) := by decide +kernel
theorem dX2_refusalOfTarget_46 : decode cX2_refusalOfTarget 46 = .ok (.ifCond .eq 13, 3) := by decide +kernel
theorem dX2_refusalOfTarget_49 : decode cX2_refusalOfTarget 49 = .ok (.iload_n 3, 1) := by decide +kernel
theorem dX2_refusalOfTarget_50 : decode cX2_refusalOfTarget 50 = .ok (.invokestatic 79, 3) := by decide +kernel
theorem dX2_refusalOfTarget_53 : decode cX2_refusalOfTarget 53 = .ok (.ifCond .eq 6, 3) := by decide +kernel
theorem dX2_refusalOfTarget_56 : decode cX2_refusalOfTarget 56 = .ok (.bipush (-6), 2) := by decide +kernel
theorem dX2_refusalOfTarget_58 : decode cX2_refusalOfTarget 58 = .ok (.ireturn, 1) := by decide +kernel
theorem dX2_refusalOfTarget_59 : decode cX2_refusalOfTarget 59 = .ok (.iload 4, 2) := by decide +kernel
theorem dX2_refusalOfTarget_61 : decode cX2_refusalOfTarget 61 = .ok (.invokestatic 79, 3) := by decide +kernel
theorem dX2_refusalOfTarget_64 : decode cX2_refusalOfTarget 64 = .ok (.ifCond .eq 13, 3) := by decide +kernel
theorem dX2_refusalOfTarget_67 : decode cX2_refusalOfTarget 67 = .ok (.iload_n 3, 1) := by decide +kernel
theorem dX2_refusalOfTarget_68 : decode cX2_refusalOfTarget 68 = .ok (.invokestatic 109, 3) := by decide +kernel
theorem dX2_refusalOfTarget_71 : decode cX2_refusalOfTarget 71 = .ok (.ifCond .eq 6, 3) := by decide +kernel
theorem dX2_refusalOfTarget_74 : decode cX2_refusalOfTarget 74 = .ok (.bipush (-7), 2) := by decide +kernel
theorem dX2_refusalOfTarget_76 : decode cX2_refusalOfTarget 76 = .ok (.ireturn, 1) := by decide +kernel
theorem dX2_refusalOfTarget_77 : decode cX2_refusalOfTarget 77 = .ok (.aload_n 0, 1) := by decide +kernel
theorem dX2_refusalOfTarget_78 : decode cX2_refusalOfTarget 78 = .ok (.iload_n 2, 1) := by decide +kernel
theorem dX2_refusalOfTarget_79 : decode cX2_refusalOfTarget 79 = .ok (.iload 4, 2) := by decide +kernel
theorem dX2_refusalOfTarget_81 : decode cX2_refusalOfTarget 81 = .ok (.invokevirtual 125, 3) := by decide +kernel
theorem dX2_refusalOfTarget_84 : decode cX2_refusalOfTarget 84 = .ok (.ifCond .eq 8, 3) := by decide +kernel
theorem dX2_refusalOfTarget_87 : decode cX2_refusalOfTarget 87 = .ok (.bipush (-8), 2) := by decide +kernel
theorem dX2_refusalOfTarget_89 : decode cX2_refusalOfTarget 89 = .ok (.goto 4, 3) := by decide +kernel
theorem dX2_refusalOfTarget_92 : decode cX2_refusalOfTarget 92 = .ok (.iconst 0, 1) := by decide +kernel
theorem dX2_refusalOfTarget_93 : decode cX2_refusalOfTarget 93 = .ok (.ireturn, 1) := by decide +kernel
theorem dX2_noteFrom_0 : decode cX2_noteFrom 0 = .ok (.aload_n 0, 1) := by decide +kernel
theorem dX2_noteFrom_1 : decode cX2_noteFrom 1 = .ok (.getfield 38, 3) := by decide +kernel
theorem dX2_noteFrom_4 : decode cX2_noteFrom 4 = .ok (.iconst 0, 1) := by decide +kernel
theorem dX2_noteFrom_5 : decode cX2_noteFrom 5 = .ok (.aload_n 0, 1) := by decide +kernel
theorem dX2_noteFrom_6 : decode cX2_noteFrom 6 = .ok (.iload_n 1, 1) := by decide +kernel
theorem dX2_noteFrom_7 : decode cX2_noteFrom 7 = .ok (.invokevirtual 188, 3) := by decide +kernel
theorem dX2_noteFrom_10 : decode cX2_noteFrom 10 = .ok (.iastore, 1) := by decide +kernel
theorem dX2_noteFrom_11 : decode cX2_noteFrom 11 = .ok (.iconst 1, 1) := by decide +kernel
theorem dX2_noteFrom_12 : decode cX2_noteFrom 12 = .ok (.istore_n 2, 1) := by decide +kernel
theorem dX2_noteFrom_13 : decode cX2_noteFrom 13 = .ok (.iload_n 2, 1) := by decide +kernel
theorem dX2_noteFrom_14 : decode cX2_noteFrom 14 = .ok (.aload_n 0, 1) := by decide +kernel
theorem dX2_noteFrom_15 : decode cX2_noteFrom 15 = .ok (.getfield 38, 3) := by decide +kernel
theorem dX2_noteFrom_18 : decode cX2_noteFrom 18 = .ok (.arraylength, 1) := by decide +kernel
theorem dX2_noteFrom_19 : decode cX2_noteFrom 19 = .ok (.if_icmp .ge 51, 3) := by decide +kernel
theorem dX2_noteFrom_22 : decode cX2_noteFrom 22 = .ok (.aload_n 0, 1) := by decide +kernel
theorem dX2_noteFrom_23 : decode cX2_noteFrom 23 = .ok (.getfield 38, 3) := by decide +kernel
theorem dX2_noteFrom_26 : decode cX2_noteFrom 26 = .ok (.iload_n 2, 1) := by decide +kernel
theorem dX2_noteFrom_27 : decode cX2_noteFrom 27 = .ok (.invokestatic 57, 3) := by decide +kernel
theorem dX2_noteFrom_30 : decode cX2_noteFrom 30 = .ok (.iaload, 1) := by decide +kernel
theorem dX2_noteFrom_31 : decode cX2_noteFrom 31 = .ok (.iconst 2, 1) := by decide +kernel
theorem dX2_noteFrom_32 : decode cX2_noteFrom 32 = .ok (.if_icmp .ne 7, 3) := by decide +kernel
theorem dX2_noteFrom_35 : decode cX2_noteFrom 35 = .ok (.iconst 1, 1) := by decide +kernel
theorem dX2_noteFrom_36 : decode cX2_noteFrom 36 = .ok (.goto 4, 3) := by decide +kernel
theorem dX2_noteFrom_39 : decode cX2_noteFrom 39 = .ok (.iconst 0, 1) := by decide +kernel
theorem dX2_noteFrom_40 : decode cX2_noteFrom 40 = .ok (.istore_n 3, 1) := by decide +kernel
theorem dX2_noteFrom_41 : decode cX2_noteFrom 41 = .ok (.aload_n 0, 1) := by decide +kernel
theorem dX2_noteFrom_42 : decode cX2_noteFrom 42 = .ok (.getfield 38, 3) := by decide +kernel
theorem dX2_noteFrom_45 : decode cX2_noteFrom 45 = .ok (.iload_n 2, 1) := by decide +kernel
theorem dX2_noteFrom_46 : decode cX2_noteFrom 46 = .ok (.iload_n 3, 1) := by decide +kernel
theorem dX2_noteFrom_47 : decode cX2_noteFrom 47 = .ok (.ifCond .eq 15, 3) := by decide +kernel
theorem dX2_noteFrom_50 : decode cX2_noteFrom 50 = .ok (.aload_n 0, 1) := by decide +kernel
theorem dX2_noteFrom_51 : decode cX2_noteFrom 51 = .ok (.iload_n 1, 1) := by decide +kernel
theorem dX2_noteFrom_52 : decode cX2_noteFrom 52 = .ok (.iload_n 2, 1) := by decide +kernel
theorem dX2_noteFrom_53 : decode cX2_noteFrom 53 = .ok (.invokestatic 191, 3) := by decide +kernel
theorem dX2_noteFrom_56 : decode cX2_noteFrom 56 = .ok (.invokevirtual 188, 3) := by decide +kernel
theorem dX2_noteFrom_59 : decode cX2_noteFrom 59 = .ok (.goto 4, 3) := by decide +kernel
theorem dX2_noteFrom_62 : decode cX2_noteFrom 62 = .ok (.iconst 0, 1) := by decide +kernel
theorem dX2_noteFrom_63 : decode cX2_noteFrom 63 = .ok (.iastore, 1) := by decide +kernel
theorem dX2_noteFrom_64 : decode cX2_noteFrom 64 = .ok (.iinc 2 1, 3) := by decide +kernel
theorem dX2_noteFrom_67 : decode cX2_noteFrom 67 = .ok (.goto (-54), 3) := by decide +kernel
theorem dX2_noteFrom_70 : decode cX2_noteFrom 70 = .ok (.return_, 1) := by decide +kernel
theorem dX2_cellOfObject_0 : decode cX2_cellOfObject 0 = .ok (.iload_n 1, 1) := by decide +kernel
theorem dX2_cellOfObject_1 : decode cX2_cellOfObject 1 = .ok (.sipush 781, 3) := by decide +kernel
theorem dX2_cellOfObject_4 : decode cX2_cellOfObject 4 = .ok (.if_icmp .lt 5, 3) := by decide +kernel
theorem dX2_cellOfObject_7 : decode cX2_cellOfObject 7 = .ok (.iconst 0, 1) := by decide +kernel
theorem dX2_cellOfObject_8 : decode cX2_cellOfObject 8 = .ok (.ireturn, 1) := by decide +kernel
theorem dX2_cellOfObject_9 : decode cX2_cellOfObject 9 = .ok (.aload_n 0, 1) := by decide +kernel
theorem dX2_cellOfObject_10 : decode cX2_cellOfObject 10 = .ok (.iload_n 1, 1) := by decide +kernel
theorem dX2_cellOfObject_11 : decode cX2_cellOfObject 11 = .ok (.invokevirtual 76, 3) := by decide +kernel
theorem dX2_cellOfObject_14 : decode cX2_cellOfObject 14 = .ok (.istore_n 2, 1) := by decide +kernel
theorem dX2_cellOfObject_15 : decode cX2_cellOfObject 15 = .ok (.iload_n 2, 1) := by decide +kernel
theorem dX2_cellOfObject_16 : decode cX2_cellOfObject 16 = .ok (.invokestatic 79, 3) := by decide +kernel
theorem dX2_cellOfObject_19 : decode cX2_cellOfObject 19 = .ok (.ifCond .eq 20, 3) := by decide +kernel
theorem dX2_cellOfObject_22 : decode cX2_cellOfObject 22 = .ok (.aload_n 0, 1) := by decide +kernel
theorem dX2_cellOfObject_23 : decode cX2_cellOfObject 23 = .ok (.getfield 24, 3) := by decide +kernel
theorem dX2_cellOfObject_26 : decode cX2_cellOfObject 26 = .ok (.iload_n 2, 1) := by decide +kernel
theorem dX2_cellOfObject_27 : decode cX2_cellOfObject 27 = .ok (.invokestatic 82, 3) := by decide +kernel
theorem dX2_cellOfObject_30 : decode cX2_cellOfObject 30 = .ok (.aaload, 1) := by decide +kernel
theorem dX2_cellOfObject_31 : decode cX2_cellOfObject 31 = .ok (.iload_n 1, 1) := by decide +kernel
theorem dX2_cellOfObject_32 : decode cX2_cellOfObject 32 = .ok (.invokevirtual 85, 3) := by decide +kernel
theorem dX2_cellOfObject_35 : decode cX2_cellOfObject 35 = .ok (.invokestatic 66, 3) := by decide +kernel
theorem dX2_cellOfObject_38 : decode cX2_cellOfObject 38 = .ok (.ireturn, 1) := by decide +kernel
theorem dX2_cellOfObject_39 : decode cX2_cellOfObject 39 = .ok (.iload_n 2, 1) := by decide +kernel
theorem dX2_cellOfObject_40 : decode cX2_cellOfObject 40 = .ok (.invokestatic 109, 3) := by decide +kernel
theorem dX2_cellOfObject_43 : decode cX2_cellOfObject 43 = .ok (.ifCond .eq 7, 3) := by decide +kernel
theorem dX2_cellOfObject_46 : decode cX2_cellOfObject 46 = .ok (.iconst 2, 1) := by decide +kernel
theorem dX2_cellOfObject_47 : decode cX2_cellOfObject 47 = .ok (.goto 4, 3) := by decide +kernel
theorem dX2_cellOfObject_50 : decode cX2_cellOfObject 50 = .ok (.iconst 0, 1) := by decide +kernel
theorem dX2_cellOfObject_51 : decode cX2_cellOfObject 51 = .ok (.ireturn, 1) := by decide +kernel
theorem dX2_depthOfNoted_0 : decode cX2_depthOfNoted 0 = .ok (.iconst 0, 1) := by decide +kernel
theorem dX2_depthOfNoted_1 : decode cX2_depthOfNoted 1 = .ok (.istore_n 1, 1) := by decide +kernel
theorem dX2_depthOfNoted_2 : decode cX2_depthOfNoted 2 = .ok (.iconst 0, 1) := by decide +kernel
theorem dX2_depthOfNoted_3 : decode cX2_depthOfNoted 3 = .ok (.istore_n 2, 1) := by decide +kernel
theorem dX2_depthOfNoted_4 : decode cX2_depthOfNoted 4 = .ok (.iload_n 2, 1) := by decide +kernel
theorem dX2_depthOfNoted_5 : decode cX2_depthOfNoted 5 = .ok (.aload_n 0, 1) := by decide +kernel
theorem dX2_depthOfNoted_6 : decode cX2_depthOfNoted 6 = .ok (.getfield 38, 3) := by decide +kernel
theorem dX2_depthOfNoted_9 : decode cX2_depthOfNoted 9 = .ok (.arraylength, 1) := by decide +kernel
theorem dX2_depthOfNoted_10 : decode cX2_depthOfNoted 10 = .ok (.if_icmp .ge 23, 3) := by decide +kernel
theorem dX2_depthOfNoted_13 : decode cX2_depthOfNoted 13 = .ok (.aload_n 0, 1) := by decide +kernel
theorem dX2_depthOfNoted_14 : decode cX2_depthOfNoted 14 = .ok (.getfield 38, 3) := by decide +kernel
theorem dX2_depthOfNoted_17 : decode cX2_depthOfNoted 17 = .ok (.iload_n 2, 1) := by decide +kernel
theorem dX2_depthOfNoted_18 : decode cX2_depthOfNoted 18 = .ok (.iaload, 1) := by decide +kernel
theorem dX2_depthOfNoted_19 : decode cX2_depthOfNoted 19 = .ok (.ifCond .eq 8, 3) := by decide +kernel
theorem dX2_depthOfNoted_22 : decode cX2_depthOfNoted 22 = .ok (.iload_n 2, 1) := by decide +kernel
theorem dX2_depthOfNoted_23 : decode cX2_depthOfNoted 23 = .ok (.invokestatic 139, 3) := by decide +kernel
theorem dX2_depthOfNoted_26 : decode cX2_depthOfNoted 26 = .ok (.istore_n 1, 1) := by decide +kernel
theorem dX2_depthOfNoted_27 : decode cX2_depthOfNoted 27 = .ok (.iinc 2 1, 3) := by decide +kernel
theorem dX2_depthOfNoted_30 : decode cX2_depthOfNoted 30 = .ok (.goto (-26), 3) := by decide +kernel
theorem dX2_depthOfNoted_33 : decode cX2_depthOfNoted 33 = .ok (.iload_n 1, 1) := by decide +kernel
theorem dX2_depthOfNoted_34 : decode cX2_depthOfNoted 34 = .ok (.ireturn, 1) := by decide +kernel
theorem dX2_makeNotedAt_0 : decode cX2_makeNotedAt 0 = .ok (.iconst 0, 1) := by decide +kernel
theorem dX2_makeNotedAt_1 : decode cX2_makeNotedAt 1 = .ok (.istore_n 2, 1) := by decide +kernel
theorem dX2_makeNotedAt_2 : decode cX2_makeNotedAt 2 = .ok (.iload_n 2, 1) := by decide +kernel
theorem dX2_makeNotedAt_3 : decode cX2_makeNotedAt 3 = .ok (.aload_n 0, 1) := by decide +kernel
theorem dX2_makeNotedAt_4 : decode cX2_makeNotedAt 4 = .ok (.getfield 38, 3) := by decide +kernel
theorem dX2_makeNotedAt_7 : decode cX2_makeNotedAt 7 = .ok (.arraylength, 1) := by decide +kernel
theorem dX2_makeNotedAt_8 : decode cX2_makeNotedAt 8 = .ok (.if_icmp .ge 33, 3) := by decide +kernel
theorem dX2_makeNotedAt_11 : decode cX2_makeNotedAt 11 = .ok (.aload_n 0, 1) := by decide +kernel
theorem dX2_makeNotedAt_12 : decode cX2_makeNotedAt 12 = .ok (.getfield 38, 3) := by decide +kernel
theorem dX2_makeNotedAt_15 : decode cX2_makeNotedAt 15 = .ok (.iload_n 2, 1) := by decide +kernel
theorem dX2_makeNotedAt_16 : decode cX2_makeNotedAt 16 = .ok (.iaload, 1) := by decide +kernel
theorem dX2_makeNotedAt_17 : decode cX2_makeNotedAt 17 = .ok (.ifCond .eq 18, 3) := by decide +kernel
theorem dX2_makeNotedAt_20 : decode cX2_makeNotedAt 20 = .ok (.aload_n 0, 1) := by decide +kernel
theorem dX2_makeNotedAt_21 : decode cX2_makeNotedAt 21 = .ok (.iload_n 1, 1) := by decide +kernel
theorem dX2_makeNotedAt_22 : decode cX2_makeNotedAt 22 = .ok (.iload_n 2, 1) := by decide +kernel
theorem dX2_makeNotedAt_23 : decode cX2_makeNotedAt 23 = .ok (.invokestatic 191, 3) := by decide +kernel
theorem dX2_makeNotedAt_26 : decode cX2_makeNotedAt 26 = .ok (.aload_n 0, 1) := by decide +kernel
theorem dX2_makeNotedAt_27 : decode cX2_makeNotedAt 27 = .ok (.getfield 38, 3) := by decide +kernel
theorem dX2_makeNotedAt_30 : decode cX2_makeNotedAt 30 = .ok (.iload_n 2, 1) := by decide +kernel
theorem dX2_makeNotedAt_31 : decode cX2_makeNotedAt 31 = .ok (.iaload, 1) := by decide +kernel
theorem dX2_makeNotedAt_32 : decode cX2_makeNotedAt 32 = .ok (.invokevirtual 115, 3) := by decide +kernel
theorem dX2_makeNotedAt_35 : decode cX2_makeNotedAt 35 = .ok (.iinc 2 1, 3) := by decide +kernel
theorem dX2_makeNotedAt_38 : decode cX2_makeNotedAt 38 = .ok (.goto (-36), 3) := by decide +kernel
theorem dX2_makeNotedAt_41 : decode cX2_makeNotedAt 41 = .ok (.return_, 1) := by decide +kernel
theorem dX0_init_0 : decode cX0_init 0 = .ok (.aload_n 0, 1) := by decide +kernel
theorem dX0_init_1 : decode cX0_init 1 = .ok (.invokespecial 3, 3) := by decide +kernel
theorem dX0_init_4 : decode cX0_init 4 = .ok (.aload_n 0, 1) := by decide +kernel
theorem dX0_init_5 : decode cX0_init 5 = .ok (.sipush 781, 3) := by decide +kernel
theorem dX0_init_8 : decode cX0_init 8 = .ok (.newarray .int, 2) := by decide +kernel
theorem dX0_init_10 : decode cX0_init 10 = .ok (.putfield 11, 3) := by decide +kernel
theorem dX0_init_13 : decode cX0_init 13 = .ok (.return_, 1) := by decide +kernel
theorem dX0_fileCell_0 : decode cX0_fileCell 0 = .ok (.iload_n 0, 1) := by decide +kernel
theorem dX0_fileCell_1 : decode cX0_fileCell 1 = .ok (.iconst (-1), 1) := by decide +kernel
theorem dX0_fileCell_2 : decode cX0_fileCell 2 = .ok (.ixor, 1) := by decide +kernel
theorem dX0_fileCell_3 : decode cX0_fileCell 3 = .ok (.ireturn, 1) := by decide +kernel
theorem dX0_kindAt_0 : decode cX0_kindAt 0 = .ok (.iload_n 1, 1) := by decide +kernel
theorem dX0_kindAt_1 : decode cX0_kindAt 1 = .ok (.ifCond .lt 12, 3) := by decide +kernel
theorem dX0_kindAt_4 : decode cX0_kindAt 4 = .ok (.iload_n 1, 1) := by decide +kernel
theorem dX0_kindAt_5 : decode cX0_kindAt 5 = .ok (.aload_n 0, 1) := by decide +kernel
theorem dX0_kindAt_6 : decode cX0_kindAt 6 = .ok (.getfield 11, 3) := by decide +kernel
theorem dX0_kindAt_9 : decode cX0_kindAt 9 = .ok (.arraylength, 1) := by decide +kernel
theorem dX0_kindAt_10 : decode cX0_kindAt 10 = .ok (.if_icmp .lt 5, 3) := by decide +kernel
theorem dX0_kindAt_13 : decode cX0_kindAt 13 = .ok (.iconst 0, 1) := by decide +kernel
theorem dX0_kindAt_14 : decode cX0_kindAt 14 = .ok (.ireturn, 1) := by decide +kernel
theorem dX0_kindAt_15 : decode cX0_kindAt 15 = .ok (.aload_n 0, 1) := by decide +kernel
theorem dX0_kindAt_16 : decode cX0_kindAt 16 = .ok (.getfield 11, 3) := by decide +kernel
theorem dX0_kindAt_19 : decode cX0_kindAt 19 = .ok (.iload_n 1, 1) := by decide +kernel
theorem dX0_kindAt_20 : decode cX0_kindAt 20 = .ok (.iaload, 1) := by decide +kernel
theorem dX0_kindAt_21 : decode cX0_kindAt 21 = .ok (.ifCond .ge 7, 3) := by decide +kernel
theorem dX0_kindAt_24 : decode cX0_kindAt 24 = .ok (.iconst 1, 1) := by decide +kernel
theorem dX0_kindAt_25 : decode cX0_kindAt 25 = .ok (.goto 9, 3) := by decide +kernel
theorem dX0_kindAt_28 : decode cX0_kindAt 28 = .ok (.aload_n 0, 1) := by decide +kernel
theorem dX0_kindAt_29 : decode cX0_kindAt 29 = .ok (.getfield 11, 3) := by decide +kernel
theorem dX0_kindAt_32 : decode cX0_kindAt 32 = .ok (.iload_n 1, 1) := by decide +kernel
theorem dX0_kindAt_33 : decode cX0_kindAt 33 = .ok (.iaload, 1) := by decide +kernel
theorem dX0_kindAt_34 : decode cX0_kindAt 34 = .ok (.ireturn, 1) := by decide +kernel
theorem dX0_valueAt_0 : decode cX0_valueAt 0 = .ok (.aload_n 0, 1) := by decide +kernel
theorem dX0_valueAt_1 : decode cX0_valueAt 1 = .ok (.iload_n 1, 1) := by decide +kernel
theorem dX0_valueAt_2 : decode cX0_valueAt 2 = .ok (.invokevirtual 17, 3) := by decide +kernel
theorem dX0_valueAt_5 : decode cX0_valueAt 5 = .ok (.iconst 1, 1) := by decide +kernel
theorem dX0_valueAt_6 : decode cX0_valueAt 6 = .ok (.if_icmp .ne 14, 3) := by decide +kernel
theorem dX0_valueAt_9 : decode cX0_valueAt 9 = .ok (.aload_n 0, 1) := by decide +kernel
theorem dX0_valueAt_10 : decode cX0_valueAt 10 = .ok (.getfield 11, 3) := by decide +kernel
theorem dX0_valueAt_13 : decode cX0_valueAt 13 = .ok (.iload_n 1, 1) := by decide +kernel
theorem dX0_valueAt_14 : decode cX0_valueAt 14 = .ok (.iaload, 1) := by decide +kernel
theorem dX0_valueAt_15 : decode cX0_valueAt 15 = .ok (.iconst (-1), 1) := by decide +kernel
theorem dX0_valueAt_16 : decode cX0_valueAt 16 = .ok (.ixor, 1) := by decide +kernel
theorem dX0_valueAt_17 : decode cX0_valueAt 17 = .ok (.goto 4, 3) := by decide +kernel
theorem dX0_valueAt_20 : decode cX0_valueAt 20 = .ok (.iconst 0, 1) := by decide +kernel
theorem dX0_valueAt_21 : decode cX0_valueAt 21 = .ok (.ireturn, 1) := by decide +kernel
theorem dX0_canHoldIn_0 : decode cX0_canHoldIn 0 = .ok (.iload_n 1, 1) := by decide +kernel
theorem dX0_canHoldIn_1 : decode cX0_canHoldIn 1 = .ok (.ifCond .eq 21, 3) := by decide +kernel
theorem dX0_canHoldIn_4 : decode cX0_canHoldIn 4 = .ok (.aload_n 0, 1) := by decide +kernel
theorem dX0_canHoldIn_5 : decode cX0_canHoldIn 5 = .ok (.iload_n 1, 1) := by decide +kernel
theorem dX0_canHoldIn_6 : decode cX0_canHoldIn 6 = .ok (.invokevirtual 17, 3) := by decide +kernel
theorem dX0_canHoldIn_9 : decode cX0_canHoldIn 9 = .ok (.iconst 2, 1) := by decide +kernel
theorem dX0_canHoldIn_10 : decode cX0_canHoldIn 10 = .ok (.if_icmp .eq 12, 3) := by decide +kernel
theorem dX0_canHoldIn_13 : decode cX0_canHoldIn 13 = .ok (.aload_n 0, 1) := by decide +kernel
theorem dX0_canHoldIn_14 : decode cX0_canHoldIn 14 = .ok (.iload_n 1, 1) := by decide +kernel
theorem dX0_canHoldIn_15 : decode cX0_canHoldIn 15 = .ok (.invokevirtual 17, 3) := by decide +kernel
theorem dX0_canHoldIn_18 : decode cX0_canHoldIn 18 = .ok (.iconst 3, 1) := by decide +kernel
theorem dX0_canHoldIn_19 : decode cX0_canHoldIn 19 = .ok (.if_icmp .ne 7, 3) := by decide +kernel
theorem dX0_canHoldIn_22 : decode cX0_canHoldIn 22 = .ok (.iconst 1, 1) := by decide +kernel
theorem dX0_canHoldIn_23 : decode cX0_canHoldIn 23 = .ok (.goto 4, 3) := by decide +kernel
theorem dX0_canHoldIn_26 : decode cX0_canHoldIn 26 = .ok (.iconst 0, 1) := by decide +kernel
theorem dX0_canHoldIn_27 : decode cX0_canHoldIn 27 = .ok (.ireturn, 1) := by decide +kernel
theorem dX0_entryCount_0 : decode cX0_entryCount 0 = .ok (.aload_n 0, 1) := by decide +kernel
theorem dX0_entryCount_1 : decode cX0_entryCount 1 = .ok (.getfield 21, 3) := by decide +kernel
theorem dX0_entryCount_4 : decode cX0_entryCount 4 = .ok (.ireturn, 1) := by decide +kernel
theorem dX0_whiteoutCount_0 : decode cX0_whiteoutCount 0 = .ok (.aload_n 0, 1) := by decide +kernel
theorem dX0_whiteoutCount_1 : decode cX0_whiteoutCount 1 = .ok (.getfield 25, 3) := by decide +kernel
theorem dX0_whiteoutCount_4 : decode cX0_whiteoutCount 4 = .ok (.ireturn, 1) := by decide +kernel
theorem dX0_set_0 : decode cX0_set 0 = .ok (.iload_n 1, 1) := by decide +kernel
theorem dX0_set_1 : decode cX0_set 1 = .ok (.ifCond .le 12, 3) := by decide +kernel
theorem dX0_set_4 : decode cX0_set 4 = .ok (.iload_n 1, 1) := by decide +kernel
theorem dX0_set_5 : decode cX0_set 5 = .ok (.aload_n 0, 1) := by decide +kernel
theorem dX0_set_6 : decode cX0_set 6 = .ok (.getfield 11, 3) := by decide +kernel
theorem dX0_set_9 : decode cX0_set 9 = .ok (.arraylength, 1) := by decide +kernel
theorem dX0_set_10 : decode cX0_set 10 = .ok (.if_icmp .lt 4, 3) := by decide +kernel
theorem dX0_set_13 : decode cX0_set 13 = .ok (.return_, 1) := by decide +kernel
theorem dX0_set_14 : decode cX0_set 14 = .ok (.aload_n 0, 1) := by decide +kernel
theorem dX0_set_15 : decode cX0_set 15 = .ok (.dup, 1) := by decide +kernel
theorem dX0_set_16 : decode cX0_set 16 = .ok (.getfield 21, 3) := by decide +kernel
theorem dX0_set_19 : decode cX0_set 19 = .ok (.iload_n 2, 1) := by decide +kernel
theorem dX0_set_20 : decode cX0_set 20 = .ok (.ifCond .ne 7, 3) := by decide +kernel
theorem dX0_set_23 : decode cX0_set 23 = .ok (.iconst 0, 1) := by decide +kernel
theorem dX0_set_24 : decode cX0_set 24 = .ok (.goto 4, 3) := by decide +kernel
theorem dX0_set_27 : decode cX0_set 27 = .ok (.iconst 1, 1) := by decide +kernel
theorem dX0_set_28 : decode cX0_set 28 = .ok (.aload_n 0, 1) := by decide +kernel
theorem dX0_set_29 : decode cX0_set 29 = .ok (.getfield 11, 3) := by decide +kernel
theorem dX0_set_32 : decode cX0_set 32 = .ok (.iload_n 1, 1) := by decide +kernel
theorem dX0_set_33 : decode cX0_set 33 = .ok (.iaload, 1) := by decide +kernel
theorem dX0_set_34 : decode cX0_set 34 = .ok (.ifCond .ne 7, 3) := by decide +kernel
theorem dX0_set_37 : decode cX0_set 37 = .ok (.iconst 0, 1) := by decide +kernel
theorem dX0_set_38 : decode cX0_set 38 = .ok (.goto 4, 3) := by decide +kernel
theorem dX0_set_41 : decode cX0_set 41 = .ok (.iconst 1, 1) := by decide +kernel
theorem dX0_set_42 : decode cX0_set 42 = .ok (.isub, 1) := by decide +kernel
theorem dX0_set_43 : decode cX0_set 43 = .ok (.iadd, 1) := by decide +kernel
theorem dX0_set_44 : decode cX0_set 44 = .ok (.putfield 21, 3) := by decide +kernel
theorem dX0_set_47 : decode cX0_set 47 = .ok (.aload_n 0, 1) := by decide +kernel
theorem dX0_set_48 : decode cX0_set 48 = .ok (.dup, 1) := by decide +kernel
theorem dX0_set_49 : decode cX0_set 49 = .ok (.getfield 25, 3) := by decide +kernel
theorem dX0_set_52 : decode cX0_set 52 = .ok (.iload_n 2, 1) := by decide +kernel
theorem dX0_set_53 : decode cX0_set 53 = .ok (.iconst 4, 1) := by decide +kernel
theorem dX0_set_54 : decode cX0_set 54 = .ok (.if_icmp .ne 7, 3) := by decide +kernel
theorem dX0_set_57 : decode cX0_set 57 = .ok (.iconst 1, 1) := by decide +kernel
theorem dX0_set_58 : decode cX0_set 58 = .ok (.goto 4, 3) := by decide +kernel
theorem dX0_set_61 : decode cX0_set 61 = .ok (.iconst 0, 1) := by decide +kernel
theorem dX0_set_62 : decode cX0_set 62 = .ok (.aload_n 0, 1) := by decide +kernel
theorem dX0_set_63 : decode cX0_set 63 = .ok (.getfield 11, 3) := by decide +kernel
theorem dX0_set_66 : decode cX0_set 66 = .ok (.iload_n 1, 1) := by decide +kernel
theorem dX0_set_67 : decode cX0_set 67 = .ok (.iaload, 1) := by decide +kernel
theorem dX0_set_68 : decode cX0_set 68 = .ok (.iconst 4, 1) := by decide +kernel
theorem dX0_set_69 : decode cX0_set 69 = .ok (.if_icmp .ne 7, 3) := by decide +kernel
theorem dX0_set_72 : decode cX0_set 72 = .ok (.iconst 1, 1) := by decide +kernel
theorem dX0_set_73 : decode cX0_set 73 = .ok (.goto 4, 3) := by decide +kernel
theorem dX0_set_76 : decode cX0_set 76 = .ok (.iconst 0, 1) := by decide +kernel
theorem dX0_set_77 : decode cX0_set 77 = .ok (.isub, 1) := by decide +kernel
theorem dX0_set_78 : decode cX0_set 78 = .ok (.iadd, 1) := by decide +kernel
theorem dX0_set_79 : decode cX0_set 79 = .ok (.putfield 25, 3) := by decide +kernel
theorem dX0_set_82 : decode cX0_set 82 = .ok (.aload_n 0, 1) := by decide +kernel
theorem dX0_set_83 : decode cX0_set 83 = .ok (.getfield 11, 3) := by decide +kernel
theorem dX0_set_86 : decode cX0_set 86 = .ok (.iload_n 1, 1) := by decide +kernel
theorem dX0_set_87 : decode cX0_set 87 = .ok (.iload_n 2, 1) := by decide +kernel
theorem dX0_set_88 : decode cX0_set 88 = .ok (.iastore, 1) := by decide +kernel
theorem dX0_set_89 : decode cX0_set 89 = .ok (.return_, 1) := by decide +kernel
theorem dX0_clearFrom_0 : decode cX0_clearFrom 0 = .ok (.iload_n 1, 1) := by decide +kernel
theorem dX0_clearFrom_1 : decode cX0_clearFrom 1 = .ok (.istore_n 2, 1) := by decide +kernel
theorem dX0_clearFrom_2 : decode cX0_clearFrom 2 = .ok (.iload_n 1, 1) := by decide +kernel
theorem dX0_clearFrom_3 : decode cX0_clearFrom 3 = .ok (.istore_n 3, 1) := by decide +kernel
theorem dX0_clearFrom_4 : decode cX0_clearFrom 4 = .ok (.iload_n 1, 1) := by decide +kernel
theorem dX0_clearFrom_5 : decode cX0_clearFrom 5 = .ok (.invokestatic 28, 3) := by decide +kernel
theorem dX0_clearFrom_8 : decode cX0_clearFrom 8 = .ok (.istore 4, 2) := by decide +kernel
theorem dX0_clearFrom_10 : decode cX0_clearFrom 10 = .ok (.iload 4, 2) := by decide +kernel
theorem dX0_clearFrom_12 : decode cX0_clearFrom 12 = .ok (.iconst 4, 1) := by decide +kernel
theorem dX0_clearFrom_13 : decode cX0_clearFrom 13 = .ok (.if_icmp .gt 43, 3) := by decide +kernel
theorem dX0_clearFrom_16 : decode cX0_clearFrom 16 = .ok (.iload_n 2, 1) := by decide +kernel
theorem dX0_clearFrom_17 : decode cX0_clearFrom 17 = .ok (.istore 5, 2) := by decide +kernel
theorem dX0_clearFrom_19 : decode cX0_clearFrom 19 = .ok (.iload 5, 2) := by decide +kernel
theorem dX0_clearFrom_21 : decode cX0_clearFrom 21 = .ok (.iload_n 3, 1) := by decide +kernel
theorem dX0_clearFrom_22 : decode cX0_clearFrom 22 = .ok (.if_icmp .gt 16, 3) := by decide +kernel
theorem dX0_clearFrom_25 : decode cX0_clearFrom 25 = .ok (.aload_n 0, 1) := by decide +kernel
theorem dX0_clearFrom_26 : decode cX0_clearFrom 26 = .ok (.iload 5, 2) := by decide +kernel
theorem dX0_clearFrom_28 : decode cX0_clearFrom 28 = .ok (.iconst 0, 1) := by decide +kernel
theorem dX0_clearFrom_29 : decode cX0_clearFrom 29 = .ok (.invokevirtual 31, 3) := by decide +kernel
theorem dX0_clearFrom_32 : decode cX0_clearFrom 32 = .ok (.iinc 5 1, 3) := by decide +kernel
theorem dX0_clearFrom_35 : decode cX0_clearFrom 35 = .ok (.goto (-16), 3) := by decide +kernel
theorem dX0_clearFrom_38 : decode cX0_clearFrom 38 = .ok (.iload_n 2, 1) := by decide +kernel
theorem dX0_clearFrom_39 : decode cX0_clearFrom 39 = .ok (.iconst 1, 1) := by decide +kernel
theorem dX0_clearFrom_40 : decode cX0_clearFrom 40 = .ok (.invokestatic 35, 3) := by decide +kernel
theorem dX0_clearFrom_43 : decode cX0_clearFrom 43 = .ok (.istore_n 2, 1) := by decide +kernel
theorem dX0_clearFrom_44 : decode cX0_clearFrom 44 = .ok (.iload_n 3, 1) := by decide +kernel
theorem dX0_clearFrom_45 : decode cX0_clearFrom 45 = .ok (.iconst 5, 1) := by decide +kernel
theorem dX0_clearFrom_46 : decode cX0_clearFrom 46 = .ok (.invokestatic 35, 3) := by decide +kernel
theorem dX0_clearFrom_49 : decode cX0_clearFrom 49 = .ok (.istore_n 3, 1) := by decide +kernel
theorem dX0_clearFrom_50 : decode cX0_clearFrom 50 = .ok (.iinc 4 1, 3) := by decide +kernel
theorem dX0_clearFrom_53 : decode cX0_clearFrom 53 = .ok (.goto (-43), 3) := by decide +kernel
theorem dX0_clearFrom_56 : decode cX0_clearFrom 56 = .ok (.return_, 1) := by decide +kernel
theorem dX0_copyFrom_0 : decode cX0_copyFrom 0 = .ok (.aload_n 1, 1) := by decide +kernel
theorem dX0_copyFrom_1 : decode cX0_copyFrom 1 = .ok (.getfield 11, 3) := by decide +kernel
theorem dX0_copyFrom_4 : decode cX0_copyFrom 4 = .ok (.iconst 0, 1) := by decide +kernel
theorem dX0_copyFrom_5 : decode cX0_copyFrom 5 = .ok (.aload_n 0, 1) := by decide +kernel
theorem dX0_copyFrom_6 : decode cX0_copyFrom 6 = .ok (.getfield 11, 3) := by decide +kernel
theorem dX0_copyFrom_9 : decode cX0_copyFrom 9 = .ok (.iconst 0, 1) := by decide +kernel
theorem dX0_copyFrom_10 : decode cX0_copyFrom 10 = .ok (.aload_n 0, 1) := by decide +kernel
theorem dX0_copyFrom_11 : decode cX0_copyFrom 11 = .ok (.getfield 11, 3) := by decide +kernel
theorem dX0_copyFrom_14 : decode cX0_copyFrom 14 = .ok (.arraylength, 1) := by decide +kernel
theorem dX0_copyFrom_15 : decode cX0_copyFrom 15 = .ok (.invokestatic 39, 3) := by decide +kernel
theorem dX0_copyFrom_18 : decode cX0_copyFrom 18 = .ok (.aload_n 0, 1) := by decide +kernel
theorem dX0_copyFrom_19 : decode cX0_copyFrom 19 = .ok (.aload_n 1, 1) := by decide +kernel
theorem dX0_copyFrom_20 : decode cX0_copyFrom 20 = .ok (.getfield 21, 3) := by decide +kernel
theorem dX0_copyFrom_23 : decode cX0_copyFrom 23 = .ok (.putfield 21, 3) := by decide +kernel
theorem dX0_copyFrom_26 : decode cX0_copyFrom 26 = .ok (.aload_n 0, 1) := by decide +kernel
theorem dX0_copyFrom_27 : decode cX0_copyFrom 27 = .ok (.aload_n 1, 1) := by decide +kernel
theorem dX0_copyFrom_28 : decode cX0_copyFrom 28 = .ok (.getfield 25, 3) := by decide +kernel
theorem dX0_copyFrom_31 : decode cX0_copyFrom 31 = .ok (.putfield 25, 3) := by decide +kernel
theorem dX0_copyFrom_34 : decode cX0_copyFrom 34 = .ok (.return_, 1) := by decide +kernel
theorem dX1_ofPath_0 : decode cX1_ofPath 0 = .ok (.iload_n 0, 1) := by decide +kernel
theorem dX1_ofPath_1 : decode cX1_ofPath 1 = .ok (.ifCond .lt 10, 3) := by decide +kernel
theorem dX1_ofPath_4 : decode cX1_ofPath 4 = .ok (.iload_n 0, 1) := by decide +kernel
theorem dX1_ofPath_5 : decode cX1_ofPath 5 = .ok (.sipush 10000, 3) := by decide +kernel
theorem dX1_ofPath_8 : decode cX1_ofPath 8 = .ok (.if_icmp .lt 5, 3) := by decide +kernel
theorem dX1_ofPath_11 : decode cX1_ofPath 11 = .ok (.iconst (-1), 1) := by decide +kernel
theorem dX1_ofPath_12 : decode cX1_ofPath 12 = .ok (.ireturn, 1) := by decide +kernel
theorem dX1_ofPath_13 : decode cX1_ofPath 13 = .ok (.iconst 0, 1) := by decide +kernel
theorem dX1_ofPath_14 : decode cX1_ofPath 14 = .ok (.istore_n 1, 1) := by decide +kernel
theorem dX1_ofPath_15 : decode cX1_ofPath 15 = .ok (.sipush 1000, 3) := by decide +kernel
theorem dX1_ofPath_18 : decode cX1_ofPath 18 = .ok (.istore_n 2, 1) := by decide +kernel
theorem dX1_ofPath_19 : decode cX1_ofPath 19 = .ok (.iload_n 2, 1) := by decide +kernel
theorem dX1_ofPath_20 : decode cX1_ofPath 20 = .ok (.ifCond .le 41, 3) := by decide +kernel
theorem dX1_ofPath_23 : decode cX1_ofPath 23 = .ok (.iload_n 0, 1) := by decide +kernel
theorem dX1_ofPath_24 : decode cX1_ofPath 24 = .ok (.iload_n 2, 1) := by decide +kernel
theorem dX1_ofPath_25 : decode cX1_ofPath 25 = .ok (.if_icmp .lt 28, 3) := by decide +kernel
theorem dX1_ofPath_28 : decode cX1_ofPath 28 = .ok (.iload_n 0, 1) := by decide +kernel
theorem dX1_ofPath_29 : decode cX1_ofPath 29 = .ok (.iload_n 2, 1) := by decide +kernel
theorem dX1_ofPath_30 : decode cX1_ofPath 30 = .ok (.idiv, 1) := by decide +kernel
theorem dX1_ofPath_31 : decode cX1_ofPath 31 = .ok (.bipush 10, 2) := by decide +kernel
theorem dX1_ofPath_33 : decode cX1_ofPath 33 = .ok (.irem, 1) := by decide +kernel
theorem dX1_ofPath_34 : decode cX1_ofPath 34 = .ok (.istore_n 3, 1) := by decide +kernel
theorem dX1_ofPath_35 : decode cX1_ofPath 35 = .ok (.iload_n 3, 1) := by decide +kernel
theorem dX1_ofPath_36 : decode cX1_ofPath 36 = .ok (.iconst 1, 1) := by decide +kernel
theorem dX1_ofPath_37 : decode cX1_ofPath 37 = .ok (.if_icmp .lt 8, 3) := by decide +kernel
theorem dX1_ofPath_40 : decode cX1_ofPath 40 = .ok (.iload_n 3, 1) := by decide +kernel
theorem dX1_ofPath_41 : decode cX1_ofPath 41 = .ok (.iconst 5, 1) := by decide +kernel
theorem dX1_ofPath_42 : decode cX1_ofPath 42 = .ok (.if_icmp .le 5, 3) := by decide +kernel
theorem dX1_ofPath_45 : decode cX1_ofPath 45 = .ok (.iconst (-1), 1) := by decide +kernel
theorem dX1_ofPath_46 : decode cX1_ofPath 46 = .ok (.ireturn, 1) := by decide +kernel
theorem dX1_ofPath_47 : decode cX1_ofPath 47 = .ok (.iload_n 1, 1) := by decide +kernel
theorem dX1_ofPath_48 : decode cX1_ofPath 48 = .ok (.iload_n 3, 1) := by decide +kernel
theorem dX1_ofPath_49 : decode cX1_ofPath 49 = .ok (.invokestatic 9, 3) := by decide +kernel
theorem dX1_ofPath_52 : decode cX1_ofPath 52 = .ok (.istore_n 1, 1) := by decide +kernel
theorem dX1_ofPath_53 : decode cX1_ofPath 53 = .ok (.iload_n 2, 1) := by decide +kernel
theorem dX1_ofPath_54 : decode cX1_ofPath 54 = .ok (.bipush 10, 2) := by decide +kernel
theorem dX1_ofPath_56 : decode cX1_ofPath 56 = .ok (.idiv, 1) := by decide +kernel
theorem dX1_ofPath_57 : decode cX1_ofPath 57 = .ok (.istore_n 2, 1) := by decide +kernel
theorem dX1_ofPath_58 : decode cX1_ofPath 58 = .ok (.goto (-39), 3) := by decide +kernel
theorem dX1_ofPath_61 : decode cX1_ofPath 61 = .ok (.iload_n 1, 1) := by decide +kernel
theorem dX1_ofPath_62 : decode cX1_ofPath 62 = .ok (.ireturn, 1) := by decide +kernel
theorem dX1_depth_0 : decode cX1_depth 0 = .ok (.iconst 4, 1) := by decide +kernel
theorem dX1_depth_1 : decode cX1_depth 1 = .ok (.istore_n 1, 1) := by decide +kernel
theorem dX1_depth_2 : decode cX1_depth 2 = .ok (.iload_n 1, 1) := by decide +kernel
theorem dX1_depth_3 : decode cX1_depth 3 = .ok (.ifCond .le 18, 3) := by decide +kernel
theorem dX1_depth_6 : decode cX1_depth 6 = .ok (.iload_n 0, 1) := by decide +kernel
theorem dX1_depth_7 : decode cX1_depth 7 = .ok (.getstatic 13, 3) := by decide +kernel
theorem dX1_depth_10 : decode cX1_depth 10 = .ok (.iload_n 1, 1) := by decide +kernel
theorem dX1_depth_11 : decode cX1_depth 11 = .ok (.iaload, 1) := by decide +kernel
theorem dX1_depth_12 : decode cX1_depth 12 = .ok (.if_icmp .ge 9, 3) := by decide +kernel
theorem dX1_depth_15 : decode cX1_depth 15 = .ok (.iinc 1 (-1), 3) := by decide +kernel
theorem dX1_depth_18 : decode cX1_depth 18 = .ok (.goto (-16), 3) := by decide +kernel
theorem dX1_depth_21 : decode cX1_depth 21 = .ok (.iload_n 1, 1) := by decide +kernel
theorem dX1_depth_22 : decode cX1_depth 22 = .ok (.ireturn, 1) := by decide +kernel
theorem dX1_child_0 : decode cX1_child 0 = .ok (.iload_n 0, 1) := by decide +kernel
theorem dX1_child_1 : decode cX1_child 1 = .ok (.iconst 5, 1) := by decide +kernel
theorem dX1_child_2 : decode cX1_child 2 = .ok (.imul, 1) := by decide +kernel
theorem dX1_child_3 : decode cX1_child 3 = .ok (.iload_n 1, 1) := by decide +kernel
theorem dX1_child_4 : decode cX1_child 4 = .ok (.iadd, 1) := by decide +kernel
theorem dX1_child_5 : decode cX1_child 5 = .ok (.ireturn, 1) := by decide +kernel
theorem dX1_parent_0 : decode cX1_parent 0 = .ok (.iload_n 0, 1) := by decide +kernel
theorem dX1_parent_1 : decode cX1_parent 1 = .ok (.iconst 1, 1) := by decide +kernel
theorem dX1_parent_2 : decode cX1_parent 2 = .ok (.invokestatic 17, 3) := by decide +kernel
theorem dX1_parent_5 : decode cX1_parent 5 = .ok (.ireturn, 1) := by decide +kernel
theorem dX1_above_0 : decode cX1_above 0 = .ok (.iload_n 0, 1) := by decide +kernel
theorem dX1_above_1 : decode cX1_above 1 = .ok (.getstatic 13, 3) := by decide +kernel
theorem dX1_above_4 : decode cX1_above 4 = .ok (.iload_n 1, 1) := by decide +kernel
theorem dX1_above_5 : decode cX1_above 5 = .ok (.iaload, 1) := by decide +kernel
theorem dX1_above_6 : decode cX1_above 6 = .ok (.isub, 1) := by decide +kernel
theorem dX1_above_7 : decode cX1_above 7 = .ok (.getstatic 20, 3) := by decide +kernel
theorem dX1_above_10 : decode cX1_above 10 = .ok (.iload_n 1, 1) := by decide +kernel
theorem dX1_above_11 : decode cX1_above 11 = .ok (.iaload, 1) := by decide +kernel
theorem dX1_above_12 : decode cX1_above 12 = .ok (.idiv, 1) := by decide +kernel
theorem dX1_above_13 : decode cX1_above 13 = .ok (.ireturn, 1) := by decide +kernel
theorem dX1_below_0 : decode cX1_below 0 = .ok (.iload_n 0, 1) := by decide +kernel
theorem dX1_below_1 : decode cX1_below 1 = .ok (.getstatic 20, 3) := by decide +kernel
theorem dX1_below_4 : decode cX1_below 4 = .ok (.iload_n 1, 1) := by decide +kernel
theorem dX1_below_5 : decode cX1_below 5 = .ok (.invokestatic 23, 3) := by decide +kernel
theorem dX1_below_8 : decode cX1_below 8 = .ok (.iaload, 1) := by decide +kernel
theorem dX1_below_9 : decode cX1_below 9 = .ok (.imul, 1) := by decide +kernel
theorem dX1_below_10 : decode cX1_below 10 = .ok (.iload_n 1, 1) := by decide +kernel
theorem dX1_below_11 : decode cX1_below 11 = .ok (.iadd, 1) := by decide +kernel
theorem dX1_below_12 : decode cX1_below 12 = .ok (.ireturn, 1) := by decide +kernel
theorem dX1_isBelow_0 : decode cX1_isBelow 0 = .ok (.iload_n 0, 1) := by decide +kernel
theorem dX1_isBelow_1 : decode cX1_isBelow 1 = .ok (.invokestatic 23, 3) := by decide +kernel
theorem dX1_isBelow_4 : decode cX1_isBelow 4 = .ok (.iload_n 1, 1) := by decide +kernel
theorem dX1_isBelow_5 : decode cX1_isBelow 5 = .ok (.invokestatic 23, 3) := by decide +kernel
theorem dX1_isBelow_8 : decode cX1_isBelow 8 = .ok (.isub, 1) := by decide +kernel
theorem dX1_isBelow_9 : decode cX1_isBelow 9 = .ok (.istore_n 2, 1) := by decide +kernel
theorem dX1_isBelow_10 : decode cX1_isBelow 10 = .ok (.iload_n 2, 1) := by decide +kernel
theorem dX1_isBelow_11 : decode cX1_isBelow 11 = .ok (.ifCond .le 16, 3) := by decide +kernel
theorem dX1_isBelow_14 : decode cX1_isBelow 14 = .ok (.iload_n 0, 1) := by decide +kernel
theorem dX1_isBelow_15 : decode cX1_isBelow 15 = .ok (.iload_n 2, 1) := by decide +kernel
theorem dX1_isBelow_16 : decode cX1_isBelow 16 = .ok (.invokestatic 17, 3) := by decide +kernel
theorem dX1_isBelow_19 : decode cX1_isBelow 19 = .ok (.iload_n 1, 1) := by decide +kernel
theorem dX1_isBelow_20 : decode cX1_isBelow 20 = .ok (.if_icmp .ne 7, 3) := by decide +kernel
theorem dX1_isBelow_23 : decode cX1_isBelow 23 = .ok (.iconst 1, 1) := by decide +kernel
theorem dX1_isBelow_24 : decode cX1_isBelow 24 = .ok (.goto 4, 3) := by decide +kernel
theorem dX1_isBelow_27 : decode cX1_isBelow 27 = .ok (.iconst 0, 1) := by decide +kernel
theorem dX1_isBelow_28 : decode cX1_isBelow 28 = .ok (.ireturn, 1) := by decide +kernel
