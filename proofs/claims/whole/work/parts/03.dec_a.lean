-- decode rows (made by wip/whole/gen/names.py)
theorem dX0_run_0 : decode cX0_run 0 = .ok (.aload_n 0, 1) := by decide +kernel
theorem dX0_run_1 : decode cX0_run 1 = .ok (.getfield 9, 3) := by decide +kernel
theorem dX0_run_4 : decode cX0_run 4 = .ok (.invokestatic 15, 3) := by decide +kernel
theorem dX0_run_7 : decode cX0_run 7 = .ok (.istore 4, 2) := by decide +kernel
theorem dX0_run_9 : decode cX0_run 9 = .ok (.iconst 0, 1) := by decide +kernel
theorem dX0_run_10 : decode cX0_run 10 = .ok (.istore 5, 2) := by decide +kernel
theorem dX0_run_12 : decode cX0_run 12 = .ok (.iload 5, 2) := by decide +kernel
theorem dX0_run_14 : decode cX0_run 14 = .ok (.iload_n 2, 1) := by decide +kernel
theorem dX0_run_15 : decode cX0_run 15 = .ok (.if_icmp .ge 64, 3) := by decide +kernel
theorem dX0_run_18 : decode cX0_run 18 = .ok (.iload_n 3, 1) := by decide +kernel
theorem dX0_run_19 : decode cX0_run 19 = .ok (.ifCond .eq 18, 3) := by decide +kernel
theorem dX0_run_22 : decode cX0_run 22 = .ok (.aload_n 0, 1) := by decide +kernel
theorem dX0_run_23 : decode cX0_run 23 = .ok (.aload_n 0, 1) := by decide +kernel
theorem dX0_run_24 : decode cX0_run 24 = .ok (.getfield 21, 3) := by decide +kernel
theorem dX0_run_27 : decode cX0_run 27 = .ok (.invokevirtual 24, 3) := by decide +kernel
theorem dX0_run_30 : decode cX0_run 30 = .ok (.ifCond .ne 7, 3) := by decide +kernel
theorem dX0_run_33 : decode cX0_run 33 = .ok (.aload_n 0, 1) := by decide +kernel
theorem dX0_run_34 : decode cX0_run 34 = .ok (.invokevirtual 27, 3) := by decide +kernel
theorem dX0_run_37 : decode cX0_run 37 = .ok (.aload_n 0, 1) := by decide +kernel
theorem dX0_run_38 : decode cX0_run 38 = .ok (.aload_n 1, 1) := by decide +kernel
theorem dX0_run_39 : decode cX0_run 39 = .ok (.invokestatic 30, 3) := by decide +kernel
theorem dX0_run_42 : decode cX0_run 42 = .ok (.aload_n 0, 1) := by decide +kernel
theorem dX0_run_43 : decode cX0_run 43 = .ok (.invokestatic 36, 3) := by decide +kernel
theorem dX0_run_46 : decode cX0_run 46 = .ok (.aload_n 0, 1) := by decide +kernel
theorem dX0_run_47 : decode cX0_run 47 = .ok (.getfield 21, 3) := by decide +kernel
theorem dX0_run_50 : decode cX0_run 50 = .ok (.istore 6, 2) := by decide +kernel
theorem dX0_run_52 : decode cX0_run 52 = .ok (.aload_n 0, 1) := by decide +kernel
theorem dX0_run_53 : decode cX0_run 53 = .ok (.sipush 9999, 3) := by decide +kernel
theorem dX0_run_56 : decode cX0_run 56 = .ok (.iload 6, 2) := by decide +kernel
theorem dX0_run_58 : decode cX0_run 58 = .ok (.iconst 1, 1) := by decide +kernel
theorem dX0_run_59 : decode cX0_run 59 = .ok (.iadd, 1) := by decide +kernel
theorem dX0_run_60 : decode cX0_run 60 = .ok (.invokestatic 40, 3) := by decide +kernel
theorem dX0_run_63 : decode cX0_run 63 = .ok (.putfield 21, 3) := by decide +kernel
theorem dX0_run_66 : decode cX0_run 66 = .ok (.aload_n 0, 1) := by decide +kernel
theorem dX0_run_67 : decode cX0_run 67 = .ok (.aload_n 1, 1) := by decide +kernel
theorem dX0_run_68 : decode cX0_run 68 = .ok (.iload 6, 2) := by decide +kernel
theorem dX0_run_70 : decode cX0_run 70 = .ok (.invokestatic 46, 3) := by decide +kernel
theorem dX0_run_73 : decode cX0_run 73 = .ok (.iinc 5 1, 3) := by decide +kernel
theorem dX0_run_76 : decode cX0_run 76 = .ok (.goto (-64), 3) := by decide +kernel
theorem dX0_run_79 : decode cX0_run 79 = .ok (.aload_n 0, 1) := by decide +kernel
theorem dX0_run_80 : decode cX0_run 80 = .ok (.getfield 9, 3) := by decide +kernel
theorem dX0_run_83 : decode cX0_run 83 = .ok (.invokestatic 15, 3) := by decide +kernel
theorem dX0_run_86 : decode cX0_run 86 = .ok (.iload 4, 2) := by decide +kernel
theorem dX0_run_88 : decode cX0_run 88 = .ok (.isub, 1) := by decide +kernel
theorem dX0_run_89 : decode cX0_run 89 = .ok (.ireturn, 1) := by decide +kernel
theorem dX0_walkAll_0 : decode cX0_walkAll 0 = .ok (.aload_n 0, 1) := by decide +kernel
theorem dX0_walkAll_1 : decode cX0_walkAll 1 = .ok (.aload_n 0, 1) := by decide +kernel
theorem dX0_walkAll_2 : decode cX0_walkAll 2 = .ok (.getfield 21, 3) := by decide +kernel
theorem dX0_walkAll_5 : decode cX0_walkAll 5 = .ok (.invokevirtual 50, 3) := by decide +kernel
theorem dX0_walkAll_8 : decode cX0_walkAll 8 = .ok (.istore_n 2, 1) := by decide +kernel
theorem dX0_walkAll_9 : decode cX0_walkAll 9 = .ok (.iconst 0, 1) := by decide +kernel
theorem dX0_walkAll_10 : decode cX0_walkAll 10 = .ok (.istore_n 3, 1) := by decide +kernel
theorem dX0_walkAll_11 : decode cX0_walkAll 11 = .ok (.iload_n 3, 1) := by decide +kernel
theorem dX0_walkAll_12 : decode cX0_walkAll 12 = .ok (.aload_n 0, 1) := by decide +kernel
theorem dX0_walkAll_13 : decode cX0_walkAll 13 = .ok (.getfield 53, 3) := by decide +kernel
theorem dX0_walkAll_16 : decode cX0_walkAll 16 = .ok (.if_icmp .ge 69, 3) := by decide +kernel
theorem dX0_walkAll_19 : decode cX0_walkAll 19 = .ok (.aload_n 0, 1) := by decide +kernel
theorem dX0_walkAll_20 : decode cX0_walkAll 20 = .ok (.iload_n 3, 1) := by decide +kernel
theorem dX0_walkAll_21 : decode cX0_walkAll 21 = .ok (.invokevirtual 56, 3) := by decide +kernel
theorem dX0_walkAll_24 : decode cX0_walkAll 24 = .ok (.ifCond .ne 55, 3) := by decide +kernel
theorem dX0_walkAll_27 : decode cX0_walkAll 27 = .ok (.aload_n 1, 1) := by decide +kernel
theorem dX0_walkAll_28 : decode cX0_walkAll 28 = .ok (.aload_n 0, 1) := by decide +kernel
theorem dX0_walkAll_29 : decode cX0_walkAll 29 = .ok (.iload_n 3, 1) := by decide +kernel
theorem dX0_walkAll_30 : decode cX0_walkAll 30 = .ok (.iload_n 2, 1) := by decide +kernel
theorem dX0_walkAll_31 : decode cX0_walkAll 31 = .ok (.invokevirtual 60, 3) := by decide +kernel
theorem dX0_walkAll_34 : decode cX0_walkAll 34 = .ok (.ifCond .ne 16, 3) := by decide +kernel
theorem dX0_walkAll_37 : decode cX0_walkAll 37 = .ok (.aload_n 0, 1) := by decide +kernel
theorem dX0_walkAll_38 : decode cX0_walkAll 38 = .ok (.iload_n 3, 1) := by decide +kernel
theorem dX0_walkAll_39 : decode cX0_walkAll 39 = .ok (.aload_n 1, 1) := by decide +kernel
theorem dX0_walkAll_40 : decode cX0_walkAll 40 = .ok (.aload_n 0, 1) := by decide +kernel
theorem dX0_walkAll_41 : decode cX0_walkAll 41 = .ok (.iload_n 3, 1) := by decide +kernel
theorem dX0_walkAll_42 : decode cX0_walkAll 42 = .ok (.iload_n 2, 1) := by decide +kernel
theorem dX0_walkAll_43 : decode cX0_walkAll 43 = .ok (.invokevirtual 66, 3) := by decide +kernel
theorem dX0_walkAll_46 : decode cX0_walkAll 46 = .ok (.iload_n 2, 1) := by decide +kernel
theorem dX0_walkAll_47 : decode cX0_walkAll 47 = .ok (.invokestatic 70, 3) := by decide +kernel
theorem dX0_walkAll_50 : decode cX0_walkAll 50 = .ok (.aload_n 0, 1) := by decide +kernel
theorem dX0_walkAll_51 : decode cX0_walkAll 51 = .ok (.iload_n 3, 1) := by decide +kernel
theorem dX0_walkAll_52 : decode cX0_walkAll 52 = .ok (.iconst 3, 1) := by decide +kernel
theorem dX0_walkAll_53 : decode cX0_walkAll 53 = .ok (.invokevirtual 74, 3) := by decide +kernel
theorem dX0_walkAll_56 : decode cX0_walkAll 56 = .ok (.aload_n 1, 1) := by decide +kernel
theorem dX0_walkAll_57 : decode cX0_walkAll 57 = .ok (.aload_n 0, 1) := by decide +kernel
theorem dX0_walkAll_58 : decode cX0_walkAll 58 = .ok (.iload_n 3, 1) := by decide +kernel
theorem dX0_walkAll_59 : decode cX0_walkAll 59 = .ok (.iload_n 2, 1) := by decide +kernel
theorem dX0_walkAll_60 : decode cX0_walkAll 60 = .ok (.invokevirtual 77, 3) := by decide +kernel
theorem dX0_walkAll_63 : decode cX0_walkAll 63 = .ok (.iadd, 1) := by decide +kernel
theorem dX0_walkAll_64 : decode cX0_walkAll 64 = .ok (.istore 4, 2) := by decide +kernel
theorem dX0_walkAll_66 : decode cX0_walkAll 66 = .ok (.aload_n 0, 1) := by decide +kernel
theorem dX0_walkAll_67 : decode cX0_walkAll 67 = .ok (.iload_n 3, 1) := by decide +kernel
theorem dX0_walkAll_68 : decode cX0_walkAll 68 = .ok (.iconst 3, 1) := by decide +kernel
theorem dX0_walkAll_69 : decode cX0_walkAll 69 = .ok (.bipush 9, 2) := by decide +kernel
theorem dX0_walkAll_71 : decode cX0_walkAll 71 = .ok (.iload 4, 2) := by decide +kernel
theorem dX0_walkAll_73 : decode cX0_walkAll 73 = .ok (.invokestatic 40, 3) := by decide +kernel
theorem dX0_walkAll_76 : decode cX0_walkAll 76 = .ok (.invokevirtual 80, 3) := by decide +kernel
theorem dX0_walkAll_79 : decode cX0_walkAll 79 = .ok (.iinc 3 1, 3) := by decide +kernel
theorem dX0_walkAll_82 : decode cX0_walkAll 82 = .ok (.goto (-71), 3) := by decide +kernel
theorem dX0_walkAll_85 : decode cX0_walkAll 85 = .ok (.return_, 1) := by decide +kernel
theorem dX0_walk_0 : decode cX0_walk 0 = .ok (.aload_n 0, 1) := by decide +kernel
theorem dX0_walk_1 : decode cX0_walk 1 = .ok (.iload_n 1, 1) := by decide +kernel
theorem dX0_walk_2 : decode cX0_walk 2 = .ok (.iconst 0, 1) := by decide +kernel
theorem dX0_walk_3 : decode cX0_walk 3 = .ok (.invokevirtual 74, 3) := by decide +kernel
theorem dX0_walk_6 : decode cX0_walk 6 = .ok (.istore 4, 2) := by decide +kernel
theorem dX0_walk_8 : decode cX0_walk 8 = .ok (.aload_n 0, 1) := by decide +kernel
theorem dX0_walk_9 : decode cX0_walk 9 = .ok (.iload_n 1, 1) := by decide +kernel
theorem dX0_walk_10 : decode cX0_walk 10 = .ok (.iconst 1, 1) := by decide +kernel
theorem dX0_walk_11 : decode cX0_walk 11 = .ok (.invokevirtual 74, 3) := by decide +kernel
theorem dX0_walk_14 : decode cX0_walk 14 = .ok (.istore 5, 2) := by decide +kernel
theorem dX0_walk_16 : decode cX0_walk 16 = .ok (.aload_n 0, 1) := by decide +kernel
theorem dX0_walk_17 : decode cX0_walk 17 = .ok (.iload_n 1, 1) := by decide +kernel
theorem dX0_walk_18 : decode cX0_walk 18 = .ok (.iconst 2, 1) := by decide +kernel
theorem dX0_walk_19 : decode cX0_walk 19 = .ok (.invokevirtual 74, 3) := by decide +kernel
theorem dX0_walk_22 : decode cX0_walk 22 = .ok (.istore 6, 2) := by decide +kernel
theorem dX0_walk_24 : decode cX0_walk 24 = .ok (.iconst 0, 1) := by decide +kernel
theorem dX0_walk_25 : decode cX0_walk 25 = .ok (.istore 7, 2) := by decide +kernel
theorem dX0_walk_27 : decode cX0_walk 27 = .ok (.iload 7, 2) := by decide +kernel
theorem dX0_walk_29 : decode cX0_walk 29 = .ok (.iload 6, 2) := by decide +kernel
theorem dX0_walk_31 : decode cX0_walk 31 = .ok (.if_icmp .ge 54, 3) := by decide +kernel
theorem dX0_walk_34 : decode cX0_walk 34 = .ok (.iload 4, 2) := by decide +kernel
theorem dX0_walk_36 : decode cX0_walk 36 = .ok (.iload 5, 2) := by decide +kernel
theorem dX0_walk_38 : decode cX0_walk 38 = .ok (.if_icmp .eq 47, 3) := by decide +kernel
theorem dX0_walk_41 : decode cX0_walk 41 = .ok (.iload 4, 2) := by decide +kernel
theorem dX0_walk_43 : decode cX0_walk 43 = .ok (.iload 5, 2) := by decide +kernel
theorem dX0_walk_45 : decode cX0_walk 45 = .ok (.if_icmp .ge 10, 3) := by decide +kernel
theorem dX0_walk_48 : decode cX0_walk 48 = .ok (.iload 4, 2) := by decide +kernel
theorem dX0_walk_50 : decode cX0_walk 50 = .ok (.iconst 1, 1) := by decide +kernel
theorem dX0_walk_51 : decode cX0_walk 51 = .ok (.iadd, 1) := by decide +kernel
theorem dX0_walk_52 : decode cX0_walk 52 = .ok (.goto 7, 3) := by decide +kernel
theorem dX0_walk_55 : decode cX0_walk 55 = .ok (.iload 4, 2) := by decide +kernel
theorem dX0_walk_57 : decode cX0_walk 57 = .ok (.iconst 1, 1) := by decide +kernel
theorem dX0_walk_58 : decode cX0_walk 58 = .ok (.isub, 1) := by decide +kernel
theorem dX0_walk_59 : decode cX0_walk 59 = .ok (.istore 8, 2) := by decide +kernel
theorem dX0_walk_61 : decode cX0_walk 61 = .ok (.aload_n 0, 1) := by decide +kernel
theorem dX0_walk_62 : decode cX0_walk 62 = .ok (.iload_n 3, 1) := by decide +kernel
theorem dX0_walk_63 : decode cX0_walk 63 = .ok (.iload 8, 2) := by decide +kernel
theorem dX0_walk_65 : decode cX0_walk 65 = .ok (.invokevirtual 84, 3) := by decide +kernel
theorem dX0_walk_68 : decode cX0_walk 68 = .ok (.iload_n 2, 1) := by decide +kernel
theorem dX0_walk_69 : decode cX0_walk 69 = .ok (.if_icmp .le 6, 3) := by decide +kernel
theorem dX0_walk_72 : decode cX0_walk 72 = .ok (.goto 13, 3) := by decide +kernel
theorem dX0_walk_75 : decode cX0_walk 75 = .ok (.iload 8, 2) := by decide +kernel
theorem dX0_walk_77 : decode cX0_walk 77 = .ok (.istore 4, 2) := by decide +kernel
theorem dX0_walk_79 : decode cX0_walk 79 = .ok (.iinc 7 1, 3) := by decide +kernel
theorem dX0_walk_82 : decode cX0_walk 82 = .ok (.goto (-55), 3) := by decide +kernel
theorem dX0_walk_85 : decode cX0_walk 85 = .ok (.aload_n 0, 1) := by decide +kernel
theorem dX0_walk_86 : decode cX0_walk 86 = .ok (.iload_n 1, 1) := by decide +kernel
theorem dX0_walk_87 : decode cX0_walk 87 = .ok (.iconst 0, 1) := by decide +kernel
theorem dX0_walk_88 : decode cX0_walk 88 = .ok (.iload 4, 2) := by decide +kernel
theorem dX0_walk_90 : decode cX0_walk 90 = .ok (.invokevirtual 80, 3) := by decide +kernel
theorem dX0_walk_93 : decode cX0_walk 93 = .ok (.return_, 1) := by decide +kernel
theorem dX0_keepAll_0 : decode cX0_keepAll 0 = .ok (.iconst 0, 1) := by decide +kernel
theorem dX0_keepAll_1 : decode cX0_keepAll 1 = .ok (.istore_n 1, 1) := by decide +kernel
theorem dX0_keepAll_2 : decode cX0_keepAll 2 = .ok (.iconst 0, 1) := by decide +kernel
theorem dX0_keepAll_3 : decode cX0_keepAll 3 = .ok (.istore_n 2, 1) := by decide +kernel
theorem dX0_keepAll_4 : decode cX0_keepAll 4 = .ok (.iload_n 2, 1) := by decide +kernel
theorem dX0_keepAll_5 : decode cX0_keepAll 5 = .ok (.aload_n 0, 1) := by decide +kernel
theorem dX0_keepAll_6 : decode cX0_keepAll 6 = .ok (.getfield 53, 3) := by decide +kernel
theorem dX0_keepAll_9 : decode cX0_keepAll 9 = .ok (.if_icmp .ge 28, 3) := by decide +kernel
theorem dX0_keepAll_12 : decode cX0_keepAll 12 = .ok (.aload_n 0, 1) := by decide +kernel
theorem dX0_keepAll_13 : decode cX0_keepAll 13 = .ok (.iload_n 2, 1) := by decide +kernel
theorem dX0_keepAll_14 : decode cX0_keepAll 14 = .ok (.invokevirtual 56, 3) := by decide +kernel
theorem dX0_keepAll_17 : decode cX0_keepAll 17 = .ok (.ifCond .ne 14, 3) := by decide +kernel
theorem dX0_keepAll_20 : decode cX0_keepAll 20 = .ok (.iload_n 1, 1) := by decide +kernel
theorem dX0_keepAll_21 : decode cX0_keepAll 21 = .ok (.iconst 1, 1) := by decide +kernel
theorem dX0_keepAll_22 : decode cX0_keepAll 22 = .ok (.aload_n 0, 1) := by decide +kernel
theorem dX0_keepAll_23 : decode cX0_keepAll 23 = .ok (.iload_n 2, 1) := by decide +kernel
theorem dX0_keepAll_24 : decode cX0_keepAll 24 = .ok (.iconst 0, 1) := by decide +kernel
theorem dX0_keepAll_25 : decode cX0_keepAll 25 = .ok (.invokevirtual 74, 3) := by decide +kernel
theorem dX0_keepAll_28 : decode cX0_keepAll 28 = .ok (.ishl, 1) := by decide +kernel
theorem dX0_keepAll_29 : decode cX0_keepAll 29 = .ok (.ior, 1) := by decide +kernel
theorem dX0_keepAll_30 : decode cX0_keepAll 30 = .ok (.istore_n 1, 1) := by decide +kernel
theorem dX0_keepAll_31 : decode cX0_keepAll 31 = .ok (.iinc 2 1, 3) := by decide +kernel
theorem dX0_keepAll_34 : decode cX0_keepAll 34 = .ok (.goto (-30), 3) := by decide +kernel
theorem dX0_keepAll_37 : decode cX0_keepAll 37 = .ok (.iconst 0, 1) := by decide +kernel
theorem dX0_keepAll_38 : decode cX0_keepAll 38 = .ok (.istore_n 2, 1) := by decide +kernel
theorem dX0_keepAll_39 : decode cX0_keepAll 39 = .ok (.iload_n 2, 1) := by decide +kernel
theorem dX0_keepAll_40 : decode cX0_keepAll 40 = .ok (.aload_n 0, 1) := by decide +kernel
theorem dX0_keepAll_41 : decode cX0_keepAll 41 = .ok (.getfield 87, 3) := by decide +kernel
theorem dX0_keepAll_44 : decode cX0_keepAll 44 = .ok (.if_icmp .ge 93, 3) := by decide +kernel
theorem dX0_keepAll_47 : decode cX0_keepAll 47 = .ok (.aload_n 0, 1) := by decide +kernel
theorem dX0_keepAll_48 : decode cX0_keepAll 48 = .ok (.iload_n 2, 1) := by decide +kernel
theorem dX0_keepAll_49 : decode cX0_keepAll 49 = .ok (.iconst 0, 1) := by decide +kernel
theorem dX0_keepAll_50 : decode cX0_keepAll 50 = .ok (.invokevirtual 90, 3) := by decide +kernel
theorem dX0_keepAll_53 : decode cX0_keepAll 53 = .ok (.istore_n 3, 1) := by decide +kernel
theorem dX0_keepAll_54 : decode cX0_keepAll 54 = .ok (.aload_n 0, 1) := by decide +kernel
theorem dX0_keepAll_55 : decode cX0_keepAll 55 = .ok (.getfield 21, 3) := by decide +kernel
theorem dX0_keepAll_58 : decode cX0_keepAll 58 = .ok (.aload_n 0, 1) := by decide +kernel
theorem dX0_keepAll_59 : decode cX0_keepAll 59 = .ok (.iload_n 2, 1) := by decide +kernel
theorem dX0_keepAll_60 : decode cX0_keepAll 60 = .ok (.iconst 1, 1) := by decide +kernel
theorem dX0_keepAll_61 : decode cX0_keepAll 61 = .ok (.invokevirtual 90, 3) := by decide +kernel
theorem dX0_keepAll_64 : decode cX0_keepAll 64 = .ok (.if_icmp .lt 20, 3) := by decide +kernel
theorem dX0_keepAll_67 : decode cX0_keepAll 67 = .ok (.aload_n 0, 1) := by decide +kernel
theorem dX0_keepAll_68 : decode cX0_keepAll 68 = .ok (.getfield 21, 3) := by decide +kernel
theorem dX0_keepAll_71 : decode cX0_keepAll 71 = .ok (.aload_n 0, 1) := by decide +kernel
theorem dX0_keepAll_72 : decode cX0_keepAll 72 = .ok (.iload_n 2, 1) := by decide +kernel
theorem dX0_keepAll_73 : decode cX0_keepAll 73 = .ok (.iconst 2, 1) := by decide +kernel
theorem dX0_keepAll_74 : decode cX0_keepAll 74 = .ok (.invokevirtual 90, 3) := by decide +kernel
theorem dX0_keepAll_77 : decode cX0_keepAll 77 = .ok (.if_icmp .gt 7, 3) := by decide +kernel
theorem dX0_keepAll_80 : decode cX0_keepAll 80 = .ok (.iconst 1, 1) := by decide +kernel
theorem dX0_keepAll_81 : decode cX0_keepAll 81 = .ok (.goto 4, 3) := by decide +kernel
theorem dX0_keepAll_84 : decode cX0_keepAll 84 = .ok (.iconst 0, 1) := by decide +kernel
theorem dX0_keepAll_85 : decode cX0_keepAll 85 = .ok (.istore 4, 2) := by decide +kernel
theorem dX0_keepAll_87 : decode cX0_keepAll 87 = .ok (.iload 4, 2) := by decide +kernel
theorem dX0_keepAll_89 : decode cX0_keepAll 89 = .ok (.ifCond .eq 42, 3) := by decide +kernel
theorem dX0_keepAll_92 : decode cX0_keepAll 92 = .ok (.aload_n 0, 1) := by decide +kernel
theorem dX0_keepAll_93 : decode cX0_keepAll 93 = .ok (.iload_n 2, 1) := by decide +kernel
theorem dX0_keepAll_94 : decode cX0_keepAll 94 = .ok (.invokevirtual 93, 3) := by decide +kernel
theorem dX0_keepAll_97 : decode cX0_keepAll 97 = .ok (.ifCond .ne 34, 3) := by decide +kernel
theorem dX0_keepAll_100 : decode cX0_keepAll 100 = .ok (.iload_n 1, 1) := by decide +kernel
theorem dX0_keepAll_101 : decode cX0_keepAll 101 = .ok (.iload_n 3, 1) := by decide +kernel
theorem dX0_keepAll_102 : decode cX0_keepAll 102 = .ok (.invokestatic 96, 3) := by decide +kernel
theorem dX0_keepAll_105 : decode cX0_keepAll 105 = .ok (.ifCond .eq 26, 3) := by decide +kernel
theorem dX0_keepAll_108 : decode cX0_keepAll 108 = .ok (.aload_n 0, 1) := by decide +kernel
theorem dX0_keepAll_109 : decode cX0_keepAll 109 = .ok (.dup, 1) := by decide +kernel
theorem dX0_keepAll_110 : decode cX0_keepAll 110 = .ok (.getfield 9, 3) := by decide +kernel
theorem dX0_keepAll_113 : decode cX0_keepAll 113 = .ok (.iconst 1, 1) := by decide +kernel
theorem dX0_keepAll_114 : decode cX0_keepAll 114 = .ok (.iload_n 2, 1) := by decide +kernel
theorem dX0_keepAll_115 : decode cX0_keepAll 115 = .ok (.ishl, 1) := by decide +kernel
theorem dX0_keepAll_116 : decode cX0_keepAll 116 = .ok (.ior, 1) := by decide +kernel
theorem dX0_keepAll_117 : decode cX0_keepAll 117 = .ok (.putfield 9, 3) := by decide +kernel
theorem dX0_keepAll_120 : decode cX0_keepAll 120 = .ok (.aload_n 0, 1) := by decide +kernel
theorem dX0_keepAll_121 : decode cX0_keepAll 121 = .ok (.aload_n 0, 1) := by decide +kernel
theorem dX0_keepAll_122 : decode cX0_keepAll 122 = .ok (.getfield 21, 3) := by decide +kernel
theorem dX0_keepAll_125 : decode cX0_keepAll 125 = .ok (.iload_n 2, 1) := by decide +kernel
theorem dX0_keepAll_126 : decode cX0_keepAll 126 = .ok (.iconst 0, 1) := by decide +kernel
theorem dX0_keepAll_127 : decode cX0_keepAll 127 = .ok (.iload_n 3, 1) := by decide +kernel
theorem dX0_keepAll_128 : decode cX0_keepAll 128 = .ok (.invokevirtual 100, 3) := by decide +kernel
theorem dX0_keepAll_131 : decode cX0_keepAll 131 = .ok (.iinc 2 1, 3) := by decide +kernel
theorem dX0_keepAll_134 : decode cX0_keepAll 134 = .ok (.goto (-95), 3) := by decide +kernel
theorem dX0_keepAll_137 : decode cX0_keepAll 137 = .ok (.return_, 1) := by decide +kernel
theorem dX0_drownAll_0 : decode cX0_drownAll 0 = .ok (.aload_n 0, 1) := by decide +kernel
theorem dX0_drownAll_1 : decode cX0_drownAll 1 = .ok (.aload_n 0, 1) := by decide +kernel
theorem dX0_drownAll_2 : decode cX0_drownAll 2 = .ok (.getfield 21, 3) := by decide +kernel
theorem dX0_drownAll_5 : decode cX0_drownAll 5 = .ok (.invokevirtual 50, 3) := by decide +kernel
theorem dX0_drownAll_8 : decode cX0_drownAll 8 = .ok (.istore_n 3, 1) := by decide +kernel
theorem dX0_drownAll_9 : decode cX0_drownAll 9 = .ok (.iconst 0, 1) := by decide +kernel
theorem dX0_drownAll_10 : decode cX0_drownAll 10 = .ok (.istore 4, 2) := by decide +kernel
theorem dX0_drownAll_12 : decode cX0_drownAll 12 = .ok (.iload 4, 2) := by decide +kernel
theorem dX0_drownAll_14 : decode cX0_drownAll 14 = .ok (.aload_n 0, 1) := by decide +kernel
theorem dX0_drownAll_15 : decode cX0_drownAll 15 = .ok (.getfield 53, 3) := by decide +kernel
theorem dX0_drownAll_18 : decode cX0_drownAll 18 = .ok (.if_icmp .ge 70, 3) := by decide +kernel
theorem dX0_drownAll_21 : decode cX0_drownAll 21 = .ok (.aload_n 0, 1) := by decide +kernel
theorem dX0_drownAll_22 : decode cX0_drownAll 22 = .ok (.iload 4, 2) := by decide +kernel
theorem dX0_drownAll_24 : decode cX0_drownAll 24 = .ok (.iconst 0, 1) := by decide +kernel
theorem dX0_drownAll_25 : decode cX0_drownAll 25 = .ok (.invokevirtual 74, 3) := by decide +kernel
theorem dX0_drownAll_28 : decode cX0_drownAll 28 = .ok (.istore 5, 2) := by decide +kernel
theorem dX0_drownAll_30 : decode cX0_drownAll 30 = .ok (.aload_n 0, 1) := by decide +kernel
theorem dX0_drownAll_31 : decode cX0_drownAll 31 = .ok (.iload 4, 2) := by decide +kernel
theorem dX0_drownAll_33 : decode cX0_drownAll 33 = .ok (.invokevirtual 56, 3) := by decide +kernel
theorem dX0_drownAll_36 : decode cX0_drownAll 36 = .ok (.ifCond .ne 46, 3) := by decide +kernel
theorem dX0_drownAll_39 : decode cX0_drownAll 39 = .ok (.aload_n 0, 1) := by decide +kernel
theorem dX0_drownAll_40 : decode cX0_drownAll 40 = .ok (.iload_n 3, 1) := by decide +kernel
theorem dX0_drownAll_41 : decode cX0_drownAll 41 = .ok (.iload 5, 2) := by decide +kernel
theorem dX0_drownAll_43 : decode cX0_drownAll 43 = .ok (.invokevirtual 84, 3) := by decide +kernel
theorem dX0_drownAll_46 : decode cX0_drownAll 46 = .ok (.aload_n 1, 1) := by decide +kernel
theorem dX0_drownAll_47 : decode cX0_drownAll 47 = .ok (.aload_n 0, 1) := by decide +kernel
theorem dX0_drownAll_48 : decode cX0_drownAll 48 = .ok (.iload 4, 2) := by decide +kernel
theorem dX0_drownAll_50 : decode cX0_drownAll 50 = .ok (.iload_n 3, 1) := by decide +kernel
theorem dX0_drownAll_51 : decode cX0_drownAll 51 = .ok (.invokevirtual 66, 3) := by decide +kernel
theorem dX0_drownAll_54 : decode cX0_drownAll 54 = .ok (.iconst 3, 1) := by decide +kernel
theorem dX0_drownAll_55 : decode cX0_drownAll 55 = .ok (.iadd, 1) := by decide +kernel
theorem dX0_drownAll_56 : decode cX0_drownAll 56 = .ok (.if_icmp .le 26, 3) := by decide +kernel
theorem dX0_drownAll_59 : decode cX0_drownAll 59 = .ok (.aload_n 0, 1) := by decide +kernel
theorem dX0_drownAll_60 : decode cX0_drownAll 60 = .ok (.dup, 1) := by decide +kernel
theorem dX0_drownAll_61 : decode cX0_drownAll 61 = .ok (.getfield 104, 3) := by decide +kernel
theorem dX0_drownAll_64 : decode cX0_drownAll 64 = .ok (.iconst 1, 1) := by decide +kernel
theorem dX0_drownAll_65 : decode cX0_drownAll 65 = .ok (.iload 4, 2) := by decide +kernel
theorem dX0_drownAll_67 : decode cX0_drownAll 67 = .ok (.ishl, 1) := by decide +kernel
theorem dX0_drownAll_68 : decode cX0_drownAll 68 = .ok (.ior, 1) := by decide +kernel
theorem dX0_drownAll_69 : decode cX0_drownAll 69 = .ok (.putfield 104, 3) := by decide +kernel
theorem dX0_drownAll_72 : decode cX0_drownAll 72 = .ok (.aload_n 0, 1) := by decide +kernel
theorem dX0_drownAll_73 : decode cX0_drownAll 73 = .ok (.iload_n 2, 1) := by decide +kernel
theorem dX0_drownAll_74 : decode cX0_drownAll 74 = .ok (.iload 4, 2) := by decide +kernel
theorem dX0_drownAll_76 : decode cX0_drownAll 76 = .ok (.iconst 1, 1) := by decide +kernel
theorem dX0_drownAll_77 : decode cX0_drownAll 77 = .ok (.iload 5, 2) := by decide +kernel
theorem dX0_drownAll_79 : decode cX0_drownAll 79 = .ok (.invokevirtual 100, 3) := by decide +kernel
theorem dX0_drownAll_82 : decode cX0_drownAll 82 = .ok (.iinc 4 1, 3) := by decide +kernel
theorem dX0_drownAll_85 : decode cX0_drownAll 85 = .ok (.goto (-73), 3) := by decide +kernel
theorem dX0_drownAll_88 : decode cX0_drownAll 88 = .ok (.return_, 1) := by decide +kernel
theorem dX1_init_0 : decode cX1_init 0 = .ok (.aload_n 0, 1) := by decide +kernel
theorem dX1_init_1 : decode cX1_init 1 = .ok (.invokespecial 3, 3) := by decide +kernel
theorem dX1_init_4 : decode cX1_init 4 = .ok (.aload_n 0, 1) := by decide +kernel
theorem dX1_init_5 : decode cX1_init 5 = .ok (.aload_n 1, 1) := by decide +kernel
theorem dX1_init_6 : decode cX1_init 6 = .ok (.putfield 9, 3) := by decide +kernel
theorem dX1_init_9 : decode cX1_init 9 = .ok (.return_, 1) := by decide +kernel
theorem dX1_read_0 : decode cX1_read 0 = .ok (.aload_n 0, 1) := by decide +kernel
theorem dX1_read_1 : decode cX1_read 1 = .ok (.getfield 9, 3) := by decide +kernel
theorem dX1_read_4 : decode cX1_read 4 = .ok (.invokevirtual 15, 3) := by decide +kernel
theorem dX1_read_7 : decode cX1_read 7 = .ok (.aload_n 0, 1) := by decide +kernel
theorem dX1_read_8 : decode cX1_read 8 = .ok (.getfield 9, 3) := by decide +kernel
theorem dX1_read_11 : decode cX1_read 11 = .ok (.invokevirtual 20, 3) := by decide +kernel
theorem dX1_read_14 : decode cX1_read 14 = .ok (.ifCond .eq 5, 3) := by decide +kernel
theorem dX1_read_17 : decode cX1_read 17 = .ok (.iconst (-1), 1) := by decide +kernel
theorem dX1_read_18 : decode cX1_read 18 = .ok (.ireturn, 1) := by decide +kernel
theorem dX1_read_19 : decode cX1_read 19 = .ok (.iconst 0, 1) := by decide +kernel
theorem dX1_read_20 : decode cX1_read 20 = .ok (.istore_n 2, 1) := by decide +kernel
theorem dX1_read_21 : decode cX1_read 21 = .ok (.iload_n 2, 1) := by decide +kernel
theorem dX1_read_22 : decode cX1_read 22 = .ok (.bipush 14, 2) := by decide +kernel
theorem dX1_read_24 : decode cX1_read 24 = .ok (.if_icmp .gt 59, 3) := by decide +kernel
theorem dX1_read_27 : decode cX1_read 27 = .ok (.iload_n 2, 1) := by decide +kernel
theorem dX1_read_28 : decode cX1_read 28 = .ok (.bipush 14, 2) := by decide +kernel
theorem dX1_read_30 : decode cX1_read 30 = .ok (.if_icmp .ne 14, 3) := by decide +kernel
theorem dX1_read_33 : decode cX1_read 33 = .ok (.aload_n 0, 1) := by decide +kernel
theorem dX1_read_34 : decode cX1_read 34 = .ok (.getfield 9, 3) := by decide +kernel
theorem dX1_read_37 : decode cX1_read 37 = .ok (.invokevirtual 24, 3) := by decide +kernel
theorem dX1_read_40 : decode cX1_read 40 = .ok (.pop, 1) := by decide +kernel
theorem dX1_read_41 : decode cX1_read 41 = .ok (.goto 42, 3) := by decide +kernel
theorem dX1_read_44 : decode cX1_read 44 = .ok (.aload_n 0, 1) := by decide +kernel
theorem dX1_read_45 : decode cX1_read 45 = .ok (.aload_n 1, 1) := by decide +kernel
theorem dX1_read_46 : decode cX1_read 46 = .ok (.invokevirtual 27, 3) := by decide +kernel
theorem dX1_read_49 : decode cX1_read 49 = .ok (.ifCond .eq 34, 3) := by decide +kernel
theorem dX1_read_52 : decode cX1_read 52 = .ok (.aload_n 0, 1) := by decide +kernel
theorem dX1_read_53 : decode cX1_read 53 = .ok (.getfield 9, 3) := by decide +kernel
theorem dX1_read_56 : decode cX1_read 56 = .ok (.invokevirtual 20, 3) := by decide +kernel
theorem dX1_read_59 : decode cX1_read 59 = .ok (.ifCond .ne 24, 3) := by decide +kernel
theorem dX1_read_62 : decode cX1_read 62 = .ok (.aload_n 0, 1) := by decide +kernel
theorem dX1_read_63 : decode cX1_read 63 = .ok (.getfield 9, 3) := by decide +kernel
theorem dX1_read_66 : decode cX1_read 66 = .ok (.bipush 59, 2) := by decide +kernel
theorem dX1_read_68 : decode cX1_read 68 = .ok (.invokevirtual 31, 3) := by decide +kernel
theorem dX1_read_71 : decode cX1_read 71 = .ok (.ifCond .ne 6, 3) := by decide +kernel
theorem dX1_read_74 : decode cX1_read 74 = .ok (.goto 9, 3) := by decide +kernel
theorem dX1_read_77 : decode cX1_read 77 = .ok (.iinc 2 1, 3) := by decide +kernel
theorem dX1_read_80 : decode cX1_read 80 = .ok (.goto (-59), 3) := by decide +kernel
theorem dX1_read_83 : decode cX1_read 83 = .ok (.aload_n 0, 1) := by decide +kernel
theorem dX1_read_84 : decode cX1_read 84 = .ok (.getfield 9, 3) := by decide +kernel
theorem dX1_read_87 : decode cX1_read 87 = .ok (.getfield 35, 3) := by decide +kernel
theorem dX1_read_90 : decode cX1_read 90 = .ok (.ireturn, 1) := by decide +kernel
theorem dX1_line_0 : decode cX1_line 0 = .ok (.aload_n 0, 1) := by decide +kernel
theorem dX1_line_1 : decode cX1_line 1 = .ok (.getfield 9, 3) := by decide +kernel
theorem dX1_line_4 : decode cX1_line 4 = .ok (.invokevirtual 39, 3) := by decide +kernel
theorem dX1_line_7 : decode cX1_line 7 = .ok (.istore_n 2, 1) := by decide +kernel
theorem dX1_line_8 : decode cX1_line 8 = .ok (.iload_n 2, 1) := by decide +kernel
theorem dX1_line_9 : decode cX1_line 9 = .ok (.bipush 21, 2) := by decide +kernel
theorem dX1_line_11 : decode cX1_line 11 = .ok (.if_icmp .ne 12, 3) := by decide +kernel
theorem dX1_line_14 : decode cX1_line 14 = .ok (.aload_n 1, 1) := by decide +kernel
theorem dX1_line_15 : decode cX1_line 15 = .ok (.getfield 43, 3) := by decide +kernel
theorem dX1_line_18 : decode cX1_line 18 = .ok (.bipush 6, 2) := by decide +kernel
theorem dX1_line_20 : decode cX1_line 20 = .ok (.if_icmp .ge 17, 3) := by decide +kernel
theorem dX1_line_23 : decode cX1_line 23 = .ok (.iload_n 2, 1) := by decide +kernel
theorem dX1_line_24 : decode cX1_line 24 = .ok (.iconst 4, 1) := by decide +kernel
theorem dX1_line_25 : decode cX1_line 25 = .ok (.if_icmp .ne 16, 3) := by decide +kernel
theorem dX1_line_28 : decode cX1_line 28 = .ok (.aload_n 1, 1) := by decide +kernel
theorem dX1_line_29 : decode cX1_line 29 = .ok (.getfield 48, 3) := by decide +kernel
theorem dX1_line_32 : decode cX1_line 32 = .ok (.bipush 6, 2) := by decide +kernel
theorem dX1_line_34 : decode cX1_line 34 = .ok (.if_icmp .lt 7, 3) := by decide +kernel
theorem dX1_line_37 : decode cX1_line 37 = .ok (.iconst 1, 1) := by decide +kernel
theorem dX1_line_38 : decode cX1_line 38 = .ok (.goto 4, 3) := by decide +kernel
theorem dX1_line_41 : decode cX1_line 41 = .ok (.iconst 0, 1) := by decide +kernel
theorem dX1_line_42 : decode cX1_line 42 = .ok (.istore_n 3, 1) := by decide +kernel
theorem dX1_line_43 : decode cX1_line 43 = .ok (.iload_n 2, 1) := by decide +kernel
theorem dX1_line_44 : decode cX1_line 44 = .ok (.iconst (-1), 1) := by decide +kernel
theorem dX1_line_45 : decode cX1_line 45 = .ok (.if_icmp .eq 7, 3) := by decide +kernel
theorem dX1_line_48 : decode cX1_line 48 = .ok (.iload_n 3, 1) := by decide +kernel
theorem dX1_line_49 : decode cX1_line 49 = .ok (.ifCond .eq 11, 3) := by decide +kernel
theorem dX1_line_52 : decode cX1_line 52 = .ok (.aload_n 0, 1) := by decide +kernel
theorem dX1_line_53 : decode cX1_line 53 = .ok (.getfield 9, 3) := by decide +kernel
theorem dX1_line_56 : decode cX1_line 56 = .ok (.invokevirtual 24, 3) := by decide +kernel
theorem dX1_line_59 : decode cX1_line 59 = .ok (.ireturn, 1) := by decide +kernel
theorem dX1_line_60 : decode cX1_line 60 = .ok (.iload_n 2, 1) := by decide +kernel
theorem dX1_line_61 : decode cX1_line 61 = .ok (.tableswitch 157 0 21 #[103, 109, 115, 121, 133, 139, 145, 151, 157, 157, 157, 157, 157, 157, 157, 157, 157, 157, 157, 157, 157, 127], 103) := by decide +kernel
theorem dX1_line_164 : decode cX1_line 164 = .ok (.aload_n 0, 1) := by decide +kernel
theorem dX1_line_165 : decode cX1_line 165 = .ok (.aload_n 1, 1) := by decide +kernel
theorem dX1_line_166 : decode cX1_line 166 = .ok (.invokevirtual 51, 3) := by decide +kernel
theorem dX1_line_169 : decode cX1_line 169 = .ok (.ireturn, 1) := by decide +kernel
theorem dX1_line_170 : decode cX1_line 170 = .ok (.aload_n 0, 1) := by decide +kernel
theorem dX1_line_171 : decode cX1_line 171 = .ok (.aload_n 1, 1) := by decide +kernel
theorem dX1_line_172 : decode cX1_line 172 = .ok (.invokevirtual 54, 3) := by decide +kernel
theorem dX1_line_175 : decode cX1_line 175 = .ok (.ireturn, 1) := by decide +kernel
theorem dX1_line_176 : decode cX1_line 176 = .ok (.aload_n 0, 1) := by decide +kernel
theorem dX1_line_177 : decode cX1_line 177 = .ok (.aload_n 1, 1) := by decide +kernel
theorem dX1_line_178 : decode cX1_line 178 = .ok (.invokevirtual 57, 3) := by decide +kernel
theorem dX1_line_181 : decode cX1_line 181 = .ok (.ireturn, 1) := by decide +kernel
theorem dX1_line_182 : decode cX1_line 182 = .ok (.aload_n 0, 1) := by decide +kernel
theorem dX1_line_183 : decode cX1_line 183 = .ok (.aload_n 1, 1) := by decide +kernel
theorem dX1_line_184 : decode cX1_line 184 = .ok (.invokevirtual 60, 3) := by decide +kernel
theorem dX1_line_187 : decode cX1_line 187 = .ok (.ireturn, 1) := by decide +kernel
theorem dX1_line_188 : decode cX1_line 188 = .ok (.aload_n 0, 1) := by decide +kernel
theorem dX1_line_189 : decode cX1_line 189 = .ok (.aload_n 1, 1) := by decide +kernel
theorem dX1_line_190 : decode cX1_line 190 = .ok (.invokevirtual 63, 3) := by decide +kernel
theorem dX1_line_193 : decode cX1_line 193 = .ok (.ireturn, 1) := by decide +kernel
theorem dX1_line_194 : decode cX1_line 194 = .ok (.aload_n 0, 1) := by decide +kernel
theorem dX1_line_195 : decode cX1_line 195 = .ok (.aload_n 1, 1) := by decide +kernel
theorem dX1_line_196 : decode cX1_line 196 = .ok (.invokevirtual 66, 3) := by decide +kernel
theorem dX1_line_199 : decode cX1_line 199 = .ok (.ireturn, 1) := by decide +kernel
theorem dX1_line_200 : decode cX1_line 200 = .ok (.aload_n 0, 1) := by decide +kernel
theorem dX1_line_201 : decode cX1_line 201 = .ok (.aload_n 1, 1) := by decide +kernel
theorem dX1_line_202 : decode cX1_line 202 = .ok (.invokevirtual 69, 3) := by decide +kernel
theorem dX1_line_205 : decode cX1_line 205 = .ok (.ireturn, 1) := by decide +kernel
theorem dX1_line_206 : decode cX1_line 206 = .ok (.aload_n 0, 1) := by decide +kernel
theorem dX1_line_207 : decode cX1_line 207 = .ok (.aload_n 1, 1) := by decide +kernel
theorem dX1_line_208 : decode cX1_line 208 = .ok (.invokevirtual 72, 3) := by decide +kernel
theorem dX1_line_211 : decode cX1_line 211 = .ok (.ireturn, 1) := by decide +kernel
theorem dX1_line_212 : decode cX1_line 212 = .ok (.aload_n 0, 1) := by decide +kernel
theorem dX1_line_213 : decode cX1_line 213 = .ok (.aload_n 1, 1) := by decide +kernel
theorem dX1_line_214 : decode cX1_line 214 = .ok (.invokevirtual 75, 3) := by decide +kernel
theorem dX1_line_217 : decode cX1_line 217 = .ok (.ireturn, 1) := by decide +kernel
theorem dX1_line_218 : decode cX1_line 218 = .ok (.aload_n 0, 1) := by decide +kernel
theorem dX1_line_219 : decode cX1_line 219 = .ok (.getfield 9, 3) := by decide +kernel
theorem dX1_line_222 : decode cX1_line 222 = .ok (.invokevirtual 24, 3) := by decide +kernel
theorem dX1_line_225 : decode cX1_line 225 = .ok (.ireturn, 1) := by decide +kernel
theorem dX1_groundLine_0 : decode cX1_groundLine 0 = .ok (.aload_n 0, 1) := by decide +kernel
theorem dX1_groundLine_1 : decode cX1_groundLine 1 = .ok (.getfield 9, 3) := by decide +kernel
theorem dX1_groundLine_4 : decode cX1_groundLine 4 = .ok (.invokevirtual 78, 3) := by decide +kernel
theorem dX1_groundLine_7 : decode cX1_groundLine 7 = .ok (.aload_n 0, 1) := by decide +kernel
theorem dX1_groundLine_8 : decode cX1_groundLine 8 = .ok (.getfield 9, 3) := by decide +kernel
theorem dX1_groundLine_11 : decode cX1_groundLine 11 = .ok (.iconst 0, 1) := by decide +kernel
theorem dX1_groundLine_12 : decode cX1_groundLine 12 = .ok (.bipush 11, 2) := by decide +kernel
theorem dX1_groundLine_14 : decode cX1_groundLine 14 = .ok (.invokevirtual 81, 3) := by decide +kernel
theorem dX1_groundLine_17 : decode cX1_groundLine 17 = .ok (.istore_n 2, 1) := by decide +kernel
theorem dX1_groundLine_18 : decode cX1_groundLine 18 = .ok (.iload_n 2, 1) := by decide +kernel
theorem dX1_groundLine_19 : decode cX1_groundLine 19 = .ok (.iconst (-1), 1) := by decide +kernel
theorem dX1_groundLine_20 : decode cX1_groundLine 20 = .ok (.if_icmp .ne 7, 3) := by decide +kernel
theorem dX1_groundLine_23 : decode cX1_groundLine 23 = .ok (.iconst (-1), 1) := by decide +kernel
theorem dX1_groundLine_24 : decode cX1_groundLine 24 = .ok (.goto 13, 3) := by decide +kernel
theorem dX1_groundLine_27 : decode cX1_groundLine 27 = .ok (.aload_n 0, 1) := by decide +kernel
theorem dX1_groundLine_28 : decode cX1_groundLine 28 = .ok (.getfield 9, 3) := by decide +kernel
theorem dX1_groundLine_31 : decode cX1_groundLine 31 = .ok (.iconst 0, 1) := by decide +kernel
theorem dX1_groundLine_32 : decode cX1_groundLine 32 = .ok (.bipush 19, 2) := by decide +kernel
theorem dX1_groundLine_34 : decode cX1_groundLine 34 = .ok (.invokevirtual 81, 3) := by decide +kernel
theorem dX1_groundLine_37 : decode cX1_groundLine 37 = .ok (.istore_n 3, 1) := by decide +kernel
theorem dX1_groundLine_38 : decode cX1_groundLine 38 = .ok (.iload_n 3, 1) := by decide +kernel
theorem dX1_groundLine_39 : decode cX1_groundLine 39 = .ok (.iconst (-1), 1) := by decide +kernel
theorem dX1_groundLine_40 : decode cX1_groundLine 40 = .ok (.if_icmp .ne 5, 3) := by decide +kernel
theorem dX1_groundLine_43 : decode cX1_groundLine 43 = .ok (.iconst 0, 1) := by decide +kernel
theorem dX1_groundLine_44 : decode cX1_groundLine 44 = .ok (.ireturn, 1) := by decide +kernel
theorem dX1_groundLine_45 : decode cX1_groundLine 45 = .ok (.aload_n 1, 1) := by decide +kernel
theorem dX1_groundLine_46 : decode cX1_groundLine 46 = .ok (.getfield 85, 3) := by decide +kernel
theorem dX1_groundLine_49 : decode cX1_groundLine 49 = .ok (.iload_n 2, 1) := by decide +kernel
theorem dX1_groundLine_50 : decode cX1_groundLine 50 = .ok (.iload_n 3, 1) := by decide +kernel
theorem dX1_groundLine_51 : decode cX1_groundLine 51 = .ok (.invokestatic 89, 3) := by decide +kernel
theorem dX1_groundLine_54 : decode cX1_groundLine 54 = .ok (.iconst 1, 1) := by decide +kernel
theorem dX1_groundLine_55 : decode cX1_groundLine 55 = .ok (.ireturn, 1) := by decide +kernel
theorem dX1_periodLine_0 : decode cX1_periodLine 0 = .ok (.aload_n 0, 1) := by decide +kernel
theorem dX1_periodLine_1 : decode cX1_periodLine 1 = .ok (.getfield 9, 3) := by decide +kernel
theorem dX1_periodLine_4 : decode cX1_periodLine 4 = .ok (.invokevirtual 78, 3) := by decide +kernel
theorem dX1_periodLine_7 : decode cX1_periodLine 7 = .ok (.aload_n 0, 1) := by decide +kernel
theorem dX1_periodLine_8 : decode cX1_periodLine 8 = .ok (.getfield 9, 3) := by decide +kernel
theorem dX1_periodLine_11 : decode cX1_periodLine 11 = .ok (.iconst 4, 1) := by decide +kernel
theorem dX1_periodLine_12 : decode cX1_periodLine 12 = .ok (.bipush 24, 2) := by decide +kernel
theorem dX1_periodLine_14 : decode cX1_periodLine 14 = .ok (.invokevirtual 81, 3) := by decide +kernel
theorem dX1_periodLine_17 : decode cX1_periodLine 17 = .ok (.istore_n 2, 1) := by decide +kernel
theorem dX1_periodLine_18 : decode cX1_periodLine 18 = .ok (.iload_n 2, 1) := by decide +kernel
theorem dX1_periodLine_19 : decode cX1_periodLine 19 = .ok (.iconst (-1), 1) := by decide +kernel
theorem dX1_periodLine_20 : decode cX1_periodLine 20 = .ok (.if_icmp .ne 5, 3) := by decide +kernel
theorem dX1_periodLine_23 : decode cX1_periodLine 23 = .ok (.iconst 0, 1) := by decide +kernel
theorem dX1_periodLine_24 : decode cX1_periodLine 24 = .ok (.ireturn, 1) := by decide +kernel
theorem dX1_periodLine_25 : decode cX1_periodLine 25 = .ok (.aload_n 1, 1) := by decide +kernel
theorem dX1_periodLine_26 : decode cX1_periodLine 26 = .ok (.iload_n 2, 1) := by decide +kernel
theorem dX1_periodLine_27 : decode cX1_periodLine 27 = .ok (.putfield 93, 3) := by decide +kernel
theorem dX1_periodLine_30 : decode cX1_periodLine 30 = .ok (.iconst 1, 1) := by decide +kernel
theorem dX1_periodLine_31 : decode cX1_periodLine 31 = .ok (.ireturn, 1) := by decide +kernel
theorem dX1_roundLine_0 : decode cX1_roundLine 0 = .ok (.aload_n 0, 1) := by decide +kernel
theorem dX1_roundLine_1 : decode cX1_roundLine 1 = .ok (.getfield 9, 3) := by decide +kernel
theorem dX1_roundLine_4 : decode cX1_roundLine 4 = .ok (.invokevirtual 78, 3) := by decide +kernel
theorem dX1_roundLine_7 : decode cX1_roundLine 7 = .ok (.aload_n 0, 1) := by decide +kernel
theorem dX1_roundLine_8 : decode cX1_roundLine 8 = .ok (.getfield 9, 3) := by decide +kernel
theorem dX1_roundLine_11 : decode cX1_roundLine 11 = .ok (.iconst 2, 1) := by decide +kernel
theorem dX1_roundLine_12 : decode cX1_roundLine 12 = .ok (.bipush 28, 2) := by decide +kernel
theorem dX1_roundLine_14 : decode cX1_roundLine 14 = .ok (.invokevirtual 81, 3) := by decide +kernel
theorem dX1_roundLine_17 : decode cX1_roundLine 17 = .ok (.istore_n 2, 1) := by decide +kernel
theorem dX1_roundLine_18 : decode cX1_roundLine 18 = .ok (.iload_n 2, 1) := by decide +kernel
theorem dX1_roundLine_19 : decode cX1_roundLine 19 = .ok (.iconst (-1), 1) := by decide +kernel
theorem dX1_roundLine_20 : decode cX1_roundLine 20 = .ok (.if_icmp .ne 5, 3) := by decide +kernel
theorem dX1_roundLine_23 : decode cX1_roundLine 23 = .ok (.iconst 0, 1) := by decide +kernel
theorem dX1_roundLine_24 : decode cX1_roundLine 24 = .ok (.ireturn, 1) := by decide +kernel
theorem dX1_roundLine_25 : decode cX1_roundLine 25 = .ok (.aload_n 1, 1) := by decide +kernel
theorem dX1_roundLine_26 : decode cX1_roundLine 26 = .ok (.iload_n 2, 1) := by decide +kernel
theorem dX1_roundLine_27 : decode cX1_roundLine 27 = .ok (.putfield 96, 3) := by decide +kernel
theorem dX1_roundLine_30 : decode cX1_roundLine 30 = .ok (.iconst 1, 1) := by decide +kernel
theorem dX1_roundLine_31 : decode cX1_roundLine 31 = .ok (.ireturn, 1) := by decide +kernel
theorem dX1_rangeLine_0 : decode cX1_rangeLine 0 = .ok (.aload_n 0, 1) := by decide +kernel
theorem dX1_rangeLine_1 : decode cX1_rangeLine 1 = .ok (.getfield 9, 3) := by decide +kernel
theorem dX1_rangeLine_4 : decode cX1_rangeLine 4 = .ok (.invokevirtual 78, 3) := by decide +kernel
theorem dX1_rangeLine_7 : decode cX1_rangeLine 7 = .ok (.aload_n 0, 1) := by decide +kernel
theorem dX1_rangeLine_8 : decode cX1_rangeLine 8 = .ok (.getfield 9, 3) := by decide +kernel
theorem dX1_rangeLine_11 : decode cX1_rangeLine 11 = .ok (.iconst 0, 1) := by decide +kernel
theorem dX1_rangeLine_12 : decode cX1_rangeLine 12 = .ok (.bipush 30, 2) := by decide +kernel
theorem dX1_rangeLine_14 : decode cX1_rangeLine 14 = .ok (.invokevirtual 81, 3) := by decide +kernel
theorem dX1_rangeLine_17 : decode cX1_rangeLine 17 = .ok (.istore_n 2, 1) := by decide +kernel
theorem dX1_rangeLine_18 : decode cX1_rangeLine 18 = .ok (.iload_n 2, 1) := by decide +kernel
theorem dX1_rangeLine_19 : decode cX1_rangeLine 19 = .ok (.iconst (-1), 1) := by decide +kernel
theorem dX1_rangeLine_20 : decode cX1_rangeLine 20 = .ok (.if_icmp .eq 15, 3) := by decide +kernel
theorem dX1_rangeLine_23 : decode cX1_rangeLine 23 = .ok (.aload_n 0, 1) := by decide +kernel
theorem dX1_rangeLine_24 : decode cX1_rangeLine 24 = .ok (.getfield 9, 3) := by decide +kernel
theorem dX1_rangeLine_27 : decode cX1_rangeLine 27 = .ok (.bipush 11, 2) := by decide +kernel
theorem dX1_rangeLine_29 : decode cX1_rangeLine 29 = .ok (.invokevirtual 99, 3) := by decide +kernel
theorem dX1_rangeLine_32 : decode cX1_rangeLine 32 = .ok (.ifCond .ne 5, 3) := by decide +kernel
theorem dX1_rangeLine_35 : decode cX1_rangeLine 35 = .ok (.iconst 0, 1) := by decide +kernel
theorem dX1_rangeLine_36 : decode cX1_rangeLine 36 = .ok (.ireturn, 1) := by decide +kernel
theorem dX1_rangeLine_37 : decode cX1_rangeLine 37 = .ok (.aload_n 0, 1) := by decide +kernel
theorem dX1_rangeLine_38 : decode cX1_rangeLine 38 = .ok (.getfield 9, 3) := by decide +kernel
theorem dX1_rangeLine_41 : decode cX1_rangeLine 41 = .ok (.iload_n 2, 1) := by decide +kernel
theorem dX1_rangeLine_42 : decode cX1_rangeLine 42 = .ok (.bipush 30, 2) := by decide +kernel
theorem dX1_rangeLine_44 : decode cX1_rangeLine 44 = .ok (.invokevirtual 81, 3) := by decide +kernel
theorem dX1_rangeLine_47 : decode cX1_rangeLine 47 = .ok (.istore_n 3, 1) := by decide +kernel
theorem dX1_rangeLine_48 : decode cX1_rangeLine 48 = .ok (.iload_n 3, 1) := by decide +kernel
theorem dX1_rangeLine_49 : decode cX1_rangeLine 49 = .ok (.iconst (-1), 1) := by decide +kernel
theorem dX1_rangeLine_50 : decode cX1_rangeLine 50 = .ok (.if_icmp .ne 5, 3) := by decide +kernel
theorem dX1_rangeLine_53 : decode cX1_rangeLine 53 = .ok (.iconst 0, 1) := by decide +kernel
theorem dX1_rangeLine_54 : decode cX1_rangeLine 54 = .ok (.ireturn, 1) := by decide +kernel
theorem dX1_rangeLine_55 : decode cX1_rangeLine 55 = .ok (.aload_n 1, 1) := by decide +kernel
theorem dX1_rangeLine_56 : decode cX1_rangeLine 56 = .ok (.iload_n 2, 1) := by decide +kernel
theorem dX1_rangeLine_57 : decode cX1_rangeLine 57 = .ok (.putfield 103, 3) := by decide +kernel
theorem dX1_rangeLine_60 : decode cX1_rangeLine 60 = .ok (.aload_n 1, 1) := by decide +kernel
theorem dX1_rangeLine_61 : decode cX1_rangeLine 61 = .ok (.iload_n 3, 1) := by decide +kernel
theorem dX1_rangeLine_62 : decode cX1_rangeLine 62 = .ok (.putfield 106, 3) := by decide +kernel
theorem dX1_rangeLine_65 : decode cX1_rangeLine 65 = .ok (.iconst 1, 1) := by decide +kernel
theorem dX1_rangeLine_66 : decode cX1_rangeLine 66 = .ok (.ireturn, 1) := by decide +kernel
theorem dX1_monkLine_0 : decode cX1_monkLine 0 = .ok (.aload_n 0, 1) := by decide +kernel
theorem dX1_monkLine_1 : decode cX1_monkLine 1 = .ok (.getfield 9, 3) := by decide +kernel
theorem dX1_monkLine_4 : decode cX1_monkLine 4 = .ok (.invokevirtual 78, 3) := by decide +kernel
theorem dX1_monkLine_7 : decode cX1_monkLine 7 = .ok (.aload_n 0, 1) := by decide +kernel
theorem dX1_monkLine_8 : decode cX1_monkLine 8 = .ok (.getfield 9, 3) := by decide +kernel
theorem dX1_monkLine_11 : decode cX1_monkLine 11 = .ok (.iconst 0, 1) := by decide +kernel
theorem dX1_monkLine_12 : decode cX1_monkLine 12 = .ok (.bipush 11, 2) := by decide +kernel
theorem dX1_monkLine_14 : decode cX1_monkLine 14 = .ok (.invokevirtual 81, 3) := by decide +kernel
theorem dX1_monkLine_17 : decode cX1_monkLine 17 = .ok (.istore_n 2, 1) := by decide +kernel
theorem dX1_monkLine_18 : decode cX1_monkLine 18 = .ok (.iload_n 2, 1) := by decide +kernel
theorem dX1_monkLine_19 : decode cX1_monkLine 19 = .ok (.iconst (-1), 1) := by decide +kernel
theorem dX1_monkLine_20 : decode cX1_monkLine 20 = .ok (.if_icmp .eq 15, 3) := by decide +kernel
theorem dX1_monkLine_23 : decode cX1_monkLine 23 = .ok (.aload_n 0, 1) := by decide +kernel
theorem dX1_monkLine_24 : decode cX1_monkLine 24 = .ok (.getfield 9, 3) := by decide +kernel
theorem dX1_monkLine_27 : decode cX1_monkLine 27 = .ok (.bipush 8, 2) := by decide +kernel
theorem dX1_monkLine_29 : decode cX1_monkLine 29 = .ok (.invokevirtual 99, 3) := by decide +kernel
theorem dX1_monkLine_32 : decode cX1_monkLine 32 = .ok (.ifCond .ne 5, 3) := by decide +kernel
theorem dX1_monkLine_35 : decode cX1_monkLine 35 = .ok (.iconst 0, 1) := by decide +kernel
theorem dX1_monkLine_36 : decode cX1_monkLine 36 = .ok (.ireturn, 1) := by decide +kernel
theorem dX1_monkLine_37 : decode cX1_monkLine 37 = .ok (.aload_n 0, 1) := by decide +kernel
theorem dX1_monkLine_38 : decode cX1_monkLine 38 = .ok (.getfield 9, 3) := by decide +kernel
theorem dX1_monkLine_41 : decode cX1_monkLine 41 = .ok (.iconst 1, 1) := by decide +kernel
theorem dX1_monkLine_42 : decode cX1_monkLine 42 = .ok (.iconst 4, 1) := by decide +kernel
theorem dX1_monkLine_43 : decode cX1_monkLine 43 = .ok (.invokevirtual 81, 3) := by decide +kernel
theorem dX1_monkLine_46 : decode cX1_monkLine 46 = .ok (.istore_n 3, 1) := by decide +kernel
theorem dX1_monkLine_47 : decode cX1_monkLine 47 = .ok (.iload_n 3, 1) := by decide +kernel
theorem dX1_monkLine_48 : decode cX1_monkLine 48 = .ok (.iconst (-1), 1) := by decide +kernel
theorem dX1_monkLine_49 : decode cX1_monkLine 49 = .ok (.if_icmp .ne 5, 3) := by decide +kernel
theorem dX1_monkLine_52 : decode cX1_monkLine 52 = .ok (.iconst 0, 1) := by decide +kernel
theorem dX1_monkLine_53 : decode cX1_monkLine 53 = .ok (.ireturn, 1) := by decide +kernel
theorem dX1_monkLine_54 : decode cX1_monkLine 54 = .ok (.aload_n 0, 1) := by decide +kernel
theorem dX1_monkLine_55 : decode cX1_monkLine 55 = .ok (.getfield 9, 3) := by decide +kernel
theorem dX1_monkLine_58 : decode cX1_monkLine 58 = .ok (.bipush 9, 2) := by decide +kernel
theorem dX1_monkLine_60 : decode cX1_monkLine 60 = .ok (.invokevirtual 109, 3) := by decide +kernel
theorem dX1_monkLine_63 : decode cX1_monkLine 63 = .ok (.ifCond .eq 16, 3) := by decide +kernel
theorem dX1_monkLine_66 : decode cX1_monkLine 66 = .ok (.aload_n 0, 1) := by decide +kernel
theorem dX1_monkLine_67 : decode cX1_monkLine 67 = .ok (.getfield 9, 3) := by decide +kernel
theorem dX1_monkLine_70 : decode cX1_monkLine 70 = .ok (.iconst 0, 1) := by decide +kernel
theorem dX1_monkLine_71 : decode cX1_monkLine 71 = .ok (.bipush 11, 2) := by decide +kernel
theorem dX1_monkLine_73 : decode cX1_monkLine 73 = .ok (.invokevirtual 81, 3) := by decide +kernel
theorem dX1_monkLine_76 : decode cX1_monkLine 76 = .ok (.goto 4, 3) := by decide +kernel
theorem dX1_monkLine_79 : decode cX1_monkLine 79 = .ok (.iload_n 2, 1) := by decide +kernel
theorem dX1_monkLine_80 : decode cX1_monkLine 80 = .ok (.istore 4, 2) := by decide +kernel
theorem dX1_monkLine_82 : decode cX1_monkLine 82 = .ok (.iload 4, 2) := by decide +kernel
theorem dX1_monkLine_84 : decode cX1_monkLine 84 = .ok (.iconst (-1), 1) := by decide +kernel
theorem dX1_monkLine_85 : decode cX1_monkLine 85 = .ok (.if_icmp .ne 5, 3) := by decide +kernel
theorem dX1_monkLine_88 : decode cX1_monkLine 88 = .ok (.iconst 0, 1) := by decide +kernel
theorem dX1_monkLine_89 : decode cX1_monkLine 89 = .ok (.ireturn, 1) := by decide +kernel
theorem dX1_monkLine_90 : decode cX1_monkLine 90 = .ok (.aload_n 1, 1) := by decide +kernel
theorem dX1_monkLine_91 : decode cX1_monkLine 91 = .ok (.iload_n 2, 1) := by decide +kernel
theorem dX1_monkLine_92 : decode cX1_monkLine 92 = .ok (.iload_n 3, 1) := by decide +kernel
theorem dX1_monkLine_93 : decode cX1_monkLine 93 = .ok (.iload 4, 2) := by decide +kernel
theorem dX1_monkLine_95 : decode cX1_monkLine 95 = .ok (.invokevirtual 112, 3) := by decide +kernel
theorem dX1_monkLine_98 : decode cX1_monkLine 98 = .ok (.iconst 1, 1) := by decide +kernel
theorem dX1_monkLine_99 : decode cX1_monkLine 99 = .ok (.ireturn, 1) := by decide +kernel
theorem dX1_dutyLine_0 : decode cX1_dutyLine 0 = .ok (.aload_n 0, 1) := by decide +kernel
theorem dX1_dutyLine_1 : decode cX1_dutyLine 1 = .ok (.getfield 9, 3) := by decide +kernel
theorem dX1_dutyLine_4 : decode cX1_dutyLine 4 = .ok (.invokevirtual 78, 3) := by decide +kernel
theorem dX1_dutyLine_7 : decode cX1_dutyLine 7 = .ok (.aload_n 0, 1) := by decide +kernel
theorem dX1_dutyLine_8 : decode cX1_dutyLine 8 = .ok (.getfield 9, 3) := by decide +kernel
theorem dX1_dutyLine_11 : decode cX1_dutyLine 11 = .ok (.iconst 0, 1) := by decide +kernel
theorem dX1_dutyLine_12 : decode cX1_dutyLine 12 = .ok (.bipush 11, 2) := by decide +kernel
theorem dX1_dutyLine_14 : decode cX1_dutyLine 14 = .ok (.invokevirtual 81, 3) := by decide +kernel
theorem dX1_dutyLine_17 : decode cX1_dutyLine 17 = .ok (.istore_n 2, 1) := by decide +kernel
theorem dX1_dutyLine_18 : decode cX1_dutyLine 18 = .ok (.iload_n 2, 1) := by decide +kernel
theorem dX1_dutyLine_19 : decode cX1_dutyLine 19 = .ok (.iconst (-1), 1) := by decide +kernel
theorem dX1_dutyLine_20 : decode cX1_dutyLine 20 = .ok (.if_icmp .eq 15, 3) := by decide +kernel
theorem dX1_dutyLine_23 : decode cX1_dutyLine 23 = .ok (.aload_n 0, 1) := by decide +kernel
theorem dX1_dutyLine_24 : decode cX1_dutyLine 24 = .ok (.getfield 9, 3) := by decide +kernel
theorem dX1_dutyLine_27 : decode cX1_dutyLine 27 = .ok (.bipush 10, 2) := by decide +kernel
theorem dX1_dutyLine_29 : decode cX1_dutyLine 29 = .ok (.invokevirtual 99, 3) := by decide +kernel
theorem dX1_dutyLine_32 : decode cX1_dutyLine 32 = .ok (.ifCond .ne 5, 3) := by decide +kernel
theorem dX1_dutyLine_35 : decode cX1_dutyLine 35 = .ok (.iconst 0, 1) := by decide +kernel
theorem dX1_dutyLine_36 : decode cX1_dutyLine 36 = .ok (.ireturn, 1) := by decide +kernel
theorem dX1_dutyLine_37 : decode cX1_dutyLine 37 = .ok (.aload_n 0, 1) := by decide +kernel
theorem dX1_dutyLine_38 : decode cX1_dutyLine 38 = .ok (.getfield 9, 3) := by decide +kernel
theorem dX1_dutyLine_41 : decode cX1_dutyLine 41 = .ok (.iconst 0, 1) := by decide +kernel
theorem dX1_dutyLine_42 : decode cX1_dutyLine 42 = .ok (.sipush 999, 3) := by decide +kernel
theorem dX1_dutyLine_45 : decode cX1_dutyLine 45 = .ok (.invokevirtual 81, 3) := by decide +kernel
theorem dX1_dutyLine_48 : decode cX1_dutyLine 48 = .ok (.istore_n 3, 1) := by decide +kernel
theorem dX1_dutyLine_49 : decode cX1_dutyLine 49 = .ok (.iload_n 3, 1) := by decide +kernel
theorem dX1_dutyLine_50 : decode cX1_dutyLine 50 = .ok (.iconst (-1), 1) := by decide +kernel
theorem dX1_dutyLine_51 : decode cX1_dutyLine 51 = .ok (.if_icmp .eq 15, 3) := by decide +kernel
theorem dX1_dutyLine_54 : decode cX1_dutyLine 54 = .ok (.aload_n 0, 1) := by decide +kernel
theorem dX1_dutyLine_55 : decode cX1_dutyLine 55 = .ok (.getfield 9, 3) := by decide +kernel
theorem dX1_dutyLine_58 : decode cX1_dutyLine 58 = .ok (.bipush 11, 2) := by decide +kernel
theorem dX1_dutyLine_60 : decode cX1_dutyLine 60 = .ok (.invokevirtual 99, 3) := by decide +kernel
theorem dX1_dutyLine_63 : decode cX1_dutyLine 63 = .ok (.ifCond .ne 5, 3) := by decide +kernel
theorem dX1_dutyLine_66 : decode cX1_dutyLine 66 = .ok (.iconst 0, 1) := by decide +kernel
theorem dX1_dutyLine_67 : decode cX1_dutyLine 67 = .ok (.ireturn, 1) := by decide +kernel
theorem dX1_dutyLine_68 : decode cX1_dutyLine 68 = .ok (.aload_n 0, 1) := by decide +kernel
theorem dX1_dutyLine_69 : decode cX1_dutyLine 69 = .ok (.getfield 9, 3) := by decide +kernel
theorem dX1_dutyLine_72 : decode cX1_dutyLine 72 = .ok (.iload_n 3, 1) := by decide +kernel
theorem dX1_dutyLine_73 : decode cX1_dutyLine 73 = .ok (.sipush 999, 3) := by decide +kernel
theorem dX1_dutyLine_76 : decode cX1_dutyLine 76 = .ok (.invokevirtual 81, 3) := by decide +kernel
theorem dX1_dutyLine_79 : decode cX1_dutyLine 79 = .ok (.istore 4, 2) := by decide +kernel
theorem dX1_dutyLine_81 : decode cX1_dutyLine 81 = .ok (.iload 4, 2) := by decide +kernel
theorem dX1_dutyLine_83 : decode cX1_dutyLine 83 = .ok (.iconst (-1), 1) := by decide +kernel
theorem dX1_dutyLine_84 : decode cX1_dutyLine 84 = .ok (.if_icmp .ne 5, 3) := by decide +kernel
theorem dX1_dutyLine_87 : decode cX1_dutyLine 87 = .ok (.iconst 0, 1) := by decide +kernel
theorem dX1_dutyLine_88 : decode cX1_dutyLine 88 = .ok (.ireturn, 1) := by decide +kernel
theorem dX1_dutyLine_89 : decode cX1_dutyLine 89 = .ok (.aload_n 1, 1) := by decide +kernel
theorem dX1_dutyLine_90 : decode cX1_dutyLine 90 = .ok (.iload_n 2, 1) := by decide +kernel
theorem dX1_dutyLine_91 : decode cX1_dutyLine 91 = .ok (.iload_n 3, 1) := by decide +kernel
theorem dX1_dutyLine_92 : decode cX1_dutyLine 92 = .ok (.iload 4, 2) := by decide +kernel
theorem dX1_dutyLine_94 : decode cX1_dutyLine 94 = .ok (.invokevirtual 116, 3) := by decide +kernel
theorem dX1_dutyLine_97 : decode cX1_dutyLine 97 = .ok (.iconst 1, 1) := by decide +kernel
theorem dX1_dutyLine_98 : decode cX1_dutyLine 98 = .ok (.ireturn, 1) := by decide +kernel
theorem dX1_stormLine_0 : decode cX1_stormLine 0 = .ok (.aload_n 0, 1) := by decide +kernel
theorem dX1_stormLine_1 : decode cX1_stormLine 1 = .ok (.getfield 9, 3) := by decide +kernel
theorem dX1_stormLine_4 : decode cX1_stormLine 4 = .ok (.invokevirtual 78, 3) := by decide +kernel
theorem dX1_stormLine_7 : decode cX1_stormLine 7 = .ok (.aload_n 0, 1) := by decide +kernel
theorem dX1_stormLine_8 : decode cX1_stormLine 8 = .ok (.getfield 9, 3) := by decide +kernel
theorem dX1_stormLine_11 : decode cX1_stormLine 11 = .ok (.iconst 0, 1) := by decide +kernel
theorem dX1_stormLine_12 : decode cX1_stormLine 12 = .ok (.bipush 100, 2) := by decide +kernel
theorem dX1_stormLine_14 : decode cX1_stormLine 14 = .ok (.invokevirtual 81, 3) := by decide +kernel
theorem dX1_stormLine_17 : decode cX1_stormLine 17 = .ok (.istore_n 2, 1) := by decide +kernel
theorem dX1_stormLine_18 : decode cX1_stormLine 18 = .ok (.iload_n 2, 1) := by decide +kernel
theorem dX1_stormLine_19 : decode cX1_stormLine 19 = .ok (.iconst (-1), 1) := by decide +kernel
theorem dX1_stormLine_20 : decode cX1_stormLine 20 = .ok (.if_icmp .ne 5, 3) := by decide +kernel
theorem dX1_stormLine_23 : decode cX1_stormLine 23 = .ok (.iconst 0, 1) := by decide +kernel
theorem dX1_stormLine_24 : decode cX1_stormLine 24 = .ok (.ireturn, 1) := by decide +kernel
theorem dX1_stormLine_25 : decode cX1_stormLine 25 = .ok (.aload_n 1, 1) := by decide +kernel
theorem dX1_stormLine_26 : decode cX1_stormLine 26 = .ok (.iload_n 2, 1) := by decide +kernel
theorem dX1_stormLine_27 : decode cX1_stormLine 27 = .ok (.putfield 119, 3) := by decide +kernel
theorem dX1_stormLine_30 : decode cX1_stormLine 30 = .ok (.iconst 1, 1) := by decide +kernel
theorem dX1_stormLine_31 : decode cX1_stormLine 31 = .ok (.ireturn, 1) := by decide +kernel
theorem dX1_editionLine_0 : decode cX1_editionLine 0 = .ok (.aload_n 0, 1) := by decide +kernel
theorem dX1_editionLine_1 : decode cX1_editionLine 1 = .ok (.getfield 9, 3) := by decide +kernel
theorem dX1_editionLine_4 : decode cX1_editionLine 4 = .ok (.invokevirtual 78, 3) := by decide +kernel
theorem dX1_editionLine_7 : decode cX1_editionLine 7 = .ok (.aload_n 0, 1) := by decide +kernel
theorem dX1_editionLine_8 : decode cX1_editionLine 8 = .ok (.invokevirtual 122, 3) := by decide +kernel
theorem dX1_editionLine_11 : decode cX1_editionLine 11 = .ok (.istore_n 2, 1) := by decide +kernel
theorem dX1_editionLine_12 : decode cX1_editionLine 12 = .ok (.iload_n 2, 1) := by decide +kernel
theorem dX1_editionLine_13 : decode cX1_editionLine 13 = .ok (.bipush (-9), 2) := by decide +kernel
theorem dX1_editionLine_15 : decode cX1_editionLine 15 = .ok (.if_icmp .ne 5, 3) := by decide +kernel
theorem dX1_editionLine_18 : decode cX1_editionLine 18 = .ok (.iconst 0, 1) := by decide +kernel
theorem dX1_editionLine_19 : decode cX1_editionLine 19 = .ok (.ireturn, 1) := by decide +kernel
theorem dX1_editionLine_20 : decode cX1_editionLine 20 = .ok (.aload_n 1, 1) := by decide +kernel
theorem dX1_editionLine_21 : decode cX1_editionLine 21 = .ok (.iload_n 2, 1) := by decide +kernel
theorem dX1_editionLine_22 : decode cX1_editionLine 22 = .ok (.putfield 125, 3) := by decide +kernel
theorem dX1_editionLine_25 : decode cX1_editionLine 25 = .ok (.iconst 1, 1) := by decide +kernel
theorem dX1_editionLine_26 : decode cX1_editionLine 26 = .ok (.ireturn, 1) := by decide +kernel
theorem dX1_errorLine_0 : decode cX1_errorLine 0 = .ok (.aload_n 0, 1) := by decide +kernel
theorem dX1_errorLine_1 : decode cX1_errorLine 1 = .ok (.getfield 9, 3) := by decide +kernel
theorem dX1_errorLine_4 : decode cX1_errorLine 4 = .ok (.invokevirtual 78, 3) := by decide +kernel
theorem dX1_errorLine_7 : decode cX1_errorLine 7 = .ok (.aload_n 0, 1) := by decide +kernel
theorem dX1_errorLine_8 : decode cX1_errorLine 8 = .ok (.getfield 9, 3) := by decide +kernel
theorem dX1_errorLine_11 : decode cX1_errorLine 11 = .ok (.iconst 0, 1) := by decide +kernel
theorem dX1_errorLine_12 : decode cX1_errorLine 12 = .ok (.bipush 11, 2) := by decide +kernel
theorem dX1_errorLine_14 : decode cX1_errorLine 14 = .ok (.invokevirtual 81, 3) := by decide +kernel
theorem dX1_errorLine_17 : decode cX1_errorLine 17 = .ok (.istore_n 2, 1) := by decide +kernel
theorem dX1_errorLine_18 : decode cX1_errorLine 18 = .ok (.iload_n 2, 1) := by decide +kernel
theorem dX1_errorLine_19 : decode cX1_errorLine 19 = .ok (.iconst (-1), 1) := by decide +kernel
theorem dX1_errorLine_20 : decode cX1_errorLine 20 = .ok (.if_icmp .ne 8, 3) := by decide +kernel
theorem dX1_errorLine_23 : decode cX1_errorLine 23 = .ok (.bipush (-9), 2) := by decide +kernel
theorem dX1_errorLine_25 : decode cX1_errorLine 25 = .ok (.goto 7, 3) := by decide +kernel
theorem dX1_errorLine_28 : decode cX1_errorLine 28 = .ok (.aload_n 0, 1) := by decide +kernel
theorem dX1_errorLine_29 : decode cX1_errorLine 29 = .ok (.invokevirtual 122, 3) := by decide +kernel
theorem dX1_errorLine_32 : decode cX1_errorLine 32 = .ok (.istore_n 3, 1) := by decide +kernel
theorem dX1_errorLine_33 : decode cX1_errorLine 33 = .ok (.iload_n 3, 1) := by decide +kernel
theorem dX1_errorLine_34 : decode cX1_errorLine 34 = .ok (.bipush (-9), 2) := by decide +kernel
theorem dX1_errorLine_36 : decode cX1_errorLine 36 = .ok (.if_icmp .ne 5, 3) := by decide +kernel
theorem dX1_errorLine_39 : decode cX1_errorLine 39 = .ok (.iconst 0, 1) := by decide +kernel
theorem dX1_errorLine_40 : decode cX1_errorLine 40 = .ok (.ireturn, 1) := by decide +kernel
theorem dX1_errorLine_41 : decode cX1_errorLine 41 = .ok (.aload_n 1, 1) := by decide +kernel
theorem dX1_errorLine_42 : decode cX1_errorLine 42 = .ok (.getfield 128, 3) := by decide +kernel
theorem dX1_errorLine_45 : decode cX1_errorLine 45 = .ok (.iload_n 2, 1) := by decide +kernel
theorem dX1_errorLine_46 : decode cX1_errorLine 46 = .ok (.iload_n 3, 1) := by decide +kernel
theorem dX1_errorLine_47 : decode cX1_errorLine 47 = .ok (.invokestatic 89, 3) := by decide +kernel
theorem dX1_errorLine_50 : decode cX1_errorLine 50 = .ok (.iconst 1, 1) := by decide +kernel
theorem dX1_errorLine_51 : decode cX1_errorLine 51 = .ok (.ireturn, 1) := by decide +kernel
theorem dX1_change_0 : decode cX1_change 0 = .ok (.aload_n 0, 1) := by decide +kernel
theorem dX1_change_1 : decode cX1_change 1 = .ok (.getfield 9, 3) := by decide +kernel
theorem dX1_change_4 : decode cX1_change 4 = .ok (.invokevirtual 39, 3) := by decide +kernel
theorem dX1_change_7 : decode cX1_change 7 = .ok (.istore_n 1, 1) := by decide +kernel
theorem dX1_change_8 : decode cX1_change 8 = .ok (.iload_n 1, 1) := by decide +kernel
theorem dX1_change_9 : decode cX1_change 9 = .ok (.bipush 12, 2) := by decide +kernel
theorem dX1_change_11 : decode cX1_change 11 = .ok (.if_icmp .eq 20, 3) := by decide +kernel
theorem dX1_change_14 : decode cX1_change 14 = .ok (.iload_n 1, 1) := by decide +kernel
theorem dX1_change_15 : decode cX1_change 15 = .ok (.bipush 13, 2) := by decide +kernel
theorem dX1_change_17 : decode cX1_change 17 = .ok (.if_icmp .eq 14, 3) := by decide +kernel
theorem dX1_change_20 : decode cX1_change 20 = .ok (.aload_n 0, 1) := by decide +kernel
theorem dX1_change_21 : decode cX1_change 21 = .ok (.getfield 9, 3) := by decide +kernel
theorem dX1_change_24 : decode cX1_change 24 = .ok (.invokevirtual 24, 3) := by decide +kernel
theorem dX1_change_27 : decode cX1_change 27 = .ok (.pop, 1) := by decide +kernel
theorem dX1_change_28 : decode cX1_change 28 = .ok (.bipush (-9), 2) := by decide +kernel
theorem dX1_change_30 : decode cX1_change 30 = .ok (.ireturn, 1) := by decide +kernel
theorem dX1_change_31 : decode cX1_change 31 = .ok (.aload_n 0, 1) := by decide +kernel
theorem dX1_change_32 : decode cX1_change 32 = .ok (.getfield 9, 3) := by decide +kernel
theorem dX1_change_35 : decode cX1_change 35 = .ok (.invokevirtual 78, 3) := by decide +kernel
theorem dX1_change_38 : decode cX1_change 38 = .ok (.aload_n 0, 1) := by decide +kernel
theorem dX1_change_39 : decode cX1_change 39 = .ok (.getfield 9, 3) := by decide +kernel
theorem dX1_change_42 : decode cX1_change 42 = .ok (.iconst 0, 1) := by decide +kernel
theorem dX1_change_43 : decode cX1_change 43 = .ok (.iconst 3, 1) := by decide +kernel
theorem dX1_change_44 : decode cX1_change 44 = .ok (.invokevirtual 81, 3) := by decide +kernel
theorem dX1_change_47 : decode cX1_change 47 = .ok (.istore_n 2, 1) := by decide +kernel
theorem dX1_change_48 : decode cX1_change 48 = .ok (.iload_n 2, 1) := by decide +kernel
theorem dX1_change_49 : decode cX1_change 49 = .ok (.iconst (-1), 1) := by decide +kernel
theorem dX1_change_50 : decode cX1_change 50 = .ok (.if_icmp .ne 6, 3) := by decide +kernel
theorem dX1_change_53 : decode cX1_change 53 = .ok (.bipush (-9), 2) := by decide +kernel
theorem dX1_change_55 : decode cX1_change 55 = .ok (.ireturn, 1) := by decide +kernel
theorem dX1_change_56 : decode cX1_change 56 = .ok (.iload_n 1, 1) := by decide +kernel
theorem dX1_change_57 : decode cX1_change 57 = .ok (.bipush 12, 2) := by decide +kernel
theorem dX1_change_59 : decode cX1_change 59 = .ok (.if_icmp .ne 7, 3) := by decide +kernel
theorem dX1_change_62 : decode cX1_change 62 = .ok (.iload_n 2, 1) := by decide +kernel
theorem dX1_change_63 : decode cX1_change 63 = .ok (.goto 5, 3) := by decide +kernel
theorem dX1_change_66 : decode cX1_change 66 = .ok (.iload_n 2, 1) := by decide +kernel
theorem dX1_change_67 : decode cX1_change 67 = .ok (.ineg, 1) := by decide +kernel
theorem dX1_change_68 : decode cX1_change 68 = .ok (.ireturn, 1) := by decide +kernel
theorem dX2_init_0 : decode cX2_init 0 = .ok (.aload_n 0, 1) := by decide +kernel
theorem dX2_init_1 : decode cX2_init 1 = .ok (.invokespecial 3, 3) := by decide +kernel
theorem dX2_init_4 : decode cX2_init 4 = .ok (.aload_n 0, 1) := by decide +kernel
theorem dX2_init_5 : decode cX2_init 5 = .ok (.bipush 36, 2) := by decide +kernel
theorem dX2_init_7 : decode cX2_init 7 = .ok (.newarray .int, 2) := by decide +kernel
theorem dX2_init_9 : decode cX2_init 9 = .ok (.putfield 9, 3) := by decide +kernel
theorem dX2_init_12 : decode cX2_init 12 = .ok (.aload_n 0, 1) := by decide +kernel
theorem dX2_init_13 : decode cX2_init 13 = .ok (.bipush 64, 2) := by decide +kernel
theorem dX2_init_15 : decode cX2_init 15 = .ok (.newarray .int, 2) := by decide +kernel
theorem dX2_init_17 : decode cX2_init 17 = .ok (.putfield 15, 3) := by decide +kernel
theorem dX2_init_20 : decode cX2_init 20 = .ok (.aload_n 0, 1) := by decide +kernel
theorem dX2_init_21 : decode cX2_init 21 = .ok (.bipush 6, 2) := by decide +kernel
theorem dX2_init_23 : decode cX2_init 23 = .ok (.newarray .int, 2) := by decide +kernel
theorem dX2_init_25 : decode cX2_init 25 = .ok (.putfield 18, 3) := by decide +kernel
theorem dX2_init_28 : decode cX2_init 28 = .ok (.aload_n 0, 1) := by decide +kernel
theorem dX2_init_29 : decode cX2_init 29 = .ok (.bipush 6, 2) := by decide +kernel
theorem dX2_init_31 : decode cX2_init 31 = .ok (.newarray .int, 2) := by decide +kernel
theorem dX2_init_33 : decode cX2_init 33 = .ok (.putfield 21, 3) := by decide +kernel
theorem dX2_init_36 : decode cX2_init 36 = .ok (.aload_n 0, 1) := by decide +kernel
theorem dX2_init_37 : decode cX2_init 37 = .ok (.bipush 6, 2) := by decide +kernel
theorem dX2_init_39 : decode cX2_init 39 = .ok (.newarray .int, 2) := by decide +kernel
theorem dX2_init_41 : decode cX2_init 41 = .ok (.putfield 24, 3) := by decide +kernel
theorem dX2_init_44 : decode cX2_init 44 = .ok (.aload_n 0, 1) := by decide +kernel
theorem dX2_init_45 : decode cX2_init 45 = .ok (.iconst 0, 1) := by decide +kernel
theorem dX2_init_46 : decode cX2_init 46 = .ok (.putfield 27, 3) := by decide +kernel
theorem dX2_init_49 : decode cX2_init 49 = .ok (.aload_n 0, 1) := by decide +kernel
theorem dX2_init_50 : decode cX2_init 50 = .ok (.aload_n 1, 1) := by decide +kernel
theorem dX2_init_51 : decode cX2_init 51 = .ok (.putfield 31, 3) := by decide +kernel
theorem dX2_init_54 : decode cX2_init 54 = .ok (.return_, 1) := by decide +kernel
theorem dX2_sendAll_0 : decode cX2_sendAll 0 = .ok (.aload_n 0, 1) := by decide +kernel
theorem dX2_sendAll_1 : decode cX2_sendAll 1 = .ok (.aload_n 1, 1) := by decide +kernel
theorem dX2_sendAll_2 : decode cX2_sendAll 2 = .ok (.aload_n 2, 1) := by decide +kernel
theorem dX2_sendAll_3 : decode cX2_sendAll 3 = .ok (.iload_n 3, 1) := by decide +kernel
theorem dX2_sendAll_4 : decode cX2_sendAll 4 = .ok (.invokevirtual 35, 3) := by decide +kernel
theorem dX2_sendAll_7 : decode cX2_sendAll 7 = .ok (.iconst 1, 1) := by decide +kernel
theorem dX2_sendAll_8 : decode cX2_sendAll 8 = .ok (.iload_n 3, 1) := by decide +kernel
theorem dX2_sendAll_9 : decode cX2_sendAll 9 = .ok (.ishl, 1) := by decide +kernel
theorem dX2_sendAll_10 : decode cX2_sendAll 10 = .ok (.iconst 1, 1) := by decide +kernel
theorem dX2_sendAll_11 : decode cX2_sendAll 11 = .ok (.isub, 1) := by decide +kernel
theorem dX2_sendAll_12 : decode cX2_sendAll 12 = .ok (.istore 4, 2) := by decide +kernel
theorem dX2_sendAll_14 : decode cX2_sendAll 14 = .ok (.aload_n 0, 1) := by decide +kernel
theorem dX2_sendAll_15 : decode cX2_sendAll 15 = .ok (.getfield 15, 3) := by decide +kernel
theorem dX2_sendAll_18 : decode cX2_sendAll 18 = .ok (.iload 4, 2) := by decide +kernel
theorem dX2_sendAll_20 : decode cX2_sendAll 20 = .ok (.iconst 0, 1) := by decide +kernel
theorem dX2_sendAll_21 : decode cX2_sendAll 21 = .ok (.invokestatic 39, 3) := by decide +kernel
theorem dX2_sendAll_24 : decode cX2_sendAll 24 = .ok (.iload 4, 2) := by decide +kernel
theorem dX2_sendAll_26 : decode cX2_sendAll 26 = .ok (.iconst 1, 1) := by decide +kernel
theorem dX2_sendAll_27 : decode cX2_sendAll 27 = .ok (.isub, 1) := by decide +kernel
theorem dX2_sendAll_28 : decode cX2_sendAll 28 = .ok (.istore 5, 2) := by decide +kernel
theorem dX2_sendAll_30 : decode cX2_sendAll 30 = .ok (.iload 5, 2) := by decide +kernel
theorem dX2_sendAll_32 : decode cX2_sendAll 32 = .ok (.ifCond .lt 73, 3) := by decide +kernel
theorem dX2_sendAll_35 : decode cX2_sendAll 35 = .ok (.iload 5, 2) := by decide +kernel
theorem dX2_sendAll_37 : decode cX2_sendAll 37 = .ok (.invokestatic 43, 3) := by decide +kernel
theorem dX2_sendAll_40 : decode cX2_sendAll 40 = .ok (.istore 6, 2) := by decide +kernel
theorem dX2_sendAll_42 : decode cX2_sendAll 42 = .ok (.ldc 49, 2) := by decide +kernel
theorem dX2_sendAll_44 : decode cX2_sendAll 44 = .ok (.istore 7, 2) := by decide +kernel
theorem dX2_sendAll_46 : decode cX2_sendAll 46 = .ok (.iconst 0, 1) := by decide +kernel
theorem dX2_sendAll_47 : decode cX2_sendAll 47 = .ok (.istore 8, 2) := by decide +kernel
theorem dX2_sendAll_49 : decode cX2_sendAll 49 = .ok (.iload 8, 2) := by decide +kernel
theorem dX2_sendAll_51 : decode cX2_sendAll 51 = .ok (.iload_n 3, 1) := by decide +kernel
theorem dX2_sendAll_52 : decode cX2_sendAll 52 = .ok (.if_icmp .ge 36, 3) := by decide +kernel
theorem dX2_sendAll_55 : decode cX2_sendAll 55 = .ok (.iload 5, 2) := by decide +kernel
theorem dX2_sendAll_57 : decode cX2_sendAll 57 = .ok (.iload 8, 2) := by decide +kernel
theorem dX2_sendAll_59 : decode cX2_sendAll 59 = .ok (.invokestatic 50, 3) := by decide +kernel
theorem dX2_sendAll_62 : decode cX2_sendAll 62 = .ok (.ifCond .ne 20, 3) := by decide +kernel
theorem dX2_sendAll_65 : decode cX2_sendAll 65 = .ok (.iload 7, 2) := by decide +kernel
theorem dX2_sendAll_67 : decode cX2_sendAll 67 = .ok (.aload_n 0, 1) := by decide +kernel
theorem dX2_sendAll_68 : decode cX2_sendAll 68 = .ok (.iload 5, 2) := by decide +kernel
theorem dX2_sendAll_70 : decode cX2_sendAll 70 = .ok (.iload 6, 2) := by decide +kernel
theorem dX2_sendAll_72 : decode cX2_sendAll 72 = .ok (.iload 8, 2) := by decide +kernel
theorem dX2_sendAll_74 : decode cX2_sendAll 74 = .ok (.invokevirtual 54, 3) := by decide +kernel
theorem dX2_sendAll_77 : decode cX2_sendAll 77 = .ok (.invokestatic 58, 3) := by decide +kernel
theorem dX2_sendAll_80 : decode cX2_sendAll 80 = .ok (.istore 7, 2) := by decide +kernel
theorem dX2_sendAll_82 : decode cX2_sendAll 82 = .ok (.iinc 8 1, 3) := by decide +kernel
theorem dX2_sendAll_85 : decode cX2_sendAll 85 = .ok (.goto (-36), 3) := by decide +kernel
theorem dX2_sendAll_88 : decode cX2_sendAll 88 = .ok (.aload_n 0, 1) := by decide +kernel
theorem dX2_sendAll_89 : decode cX2_sendAll 89 = .ok (.getfield 15, 3) := by decide +kernel
theorem dX2_sendAll_92 : decode cX2_sendAll 92 = .ok (.iload 5, 2) := by decide +kernel
theorem dX2_sendAll_94 : decode cX2_sendAll 94 = .ok (.iload 7, 2) := by decide +kernel
theorem dX2_sendAll_96 : decode cX2_sendAll 96 = .ok (.invokestatic 39, 3) := by decide +kernel
theorem dX2_sendAll_99 : decode cX2_sendAll 99 = .ok (.iinc 5 (-1), 3) := by decide +kernel
theorem dX2_sendAll_102 : decode cX2_sendAll 102 = .ok (.goto (-72), 3) := by decide +kernel
theorem dX2_sendAll_105 : decode cX2_sendAll 105 = .ok (.aload_n 0, 1) := by decide +kernel
theorem dX2_sendAll_106 : decode cX2_sendAll 106 = .ok (.getfield 15, 3) := by decide +kernel
theorem dX2_sendAll_109 : decode cX2_sendAll 109 = .ok (.iconst 0, 1) := by decide +kernel
theorem dX2_sendAll_110 : decode cX2_sendAll 110 = .ok (.invokestatic 64, 3) := by decide +kernel
theorem dX2_sendAll_113 : decode cX2_sendAll 113 = .ok (.ldc 49, 2) := by decide +kernel
theorem dX2_sendAll_115 : decode cX2_sendAll 115 = .ok (.if_icmp .lt 5, 3) := by decide +kernel
theorem dX2_sendAll_118 : decode cX2_sendAll 118 = .ok (.iconst (-1), 1) := by decide +kernel
theorem dX2_sendAll_119 : decode cX2_sendAll 119 = .ok (.ireturn, 1) := by decide +kernel
theorem dX2_sendAll_120 : decode cX2_sendAll 120 = .ok (.aload_n 0, 1) := by decide +kernel
theorem dX2_sendAll_121 : decode cX2_sendAll 121 = .ok (.aload_n 1, 1) := by decide +kernel
theorem dX2_sendAll_122 : decode cX2_sendAll 122 = .ok (.iload_n 3, 1) := by decide +kernel
theorem dX2_sendAll_123 : decode cX2_sendAll 123 = .ok (.invokevirtual 68, 3) := by decide +kernel
theorem dX2_sendAll_126 : decode cX2_sendAll 126 = .ok (.aload_n 0, 1) := by decide +kernel
theorem dX2_sendAll_127 : decode cX2_sendAll 127 = .ok (.getfield 15, 3) := by decide +kernel
theorem dX2_sendAll_130 : decode cX2_sendAll 130 = .ok (.iconst 0, 1) := by decide +kernel
theorem dX2_sendAll_131 : decode cX2_sendAll 131 = .ok (.invokestatic 64, 3) := by decide +kernel
theorem dX2_sendAll_134 : decode cX2_sendAll 134 = .ok (.ireturn, 1) := by decide +kernel
theorem dX2_measure_0 : decode cX2_measure 0 = .ok (.aload_n 0, 1) := by decide +kernel
theorem dX2_measure_1 : decode cX2_measure 1 = .ok (.getfield 31, 3) := by decide +kernel
theorem dX2_measure_4 : decode cX2_measure 4 = .ok (.aload_n 1, 1) := by decide +kernel
theorem dX2_measure_5 : decode cX2_measure 5 = .ok (.invokevirtual 72, 3) := by decide +kernel
theorem dX2_measure_8 : decode cX2_measure 8 = .ok (.iconst 0, 1) := by decide +kernel
theorem dX2_measure_9 : decode cX2_measure 9 = .ok (.istore 4, 2) := by decide +kernel
theorem dX2_measure_11 : decode cX2_measure 11 = .ok (.iconst 0, 1) := by decide +kernel
theorem dX2_measure_12 : decode cX2_measure 12 = .ok (.istore 5, 2) := by decide +kernel
theorem dX2_measure_14 : decode cX2_measure 14 = .ok (.iload 5, 2) := by decide +kernel
theorem dX2_measure_16 : decode cX2_measure 16 = .ok (.aload_n 1, 1) := by decide +kernel
theorem dX2_measure_17 : decode cX2_measure 17 = .ok (.getfield 78, 3) := by decide +kernel
theorem dX2_measure_20 : decode cX2_measure 20 = .ok (.if_icmp .ge 82, 3) := by decide +kernel
theorem dX2_measure_23 : decode cX2_measure 23 = .ok (.aload_n 1, 1) := by decide +kernel
theorem dX2_measure_24 : decode cX2_measure 24 = .ok (.iload 5, 2) := by decide +kernel
theorem dX2_measure_26 : decode cX2_measure 26 = .ok (.invokevirtual 83, 3) := by decide +kernel
theorem dX2_measure_29 : decode cX2_measure 29 = .ok (.ifCond .ne 67, 3) := by decide +kernel
theorem dX2_measure_32 : decode cX2_measure 32 = .ok (.iconst 0, 1) := by decide +kernel
theorem dX2_measure_33 : decode cX2_measure 33 = .ok (.istore 6, 2) := by decide +kernel
theorem dX2_measure_35 : decode cX2_measure 35 = .ok (.iload 6, 2) := by decide +kernel
theorem dX2_measure_37 : decode cX2_measure 37 = .ok (.iload_n 3, 1) := by decide +kernel
theorem dX2_measure_38 : decode cX2_measure 38 = .ok (.if_icmp .ge 55, 3) := by decide +kernel
theorem dX2_measure_41 : decode cX2_measure 41 = .ok (.aload_n 0, 1) := by decide +kernel
theorem dX2_measure_42 : decode cX2_measure 42 = .ok (.getfield 31, 3) := by decide +kernel
theorem dX2_measure_45 : decode cX2_measure 45 = .ok (.aload_n 1, 1) := by decide +kernel
theorem dX2_measure_46 : decode cX2_measure 46 = .ok (.iload 5, 2) := by decide +kernel
theorem dX2_measure_48 : decode cX2_measure 48 = .ok (.aload_n 2, 1) := by decide +kernel
theorem dX2_measure_49 : decode cX2_measure 49 = .ok (.iload 6, 2) := by decide +kernel
theorem dX2_measure_51 : decode cX2_measure 51 = .ok (.invokestatic 64, 3) := by decide +kernel
theorem dX2_measure_54 : decode cX2_measure 54 = .ok (.invokevirtual 87, 3) := by decide +kernel
theorem dX2_measure_57 : decode cX2_measure 57 = .ok (.istore 7, 2) := by decide +kernel
theorem dX2_measure_59 : decode cX2_measure 59 = .ok (.aload_n 0, 1) := by decide +kernel
theorem dX2_measure_60 : decode cX2_measure 60 = .ok (.getfield 9, 3) := by decide +kernel
theorem dX2_measure_63 : decode cX2_measure 63 = .ok (.iload 4, 2) := by decide +kernel
theorem dX2_measure_65 : decode cX2_measure 65 = .ok (.bipush 6, 2) := by decide +kernel
theorem dX2_measure_67 : decode cX2_measure 67 = .ok (.imul, 1) := by decide +kernel
theorem dX2_measure_68 : decode cX2_measure 68 = .ok (.iload 6, 2) := by decide +kernel
theorem dX2_measure_70 : decode cX2_measure 70 = .ok (.iadd, 1) := by decide +kernel
theorem dX2_measure_71 : decode cX2_measure 71 = .ok (.iload 7, 2) := by decide +kernel
theorem dX2_measure_73 : decode cX2_measure 73 = .ok (.iconst (-1), 1) := by decide +kernel
theorem dX2_measure_74 : decode cX2_measure 74 = .ok (.if_icmp .ne 8, 3) := by decide +kernel
theorem dX2_measure_77 : decode cX2_measure 77 = .ok (.ldc 49, 2) := by decide +kernel
theorem dX2_measure_79 : decode cX2_measure 79 = .ok (.goto 5, 3) := by decide +kernel
theorem dX2_measure_82 : decode cX2_measure 82 = .ok (.iload 7, 2) := by decide +kernel
theorem dX2_measure_84 : decode cX2_measure 84 = .ok (.invokestatic 39, 3) := by decide +kernel
theorem dX2_measure_87 : decode cX2_measure 87 = .ok (.iinc 6 1, 3) := by decide +kernel
theorem dX2_measure_90 : decode cX2_measure 90 = .ok (.goto (-55), 3) := by decide +kernel
theorem dX2_measure_93 : decode cX2_measure 93 = .ok (.iinc 4 1, 3) := by decide +kernel
theorem dX2_measure_96 : decode cX2_measure 96 = .ok (.iinc 5 1, 3) := by decide +kernel
theorem dX2_measure_99 : decode cX2_measure 99 = .ok (.goto (-85), 3) := by decide +kernel
theorem dX2_measure_102 : decode cX2_measure 102 = .ok (.return_, 1) := by decide +kernel
theorem dX2_hoursBy_0 : decode cX2_hoursBy 0 = .ok (.aload_n 0, 1) := by decide +kernel
theorem dX2_hoursBy_1 : decode cX2_hoursBy 1 = .ok (.getfield 9, 3) := by decide +kernel
theorem dX2_hoursBy_4 : decode cX2_hoursBy 4 = .ok (.iload_n 2, 1) := by decide +kernel
theorem dX2_hoursBy_5 : decode cX2_hoursBy 5 = .ok (.bipush 6, 2) := by decide +kernel
theorem dX2_hoursBy_7 : decode cX2_hoursBy 7 = .ok (.imul, 1) := by decide +kernel
theorem dX2_hoursBy_8 : decode cX2_hoursBy 8 = .ok (.iload_n 3, 1) := by decide +kernel
theorem dX2_hoursBy_9 : decode cX2_hoursBy 9 = .ok (.iadd, 1) := by decide +kernel
theorem dX2_hoursBy_10 : decode cX2_hoursBy 10 = .ok (.invokestatic 64, 3) := by decide +kernel
theorem dX2_hoursBy_13 : decode cX2_hoursBy 13 = .ok (.aload_n 0, 1) := by decide +kernel
theorem dX2_hoursBy_14 : decode cX2_hoursBy 14 = .ok (.getfield 15, 3) := by decide +kernel
theorem dX2_hoursBy_17 : decode cX2_hoursBy 17 = .ok (.iload_n 1, 1) := by decide +kernel
theorem dX2_hoursBy_18 : decode cX2_hoursBy 18 = .ok (.iconst 1, 1) := by decide +kernel
theorem dX2_hoursBy_19 : decode cX2_hoursBy 19 = .ok (.iload_n 3, 1) := by decide +kernel
theorem dX2_hoursBy_20 : decode cX2_hoursBy 20 = .ok (.ishl, 1) := by decide +kernel
theorem dX2_hoursBy_21 : decode cX2_hoursBy 21 = .ok (.ior, 1) := by decide +kernel
theorem dX2_hoursBy_22 : decode cX2_hoursBy 22 = .ok (.invokestatic 64, 3) := by decide +kernel
theorem dX2_hoursBy_25 : decode cX2_hoursBy 25 = .ok (.iadd, 1) := by decide +kernel
theorem dX2_hoursBy_26 : decode cX2_hoursBy 26 = .ok (.ireturn, 1) := by decide +kernel
theorem dX2_choose_0 : decode cX2_choose 0 = .ok (.iconst 0, 1) := by decide +kernel
theorem dX2_choose_1 : decode cX2_choose 1 = .ok (.istore_n 3, 1) := by decide +kernel
theorem dX2_choose_2 : decode cX2_choose 2 = .ok (.iconst 0, 1) := by decide +kernel
theorem dX2_choose_3 : decode cX2_choose 3 = .ok (.istore 4, 2) := by decide +kernel
theorem dX2_choose_5 : decode cX2_choose 5 = .ok (.iconst 0, 1) := by decide +kernel
theorem dX2_choose_6 : decode cX2_choose 6 = .ok (.istore 5, 2) := by decide +kernel
theorem dX2_choose_8 : decode cX2_choose 8 = .ok (.iload 5, 2) := by decide +kernel
theorem dX2_choose_10 : decode cX2_choose 10 = .ok (.aload_n 1, 1) := by decide +kernel
theorem dX2_choose_11 : decode cX2_choose 11 = .ok (.getfield 78, 3) := by decide +kernel
theorem dX2_choose_14 : decode cX2_choose 14 = .ok (.if_icmp .ge 59, 3) := by decide +kernel
theorem dX2_choose_17 : decode cX2_choose 17 = .ok (.aload_n 0, 1) := by decide +kernel
theorem dX2_choose_18 : decode cX2_choose 18 = .ok (.getfield 18, 3) := by decide +kernel
theorem dX2_choose_21 : decode cX2_choose 21 = .ok (.iload 5, 2) := by decide +kernel
theorem dX2_choose_23 : decode cX2_choose 23 = .ok (.iconst (-1), 1) := by decide +kernel
theorem dX2_choose_24 : decode cX2_choose 24 = .ok (.invokestatic 39, 3) := by decide +kernel
theorem dX2_choose_27 : decode cX2_choose 27 = .ok (.aload_n 1, 1) := by decide +kernel
theorem dX2_choose_28 : decode cX2_choose 28 = .ok (.iload 5, 2) := by decide +kernel
theorem dX2_choose_30 : decode cX2_choose 30 = .ok (.invokevirtual 83, 3) := by decide +kernel
theorem dX2_choose_33 : decode cX2_choose 33 = .ok (.ifCond .ne 34, 3) := by decide +kernel
theorem dX2_choose_36 : decode cX2_choose 36 = .ok (.aload_n 0, 1) := by decide +kernel
theorem dX2_choose_37 : decode cX2_choose 37 = .ok (.iload_n 3, 1) := by decide +kernel
theorem dX2_choose_38 : decode cX2_choose 38 = .ok (.iload 4, 2) := by decide +kernel
theorem dX2_choose_40 : decode cX2_choose 40 = .ok (.iload_n 2, 1) := by decide +kernel
theorem dX2_choose_41 : decode cX2_choose 41 = .ok (.invokevirtual 91, 3) := by decide +kernel
theorem dX2_choose_44 : decode cX2_choose 44 = .ok (.istore 6, 2) := by decide +kernel
theorem dX2_choose_46 : decode cX2_choose 46 = .ok (.aload_n 0, 1) := by decide +kernel
theorem dX2_choose_47 : decode cX2_choose 47 = .ok (.getfield 18, 3) := by decide +kernel
theorem dX2_choose_50 : decode cX2_choose 50 = .ok (.iload 5, 2) := by decide +kernel
theorem dX2_choose_52 : decode cX2_choose 52 = .ok (.iload 6, 2) := by decide +kernel
theorem dX2_choose_54 : decode cX2_choose 54 = .ok (.invokestatic 39, 3) := by decide +kernel
theorem dX2_choose_57 : decode cX2_choose 57 = .ok (.iload_n 3, 1) := by decide +kernel
theorem dX2_choose_58 : decode cX2_choose 58 = .ok (.iconst 1, 1) := by decide +kernel
theorem dX2_choose_59 : decode cX2_choose 59 = .ok (.iload 6, 2) := by decide +kernel
theorem dX2_choose_61 : decode cX2_choose 61 = .ok (.ishl, 1) := by decide +kernel
theorem dX2_choose_62 : decode cX2_choose 62 = .ok (.ior, 1) := by decide +kernel
theorem dX2_choose_63 : decode cX2_choose 63 = .ok (.istore_n 3, 1) := by decide +kernel
theorem dX2_choose_64 : decode cX2_choose 64 = .ok (.iinc 4 1, 3) := by decide +kernel
theorem dX2_choose_67 : decode cX2_choose 67 = .ok (.iinc 5 1, 3) := by decide +kernel
theorem dX2_choose_70 : decode cX2_choose 70 = .ok (.goto (-62), 3) := by decide +kernel
theorem dX2_choose_73 : decode cX2_choose 73 = .ok (.return_, 1) := by decide +kernel
theorem dX2_leastPlace_0 : decode cX2_leastPlace 0 = .ok (.iconst 0, 1) := by decide +kernel
theorem dX2_leastPlace_1 : decode cX2_leastPlace 1 = .ok (.istore 4, 2) := by decide +kernel
theorem dX2_leastPlace_3 : decode cX2_leastPlace 3 = .ok (.iload 4, 2) := by decide +kernel
theorem dX2_leastPlace_5 : decode cX2_leastPlace 5 = .ok (.iload_n 3, 1) := by decide +kernel
theorem dX2_leastPlace_6 : decode cX2_leastPlace 6 = .ok (.if_icmp .ge 40, 3) := by decide +kernel
theorem dX2_leastPlace_9 : decode cX2_leastPlace 9 = .ok (.iload_n 1, 1) := by decide +kernel
theorem dX2_leastPlace_10 : decode cX2_leastPlace 10 = .ok (.iload 4, 2) := by decide +kernel
theorem dX2_leastPlace_12 : decode cX2_leastPlace 12 = .ok (.invokestatic 50, 3) := by decide +kernel
theorem dX2_leastPlace_15 : decode cX2_leastPlace 15 = .ok (.ifCond .ne 25, 3) := by decide +kernel
theorem dX2_leastPlace_18 : decode cX2_leastPlace 18 = .ok (.aload_n 0, 1) := by decide +kernel
theorem dX2_leastPlace_19 : decode cX2_leastPlace 19 = .ok (.iload_n 1, 1) := by decide +kernel
theorem dX2_leastPlace_20 : decode cX2_leastPlace 20 = .ok (.iload_n 2, 1) := by decide +kernel
theorem dX2_leastPlace_21 : decode cX2_leastPlace 21 = .ok (.iload 4, 2) := by decide +kernel
theorem dX2_leastPlace_23 : decode cX2_leastPlace 23 = .ok (.invokevirtual 54, 3) := by decide +kernel
theorem dX2_leastPlace_26 : decode cX2_leastPlace 26 = .ok (.aload_n 0, 1) := by decide +kernel
theorem dX2_leastPlace_27 : decode cX2_leastPlace 27 = .ok (.getfield 15, 3) := by decide +kernel
theorem dX2_leastPlace_30 : decode cX2_leastPlace 30 = .ok (.iload_n 1, 1) := by decide +kernel
theorem dX2_leastPlace_31 : decode cX2_leastPlace 31 = .ok (.invokestatic 64, 3) := by decide +kernel
theorem dX2_leastPlace_34 : decode cX2_leastPlace 34 = .ok (.if_icmp .ne 6, 3) := by decide +kernel
theorem dX2_leastPlace_37 : decode cX2_leastPlace 37 = .ok (.iload 4, 2) := by decide +kernel
theorem dX2_leastPlace_39 : decode cX2_leastPlace 39 = .ok (.ireturn, 1) := by decide +kernel
theorem dX2_leastPlace_40 : decode cX2_leastPlace 40 = .ok (.iinc 4 1, 3) := by decide +kernel
theorem dX2_leastPlace_43 : decode cX2_leastPlace 43 = .ok (.goto (-40), 3) := by decide +kernel
theorem dX2_leastPlace_46 : decode cX2_leastPlace 46 = .ok (.iconst 0, 1) := by decide +kernel
theorem dX2_leastPlace_47 : decode cX2_leastPlace 47 = .ok (.ireturn, 1) := by decide +kernel
theorem dX2_sentTo_0 : decode cX2_sentTo 0 = .ok (.aload_n 0, 1) := by decide +kernel
theorem dX2_sentTo_1 : decode cX2_sentTo 1 = .ok (.getfield 18, 3) := by decide +kernel
theorem dX2_sentTo_4 : decode cX2_sentTo 4 = .ok (.iload_n 1, 1) := by decide +kernel
theorem dX2_sentTo_5 : decode cX2_sentTo 5 = .ok (.invokestatic 64, 3) := by decide +kernel
theorem dX2_sentTo_8 : decode cX2_sentTo 8 = .ok (.ireturn, 1) := by decide +kernel
theorem dX2_keepMost_0 : decode cX2_keepMost 0 = .ok (.aload_n 0, 1) := by decide +kernel
theorem dX2_keepMost_1 : decode cX2_keepMost 1 = .ok (.getfield 31, 3) := by decide +kernel
theorem dX2_keepMost_4 : decode cX2_keepMost 4 = .ok (.aload_n 1, 1) := by decide +kernel
theorem dX2_keepMost_5 : decode cX2_keepMost 5 = .ok (.invokevirtual 72, 3) := by decide +kernel
theorem dX2_keepMost_8 : decode cX2_keepMost 8 = .ok (.aload_n 0, 1) := by decide +kernel
theorem dX2_keepMost_9 : decode cX2_keepMost 9 = .ok (.iconst 0, 1) := by decide +kernel
theorem dX2_keepMost_10 : decode cX2_keepMost 10 = .ok (.putfield 27, 3) := by decide +kernel
theorem dX2_keepMost_13 : decode cX2_keepMost 13 = .ok (.aload_n 1, 1) := by decide +kernel
theorem dX2_keepMost_14 : decode cX2_keepMost 14 = .ok (.iload_n 2, 1) := by decide +kernel
theorem dX2_keepMost_15 : decode cX2_keepMost 15 = .ok (.iconst 0, 1) := by decide +kernel
theorem dX2_keepMost_16 : decode cX2_keepMost 16 = .ok (.invokevirtual 94, 3) := by decide +kernel
theorem dX2_keepMost_19 : decode cX2_keepMost 19 = .ok (.istore_n 3, 1) := by decide +kernel
theorem dX2_keepMost_20 : decode cX2_keepMost 20 = .ok (.aload_n 0, 1) := by decide +kernel
theorem dX2_keepMost_21 : decode cX2_keepMost 21 = .ok (.aload_n 1, 1) := by decide +kernel
theorem dX2_keepMost_22 : decode cX2_keepMost 22 = .ok (.aload_n 1, 1) := by decide +kernel
theorem dX2_keepMost_23 : decode cX2_keepMost 23 = .ok (.iload_n 2, 1) := by decide +kernel
theorem dX2_keepMost_24 : decode cX2_keepMost 24 = .ok (.iconst 2, 1) := by decide +kernel
theorem dX2_keepMost_25 : decode cX2_keepMost 25 = .ok (.invokevirtual 94, 3) := by decide +kernel
theorem dX2_keepMost_28 : decode cX2_keepMost 28 = .ok (.iload_n 3, 1) := by decide +kernel
theorem dX2_keepMost_29 : decode cX2_keepMost 29 = .ok (.aload_n 1, 1) := by decide +kernel
theorem dX2_keepMost_30 : decode cX2_keepMost 30 = .ok (.getfield 97, 3) := by decide +kernel
theorem dX2_keepMost_33 : decode cX2_keepMost 33 = .ok (.aload_n 1, 1) := by decide +kernel
theorem dX2_keepMost_34 : decode cX2_keepMost 34 = .ok (.getfield 100, 3) := by decide +kernel
theorem dX2_keepMost_37 : decode cX2_keepMost 37 = .ok (.iconst 0, 1) := by decide +kernel
theorem dX2_keepMost_38 : decode cX2_keepMost 38 = .ok (.invokevirtual 103, 3) := by decide +kernel
theorem dX2_keepMost_41 : decode cX2_keepMost 41 = .ok (.aload_n 0, 1) := by decide +kernel
theorem dX2_keepMost_42 : decode cX2_keepMost 42 = .ok (.getfield 27, 3) := by decide +kernel
theorem dX2_keepMost_45 : decode cX2_keepMost 45 = .ok (.ireturn, 1) := by decide +kernel
theorem dX2_tryRows_0 : decode cX2_tryRows 0 = .ok (.iload 6, 2) := by decide +kernel
theorem dX2_tryRows_2 : decode cX2_tryRows 2 = .ok (.aload_n 0, 1) := by decide +kernel
theorem dX2_tryRows_3 : decode cX2_tryRows 3 = .ok (.getfield 27, 3) := by decide +kernel
theorem dX2_tryRows_6 : decode cX2_tryRows 6 = .ok (.if_icmp .le 20, 3) := by decide +kernel
theorem dX2_tryRows_9 : decode cX2_tryRows 9 = .ok (.aload_n 0, 1) := by decide +kernel
theorem dX2_tryRows_10 : decode cX2_tryRows 10 = .ok (.iload 6, 2) := by decide +kernel
theorem dX2_tryRows_12 : decode cX2_tryRows 12 = .ok (.putfield 27, 3) := by decide +kernel
theorem dX2_tryRows_15 : decode cX2_tryRows 15 = .ok (.aload_n 0, 1) := by decide +kernel
theorem dX2_tryRows_16 : decode cX2_tryRows 16 = .ok (.getfield 21, 3) := by decide +kernel
theorem dX2_tryRows_19 : decode cX2_tryRows 19 = .ok (.aload_n 0, 1) := by decide +kernel
theorem dX2_tryRows_20 : decode cX2_tryRows 20 = .ok (.getfield 24, 3) := by decide +kernel
theorem dX2_tryRows_23 : decode cX2_tryRows 23 = .ok (.invokestatic 107, 3) := by decide +kernel
theorem dX2_tryRows_26 : decode cX2_tryRows 26 = .ok (.iload 6, 2) := by decide +kernel
theorem dX2_tryRows_28 : decode cX2_tryRows 28 = .ok (.bipush 6, 2) := by decide +kernel
theorem dX2_tryRows_30 : decode cX2_tryRows 30 = .ok (.if_icmp .lt 4, 3) := by decide +kernel
theorem dX2_tryRows_33 : decode cX2_tryRows 33 = .ok (.return_, 1) := by decide +kernel
theorem dX2_tryRows_34 : decode cX2_tryRows 34 = .ok (.iconst 0, 1) := by decide +kernel
theorem dX2_tryRows_35 : decode cX2_tryRows 35 = .ok (.istore 7, 2) := by decide +kernel
theorem dX2_tryRows_37 : decode cX2_tryRows 37 = .ok (.iload 7, 2) := by decide +kernel
theorem dX2_tryRows_39 : decode cX2_tryRows 39 = .ok (.aload_n 1, 1) := by decide +kernel
theorem dX2_tryRows_40 : decode cX2_tryRows 40 = .ok (.getfield 111, 3) := by decide +kernel
theorem dX2_tryRows_43 : decode cX2_tryRows 43 = .ok (.if_icmp .ge 112, 3) := by decide +kernel
theorem dX2_tryRows_46 : decode cX2_tryRows 46 = .ok (.iload 5, 2) := by decide +kernel
theorem dX2_tryRows_48 : decode cX2_tryRows 48 = .ok (.iload 7, 2) := by decide +kernel
theorem dX2_tryRows_50 : decode cX2_tryRows 50 = .ok (.invokestatic 50, 3) := by decide +kernel
theorem dX2_tryRows_53 : decode cX2_tryRows 53 = .ok (.ifCond .ne 96, 3) := by decide +kernel
theorem dX2_tryRows_56 : decode cX2_tryRows 56 = .ok (.aload_n 1, 1) := by decide +kernel
theorem dX2_tryRows_57 : decode cX2_tryRows 57 = .ok (.iload 7, 2) := by decide +kernel
theorem dX2_tryRows_59 : decode cX2_tryRows 59 = .ok (.iconst 0, 1) := by decide +kernel
theorem dX2_tryRows_60 : decode cX2_tryRows 60 = .ok (.invokevirtual 114, 3) := by decide +kernel
theorem dX2_tryRows_63 : decode cX2_tryRows 63 = .ok (.istore 8, 2) := by decide +kernel
theorem dX2_tryRows_65 : decode cX2_tryRows 65 = .ok (.aload_n 0, 1) := by decide +kernel
theorem dX2_tryRows_66 : decode cX2_tryRows 66 = .ok (.getfield 31, 3) := by decide +kernel
theorem dX2_tryRows_69 : decode cX2_tryRows 69 = .ok (.aload_n 1, 1) := by decide +kernel
theorem dX2_tryRows_70 : decode cX2_tryRows 70 = .ok (.iload_n 3, 1) := by decide +kernel
theorem dX2_tryRows_71 : decode cX2_tryRows 71 = .ok (.iload 8, 2) := by decide +kernel
theorem dX2_tryRows_73 : decode cX2_tryRows 73 = .ok (.iload_n 2, 1) := by decide +kernel
theorem dX2_tryRows_74 : decode cX2_tryRows 74 = .ok (.iconst 1, 1) := by decide +kernel
theorem dX2_tryRows_75 : decode cX2_tryRows 75 = .ok (.iload 4, 2) := by decide +kernel
theorem dX2_tryRows_77 : decode cX2_tryRows 77 = .ok (.invokevirtual 117, 3) := by decide +kernel
theorem dX2_tryRows_80 : decode cX2_tryRows 80 = .ok (.istore 9, 2) := by decide +kernel
theorem dX2_tryRows_82 : decode cX2_tryRows 82 = .ok (.iload 4, 2) := by decide +kernel
theorem dX2_tryRows_84 : decode cX2_tryRows 84 = .ok (.iload 9, 2) := by decide +kernel
theorem dX2_tryRows_86 : decode cX2_tryRows 86 = .ok (.iadd, 1) := by decide +kernel
theorem dX2_tryRows_87 : decode cX2_tryRows 87 = .ok (.aload_n 1, 1) := by decide +kernel
theorem dX2_tryRows_88 : decode cX2_tryRows 88 = .ok (.iload 7, 2) := by decide +kernel
theorem dX2_tryRows_90 : decode cX2_tryRows 90 = .ok (.iconst 1, 1) := by decide +kernel
theorem dX2_tryRows_91 : decode cX2_tryRows 91 = .ok (.invokevirtual 114, 3) := by decide +kernel
theorem dX2_tryRows_94 : decode cX2_tryRows 94 = .ok (.invokestatic 121, 3) := by decide +kernel
theorem dX2_tryRows_97 : decode cX2_tryRows 97 = .ok (.istore 10, 2) := by decide +kernel
theorem dX2_tryRows_99 : decode cX2_tryRows 99 = .ok (.iload 9, 2) := by decide +kernel
theorem dX2_tryRows_101 : decode cX2_tryRows 101 = .ok (.iconst (-1), 1) := by decide +kernel
theorem dX2_tryRows_102 : decode cX2_tryRows 102 = .ok (.if_icmp .eq 47, 3) := by decide +kernel
theorem dX2_tryRows_105 : decode cX2_tryRows 105 = .ok (.iload 10, 2) := by decide +kernel
theorem dX2_tryRows_107 : decode cX2_tryRows 107 = .ok (.aload_n 1, 1) := by decide +kernel
theorem dX2_tryRows_108 : decode cX2_tryRows 108 = .ok (.iload 7, 2) := by decide +kernel
theorem dX2_tryRows_110 : decode cX2_tryRows 110 = .ok (.iconst 2, 1) := by decide +kernel
theorem dX2_tryRows_111 : decode cX2_tryRows 111 = .ok (.invokevirtual 114, 3) := by decide +kernel
theorem dX2_tryRows_114 : decode cX2_tryRows 114 = .ok (.if_icmp .gt 35, 3) := by decide +kernel
theorem dX2_tryRows_117 : decode cX2_tryRows 117 = .ok (.aload_n 0, 1) := by decide +kernel
theorem dX2_tryRows_118 : decode cX2_tryRows 118 = .ok (.getfield 21, 3) := by decide +kernel
theorem dX2_tryRows_121 : decode cX2_tryRows 121 = .ok (.iload 6, 2) := by decide +kernel
theorem dX2_tryRows_123 : decode cX2_tryRows 123 = .ok (.iload 7, 2) := by decide +kernel
theorem dX2_tryRows_125 : decode cX2_tryRows 125 = .ok (.invokestatic 39, 3) := by decide +kernel
theorem dX2_tryRows_128 : decode cX2_tryRows 128 = .ok (.aload_n 0, 1) := by decide +kernel
theorem dX2_tryRows_129 : decode cX2_tryRows 129 = .ok (.aload_n 1, 1) := by decide +kernel
theorem dX2_tryRows_130 : decode cX2_tryRows 130 = .ok (.iload_n 2, 1) := by decide +kernel
theorem dX2_tryRows_131 : decode cX2_tryRows 131 = .ok (.iload 8, 2) := by decide +kernel
theorem dX2_tryRows_133 : decode cX2_tryRows 133 = .ok (.iload 10, 2) := by decide +kernel
theorem dX2_tryRows_135 : decode cX2_tryRows 135 = .ok (.iload 5, 2) := by decide +kernel
theorem dX2_tryRows_137 : decode cX2_tryRows 137 = .ok (.iconst 1, 1) := by decide +kernel
theorem dX2_tryRows_138 : decode cX2_tryRows 138 = .ok (.iload 7, 2) := by decide +kernel
theorem dX2_tryRows_140 : decode cX2_tryRows 140 = .ok (.ishl, 1) := by decide +kernel
theorem dX2_tryRows_141 : decode cX2_tryRows 141 = .ok (.ior, 1) := by decide +kernel
theorem dX2_tryRows_142 : decode cX2_tryRows 142 = .ok (.iload 6, 2) := by decide +kernel
theorem dX2_tryRows_144 : decode cX2_tryRows 144 = .ok (.iconst 1, 1) := by decide +kernel
theorem dX2_tryRows_145 : decode cX2_tryRows 145 = .ok (.iadd, 1) := by decide +kernel
theorem dX2_tryRows_146 : decode cX2_tryRows 146 = .ok (.invokevirtual 103, 3) := by decide +kernel
theorem dX2_tryRows_149 : decode cX2_tryRows 149 = .ok (.iinc 7 1, 3) := by decide +kernel
theorem dX2_tryRows_152 : decode cX2_tryRows 152 = .ok (.goto (-115), 3) := by decide +kernel
theorem dX2_tryRows_155 : decode cX2_tryRows 155 = .ok (.return_, 1) := by decide +kernel
theorem dX2_keptAs_0 : decode cX2_keptAs 0 = .ok (.aload_n 0, 1) := by decide +kernel
theorem dX2_keptAs_1 : decode cX2_keptAs 1 = .ok (.getfield 24, 3) := by decide +kernel
theorem dX2_keptAs_4 : decode cX2_keptAs 4 = .ok (.iload_n 1, 1) := by decide +kernel
theorem dX2_keptAs_5 : decode cX2_keptAs 5 = .ok (.invokestatic 64, 3) := by decide +kernel
theorem dX2_keptAs_8 : decode cX2_keptAs 8 = .ok (.ireturn, 1) := by decide +kernel
theorem dX3_init_0 : decode cX3_init 0 = .ok (.aload_n 0, 1) := by decide +kernel
theorem dX3_init_1 : decode cX3_init 1 = .ok (.invokespecial 3, 3) := by decide +kernel
theorem dX3_init_4 : decode cX3_init 4 = .ok (.aload_n 0, 1) := by decide +kernel
theorem dX3_init_5 : decode cX3_init 5 = .ok (.iconst (-1), 1) := by decide +kernel
theorem dX3_init_6 : decode cX3_init 6 = .ok (.putfield 9, 3) := by decide +kernel
theorem dX3_init_9 : decode cX3_init 9 = .ok (.aload_n 0, 1) := by decide +kernel
theorem dX3_init_10 : decode cX3_init 10 = .ok (.bipush 12, 2) := by decide +kernel
theorem dX3_init_12 : decode cX3_init 12 = .ok (.newarray .int, 2) := by decide +kernel
theorem dX3_init_14 : decode cX3_init 14 = .ok (.putfield 15, 3) := by decide +kernel
theorem dX3_init_17 : decode cX3_init 17 = .ok (.aload_n 0, 1) := by decide +kernel
theorem dX3_init_18 : decode cX3_init 18 = .ok (.bipush 12, 2) := by decide +kernel
theorem dX3_init_20 : decode cX3_init 20 = .ok (.newarray .int, 2) := by decide +kernel
theorem dX3_init_22 : decode cX3_init 22 = .ok (.putfield 19, 3) := by decide +kernel
theorem dX3_init_25 : decode cX3_init 25 = .ok (.aload_n 0, 1) := by decide +kernel
theorem dX3_init_26 : decode cX3_init 26 = .ok (.bipush 12, 2) := by decide +kernel
theorem dX3_init_28 : decode cX3_init 28 = .ok (.newarray .int, 2) := by decide +kernel
theorem dX3_init_30 : decode cX3_init 30 = .ok (.putfield 22, 3) := by decide +kernel
theorem dX3_init_33 : decode cX3_init 33 = .ok (.aload_n 0, 1) := by decide +kernel
theorem dX3_init_34 : decode cX3_init 34 = .ok (.sipush 400, 3) := by decide +kernel
theorem dX3_init_37 : decode cX3_init 37 = .ok (.newarray .int, 2) := by decide +kernel
theorem dX3_init_39 : decode cX3_init 39 = .ok (.putfield 25, 3) := by decide +kernel
theorem dX3_init_42 : decode cX3_init 42 = .ok (.aload_n 0, 1) := by decide +kernel
theorem dX3_init_43 : decode cX3_init 43 = .ok (.iconst 0, 1) := by decide +kernel
theorem dX3_init_44 : decode cX3_init 44 = .ok (.putfield 28, 3) := by decide +kernel
theorem dX3_init_47 : decode cX3_init 47 = .ok (.aload_n 0, 1) := by decide +kernel
theorem dX3_init_48 : decode cX3_init 48 = .ok (.bipush 40, 2) := by decide +kernel
theorem dX3_init_50 : decode cX3_init 50 = .ok (.newarray .int, 2) := by decide +kernel
theorem dX3_init_52 : decode cX3_init 52 = .ok (.putfield 31, 3) := by decide +kernel
theorem dX3_init_55 : decode cX3_init 55 = .ok (.aload_n 0, 1) := by decide +kernel
theorem dX3_init_56 : decode cX3_init 56 = .ok (.iconst 0, 1) := by decide +kernel
theorem dX3_init_57 : decode cX3_init 57 = .ok (.putfield 34, 3) := by decide +kernel
theorem dX3_init_60 : decode cX3_init 60 = .ok (.return_, 1) := by decide +kernel
theorem dX3_copyFrom_0 : decode cX3_copyFrom 0 = .ok (.aload_n 0, 1) := by decide +kernel
theorem dX3_copyFrom_1 : decode cX3_copyFrom 1 = .ok (.aload_n 1, 1) := by decide +kernel
theorem dX3_copyFrom_2 : decode cX3_copyFrom 2 = .ok (.getfield 9, 3) := by decide +kernel
theorem dX3_copyFrom_5 : decode cX3_copyFrom 5 = .ok (.putfield 9, 3) := by decide +kernel
theorem dX3_copyFrom_8 : decode cX3_copyFrom 8 = .ok (.aload_n 0, 1) := by decide +kernel
theorem dX3_copyFrom_9 : decode cX3_copyFrom 9 = .ok (.aload_n 1, 1) := by decide +kernel
theorem dX3_copyFrom_10 : decode cX3_copyFrom 10 = .ok (.getfield 28, 3) := by decide +kernel
theorem dX3_copyFrom_13 : decode cX3_copyFrom 13 = .ok (.putfield 28, 3) := by decide +kernel
theorem dX3_copyFrom_16 : decode cX3_copyFrom 16 = .ok (.aload_n 1, 1) := by decide +kernel
theorem dX3_copyFrom_17 : decode cX3_copyFrom 17 = .ok (.getfield 15, 3) := by decide +kernel
theorem dX3_copyFrom_20 : decode cX3_copyFrom 20 = .ok (.aload_n 0, 1) := by decide +kernel
theorem dX3_copyFrom_21 : decode cX3_copyFrom 21 = .ok (.getfield 15, 3) := by decide +kernel
theorem dX3_copyFrom_24 : decode cX3_copyFrom 24 = .ok (.invokestatic 37, 3) := by decide +kernel
theorem dX3_copyFrom_27 : decode cX3_copyFrom 27 = .ok (.aload_n 1, 1) := by decide +kernel
theorem dX3_copyFrom_28 : decode cX3_copyFrom 28 = .ok (.getfield 19, 3) := by decide +kernel
theorem dX3_copyFrom_31 : decode cX3_copyFrom 31 = .ok (.aload_n 0, 1) := by decide +kernel
theorem dX3_copyFrom_32 : decode cX3_copyFrom 32 = .ok (.getfield 19, 3) := by decide +kernel
theorem dX3_copyFrom_35 : decode cX3_copyFrom 35 = .ok (.invokestatic 37, 3) := by decide +kernel
theorem dX3_copyFrom_38 : decode cX3_copyFrom 38 = .ok (.aload_n 1, 1) := by decide +kernel
theorem dX3_copyFrom_39 : decode cX3_copyFrom 39 = .ok (.getfield 22, 3) := by decide +kernel
theorem dX3_copyFrom_42 : decode cX3_copyFrom 42 = .ok (.aload_n 0, 1) := by decide +kernel
theorem dX3_copyFrom_43 : decode cX3_copyFrom 43 = .ok (.getfield 22, 3) := by decide +kernel
theorem dX3_copyFrom_46 : decode cX3_copyFrom 46 = .ok (.invokestatic 37, 3) := by decide +kernel
theorem dX3_copyFrom_49 : decode cX3_copyFrom 49 = .ok (.aload_n 1, 1) := by decide +kernel
theorem dX3_copyFrom_50 : decode cX3_copyFrom 50 = .ok (.getfield 25, 3) := by decide +kernel
theorem dX3_copyFrom_53 : decode cX3_copyFrom 53 = .ok (.aload_n 0, 1) := by decide +kernel
theorem dX3_copyFrom_54 : decode cX3_copyFrom 54 = .ok (.getfield 25, 3) := by decide +kernel
theorem dX3_copyFrom_57 : decode cX3_copyFrom 57 = .ok (.invokestatic 37, 3) := by decide +kernel
theorem dX3_copyFrom_60 : decode cX3_copyFrom 60 = .ok (.return_, 1) := by decide +kernel
theorem dX3_clear_0 : decode cX3_clear 0 = .ok (.aload_n 0, 1) := by decide +kernel
theorem dX3_clear_1 : decode cX3_clear 1 = .ok (.iconst 0, 1) := by decide +kernel
theorem dX3_clear_2 : decode cX3_clear 2 = .ok (.putfield 9, 3) := by decide +kernel
theorem dX3_clear_5 : decode cX3_clear 5 = .ok (.aload_n 0, 1) := by decide +kernel
theorem dX3_clear_6 : decode cX3_clear 6 = .ok (.iconst 0, 1) := by decide +kernel
theorem dX3_clear_7 : decode cX3_clear 7 = .ok (.putfield 28, 3) := by decide +kernel
theorem dX3_clear_10 : decode cX3_clear 10 = .ok (.return_, 1) := by decide +kernel
theorem dX3_addStep_0 : decode cX3_addStep 0 = .ok (.aload_n 0, 1) := by decide +kernel
theorem dX3_addStep_1 : decode cX3_addStep 1 = .ok (.getfield 25, 3) := by decide +kernel
theorem dX3_addStep_4 : decode cX3_addStep 4 = .ok (.aload_n 0, 1) := by decide +kernel
theorem dX3_addStep_5 : decode cX3_addStep 5 = .ok (.getfield 28, 3) := by decide +kernel
theorem dX3_addStep_8 : decode cX3_addStep 8 = .ok (.iload_n 1, 1) := by decide +kernel
theorem dX3_addStep_9 : decode cX3_addStep 9 = .ok (.invokestatic 41, 3) := by decide +kernel
theorem dX3_addStep_12 : decode cX3_addStep 12 = .ok (.aload_n 0, 1) := by decide +kernel
theorem dX3_addStep_13 : decode cX3_addStep 13 = .ok (.dup, 1) := by decide +kernel
theorem dX3_addStep_14 : decode cX3_addStep 14 = .ok (.getfield 28, 3) := by decide +kernel
theorem dX3_addStep_17 : decode cX3_addStep 17 = .ok (.iconst 1, 1) := by decide +kernel
theorem dX3_addStep_18 : decode cX3_addStep 18 = .ok (.iadd, 1) := by decide +kernel
theorem dX3_addStep_19 : decode cX3_addStep 19 = .ok (.putfield 28, 3) := by decide +kernel
theorem dX3_addStep_22 : decode cX3_addStep 22 = .ok (.return_, 1) := by decide +kernel
theorem dX3_addLine_0 : decode cX3_addLine 0 = .ok (.aload_n 0, 1) := by decide +kernel
theorem dX3_addLine_1 : decode cX3_addLine 1 = .ok (.getfield 15, 3) := by decide +kernel
theorem dX3_addLine_4 : decode cX3_addLine 4 = .ok (.aload_n 0, 1) := by decide +kernel
theorem dX3_addLine_5 : decode cX3_addLine 5 = .ok (.getfield 9, 3) := by decide +kernel
theorem dX3_addLine_8 : decode cX3_addLine 8 = .ok (.iload_n 1, 1) := by decide +kernel
theorem dX3_addLine_9 : decode cX3_addLine 9 = .ok (.invokestatic 41, 3) := by decide +kernel
theorem dX3_addLine_12 : decode cX3_addLine 12 = .ok (.aload_n 0, 1) := by decide +kernel
theorem dX3_addLine_13 : decode cX3_addLine 13 = .ok (.getfield 19, 3) := by decide +kernel
theorem dX3_addLine_16 : decode cX3_addLine 16 = .ok (.aload_n 0, 1) := by decide +kernel
theorem dX3_addLine_17 : decode cX3_addLine 17 = .ok (.getfield 9, 3) := by decide +kernel
theorem dX3_addLine_20 : decode cX3_addLine 20 = .ok (.iload_n 2, 1) := by decide +kernel
theorem dX3_addLine_21 : decode cX3_addLine 21 = .ok (.invokestatic 41, 3) := by decide +kernel
theorem dX3_addLine_24 : decode cX3_addLine 24 = .ok (.aload_n 0, 1) := by decide +kernel
theorem dX3_addLine_25 : decode cX3_addLine 25 = .ok (.getfield 22, 3) := by decide +kernel
theorem dX3_addLine_28 : decode cX3_addLine 28 = .ok (.aload_n 0, 1) := by decide +kernel
theorem dX3_addLine_29 : decode cX3_addLine 29 = .ok (.getfield 9, 3) := by decide +kernel
theorem dX3_addLine_32 : decode cX3_addLine 32 = .ok (.aload_n 0, 1) := by decide +kernel
theorem dX3_addLine_33 : decode cX3_addLine 33 = .ok (.getfield 28, 3) := by decide +kernel
theorem dX3_addLine_36 : decode cX3_addLine 36 = .ok (.invokestatic 41, 3) := by decide +kernel
theorem dX3_addLine_39 : decode cX3_addLine 39 = .ok (.aload_n 0, 1) := by decide +kernel
theorem dX3_addLine_40 : decode cX3_addLine 40 = .ok (.dup, 1) := by decide +kernel
theorem dX3_addLine_41 : decode cX3_addLine 41 = .ok (.getfield 9, 3) := by decide +kernel
theorem dX3_addLine_44 : decode cX3_addLine 44 = .ok (.iconst 1, 1) := by decide +kernel
theorem dX3_addLine_45 : decode cX3_addLine 45 = .ok (.iadd, 1) := by decide +kernel
theorem dX3_addLine_46 : decode cX3_addLine 46 = .ok (.putfield 9, 3) := by decide +kernel
theorem dX3_addLine_49 : decode cX3_addLine 49 = .ok (.return_, 1) := by decide +kernel
theorem dX3_wades_0 : decode cX3_wades 0 = .ok (.iconst 1, 1) := by decide +kernel
theorem dX3_wades_1 : decode cX3_wades 1 = .ok (.aload_n 0, 1) := by decide +kernel
theorem dX3_wades_2 : decode cX3_wades 2 = .ok (.bipush 14, 2) := by decide +kernel
theorem dX3_wades_4 : decode cX3_wades 4 = .ok (.aload_n 1, 1) := by decide +kernel
theorem dX3_wades_5 : decode cX3_wades 5 = .ok (.iload_n 2, 1) := by decide +kernel
theorem dX3_wades_6 : decode cX3_wades 6 = .ok (.iload_n 3, 1) := by decide +kernel
theorem dX3_wades_7 : decode cX3_wades 7 = .ok (.invokevirtual 47, 3) := by decide +kernel
theorem dX3_wades_10 : decode cX3_wades 10 = .ok (.iadd, 1) := by decide +kernel
theorem dX3_wades_11 : decode cX3_wades 11 = .ok (.ireturn, 1) := by decide +kernel
theorem dX3_waits_0 : decode cX3_waits 0 = .ok (.aload_n 0, 1) := by decide +kernel
theorem dX3_waits_1 : decode cX3_waits 1 = .ok (.bipush 15, 2) := by decide +kernel
theorem dX3_waits_3 : decode cX3_waits 3 = .ok (.aload_n 1, 1) := by decide +kernel
theorem dX3_waits_4 : decode cX3_waits 4 = .ok (.iload_n 2, 1) := by decide +kernel
theorem dX3_waits_5 : decode cX3_waits 5 = .ok (.iload_n 3, 1) := by decide +kernel
theorem dX3_waits_6 : decode cX3_waits 6 = .ok (.invokevirtual 47, 3) := by decide +kernel
theorem dX3_waits_9 : decode cX3_waits 9 = .ok (.ifCond .le 7, 3) := by decide +kernel
theorem dX3_waits_12 : decode cX3_waits 12 = .ok (.iconst 1, 1) := by decide +kernel
theorem dX3_waits_13 : decode cX3_waits 13 = .ok (.goto 4, 3) := by decide +kernel
theorem dX3_waits_16 : decode cX3_waits 16 = .ok (.iconst 0, 1) := by decide +kernel
theorem dX3_waits_17 : decode cX3_waits 17 = .ok (.ireturn, 1) := by decide +kernel
theorem dX3_tires_0 : decode cX3_tires 0 = .ok (.aload_n 0, 1) := by decide +kernel
theorem dX3_tires_1 : decode cX3_tires 1 = .ok (.bipush 16, 2) := by decide +kernel
theorem dX3_tires_3 : decode cX3_tires 3 = .ok (.aload_n 1, 1) := by decide +kernel
theorem dX3_tires_4 : decode cX3_tires 4 = .ok (.iload_n 2, 1) := by decide +kernel
theorem dX3_tires_5 : decode cX3_tires 5 = .ok (.iload_n 3, 1) := by decide +kernel
theorem dX3_tires_6 : decode cX3_tires 6 = .ok (.invokevirtual 47, 3) := by decide +kernel
theorem dX3_tires_9 : decode cX3_tires 9 = .ok (.ireturn, 1) := by decide +kernel
theorem dX3_sumOf_0 : decode cX3_sumOf 0 = .ok (.iconst 0, 1) := by decide +kernel
theorem dX3_sumOf_1 : decode cX3_sumOf 1 = .ok (.istore 5, 2) := by decide +kernel
theorem dX3_sumOf_3 : decode cX3_sumOf 3 = .ok (.iconst 0, 1) := by decide +kernel
theorem dX3_sumOf_4 : decode cX3_sumOf 4 = .ok (.istore 6, 2) := by decide +kernel
theorem dX3_sumOf_6 : decode cX3_sumOf 6 = .ok (.iconst 0, 1) := by decide +kernel
theorem dX3_sumOf_7 : decode cX3_sumOf 7 = .ok (.istore 7, 2) := by decide +kernel
theorem dX3_sumOf_9 : decode cX3_sumOf 9 = .ok (.iload 7, 2) := by decide +kernel
theorem dX3_sumOf_11 : decode cX3_sumOf 11 = .ok (.aload_n 0, 1) := by decide +kernel
theorem dX3_sumOf_12 : decode cX3_sumOf 12 = .ok (.getfield 9, 3) := by decide +kernel
theorem dX3_sumOf_15 : decode cX3_sumOf 15 = .ok (.if_icmp .ge 73, 3) := by decide +kernel
theorem dX3_sumOf_18 : decode cX3_sumOf 18 = .ok (.iload 7, 2) := by decide +kernel
theorem dX3_sumOf_20 : decode cX3_sumOf 20 = .ok (.bipush 12, 2) := by decide +kernel
theorem dX3_sumOf_22 : decode cX3_sumOf 22 = .ok (.if_icmp .ge 66, 3) := by decide +kernel
theorem dX3_sumOf_25 : decode cX3_sumOf 25 = .ok (.aload_n 0, 1) := by decide +kernel
theorem dX3_sumOf_26 : decode cX3_sumOf 26 = .ok (.getfield 22, 3) := by decide +kernel
theorem dX3_sumOf_29 : decode cX3_sumOf 29 = .ok (.iload 7, 2) := by decide +kernel
theorem dX3_sumOf_31 : decode cX3_sumOf 31 = .ok (.invokestatic 51, 3) := by decide +kernel
theorem dX3_sumOf_34 : decode cX3_sumOf 34 = .ok (.istore 8, 2) := by decide +kernel
theorem dX3_sumOf_36 : decode cX3_sumOf 36 = .ok (.aload_n 0, 1) := by decide +kernel
theorem dX3_sumOf_37 : decode cX3_sumOf 37 = .ok (.getfield 15, 3) := by decide +kernel
theorem dX3_sumOf_40 : decode cX3_sumOf 40 = .ok (.iload 7, 2) := by decide +kernel
theorem dX3_sumOf_42 : decode cX3_sumOf 42 = .ok (.invokestatic 51, 3) := by decide +kernel
theorem dX3_sumOf_45 : decode cX3_sumOf 45 = .ok (.iload_n 1, 1) := by decide +kernel
theorem dX3_sumOf_46 : decode cX3_sumOf 46 = .ok (.if_icmp .ne 32, 3) := by decide +kernel
theorem dX3_sumOf_49 : decode cX3_sumOf 49 = .ok (.aload_n 0, 1) := by decide +kernel
theorem dX3_sumOf_50 : decode cX3_sumOf 50 = .ok (.iload 6, 2) := by decide +kernel
theorem dX3_sumOf_52 : decode cX3_sumOf 52 = .ok (.iload 8, 2) := by decide +kernel
theorem dX3_sumOf_54 : decode cX3_sumOf 54 = .ok (.aload_n 2, 1) := by decide +kernel
theorem dX3_sumOf_55 : decode cX3_sumOf 55 = .ok (.iload_n 3, 1) := by decide +kernel
theorem dX3_sumOf_56 : decode cX3_sumOf 56 = .ok (.iload 4, 2) := by decide +kernel
theorem dX3_sumOf_58 : decode cX3_sumOf 58 = .ok (.invokevirtual 55, 3) := by decide +kernel
theorem dX3_sumOf_61 : decode cX3_sumOf 61 = .ok (.ifCond .eq 17, 3) := by decide +kernel
theorem dX3_sumOf_64 : decode cX3_sumOf 64 = .ok (.iload 5, 2) := by decide +kernel
theorem dX3_sumOf_66 : decode cX3_sumOf 66 = .ok (.aload_n 0, 1) := by decide +kernel
theorem dX3_sumOf_67 : decode cX3_sumOf 67 = .ok (.getfield 19, 3) := by decide +kernel
theorem dX3_sumOf_70 : decode cX3_sumOf 70 = .ok (.iload 7, 2) := by decide +kernel
theorem dX3_sumOf_72 : decode cX3_sumOf 72 = .ok (.invokestatic 51, 3) := by decide +kernel
theorem dX3_sumOf_75 : decode cX3_sumOf 75 = .ok (.iadd, 1) := by decide +kernel
theorem dX3_sumOf_76 : decode cX3_sumOf 76 = .ok (.istore 5, 2) := by decide +kernel
theorem dX3_sumOf_78 : decode cX3_sumOf 78 = .ok (.iload 8, 2) := by decide +kernel
theorem dX3_sumOf_80 : decode cX3_sumOf 80 = .ok (.istore 6, 2) := by decide +kernel
theorem dX3_sumOf_82 : decode cX3_sumOf 82 = .ok (.iinc 7 1, 3) := by decide +kernel
theorem dX3_sumOf_85 : decode cX3_sumOf 85 = .ok (.goto (-76), 3) := by decide +kernel
theorem dX3_sumOf_88 : decode cX3_sumOf 88 = .ok (.iload 5, 2) := by decide +kernel
theorem dX3_sumOf_90 : decode cX3_sumOf 90 = .ok (.ireturn, 1) := by decide +kernel
theorem dX3_holds_0 : decode cX3_holds 0 = .ok (.iload_n 1, 1) := by decide +kernel
theorem dX3_holds_1 : decode cX3_holds 1 = .ok (.iload_n 2, 1) := by decide +kernel
theorem dX3_holds_2 : decode cX3_holds 2 = .ok (.if_icmp .lt 5, 3) := by decide +kernel
theorem dX3_holds_5 : decode cX3_holds 5 = .ok (.iconst 1, 1) := by decide +kernel
theorem dX3_holds_6 : decode cX3_holds 6 = .ok (.ireturn, 1) := by decide +kernel
theorem dX3_holds_7 : decode cX3_holds 7 = .ok (.aload_n 0, 1) := by decide +kernel
theorem dX3_holds_8 : decode cX3_holds 8 = .ok (.iconst 0, 1) := by decide +kernel
theorem dX3_holds_9 : decode cX3_holds 9 = .ok (.putfield 34, 3) := by decide +kernel
theorem dX3_holds_12 : decode cX3_holds 12 = .ok (.iload_n 1, 1) := by decide +kernel
theorem dX3_holds_13 : decode cX3_holds 13 = .ok (.istore 6, 2) := by decide +kernel
theorem dX3_holds_15 : decode cX3_holds 15 = .ok (.iload 6, 2) := by decide +kernel
theorem dX3_holds_17 : decode cX3_holds 17 = .ok (.iload_n 2, 1) := by decide +kernel
theorem dX3_holds_18 : decode cX3_holds 18 = .ok (.if_icmp .ge 99, 3) := by decide +kernel
theorem dX3_holds_21 : decode cX3_holds 21 = .ok (.aload_n 0, 1) := by decide +kernel
theorem dX3_holds_22 : decode cX3_holds 22 = .ok (.getfield 25, 3) := by decide +kernel
theorem dX3_holds_25 : decode cX3_holds 25 = .ok (.iload 6, 2) := by decide +kernel
theorem dX3_holds_27 : decode cX3_holds 27 = .ok (.invokestatic 51, 3) := by decide +kernel
theorem dX3_holds_30 : decode cX3_holds 30 = .ok (.istore 7, 2) := by decide +kernel
theorem dX3_holds_32 : decode cX3_holds 32 = .ok (.iload 7, 2) := by decide +kernel
theorem dX3_holds_34 : decode cX3_holds 34 = .ok (.sipush 1000, 3) := by decide +kernel
theorem dX3_holds_37 : decode cX3_holds 37 = .ok (.isub, 1) := by decide +kernel
theorem dX3_holds_38 : decode cX3_holds 38 = .ok (.istore 8, 2) := by decide +kernel
theorem dX3_holds_40 : decode cX3_holds 40 = .ok (.iload 8, 2) := by decide +kernel
theorem dX3_holds_42 : decode cX3_holds 42 = .ok (.ifCond .ge 12, 3) := by decide +kernel
theorem dX3_holds_45 : decode cX3_holds 45 = .ok (.aload_n 0, 1) := by decide +kernel
theorem dX3_holds_46 : decode cX3_holds 46 = .ok (.iload 7, 2) := by decide +kernel
theorem dX3_holds_48 : decode cX3_holds 48 = .ok (.invokevirtual 59, 3) := by decide +kernel
theorem dX3_holds_51 : decode cX3_holds 51 = .ok (.goto 60, 3) := by decide +kernel
theorem dX3_holds_54 : decode cX3_holds 54 = .ok (.iload 8, 2) := by decide +kernel
theorem dX3_holds_56 : decode cX3_holds 56 = .ok (.bipush 21, 2) := by decide +kernel
theorem dX3_holds_58 : decode cX3_holds 58 = .ok (.if_icmp .lt 27, 3) := by decide +kernel
theorem dX3_holds_61 : decode cX3_holds 61 = .ok (.iload 8, 2) := by decide +kernel
theorem dX3_holds_63 : decode cX3_holds 63 = .ok (.bipush 28, 2) := by decide +kernel
theorem dX3_holds_65 : decode cX3_holds 65 = .ok (.if_icmp .gt 20, 3) := by decide +kernel
theorem dX3_holds_68 : decode cX3_holds 68 = .ok (.aload_n 0, 1) := by decide +kernel
theorem dX3_holds_69 : decode cX3_holds 69 = .ok (.iload 8, 2) := by decide +kernel
theorem dX3_holds_71 : decode cX3_holds 71 = .ok (.aload_n 3, 1) := by decide +kernel
theorem dX3_holds_72 : decode cX3_holds 72 = .ok (.iload 4, 2) := by decide +kernel
theorem dX3_holds_74 : decode cX3_holds 74 = .ok (.iload 5, 2) := by decide +kernel
theorem dX3_holds_76 : decode cX3_holds 76 = .ok (.invokestatic 63, 3) := by decide +kernel
theorem dX3_holds_79 : decode cX3_holds 79 = .ok (.invokevirtual 59, 3) := by decide +kernel
theorem dX3_holds_82 : decode cX3_holds 82 = .ok (.goto 29, 3) := by decide +kernel
theorem dX3_holds_85 : decode cX3_holds 85 = .ok (.iload 8, 2) := by decide +kernel
theorem dX3_holds_87 : decode cX3_holds 87 = .ok (.bipush 20, 2) := by decide +kernel
theorem dX3_holds_89 : decode cX3_holds 89 = .ok (.if_icmp .ne 16, 3) := by decide +kernel
theorem dX3_holds_92 : decode cX3_holds 92 = .ok (.aload_n 0, 1) := by decide +kernel
theorem dX3_holds_93 : decode cX3_holds 93 = .ok (.iconst 1, 1) := by decide +kernel
theorem dX3_holds_94 : decode cX3_holds 94 = .ok (.aload_n 0, 1) := by decide +kernel
theorem dX3_holds_95 : decode cX3_holds 95 = .ok (.invokevirtual 66, 3) := by decide +kernel
theorem dX3_holds_98 : decode cX3_holds 98 = .ok (.isub, 1) := by decide +kernel
theorem dX3_holds_99 : decode cX3_holds 99 = .ok (.invokevirtual 59, 3) := by decide +kernel
theorem dX3_holds_102 : decode cX3_holds 102 = .ok (.goto 9, 3) := by decide +kernel
theorem dX3_holds_105 : decode cX3_holds 105 = .ok (.aload_n 0, 1) := by decide +kernel
theorem dX3_holds_106 : decode cX3_holds 106 = .ok (.iload 8, 2) := by decide +kernel
theorem dX3_holds_108 : decode cX3_holds 108 = .ok (.invokevirtual 70, 3) := by decide +kernel
theorem dX3_holds_111 : decode cX3_holds 111 = .ok (.iinc 6 1, 3) := by decide +kernel
theorem dX3_holds_114 : decode cX3_holds 114 = .ok (.goto (-99), 3) := by decide +kernel
theorem dX3_holds_117 : decode cX3_holds 117 = .ok (.aload_n 0, 1) := by decide +kernel
theorem dX3_holds_118 : decode cX3_holds 118 = .ok (.invokevirtual 66, 3) := by decide +kernel
theorem dX3_holds_121 : decode cX3_holds 121 = .ok (.ifCond .eq 7, 3) := by decide +kernel
theorem dX3_holds_124 : decode cX3_holds 124 = .ok (.iconst 1, 1) := by decide +kernel
theorem dX3_holds_125 : decode cX3_holds 125 = .ok (.goto 4, 3) := by decide +kernel
theorem dX3_holds_128 : decode cX3_holds 128 = .ok (.iconst 0, 1) := by decide +kernel
theorem dX3_holds_129 : decode cX3_holds 129 = .ok (.ireturn, 1) := by decide +kernel
theorem dX3_termOf_0 : decode cX3_termOf 0 = .ok (.aload_n 1, 1) := by decide +kernel
theorem dX3_termOf_1 : decode cX3_termOf 1 = .ok (.iload_n 2, 1) := by decide +kernel
theorem dX3_termOf_2 : decode cX3_termOf 2 = .ok (.iconst 0, 1) := by decide +kernel
theorem dX3_termOf_3 : decode cX3_termOf 3 = .ok (.invokevirtual 75, 3) := by decide +kernel
theorem dX3_termOf_6 : decode cX3_termOf 6 = .ok (.istore 4, 2) := by decide +kernel
theorem dX3_termOf_8 : decode cX3_termOf 8 = .ok (.aload_n 1, 1) := by decide +kernel
theorem dX3_termOf_9 : decode cX3_termOf 9 = .ok (.aload_n 1, 1) := by decide +kernel
theorem dX3_termOf_10 : decode cX3_termOf 10 = .ok (.getfield 79, 3) := by decide +kernel
theorem dX3_termOf_13 : decode cX3_termOf 13 = .ok (.invokevirtual 82, 3) := by decide +kernel
theorem dX3_termOf_16 : decode cX3_termOf 16 = .ok (.istore 5, 2) := by decide +kernel
theorem dX3_termOf_18 : decode cX3_termOf 18 = .ok (.iload_n 0, 1) := by decide +kernel
theorem dX3_termOf_19 : decode cX3_termOf 19 = .ok (.tableswitch 89 21 27 #[41, 43, 46, 54, 57, 64, 72], 41) := by decide +kernel
theorem dX3_termOf_60 : decode cX3_termOf 60 = .ok (.iload_n 2, 1) := by decide +kernel
theorem dX3_termOf_61 : decode cX3_termOf 61 = .ok (.ireturn, 1) := by decide +kernel
theorem dX3_termOf_62 : decode cX3_termOf 62 = .ok (.iload 4, 2) := by decide +kernel
theorem dX3_termOf_64 : decode cX3_termOf 64 = .ok (.ireturn, 1) := by decide +kernel
theorem dX3_termOf_65 : decode cX3_termOf 65 = .ok (.aload_n 1, 1) := by decide +kernel
theorem dX3_termOf_66 : decode cX3_termOf 66 = .ok (.iload_n 3, 1) := by decide +kernel
theorem dX3_termOf_67 : decode cX3_termOf 67 = .ok (.iload 4, 2) := by decide +kernel
theorem dX3_termOf_69 : decode cX3_termOf 69 = .ok (.invokevirtual 86, 3) := by decide +kernel
theorem dX3_termOf_72 : decode cX3_termOf 72 = .ok (.ireturn, 1) := by decide +kernel
theorem dX3_termOf_73 : decode cX3_termOf 73 = .ok (.iload 5, 2) := by decide +kernel
theorem dX3_termOf_75 : decode cX3_termOf 75 = .ok (.ireturn, 1) := by decide +kernel
theorem dX3_termOf_76 : decode cX3_termOf 76 = .ok (.aload_n 1, 1) := by decide +kernel
theorem dX3_termOf_77 : decode cX3_termOf 77 = .ok (.iload_n 2, 1) := by decide +kernel
theorem dX3_termOf_78 : decode cX3_termOf 78 = .ok (.iconst 3, 1) := by decide +kernel
theorem dX3_termOf_79 : decode cX3_termOf 79 = .ok (.invokevirtual 75, 3) := by decide +kernel
theorem dX3_termOf_82 : decode cX3_termOf 82 = .ok (.ireturn, 1) := by decide +kernel
theorem dX3_termOf_83 : decode cX3_termOf 83 = .ok (.aload_n 1, 1) := by decide +kernel
theorem dX3_termOf_84 : decode cX3_termOf 84 = .ok (.getfield 79, 3) := by decide +kernel
theorem dX3_termOf_87 : decode cX3_termOf 87 = .ok (.bipush 24, 2) := by decide +kernel
theorem dX3_termOf_89 : decode cX3_termOf 89 = .ok (.irem, 1) := by decide +kernel
theorem dX3_termOf_90 : decode cX3_termOf 90 = .ok (.ireturn, 1) := by decide +kernel
theorem dX3_termOf_91 : decode cX3_termOf 91 = .ok (.iconst 2, 1) := by decide +kernel
theorem dX3_termOf_92 : decode cX3_termOf 92 = .ok (.iload 5, 2) := by decide +kernel
theorem dX3_termOf_94 : decode cX3_termOf 94 = .ok (.imul, 1) := by decide +kernel
theorem dX3_termOf_95 : decode cX3_termOf 95 = .ok (.aload_n 1, 1) := by decide +kernel
theorem dX3_termOf_96 : decode cX3_termOf 96 = .ok (.getfield 89, 3) := by decide +kernel
theorem dX3_termOf_99 : decode cX3_termOf 99 = .ok (.if_icmp .lt 7, 3) := by decide +kernel
theorem dX3_termOf_102 : decode cX3_termOf 102 = .ok (.iconst 1, 1) := by decide +kernel
theorem dX3_termOf_103 : decode cX3_termOf 103 = .ok (.goto 4, 3) := by decide +kernel
theorem dX3_termOf_106 : decode cX3_termOf 106 = .ok (.iconst 0, 1) := by decide +kernel
theorem dX3_termOf_107 : decode cX3_termOf 107 = .ok (.ireturn, 1) := by decide +kernel
theorem dX3_termOf_108 : decode cX3_termOf 108 = .ok (.iload 4, 2) := by decide +kernel
theorem dX3_termOf_110 : decode cX3_termOf 110 = .ok (.aload_n 1, 1) := by decide +kernel
theorem dX3_termOf_111 : decode cX3_termOf 111 = .ok (.iload_n 2, 1) := by decide +kernel
theorem dX3_termOf_112 : decode cX3_termOf 112 = .ok (.iconst 1, 1) := by decide +kernel
theorem dX3_termOf_113 : decode cX3_termOf 113 = .ok (.invokevirtual 75, 3) := by decide +kernel
theorem dX3_termOf_116 : decode cX3_termOf 116 = .ok (.if_icmp .ne 7, 3) := by decide +kernel
theorem dX3_termOf_119 : decode cX3_termOf 119 = .ok (.iconst 1, 1) := by decide +kernel
theorem dX3_termOf_120 : decode cX3_termOf 120 = .ok (.goto 4, 3) := by decide +kernel
theorem dX3_termOf_123 : decode cX3_termOf 123 = .ok (.iconst 0, 1) := by decide +kernel
theorem dX3_termOf_124 : decode cX3_termOf 124 = .ok (.ireturn, 1) := by decide +kernel
theorem dX3_join_0 : decode cX3_join 0 = .ok (.aload_n 0, 1) := by decide +kernel
theorem dX3_join_1 : decode cX3_join 1 = .ok (.invokevirtual 66, 3) := by decide +kernel
theorem dX3_join_4 : decode cX3_join 4 = .ok (.istore_n 2, 1) := by decide +kernel
theorem dX3_join_5 : decode cX3_join 5 = .ok (.aload_n 0, 1) := by decide +kernel
theorem dX3_join_6 : decode cX3_join 6 = .ok (.invokevirtual 66, 3) := by decide +kernel
theorem dX3_join_9 : decode cX3_join 9 = .ok (.istore_n 3, 1) := by decide +kernel
theorem dX3_join_10 : decode cX3_join 10 = .ok (.iload_n 1, 1) := by decide +kernel
theorem dX3_join_11 : decode cX3_join 11 = .ok (.lookupswitch 95 #[(19, 85), (43, 41), (60, 51), (62, 68)], 41) := by decide +kernel
theorem dX3_join_52 : decode cX3_join 52 = .ok (.aload_n 0, 1) := by decide +kernel
theorem dX3_join_53 : decode cX3_join 53 = .ok (.iload_n 3, 1) := by decide +kernel
theorem dX3_join_54 : decode cX3_join 54 = .ok (.iload_n 2, 1) := by decide +kernel
theorem dX3_join_55 : decode cX3_join 55 = .ok (.iadd, 1) := by decide +kernel
theorem dX3_join_56 : decode cX3_join 56 = .ok (.invokevirtual 59, 3) := by decide +kernel
theorem dX3_join_59 : decode cX3_join 59 = .ok (.goto 54, 3) := by decide +kernel
theorem dX3_join_62 : decode cX3_join 62 = .ok (.aload_n 0, 1) := by decide +kernel
theorem dX3_join_63 : decode cX3_join 63 = .ok (.iload_n 3, 1) := by decide +kernel
theorem dX3_join_64 : decode cX3_join 64 = .ok (.iload_n 2, 1) := by decide +kernel
theorem dX3_join_65 : decode cX3_join 65 = .ok (.if_icmp .ge 7, 3) := by decide +kernel
theorem dX3_join_68 : decode cX3_join 68 = .ok (.iconst 1, 1) := by decide +kernel
theorem dX3_join_69 : decode cX3_join 69 = .ok (.goto 4, 3) := by decide +kernel
theorem dX3_join_72 : decode cX3_join 72 = .ok (.iconst 0, 1) := by decide +kernel
theorem dX3_join_73 : decode cX3_join 73 = .ok (.invokevirtual 59, 3) := by decide +kernel
theorem dX3_join_76 : decode cX3_join 76 = .ok (.goto 37, 3) := by decide +kernel
theorem dX3_join_79 : decode cX3_join 79 = .ok (.aload_n 0, 1) := by decide +kernel
theorem dX3_join_80 : decode cX3_join 80 = .ok (.iload_n 3, 1) := by decide +kernel
theorem dX3_join_81 : decode cX3_join 81 = .ok (.iload_n 2, 1) := by decide +kernel
theorem dX3_join_82 : decode cX3_join 82 = .ok (.if_icmp .le 7, 3) := by decide +kernel
theorem dX3_join_85 : decode cX3_join 85 = .ok (.iconst 1, 1) := by decide +kernel
theorem dX3_join_86 : decode cX3_join 86 = .ok (.goto 4, 3) := by decide +kernel
theorem dX3_join_89 : decode cX3_join 89 = .ok (.iconst 0, 1) := by decide +kernel
theorem dX3_join_90 : decode cX3_join 90 = .ok (.invokevirtual 59, 3) := by decide +kernel
theorem dX3_join_93 : decode cX3_join 93 = .ok (.goto 20, 3) := by decide +kernel
theorem dX3_join_96 : decode cX3_join 96 = .ok (.aload_n 0, 1) := by decide +kernel
theorem dX3_join_97 : decode cX3_join 97 = .ok (.iload_n 3, 1) := by decide +kernel
theorem dX3_join_98 : decode cX3_join 98 = .ok (.iload_n 2, 1) := by decide +kernel
theorem dX3_join_99 : decode cX3_join 99 = .ok (.iand, 1) := by decide +kernel
theorem dX3_join_100 : decode cX3_join 100 = .ok (.invokevirtual 59, 3) := by decide +kernel
theorem dX3_join_103 : decode cX3_join 103 = .ok (.goto 10, 3) := by decide +kernel
theorem dX3_join_106 : decode cX3_join 106 = .ok (.aload_n 0, 1) := by decide +kernel
theorem dX3_join_107 : decode cX3_join 107 = .ok (.iload_n 3, 1) := by decide +kernel
theorem dX3_join_108 : decode cX3_join 108 = .ok (.iload_n 2, 1) := by decide +kernel
theorem dX3_join_109 : decode cX3_join 109 = .ok (.ior, 1) := by decide +kernel
theorem dX3_join_110 : decode cX3_join 110 = .ok (.invokevirtual 59, 3) := by decide +kernel
theorem dX3_join_113 : decode cX3_join 113 = .ok (.return_, 1) := by decide +kernel
theorem dX3_push_0 : decode cX3_push 0 = .ok (.aload_n 0, 1) := by decide +kernel
theorem dX3_push_1 : decode cX3_push 1 = .ok (.getfield 34, 3) := by decide +kernel
theorem dX3_push_4 : decode cX3_push 4 = .ok (.ifCond .lt 35, 3) := by decide +kernel
theorem dX3_push_7 : decode cX3_push 7 = .ok (.aload_n 0, 1) := by decide +kernel
theorem dX3_push_8 : decode cX3_push 8 = .ok (.getfield 34, 3) := by decide +kernel
theorem dX3_push_11 : decode cX3_push 11 = .ok (.aload_n 0, 1) := by decide +kernel
theorem dX3_push_12 : decode cX3_push 12 = .ok (.getfield 31, 3) := by decide +kernel
theorem dX3_push_15 : decode cX3_push 15 = .ok (.arraylength, 1) := by decide +kernel
theorem dX3_push_16 : decode cX3_push 16 = .ok (.if_icmp .ge 23, 3) := by decide +kernel
theorem dX3_push_19 : decode cX3_push 19 = .ok (.aload_n 0, 1) := by decide +kernel
theorem dX3_push_20 : decode cX3_push 20 = .ok (.getfield 31, 3) := by decide +kernel
theorem dX3_push_23 : decode cX3_push 23 = .ok (.aload_n 0, 1) := by decide +kernel
theorem dX3_push_24 : decode cX3_push 24 = .ok (.getfield 34, 3) := by decide +kernel
theorem dX3_push_27 : decode cX3_push 27 = .ok (.iload_n 1, 1) := by decide +kernel
theorem dX3_push_28 : decode cX3_push 28 = .ok (.iastore, 1) := by decide +kernel
theorem dX3_push_29 : decode cX3_push 29 = .ok (.aload_n 0, 1) := by decide +kernel
theorem dX3_push_30 : decode cX3_push 30 = .ok (.dup, 1) := by decide +kernel
theorem dX3_push_31 : decode cX3_push 31 = .ok (.getfield 34, 3) := by decide +kernel
theorem dX3_push_34 : decode cX3_push 34 = .ok (.iconst 1, 1) := by decide +kernel
theorem dX3_push_35 : decode cX3_push 35 = .ok (.iadd, 1) := by decide +kernel
theorem dX3_push_36 : decode cX3_push 36 = .ok (.putfield 34, 3) := by decide +kernel
theorem dX3_push_39 : decode cX3_push 39 = .ok (.return_, 1) := by decide +kernel
theorem dX3_pop_0 : decode cX3_pop 0 = .ok (.aload_n 0, 1) := by decide +kernel
theorem dX3_pop_1 : decode cX3_pop 1 = .ok (.getfield 34, 3) := by decide +kernel
theorem dX3_pop_4 : decode cX3_pop 4 = .ok (.ifCond .le 15, 3) := by decide +kernel
theorem dX3_pop_7 : decode cX3_pop 7 = .ok (.aload_n 0, 1) := by decide +kernel
theorem dX3_pop_8 : decode cX3_pop 8 = .ok (.getfield 34, 3) := by decide +kernel
theorem dX3_pop_11 : decode cX3_pop 11 = .ok (.aload_n 0, 1) := by decide +kernel
theorem dX3_pop_12 : decode cX3_pop 12 = .ok (.getfield 31, 3) := by decide +kernel
theorem dX3_pop_15 : decode cX3_pop 15 = .ok (.arraylength, 1) := by decide +kernel
theorem dX3_pop_16 : decode cX3_pop 16 = .ok (.if_icmp .le 5, 3) := by decide +kernel
theorem dX3_pop_19 : decode cX3_pop 19 = .ok (.iconst 0, 1) := by decide +kernel
theorem dX3_pop_20 : decode cX3_pop 20 = .ok (.ireturn, 1) := by decide +kernel
theorem dX3_pop_21 : decode cX3_pop 21 = .ok (.aload_n 0, 1) := by decide +kernel
theorem dX3_pop_22 : decode cX3_pop 22 = .ok (.dup, 1) := by decide +kernel
theorem dX3_pop_23 : decode cX3_pop 23 = .ok (.getfield 34, 3) := by decide +kernel
theorem dX3_pop_26 : decode cX3_pop 26 = .ok (.iconst 1, 1) := by decide +kernel
theorem dX3_pop_27 : decode cX3_pop 27 = .ok (.isub, 1) := by decide +kernel
theorem dX3_pop_28 : decode cX3_pop 28 = .ok (.putfield 34, 3) := by decide +kernel
theorem dX3_pop_31 : decode cX3_pop 31 = .ok (.aload_n 0, 1) := by decide +kernel
theorem dX3_pop_32 : decode cX3_pop 32 = .ok (.getfield 31, 3) := by decide +kernel
theorem dX3_pop_35 : decode cX3_pop 35 = .ok (.aload_n 0, 1) := by decide +kernel
theorem dX3_pop_36 : decode cX3_pop 36 = .ok (.getfield 34, 3) := by decide +kernel
theorem dX3_pop_39 : decode cX3_pop 39 = .ok (.iaload, 1) := by decide +kernel
theorem dX3_pop_40 : decode cX3_pop 40 = .ok (.ireturn, 1) := by decide +kernel
theorem dX4_init_0 : decode cX4_init 0 = .ok (.aload_n 0, 1) := by decide +kernel
theorem dX4_init_1 : decode cX4_init 1 = .ok (.invokespecial 3, 3) := by decide +kernel
theorem dX4_init_4 : decode cX4_init 4 = .ok (.aload_n 0, 1) := by decide +kernel
theorem dX4_init_5 : decode cX4_init 5 = .ok (.aload_n 1, 1) := by decide +kernel
theorem dX4_init_6 : decode cX4_init 6 = .ok (.putfield 9, 3) := by decide +kernel
theorem dX4_init_9 : decode cX4_init 9 = .ok (.aload_n 0, 1) := by decide +kernel
theorem dX4_init_10 : decode cX4_init 10 = .ok (.aload_n 2, 1) := by decide +kernel
theorem dX4_init_11 : decode cX4_init 11 = .ok (.putfield 15, 3) := by decide +kernel
theorem dX4_init_14 : decode cX4_init 14 = .ok (.return_, 1) := by decide +kernel
theorem dX4_read_0 : decode cX4_read 0 = .ok (.aload_n 0, 1) := by decide +kernel
theorem dX4_read_1 : decode cX4_read 1 = .ok (.getfield 15, 3) := by decide +kernel
theorem dX4_read_4 : decode cX4_read 4 = .ok (.invokevirtual 19, 3) := by decide +kernel
theorem dX4_read_7 : decode cX4_read 7 = .ok (.aload_n 0, 1) := by decide +kernel
theorem dX4_read_8 : decode cX4_read 8 = .ok (.getfield 9, 3) := by decide +kernel
theorem dX4_read_11 : decode cX4_read 11 = .ok (.invokevirtual 24, 3) := by decide +kernel
theorem dX4_read_14 : decode cX4_read 14 = .ok (.aload_n 0, 1) := by decide +kernel
theorem dX4_read_15 : decode cX4_read 15 = .ok (.getfield 9, 3) := by decide +kernel
theorem dX4_read_18 : decode cX4_read 18 = .ok (.invokevirtual 29, 3) := by decide +kernel
theorem dX4_read_21 : decode cX4_read 21 = .ok (.ifCond .eq 5, 3) := by decide +kernel
theorem dX4_read_24 : decode cX4_read 24 = .ok (.iconst (-1), 1) := by decide +kernel
theorem dX4_read_25 : decode cX4_read 25 = .ok (.ireturn, 1) := by decide +kernel
theorem dX4_read_26 : decode cX4_read 26 = .ok (.iconst 0, 1) := by decide +kernel
theorem dX4_read_27 : decode cX4_read 27 = .ok (.istore_n 1, 1) := by decide +kernel
theorem dX4_read_28 : decode cX4_read 28 = .ok (.iload_n 1, 1) := by decide +kernel
theorem dX4_read_29 : decode cX4_read 29 = .ok (.bipush 12, 2) := by decide +kernel
theorem dX4_read_31 : decode cX4_read 31 = .ok (.if_icmp .gt 58, 3) := by decide +kernel
theorem dX4_read_34 : decode cX4_read 34 = .ok (.iload_n 1, 1) := by decide +kernel
theorem dX4_read_35 : decode cX4_read 35 = .ok (.bipush 12, 2) := by decide +kernel
theorem dX4_read_37 : decode cX4_read 37 = .ok (.if_icmp .ne 14, 3) := by decide +kernel
theorem dX4_read_40 : decode cX4_read 40 = .ok (.aload_n 0, 1) := by decide +kernel
theorem dX4_read_41 : decode cX4_read 41 = .ok (.getfield 9, 3) := by decide +kernel
theorem dX4_read_44 : decode cX4_read 44 = .ok (.invokevirtual 33, 3) := by decide +kernel
theorem dX4_read_47 : decode cX4_read 47 = .ok (.pop, 1) := by decide +kernel
theorem dX4_read_48 : decode cX4_read 48 = .ok (.goto 41, 3) := by decide +kernel
theorem dX4_read_51 : decode cX4_read 51 = .ok (.aload_n 0, 1) := by decide +kernel
theorem dX4_read_52 : decode cX4_read 52 = .ok (.invokevirtual 36, 3) := by decide +kernel
theorem dX4_read_55 : decode cX4_read 55 = .ok (.ifCond .eq 34, 3) := by decide +kernel
theorem dX4_read_58 : decode cX4_read 58 = .ok (.aload_n 0, 1) := by decide +kernel
theorem dX4_read_59 : decode cX4_read 59 = .ok (.getfield 9, 3) := by decide +kernel
theorem dX4_read_62 : decode cX4_read 62 = .ok (.invokevirtual 29, 3) := by decide +kernel
theorem dX4_read_65 : decode cX4_read 65 = .ok (.ifCond .ne 24, 3) := by decide +kernel
theorem dX4_read_68 : decode cX4_read 68 = .ok (.aload_n 0, 1) := by decide +kernel
theorem dX4_read_69 : decode cX4_read 69 = .ok (.getfield 9, 3) := by decide +kernel
theorem dX4_read_72 : decode cX4_read 72 = .ok (.bipush 59, 2) := by decide +kernel
theorem dX4_read_74 : decode cX4_read 74 = .ok (.invokevirtual 39, 3) := by decide +kernel
theorem dX4_read_77 : decode cX4_read 77 = .ok (.ifCond .ne 6, 3) := by decide +kernel
theorem dX4_read_80 : decode cX4_read 80 = .ok (.goto 9, 3) := by decide +kernel
theorem dX4_read_83 : decode cX4_read 83 = .ok (.iinc 1 1, 3) := by decide +kernel
theorem dX4_read_86 : decode cX4_read 86 = .ok (.goto (-58), 3) := by decide +kernel
theorem dX4_read_89 : decode cX4_read 89 = .ok (.aload_n 0, 1) := by decide +kernel
theorem dX4_read_90 : decode cX4_read 90 = .ok (.getfield 9, 3) := by decide +kernel
theorem dX4_read_93 : decode cX4_read 93 = .ok (.getfield 43, 3) := by decide +kernel
theorem dX4_read_96 : decode cX4_read 96 = .ok (.ireturn, 1) := by decide +kernel
theorem dX4_line_0 : decode cX4_line 0 = .ok (.aload_n 0, 1) := by decide +kernel
theorem dX4_line_1 : decode cX4_line 1 = .ok (.getfield 9, 3) := by decide +kernel
theorem dX4_line_4 : decode cX4_line 4 = .ok (.invokevirtual 47, 3) := by decide +kernel
theorem dX4_line_7 : decode cX4_line 7 = .ok (.istore_n 1, 1) := by decide +kernel
theorem dX4_line_8 : decode cX4_line 8 = .ok (.iload_n 1, 1) := by decide +kernel
theorem dX4_line_9 : decode cX4_line 9 = .ok (.bipush 14, 2) := by decide +kernel
theorem dX4_line_11 : decode cX4_line 11 = .ok (.if_icmp .eq 23, 3) := by decide +kernel
theorem dX4_line_14 : decode cX4_line 14 = .ok (.iload_n 1, 1) := by decide +kernel
theorem dX4_line_15 : decode cX4_line 15 = .ok (.bipush 15, 2) := by decide +kernel
theorem dX4_line_17 : decode cX4_line 17 = .ok (.if_icmp .eq 17, 3) := by decide +kernel
theorem dX4_line_20 : decode cX4_line 20 = .ok (.iload_n 1, 1) := by decide +kernel
theorem dX4_line_21 : decode cX4_line 21 = .ok (.bipush 16, 2) := by decide +kernel
theorem dX4_line_23 : decode cX4_line 23 = .ok (.if_icmp .eq 11, 3) := by decide +kernel
theorem dX4_line_26 : decode cX4_line 26 = .ok (.aload_n 0, 1) := by decide +kernel
theorem dX4_line_27 : decode cX4_line 27 = .ok (.getfield 9, 3) := by decide +kernel
theorem dX4_line_30 : decode cX4_line 30 = .ok (.invokevirtual 33, 3) := by decide +kernel
theorem dX4_line_33 : decode cX4_line 33 = .ok (.ireturn, 1) := by decide +kernel
theorem dX4_line_34 : decode cX4_line 34 = .ok (.aload_n 0, 1) := by decide +kernel
theorem dX4_line_35 : decode cX4_line 35 = .ok (.getfield 9, 3) := by decide +kernel
theorem dX4_line_38 : decode cX4_line 38 = .ok (.invokevirtual 51, 3) := by decide +kernel
theorem dX4_line_41 : decode cX4_line 41 = .ok (.iload_n 1, 1) := by decide +kernel
theorem dX4_line_42 : decode cX4_line 42 = .ok (.bipush 15, 2) := by decide +kernel
theorem dX4_line_44 : decode cX4_line 44 = .ok (.if_icmp .ne 7, 3) := by decide +kernel
theorem dX4_line_47 : decode cX4_line 47 = .ok (.iconst 1, 1) := by decide +kernel
theorem dX4_line_48 : decode cX4_line 48 = .ok (.goto 13, 3) := by decide +kernel
theorem dX4_line_51 : decode cX4_line 51 = .ok (.aload_n 0, 1) := by decide +kernel
theorem dX4_line_52 : decode cX4_line 52 = .ok (.getfield 9, 3) := by decide +kernel
theorem dX4_line_55 : decode cX4_line 55 = .ok (.iconst 0, 1) := by decide +kernel
theorem dX4_line_56 : decode cX4_line 56 = .ok (.bipush 9, 2) := by decide +kernel
theorem dX4_line_58 : decode cX4_line 58 = .ok (.invokevirtual 54, 3) := by decide +kernel
theorem dX4_line_61 : decode cX4_line 61 = .ok (.istore_n 2, 1) := by decide +kernel
theorem dX4_line_62 : decode cX4_line 62 = .ok (.iload_n 2, 1) := by decide +kernel
theorem dX4_line_63 : decode cX4_line 63 = .ok (.iconst (-1), 1) := by decide +kernel
theorem dX4_line_64 : decode cX4_line 64 = .ok (.if_icmp .ne 5, 3) := by decide +kernel
theorem dX4_line_67 : decode cX4_line 67 = .ok (.iconst 0, 1) := by decide +kernel
theorem dX4_line_68 : decode cX4_line 68 = .ok (.ireturn, 1) := by decide +kernel
theorem dX4_line_69 : decode cX4_line 69 = .ok (.aload_n 0, 1) := by decide +kernel
theorem dX4_line_70 : decode cX4_line 70 = .ok (.getfield 9, 3) := by decide +kernel
theorem dX4_line_73 : decode cX4_line 73 = .ok (.bipush 17, 2) := by decide +kernel
theorem dX4_line_75 : decode cX4_line 75 = .ok (.invokevirtual 58, 3) := by decide +kernel
theorem dX4_line_78 : decode cX4_line 78 = .ok (.ifCond .eq 13, 3) := by decide +kernel
theorem dX4_line_81 : decode cX4_line 81 = .ok (.aload_n 0, 1) := by decide +kernel
theorem dX4_line_82 : decode cX4_line 82 = .ok (.iconst 0, 1) := by decide +kernel
theorem dX4_line_83 : decode cX4_line 83 = .ok (.invokevirtual 62, 3) := by decide +kernel
theorem dX4_line_86 : decode cX4_line 86 = .ok (.ifCond .ne 5, 3) := by decide +kernel
theorem dX4_line_89 : decode cX4_line 89 = .ok (.iconst 0, 1) := by decide +kernel
theorem dX4_line_90 : decode cX4_line 90 = .ok (.ireturn, 1) := by decide +kernel
theorem dX4_line_91 : decode cX4_line 91 = .ok (.aload_n 0, 1) := by decide +kernel
theorem dX4_line_92 : decode cX4_line 92 = .ok (.getfield 15, 3) := by decide +kernel
theorem dX4_line_95 : decode cX4_line 95 = .ok (.iload_n 1, 1) := by decide +kernel
theorem dX4_line_96 : decode cX4_line 96 = .ok (.iload_n 2, 1) := by decide +kernel
theorem dX4_line_97 : decode cX4_line 97 = .ok (.invokevirtual 65, 3) := by decide +kernel
theorem dX4_line_100 : decode cX4_line 100 = .ok (.iconst 1, 1) := by decide +kernel
theorem dX4_line_101 : decode cX4_line 101 = .ok (.ireturn, 1) := by decide +kernel
theorem dX4_condition_0 : decode cX4_condition 0 = .ok (.aload_n 0, 1) := by decide +kernel
theorem dX4_condition_1 : decode cX4_condition 1 = .ok (.iload_n 1, 1) := by decide +kernel
theorem dX4_condition_2 : decode cX4_condition 2 = .ok (.invokevirtual 69, 3) := by decide +kernel
theorem dX4_condition_5 : decode cX4_condition 5 = .ok (.istore_n 2, 1) := by decide +kernel
theorem dX4_condition_6 : decode cX4_condition 6 = .ok (.iconst 0, 1) := by decide +kernel
theorem dX4_condition_7 : decode cX4_condition 7 = .ok (.istore_n 3, 1) := by decide +kernel
theorem dX4_condition_8 : decode cX4_condition 8 = .ok (.iconst 0, 1) := by decide +kernel
theorem dX4_condition_9 : decode cX4_condition 9 = .ok (.istore 4, 2) := by decide +kernel
theorem dX4_condition_11 : decode cX4_condition 11 = .ok (.iload_n 2, 1) := by decide +kernel
theorem dX4_condition_12 : decode cX4_condition 12 = .ok (.ifCond .eq 82, 3) := by decide +kernel
theorem dX4_condition_15 : decode cX4_condition 15 = .ok (.iload 4, 2) := by decide +kernel
theorem dX4_condition_17 : decode cX4_condition 17 = .ok (.sipush 400, 3) := by decide +kernel
theorem dX4_condition_20 : decode cX4_condition 20 = .ok (.if_icmp .ge 74, 3) := by decide +kernel
theorem dX4_condition_23 : decode cX4_condition 23 = .ok (.aload_n 0, 1) := by decide +kernel
theorem dX4_condition_24 : decode cX4_condition 24 = .ok (.getfield 9, 3) := by decide +kernel
theorem dX4_condition_27 : decode cX4_condition 27 = .ok (.bipush 19, 2) := by decide +kernel
theorem dX4_condition_29 : decode cX4_condition 29 = .ok (.invokevirtual 58, 3) := by decide +kernel
theorem dX4_condition_32 : decode cX4_condition 32 = .ok (.ifCond .eq 22, 3) := by decide +kernel
theorem dX4_condition_35 : decode cX4_condition 35 = .ok (.aload_n 0, 1) := by decide +kernel
theorem dX4_condition_36 : decode cX4_condition 36 = .ok (.iload_n 1, 1) := by decide +kernel
theorem dX4_condition_37 : decode cX4_condition 37 = .ok (.invokevirtual 69, 3) := by decide +kernel
theorem dX4_condition_40 : decode cX4_condition 40 = .ok (.istore_n 2, 1) := by decide +kernel
theorem dX4_condition_41 : decode cX4_condition 41 = .ok (.aload_n 0, 1) := by decide +kernel
theorem dX4_condition_42 : decode cX4_condition 42 = .ok (.getfield 15, 3) := by decide +kernel
theorem dX4_condition_45 : decode cX4_condition 45 = .ok (.sipush 1019, 3) := by decide +kernel
theorem dX4_condition_48 : decode cX4_condition 48 = .ok (.invokevirtual 72, 3) := by decide +kernel
theorem dX4_condition_51 : decode cX4_condition 51 = .ok (.goto 37, 3) := by decide +kernel
theorem dX4_condition_54 : decode cX4_condition 54 = .ok (.aload_n 0, 1) := by decide +kernel
theorem dX4_condition_55 : decode cX4_condition 55 = .ok (.getfield 9, 3) := by decide +kernel
theorem dX4_condition_58 : decode cX4_condition 58 = .ok (.bipush 18, 2) := by decide +kernel
theorem dX4_condition_60 : decode cX4_condition 60 = .ok (.invokevirtual 58, 3) := by decide +kernel
theorem dX4_condition_63 : decode cX4_condition 63 = .ok (.ifCond .eq 31, 3) := by decide +kernel
theorem dX4_condition_66 : decode cX4_condition 66 = .ok (.iload_n 3, 1) := by decide +kernel
theorem dX4_condition_67 : decode cX4_condition 67 = .ok (.ifCond .eq 13, 3) := by decide +kernel
theorem dX4_condition_70 : decode cX4_condition 70 = .ok (.aload_n 0, 1) := by decide +kernel
theorem dX4_condition_71 : decode cX4_condition 71 = .ok (.getfield 15, 3) := by decide +kernel
theorem dX4_condition_74 : decode cX4_condition 74 = .ok (.sipush 1018, 3) := by decide +kernel
theorem dX4_condition_77 : decode cX4_condition 77 = .ok (.invokevirtual 72, 3) := by decide +kernel
theorem dX4_condition_80 : decode cX4_condition 80 = .ok (.iconst 1, 1) := by decide +kernel
theorem dX4_condition_81 : decode cX4_condition 81 = .ok (.istore_n 3, 1) := by decide +kernel
theorem dX4_condition_82 : decode cX4_condition 82 = .ok (.aload_n 0, 1) := by decide +kernel
theorem dX4_condition_83 : decode cX4_condition 83 = .ok (.iload_n 1, 1) := by decide +kernel
theorem dX4_condition_84 : decode cX4_condition 84 = .ok (.invokevirtual 69, 3) := by decide +kernel
theorem dX4_condition_87 : decode cX4_condition 87 = .ok (.istore_n 2, 1) := by decide +kernel
theorem dX4_condition_88 : decode cX4_condition 88 = .ok (.iinc 4 1, 3) := by decide +kernel
theorem dX4_condition_91 : decode cX4_condition 91 = .ok (.goto (-80), 3) := by decide +kernel
theorem dX4_condition_94 : decode cX4_condition 94 = .ok (.iload_n 3, 1) := by decide +kernel
theorem dX4_condition_95 : decode cX4_condition 95 = .ok (.ifCond .eq 13, 3) := by decide +kernel
theorem dX4_condition_98 : decode cX4_condition 98 = .ok (.aload_n 0, 1) := by decide +kernel
theorem dX4_condition_99 : decode cX4_condition 99 = .ok (.getfield 15, 3) := by decide +kernel
theorem dX4_condition_102 : decode cX4_condition 102 = .ok (.sipush 1018, 3) := by decide +kernel
theorem dX4_condition_105 : decode cX4_condition 105 = .ok (.invokevirtual 72, 3) := by decide +kernel
theorem dX4_condition_108 : decode cX4_condition 108 = .ok (.iload_n 2, 1) := by decide +kernel
theorem dX4_condition_109 : decode cX4_condition 109 = .ok (.ireturn, 1) := by decide +kernel
theorem dX4_atom_0 : decode cX4_atom 0 = .ok (.aload_n 0, 1) := by decide +kernel
theorem dX4_atom_1 : decode cX4_atom 1 = .ok (.getfield 9, 3) := by decide +kernel
theorem dX4_atom_4 : decode cX4_atom 4 = .ok (.invokevirtual 47, 3) := by decide +kernel
theorem dX4_atom_7 : decode cX4_atom 7 = .ok (.istore_n 2, 1) := by decide +kernel
theorem dX4_atom_8 : decode cX4_atom 8 = .ok (.iload_n 2, 1) := by decide +kernel
theorem dX4_atom_9 : decode cX4_atom 9 = .ok (.bipush 20, 2) := by decide +kernel
theorem dX4_atom_11 : decode cX4_atom 11 = .ok (.if_icmp .eq 15, 3) := by decide +kernel
theorem dX4_atom_14 : decode cX4_atom 14 = .ok (.aload_n 0, 1) := by decide +kernel
theorem dX4_atom_15 : decode cX4_atom 15 = .ok (.getfield 9, 3) := by decide +kernel
theorem dX4_atom_18 : decode cX4_atom 18 = .ok (.bipush 40, 2) := by decide +kernel
theorem dX4_atom_20 : decode cX4_atom 20 = .ok (.invokevirtual 76, 3) := by decide +kernel
theorem dX4_atom_23 : decode cX4_atom 23 = .ok (.ifCond .eq 78, 3) := by decide +kernel
theorem dX4_atom_26 : decode cX4_atom 26 = .ok (.iload_n 1, 1) := by decide +kernel
theorem dX4_atom_27 : decode cX4_atom 27 = .ok (.bipush 6, 2) := by decide +kernel
theorem dX4_atom_29 : decode cX4_atom 29 = .ok (.if_icmp .lt 11, 3) := by decide +kernel
theorem dX4_atom_32 : decode cX4_atom 32 = .ok (.aload_n 0, 1) := by decide +kernel
theorem dX4_atom_33 : decode cX4_atom 33 = .ok (.getfield 9, 3) := by decide +kernel
theorem dX4_atom_36 : decode cX4_atom 36 = .ok (.invokevirtual 33, 3) := by decide +kernel
theorem dX4_atom_39 : decode cX4_atom 39 = .ok (.ireturn, 1) := by decide +kernel
theorem dX4_atom_40 : decode cX4_atom 40 = .ok (.aload_n 0, 1) := by decide +kernel
theorem dX4_atom_41 : decode cX4_atom 41 = .ok (.getfield 9, 3) := by decide +kernel
theorem dX4_atom_44 : decode cX4_atom 44 = .ok (.invokevirtual 51, 3) := by decide +kernel
theorem dX4_atom_47 : decode cX4_atom 47 = .ok (.iload_n 2, 1) := by decide +kernel
theorem dX4_atom_48 : decode cX4_atom 48 = .ok (.bipush 20, 2) := by decide +kernel
theorem dX4_atom_50 : decode cX4_atom 50 = .ok (.if_icmp .eq 31, 3) := by decide +kernel
theorem dX4_atom_53 : decode cX4_atom 53 = .ok (.aload_n 0, 1) := by decide +kernel
theorem dX4_atom_54 : decode cX4_atom 54 = .ok (.iload_n 1, 1) := by decide +kernel
theorem dX4_atom_55 : decode cX4_atom 55 = .ok (.iconst 1, 1) := by decide +kernel
theorem dX4_atom_56 : decode cX4_atom 56 = .ok (.iadd, 1) := by decide +kernel
theorem dX4_atom_57 : decode cX4_atom 57 = .ok (.invokevirtual 62, 3) := by decide +kernel
theorem dX4_atom_60 : decode cX4_atom 60 = .ok (.ifCond .eq 19, 3) := by decide +kernel
theorem dX4_atom_63 : decode cX4_atom 63 = .ok (.aload_n 0, 1) := by decide +kernel
theorem dX4_atom_64 : decode cX4_atom 64 = .ok (.getfield 9, 3) := by decide +kernel
theorem dX4_atom_67 : decode cX4_atom 67 = .ok (.bipush 41, 2) := by decide +kernel
theorem dX4_atom_69 : decode cX4_atom 69 = .ok (.invokevirtual 39, 3) := by decide +kernel
theorem dX4_atom_72 : decode cX4_atom 72 = .ok (.ifCond .eq 7, 3) := by decide +kernel
theorem dX4_atom_75 : decode cX4_atom 75 = .ok (.iconst 1, 1) := by decide +kernel
theorem dX4_atom_76 : decode cX4_atom 76 = .ok (.goto 4, 3) := by decide +kernel
theorem dX4_atom_79 : decode cX4_atom 79 = .ok (.iconst 0, 1) := by decide +kernel
theorem dX4_atom_80 : decode cX4_atom 80 = .ok (.ireturn, 1) := by decide +kernel
theorem dX4_atom_81 : decode cX4_atom 81 = .ok (.aload_n 0, 1) := by decide +kernel
theorem dX4_atom_82 : decode cX4_atom 82 = .ok (.iload_n 1, 1) := by decide +kernel
theorem dX4_atom_83 : decode cX4_atom 83 = .ok (.iconst 1, 1) := by decide +kernel
theorem dX4_atom_84 : decode cX4_atom 84 = .ok (.iadd, 1) := by decide +kernel
theorem dX4_atom_85 : decode cX4_atom 85 = .ok (.invokevirtual 69, 3) := by decide +kernel
theorem dX4_atom_88 : decode cX4_atom 88 = .ok (.istore_n 3, 1) := by decide +kernel
theorem dX4_atom_89 : decode cX4_atom 89 = .ok (.aload_n 0, 1) := by decide +kernel
theorem dX4_atom_90 : decode cX4_atom 90 = .ok (.getfield 15, 3) := by decide +kernel
theorem dX4_atom_93 : decode cX4_atom 93 = .ok (.sipush 1020, 3) := by decide +kernel
theorem dX4_atom_96 : decode cX4_atom 96 = .ok (.invokevirtual 72, 3) := by decide +kernel
theorem dX4_atom_99 : decode cX4_atom 99 = .ok (.iload_n 3, 1) := by decide +kernel
theorem dX4_atom_100 : decode cX4_atom 100 = .ok (.ireturn, 1) := by decide +kernel
theorem dX4_atom_101 : decode cX4_atom 101 = .ok (.iload_n 2, 1) := by decide +kernel
theorem dX4_atom_102 : decode cX4_atom 102 = .ok (.bipush 27, 2) := by decide +kernel
theorem dX4_atom_104 : decode cX4_atom 104 = .ok (.if_icmp .eq 9, 3) := by decide +kernel
theorem dX4_atom_107 : decode cX4_atom 107 = .ok (.iload_n 2, 1) := by decide +kernel
theorem dX4_atom_108 : decode cX4_atom 108 = .ok (.bipush 28, 2) := by decide +kernel
theorem dX4_atom_110 : decode cX4_atom 110 = .ok (.if_icmp .ne 24, 3) := by decide +kernel
theorem dX4_atom_113 : decode cX4_atom 113 = .ok (.aload_n 0, 1) := by decide +kernel
theorem dX4_atom_114 : decode cX4_atom 114 = .ok (.getfield 15, 3) := by decide +kernel
theorem dX4_atom_117 : decode cX4_atom 117 = .ok (.sipush 1000, 3) := by decide +kernel
theorem dX4_atom_120 : decode cX4_atom 120 = .ok (.iload_n 2, 1) := by decide +kernel
theorem dX4_atom_121 : decode cX4_atom 121 = .ok (.iadd, 1) := by decide +kernel
theorem dX4_atom_122 : decode cX4_atom 122 = .ok (.invokevirtual 72, 3) := by decide +kernel
theorem dX4_atom_125 : decode cX4_atom 125 = .ok (.aload_n 0, 1) := by decide +kernel
theorem dX4_atom_126 : decode cX4_atom 126 = .ok (.getfield 9, 3) := by decide +kernel
theorem dX4_atom_129 : decode cX4_atom 129 = .ok (.invokevirtual 51, 3) := by decide +kernel
theorem dX4_atom_132 : decode cX4_atom 132 = .ok (.iconst 1, 1) := by decide +kernel
theorem dX4_atom_133 : decode cX4_atom 133 = .ok (.ireturn, 1) := by decide +kernel
theorem dX4_atom_134 : decode cX4_atom 134 = .ok (.aload_n 0, 1) := by decide +kernel
theorem dX4_atom_135 : decode cX4_atom 135 = .ok (.invokevirtual 79, 3) := by decide +kernel
theorem dX4_atom_138 : decode cX4_atom 138 = .ok (.ifCond .ne 5, 3) := by decide +kernel
theorem dX4_atom_141 : decode cX4_atom 141 = .ok (.iconst 0, 1) := by decide +kernel
theorem dX4_atom_142 : decode cX4_atom 142 = .ok (.ireturn, 1) := by decide +kernel
theorem dX4_atom_143 : decode cX4_atom 143 = .ok (.aload_n 0, 1) := by decide +kernel
theorem dX4_atom_144 : decode cX4_atom 144 = .ok (.getfield 9, 3) := by decide +kernel
theorem dX4_atom_147 : decode cX4_atom 147 = .ok (.bipush 60, 2) := by decide +kernel
theorem dX4_atom_149 : decode cX4_atom 149 = .ok (.invokevirtual 76, 3) := by decide +kernel
theorem dX4_atom_152 : decode cX4_atom 152 = .ok (.ifCond .eq 8, 3) := by decide +kernel
theorem dX4_atom_155 : decode cX4_atom 155 = .ok (.bipush 60, 2) := by decide +kernel
theorem dX4_atom_157 : decode cX4_atom 157 = .ok (.goto 5, 3) := by decide +kernel
theorem dX4_atom_160 : decode cX4_atom 160 = .ok (.bipush 62, 2) := by decide +kernel
theorem dX4_atom_162 : decode cX4_atom 162 = .ok (.istore_n 3, 1) := by decide +kernel
theorem dX4_atom_163 : decode cX4_atom 163 = .ok (.aload_n 0, 1) := by decide +kernel
theorem dX4_atom_164 : decode cX4_atom 164 = .ok (.getfield 9, 3) := by decide +kernel
theorem dX4_atom_167 : decode cX4_atom 167 = .ok (.iload_n 3, 1) := by decide +kernel
theorem dX4_atom_168 : decode cX4_atom 168 = .ok (.invokevirtual 39, 3) := by decide +kernel
theorem dX4_atom_171 : decode cX4_atom 171 = .ok (.ifCond .eq 14, 3) := by decide +kernel
theorem dX4_atom_174 : decode cX4_atom 174 = .ok (.aload_n 0, 1) := by decide +kernel
theorem dX4_atom_175 : decode cX4_atom 175 = .ok (.invokevirtual 79, 3) := by decide +kernel
theorem dX4_atom_178 : decode cX4_atom 178 = .ok (.ifCond .eq 7, 3) := by decide +kernel
theorem dX4_atom_181 : decode cX4_atom 181 = .ok (.iconst 1, 1) := by decide +kernel
theorem dX4_atom_182 : decode cX4_atom 182 = .ok (.goto 4, 3) := by decide +kernel
theorem dX4_atom_185 : decode cX4_atom 185 = .ok (.iconst 0, 1) := by decide +kernel
theorem dX4_atom_186 : decode cX4_atom 186 = .ok (.istore 4, 2) := by decide +kernel
theorem dX4_atom_188 : decode cX4_atom 188 = .ok (.aload_n 0, 1) := by decide +kernel
theorem dX4_atom_189 : decode cX4_atom 189 = .ok (.getfield 15, 3) := by decide +kernel
theorem dX4_atom_192 : decode cX4_atom 192 = .ok (.sipush 1000, 3) := by decide +kernel
theorem dX4_atom_195 : decode cX4_atom 195 = .ok (.iload_n 3, 1) := by decide +kernel
theorem dX4_atom_196 : decode cX4_atom 196 = .ok (.iadd, 1) := by decide +kernel
theorem dX4_atom_197 : decode cX4_atom 197 = .ok (.invokevirtual 72, 3) := by decide +kernel
theorem dX4_atom_200 : decode cX4_atom 200 = .ok (.iload 4, 2) := by decide +kernel
theorem dX4_atom_202 : decode cX4_atom 202 = .ok (.ireturn, 1) := by decide +kernel
theorem dX4_sum_0 : decode cX4_sum 0 = .ok (.iconst 0, 1) := by decide +kernel
theorem dX4_sum_1 : decode cX4_sum 1 = .ok (.istore_n 1, 1) := by decide +kernel
theorem dX4_sum_2 : decode cX4_sum 2 = .ok (.iload_n 1, 1) := by decide +kernel
theorem dX4_sum_3 : decode cX4_sum 3 = .ok (.sipush 400, 3) := by decide +kernel
theorem dX4_sum_6 : decode cX4_sum 6 = .ok (.if_icmp .ge 125, 3) := by decide +kernel
theorem dX4_sum_9 : decode cX4_sum 9 = .ok (.aload_n 0, 1) := by decide +kernel
theorem dX4_sum_10 : decode cX4_sum 10 = .ok (.getfield 9, 3) := by decide +kernel
theorem dX4_sum_13 : decode cX4_sum 13 = .ok (.invokevirtual 82, 3) := by decide +kernel
theorem dX4_sum_16 : decode cX4_sum 16 = .ok (.istore_n 2, 1) := by decide +kernel
theorem dX4_sum_17 : decode cX4_sum 17 = .ok (.aload_n 0, 1) := by decide +kernel
theorem dX4_sum_18 : decode cX4_sum 18 = .ok (.getfield 9, 3) := by decide +kernel
theorem dX4_sum_21 : decode cX4_sum 21 = .ok (.invokevirtual 47, 3) := by decide +kernel
theorem dX4_sum_24 : decode cX4_sum 24 = .ok (.istore_n 3, 1) := by decide +kernel
theorem dX4_sum_25 : decode cX4_sum 25 = .ok (.iload_n 3, 1) := by decide +kernel
theorem dX4_sum_26 : decode cX4_sum 26 = .ok (.bipush 21, 2) := by decide +kernel
theorem dX4_sum_28 : decode cX4_sum 28 = .ok (.if_icmp .lt 13, 3) := by decide +kernel
theorem dX4_sum_31 : decode cX4_sum 31 = .ok (.iload_n 3, 1) := by decide +kernel
theorem dX4_sum_32 : decode cX4_sum 32 = .ok (.bipush 26, 2) := by decide +kernel
theorem dX4_sum_34 : decode cX4_sum 34 = .ok (.if_icmp .gt 7, 3) := by decide +kernel
theorem dX4_sum_37 : decode cX4_sum 37 = .ok (.iconst 1, 1) := by decide +kernel
theorem dX4_sum_38 : decode cX4_sum 38 = .ok (.goto 4, 3) := by decide +kernel
theorem dX4_sum_41 : decode cX4_sum 41 = .ok (.iconst 0, 1) := by decide +kernel
theorem dX4_sum_42 : decode cX4_sum 42 = .ok (.istore 4, 2) := by decide +kernel
theorem dX4_sum_44 : decode cX4_sum 44 = .ok (.iload_n 2, 1) := by decide +kernel
theorem dX4_sum_45 : decode cX4_sum 45 = .ok (.iconst (-1), 1) := by decide +kernel
theorem dX4_sum_46 : decode cX4_sum 46 = .ok (.if_icmp .ne 16, 3) := by decide +kernel
theorem dX4_sum_49 : decode cX4_sum 49 = .ok (.iload 4, 2) := by decide +kernel
theorem dX4_sum_51 : decode cX4_sum 51 = .ok (.ifCond .ne 11, 3) := by decide +kernel
theorem dX4_sum_54 : decode cX4_sum 54 = .ok (.aload_n 0, 1) := by decide +kernel
theorem dX4_sum_55 : decode cX4_sum 55 = .ok (.getfield 9, 3) := by decide +kernel
theorem dX4_sum_58 : decode cX4_sum 58 = .ok (.invokevirtual 33, 3) := by decide +kernel
theorem dX4_sum_61 : decode cX4_sum 61 = .ok (.ireturn, 1) := by decide +kernel
theorem dX4_sum_62 : decode cX4_sum 62 = .ok (.aload_n 0, 1) := by decide +kernel
theorem dX4_sum_63 : decode cX4_sum 63 = .ok (.getfield 15, 3) := by decide +kernel
theorem dX4_sum_66 : decode cX4_sum 66 = .ok (.iload 4, 2) := by decide +kernel
theorem dX4_sum_68 : decode cX4_sum 68 = .ok (.ifCond .eq 11, 3) := by decide +kernel
theorem dX4_sum_71 : decode cX4_sum 71 = .ok (.sipush 1000, 3) := by decide +kernel
theorem dX4_sum_74 : decode cX4_sum 74 = .ok (.iload_n 3, 1) := by decide +kernel
theorem dX4_sum_75 : decode cX4_sum 75 = .ok (.iadd, 1) := by decide +kernel
theorem dX4_sum_76 : decode cX4_sum 76 = .ok (.goto 4, 3) := by decide +kernel
theorem dX4_sum_79 : decode cX4_sum 79 = .ok (.iload_n 2, 1) := by decide +kernel
theorem dX4_sum_80 : decode cX4_sum 80 = .ok (.invokevirtual 72, 3) := by decide +kernel
theorem dX4_sum_83 : decode cX4_sum 83 = .ok (.aload_n 0, 1) := by decide +kernel
theorem dX4_sum_84 : decode cX4_sum 84 = .ok (.getfield 9, 3) := by decide +kernel
theorem dX4_sum_87 : decode cX4_sum 87 = .ok (.invokevirtual 51, 3) := by decide +kernel
theorem dX4_sum_90 : decode cX4_sum 90 = .ok (.iload_n 1, 1) := by decide +kernel
theorem dX4_sum_91 : decode cX4_sum 91 = .ok (.ifCond .le 13, 3) := by decide +kernel
theorem dX4_sum_94 : decode cX4_sum 94 = .ok (.aload_n 0, 1) := by decide +kernel
theorem dX4_sum_95 : decode cX4_sum 95 = .ok (.getfield 15, 3) := by decide +kernel
theorem dX4_sum_98 : decode cX4_sum 98 = .ok (.sipush 1043, 3) := by decide +kernel
theorem dX4_sum_101 : decode cX4_sum 101 = .ok (.invokevirtual 72, 3) := by decide +kernel
theorem dX4_sum_104 : decode cX4_sum 104 = .ok (.aload_n 0, 1) := by decide +kernel
theorem dX4_sum_105 : decode cX4_sum 105 = .ok (.getfield 9, 3) := by decide +kernel
theorem dX4_sum_108 : decode cX4_sum 108 = .ok (.bipush 43, 2) := by decide +kernel
theorem dX4_sum_110 : decode cX4_sum 110 = .ok (.invokevirtual 76, 3) := by decide +kernel
theorem dX4_sum_113 : decode cX4_sum 113 = .ok (.ifCond .ne 5, 3) := by decide +kernel
theorem dX4_sum_116 : decode cX4_sum 116 = .ok (.iconst 1, 1) := by decide +kernel
theorem dX4_sum_117 : decode cX4_sum 117 = .ok (.ireturn, 1) := by decide +kernel
theorem dX4_sum_118 : decode cX4_sum 118 = .ok (.aload_n 0, 1) := by decide +kernel
theorem dX4_sum_119 : decode cX4_sum 119 = .ok (.getfield 9, 3) := by decide +kernel
theorem dX4_sum_122 : decode cX4_sum 122 = .ok (.invokevirtual 51, 3) := by decide +kernel
theorem dX4_sum_125 : decode cX4_sum 125 = .ok (.iinc 1 1, 3) := by decide +kernel
theorem dX4_sum_128 : decode cX4_sum 128 = .ok (.goto (-126), 3) := by decide +kernel
theorem dX4_sum_131 : decode cX4_sum 131 = .ok (.aload_n 0, 1) := by decide +kernel
theorem dX4_sum_132 : decode cX4_sum 132 = .ok (.getfield 9, 3) := by decide +kernel
theorem dX4_sum_135 : decode cX4_sum 135 = .ok (.invokevirtual 33, 3) := by decide +kernel
theorem dX4_sum_138 : decode cX4_sum 138 = .ok (.ireturn, 1) := by decide +kernel
theorem dX5_init_0 : decode cX5_init 0 = .ok (.aload_n 0, 1) := by decide +kernel
theorem dX5_init_1 : decode cX5_init 1 = .ok (.invokespecial 3, 3) := by decide +kernel
theorem dX5_init_4 : decode cX5_init 4 = .ok (.aload_n 0, 1) := by decide +kernel
theorem dX5_init_5 : decode cX5_init 5 = .ok (.bipush 12, 2) := by decide +kernel
theorem dX5_init_7 : decode cX5_init 7 = .ok (.anewarray 9, 3) := by decide +kernel
theorem dX5_init_10 : decode cX5_init 10 = .ok (.putfield 11, 3) := by decide +kernel
theorem dX5_init_13 : decode cX5_init 13 = .ok (.aload_n 0, 1) := by decide +kernel
theorem dX5_init_14 : decode cX5_init 14 = .ok (.iconst 0, 1) := by decide +kernel
theorem dX5_init_15 : decode cX5_init 15 = .ok (.putfield 17, 3) := by decide +kernel
theorem dX5_init_18 : decode cX5_init 18 = .ok (.aload_n 0, 1) := by decide +kernel
theorem dX5_init_19 : decode cX5_init 19 = .ok (.iconst 0, 1) := by decide +kernel
theorem dX5_init_20 : decode cX5_init 20 = .ok (.putfield 21, 3) := by decide +kernel
theorem dX5_init_23 : decode cX5_init 23 = .ok (.iconst 0, 1) := by decide +kernel
theorem dX5_init_24 : decode cX5_init 24 = .ok (.istore_n 1, 1) := by decide +kernel
theorem dX5_init_25 : decode cX5_init 25 = .ok (.iload_n 1, 1) := by decide +kernel
theorem dX5_init_26 : decode cX5_init 26 = .ok (.aload_n 0, 1) := by decide +kernel
theorem dX5_init_27 : decode cX5_init 27 = .ok (.getfield 11, 3) := by decide +kernel
theorem dX5_init_30 : decode cX5_init 30 = .ok (.arraylength, 1) := by decide +kernel
theorem dX5_init_31 : decode cX5_init 31 = .ok (.if_icmp .ge 22, 3) := by decide +kernel
theorem dX5_init_34 : decode cX5_init 34 = .ok (.aload_n 0, 1) := by decide +kernel
theorem dX5_init_35 : decode cX5_init 35 = .ok (.getfield 11, 3) := by decide +kernel
theorem dX5_init_38 : decode cX5_init 38 = .ok (.iload_n 1, 1) := by decide +kernel
theorem dX5_init_39 : decode cX5_init 39 = .ok (.new 9, 3) := by decide +kernel
theorem dX5_init_42 : decode cX5_init 42 = .ok (.dup, 1) := by decide +kernel
theorem dX5_init_43 : decode cX5_init 43 = .ok (.invokespecial 24, 3) := by decide +kernel
theorem dX5_init_46 : decode cX5_init 46 = .ok (.aastore, 1) := by decide +kernel
theorem dX5_init_47 : decode cX5_init 47 = .ok (.iinc 1 1, 3) := by decide +kernel
theorem dX5_init_50 : decode cX5_init 50 = .ok (.goto (-25), 3) := by decide +kernel
theorem dX5_init_53 : decode cX5_init 53 = .ok (.return_, 1) := by decide +kernel
theorem dX5_remember_0 : decode cX5_remember 0 = .ok (.aload_n 0, 1) := by decide +kernel
theorem dX5_remember_1 : decode cX5_remember 1 = .ok (.getfield 21, 3) := by decide +kernel
theorem dX5_remember_4 : decode cX5_remember 4 = .ok (.bipush 12, 2) := by decide +kernel
theorem dX5_remember_6 : decode cX5_remember 6 = .ok (.if_icmp .ne 26, 3) := by decide +kernel
theorem dX5_remember_9 : decode cX5_remember 9 = .ok (.aload_n 0, 1) := by decide +kernel
theorem dX5_remember_10 : decode cX5_remember 10 = .ok (.aload_n 0, 1) := by decide +kernel
theorem dX5_remember_11 : decode cX5_remember 11 = .ok (.getfield 17, 3) := by decide +kernel
theorem dX5_remember_14 : decode cX5_remember 14 = .ok (.iconst 1, 1) := by decide +kernel
theorem dX5_remember_15 : decode cX5_remember 15 = .ok (.iadd, 1) := by decide +kernel
theorem dX5_remember_16 : decode cX5_remember 16 = .ok (.bipush 12, 2) := by decide +kernel
theorem dX5_remember_18 : decode cX5_remember 18 = .ok (.irem, 1) := by decide +kernel
theorem dX5_remember_19 : decode cX5_remember 19 = .ok (.putfield 17, 3) := by decide +kernel
theorem dX5_remember_22 : decode cX5_remember 22 = .ok (.aload_n 0, 1) := by decide +kernel
theorem dX5_remember_23 : decode cX5_remember 23 = .ok (.dup, 1) := by decide +kernel
theorem dX5_remember_24 : decode cX5_remember 24 = .ok (.getfield 21, 3) := by decide +kernel
theorem dX5_remember_27 : decode cX5_remember 27 = .ok (.iconst 1, 1) := by decide +kernel
theorem dX5_remember_28 : decode cX5_remember 28 = .ok (.isub, 1) := by decide +kernel
theorem dX5_remember_29 : decode cX5_remember 29 = .ok (.putfield 21, 3) := by decide +kernel
theorem dX5_remember_32 : decode cX5_remember 32 = .ok (.aload_n 0, 1) := by decide +kernel
theorem dX5_remember_33 : decode cX5_remember 33 = .ok (.aload_n 0, 1) := by decide +kernel
theorem dX5_remember_34 : decode cX5_remember 34 = .ok (.getfield 21, 3) := by decide +kernel
theorem dX5_remember_37 : decode cX5_remember 37 = .ok (.invokevirtual 25, 3) := by decide +kernel
theorem dX5_remember_40 : decode cX5_remember 40 = .ok (.astore_n 2, 1) := by decide +kernel
theorem dX5_remember_41 : decode cX5_remember 41 = .ok (.aload_n 2, 1) := by decide +kernel
theorem dX5_remember_42 : decode cX5_remember 42 = .ok (.ifnull 18, 3) := by decide +kernel
theorem dX5_remember_45 : decode cX5_remember 45 = .ok (.aload_n 2, 1) := by decide +kernel
theorem dX5_remember_46 : decode cX5_remember 46 = .ok (.aload_n 1, 1) := by decide +kernel
theorem dX5_remember_47 : decode cX5_remember 47 = .ok (.invokevirtual 29, 3) := by decide +kernel
theorem dX5_remember_50 : decode cX5_remember 50 = .ok (.aload_n 0, 1) := by decide +kernel
theorem dX5_remember_51 : decode cX5_remember 51 = .ok (.dup, 1) := by decide +kernel
theorem dX5_remember_52 : decode cX5_remember 52 = .ok (.getfield 21, 3) := by decide +kernel
theorem dX5_remember_55 : decode cX5_remember 55 = .ok (.iconst 1, 1) := by decide +kernel
theorem dX5_remember_56 : decode cX5_remember 56 = .ok (.iadd, 1) := by decide +kernel
theorem dX5_remember_57 : decode cX5_remember 57 = .ok (.putfield 21, 3) := by decide +kernel
theorem dX5_remember_60 : decode cX5_remember 60 = .ok (.return_, 1) := by decide +kernel
theorem dX5_recall_0 : decode cX5_recall 0 = .ok (.aload_n 0, 1) := by decide +kernel
theorem dX5_recall_1 : decode cX5_recall 1 = .ok (.getfield 21, 3) := by decide +kernel
theorem dX5_recall_4 : decode cX5_recall 4 = .ok (.ifCond .le 16, 3) := by decide +kernel
theorem dX5_recall_7 : decode cX5_recall 7 = .ok (.aload_n 0, 1) := by decide +kernel
theorem dX5_recall_8 : decode cX5_recall 8 = .ok (.aload_n 0, 1) := by decide +kernel
theorem dX5_recall_9 : decode cX5_recall 9 = .ok (.getfield 21, 3) := by decide +kernel
theorem dX5_recall_12 : decode cX5_recall 12 = .ok (.iconst 1, 1) := by decide +kernel
theorem dX5_recall_13 : decode cX5_recall 13 = .ok (.isub, 1) := by decide +kernel
theorem dX5_recall_14 : decode cX5_recall 14 = .ok (.invokevirtual 25, 3) := by decide +kernel
theorem dX5_recall_17 : decode cX5_recall 17 = .ok (.goto 4, 3) := by decide +kernel
theorem dX5_recall_20 : decode cX5_recall 20 = .ok (.aconst_null, 1) := by decide +kernel
theorem dX5_recall_21 : decode cX5_recall 21 = .ok (.astore_n 2, 1) := by decide +kernel
theorem dX5_recall_22 : decode cX5_recall 22 = .ok (.aload_n 2, 1) := by decide +kernel
theorem dX5_recall_23 : decode cX5_recall 23 = .ok (.ifnonnull 5, 3) := by decide +kernel
theorem dX5_recall_26 : decode cX5_recall 26 = .ok (.iconst 0, 1) := by decide +kernel
theorem dX5_recall_27 : decode cX5_recall 27 = .ok (.ireturn, 1) := by decide +kernel
theorem dX5_recall_28 : decode cX5_recall 28 = .ok (.aload_n 1, 1) := by decide +kernel
theorem dX5_recall_29 : decode cX5_recall 29 = .ok (.aload_n 2, 1) := by decide +kernel
theorem dX5_recall_30 : decode cX5_recall 30 = .ok (.invokevirtual 29, 3) := by decide +kernel
theorem dX5_recall_33 : decode cX5_recall 33 = .ok (.aload_n 0, 1) := by decide +kernel
theorem dX5_recall_34 : decode cX5_recall 34 = .ok (.dup, 1) := by decide +kernel
theorem dX5_recall_35 : decode cX5_recall 35 = .ok (.getfield 21, 3) := by decide +kernel
theorem dX5_recall_38 : decode cX5_recall 38 = .ok (.iconst 1, 1) := by decide +kernel
theorem dX5_recall_39 : decode cX5_recall 39 = .ok (.isub, 1) := by decide +kernel
theorem dX5_recall_40 : decode cX5_recall 40 = .ok (.putfield 21, 3) := by decide +kernel
theorem dX5_recall_43 : decode cX5_recall 43 = .ok (.iconst 1, 1) := by decide +kernel
theorem dX5_recall_44 : decode cX5_recall 44 = .ok (.ireturn, 1) := by decide +kernel
theorem dX5_worldAt_0 : decode cX5_worldAt 0 = .ok (.aload_n 0, 1) := by decide +kernel
theorem dX5_worldAt_1 : decode cX5_worldAt 1 = .ok (.getfield 17, 3) := by decide +kernel
theorem dX5_worldAt_4 : decode cX5_worldAt 4 = .ok (.iload_n 1, 1) := by decide +kernel
theorem dX5_worldAt_5 : decode cX5_worldAt 5 = .ok (.iadd, 1) := by decide +kernel
theorem dX5_worldAt_6 : decode cX5_worldAt 6 = .ok (.bipush 12, 2) := by decide +kernel
theorem dX5_worldAt_8 : decode cX5_worldAt 8 = .ok (.irem, 1) := by decide +kernel
theorem dX5_worldAt_9 : decode cX5_worldAt 9 = .ok (.istore_n 2, 1) := by decide +kernel
theorem dX5_worldAt_10 : decode cX5_worldAt 10 = .ok (.iload_n 2, 1) := by decide +kernel
theorem dX5_worldAt_11 : decode cX5_worldAt 11 = .ok (.ifCond .lt 21, 3) := by decide +kernel
theorem dX5_worldAt_14 : decode cX5_worldAt 14 = .ok (.iload_n 2, 1) := by decide +kernel
theorem dX5_worldAt_15 : decode cX5_worldAt 15 = .ok (.aload_n 0, 1) := by decide +kernel
theorem dX5_worldAt_16 : decode cX5_worldAt 16 = .ok (.getfield 11, 3) := by decide +kernel
theorem dX5_worldAt_19 : decode cX5_worldAt 19 = .ok (.arraylength, 1) := by decide +kernel
theorem dX5_worldAt_20 : decode cX5_worldAt 20 = .ok (.if_icmp .ge 12, 3) := by decide +kernel
theorem dX5_worldAt_23 : decode cX5_worldAt 23 = .ok (.aload_n 0, 1) := by decide +kernel
theorem dX5_worldAt_24 : decode cX5_worldAt 24 = .ok (.getfield 11, 3) := by decide +kernel
theorem dX5_worldAt_27 : decode cX5_worldAt 27 = .ok (.iload_n 2, 1) := by decide +kernel
theorem dX5_worldAt_28 : decode cX5_worldAt 28 = .ok (.aaload, 1) := by decide +kernel
theorem dX5_worldAt_29 : decode cX5_worldAt 29 = .ok (.goto 4, 3) := by decide +kernel
theorem dX5_worldAt_32 : decode cX5_worldAt 32 = .ok (.aconst_null, 1) := by decide +kernel
theorem dX5_worldAt_33 : decode cX5_worldAt 33 = .ok (.areturn, 1) := by decide +kernel
theorem dX5_forget_0 : decode cX5_forget 0 = .ok (.aload_n 0, 1) := by decide +kernel
theorem dX5_forget_1 : decode cX5_forget 1 = .ok (.iconst 0, 1) := by decide +kernel
theorem dX5_forget_2 : decode cX5_forget 2 = .ok (.putfield 21, 3) := by decide +kernel
theorem dX5_forget_5 : decode cX5_forget 5 = .ok (.return_, 1) := by decide +kernel
theorem dX6_init_0 : decode cX6_init 0 = .ok (.aload_n 0, 1) := by decide +kernel
theorem dX6_init_1 : decode cX6_init 1 = .ok (.invokespecial 3, 3) := by decide +kernel
theorem dX6_init_4 : decode cX6_init 4 = .ok (.aload_n 0, 1) := by decide +kernel
theorem dX6_init_5 : decode cX6_init 5 = .ok (.sipush 400, 3) := by decide +kernel
theorem dX6_init_8 : decode cX6_init 8 = .ok (.newarray .int, 2) := by decide +kernel
theorem dX6_init_10 : decode cX6_init 10 = .ok (.putfield 9, 3) := by decide +kernel
theorem dX6_init_13 : decode cX6_init 13 = .ok (.aload_n 0, 1) := by decide +kernel
theorem dX6_init_14 : decode cX6_init 14 = .ok (.iconst 0, 1) := by decide +kernel
theorem dX6_init_15 : decode cX6_init 15 = .ok (.putfield 15, 3) := by decide +kernel
theorem dX6_init_18 : decode cX6_init 18 = .ok (.return_, 1) := by decide +kernel
theorem dX6_addNumber_0 : decode cX6_addNumber 0 = .ok (.bipush 24, 2) := by decide +kernel
theorem dX6_addNumber_2 : decode cX6_addNumber 2 = .ok (.istore_n 2, 1) := by decide +kernel
theorem dX6_addNumber_3 : decode cX6_addNumber 3 = .ok (.iload_n 2, 1) := by decide +kernel
theorem dX6_addNumber_4 : decode cX6_addNumber 4 = .ok (.ifCond .lt 37, 3) := by decide +kernel
theorem dX6_addNumber_7 : decode cX6_addNumber 7 = .ok (.aload_n 0, 1) := by decide +kernel
theorem dX6_addNumber_8 : decode cX6_addNumber 8 = .ok (.getfield 9, 3) := by decide +kernel
theorem dX6_addNumber_11 : decode cX6_addNumber 11 = .ok (.aload_n 0, 1) := by decide +kernel
theorem dX6_addNumber_12 : decode cX6_addNumber 12 = .ok (.getfield 15, 3) := by decide +kernel
theorem dX6_addNumber_15 : decode cX6_addNumber 15 = .ok (.iload_n 1, 1) := by decide +kernel
theorem dX6_addNumber_16 : decode cX6_addNumber 16 = .ok (.iload_n 2, 1) := by decide +kernel
theorem dX6_addNumber_17 : decode cX6_addNumber 17 = .ok (.ishr, 1) := by decide +kernel
theorem dX6_addNumber_18 : decode cX6_addNumber 18 = .ok (.sipush 255, 3) := by decide +kernel
theorem dX6_addNumber_21 : decode cX6_addNumber 21 = .ok (.iand, 1) := by decide +kernel
theorem dX6_addNumber_22 : decode cX6_addNumber 22 = .ok (.invokestatic 19, 3) := by decide +kernel
theorem dX6_addNumber_25 : decode cX6_addNumber 25 = .ok (.aload_n 0, 1) := by decide +kernel
theorem dX6_addNumber_26 : decode cX6_addNumber 26 = .ok (.dup, 1) := by decide +kernel
theorem dX6_addNumber_27 : decode cX6_addNumber 27 = .ok (.getfield 15, 3) := by decide +kernel
theorem dX6_addNumber_30 : decode cX6_addNumber 30 = .ok (.iconst 1, 1) := by decide +kernel
theorem dX6_addNumber_31 : decode cX6_addNumber 31 = .ok (.iadd, 1) := by decide +kernel
theorem dX6_addNumber_32 : decode cX6_addNumber 32 = .ok (.putfield 15, 3) := by decide +kernel
theorem dX6_addNumber_35 : decode cX6_addNumber 35 = .ok (.iinc 2 (-8), 3) := by decide +kernel
theorem dX6_addNumber_38 : decode cX6_addNumber 38 = .ok (.goto (-35), 3) := by decide +kernel
theorem dX6_addNumber_41 : decode cX6_addNumber 41 = .ok (.return_, 1) := by decide +kernel
theorem dX7_init_0 : decode cX7_init 0 = .ok (.aload_n 0, 1) := by decide +kernel
theorem dX7_init_1 : decode cX7_init 1 = .ok (.invokespecial 3, 3) := by decide +kernel
theorem dX7_init_4 : decode cX7_init 4 = .ok (.aload_n 0, 1) := by decide +kernel
theorem dX7_init_5 : decode cX7_init 5 = .ok (.ldc 11, 2) := by decide +kernel
theorem dX7_init_7 : decode cX7_init 7 = .ok (.invokevirtual 13, 3) := by decide +kernel
theorem dX7_init_10 : decode cX7_init 10 = .ok (.putfield 19, 3) := by decide +kernel
theorem dX7_init_13 : decode cX7_init 13 = .ok (.aload_n 0, 1) := by decide +kernel
theorem dX7_init_14 : decode cX7_init 14 = .ok (.iconst 0, 1) := by decide +kernel
theorem dX7_init_15 : decode cX7_init 15 = .ok (.putfield 23, 3) := by decide +kernel
theorem dX7_init_18 : decode cX7_init 18 = .ok (.aload_n 0, 1) := by decide +kernel
theorem dX7_init_19 : decode cX7_init 19 = .ok (.iconst 0, 1) := by decide +kernel
theorem dX7_init_20 : decode cX7_init 20 = .ok (.putfield 27, 3) := by decide +kernel
theorem dX7_init_23 : decode cX7_init 23 = .ok (.aload_n 0, 1) := by decide +kernel
theorem dX7_init_24 : decode cX7_init 24 = .ok (.iconst 0, 1) := by decide +kernel
theorem dX7_init_25 : decode cX7_init 25 = .ok (.putfield 30, 3) := by decide +kernel
theorem dX7_init_28 : decode cX7_init 28 = .ok (.aload_n 0, 1) := by decide +kernel
theorem dX7_init_29 : decode cX7_init 29 = .ok (.iconst 0, 1) := by decide +kernel
theorem dX7_init_30 : decode cX7_init 30 = .ok (.putfield 33, 3) := by decide +kernel
theorem dX7_init_33 : decode cX7_init 33 = .ok (.aload_n 0, 1) := by decide +kernel
theorem dX7_init_34 : decode cX7_init 34 = .ok (.iconst (-1), 1) := by decide +kernel
theorem dX7_init_35 : decode cX7_init 35 = .ok (.putfield 36, 3) := by decide +kernel
theorem dX7_init_38 : decode cX7_init 38 = .ok (.aload_n 0, 1) := by decide +kernel
theorem dX7_init_39 : decode cX7_init 39 = .ok (.aload_n 1, 1) := by decide +kernel
theorem dX7_init_40 : decode cX7_init 40 = .ok (.putfield 39, 3) := by decide +kernel
theorem dX7_init_43 : decode cX7_init 43 = .ok (.return_, 1) := by decide +kernel
theorem dX7_open_0 : decode cX7_open 0 = .ok (.aload_n 0, 1) := by decide +kernel
theorem dX7_open_1 : decode cX7_open 1 = .ok (.iconst (-1), 1) := by decide +kernel
theorem dX7_open_2 : decode cX7_open 2 = .ok (.putfield 36, 3) := by decide +kernel
theorem dX7_open_5 : decode cX7_open 5 = .ok (.aload_n 0, 1) := by decide +kernel
theorem dX7_open_6 : decode cX7_open 6 = .ok (.iconst 0, 1) := by decide +kernel
theorem dX7_open_7 : decode cX7_open 7 = .ok (.putfield 33, 3) := by decide +kernel
theorem dX7_open_10 : decode cX7_open 10 = .ok (.aload_n 0, 1) := by decide +kernel
theorem dX7_open_11 : decode cX7_open 11 = .ok (.invokevirtual 43, 3) := by decide +kernel
theorem dX7_open_14 : decode cX7_open 14 = .ok (.return_, 1) := by decide +kernel
theorem dX7_next_0 : decode cX7_next 0 = .ok (.aload_n 0, 1) := by decide +kernel
theorem dX7_next_1 : decode cX7_next 1 = .ok (.getfield 39, 3) := by decide +kernel
theorem dX7_next_4 : decode cX7_next 4 = .ok (.getfield 46, 3) := by decide +kernel
theorem dX7_next_7 : decode cX7_next 7 = .ok (.aload_n 0, 1) := by decide +kernel
theorem dX7_next_8 : decode cX7_next 8 = .ok (.getfield 39, 3) := by decide +kernel
theorem dX7_next_11 : decode cX7_next 11 = .ok (.getfield 51, 3) := by decide +kernel
theorem dX7_next_14 : decode cX7_next 14 = .ok (.arraylength, 1) := by decide +kernel
theorem dX7_next_15 : decode cX7_next 15 = .ok (.invokestatic 55, 3) := by decide +kernel
theorem dX7_next_18 : decode cX7_next 18 = .ok (.istore_n 1, 1) := by decide +kernel
theorem dX7_next_19 : decode cX7_next 19 = .ok (.aload_n 0, 1) := by decide +kernel
theorem dX7_next_20 : decode cX7_next 20 = .ok (.aload_n 0, 1) := by decide +kernel
theorem dX7_next_21 : decode cX7_next 21 = .ok (.getfield 33, 3) := by decide +kernel
theorem dX7_next_24 : decode cX7_next 24 = .ok (.putfield 30, 3) := by decide +kernel
theorem dX7_next_27 : decode cX7_next 27 = .ok (.aload_n 0, 1) := by decide +kernel
theorem dX7_next_28 : decode cX7_next 28 = .ok (.getfield 30, 3) := by decide +kernel
theorem dX7_next_31 : decode cX7_next 31 = .ok (.iload_n 1, 1) := by decide +kernel
theorem dX7_next_32 : decode cX7_next 32 = .ok (.if_icmp .ge 33, 3) := by decide +kernel
theorem dX7_next_35 : decode cX7_next 35 = .ok (.aload_n 0, 1) := by decide +kernel
theorem dX7_next_36 : decode cX7_next 36 = .ok (.getfield 39, 3) := by decide +kernel
theorem dX7_next_39 : decode cX7_next 39 = .ok (.getfield 51, 3) := by decide +kernel
theorem dX7_next_42 : decode cX7_next 42 = .ok (.aload_n 0, 1) := by decide +kernel
theorem dX7_next_43 : decode cX7_next 43 = .ok (.getfield 30, 3) := by decide +kernel
theorem dX7_next_46 : decode cX7_next 46 = .ok (.iaload, 1) := by decide +kernel
theorem dX7_next_47 : decode cX7_next 47 = .ok (.bipush 32, 2) := by decide +kernel
theorem dX7_next_49 : decode cX7_next 49 = .ok (.if_icmp .ne 16, 3) := by decide +kernel
theorem dX7_next_52 : decode cX7_next 52 = .ok (.aload_n 0, 1) := by decide +kernel
theorem dX7_next_53 : decode cX7_next 53 = .ok (.dup, 1) := by decide +kernel
theorem dX7_next_54 : decode cX7_next 54 = .ok (.getfield 30, 3) := by decide +kernel
theorem dX7_next_57 : decode cX7_next 57 = .ok (.iconst 1, 1) := by decide +kernel
theorem dX7_next_58 : decode cX7_next 58 = .ok (.iadd, 1) := by decide +kernel
theorem dX7_next_59 : decode cX7_next 59 = .ok (.putfield 30, 3) := by decide +kernel
theorem dX7_next_62 : decode cX7_next 62 = .ok (.goto (-35), 3) := by decide +kernel
theorem dX7_next_65 : decode cX7_next 65 = .ok (.aload_n 0, 1) := by decide +kernel
theorem dX7_next_66 : decode cX7_next 66 = .ok (.aload_n 0, 1) := by decide +kernel
theorem dX7_next_67 : decode cX7_next 67 = .ok (.getfield 30, 3) := by decide +kernel
theorem dX7_next_70 : decode cX7_next 70 = .ok (.putfield 33, 3) := by decide +kernel
theorem dX7_next_73 : decode cX7_next 73 = .ok (.aload_n 0, 1) := by decide +kernel
theorem dX7_next_74 : decode cX7_next 74 = .ok (.getfield 30, 3) := by decide +kernel
theorem dX7_next_77 : decode cX7_next 77 = .ok (.iload_n 1, 1) := by decide +kernel
theorem dX7_next_78 : decode cX7_next 78 = .ok (.if_icmp .lt 9, 3) := by decide +kernel
theorem dX7_next_81 : decode cX7_next 81 = .ok (.aload_n 0, 1) := by decide +kernel
theorem dX7_next_82 : decode cX7_next 82 = .ok (.iconst 0, 1) := by decide +kernel
theorem dX7_next_83 : decode cX7_next 83 = .ok (.putfield 23, 3) := by decide +kernel
theorem dX7_next_86 : decode cX7_next 86 = .ok (.return_, 1) := by decide +kernel
theorem dX7_next_87 : decode cX7_next 87 = .ok (.aload_n 0, 1) := by decide +kernel
theorem dX7_next_88 : decode cX7_next 88 = .ok (.getfield 39, 3) := by decide +kernel
theorem dX7_next_91 : decode cX7_next 91 = .ok (.getfield 51, 3) := by decide +kernel
theorem dX7_next_94 : decode cX7_next 94 = .ok (.aload_n 0, 1) := by decide +kernel
theorem dX7_next_95 : decode cX7_next 95 = .ok (.getfield 30, 3) := by decide +kernel
theorem dX7_next_98 : decode cX7_next 98 = .ok (.iaload, 1) := by decide +kernel
theorem dX7_next_99 : decode cX7_next 99 = .ok (.istore_n 2, 1) := by decide +kernel
theorem dX7_next_100 : decode cX7_next 100 = .ok (.aload_n 0, 1) := by decide +kernel
theorem dX7_next_101 : decode cX7_next 101 = .ok (.iload_n 2, 1) := by decide +kernel
theorem dX7_next_102 : decode cX7_next 102 = .ok (.invokestatic 61, 3) := by decide +kernel
theorem dX7_next_105 : decode cX7_next 105 = .ok (.putfield 23, 3) := by decide +kernel
theorem dX7_next_108 : decode cX7_next 108 = .ok (.aload_n 0, 1) := by decide +kernel
theorem dX7_next_109 : decode cX7_next 109 = .ok (.aload_n 0, 1) := by decide +kernel
theorem dX7_next_110 : decode cX7_next 110 = .ok (.getfield 30, 3) := by decide +kernel
theorem dX7_next_113 : decode cX7_next 113 = .ok (.iconst 1, 1) := by decide +kernel
theorem dX7_next_114 : decode cX7_next 114 = .ok (.iadd, 1) := by decide +kernel
theorem dX7_next_115 : decode cX7_next 115 = .ok (.putfield 33, 3) := by decide +kernel
theorem dX7_next_118 : decode cX7_next 118 = .ok (.aload_n 0, 1) := by decide +kernel
theorem dX7_next_119 : decode cX7_next 119 = .ok (.getfield 33, 3) := by decide +kernel
theorem dX7_next_122 : decode cX7_next 122 = .ok (.iload_n 1, 1) := by decide +kernel
theorem dX7_next_123 : decode cX7_next 123 = .ok (.if_icmp .ge 46, 3) := by decide +kernel
theorem dX7_next_126 : decode cX7_next 126 = .ok (.aload_n 0, 1) := by decide +kernel
theorem dX7_next_127 : decode cX7_next 127 = .ok (.getfield 23, 3) := by decide +kernel
theorem dX7_next_130 : decode cX7_next 130 = .ok (.iconst 3, 1) := by decide +kernel
theorem dX7_next_131 : decode cX7_next 131 = .ok (.if_icmp .eq 38, 3) := by decide +kernel
theorem dX7_next_134 : decode cX7_next 134 = .ok (.aload_n 0, 1) := by decide +kernel
theorem dX7_next_135 : decode cX7_next 135 = .ok (.getfield 39, 3) := by decide +kernel
theorem dX7_next_138 : decode cX7_next 138 = .ok (.getfield 51, 3) := by decide +kernel
theorem dX7_next_141 : decode cX7_next 141 = .ok (.aload_n 0, 1) := by decide +kernel
theorem dX7_next_142 : decode cX7_next 142 = .ok (.getfield 33, 3) := by decide +kernel
theorem dX7_next_145 : decode cX7_next 145 = .ok (.iaload, 1) := by decide +kernel
theorem dX7_next_146 : decode cX7_next 146 = .ok (.invokestatic 61, 3) := by decide +kernel
theorem dX7_next_149 : decode cX7_next 149 = .ok (.aload_n 0, 1) := by decide +kernel
theorem dX7_next_150 : decode cX7_next 150 = .ok (.getfield 23, 3) := by decide +kernel
theorem dX7_next_153 : decode cX7_next 153 = .ok (.if_icmp .ne 16, 3) := by decide +kernel
theorem dX7_next_156 : decode cX7_next 156 = .ok (.aload_n 0, 1) := by decide +kernel
theorem dX7_next_157 : decode cX7_next 157 = .ok (.dup, 1) := by decide +kernel
theorem dX7_next_158 : decode cX7_next 158 = .ok (.getfield 33, 3) := by decide +kernel
theorem dX7_next_161 : decode cX7_next 161 = .ok (.iconst 1, 1) := by decide +kernel
theorem dX7_next_162 : decode cX7_next 162 = .ok (.iadd, 1) := by decide +kernel
theorem dX7_next_163 : decode cX7_next 163 = .ok (.putfield 33, 3) := by decide +kernel
theorem dX7_next_166 : decode cX7_next 166 = .ok (.goto (-48), 3) := by decide +kernel
theorem dX7_next_169 : decode cX7_next 169 = .ok (.aload_n 0, 1) := by decide +kernel
theorem dX7_next_170 : decode cX7_next 170 = .ok (.aload_n 0, 1) := by decide +kernel
theorem dX7_next_171 : decode cX7_next 171 = .ok (.getfield 23, 3) := by decide +kernel
theorem dX7_next_174 : decode cX7_next 174 = .ok (.iconst 1, 1) := by decide +kernel
theorem dX7_next_175 : decode cX7_next 175 = .ok (.if_icmp .ne 10, 3) := by decide +kernel
theorem dX7_next_178 : decode cX7_next 178 = .ok (.aload_n 0, 1) := by decide +kernel
theorem dX7_next_179 : decode cX7_next 179 = .ok (.invokevirtual 65, 3) := by decide +kernel
theorem dX7_next_182 : decode cX7_next 182 = .ok (.goto 19, 3) := by decide +kernel
theorem dX7_next_185 : decode cX7_next 185 = .ok (.aload_n 0, 1) := by decide +kernel
theorem dX7_next_186 : decode cX7_next 186 = .ok (.getfield 23, 3) := by decide +kernel
theorem dX7_next_189 : decode cX7_next 189 = .ok (.iconst 2, 1) := by decide +kernel
theorem dX7_next_190 : decode cX7_next 190 = .ok (.if_icmp .ne 10, 3) := by decide +kernel
theorem dX7_next_193 : decode cX7_next 193 = .ok (.aload_n 0, 1) := by decide +kernel
theorem dX7_next_194 : decode cX7_next 194 = .ok (.invokevirtual 69, 3) := by decide +kernel
theorem dX7_next_197 : decode cX7_next 197 = .ok (.goto 4, 3) := by decide +kernel
theorem dX7_next_200 : decode cX7_next 200 = .ok (.iload_n 2, 1) := by decide +kernel
theorem dX7_next_201 : decode cX7_next 201 = .ok (.putfield 27, 3) := by decide +kernel
theorem dX7_next_204 : decode cX7_next 204 = .ok (.return_, 1) := by decide +kernel
theorem dX7_kindOf_0 : decode cX7_kindOf 0 = .ok (.iload_n 0, 1) := by decide +kernel
theorem dX7_kindOf_1 : decode cX7_kindOf 1 = .ok (.bipush 97, 2) := by decide +kernel
theorem dX7_kindOf_3 : decode cX7_kindOf 3 = .ok (.if_icmp .lt 11, 3) := by decide +kernel
theorem dX7_kindOf_6 : decode cX7_kindOf 6 = .ok (.iload_n 0, 1) := by decide +kernel
theorem dX7_kindOf_7 : decode cX7_kindOf 7 = .ok (.bipush 122, 2) := by decide +kernel
theorem dX7_kindOf_9 : decode cX7_kindOf 9 = .ok (.if_icmp .gt 5, 3) := by decide +kernel
theorem dX7_kindOf_12 : decode cX7_kindOf 12 = .ok (.iconst 1, 1) := by decide +kernel
theorem dX7_kindOf_13 : decode cX7_kindOf 13 = .ok (.ireturn, 1) := by decide +kernel
theorem dX7_kindOf_14 : decode cX7_kindOf 14 = .ok (.iload_n 0, 1) := by decide +kernel
theorem dX7_kindOf_15 : decode cX7_kindOf 15 = .ok (.bipush 48, 2) := by decide +kernel
theorem dX7_kindOf_17 : decode cX7_kindOf 17 = .ok (.if_icmp .lt 13, 3) := by decide +kernel
theorem dX7_kindOf_20 : decode cX7_kindOf 20 = .ok (.iload_n 0, 1) := by decide +kernel
theorem dX7_kindOf_21 : decode cX7_kindOf 21 = .ok (.bipush 57, 2) := by decide +kernel
theorem dX7_kindOf_23 : decode cX7_kindOf 23 = .ok (.if_icmp .gt 7, 3) := by decide +kernel
theorem dX7_kindOf_26 : decode cX7_kindOf 26 = .ok (.iconst 2, 1) := by decide +kernel
theorem dX7_kindOf_27 : decode cX7_kindOf 27 = .ok (.goto 4, 3) := by decide +kernel
theorem dX7_kindOf_30 : decode cX7_kindOf 30 = .ok (.iconst 3, 1) := by decide +kernel
theorem dX7_kindOf_31 : decode cX7_kindOf 31 = .ok (.ireturn, 1) := by decide +kernel
theorem dX7_wordNumber_0 : decode cX7_wordNumber 0 = .ok (.iconst 0, 1) := by decide +kernel
theorem dX7_wordNumber_1 : decode cX7_wordNumber 1 = .ok (.istore_n 1, 1) := by decide +kernel
theorem dX7_wordNumber_2 : decode cX7_wordNumber 2 = .ok (.aload_n 0, 1) := by decide +kernel
theorem dX7_wordNumber_3 : decode cX7_wordNumber 3 = .ok (.getfield 30, 3) := by decide +kernel
theorem dX7_wordNumber_6 : decode cX7_wordNumber 6 = .ok (.istore_n 2, 1) := by decide +kernel
theorem dX7_wordNumber_7 : decode cX7_wordNumber 7 = .ok (.iconst 1, 1) := by decide +kernel
theorem dX7_wordNumber_8 : decode cX7_wordNumber 8 = .ok (.istore_n 3, 1) := by decide +kernel
theorem dX7_wordNumber_9 : decode cX7_wordNumber 9 = .ok (.iconst 0, 1) := by decide +kernel
theorem dX7_wordNumber_10 : decode cX7_wordNumber 10 = .ok (.istore 4, 2) := by decide +kernel
theorem dX7_wordNumber_12 : decode cX7_wordNumber 12 = .ok (.iload 4, 2) := by decide +kernel
theorem dX7_wordNumber_14 : decode cX7_wordNumber 14 = .ok (.aload_n 0, 1) := by decide +kernel
theorem dX7_wordNumber_15 : decode cX7_wordNumber 15 = .ok (.getfield 19, 3) := by decide +kernel
theorem dX7_wordNumber_18 : decode cX7_wordNumber 18 = .ok (.arraylength, 1) := by decide +kernel
theorem dX7_wordNumber_19 : decode cX7_wordNumber 19 = .ok (.if_icmp .ge 100, 3) := by decide +kernel
theorem dX7_wordNumber_22 : decode cX7_wordNumber 22 = .ok (.aload_n 0, 1) := by decide +kernel
theorem dX7_wordNumber_23 : decode cX7_wordNumber 23 = .ok (.getfield 19, 3) := by decide +kernel
theorem dX7_wordNumber_26 : decode cX7_wordNumber 26 = .ok (.iload 4, 2) := by decide +kernel
theorem dX7_wordNumber_28 : decode cX7_wordNumber 28 = .ok (.caload, 1) := by decide +kernel
theorem dX7_wordNumber_29 : decode cX7_wordNumber 29 = .ok (.bipush 32, 2) := by decide +kernel
theorem dX7_wordNumber_31 : decode cX7_wordNumber 31 = .ok (.if_icmp .ne 30, 3) := by decide +kernel
theorem dX7_wordNumber_34 : decode cX7_wordNumber 34 = .ok (.iload_n 3, 1) := by decide +kernel
theorem dX7_wordNumber_35 : decode cX7_wordNumber 35 = .ok (.ifCond .eq 13, 3) := by decide +kernel
theorem dX7_wordNumber_38 : decode cX7_wordNumber 38 = .ok (.iload_n 2, 1) := by decide +kernel
theorem dX7_wordNumber_39 : decode cX7_wordNumber 39 = .ok (.aload_n 0, 1) := by decide +kernel
theorem dX7_wordNumber_40 : decode cX7_wordNumber 40 = .ok (.getfield 33, 3) := by decide +kernel
theorem dX7_wordNumber_43 : decode cX7_wordNumber 43 = .ok (.if_icmp .ne 5, 3) := by decide +kernel
theorem dX7_wordNumber_46 : decode cX7_wordNumber 46 = .ok (.iload_n 1, 1) := by decide +kernel
theorem dX7_wordNumber_47 : decode cX7_wordNumber 47 = .ok (.ireturn, 1) := by decide +kernel
theorem dX7_wordNumber_48 : decode cX7_wordNumber 48 = .ok (.iinc 1 1, 3) := by decide +kernel
theorem dX7_wordNumber_51 : decode cX7_wordNumber 51 = .ok (.aload_n 0, 1) := by decide +kernel
theorem dX7_wordNumber_52 : decode cX7_wordNumber 52 = .ok (.getfield 30, 3) := by decide +kernel
theorem dX7_wordNumber_55 : decode cX7_wordNumber 55 = .ok (.istore_n 2, 1) := by decide +kernel
theorem dX7_wordNumber_56 : decode cX7_wordNumber 56 = .ok (.iconst 1, 1) := by decide +kernel
theorem dX7_wordNumber_57 : decode cX7_wordNumber 57 = .ok (.istore_n 3, 1) := by decide +kernel
theorem dX7_wordNumber_58 : decode cX7_wordNumber 58 = .ok (.goto 55, 3) := by decide +kernel
theorem dX7_wordNumber_61 : decode cX7_wordNumber 61 = .ok (.iload_n 3, 1) := by decide +kernel
theorem dX7_wordNumber_62 : decode cX7_wordNumber 62 = .ok (.ifCond .eq 46, 3) := by decide +kernel
theorem dX7_wordNumber_65 : decode cX7_wordNumber 65 = .ok (.iload_n 2, 1) := by decide +kernel
theorem dX7_wordNumber_66 : decode cX7_wordNumber 66 = .ok (.aload_n 0, 1) := by decide +kernel
theorem dX7_wordNumber_67 : decode cX7_wordNumber 67 = .ok (.getfield 33, 3) := by decide +kernel
theorem dX7_wordNumber_70 : decode cX7_wordNumber 70 = .ok (.if_icmp .ge 38, 3) := by decide +kernel
theorem dX7_wordNumber_73 : decode cX7_wordNumber 73 = .ok (.iload_n 2, 1) := by decide +kernel
theorem dX7_wordNumber_74 : decode cX7_wordNumber 74 = .ok (.aload_n 0, 1) := by decide +kernel
theorem dX7_wordNumber_75 : decode cX7_wordNumber 75 = .ok (.getfield 39, 3) := by decide +kernel
theorem dX7_wordNumber_78 : decode cX7_wordNumber 78 = .ok (.getfield 51, 3) := by decide +kernel
theorem dX7_wordNumber_81 : decode cX7_wordNumber 81 = .ok (.arraylength, 1) := by decide +kernel
theorem dX7_wordNumber_82 : decode cX7_wordNumber 82 = .ok (.if_icmp .ge 26, 3) := by decide +kernel
theorem dX7_wordNumber_85 : decode cX7_wordNumber 85 = .ok (.aload_n 0, 1) := by decide +kernel
theorem dX7_wordNumber_86 : decode cX7_wordNumber 86 = .ok (.getfield 39, 3) := by decide +kernel
theorem dX7_wordNumber_89 : decode cX7_wordNumber 89 = .ok (.getfield 51, 3) := by decide +kernel
theorem dX7_wordNumber_92 : decode cX7_wordNumber 92 = .ok (.iload_n 2, 1) := by decide +kernel
theorem dX7_wordNumber_93 : decode cX7_wordNumber 93 = .ok (.iaload, 1) := by decide +kernel
theorem dX7_wordNumber_94 : decode cX7_wordNumber 94 = .ok (.aload_n 0, 1) := by decide +kernel
theorem dX7_wordNumber_95 : decode cX7_wordNumber 95 = .ok (.getfield 19, 3) := by decide +kernel
theorem dX7_wordNumber_98 : decode cX7_wordNumber 98 = .ok (.iload 4, 2) := by decide +kernel
theorem dX7_wordNumber_100 : decode cX7_wordNumber 100 = .ok (.caload, 1) := by decide +kernel
theorem dX7_wordNumber_101 : decode cX7_wordNumber 101 = .ok (.if_icmp .ne 7, 3) := by decide +kernel
theorem dX7_wordNumber_104 : decode cX7_wordNumber 104 = .ok (.iconst 1, 1) := by decide +kernel
theorem dX7_wordNumber_105 : decode cX7_wordNumber 105 = .ok (.goto 4, 3) := by decide +kernel
theorem dX7_wordNumber_108 : decode cX7_wordNumber 108 = .ok (.iconst 0, 1) := by decide +kernel
theorem dX7_wordNumber_109 : decode cX7_wordNumber 109 = .ok (.istore_n 3, 1) := by decide +kernel
theorem dX7_wordNumber_110 : decode cX7_wordNumber 110 = .ok (.iinc 2 1, 3) := by decide +kernel
theorem dX7_wordNumber_113 : decode cX7_wordNumber 113 = .ok (.iinc 4 1, 3) := by decide +kernel
theorem dX7_wordNumber_116 : decode cX7_wordNumber 116 = .ok (.goto (-104), 3) := by decide +kernel
theorem dX7_wordNumber_119 : decode cX7_wordNumber 119 = .ok (.iconst (-1), 1) := by decide +kernel
theorem dX7_wordNumber_120 : decode cX7_wordNumber 120 = .ok (.ireturn, 1) := by decide +kernel
theorem dX7_digits_0 : decode cX7_digits 0 = .ok (.aload_n 0, 1) := by decide +kernel
theorem dX7_digits_1 : decode cX7_digits 1 = .ok (.getfield 33, 3) := by decide +kernel
theorem dX7_digits_4 : decode cX7_digits 4 = .ok (.aload_n 0, 1) := by decide +kernel
theorem dX7_digits_5 : decode cX7_digits 5 = .ok (.getfield 30, 3) := by decide +kernel
theorem dX7_digits_8 : decode cX7_digits 8 = .ok (.isub, 1) := by decide +kernel
theorem dX7_digits_9 : decode cX7_digits 9 = .ok (.iconst 3, 1) := by decide +kernel
theorem dX7_digits_10 : decode cX7_digits 10 = .ok (.if_icmp .le 5, 3) := by decide +kernel
theorem dX7_digits_13 : decode cX7_digits 13 = .ok (.iconst (-1), 1) := by decide +kernel
theorem dX7_digits_14 : decode cX7_digits 14 = .ok (.ireturn, 1) := by decide +kernel
theorem dX7_digits_15 : decode cX7_digits 15 = .ok (.iconst 0, 1) := by decide +kernel
theorem dX7_digits_16 : decode cX7_digits 16 = .ok (.istore_n 1, 1) := by decide +kernel
theorem dX7_digits_17 : decode cX7_digits 17 = .ok (.aload_n 0, 1) := by decide +kernel
theorem dX7_digits_18 : decode cX7_digits 18 = .ok (.getfield 30, 3) := by decide +kernel
theorem dX7_digits_21 : decode cX7_digits 21 = .ok (.istore_n 2, 1) := by decide +kernel
theorem dX7_digits_22 : decode cX7_digits 22 = .ok (.iload_n 2, 1) := by decide +kernel
theorem dX7_digits_23 : decode cX7_digits 23 = .ok (.aload_n 0, 1) := by decide +kernel
theorem dX7_digits_24 : decode cX7_digits 24 = .ok (.getfield 33, 3) := by decide +kernel
theorem dX7_digits_27 : decode cX7_digits 27 = .ok (.if_icmp .ge 39, 3) := by decide +kernel
theorem dX7_digits_30 : decode cX7_digits 30 = .ok (.iload_n 2, 1) := by decide +kernel
theorem dX7_digits_31 : decode cX7_digits 31 = .ok (.aload_n 0, 1) := by decide +kernel
theorem dX7_digits_32 : decode cX7_digits 32 = .ok (.getfield 39, 3) := by decide +kernel
theorem dX7_digits_35 : decode cX7_digits 35 = .ok (.getfield 51, 3) := by decide +kernel
theorem dX7_digits_38 : decode cX7_digits 38 = .ok (.arraylength, 1) := by decide +kernel
theorem dX7_digits_39 : decode cX7_digits 39 = .ok (.if_icmp .ge 27, 3) := by decide +kernel
theorem dX7_digits_42 : decode cX7_digits 42 = .ok (.bipush 10, 2) := by decide +kernel
theorem dX7_digits_44 : decode cX7_digits 44 = .ok (.iload_n 1, 1) := by decide +kernel
theorem dX7_digits_45 : decode cX7_digits 45 = .ok (.imul, 1) := by decide +kernel
theorem dX7_digits_46 : decode cX7_digits 46 = .ok (.aload_n 0, 1) := by decide +kernel
theorem dX7_digits_47 : decode cX7_digits 47 = .ok (.getfield 39, 3) := by decide +kernel
theorem dX7_digits_50 : decode cX7_digits 50 = .ok (.getfield 51, 3) := by decide +kernel
theorem dX7_digits_53 : decode cX7_digits 53 = .ok (.iload_n 2, 1) := by decide +kernel
theorem dX7_digits_54 : decode cX7_digits 54 = .ok (.iaload, 1) := by decide +kernel
theorem dX7_digits_55 : decode cX7_digits 55 = .ok (.iadd, 1) := by decide +kernel
theorem dX7_digits_56 : decode cX7_digits 56 = .ok (.bipush 48, 2) := by decide +kernel
theorem dX7_digits_58 : decode cX7_digits 58 = .ok (.isub, 1) := by decide +kernel
theorem dX7_digits_59 : decode cX7_digits 59 = .ok (.istore_n 1, 1) := by decide +kernel
theorem dX7_digits_60 : decode cX7_digits 60 = .ok (.iinc 2 1, 3) := by decide +kernel
theorem dX7_digits_63 : decode cX7_digits 63 = .ok (.goto (-41), 3) := by decide +kernel
theorem dX7_digits_66 : decode cX7_digits 66 = .ok (.iload_n 1, 1) := by decide +kernel
theorem dX7_digits_67 : decode cX7_digits 67 = .ok (.ireturn, 1) := by decide +kernel
theorem dX7_ended_0 : decode cX7_ended 0 = .ok (.aload_n 0, 1) := by decide +kernel
theorem dX7_ended_1 : decode cX7_ended 1 = .ok (.getfield 23, 3) := by decide +kernel
theorem dX7_ended_4 : decode cX7_ended 4 = .ok (.ifCond .ne 7, 3) := by decide +kernel
theorem dX7_ended_7 : decode cX7_ended 7 = .ok (.iconst 1, 1) := by decide +kernel
theorem dX7_ended_8 : decode cX7_ended 8 = .ok (.goto 4, 3) := by decide +kernel
theorem dX7_ended_11 : decode cX7_ended 11 = .ok (.iconst 0, 1) := by decide +kernel
theorem dX7_ended_12 : decode cX7_ended 12 = .ok (.ireturn, 1) := by decide +kernel
theorem dX7_word_0 : decode cX7_word 0 = .ok (.aload_n 0, 1) := by decide +kernel
theorem dX7_word_1 : decode cX7_word 1 = .ok (.getfield 23, 3) := by decide +kernel
theorem dX7_word_4 : decode cX7_word 4 = .ok (.iconst 1, 1) := by decide +kernel
theorem dX7_word_5 : decode cX7_word 5 = .ok (.if_icmp .ne 10, 3) := by decide +kernel
theorem dX7_word_8 : decode cX7_word 8 = .ok (.aload_n 0, 1) := by decide +kernel
theorem dX7_word_9 : decode cX7_word 9 = .ok (.getfield 27, 3) := by decide +kernel
theorem dX7_word_12 : decode cX7_word 12 = .ok (.goto 4, 3) := by decide +kernel
theorem dX7_word_15 : decode cX7_word 15 = .ok (.iconst (-1), 1) := by decide +kernel
theorem dX7_word_16 : decode cX7_word 16 = .ok (.ireturn, 1) := by decide +kernel
theorem dX7_isSign_0 : decode cX7_isSign 0 = .ok (.aload_n 0, 1) := by decide +kernel
theorem dX7_isSign_1 : decode cX7_isSign 1 = .ok (.getfield 23, 3) := by decide +kernel
theorem dX7_isSign_4 : decode cX7_isSign 4 = .ok (.iconst 3, 1) := by decide +kernel
theorem dX7_isSign_5 : decode cX7_isSign 5 = .ok (.if_icmp .ne 15, 3) := by decide +kernel
theorem dX7_isSign_8 : decode cX7_isSign 8 = .ok (.aload_n 0, 1) := by decide +kernel
theorem dX7_isSign_9 : decode cX7_isSign 9 = .ok (.getfield 27, 3) := by decide +kernel
theorem dX7_isSign_12 : decode cX7_isSign 12 = .ok (.iload_n 1, 1) := by decide +kernel
theorem dX7_isSign_13 : decode cX7_isSign 13 = .ok (.if_icmp .ne 7, 3) := by decide +kernel
theorem dX7_isSign_16 : decode cX7_isSign 16 = .ok (.iconst 1, 1) := by decide +kernel
theorem dX7_isSign_17 : decode cX7_isSign 17 = .ok (.goto 4, 3) := by decide +kernel
theorem dX7_isSign_20 : decode cX7_isSign 20 = .ok (.iconst 0, 1) := by decide +kernel
theorem dX7_isSign_21 : decode cX7_isSign 21 = .ok (.ireturn, 1) := by decide +kernel
theorem dX7_plainNumber_0 : decode cX7_plainNumber 0 = .ok (.aload_n 0, 1) := by decide +kernel
theorem dX7_plainNumber_1 : decode cX7_plainNumber 1 = .ok (.getfield 23, 3) := by decide +kernel
theorem dX7_plainNumber_4 : decode cX7_plainNumber 4 = .ok (.iconst 2, 1) := by decide +kernel
theorem dX7_plainNumber_5 : decode cX7_plainNumber 5 = .ok (.if_icmp .ne 10, 3) := by decide +kernel
theorem dX7_plainNumber_8 : decode cX7_plainNumber 8 = .ok (.aload_n 0, 1) := by decide +kernel
theorem dX7_plainNumber_9 : decode cX7_plainNumber 9 = .ok (.getfield 27, 3) := by decide +kernel
theorem dX7_plainNumber_12 : decode cX7_plainNumber 12 = .ok (.goto 4, 3) := by decide +kernel
theorem dX7_plainNumber_15 : decode cX7_plainNumber 15 = .ok (.iconst (-1), 1) := by decide +kernel
theorem dX7_plainNumber_16 : decode cX7_plainNumber 16 = .ok (.ireturn, 1) := by decide +kernel
theorem dX7_miss_0 : decode cX7_miss 0 = .ok (.aload_n 0, 1) := by decide +kernel
theorem dX7_miss_1 : decode cX7_miss 1 = .ok (.getfield 36, 3) := by decide +kernel
theorem dX7_miss_4 : decode cX7_miss 4 = .ok (.iconst (-1), 1) := by decide +kernel
theorem dX7_miss_5 : decode cX7_miss 5 = .ok (.if_icmp .ne 11, 3) := by decide +kernel
theorem dX7_miss_8 : decode cX7_miss 8 = .ok (.aload_n 0, 1) := by decide +kernel
theorem dX7_miss_9 : decode cX7_miss 9 = .ok (.aload_n 0, 1) := by decide +kernel
theorem dX7_miss_10 : decode cX7_miss 10 = .ok (.getfield 30, 3) := by decide +kernel
theorem dX7_miss_13 : decode cX7_miss 13 = .ok (.putfield 36, 3) := by decide +kernel
theorem dX7_miss_16 : decode cX7_miss 16 = .ok (.iconst 0, 1) := by decide +kernel
theorem dX7_miss_17 : decode cX7_miss 17 = .ok (.ireturn, 1) := by decide +kernel
theorem dX7_skipWord_0 : decode cX7_skipWord 0 = .ok (.aload_n 0, 1) := by decide +kernel
theorem dX7_skipWord_1 : decode cX7_skipWord 1 = .ok (.invokevirtual 72, 3) := by decide +kernel
theorem dX7_skipWord_4 : decode cX7_skipWord 4 = .ok (.iload_n 1, 1) := by decide +kernel
theorem dX7_skipWord_5 : decode cX7_skipWord 5 = .ok (.if_icmp .eq 5, 3) := by decide +kernel
theorem dX7_skipWord_8 : decode cX7_skipWord 8 = .ok (.iconst 0, 1) := by decide +kernel
theorem dX7_skipWord_9 : decode cX7_skipWord 9 = .ok (.ireturn, 1) := by decide +kernel
theorem dX7_skipWord_10 : decode cX7_skipWord 10 = .ok (.aload_n 0, 1) := by decide +kernel
theorem dX7_skipWord_11 : decode cX7_skipWord 11 = .ok (.invokevirtual 43, 3) := by decide +kernel
theorem dX7_skipWord_14 : decode cX7_skipWord 14 = .ok (.iconst 1, 1) := by decide +kernel
theorem dX7_skipWord_15 : decode cX7_skipWord 15 = .ok (.ireturn, 1) := by decide +kernel
theorem dX7_takeWord_0 : decode cX7_takeWord 0 = .ok (.aload_n 0, 1) := by decide +kernel
theorem dX7_takeWord_1 : decode cX7_takeWord 1 = .ok (.invokevirtual 72, 3) := by decide +kernel
theorem dX7_takeWord_4 : decode cX7_takeWord 4 = .ok (.iload_n 1, 1) := by decide +kernel
theorem dX7_takeWord_5 : decode cX7_takeWord 5 = .ok (.if_icmp .eq 8, 3) := by decide +kernel
theorem dX7_takeWord_8 : decode cX7_takeWord 8 = .ok (.aload_n 0, 1) := by decide +kernel
theorem dX7_takeWord_9 : decode cX7_takeWord 9 = .ok (.invokevirtual 75, 3) := by decide +kernel
theorem dX7_takeWord_12 : decode cX7_takeWord 12 = .ok (.ireturn, 1) := by decide +kernel
theorem dX7_takeWord_13 : decode cX7_takeWord 13 = .ok (.aload_n 0, 1) := by decide +kernel
theorem dX7_takeWord_14 : decode cX7_takeWord 14 = .ok (.invokevirtual 43, 3) := by decide +kernel
theorem dX7_takeWord_17 : decode cX7_takeWord 17 = .ok (.iconst 1, 1) := by decide +kernel
theorem dX7_takeWord_18 : decode cX7_takeWord 18 = .ok (.ireturn, 1) := by decide +kernel
theorem dX7_takeSign_0 : decode cX7_takeSign 0 = .ok (.aload_n 0, 1) := by decide +kernel
theorem dX7_takeSign_1 : decode cX7_takeSign 1 = .ok (.iload_n 1, 1) := by decide +kernel
theorem dX7_takeSign_2 : decode cX7_takeSign 2 = .ok (.invokevirtual 79, 3) := by decide +kernel
theorem dX7_takeSign_5 : decode cX7_takeSign 5 = .ok (.ifCond .ne 8, 3) := by decide +kernel
theorem dX7_takeSign_8 : decode cX7_takeSign 8 = .ok (.aload_n 0, 1) := by decide +kernel
theorem dX7_takeSign_9 : decode cX7_takeSign 9 = .ok (.invokevirtual 75, 3) := by decide +kernel
theorem dX7_takeSign_12 : decode cX7_takeSign 12 = .ok (.ireturn, 1) := by decide +kernel
theorem dX7_takeSign_13 : decode cX7_takeSign 13 = .ok (.aload_n 0, 1) := by decide +kernel
theorem dX7_takeSign_14 : decode cX7_takeSign 14 = .ok (.invokevirtual 43, 3) := by decide +kernel
theorem dX7_takeSign_17 : decode cX7_takeSign 17 = .ok (.iconst 1, 1) := by decide +kernel
theorem dX7_takeSign_18 : decode cX7_takeSign 18 = .ok (.ireturn, 1) := by decide +kernel
theorem dX7_takeNumber_0 : decode cX7_takeNumber 0 = .ok (.aload_n 0, 1) := by decide +kernel
theorem dX7_takeNumber_1 : decode cX7_takeNumber 1 = .ok (.invokevirtual 83, 3) := by decide +kernel
theorem dX7_takeNumber_4 : decode cX7_takeNumber 4 = .ok (.istore_n 3, 1) := by decide +kernel
theorem dX7_takeNumber_5 : decode cX7_takeNumber 5 = .ok (.iload_n 3, 1) := by decide +kernel
theorem dX7_takeNumber_6 : decode cX7_takeNumber 6 = .ok (.iconst (-1), 1) := by decide +kernel
theorem dX7_takeNumber_7 : decode cX7_takeNumber 7 = .ok (.if_icmp .eq 13, 3) := by decide +kernel
theorem dX7_takeNumber_10 : decode cX7_takeNumber 10 = .ok (.iload_n 3, 1) := by decide +kernel
theorem dX7_takeNumber_11 : decode cX7_takeNumber 11 = .ok (.iload_n 1, 1) := by decide +kernel
theorem dX7_takeNumber_12 : decode cX7_takeNumber 12 = .ok (.if_icmp .lt 8, 3) := by decide +kernel
theorem dX7_takeNumber_15 : decode cX7_takeNumber 15 = .ok (.iload_n 3, 1) := by decide +kernel
theorem dX7_takeNumber_16 : decode cX7_takeNumber 16 = .ok (.iload_n 2, 1) := by decide +kernel
theorem dX7_takeNumber_17 : decode cX7_takeNumber 17 = .ok (.if_icmp .le 10, 3) := by decide +kernel
theorem dX7_takeNumber_20 : decode cX7_takeNumber 20 = .ok (.aload_n 0, 1) := by decide +kernel
theorem dX7_takeNumber_21 : decode cX7_takeNumber 21 = .ok (.invokevirtual 75, 3) := by decide +kernel
theorem dX7_takeNumber_24 : decode cX7_takeNumber 24 = .ok (.pop, 1) := by decide +kernel
theorem dX7_takeNumber_25 : decode cX7_takeNumber 25 = .ok (.iconst (-1), 1) := by decide +kernel
theorem dX7_takeNumber_26 : decode cX7_takeNumber 26 = .ok (.ireturn, 1) := by decide +kernel
theorem dX7_takeNumber_27 : decode cX7_takeNumber 27 = .ok (.aload_n 0, 1) := by decide +kernel
theorem dX7_takeNumber_28 : decode cX7_takeNumber 28 = .ok (.invokevirtual 43, 3) := by decide +kernel
theorem dX7_takeNumber_31 : decode cX7_takeNumber 31 = .ok (.iload_n 3, 1) := by decide +kernel
theorem dX7_takeNumber_32 : decode cX7_takeNumber 32 = .ok (.ireturn, 1) := by decide +kernel
theorem dX8_init_0 : decode cX8_init 0 = .ok (.aload_n 0, 1) := by decide +kernel
theorem dX8_init_1 : decode cX8_init 1 = .ok (.invokespecial 3, 3) := by decide +kernel
theorem dX8_init_4 : decode cX8_init 4 = .ok (.aload_n 0, 1) := by decide +kernel
theorem dX8_init_5 : decode cX8_init 5 = .ok (.bipush 21, 2) := by decide +kernel
theorem dX8_init_7 : decode cX8_init 7 = .ok (.newarray .int, 2) := by decide +kernel
theorem dX8_init_9 : decode cX8_init 9 = .ok (.putfield 9, 3) := by decide +kernel
theorem dX8_init_12 : decode cX8_init 12 = .ok (.return_, 1) := by decide +kernel
theorem dX8_look_0 : decode cX8_look 0 = .ok (.iconst 0, 1) := by decide +kernel
theorem dX8_look_1 : decode cX8_look 1 = .ok (.istore_n 2, 1) := by decide +kernel
theorem dX8_look_2 : decode cX8_look 2 = .ok (.iload_n 2, 1) := by decide +kernel
theorem dX8_look_3 : decode cX8_look 3 = .ok (.aload_n 0, 1) := by decide +kernel
theorem dX8_look_4 : decode cX8_look 4 = .ok (.getfield 9, 3) := by decide +kernel
theorem dX8_look_7 : decode cX8_look 7 = .ok (.arraylength, 1) := by decide +kernel
theorem dX8_look_8 : decode cX8_look 8 = .ok (.if_icmp .ge 54, 3) := by decide +kernel
theorem dX8_look_11 : decode cX8_look 11 = .ok (.iconst 0, 1) := by decide +kernel
theorem dX8_look_12 : decode cX8_look 12 = .ok (.istore_n 3, 1) := by decide +kernel
theorem dX8_look_13 : decode cX8_look 13 = .ok (.iconst 0, 1) := by decide +kernel
theorem dX8_look_14 : decode cX8_look 14 = .ok (.istore 4, 2) := by decide +kernel
theorem dX8_look_16 : decode cX8_look 16 = .ok (.iload 4, 2) := by decide +kernel
theorem dX8_look_18 : decode cX8_look 18 = .ok (.bipush 12, 2) := by decide +kernel
theorem dX8_look_20 : decode cX8_look 20 = .ok (.if_icmp .ge 29, 3) := by decide +kernel
theorem dX8_look_23 : decode cX8_look 23 = .ok (.aload_n 1, 1) := by decide +kernel
theorem dX8_look_24 : decode cX8_look 24 = .ok (.getfield 15, 3) := by decide +kernel
theorem dX8_look_27 : decode cX8_look 27 = .ok (.iload 4, 2) := by decide +kernel
theorem dX8_look_29 : decode cX8_look 29 = .ok (.invokestatic 20, 3) := by decide +kernel
theorem dX8_look_32 : decode cX8_look 32 = .ok (.iload_n 2, 1) := by decide +kernel
theorem dX8_look_33 : decode cX8_look 33 = .ok (.if_icmp .lt 10, 3) := by decide +kernel
theorem dX8_look_36 : decode cX8_look 36 = .ok (.iload_n 3, 1) := by decide +kernel
theorem dX8_look_37 : decode cX8_look 37 = .ok (.iconst 1, 1) := by decide +kernel
theorem dX8_look_38 : decode cX8_look 38 = .ok (.iload 4, 2) := by decide +kernel
theorem dX8_look_40 : decode cX8_look 40 = .ok (.ishl, 1) := by decide +kernel
theorem dX8_look_41 : decode cX8_look 41 = .ok (.ior, 1) := by decide +kernel
theorem dX8_look_42 : decode cX8_look 42 = .ok (.istore_n 3, 1) := by decide +kernel
theorem dX8_look_43 : decode cX8_look 43 = .ok (.iinc 4 1, 3) := by decide +kernel
theorem dX8_look_46 : decode cX8_look 46 = .ok (.goto (-30), 3) := by decide +kernel
theorem dX8_look_49 : decode cX8_look 49 = .ok (.aload_n 0, 1) := by decide +kernel
theorem dX8_look_50 : decode cX8_look 50 = .ok (.getfield 9, 3) := by decide +kernel
theorem dX8_look_53 : decode cX8_look 53 = .ok (.iload_n 2, 1) := by decide +kernel
theorem dX8_look_54 : decode cX8_look 54 = .ok (.iload_n 3, 1) := by decide +kernel
theorem dX8_look_55 : decode cX8_look 55 = .ok (.iastore, 1) := by decide +kernel
theorem dX8_look_56 : decode cX8_look 56 = .ok (.iinc 2 1, 3) := by decide +kernel
theorem dX8_look_59 : decode cX8_look 59 = .ok (.goto (-57), 3) := by decide +kernel
theorem dX8_look_62 : decode cX8_look 62 = .ok (.return_, 1) := by decide +kernel
theorem dX8_openPlaces_0 : decode cX8_openPlaces 0 = .ok (.aload_n 1, 1) := by decide +kernel
theorem dX8_openPlaces_1 : decode cX8_openPlaces 1 = .ok (.iload_n 2, 1) := by decide +kernel
theorem dX8_openPlaces_2 : decode cX8_openPlaces 2 = .ok (.aload_n 1, 1) := by decide +kernel
theorem dX8_openPlaces_3 : decode cX8_openPlaces 3 = .ok (.getfield 24, 3) := by decide +kernel
theorem dX8_openPlaces_6 : decode cX8_openPlaces 6 = .ok (.invokevirtual 28, 3) := by decide +kernel
theorem dX8_openPlaces_9 : decode cX8_openPlaces 9 = .ok (.iload_n 3, 1) := by decide +kernel
theorem dX8_openPlaces_10 : decode cX8_openPlaces 10 = .ok (.isub, 1) := by decide +kernel
theorem dX8_openPlaces_11 : decode cX8_openPlaces 11 = .ok (.istore 4, 2) := by decide +kernel
theorem dX8_openPlaces_13 : decode cX8_openPlaces 13 = .ok (.aload_n 0, 1) := by decide +kernel
theorem dX8_openPlaces_14 : decode cX8_openPlaces 14 = .ok (.getfield 9, 3) := by decide +kernel
theorem dX8_openPlaces_17 : decode cX8_openPlaces 17 = .ok (.iconst 0, 1) := by decide +kernel
theorem dX8_openPlaces_18 : decode cX8_openPlaces 18 = .ok (.bipush 20, 2) := by decide +kernel
theorem dX8_openPlaces_20 : decode cX8_openPlaces 20 = .ok (.iload 4, 2) := by decide +kernel
theorem dX8_openPlaces_22 : decode cX8_openPlaces 22 = .ok (.invokestatic 32, 3) := by decide +kernel
theorem dX8_openPlaces_25 : decode cX8_openPlaces 25 = .ok (.invokestatic 37, 3) := by decide +kernel
theorem dX8_openPlaces_28 : decode cX8_openPlaces 28 = .ok (.invokestatic 20, 3) := by decide +kernel
theorem dX8_openPlaces_31 : decode cX8_openPlaces 31 = .ok (.ireturn, 1) := by decide +kernel
theorem dX8_fewestHours_0 : decode cX8_fewestHours 0 = .ok (.iload_n 2, 1) := by decide +kernel
theorem dX8_fewestHours_1 : decode cX8_fewestHours 1 = .ok (.iload_n 3, 1) := by decide +kernel
theorem dX8_fewestHours_2 : decode cX8_fewestHours 2 = .ok (.if_icmp .ne 5, 3) := by decide +kernel
theorem dX8_fewestHours_5 : decode cX8_fewestHours 5 = .ok (.iconst 0, 1) := by decide +kernel
theorem dX8_fewestHours_6 : decode cX8_fewestHours 6 = .ok (.ireturn, 1) := by decide +kernel
theorem dX8_fewestHours_7 : decode cX8_fewestHours 7 = .ok (.iconst 1, 1) := by decide +kernel
theorem dX8_fewestHours_8 : decode cX8_fewestHours 8 = .ok (.iload_n 2, 1) := by decide +kernel
theorem dX8_fewestHours_9 : decode cX8_fewestHours 9 = .ok (.ishl, 1) := by decide +kernel
theorem dX8_fewestHours_10 : decode cX8_fewestHours 10 = .ok (.istore 7, 2) := by decide +kernel
theorem dX8_fewestHours_12 : decode cX8_fewestHours 12 = .ok (.aload_n 0, 1) := by decide +kernel
theorem dX8_fewestHours_13 : decode cX8_fewestHours 13 = .ok (.aload_n 1, 1) := by decide +kernel
theorem dX8_fewestHours_14 : decode cX8_fewestHours 14 = .ok (.iload 6, 2) := by decide +kernel
theorem dX8_fewestHours_16 : decode cX8_fewestHours 16 = .ok (.iload 5, 2) := by decide +kernel
theorem dX8_fewestHours_18 : decode cX8_fewestHours 18 = .ok (.invokevirtual 40, 3) := by decide +kernel
theorem dX8_fewestHours_21 : decode cX8_fewestHours 21 = .ok (.istore 8, 2) := by decide +kernel
theorem dX8_fewestHours_23 : decode cX8_fewestHours 23 = .ok (.iconst 1, 1) := by decide +kernel
theorem dX8_fewestHours_24 : decode cX8_fewestHours 24 = .ok (.istore 9, 2) := by decide +kernel
theorem dX8_fewestHours_26 : decode cX8_fewestHours 26 = .ok (.iload 9, 2) := by decide +kernel
theorem dX8_fewestHours_28 : decode cX8_fewestHours 28 = .ok (.bipush 60, 2) := by decide +kernel
theorem dX8_fewestHours_30 : decode cX8_fewestHours 30 = .ok (.if_icmp .gt 75, 3) := by decide +kernel
theorem dX8_fewestHours_33 : decode cX8_fewestHours 33 = .ok (.iconst 0, 1) := by decide +kernel
theorem dX8_fewestHours_34 : decode cX8_fewestHours 34 = .ok (.istore 10, 2) := by decide +kernel
theorem dX8_fewestHours_36 : decode cX8_fewestHours 36 = .ok (.iload 10, 2) := by decide +kernel
theorem dX8_fewestHours_38 : decode cX8_fewestHours 38 = .ok (.iload 4, 2) := by decide +kernel
theorem dX8_fewestHours_40 : decode cX8_fewestHours 40 = .ok (.if_icmp .ge 26, 3) := by decide +kernel
theorem dX8_fewestHours_43 : decode cX8_fewestHours 43 = .ok (.iload 7, 2) := by decide +kernel
theorem dX8_fewestHours_45 : decode cX8_fewestHours 45 = .ok (.iload 7, 2) := by decide +kernel
theorem dX8_fewestHours_47 : decode cX8_fewestHours 47 = .ok (.iconst 1, 1) := by decide +kernel
theorem dX8_fewestHours_48 : decode cX8_fewestHours 48 = .ok (.ishl, 1) := by decide +kernel
theorem dX8_fewestHours_49 : decode cX8_fewestHours 49 = .ok (.iload 7, 2) := by decide +kernel
theorem dX8_fewestHours_51 : decode cX8_fewestHours 51 = .ok (.iconst 1, 1) := by decide +kernel
theorem dX8_fewestHours_52 : decode cX8_fewestHours 52 = .ok (.ishr, 1) := by decide +kernel
theorem dX8_fewestHours_53 : decode cX8_fewestHours 53 = .ok (.ior, 1) := by decide +kernel
theorem dX8_fewestHours_54 : decode cX8_fewestHours 54 = .ok (.iload 8, 2) := by decide +kernel
theorem dX8_fewestHours_56 : decode cX8_fewestHours 56 = .ok (.iand, 1) := by decide +kernel
theorem dX8_fewestHours_57 : decode cX8_fewestHours 57 = .ok (.ior, 1) := by decide +kernel
theorem dX8_fewestHours_58 : decode cX8_fewestHours 58 = .ok (.istore 7, 2) := by decide +kernel
theorem dX8_fewestHours_60 : decode cX8_fewestHours 60 = .ok (.iinc 10 1, 3) := by decide +kernel
theorem dX8_fewestHours_63 : decode cX8_fewestHours 63 = .ok (.goto (-27), 3) := by decide +kernel
theorem dX8_fewestHours_66 : decode cX8_fewestHours 66 = .ok (.aload_n 0, 1) := by decide +kernel
theorem dX8_fewestHours_67 : decode cX8_fewestHours 67 = .ok (.aload_n 1, 1) := by decide +kernel
theorem dX8_fewestHours_68 : decode cX8_fewestHours 68 = .ok (.iload 6, 2) := by decide +kernel
theorem dX8_fewestHours_70 : decode cX8_fewestHours 70 = .ok (.iload 9, 2) := by decide +kernel
theorem dX8_fewestHours_72 : decode cX8_fewestHours 72 = .ok (.iadd, 1) := by decide +kernel
theorem dX8_fewestHours_73 : decode cX8_fewestHours 73 = .ok (.iload 5, 2) := by decide +kernel
theorem dX8_fewestHours_75 : decode cX8_fewestHours 75 = .ok (.invokevirtual 40, 3) := by decide +kernel
theorem dX8_fewestHours_78 : decode cX8_fewestHours 78 = .ok (.istore 8, 2) := by decide +kernel
theorem dX8_fewestHours_80 : decode cX8_fewestHours 80 = .ok (.iload 7, 2) := by decide +kernel
theorem dX8_fewestHours_82 : decode cX8_fewestHours 82 = .ok (.iload 8, 2) := by decide +kernel
theorem dX8_fewestHours_84 : decode cX8_fewestHours 84 = .ok (.iand, 1) := by decide +kernel
theorem dX8_fewestHours_85 : decode cX8_fewestHours 85 = .ok (.istore 7, 2) := by decide +kernel
theorem dX8_fewestHours_87 : decode cX8_fewestHours 87 = .ok (.iload 7, 2) := by decide +kernel
theorem dX8_fewestHours_89 : decode cX8_fewestHours 89 = .ok (.iload_n 3, 1) := by decide +kernel
theorem dX8_fewestHours_90 : decode cX8_fewestHours 90 = .ok (.invokestatic 44, 3) := by decide +kernel
theorem dX8_fewestHours_93 : decode cX8_fewestHours 93 = .ok (.ifCond .eq 6, 3) := by decide +kernel
theorem dX8_fewestHours_96 : decode cX8_fewestHours 96 = .ok (.iload 9, 2) := by decide +kernel
theorem dX8_fewestHours_98 : decode cX8_fewestHours 98 = .ok (.ireturn, 1) := by decide +kernel
theorem dX8_fewestHours_99 : decode cX8_fewestHours 99 = .ok (.iinc 9 1, 3) := by decide +kernel
theorem dX8_fewestHours_102 : decode cX8_fewestHours 102 = .ok (.goto (-76), 3) := by decide +kernel
theorem dX8_fewestHours_105 : decode cX8_fewestHours 105 = .ok (.iconst (-1), 1) := by decide +kernel
theorem dX8_fewestHours_106 : decode cX8_fewestHours 106 = .ok (.ireturn, 1) := by decide +kernel
theorem dX8_hoursOfMonk_0 : decode cX8_hoursOfMonk 0 = .ok (.aload_n 1, 1) := by decide +kernel
theorem dX8_hoursOfMonk_1 : decode cX8_hoursOfMonk 1 = .ok (.iload_n 2, 1) := by decide +kernel
theorem dX8_hoursOfMonk_2 : decode cX8_hoursOfMonk 2 = .ok (.iconst 0, 1) := by decide +kernel
theorem dX8_hoursOfMonk_3 : decode cX8_hoursOfMonk 3 = .ok (.invokevirtual 48, 3) := by decide +kernel
theorem dX8_hoursOfMonk_6 : decode cX8_hoursOfMonk 6 = .ok (.istore 4, 2) := by decide +kernel
theorem dX8_hoursOfMonk_8 : decode cX8_hoursOfMonk 8 = .ok (.aload_n 0, 1) := by decide +kernel
theorem dX8_hoursOfMonk_9 : decode cX8_hoursOfMonk 9 = .ok (.aload_n 1, 1) := by decide +kernel
theorem dX8_hoursOfMonk_10 : decode cX8_hoursOfMonk 10 = .ok (.iload 4, 2) := by decide +kernel
theorem dX8_hoursOfMonk_12 : decode cX8_hoursOfMonk 12 = .ok (.iload_n 3, 1) := by decide +kernel
theorem dX8_hoursOfMonk_13 : decode cX8_hoursOfMonk 13 = .ok (.aload_n 1, 1) := by decide +kernel
theorem dX8_hoursOfMonk_14 : decode cX8_hoursOfMonk 14 = .ok (.iload_n 2, 1) := by decide +kernel
theorem dX8_hoursOfMonk_15 : decode cX8_hoursOfMonk 15 = .ok (.iconst 2, 1) := by decide +kernel
theorem dX8_hoursOfMonk_16 : decode cX8_hoursOfMonk 16 = .ok (.invokevirtual 48, 3) := by decide +kernel
theorem dX8_hoursOfMonk_19 : decode cX8_hoursOfMonk 19 = .ok (.iconst 1, 1) := by decide +kernel
theorem dX8_hoursOfMonk_20 : decode cX8_hoursOfMonk 20 = .ok (.aload_n 1, 1) := by decide +kernel
theorem dX8_hoursOfMonk_21 : decode cX8_hoursOfMonk 21 = .ok (.getfield 51, 3) := by decide +kernel
theorem dX8_hoursOfMonk_24 : decode cX8_hoursOfMonk 24 = .ok (.invokevirtual 54, 3) := by decide +kernel
theorem dX8_hoursOfMonk_27 : decode cX8_hoursOfMonk 27 = .ok (.ireturn, 1) := by decide +kernel
theorem dX9_init_0 : decode cX9_init 0 = .ok (.aload_n 0, 1) := by decide +kernel
theorem dX9_init_1 : decode cX9_init 1 = .ok (.invokespecial 3, 3) := by decide +kernel
theorem dX9_init_4 : decode cX9_init 4 = .ok (.aload_n 0, 1) := by decide +kernel
theorem dX9_init_5 : decode cX9_init 5 = .ok (.iconst 0, 1) := by decide +kernel
theorem dX9_init_6 : decode cX9_init 6 = .ok (.putfield 9, 3) := by decide +kernel
theorem dX9_init_9 : decode cX9_init 9 = .ok (.aload_n 0, 1) := by decide +kernel
theorem dX9_init_10 : decode cX9_init 10 = .ok (.iconst 0, 1) := by decide +kernel
theorem dX9_init_11 : decode cX9_init 11 = .ok (.putfield 15, 3) := by decide +kernel
theorem dX9_init_14 : decode cX9_init 14 = .ok (.aload_n 0, 1) := by decide +kernel
theorem dX9_init_15 : decode cX9_init 15 = .ok (.iconst 1, 1) := by decide +kernel
theorem dX9_init_16 : decode cX9_init 16 = .ok (.putfield 18, 3) := by decide +kernel
theorem dX9_init_19 : decode cX9_init 19 = .ok (.aload_n 0, 1) := by decide +kernel
theorem dX9_init_20 : decode cX9_init 20 = .ok (.iconst 0, 1) := by decide +kernel
theorem dX9_init_21 : decode cX9_init 21 = .ok (.putfield 21, 3) := by decide +kernel
theorem dX9_init_24 : decode cX9_init 24 = .ok (.aload_n 0, 1) := by decide +kernel
theorem dX9_init_25 : decode cX9_init 25 = .ok (.iconst 0, 1) := by decide +kernel
theorem dX9_init_26 : decode cX9_init 26 = .ok (.putfield 24, 3) := by decide +kernel
theorem dX9_init_29 : decode cX9_init 29 = .ok (.aload_n 0, 1) := by decide +kernel
theorem dX9_init_30 : decode cX9_init 30 = .ok (.bipush 12, 2) := by decide +kernel
theorem dX9_init_32 : decode cX9_init 32 = .ok (.putfield 27, 3) := by decide +kernel
theorem dX9_init_35 : decode cX9_init 35 = .ok (.aload_n 0, 1) := by decide +kernel
theorem dX9_init_36 : decode cX9_init 36 = .ok (.bipush 14, 2) := by decide +kernel
theorem dX9_init_38 : decode cX9_init 38 = .ok (.putfield 30, 3) := by decide +kernel
theorem dX9_init_41 : decode cX9_init 41 = .ok (.aload_n 0, 1) := by decide +kernel
theorem dX9_init_42 : decode cX9_init 42 = .ok (.bipush 6, 2) := by decide +kernel
theorem dX9_init_44 : decode cX9_init 44 = .ok (.putfield 33, 3) := by decide +kernel
theorem dX9_init_47 : decode cX9_init 47 = .ok (.aload_n 0, 1) := by decide +kernel
theorem dX9_init_48 : decode cX9_init 48 = .ok (.bipush 12, 2) := by decide +kernel
theorem dX9_init_50 : decode cX9_init 50 = .ok (.putfield 36, 3) := by decide +kernel
theorem dX9_init_53 : decode cX9_init 53 = .ok (.aload_n 0, 1) := by decide +kernel
theorem dX9_init_54 : decode cX9_init 54 = .ok (.iconst 0, 1) := by decide +kernel
theorem dX9_init_55 : decode cX9_init 55 = .ok (.putfield 39, 3) := by decide +kernel
theorem dX9_init_58 : decode cX9_init 58 = .ok (.aload_n 0, 1) := by decide +kernel
theorem dX9_init_59 : decode cX9_init 59 = .ok (.iconst 0, 1) := by decide +kernel
theorem dX9_init_60 : decode cX9_init 60 = .ok (.putfield 42, 3) := by decide +kernel
theorem dX9_init_63 : decode cX9_init 63 = .ok (.aload_n 0, 1) := by decide +kernel
theorem dX9_init_64 : decode cX9_init 64 = .ok (.iconst 0, 1) := by decide +kernel
theorem dX9_init_65 : decode cX9_init 65 = .ok (.putfield 45, 3) := by decide +kernel
theorem dX9_init_68 : decode cX9_init 68 = .ok (.aload_n 0, 1) := by decide +kernel
theorem dX9_init_69 : decode cX9_init 69 = .ok (.iconst 0, 1) := by decide +kernel
theorem dX9_init_70 : decode cX9_init 70 = .ok (.putfield 48, 3) := by decide +kernel
theorem dX9_init_73 : decode cX9_init 73 = .ok (.aload_n 0, 1) := by decide +kernel
theorem dX9_init_74 : decode cX9_init 74 = .ok (.iconst 0, 1) := by decide +kernel
theorem dX9_init_75 : decode cX9_init 75 = .ok (.putfield 51, 3) := by decide +kernel
theorem dX9_init_78 : decode cX9_init 78 = .ok (.aload_n 0, 1) := by decide +kernel
theorem dX9_init_79 : decode cX9_init 79 = .ok (.iconst 0, 1) := by decide +kernel
theorem dX9_init_80 : decode cX9_init 80 = .ok (.putfield 54, 3) := by decide +kernel
theorem dX9_init_83 : decode cX9_init 83 = .ok (.aload_n 0, 1) := by decide +kernel
theorem dX9_init_84 : decode cX9_init 84 = .ok (.bipush 12, 2) := by decide +kernel
theorem dX9_init_86 : decode cX9_init 86 = .ok (.newarray .int, 2) := by decide +kernel
theorem dX9_init_88 : decode cX9_init 88 = .ok (.putfield 57, 3) := by decide +kernel
theorem dX9_init_91 : decode cX9_init 91 = .ok (.aload_n 0, 1) := by decide +kernel
theorem dX9_init_92 : decode cX9_init 92 = .ok (.bipush 12, 2) := by decide +kernel
theorem dX9_init_94 : decode cX9_init 94 = .ok (.newarray .int, 2) := by decide +kernel
theorem dX9_init_96 : decode cX9_init 96 = .ok (.putfield 61, 3) := by decide +kernel
theorem dX9_init_99 : decode cX9_init 99 = .ok (.aload_n 0, 1) := by decide +kernel
theorem dX9_init_100 : decode cX9_init 100 = .ok (.bipush 24, 2) := by decide +kernel
theorem dX9_init_102 : decode cX9_init 102 = .ok (.newarray .int, 2) := by decide +kernel
theorem dX9_init_104 : decode cX9_init 104 = .ok (.putfield 64, 3) := by decide +kernel
theorem dX9_init_107 : decode cX9_init 107 = .ok (.aload_n 0, 1) := by decide +kernel
theorem dX9_init_108 : decode cX9_init 108 = .ok (.bipush 18, 2) := by decide +kernel
theorem dX9_init_110 : decode cX9_init 110 = .ok (.newarray .int, 2) := by decide +kernel
theorem dX9_init_112 : decode cX9_init 112 = .ok (.putfield 67, 3) := by decide +kernel
theorem dX9_init_115 : decode cX9_init 115 = .ok (.aload_n 0, 1) := by decide +kernel
theorem dX9_init_116 : decode cX9_init 116 = .ok (.bipush 60, 2) := by decide +kernel
theorem dX9_init_118 : decode cX9_init 118 = .ok (.newarray .int, 2) := by decide +kernel
theorem dX9_init_120 : decode cX9_init 120 = .ok (.putfield 70, 3) := by decide +kernel
theorem dX9_init_123 : decode cX9_init 123 = .ok (.return_, 1) := by decide +kernel
theorem dX9_copyFrom_0 : decode cX9_copyFrom 0 = .ok (.aload_n 0, 1) := by decide +kernel
theorem dX9_copyFrom_1 : decode cX9_copyFrom 1 = .ok (.aload_n 1, 1) := by decide +kernel
theorem dX9_copyFrom_2 : decode cX9_copyFrom 2 = .ok (.getfield 9, 3) := by decide +kernel
theorem dX9_copyFrom_5 : decode cX9_copyFrom 5 = .ok (.putfield 9, 3) := by decide +kernel
theorem dX9_copyFrom_8 : decode cX9_copyFrom 8 = .ok (.aload_n 0, 1) := by decide +kernel
theorem dX9_copyFrom_9 : decode cX9_copyFrom 9 = .ok (.aload_n 1, 1) := by decide +kernel
theorem dX9_copyFrom_10 : decode cX9_copyFrom 10 = .ok (.getfield 15, 3) := by decide +kernel
theorem dX9_copyFrom_13 : decode cX9_copyFrom 13 = .ok (.putfield 15, 3) := by decide +kernel
theorem dX9_copyFrom_16 : decode cX9_copyFrom 16 = .ok (.aload_n 0, 1) := by decide +kernel
theorem dX9_copyFrom_17 : decode cX9_copyFrom 17 = .ok (.aload_n 1, 1) := by decide +kernel
theorem dX9_copyFrom_18 : decode cX9_copyFrom 18 = .ok (.getfield 18, 3) := by decide +kernel
theorem dX9_copyFrom_21 : decode cX9_copyFrom 21 = .ok (.putfield 18, 3) := by decide +kernel
theorem dX9_copyFrom_24 : decode cX9_copyFrom 24 = .ok (.aload_n 0, 1) := by decide +kernel
theorem dX9_copyFrom_25 : decode cX9_copyFrom 25 = .ok (.aload_n 1, 1) := by decide +kernel
theorem dX9_copyFrom_26 : decode cX9_copyFrom 26 = .ok (.getfield 21, 3) := by decide +kernel
theorem dX9_copyFrom_29 : decode cX9_copyFrom 29 = .ok (.putfield 21, 3) := by decide +kernel
theorem dX9_copyFrom_32 : decode cX9_copyFrom 32 = .ok (.aload_n 0, 1) := by decide +kernel
theorem dX9_copyFrom_33 : decode cX9_copyFrom 33 = .ok (.aload_n 1, 1) := by decide +kernel
theorem dX9_copyFrom_34 : decode cX9_copyFrom 34 = .ok (.getfield 24, 3) := by decide +kernel
theorem dX9_copyFrom_37 : decode cX9_copyFrom 37 = .ok (.putfield 24, 3) := by decide +kernel
theorem dX9_copyFrom_40 : decode cX9_copyFrom 40 = .ok (.aload_n 0, 1) := by decide +kernel
theorem dX9_copyFrom_41 : decode cX9_copyFrom 41 = .ok (.aload_n 1, 1) := by decide +kernel
theorem dX9_copyFrom_42 : decode cX9_copyFrom 42 = .ok (.getfield 27, 3) := by decide +kernel
theorem dX9_copyFrom_45 : decode cX9_copyFrom 45 = .ok (.putfield 27, 3) := by decide +kernel
theorem dX9_copyFrom_48 : decode cX9_copyFrom 48 = .ok (.aload_n 0, 1) := by decide +kernel
theorem dX9_copyFrom_49 : decode cX9_copyFrom 49 = .ok (.aload_n 1, 1) := by decide +kernel
theorem dX9_copyFrom_50 : decode cX9_copyFrom 50 = .ok (.getfield 30, 3) := by decide +kernel
theorem dX9_copyFrom_53 : decode cX9_copyFrom 53 = .ok (.putfield 30, 3) := by decide +kernel
theorem dX9_copyFrom_56 : decode cX9_copyFrom 56 = .ok (.aload_n 0, 1) := by decide +kernel
theorem dX9_copyFrom_57 : decode cX9_copyFrom 57 = .ok (.aload_n 1, 1) := by decide +kernel
theorem dX9_copyFrom_58 : decode cX9_copyFrom 58 = .ok (.getfield 33, 3) := by decide +kernel
theorem dX9_copyFrom_61 : decode cX9_copyFrom 61 = .ok (.putfield 33, 3) := by decide +kernel
theorem dX9_copyFrom_64 : decode cX9_copyFrom 64 = .ok (.aload_n 0, 1) := by decide +kernel
theorem dX9_copyFrom_65 : decode cX9_copyFrom 65 = .ok (.aload_n 1, 1) := by decide +kernel
theorem dX9_copyFrom_66 : decode cX9_copyFrom 66 = .ok (.getfield 36, 3) := by decide +kernel
theorem dX9_copyFrom_69 : decode cX9_copyFrom 69 = .ok (.putfield 36, 3) := by decide +kernel
theorem dX9_copyFrom_72 : decode cX9_copyFrom 72 = .ok (.aload_n 0, 1) := by decide +kernel
theorem dX9_copyFrom_73 : decode cX9_copyFrom 73 = .ok (.aload_n 1, 1) := by decide +kernel
theorem dX9_copyFrom_74 : decode cX9_copyFrom 74 = .ok (.getfield 39, 3) := by decide +kernel
theorem dX9_copyFrom_77 : decode cX9_copyFrom 77 = .ok (.putfield 39, 3) := by decide +kernel
theorem dX9_copyFrom_80 : decode cX9_copyFrom 80 = .ok (.aload_n 0, 1) := by decide +kernel
theorem dX9_copyFrom_81 : decode cX9_copyFrom 81 = .ok (.aload_n 1, 1) := by decide +kernel
theorem dX9_copyFrom_82 : decode cX9_copyFrom 82 = .ok (.getfield 42, 3) := by decide +kernel
theorem dX9_copyFrom_85 : decode cX9_copyFrom 85 = .ok (.putfield 42, 3) := by decide +kernel
theorem dX9_copyFrom_88 : decode cX9_copyFrom 88 = .ok (.aload_n 0, 1) := by decide +kernel
theorem dX9_copyFrom_89 : decode cX9_copyFrom 89 = .ok (.aload_n 1, 1) := by decide +kernel
theorem dX9_copyFrom_90 : decode cX9_copyFrom 90 = .ok (.getfield 45, 3) := by decide +kernel
theorem dX9_copyFrom_93 : decode cX9_copyFrom 93 = .ok (.putfield 45, 3) := by decide +kernel
theorem dX9_copyFrom_96 : decode cX9_copyFrom 96 = .ok (.aload_n 0, 1) := by decide +kernel
theorem dX9_copyFrom_97 : decode cX9_copyFrom 97 = .ok (.aload_n 1, 1) := by decide +kernel
theorem dX9_copyFrom_98 : decode cX9_copyFrom 98 = .ok (.getfield 48, 3) := by decide +kernel
theorem dX9_copyFrom_101 : decode cX9_copyFrom 101 = .ok (.putfield 48, 3) := by decide +kernel
theorem dX9_copyFrom_104 : decode cX9_copyFrom 104 = .ok (.aload_n 0, 1) := by decide +kernel
theorem dX9_copyFrom_105 : decode cX9_copyFrom 105 = .ok (.aload_n 1, 1) := by decide +kernel
theorem dX9_copyFrom_106 : decode cX9_copyFrom 106 = .ok (.getfield 51, 3) := by decide +kernel
theorem dX9_copyFrom_109 : decode cX9_copyFrom 109 = .ok (.putfield 51, 3) := by decide +kernel
theorem dX9_copyFrom_112 : decode cX9_copyFrom 112 = .ok (.aload_n 0, 1) := by decide +kernel
theorem dX9_copyFrom_113 : decode cX9_copyFrom 113 = .ok (.aload_n 1, 1) := by decide +kernel
theorem dX9_copyFrom_114 : decode cX9_copyFrom 114 = .ok (.getfield 54, 3) := by decide +kernel
theorem dX9_copyFrom_117 : decode cX9_copyFrom 117 = .ok (.putfield 54, 3) := by decide +kernel
theorem dX9_copyFrom_120 : decode cX9_copyFrom 120 = .ok (.aload_n 1, 1) := by decide +kernel
theorem dX9_copyFrom_121 : decode cX9_copyFrom 121 = .ok (.getfield 57, 3) := by decide +kernel
theorem dX9_copyFrom_124 : decode cX9_copyFrom 124 = .ok (.aload_n 0, 1) := by decide +kernel
theorem dX9_copyFrom_125 : decode cX9_copyFrom 125 = .ok (.getfield 57, 3) := by decide +kernel
theorem dX9_copyFrom_128 : decode cX9_copyFrom 128 = .ok (.invokestatic 73, 3) := by decide +kernel
theorem dX9_copyFrom_131 : decode cX9_copyFrom 131 = .ok (.aload_n 1, 1) := by decide +kernel
theorem dX9_copyFrom_132 : decode cX9_copyFrom 132 = .ok (.getfield 61, 3) := by decide +kernel
theorem dX9_copyFrom_135 : decode cX9_copyFrom 135 = .ok (.aload_n 0, 1) := by decide +kernel
theorem dX9_copyFrom_136 : decode cX9_copyFrom 136 = .ok (.getfield 61, 3) := by decide +kernel
theorem dX9_copyFrom_139 : decode cX9_copyFrom 139 = .ok (.invokestatic 73, 3) := by decide +kernel
theorem dX9_copyFrom_142 : decode cX9_copyFrom 142 = .ok (.aload_n 1, 1) := by decide +kernel
theorem dX9_copyFrom_143 : decode cX9_copyFrom 143 = .ok (.getfield 64, 3) := by decide +kernel
theorem dX9_copyFrom_146 : decode cX9_copyFrom 146 = .ok (.aload_n 0, 1) := by decide +kernel
theorem dX9_copyFrom_147 : decode cX9_copyFrom 147 = .ok (.getfield 64, 3) := by decide +kernel
theorem dX9_copyFrom_150 : decode cX9_copyFrom 150 = .ok (.invokestatic 73, 3) := by decide +kernel
theorem dX9_copyFrom_153 : decode cX9_copyFrom 153 = .ok (.aload_n 1, 1) := by decide +kernel
theorem dX9_copyFrom_154 : decode cX9_copyFrom 154 = .ok (.getfield 67, 3) := by decide +kernel
theorem dX9_copyFrom_157 : decode cX9_copyFrom 157 = .ok (.aload_n 0, 1) := by decide +kernel
theorem dX9_copyFrom_158 : decode cX9_copyFrom 158 = .ok (.getfield 67, 3) := by decide +kernel
theorem dX9_copyFrom_161 : decode cX9_copyFrom 161 = .ok (.invokestatic 73, 3) := by decide +kernel
theorem dX9_copyFrom_164 : decode cX9_copyFrom 164 = .ok (.aload_n 1, 1) := by decide +kernel
theorem dX9_copyFrom_165 : decode cX9_copyFrom 165 = .ok (.getfield 70, 3) := by decide +kernel
theorem dX9_copyFrom_168 : decode cX9_copyFrom 168 = .ok (.aload_n 0, 1) := by decide +kernel
theorem dX9_copyFrom_169 : decode cX9_copyFrom 169 = .ok (.getfield 70, 3) := by decide +kernel
theorem dX9_copyFrom_172 : decode cX9_copyFrom 172 = .ok (.invokestatic 73, 3) := by decide +kernel
theorem dX9_copyFrom_175 : decode cX9_copyFrom 175 = .ok (.return_, 1) := by decide +kernel
theorem dX9_monkCell_0 : decode cX9_monkCell 0 = .ok (.iload_n 1, 1) := by decide +kernel
theorem dX9_monkCell_1 : decode cX9_monkCell 1 = .ok (.iconst 4, 1) := by decide +kernel
theorem dX9_monkCell_2 : decode cX9_monkCell 2 = .ok (.imul, 1) := by decide +kernel
theorem dX9_monkCell_3 : decode cX9_monkCell 3 = .ok (.iload_n 2, 1) := by decide +kernel
theorem dX9_monkCell_4 : decode cX9_monkCell 4 = .ok (.iadd, 1) := by decide +kernel
theorem dX9_monkCell_5 : decode cX9_monkCell 5 = .ok (.istore_n 3, 1) := by decide +kernel
theorem dX9_monkCell_6 : decode cX9_monkCell 6 = .ok (.iload_n 3, 1) := by decide +kernel
theorem dX9_monkCell_7 : decode cX9_monkCell 7 = .ok (.ifCond .lt 21, 3) := by decide +kernel
theorem dX9_monkCell_10 : decode cX9_monkCell 10 = .ok (.iload_n 3, 1) := by decide +kernel
theorem dX9_monkCell_11 : decode cX9_monkCell 11 = .ok (.aload_n 0, 1) := by decide +kernel
theorem dX9_monkCell_12 : decode cX9_monkCell 12 = .ok (.getfield 64, 3) := by decide +kernel
theorem dX9_monkCell_15 : decode cX9_monkCell 15 = .ok (.arraylength, 1) := by decide +kernel
theorem dX9_monkCell_16 : decode cX9_monkCell 16 = .ok (.if_icmp .ge 12, 3) := by decide +kernel
theorem dX9_monkCell_19 : decode cX9_monkCell 19 = .ok (.aload_n 0, 1) := by decide +kernel
theorem dX9_monkCell_20 : decode cX9_monkCell 20 = .ok (.getfield 64, 3) := by decide +kernel
theorem dX9_monkCell_23 : decode cX9_monkCell 23 = .ok (.iload_n 3, 1) := by decide +kernel
theorem dX9_monkCell_24 : decode cX9_monkCell 24 = .ok (.iaload, 1) := by decide +kernel
theorem dX9_monkCell_25 : decode cX9_monkCell 25 = .ok (.goto 4, 3) := by decide +kernel
theorem dX9_monkCell_28 : decode cX9_monkCell 28 = .ok (.iconst 0, 1) := by decide +kernel
theorem dX9_monkCell_29 : decode cX9_monkCell 29 = .ok (.ireturn, 1) := by decide +kernel
theorem dX9_setMonkCell_0 : decode cX9_setMonkCell 0 = .ok (.aload_n 0, 1) := by decide +kernel
theorem dX9_setMonkCell_1 : decode cX9_setMonkCell 1 = .ok (.getfield 64, 3) := by decide +kernel
theorem dX9_setMonkCell_4 : decode cX9_setMonkCell 4 = .ok (.iload_n 1, 1) := by decide +kernel
theorem dX9_setMonkCell_5 : decode cX9_setMonkCell 5 = .ok (.iconst 4, 1) := by decide +kernel
theorem dX9_setMonkCell_6 : decode cX9_setMonkCell 6 = .ok (.imul, 1) := by decide +kernel
theorem dX9_setMonkCell_7 : decode cX9_setMonkCell 7 = .ok (.iload_n 2, 1) := by decide +kernel
theorem dX9_setMonkCell_8 : decode cX9_setMonkCell 8 = .ok (.iadd, 1) := by decide +kernel
theorem dX9_setMonkCell_9 : decode cX9_setMonkCell 9 = .ok (.iload_n 3, 1) := by decide +kernel
theorem dX9_setMonkCell_10 : decode cX9_setMonkCell 10 = .ok (.invokestatic 77, 3) := by decide +kernel
theorem dX9_setMonkCell_13 : decode cX9_setMonkCell 13 = .ok (.return_, 1) := by decide +kernel
theorem dX9_dutyCell_0 : decode cX9_dutyCell 0 = .ok (.aload_n 0, 1) := by decide +kernel
theorem dX9_dutyCell_1 : decode cX9_dutyCell 1 = .ok (.getfield 67, 3) := by decide +kernel
theorem dX9_dutyCell_4 : decode cX9_dutyCell 4 = .ok (.iload_n 1, 1) := by decide +kernel
theorem dX9_dutyCell_5 : decode cX9_dutyCell 5 = .ok (.iconst 3, 1) := by decide +kernel
theorem dX9_dutyCell_6 : decode cX9_dutyCell 6 = .ok (.imul, 1) := by decide +kernel
theorem dX9_dutyCell_7 : decode cX9_dutyCell 7 = .ok (.iload_n 2, 1) := by decide +kernel
theorem dX9_dutyCell_8 : decode cX9_dutyCell 8 = .ok (.iadd, 1) := by decide +kernel
theorem dX9_dutyCell_9 : decode cX9_dutyCell 9 = .ok (.invokestatic 81, 3) := by decide +kernel
theorem dX9_dutyCell_12 : decode cX9_dutyCell 12 = .ok (.ireturn, 1) := by decide +kernel
theorem dX9_addMonk_0 : decode cX9_addMonk 0 = .ok (.aload_n 0, 1) := by decide +kernel
theorem dX9_addMonk_1 : decode cX9_addMonk 1 = .ok (.aload_n 0, 1) := by decide +kernel
theorem dX9_addMonk_2 : decode cX9_addMonk 2 = .ok (.getfield 42, 3) := by decide +kernel
theorem dX9_addMonk_5 : decode cX9_addMonk 5 = .ok (.iconst 0, 1) := by decide +kernel
theorem dX9_addMonk_6 : decode cX9_addMonk 6 = .ok (.iload_n 1, 1) := by decide +kernel
theorem dX9_addMonk_7 : decode cX9_addMonk 7 = .ok (.invokevirtual 85, 3) := by decide +kernel
theorem dX9_addMonk_10 : decode cX9_addMonk 10 = .ok (.aload_n 0, 1) := by decide +kernel
theorem dX9_addMonk_11 : decode cX9_addMonk 11 = .ok (.aload_n 0, 1) := by decide +kernel
theorem dX9_addMonk_12 : decode cX9_addMonk 12 = .ok (.getfield 42, 3) := by decide +kernel
theorem dX9_addMonk_15 : decode cX9_addMonk 15 = .ok (.iconst 1, 1) := by decide +kernel
theorem dX9_addMonk_16 : decode cX9_addMonk 16 = .ok (.iload_n 3, 1) := by decide +kernel
theorem dX9_addMonk_17 : decode cX9_addMonk 17 = .ok (.invokevirtual 85, 3) := by decide +kernel
theorem dX9_addMonk_20 : decode cX9_addMonk 20 = .ok (.aload_n 0, 1) := by decide +kernel
theorem dX9_addMonk_21 : decode cX9_addMonk 21 = .ok (.aload_n 0, 1) := by decide +kernel
theorem dX9_addMonk_22 : decode cX9_addMonk 22 = .ok (.getfield 42, 3) := by decide +kernel
theorem dX9_addMonk_25 : decode cX9_addMonk 25 = .ok (.iconst 2, 1) := by decide +kernel
theorem dX9_addMonk_26 : decode cX9_addMonk 26 = .ok (.iload_n 2, 1) := by decide +kernel
theorem dX9_addMonk_27 : decode cX9_addMonk 27 = .ok (.invokevirtual 85, 3) := by decide +kernel
theorem dX9_addMonk_30 : decode cX9_addMonk 30 = .ok (.aload_n 0, 1) := by decide +kernel
theorem dX9_addMonk_31 : decode cX9_addMonk 31 = .ok (.aload_n 0, 1) := by decide +kernel
theorem dX9_addMonk_32 : decode cX9_addMonk 32 = .ok (.getfield 42, 3) := by decide +kernel
theorem dX9_addMonk_35 : decode cX9_addMonk 35 = .ok (.iconst 3, 1) := by decide +kernel
theorem dX9_addMonk_36 : decode cX9_addMonk 36 = .ok (.iconst 0, 1) := by decide +kernel
theorem dX9_addMonk_37 : decode cX9_addMonk 37 = .ok (.invokevirtual 85, 3) := by decide +kernel
theorem dX9_addMonk_40 : decode cX9_addMonk 40 = .ok (.aload_n 0, 1) := by decide +kernel
theorem dX9_addMonk_41 : decode cX9_addMonk 41 = .ok (.dup, 1) := by decide +kernel
theorem dX9_addMonk_42 : decode cX9_addMonk 42 = .ok (.getfield 42, 3) := by decide +kernel
theorem dX9_addMonk_45 : decode cX9_addMonk 45 = .ok (.iconst 1, 1) := by decide +kernel
theorem dX9_addMonk_46 : decode cX9_addMonk 46 = .ok (.iadd, 1) := by decide +kernel
theorem dX9_addMonk_47 : decode cX9_addMonk 47 = .ok (.putfield 42, 3) := by decide +kernel
theorem dX9_addMonk_50 : decode cX9_addMonk 50 = .ok (.return_, 1) := by decide +kernel
theorem dX9_addDuty_0 : decode cX9_addDuty 0 = .ok (.aload_n 0, 1) := by decide +kernel
theorem dX9_addDuty_1 : decode cX9_addDuty 1 = .ok (.getfield 67, 3) := by decide +kernel
theorem dX9_addDuty_4 : decode cX9_addDuty 4 = .ok (.aload_n 0, 1) := by decide +kernel
theorem dX9_addDuty_5 : decode cX9_addDuty 5 = .ok (.getfield 45, 3) := by decide +kernel
theorem dX9_addDuty_8 : decode cX9_addDuty 8 = .ok (.iconst 3, 1) := by decide +kernel
theorem dX9_addDuty_9 : decode cX9_addDuty 9 = .ok (.imul, 1) := by decide +kernel
theorem dX9_addDuty_10 : decode cX9_addDuty 10 = .ok (.iconst 0, 1) := by decide +kernel
theorem dX9_addDuty_11 : decode cX9_addDuty 11 = .ok (.iadd, 1) := by decide +kernel
theorem dX9_addDuty_12 : decode cX9_addDuty 12 = .ok (.iload_n 1, 1) := by decide +kernel
theorem dX9_addDuty_13 : decode cX9_addDuty 13 = .ok (.invokestatic 77, 3) := by decide +kernel
theorem dX9_addDuty_16 : decode cX9_addDuty 16 = .ok (.aload_n 0, 1) := by decide +kernel
theorem dX9_addDuty_17 : decode cX9_addDuty 17 = .ok (.getfield 67, 3) := by decide +kernel
theorem dX9_addDuty_20 : decode cX9_addDuty 20 = .ok (.aload_n 0, 1) := by decide +kernel
theorem dX9_addDuty_21 : decode cX9_addDuty 21 = .ok (.getfield 45, 3) := by decide +kernel
theorem dX9_addDuty_24 : decode cX9_addDuty 24 = .ok (.iconst 3, 1) := by decide +kernel
theorem dX9_addDuty_25 : decode cX9_addDuty 25 = .ok (.imul, 1) := by decide +kernel
theorem dX9_addDuty_26 : decode cX9_addDuty 26 = .ok (.iconst 1, 1) := by decide +kernel
theorem dX9_addDuty_27 : decode cX9_addDuty 27 = .ok (.iadd, 1) := by decide +kernel
theorem dX9_addDuty_28 : decode cX9_addDuty 28 = .ok (.iload_n 2, 1) := by decide +kernel
theorem dX9_addDuty_29 : decode cX9_addDuty 29 = .ok (.invokestatic 77, 3) := by decide +kernel
theorem dX9_addDuty_32 : decode cX9_addDuty 32 = .ok (.aload_n 0, 1) := by decide +kernel
theorem dX9_addDuty_33 : decode cX9_addDuty 33 = .ok (.getfield 67, 3) := by decide +kernel
theorem dX9_addDuty_36 : decode cX9_addDuty 36 = .ok (.aload_n 0, 1) := by decide +kernel
theorem dX9_addDuty_37 : decode cX9_addDuty 37 = .ok (.getfield 45, 3) := by decide +kernel
theorem dX9_addDuty_40 : decode cX9_addDuty 40 = .ok (.iconst 3, 1) := by decide +kernel
theorem dX9_addDuty_41 : decode cX9_addDuty 41 = .ok (.imul, 1) := by decide +kernel
theorem dX9_addDuty_42 : decode cX9_addDuty 42 = .ok (.iconst 2, 1) := by decide +kernel
theorem dX9_addDuty_43 : decode cX9_addDuty 43 = .ok (.iadd, 1) := by decide +kernel
theorem dX9_addDuty_44 : decode cX9_addDuty 44 = .ok (.iload_n 3, 1) := by decide +kernel
theorem dX9_addDuty_45 : decode cX9_addDuty 45 = .ok (.invokestatic 77, 3) := by decide +kernel
theorem dX9_addDuty_48 : decode cX9_addDuty 48 = .ok (.aload_n 0, 1) := by decide +kernel
theorem dX9_addDuty_49 : decode cX9_addDuty 49 = .ok (.dup, 1) := by decide +kernel
theorem dX9_addDuty_50 : decode cX9_addDuty 50 = .ok (.getfield 45, 3) := by decide +kernel
theorem dX9_addDuty_53 : decode cX9_addDuty 53 = .ok (.iconst 1, 1) := by decide +kernel
theorem dX9_addDuty_54 : decode cX9_addDuty 54 = .ok (.iadd, 1) := by decide +kernel
theorem dX9_addDuty_55 : decode cX9_addDuty 55 = .ok (.putfield 45, 3) := by decide +kernel
theorem dX9_addDuty_58 : decode cX9_addDuty 58 = .ok (.return_, 1) := by decide +kernel
theorem dX9_isDrowned_0 : decode cX9_isDrowned 0 = .ok (.aload_n 0, 1) := by decide +kernel
theorem dX9_isDrowned_1 : decode cX9_isDrowned 1 = .ok (.getfield 48, 3) := by decide +kernel
theorem dX9_isDrowned_4 : decode cX9_isDrowned 4 = .ok (.iload_n 1, 1) := by decide +kernel
theorem dX9_isDrowned_5 : decode cX9_isDrowned 5 = .ok (.invokestatic 89, 3) := by decide +kernel
theorem dX9_isDrowned_8 : decode cX9_isDrowned 8 = .ok (.ireturn, 1) := by decide +kernel
theorem dX9_isKept_0 : decode cX9_isKept 0 = .ok (.aload_n 0, 1) := by decide +kernel
theorem dX9_isKept_1 : decode cX9_isKept 1 = .ok (.getfield 51, 3) := by decide +kernel
theorem dX9_isKept_4 : decode cX9_isKept 4 = .ok (.iload_n 1, 1) := by decide +kernel
theorem dX9_isKept_5 : decode cX9_isKept 5 = .ok (.invokestatic 89, 3) := by decide +kernel
theorem dX9_isKept_8 : decode cX9_isKept 8 = .ok (.ireturn, 1) := by decide +kernel
theorem dX9_alive_0 : decode cX9_alive 0 = .ok (.aload_n 0, 1) := by decide +kernel
theorem dX9_alive_1 : decode cX9_alive 1 = .ok (.getfield 42, 3) := by decide +kernel
theorem dX9_alive_4 : decode cX9_alive 4 = .ok (.aload_n 0, 1) := by decide +kernel
theorem dX9_alive_5 : decode cX9_alive 5 = .ok (.getfield 48, 3) := by decide +kernel
theorem dX9_alive_8 : decode cX9_alive 8 = .ok (.invokestatic 93, 3) := by decide +kernel
theorem dX9_alive_11 : decode cX9_alive 11 = .ok (.isub, 1) := by decide +kernel
theorem dX9_alive_12 : decode cX9_alive 12 = .ok (.ireturn, 1) := by decide +kernel
theorem dX9_stepOf_0 : decode cX9_stepOf 0 = .ok (.aload_n 0, 1) := by decide +kernel
theorem dX9_stepOf_1 : decode cX9_stepOf 1 = .ok (.getfield 27, 3) := by decide +kernel
theorem dX9_stepOf_4 : decode cX9_stepOf 4 = .ok (.ifCond .le 12, 3) := by decide +kernel
theorem dX9_stepOf_7 : decode cX9_stepOf 7 = .ok (.iload_n 1, 1) := by decide +kernel
theorem dX9_stepOf_8 : decode cX9_stepOf 8 = .ok (.aload_n 0, 1) := by decide +kernel
theorem dX9_stepOf_9 : decode cX9_stepOf 9 = .ok (.getfield 27, 3) := by decide +kernel
theorem dX9_stepOf_12 : decode cX9_stepOf 12 = .ok (.irem, 1) := by decide +kernel
theorem dX9_stepOf_13 : decode cX9_stepOf 13 = .ok (.goto 4, 3) := by decide +kernel
theorem dX9_stepOf_16 : decode cX9_stepOf 16 = .ok (.iconst 0, 1) := by decide +kernel
theorem dX9_stepOf_17 : decode cX9_stepOf 17 = .ok (.ireturn, 1) := by decide +kernel
theorem dX9_rangeOf_0 : decode cX9_rangeOf 0 = .ok (.aload_n 0, 1) := by decide +kernel
theorem dX9_rangeOf_1 : decode cX9_rangeOf 1 = .ok (.getfield 30, 3) := by decide +kernel
theorem dX9_rangeOf_4 : decode cX9_rangeOf 4 = .ok (.ifCond .gt 8, 3) := by decide +kernel
theorem dX9_rangeOf_7 : decode cX9_rangeOf 7 = .ok (.aload_n 0, 1) := by decide +kernel
theorem dX9_rangeOf_8 : decode cX9_rangeOf 8 = .ok (.getfield 33, 3) := by decide +kernel
theorem dX9_rangeOf_11 : decode cX9_rangeOf 11 = .ok (.ireturn, 1) := by decide +kernel
theorem dX9_rangeOf_12 : decode cX9_rangeOf 12 = .ok (.iload_n 1, 1) := by decide +kernel
theorem dX9_rangeOf_13 : decode cX9_rangeOf 13 = .ok (.aload_n 0, 1) := by decide +kernel
theorem dX9_rangeOf_14 : decode cX9_rangeOf 14 = .ok (.getfield 30, 3) := by decide +kernel
theorem dX9_rangeOf_17 : decode cX9_rangeOf 17 = .ok (.irem, 1) := by decide +kernel
theorem dX9_rangeOf_18 : decode cX9_rangeOf 18 = .ok (.istore_n 2, 1) := by decide +kernel
theorem dX9_rangeOf_19 : decode cX9_rangeOf 19 = .ok (.iconst 2, 1) := by decide +kernel
theorem dX9_rangeOf_20 : decode cX9_rangeOf 20 = .ok (.iload_n 2, 1) := by decide +kernel
theorem dX9_rangeOf_21 : decode cX9_rangeOf 21 = .ok (.imul, 1) := by decide +kernel
theorem dX9_rangeOf_22 : decode cX9_rangeOf 22 = .ok (.aload_n 0, 1) := by decide +kernel
theorem dX9_rangeOf_23 : decode cX9_rangeOf 23 = .ok (.getfield 30, 3) := by decide +kernel
theorem dX9_rangeOf_26 : decode cX9_rangeOf 26 = .ok (.if_icmp .le 14, 3) := by decide +kernel
theorem dX9_rangeOf_29 : decode cX9_rangeOf 29 = .ok (.iconst 2, 1) := by decide +kernel
theorem dX9_rangeOf_30 : decode cX9_rangeOf 30 = .ok (.iload_n 2, 1) := by decide +kernel
theorem dX9_rangeOf_31 : decode cX9_rangeOf 31 = .ok (.imul, 1) := by decide +kernel
theorem dX9_rangeOf_32 : decode cX9_rangeOf 32 = .ok (.aload_n 0, 1) := by decide +kernel
theorem dX9_rangeOf_33 : decode cX9_rangeOf 33 = .ok (.getfield 30, 3) := by decide +kernel
theorem dX9_rangeOf_36 : decode cX9_rangeOf 36 = .ok (.isub, 1) := by decide +kernel
theorem dX9_rangeOf_37 : decode cX9_rangeOf 37 = .ok (.goto 11, 3) := by decide +kernel
theorem dX9_rangeOf_40 : decode cX9_rangeOf 40 = .ok (.aload_n 0, 1) := by decide +kernel
theorem dX9_rangeOf_41 : decode cX9_rangeOf 41 = .ok (.getfield 30, 3) := by decide +kernel
theorem dX9_rangeOf_44 : decode cX9_rangeOf 44 = .ok (.iconst 2, 1) := by decide +kernel
theorem dX9_rangeOf_45 : decode cX9_rangeOf 45 = .ok (.iload_n 2, 1) := by decide +kernel
theorem dX9_rangeOf_46 : decode cX9_rangeOf 46 = .ok (.imul, 1) := by decide +kernel
theorem dX9_rangeOf_47 : decode cX9_rangeOf 47 = .ok (.isub, 1) := by decide +kernel
theorem dX9_rangeOf_48 : decode cX9_rangeOf 48 = .ok (.istore_n 3, 1) := by decide +kernel
theorem dX9_rangeOf_49 : decode cX9_rangeOf 49 = .ok (.aload_n 0, 1) := by decide +kernel
theorem dX9_rangeOf_50 : decode cX9_rangeOf 50 = .ok (.getfield 33, 3) := by decide +kernel
theorem dX9_rangeOf_53 : decode cX9_rangeOf 53 = .ok (.aload_n 0, 1) := by decide +kernel
theorem dX9_rangeOf_54 : decode cX9_rangeOf 54 = .ok (.getfield 36, 3) := by decide +kernel
theorem dX9_rangeOf_57 : decode cX9_rangeOf 57 = .ok (.aload_n 0, 1) := by decide +kernel
theorem dX9_rangeOf_58 : decode cX9_rangeOf 58 = .ok (.getfield 33, 3) := by decide +kernel
theorem dX9_rangeOf_61 : decode cX9_rangeOf 61 = .ok (.isub, 1) := by decide +kernel
theorem dX9_rangeOf_62 : decode cX9_rangeOf 62 = .ok (.iload_n 3, 1) := by decide +kernel
theorem dX9_rangeOf_63 : decode cX9_rangeOf 63 = .ok (.imul, 1) := by decide +kernel
theorem dX9_rangeOf_64 : decode cX9_rangeOf 64 = .ok (.aload_n 0, 1) := by decide +kernel
theorem dX9_rangeOf_65 : decode cX9_rangeOf 65 = .ok (.getfield 30, 3) := by decide +kernel
theorem dX9_rangeOf_68 : decode cX9_rangeOf 68 = .ok (.idiv, 1) := by decide +kernel
theorem dX9_rangeOf_69 : decode cX9_rangeOf 69 = .ok (.iadd, 1) := by decide +kernel
theorem dX9_rangeOf_70 : decode cX9_rangeOf 70 = .ok (.ireturn, 1) := by decide +kernel
theorem dX9_waterWith_0 : decode cX9_waterWith 0 = .ok (.aload_n 0, 1) := by decide +kernel
theorem dX9_waterWith_1 : decode cX9_waterWith 1 = .ok (.getfield 27, 3) := by decide +kernel
theorem dX9_waterWith_4 : decode cX9_waterWith 4 = .ok (.ifCond .gt 5, 3) := by decide +kernel
theorem dX9_waterWith_7 : decode cX9_waterWith 7 = .ok (.iconst 0, 1) := by decide +kernel
theorem dX9_waterWith_8 : decode cX9_waterWith 8 = .ok (.ireturn, 1) := by decide +kernel
theorem dX9_waterWith_9 : decode cX9_waterWith 9 = .ok (.iload_n 1, 1) := by decide +kernel
theorem dX9_waterWith_10 : decode cX9_waterWith 10 = .ok (.aload_n 0, 1) := by decide +kernel
theorem dX9_waterWith_11 : decode cX9_waterWith 11 = .ok (.getfield 27, 3) := by decide +kernel
theorem dX9_waterWith_14 : decode cX9_waterWith 14 = .ok (.irem, 1) := by decide +kernel
theorem dX9_waterWith_15 : decode cX9_waterWith 15 = .ok (.istore_n 3, 1) := by decide +kernel
theorem dX9_waterWith_16 : decode cX9_waterWith 16 = .ok (.aload_n 0, 1) := by decide +kernel
theorem dX9_waterWith_17 : decode cX9_waterWith 17 = .ok (.iload_n 1, 1) := by decide +kernel
theorem dX9_waterWith_18 : decode cX9_waterWith 18 = .ok (.aload_n 0, 1) := by decide +kernel
theorem dX9_waterWith_19 : decode cX9_waterWith 19 = .ok (.getfield 27, 3) := by decide +kernel
theorem dX9_waterWith_22 : decode cX9_waterWith 22 = .ok (.idiv, 1) := by decide +kernel
theorem dX9_waterWith_23 : decode cX9_waterWith 23 = .ok (.invokevirtual 99, 3) := by decide +kernel
theorem dX9_waterWith_26 : decode cX9_waterWith 26 = .ok (.iconst 2, 1) := by decide +kernel
theorem dX9_waterWith_27 : decode cX9_waterWith 27 = .ok (.iload_n 3, 1) := by decide +kernel
theorem dX9_waterWith_28 : decode cX9_waterWith 28 = .ok (.imul, 1) := by decide +kernel
theorem dX9_waterWith_29 : decode cX9_waterWith 29 = .ok (.aload_n 0, 1) := by decide +kernel
theorem dX9_waterWith_30 : decode cX9_waterWith 30 = .ok (.getfield 27, 3) := by decide +kernel
theorem dX9_waterWith_33 : decode cX9_waterWith 33 = .ok (.isub, 1) := by decide +kernel
theorem dX9_waterWith_34 : decode cX9_waterWith 34 = .ok (.invokestatic 102, 3) := by decide +kernel
theorem dX9_waterWith_37 : decode cX9_waterWith 37 = .ok (.imul, 1) := by decide +kernel
theorem dX9_waterWith_38 : decode cX9_waterWith 38 = .ok (.aload_n 0, 1) := by decide +kernel
theorem dX9_waterWith_39 : decode cX9_waterWith 39 = .ok (.getfield 27, 3) := by decide +kernel
theorem dX9_waterWith_42 : decode cX9_waterWith 42 = .ok (.idiv, 1) := by decide +kernel
theorem dX9_waterWith_43 : decode cX9_waterWith 43 = .ok (.istore 4, 2) := by decide +kernel
theorem dX9_waterWith_45 : decode cX9_waterWith 45 = .ok (.iconst 0, 1) := by decide +kernel
theorem dX9_waterWith_46 : decode cX9_waterWith 46 = .ok (.iload 4, 2) := by decide +kernel
theorem dX9_waterWith_48 : decode cX9_waterWith 48 = .ok (.iload_n 2, 1) := by decide +kernel
theorem dX9_waterWith_49 : decode cX9_waterWith 49 = .ok (.iadd, 1) := by decide +kernel
theorem dX9_waterWith_50 : decode cX9_waterWith 50 = .ok (.invokestatic 107, 3) := by decide +kernel
theorem dX9_waterWith_53 : decode cX9_waterWith 53 = .ok (.ireturn, 1) := by decide +kernel
theorem dX9_waterIn_0 : decode cX9_waterIn 0 = .ok (.aload_n 0, 1) := by decide +kernel
theorem dX9_waterIn_1 : decode cX9_waterIn 1 = .ok (.iload_n 1, 1) := by decide +kernel
theorem dX9_waterIn_2 : decode cX9_waterIn 2 = .ok (.aload_n 0, 1) := by decide +kernel
theorem dX9_waterIn_3 : decode cX9_waterIn 3 = .ok (.getfield 15, 3) := by decide +kernel
theorem dX9_waterIn_6 : decode cX9_waterIn 6 = .ok (.invokevirtual 111, 3) := by decide +kernel
theorem dX9_waterIn_9 : decode cX9_waterIn 9 = .ok (.ireturn, 1) := by decide +kernel
theorem dX9_depthBy_0 : decode cX9_depthBy 0 = .ok (.iload_n 2, 1) := by decide +kernel
theorem dX9_depthBy_1 : decode cX9_depthBy 1 = .ok (.ifCond .lt 21, 3) := by decide +kernel
theorem dX9_depthBy_4 : decode cX9_depthBy 4 = .ok (.iload_n 2, 1) := by decide +kernel
theorem dX9_depthBy_5 : decode cX9_depthBy 5 = .ok (.aload_n 0, 1) := by decide +kernel
theorem dX9_depthBy_6 : decode cX9_depthBy 6 = .ok (.getfield 57, 3) := by decide +kernel
theorem dX9_depthBy_9 : decode cX9_depthBy 9 = .ok (.arraylength, 1) := by decide +kernel
theorem dX9_depthBy_10 : decode cX9_depthBy 10 = .ok (.if_icmp .ge 12, 3) := by decide +kernel
theorem dX9_depthBy_13 : decode cX9_depthBy 13 = .ok (.aload_n 0, 1) := by decide +kernel
theorem dX9_depthBy_14 : decode cX9_depthBy 14 = .ok (.getfield 57, 3) := by decide +kernel
theorem dX9_depthBy_17 : decode cX9_depthBy 17 = .ok (.iload_n 2, 1) := by decide +kernel
theorem dX9_depthBy_18 : decode cX9_depthBy 18 = .ok (.iaload, 1) := by decide +kernel
theorem dX9_depthBy_19 : decode cX9_depthBy 19 = .ok (.goto 4, 3) := by decide +kernel
theorem dX9_depthBy_22 : decode cX9_depthBy 22 = .ok (.iconst 0, 1) := by decide +kernel
theorem dX9_depthBy_23 : decode cX9_depthBy 23 = .ok (.istore_n 3, 1) := by decide +kernel
theorem dX9_depthBy_24 : decode cX9_depthBy 24 = .ok (.iload_n 1, 1) := by decide +kernel
theorem dX9_depthBy_25 : decode cX9_depthBy 25 = .ok (.iload_n 3, 1) := by decide +kernel
theorem dX9_depthBy_26 : decode cX9_depthBy 26 = .ok (.if_icmp .le 9, 3) := by decide +kernel
theorem dX9_depthBy_29 : decode cX9_depthBy 29 = .ok (.iload_n 1, 1) := by decide +kernel
theorem dX9_depthBy_30 : decode cX9_depthBy 30 = .ok (.iload_n 3, 1) := by decide +kernel
theorem dX9_depthBy_31 : decode cX9_depthBy 31 = .ok (.isub, 1) := by decide +kernel
theorem dX9_depthBy_32 : decode cX9_depthBy 32 = .ok (.goto 4, 3) := by decide +kernel
theorem dX9_depthBy_35 : decode cX9_depthBy 35 = .ok (.iconst 0, 1) := by decide +kernel
theorem dX9_depthBy_36 : decode cX9_depthBy 36 = .ok (.ireturn, 1) := by decide +kernel
theorem dX9_printedBy_0 : decode cX9_printedBy 0 = .ok (.aload_n 0, 1) := by decide +kernel
theorem dX9_printedBy_1 : decode cX9_printedBy 1 = .ok (.getfield 27, 3) := by decide +kernel
theorem dX9_printedBy_4 : decode cX9_printedBy 4 = .ok (.iload_n 2, 1) := by decide +kernel
theorem dX9_printedBy_5 : decode cX9_printedBy 5 = .ok (.imul, 1) := by decide +kernel
theorem dX9_printedBy_6 : decode cX9_printedBy 6 = .ok (.iload_n 1, 1) := by decide +kernel
theorem dX9_printedBy_7 : decode cX9_printedBy 7 = .ok (.iadd, 1) := by decide +kernel
theorem dX9_printedBy_8 : decode cX9_printedBy 8 = .ok (.aload_n 0, 1) := by decide +kernel
theorem dX9_printedBy_9 : decode cX9_printedBy 9 = .ok (.getfield 61, 3) := by decide +kernel
theorem dX9_printedBy_12 : decode cX9_printedBy 12 = .ok (.iload_n 2, 1) := by decide +kernel
theorem dX9_printedBy_13 : decode cX9_printedBy 13 = .ok (.invokestatic 81, 3) := by decide +kernel
theorem dX9_printedBy_16 : decode cX9_printedBy 16 = .ok (.iadd, 1) := by decide +kernel
theorem dX9_printedBy_17 : decode cX9_printedBy 17 = .ok (.ireturn, 1) := by decide +kernel
theorem dX9_draw_0 : decode cX9_draw 0 = .ok (.aload_n 0, 1) := by decide +kernel
theorem dX9_draw_1 : decode cX9_draw 1 = .ok (.ldc 114, 2) := by decide +kernel
theorem dX9_draw_3 : decode cX9_draw 3 = .ok (.aload_n 0, 1) := by decide +kernel
theorem dX9_draw_4 : decode cX9_draw 4 = .ok (.getfield 18, 3) := by decide +kernel
theorem dX9_draw_7 : decode cX9_draw 7 = .ok (.imul, 1) := by decide +kernel
theorem dX9_draw_8 : decode cX9_draw 8 = .ok (.sipush 12345, 3) := by decide +kernel
theorem dX9_draw_11 : decode cX9_draw 11 = .ok (.iadd, 1) := by decide +kernel
theorem dX9_draw_12 : decode cX9_draw 12 = .ok (.putfield 18, 3) := by decide +kernel
theorem dX9_draw_15 : decode cX9_draw 15 = .ok (.aload_n 0, 1) := by decide +kernel
theorem dX9_draw_16 : decode cX9_draw 16 = .ok (.getfield 18, 3) := by decide +kernel
theorem dX9_draw_19 : decode cX9_draw 19 = .ok (.bipush 16, 2) := by decide +kernel
theorem dX9_draw_21 : decode cX9_draw 21 = .ok (.iushr, 1) := by decide +kernel
theorem dX9_draw_22 : decode cX9_draw 22 = .ok (.sipush 32767, 3) := by decide +kernel
theorem dX9_draw_25 : decode cX9_draw 25 = .ok (.iand, 1) := by decide +kernel
theorem dX9_draw_26 : decode cX9_draw 26 = .ok (.ireturn, 1) := by decide +kernel
theorem dX9_blow_0 : decode cX9_blow 0 = .ok (.aload_n 0, 1) := by decide +kernel
theorem dX9_blow_1 : decode cX9_blow 1 = .ok (.iconst 0, 1) := by decide +kernel
theorem dX9_blow_2 : decode cX9_blow 2 = .ok (.putfield 15, 3) := by decide +kernel
theorem dX9_blow_5 : decode cX9_blow 5 = .ok (.aload_n 0, 1) := by decide +kernel
theorem dX9_blow_6 : decode cX9_blow 6 = .ok (.invokevirtual 115, 3) := by decide +kernel
theorem dX9_blow_9 : decode cX9_blow 9 = .ok (.bipush 100, 2) := by decide +kernel
theorem dX9_blow_11 : decode cX9_blow 11 = .ok (.irem, 1) := by decide +kernel
theorem dX9_blow_12 : decode cX9_blow 12 = .ok (.aload_n 0, 1) := by decide +kernel
theorem dX9_blow_13 : decode cX9_blow 13 = .ok (.getfield 24, 3) := by decide +kernel
theorem dX9_blow_16 : decode cX9_blow 16 = .ok (.if_icmp .ge 16, 3) := by decide +kernel
theorem dX9_blow_19 : decode cX9_blow 19 = .ok (.aload_n 0, 1) := by decide +kernel
theorem dX9_blow_20 : decode cX9_blow 20 = .ok (.aload_n 0, 1) := by decide +kernel
theorem dX9_blow_21 : decode cX9_blow 21 = .ok (.invokevirtual 115, 3) := by decide +kernel
theorem dX9_blow_24 : decode cX9_blow 24 = .ok (.bipush 11, 2) := by decide +kernel
theorem dX9_blow_26 : decode cX9_blow 26 = .ok (.irem, 1) := by decide +kernel
theorem dX9_blow_27 : decode cX9_blow 27 = .ok (.iconst 5, 1) := by decide +kernel
theorem dX9_blow_28 : decode cX9_blow 28 = .ok (.isub, 1) := by decide +kernel
theorem dX9_blow_29 : decode cX9_blow 29 = .ok (.putfield 15, 3) := by decide +kernel
theorem dX9_blow_32 : decode cX9_blow 32 = .ok (.return_, 1) := by decide +kernel
theorem dX9_addRow_0 : decode cX9_addRow 0 = .ok (.aload_n 0, 1) := by decide +kernel
theorem dX9_addRow_1 : decode cX9_addRow 1 = .ok (.getfield 70, 3) := by decide +kernel
theorem dX9_addRow_4 : decode cX9_addRow 4 = .ok (.aload_n 0, 1) := by decide +kernel
theorem dX9_addRow_5 : decode cX9_addRow 5 = .ok (.getfield 54, 3) := by decide +kernel
theorem dX9_addRow_8 : decode cX9_addRow 8 = .ok (.bipush 60, 2) := by decide +kernel
theorem dX9_addRow_10 : decode cX9_addRow 10 = .ok (.irem, 1) := by decide +kernel
theorem dX9_addRow_11 : decode cX9_addRow 11 = .ok (.iload_n 1, 1) := by decide +kernel
theorem dX9_addRow_12 : decode cX9_addRow 12 = .ok (.iload_n 2, 1) := by decide +kernel
theorem dX9_addRow_13 : decode cX9_addRow 13 = .ok (.bipush 14, 2) := by decide +kernel
theorem dX9_addRow_15 : decode cX9_addRow 15 = .ok (.ishl, 1) := by decide +kernel
theorem dX9_addRow_16 : decode cX9_addRow 16 = .ok (.ior, 1) := by decide +kernel
theorem dX9_addRow_17 : decode cX9_addRow 17 = .ok (.iload_n 3, 1) := by decide +kernel
theorem dX9_addRow_18 : decode cX9_addRow 18 = .ok (.bipush 17, 2) := by decide +kernel
theorem dX9_addRow_20 : decode cX9_addRow 20 = .ok (.ishl, 1) := by decide +kernel
theorem dX9_addRow_21 : decode cX9_addRow 21 = .ok (.ior, 1) := by decide +kernel
theorem dX9_addRow_22 : decode cX9_addRow 22 = .ok (.iload 4, 2) := by decide +kernel
theorem dX9_addRow_24 : decode cX9_addRow 24 = .ok (.bipush 18, 2) := by decide +kernel
theorem dX9_addRow_26 : decode cX9_addRow 26 = .ok (.ishl, 1) := by decide +kernel
theorem dX9_addRow_27 : decode cX9_addRow 27 = .ok (.ior, 1) := by decide +kernel
theorem dX9_addRow_28 : decode cX9_addRow 28 = .ok (.invokestatic 77, 3) := by decide +kernel
theorem dX9_addRow_31 : decode cX9_addRow 31 = .ok (.aload_n 0, 1) := by decide +kernel
theorem dX9_addRow_32 : decode cX9_addRow 32 = .ok (.dup, 1) := by decide +kernel
theorem dX9_addRow_33 : decode cX9_addRow 33 = .ok (.getfield 54, 3) := by decide +kernel
theorem dX9_addRow_36 : decode cX9_addRow 36 = .ok (.iconst 1, 1) := by decide +kernel
theorem dX9_addRow_37 : decode cX9_addRow 37 = .ok (.iadd, 1) := by decide +kernel
theorem dX9_addRow_38 : decode cX9_addRow 38 = .ok (.putfield 54, 3) := by decide +kernel
theorem dX9_addRow_41 : decode cX9_addRow 41 = .ok (.return_, 1) := by decide +kernel
theorem dX9_loggedRows_0 : decode cX9_loggedRows 0 = .ok (.aload_n 0, 1) := by decide +kernel
theorem dX9_loggedRows_1 : decode cX9_loggedRows 1 = .ok (.getfield 54, 3) := by decide +kernel
theorem dX9_loggedRows_4 : decode cX9_loggedRows 4 = .ok (.bipush 60, 2) := by decide +kernel
theorem dX9_loggedRows_6 : decode cX9_loggedRows 6 = .ok (.invokestatic 119, 3) := by decide +kernel
theorem dX9_loggedRows_9 : decode cX9_loggedRows 9 = .ok (.ireturn, 1) := by decide +kernel
theorem dX9_row_0 : decode cX9_row 0 = .ok (.aload_n 0, 1) := by decide +kernel
theorem dX9_row_1 : decode cX9_row 1 = .ok (.getfield 70, 3) := by decide +kernel
theorem dX9_row_4 : decode cX9_row 4 = .ok (.aload_n 0, 1) := by decide +kernel
theorem dX9_row_5 : decode cX9_row 5 = .ok (.getfield 54, 3) := by decide +kernel
theorem dX9_row_8 : decode cX9_row 8 = .ok (.iconst 1, 1) := by decide +kernel
theorem dX9_row_9 : decode cX9_row 9 = .ok (.isub, 1) := by decide +kernel
theorem dX9_row_10 : decode cX9_row 10 = .ok (.iload_n 1, 1) := by decide +kernel
theorem dX9_row_11 : decode cX9_row 11 = .ok (.isub, 1) := by decide +kernel
theorem dX9_row_12 : decode cX9_row 12 = .ok (.bipush 60, 2) := by decide +kernel
theorem dX9_row_14 : decode cX9_row 14 = .ok (.irem, 1) := by decide +kernel
theorem dX9_row_15 : decode cX9_row 15 = .ok (.invokestatic 81, 3) := by decide +kernel
theorem dX9_row_18 : decode cX9_row 18 = .ok (.ireturn, 1) := by decide +kernel
theorem dX9_loggedHour_0 : decode cX9_loggedHour 0 = .ok (.aload_n 0, 1) := by decide +kernel
theorem dX9_loggedHour_1 : decode cX9_loggedHour 1 = .ok (.iload_n 1, 1) := by decide +kernel
theorem dX9_loggedHour_2 : decode cX9_loggedHour 2 = .ok (.invokevirtual 122, 3) := by decide +kernel
theorem dX9_loggedHour_5 : decode cX9_loggedHour 5 = .ok (.sipush 16383, 3) := by decide +kernel
theorem dX9_loggedHour_8 : decode cX9_loggedHour 8 = .ok (.iand, 1) := by decide +kernel
theorem dX9_loggedHour_9 : decode cX9_loggedHour 9 = .ok (.ireturn, 1) := by decide +kernel
theorem dX9_loggedNumber_0 : decode cX9_loggedNumber 0 = .ok (.aload_n 0, 1) := by decide +kernel
theorem dX9_loggedNumber_1 : decode cX9_loggedNumber 1 = .ok (.iload_n 1, 1) := by decide +kernel
theorem dX9_loggedNumber_2 : decode cX9_loggedNumber 2 = .ok (.invokevirtual 122, 3) := by decide +kernel
theorem dX9_loggedNumber_5 : decode cX9_loggedNumber 5 = .ok (.bipush 14, 2) := by decide +kernel
theorem dX9_loggedNumber_7 : decode cX9_loggedNumber 7 = .ok (.ishr, 1) := by decide +kernel
theorem dX9_loggedNumber_8 : decode cX9_loggedNumber 8 = .ok (.bipush 7, 2) := by decide +kernel
theorem dX9_loggedNumber_10 : decode cX9_loggedNumber 10 = .ok (.iand, 1) := by decide +kernel
theorem dX9_loggedNumber_11 : decode cX9_loggedNumber 11 = .ok (.ireturn, 1) := by decide +kernel
theorem dX9_loggedKind_0 : decode cX9_loggedKind 0 = .ok (.aload_n 0, 1) := by decide +kernel
theorem dX9_loggedKind_1 : decode cX9_loggedKind 1 = .ok (.iload_n 1, 1) := by decide +kernel
theorem dX9_loggedKind_2 : decode cX9_loggedKind 2 = .ok (.invokevirtual 122, 3) := by decide +kernel
theorem dX9_loggedKind_5 : decode cX9_loggedKind 5 = .ok (.bipush 17, 2) := by decide +kernel
theorem dX9_loggedKind_7 : decode cX9_loggedKind 7 = .ok (.ishr, 1) := by decide +kernel
theorem dX9_loggedKind_8 : decode cX9_loggedKind 8 = .ok (.iconst 1, 1) := by decide +kernel
theorem dX9_loggedKind_9 : decode cX9_loggedKind 9 = .ok (.iand, 1) := by decide +kernel
theorem dX9_loggedKind_10 : decode cX9_loggedKind 10 = .ok (.ireturn, 1) := by decide +kernel
theorem dX9_loggedPlace_0 : decode cX9_loggedPlace 0 = .ok (.aload_n 0, 1) := by decide +kernel
theorem dX9_loggedPlace_1 : decode cX9_loggedPlace 1 = .ok (.iload_n 1, 1) := by decide +kernel
theorem dX9_loggedPlace_2 : decode cX9_loggedPlace 2 = .ok (.invokevirtual 122, 3) := by decide +kernel
theorem dX9_loggedPlace_5 : decode cX9_loggedPlace 5 = .ok (.bipush 18, 2) := by decide +kernel
theorem dX9_loggedPlace_7 : decode cX9_loggedPlace 7 = .ok (.ishr, 1) := by decide +kernel
theorem dX9_loggedPlace_8 : decode cX9_loggedPlace 8 = .ok (.bipush 15, 2) := by decide +kernel
theorem dX9_loggedPlace_10 : decode cX9_loggedPlace 10 = .ok (.iand, 1) := by decide +kernel
theorem dX9_loggedPlace_11 : decode cX9_loggedPlace 11 = .ok (.ireturn, 1) := by decide +kernel
