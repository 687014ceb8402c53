-- decode rows (made by wip/whole/gen/names.py)
theorem dX10_init_0 : decode cX10_init 0 = .ok (.aload_n 0, 1) := by decide +kernel
theorem dX10_init_1 : decode cX10_init 1 = .ok (.invokespecial 1, 3) := by decide +kernel
theorem dX10_init_4 : decode cX10_init 4 = .ok (.aload_n 0, 1) := by decide +kernel
theorem dX10_init_5 : decode cX10_init 5 = .ok (.new 7, 3) := by decide +kernel
theorem dX10_init_8 : decode cX10_init 8 = .ok (.dup, 1) := by decide +kernel
theorem dX10_init_9 : decode cX10_init 9 = .ok (.invokespecial 9, 3) := by decide +kernel
theorem dX10_init_12 : decode cX10_init 12 = .ok (.putfield 10, 3) := by decide +kernel
theorem dX10_init_15 : decode cX10_init 15 = .ok (.aload_n 0, 1) := by decide +kernel
theorem dX10_init_16 : decode cX10_init 16 = .ok (.new 16, 3) := by decide +kernel
theorem dX10_init_19 : decode cX10_init 19 = .ok (.dup, 1) := by decide +kernel
theorem dX10_init_20 : decode cX10_init 20 = .ok (.invokespecial 18, 3) := by decide +kernel
theorem dX10_init_23 : decode cX10_init 23 = .ok (.putfield 19, 3) := by decide +kernel
theorem dX10_init_26 : decode cX10_init 26 = .ok (.aload_n 0, 1) := by decide +kernel
theorem dX10_init_27 : decode cX10_init 27 = .ok (.new 16, 3) := by decide +kernel
theorem dX10_init_30 : decode cX10_init 30 = .ok (.dup, 1) := by decide +kernel
theorem dX10_init_31 : decode cX10_init 31 = .ok (.invokespecial 18, 3) := by decide +kernel
theorem dX10_init_34 : decode cX10_init 34 = .ok (.putfield 23, 3) := by decide +kernel
theorem dX10_init_37 : decode cX10_init 37 = .ok (.aload_n 0, 1) := by decide +kernel
theorem dX10_init_38 : decode cX10_init 38 = .ok (.new 16, 3) := by decide +kernel
theorem dX10_init_41 : decode cX10_init 41 = .ok (.dup, 1) := by decide +kernel
theorem dX10_init_42 : decode cX10_init 42 = .ok (.invokespecial 18, 3) := by decide +kernel
theorem dX10_init_45 : decode cX10_init 45 = .ok (.putfield 26, 3) := by decide +kernel
theorem dX10_init_48 : decode cX10_init 48 = .ok (.aload_n 0, 1) := by decide +kernel
theorem dX10_init_49 : decode cX10_init 49 = .ok (.new 29, 3) := by decide +kernel
theorem dX10_init_52 : decode cX10_init 52 = .ok (.dup, 1) := by decide +kernel
theorem dX10_init_53 : decode cX10_init 53 = .ok (.invokespecial 31, 3) := by decide +kernel
theorem dX10_init_56 : decode cX10_init 56 = .ok (.putfield 32, 3) := by decide +kernel
theorem dX10_init_59 : decode cX10_init 59 = .ok (.aload_n 0, 1) := by decide +kernel
theorem dX10_init_60 : decode cX10_init 60 = .ok (.new 29, 3) := by decide +kernel
theorem dX10_init_63 : decode cX10_init 63 = .ok (.dup, 1) := by decide +kernel
theorem dX10_init_64 : decode cX10_init 64 = .ok (.invokespecial 31, 3) := by decide +kernel
theorem dX10_init_67 : decode cX10_init 67 = .ok (.putfield 36, 3) := by decide +kernel
theorem dX10_init_70 : decode cX10_init 70 = .ok (.aload_n 0, 1) := by decide +kernel
theorem dX10_init_71 : decode cX10_init 71 = .ok (.new 29, 3) := by decide +kernel
theorem dX10_init_74 : decode cX10_init 74 = .ok (.dup, 1) := by decide +kernel
theorem dX10_init_75 : decode cX10_init 75 = .ok (.invokespecial 31, 3) := by decide +kernel
theorem dX10_init_78 : decode cX10_init 78 = .ok (.putfield 39, 3) := by decide +kernel
theorem dX10_init_81 : decode cX10_init 81 = .ok (.aload_n 0, 1) := by decide +kernel
theorem dX10_init_82 : decode cX10_init 82 = .ok (.new 42, 3) := by decide +kernel
theorem dX10_init_85 : decode cX10_init 85 = .ok (.dup, 1) := by decide +kernel
theorem dX10_init_86 : decode cX10_init 86 = .ok (.aload_n 0, 1) := by decide +kernel
theorem dX10_init_87 : decode cX10_init 87 = .ok (.getfield 10, 3) := by decide +kernel
theorem dX10_init_90 : decode cX10_init 90 = .ok (.invokespecial 44, 3) := by decide +kernel
theorem dX10_init_93 : decode cX10_init 93 = .ok (.putfield 47, 3) := by decide +kernel
theorem dX10_init_96 : decode cX10_init 96 = .ok (.aload_n 0, 1) := by decide +kernel
theorem dX10_init_97 : decode cX10_init 97 = .ok (.new 51, 3) := by decide +kernel
theorem dX10_init_100 : decode cX10_init 100 = .ok (.dup, 1) := by decide +kernel
theorem dX10_init_101 : decode cX10_init 101 = .ok (.aload_n 0, 1) := by decide +kernel
theorem dX10_init_102 : decode cX10_init 102 = .ok (.getfield 47, 3) := by decide +kernel
theorem dX10_init_105 : decode cX10_init 105 = .ok (.invokespecial 53, 3) := by decide +kernel
theorem dX10_init_108 : decode cX10_init 108 = .ok (.putfield 56, 3) := by decide +kernel
theorem dX10_init_111 : decode cX10_init 111 = .ok (.aload_n 0, 1) := by decide +kernel
theorem dX10_init_112 : decode cX10_init 112 = .ok (.new 60, 3) := by decide +kernel
theorem dX10_init_115 : decode cX10_init 115 = .ok (.dup, 1) := by decide +kernel
theorem dX10_init_116 : decode cX10_init 116 = .ok (.aload_n 0, 1) := by decide +kernel
theorem dX10_init_117 : decode cX10_init 117 = .ok (.getfield 47, 3) := by decide +kernel
theorem dX10_init_120 : decode cX10_init 120 = .ok (.aload_n 0, 1) := by decide +kernel
theorem dX10_init_121 : decode cX10_init 121 = .ok (.getfield 36, 3) := by decide +kernel
theorem dX10_init_124 : decode cX10_init 124 = .ok (.invokespecial 62, 3) := by decide +kernel
theorem dX10_init_127 : decode cX10_init 127 = .ok (.putfield 65, 3) := by decide +kernel
theorem dX10_init_130 : decode cX10_init 130 = .ok (.aload_n 0, 1) := by decide +kernel
theorem dX10_init_131 : decode cX10_init 131 = .ok (.new 69, 3) := by decide +kernel
theorem dX10_init_134 : decode cX10_init 134 = .ok (.dup, 1) := by decide +kernel
theorem dX10_init_135 : decode cX10_init 135 = .ok (.invokespecial 71, 3) := by decide +kernel
theorem dX10_init_138 : decode cX10_init 138 = .ok (.putfield 72, 3) := by decide +kernel
theorem dX10_init_141 : decode cX10_init 141 = .ok (.aload_n 0, 1) := by decide +kernel
theorem dX10_init_142 : decode cX10_init 142 = .ok (.new 76, 3) := by decide +kernel
theorem dX10_init_145 : decode cX10_init 145 = .ok (.dup, 1) := by decide +kernel
theorem dX10_init_146 : decode cX10_init 146 = .ok (.aload_n 0, 1) := by decide +kernel
theorem dX10_init_147 : decode cX10_init 147 = .ok (.getfield 72, 3) := by decide +kernel
theorem dX10_init_150 : decode cX10_init 150 = .ok (.invokespecial 78, 3) := by decide +kernel
theorem dX10_init_153 : decode cX10_init 153 = .ok (.putfield 81, 3) := by decide +kernel
theorem dX10_init_156 : decode cX10_init 156 = .ok (.aload_n 0, 1) := by decide +kernel
theorem dX10_init_157 : decode cX10_init 157 = .ok (.new 85, 3) := by decide +kernel
theorem dX10_init_160 : decode cX10_init 160 = .ok (.dup, 1) := by decide +kernel
theorem dX10_init_161 : decode cX10_init 161 = .ok (.invokespecial 87, 3) := by decide +kernel
theorem dX10_init_164 : decode cX10_init 164 = .ok (.putfield 88, 3) := by decide +kernel
theorem dX10_init_167 : decode cX10_init 167 = .ok (.aload_n 0, 1) := by decide +kernel
theorem dX10_init_168 : decode cX10_init 168 = .ok (.iconst (-1), 1) := by decide +kernel
theorem dX10_init_169 : decode cX10_init 169 = .ok (.putfield 92, 3) := by decide +kernel
theorem dX10_init_172 : decode cX10_init 172 = .ok (.aload_n 0, 1) := by decide +kernel
theorem dX10_init_173 : decode cX10_init 173 = .ok (.iconst 0, 1) := by decide +kernel
theorem dX10_init_174 : decode cX10_init 174 = .ok (.putfield 96, 3) := by decide +kernel
theorem dX10_init_177 : decode cX10_init 177 = .ok (.return_, 1) := by decide +kernel
theorem dX10_feed_0 : decode cX10_feed 0 = .ok (.aload_n 0, 1) := by decide +kernel
theorem dX10_feed_1 : decode cX10_feed 1 = .ok (.getfield 10, 3) := by decide +kernel
theorem dX10_feed_4 : decode cX10_feed 4 = .ok (.getfield 100, 3) := by decide +kernel
theorem dX10_feed_7 : decode cX10_feed 7 = .ok (.bipush 20, 2) := by decide +kernel
theorem dX10_feed_9 : decode cX10_feed 9 = .ok (.iadd, 1) := by decide +kernel
theorem dX10_feed_10 : decode cX10_feed 10 = .ok (.sipush 400, 3) := by decide +kernel
theorem dX10_feed_13 : decode cX10_feed 13 = .ok (.if_icmp .le 5, 3) := by decide +kernel
theorem dX10_feed_16 : decode cX10_feed 16 = .ok (.iconst (-1), 1) := by decide +kernel
theorem dX10_feed_17 : decode cX10_feed 17 = .ok (.ireturn, 1) := by decide +kernel
theorem dX10_feed_18 : decode cX10_feed 18 = .ok (.aload_n 0, 1) := by decide +kernel
theorem dX10_feed_19 : decode cX10_feed 19 = .ok (.getfield 10, 3) := by decide +kernel
theorem dX10_feed_22 : decode cX10_feed 22 = .ok (.iload_n 1, 1) := by decide +kernel
theorem dX10_feed_23 : decode cX10_feed 23 = .ok (.invokevirtual 103, 3) := by decide +kernel
theorem dX10_feed_26 : decode cX10_feed 26 = .ok (.aload_n 0, 1) := by decide +kernel
theorem dX10_feed_27 : decode cX10_feed 27 = .ok (.getfield 10, 3) := by decide +kernel
theorem dX10_feed_30 : decode cX10_feed 30 = .ok (.iload_n 2, 1) := by decide +kernel
theorem dX10_feed_31 : decode cX10_feed 31 = .ok (.invokevirtual 103, 3) := by decide +kernel
theorem dX10_feed_34 : decode cX10_feed 34 = .ok (.aload_n 0, 1) := by decide +kernel
theorem dX10_feed_35 : decode cX10_feed 35 = .ok (.getfield 10, 3) := by decide +kernel
theorem dX10_feed_38 : decode cX10_feed 38 = .ok (.iload_n 3, 1) := by decide +kernel
theorem dX10_feed_39 : decode cX10_feed 39 = .ok (.invokevirtual 103, 3) := by decide +kernel
theorem dX10_feed_42 : decode cX10_feed 42 = .ok (.aload_n 0, 1) := by decide +kernel
theorem dX10_feed_43 : decode cX10_feed 43 = .ok (.getfield 10, 3) := by decide +kernel
theorem dX10_feed_46 : decode cX10_feed 46 = .ok (.iload 4, 2) := by decide +kernel
theorem dX10_feed_48 : decode cX10_feed 48 = .ok (.invokevirtual 103, 3) := by decide +kernel
theorem dX10_feed_51 : decode cX10_feed 51 = .ok (.aload_n 0, 1) := by decide +kernel
theorem dX10_feed_52 : decode cX10_feed 52 = .ok (.getfield 10, 3) := by decide +kernel
theorem dX10_feed_55 : decode cX10_feed 55 = .ok (.iload 5, 2) := by decide +kernel
theorem dX10_feed_57 : decode cX10_feed 57 = .ok (.invokevirtual 103, 3) := by decide +kernel
theorem dX10_feed_60 : decode cX10_feed 60 = .ok (.aload_n 0, 1) := by decide +kernel
theorem dX10_feed_61 : decode cX10_feed 61 = .ok (.getfield 10, 3) := by decide +kernel
theorem dX10_feed_64 : decode cX10_feed 64 = .ok (.getfield 100, 3) := by decide +kernel
theorem dX10_feed_67 : decode cX10_feed 67 = .ok (.ireturn, 1) := by decide +kernel
theorem dX10_end_0 : decode cX10_end 0 = .ok (.iload_n 1, 1) := by decide +kernel
theorem dX10_end_1 : decode cX10_end 1 = .ok (.ifCond .lt 14, 3) := by decide +kernel
theorem dX10_end_4 : decode cX10_end 4 = .ok (.iload_n 1, 1) := by decide +kernel
theorem dX10_end_5 : decode cX10_end 5 = .ok (.aload_n 0, 1) := by decide +kernel
theorem dX10_end_6 : decode cX10_end 6 = .ok (.getfield 10, 3) := by decide +kernel
theorem dX10_end_9 : decode cX10_end 9 = .ok (.getfield 100, 3) := by decide +kernel
theorem dX10_end_12 : decode cX10_end 12 = .ok (.if_icmp .le 5, 3) := by decide +kernel
theorem dX10_end_15 : decode cX10_end 15 = .ok (.iconst 0, 1) := by decide +kernel
theorem dX10_end_16 : decode cX10_end 16 = .ok (.ireturn, 1) := by decide +kernel
theorem dX10_end_17 : decode cX10_end 17 = .ok (.aload_n 0, 1) := by decide +kernel
theorem dX10_end_18 : decode cX10_end 18 = .ok (.getfield 10, 3) := by decide +kernel
theorem dX10_end_21 : decode cX10_end 21 = .ok (.iload_n 1, 1) := by decide +kernel
theorem dX10_end_22 : decode cX10_end 22 = .ok (.putfield 100, 3) := by decide +kernel
theorem dX10_end_25 : decode cX10_end 25 = .ok (.iconst 1, 1) := by decide +kernel
theorem dX10_end_26 : decode cX10_end 26 = .ok (.ireturn, 1) := by decide +kernel
theorem dX10_coast_0 : decode cX10_coast 0 = .ok (.aload_n 0, 1) := by decide +kernel
theorem dX10_coast_1 : decode cX10_coast 1 = .ok (.invokevirtual 107, 3) := by decide +kernel
theorem dX10_coast_4 : decode cX10_coast 4 = .ok (.astore_n 1, 1) := by decide +kernel
theorem dX10_coast_5 : decode cX10_coast 5 = .ok (.aload_n 0, 1) := by decide +kernel
theorem dX10_coast_6 : decode cX10_coast 6 = .ok (.aload_n 0, 1) := by decide +kernel
theorem dX10_coast_7 : decode cX10_coast 7 = .ok (.getfield 56, 3) := by decide +kernel
theorem dX10_coast_10 : decode cX10_coast 10 = .ok (.aload_n 1, 1) := by decide +kernel
theorem dX10_coast_11 : decode cX10_coast 11 = .ok (.invokevirtual 111, 3) := by decide +kernel
theorem dX10_coast_14 : decode cX10_coast 14 = .ok (.putfield 92, 3) := by decide +kernel
theorem dX10_coast_17 : decode cX10_coast 17 = .ok (.aload_n 0, 1) := by decide +kernel
theorem dX10_coast_18 : decode cX10_coast 18 = .ok (.getfield 10, 3) := by decide +kernel
theorem dX10_coast_21 : decode cX10_coast 21 = .ok (.iconst 0, 1) := by decide +kernel
theorem dX10_coast_22 : decode cX10_coast 22 = .ok (.putfield 100, 3) := by decide +kernel
theorem dX10_coast_25 : decode cX10_coast 25 = .ok (.aload_n 0, 1) := by decide +kernel
theorem dX10_coast_26 : decode cX10_coast 26 = .ok (.getfield 92, 3) := by decide +kernel
theorem dX10_coast_29 : decode cX10_coast 29 = .ok (.iconst (-1), 1) := by decide +kernel
theorem dX10_coast_30 : decode cX10_coast 30 = .ok (.if_icmp .eq 11, 3) := by decide +kernel
theorem dX10_coast_33 : decode cX10_coast 33 = .ok (.new 115, 3) := by decide +kernel
theorem dX10_coast_36 : decode cX10_coast 36 = .ok (.dup, 1) := by decide +kernel
theorem dX10_coast_37 : decode cX10_coast 37 = .ok (.invokespecial 117, 3) := by decide +kernel
theorem dX10_coast_40 : decode cX10_coast 40 = .ok (.athrow, 1) := by decide +kernel
theorem dX10_coast_41 : decode cX10_coast 41 = .ok (.aload_n 0, 1) := by decide +kernel
theorem dX10_coast_42 : decode cX10_coast 42 = .ok (.getfield 19, 3) := by decide +kernel
theorem dX10_coast_45 : decode cX10_coast 45 = .ok (.getfield 118, 3) := by decide +kernel
theorem dX10_coast_48 : decode cX10_coast 48 = .ok (.bipush 12, 2) := by decide +kernel
theorem dX10_coast_50 : decode cX10_coast 50 = .ok (.if_icmp .lt 11, 3) := by decide +kernel
theorem dX10_coast_53 : decode cX10_coast 53 = .ok (.new 121, 3) := by decide +kernel
theorem dX10_coast_56 : decode cX10_coast 56 = .ok (.dup, 1) := by decide +kernel
theorem dX10_coast_57 : decode cX10_coast 57 = .ok (.invokespecial 123, 3) := by decide +kernel
theorem dX10_coast_60 : decode cX10_coast 60 = .ok (.athrow, 1) := by decide +kernel
theorem dX10_coast_61 : decode cX10_coast 61 = .ok (.aload_n 0, 1) := by decide +kernel
theorem dX10_coast_62 : decode cX10_coast 62 = .ok (.getfield 19, 3) := by decide +kernel
theorem dX10_coast_65 : decode cX10_coast 65 = .ok (.aload_n 1, 1) := by decide +kernel
theorem dX10_coast_66 : decode cX10_coast 66 = .ok (.invokevirtual 124, 3) := by decide +kernel
theorem dX10_coast_69 : decode cX10_coast 69 = .ok (.aload_n 0, 1) := by decide +kernel
theorem dX10_coast_70 : decode cX10_coast 70 = .ok (.getfield 19, 3) := by decide +kernel
theorem dX10_coast_73 : decode cX10_coast 73 = .ok (.dup, 1) := by decide +kernel
theorem dX10_coast_74 : decode cX10_coast 74 = .ok (.getfield 118, 3) := by decide +kernel
theorem dX10_coast_77 : decode cX10_coast 77 = .ok (.iconst 1, 1) := by decide +kernel
theorem dX10_coast_78 : decode cX10_coast 78 = .ok (.iadd, 1) := by decide +kernel
theorem dX10_coast_79 : decode cX10_coast 79 = .ok (.putfield 118, 3) := by decide +kernel
theorem dX10_coast_82 : decode cX10_coast 82 = .ok (.aload_n 0, 1) := by decide +kernel
theorem dX10_coast_83 : decode cX10_coast 83 = .ok (.getfield 88, 3) := by decide +kernel
theorem dX10_coast_86 : decode cX10_coast 86 = .ok (.invokevirtual 128, 3) := by decide +kernel
theorem dX10_coast_89 : decode cX10_coast 89 = .ok (.aload_n 0, 1) := by decide +kernel
theorem dX10_coast_90 : decode cX10_coast 90 = .ok (.getfield 19, 3) := by decide +kernel
theorem dX10_coast_93 : decode cX10_coast 93 = .ok (.getfield 118, 3) := by decide +kernel
theorem dX10_coast_96 : decode cX10_coast 96 = .ok (.ireturn, 1) := by decide +kernel
theorem dX10_law_0 : decode cX10_law 0 = .ok (.aload_n 0, 1) := by decide +kernel
theorem dX10_law_1 : decode cX10_law 1 = .ok (.aload_n 0, 1) := by decide +kernel
theorem dX10_law_2 : decode cX10_law 2 = .ok (.getfield 65, 3) := by decide +kernel
theorem dX10_law_5 : decode cX10_law 5 = .ok (.invokevirtual 131, 3) := by decide +kernel
theorem dX10_law_8 : decode cX10_law 8 = .ok (.putfield 92, 3) := by decide +kernel
theorem dX10_law_11 : decode cX10_law 11 = .ok (.aload_n 0, 1) := by decide +kernel
theorem dX10_law_12 : decode cX10_law 12 = .ok (.getfield 10, 3) := by decide +kernel
theorem dX10_law_15 : decode cX10_law 15 = .ok (.iconst 0, 1) := by decide +kernel
theorem dX10_law_16 : decode cX10_law 16 = .ok (.putfield 100, 3) := by decide +kernel
theorem dX10_law_19 : decode cX10_law 19 = .ok (.aload_n 0, 1) := by decide +kernel
theorem dX10_law_20 : decode cX10_law 20 = .ok (.getfield 92, 3) := by decide +kernel
theorem dX10_law_23 : decode cX10_law 23 = .ok (.iconst (-1), 1) := by decide +kernel
theorem dX10_law_24 : decode cX10_law 24 = .ok (.if_icmp .eq 11, 3) := by decide +kernel
theorem dX10_law_27 : decode cX10_law 27 = .ok (.new 115, 3) := by decide +kernel
theorem dX10_law_30 : decode cX10_law 30 = .ok (.dup, 1) := by decide +kernel
theorem dX10_law_31 : decode cX10_law 31 = .ok (.invokespecial 117, 3) := by decide +kernel
theorem dX10_law_34 : decode cX10_law 34 = .ok (.athrow, 1) := by decide +kernel
theorem dX10_law_35 : decode cX10_law 35 = .ok (.aload_n 0, 1) := by decide +kernel
theorem dX10_law_36 : decode cX10_law 36 = .ok (.getfield 32, 3) := by decide +kernel
theorem dX10_law_39 : decode cX10_law 39 = .ok (.aload_n 0, 1) := by decide +kernel
theorem dX10_law_40 : decode cX10_law 40 = .ok (.getfield 36, 3) := by decide +kernel
theorem dX10_law_43 : decode cX10_law 43 = .ok (.invokevirtual 134, 3) := by decide +kernel
theorem dX10_law_46 : decode cX10_law 46 = .ok (.aload_n 0, 1) := by decide +kernel
theorem dX10_law_47 : decode cX10_law 47 = .ok (.getfield 88, 3) := by decide +kernel
theorem dX10_law_50 : decode cX10_law 50 = .ok (.invokevirtual 128, 3) := by decide +kernel
theorem dX10_law_53 : decode cX10_law 53 = .ok (.aload_n 0, 1) := by decide +kernel
theorem dX10_law_54 : decode cX10_law 54 = .ok (.getfield 32, 3) := by decide +kernel
theorem dX10_law_57 : decode cX10_law 57 = .ok (.getfield 137, 3) := by decide +kernel
theorem dX10_law_60 : decode cX10_law 60 = .ok (.ireturn, 1) := by decide +kernel
theorem dX10_fault_0 : decode cX10_fault 0 = .ok (.aload_n 0, 1) := by decide +kernel
theorem dX10_fault_1 : decode cX10_fault 1 = .ok (.getfield 92, 3) := by decide +kernel
theorem dX10_fault_4 : decode cX10_fault 4 = .ok (.ireturn, 1) := by decide +kernel
theorem dX10_ground_0 : decode cX10_ground 0 = .ok (.aload_n 0, 1) := by decide +kernel
theorem dX10_ground_1 : decode cX10_ground 1 = .ok (.iload_n 1, 1) := by decide +kernel
theorem dX10_ground_2 : decode cX10_ground 2 = .ok (.invokevirtual 140, 3) := by decide +kernel
theorem dX10_ground_5 : decode cX10_ground 5 = .ok (.aload_n 0, 1) := by decide +kernel
theorem dX10_ground_6 : decode cX10_ground 6 = .ok (.getfield 19, 3) := by decide +kernel
theorem dX10_ground_9 : decode cX10_ground 9 = .ok (.getfield 143, 3) := by decide +kernel
theorem dX10_ground_12 : decode cX10_ground 12 = .ok (.iload_n 1, 1) := by decide +kernel
theorem dX10_ground_13 : decode cX10_ground 13 = .ok (.invokestatic 147, 3) := by decide +kernel
theorem dX10_ground_16 : decode cX10_ground 16 = .ok (.ireturn, 1) := by decide +kernel
theorem dX10_monk_0 : decode cX10_monk 0 = .ok (.aload_n 0, 1) := by decide +kernel
theorem dX10_monk_1 : decode cX10_monk 1 = .ok (.iload_n 1, 1) := by decide +kernel
theorem dX10_monk_2 : decode cX10_monk 2 = .ok (.invokevirtual 151, 3) := by decide +kernel
theorem dX10_monk_5 : decode cX10_monk 5 = .ok (.aload_n 0, 1) := by decide +kernel
theorem dX10_monk_6 : decode cX10_monk 6 = .ok (.getfield 19, 3) := by decide +kernel
theorem dX10_monk_9 : decode cX10_monk 9 = .ok (.aload_n 0, 1) := by decide +kernel
theorem dX10_monk_10 : decode cX10_monk 10 = .ok (.getfield 19, 3) := by decide +kernel
theorem dX10_monk_13 : decode cX10_monk 13 = .ok (.getfield 154, 3) := by decide +kernel
theorem dX10_monk_16 : decode cX10_monk 16 = .ok (.invokevirtual 157, 3) := by decide +kernel
theorem dX10_monk_19 : decode cX10_monk 19 = .ok (.istore_n 3, 1) := by decide +kernel
theorem dX10_monk_20 : decode cX10_monk 20 = .ok (.iload_n 2, 1) := by decide +kernel
theorem dX10_monk_21 : decode cX10_monk 21 = .ok (.tableswitch 154 0 7 #[47, 57, 67, 77, 87, 104, 118, 140], 47) := by decide +kernel
theorem dX10_monk_68 : decode cX10_monk 68 = .ok (.aload_n 0, 1) := by decide +kernel
theorem dX10_monk_69 : decode cX10_monk 69 = .ok (.getfield 19, 3) := by decide +kernel
theorem dX10_monk_72 : decode cX10_monk 72 = .ok (.iload_n 1, 1) := by decide +kernel
theorem dX10_monk_73 : decode cX10_monk 73 = .ok (.iconst 0, 1) := by decide +kernel
theorem dX10_monk_74 : decode cX10_monk 74 = .ok (.invokevirtual 161, 3) := by decide +kernel
theorem dX10_monk_77 : decode cX10_monk 77 = .ok (.ireturn, 1) := by decide +kernel
theorem dX10_monk_78 : decode cX10_monk 78 = .ok (.aload_n 0, 1) := by decide +kernel
theorem dX10_monk_79 : decode cX10_monk 79 = .ok (.getfield 19, 3) := by decide +kernel
theorem dX10_monk_82 : decode cX10_monk 82 = .ok (.iload_n 1, 1) := by decide +kernel
theorem dX10_monk_83 : decode cX10_monk 83 = .ok (.iconst 1, 1) := by decide +kernel
theorem dX10_monk_84 : decode cX10_monk 84 = .ok (.invokevirtual 161, 3) := by decide +kernel
theorem dX10_monk_87 : decode cX10_monk 87 = .ok (.ireturn, 1) := by decide +kernel
theorem dX10_monk_88 : decode cX10_monk 88 = .ok (.aload_n 0, 1) := by decide +kernel
theorem dX10_monk_89 : decode cX10_monk 89 = .ok (.getfield 19, 3) := by decide +kernel
theorem dX10_monk_92 : decode cX10_monk 92 = .ok (.iload_n 1, 1) := by decide +kernel
theorem dX10_monk_93 : decode cX10_monk 93 = .ok (.iconst 2, 1) := by decide +kernel
theorem dX10_monk_94 : decode cX10_monk 94 = .ok (.invokevirtual 161, 3) := by decide +kernel
theorem dX10_monk_97 : decode cX10_monk 97 = .ok (.ireturn, 1) := by decide +kernel
theorem dX10_monk_98 : decode cX10_monk 98 = .ok (.aload_n 0, 1) := by decide +kernel
theorem dX10_monk_99 : decode cX10_monk 99 = .ok (.getfield 19, 3) := by decide +kernel
theorem dX10_monk_102 : decode cX10_monk 102 = .ok (.iload_n 1, 1) := by decide +kernel
theorem dX10_monk_103 : decode cX10_monk 103 = .ok (.iconst 3, 1) := by decide +kernel
theorem dX10_monk_104 : decode cX10_monk 104 = .ok (.invokevirtual 161, 3) := by decide +kernel
theorem dX10_monk_107 : decode cX10_monk 107 = .ok (.ireturn, 1) := by decide +kernel
theorem dX10_monk_108 : decode cX10_monk 108 = .ok (.aload_n 0, 1) := by decide +kernel
theorem dX10_monk_109 : decode cX10_monk 109 = .ok (.getfield 19, 3) := by decide +kernel
theorem dX10_monk_112 : decode cX10_monk 112 = .ok (.iload_n 1, 1) := by decide +kernel
theorem dX10_monk_113 : decode cX10_monk 113 = .ok (.invokevirtual 165, 3) := by decide +kernel
theorem dX10_monk_116 : decode cX10_monk 116 = .ok (.ifCond .eq 7, 3) := by decide +kernel
theorem dX10_monk_119 : decode cX10_monk 119 = .ok (.iconst 1, 1) := by decide +kernel
theorem dX10_monk_120 : decode cX10_monk 120 = .ok (.goto 4, 3) := by decide +kernel
theorem dX10_monk_123 : decode cX10_monk 123 = .ok (.iconst 0, 1) := by decide +kernel
theorem dX10_monk_124 : decode cX10_monk 124 = .ok (.ireturn, 1) := by decide +kernel
theorem dX10_monk_125 : decode cX10_monk 125 = .ok (.aload_n 0, 1) := by decide +kernel
theorem dX10_monk_126 : decode cX10_monk 126 = .ok (.getfield 32, 3) := by decide +kernel
theorem dX10_monk_129 : decode cX10_monk 129 = .ok (.aload_n 0, 1) := by decide +kernel
theorem dX10_monk_130 : decode cX10_monk 130 = .ok (.getfield 19, 3) := by decide +kernel
theorem dX10_monk_133 : decode cX10_monk 133 = .ok (.iload_n 1, 1) := by decide +kernel
theorem dX10_monk_134 : decode cX10_monk 134 = .ok (.iload_n 3, 1) := by decide +kernel
theorem dX10_monk_135 : decode cX10_monk 135 = .ok (.invokevirtual 169, 3) := by decide +kernel
theorem dX10_monk_138 : decode cX10_monk 138 = .ok (.ireturn, 1) := by decide +kernel
theorem dX10_monk_139 : decode cX10_monk 139 = .ok (.aload_n 0, 1) := by decide +kernel
theorem dX10_monk_140 : decode cX10_monk 140 = .ok (.getfield 32, 3) := by decide +kernel
theorem dX10_monk_143 : decode cX10_monk 143 = .ok (.aload_n 0, 1) := by decide +kernel
theorem dX10_monk_144 : decode cX10_monk 144 = .ok (.getfield 19, 3) := by decide +kernel
theorem dX10_monk_147 : decode cX10_monk 147 = .ok (.iload_n 1, 1) := by decide +kernel
theorem dX10_monk_148 : decode cX10_monk 148 = .ok (.iload_n 3, 1) := by decide +kernel
theorem dX10_monk_149 : decode cX10_monk 149 = .ok (.invokevirtual 173, 3) := by decide +kernel
theorem dX10_monk_152 : decode cX10_monk 152 = .ok (.ifCond .eq 7, 3) := by decide +kernel
theorem dX10_monk_155 : decode cX10_monk 155 = .ok (.iconst 1, 1) := by decide +kernel
theorem dX10_monk_156 : decode cX10_monk 156 = .ok (.goto 4, 3) := by decide +kernel
theorem dX10_monk_159 : decode cX10_monk 159 = .ok (.iconst 0, 1) := by decide +kernel
theorem dX10_monk_160 : decode cX10_monk 160 = .ok (.ireturn, 1) := by decide +kernel
theorem dX10_monk_161 : decode cX10_monk 161 = .ok (.aload_n 0, 1) := by decide +kernel
theorem dX10_monk_162 : decode cX10_monk 162 = .ok (.getfield 32, 3) := by decide +kernel
theorem dX10_monk_165 : decode cX10_monk 165 = .ok (.aload_n 0, 1) := by decide +kernel
theorem dX10_monk_166 : decode cX10_monk 166 = .ok (.getfield 19, 3) := by decide +kernel
theorem dX10_monk_169 : decode cX10_monk 169 = .ok (.iload_n 1, 1) := by decide +kernel
theorem dX10_monk_170 : decode cX10_monk 170 = .ok (.iload_n 3, 1) := by decide +kernel
theorem dX10_monk_171 : decode cX10_monk 171 = .ok (.invokevirtual 177, 3) := by decide +kernel
theorem dX10_monk_174 : decode cX10_monk 174 = .ok (.ireturn, 1) := by decide +kernel
theorem dX10_monk_175 : decode cX10_monk 175 = .ok (.new 180, 3) := by decide +kernel
theorem dX10_monk_178 : decode cX10_monk 178 = .ok (.dup, 1) := by decide +kernel
theorem dX10_monk_179 : decode cX10_monk 179 = .ok (.invokespecial 182, 3) := by decide +kernel
theorem dX10_monk_182 : decode cX10_monk 182 = .ok (.athrow, 1) := by decide +kernel
theorem dX10_duty_0 : decode cX10_duty 0 = .ok (.aload_n 0, 1) := by decide +kernel
theorem dX10_duty_1 : decode cX10_duty 1 = .ok (.iload_n 1, 1) := by decide +kernel
theorem dX10_duty_2 : decode cX10_duty 2 = .ok (.invokevirtual 183, 3) := by decide +kernel
theorem dX10_duty_5 : decode cX10_duty 5 = .ok (.iload_n 2, 1) := by decide +kernel
theorem dX10_duty_6 : decode cX10_duty 6 = .ok (.tableswitch 77 0 3 #[30, 40, 50, 60], 30) := by decide +kernel
theorem dX10_duty_36 : decode cX10_duty 36 = .ok (.aload_n 0, 1) := by decide +kernel
theorem dX10_duty_37 : decode cX10_duty 37 = .ok (.getfield 19, 3) := by decide +kernel
theorem dX10_duty_40 : decode cX10_duty 40 = .ok (.iload_n 1, 1) := by decide +kernel
theorem dX10_duty_41 : decode cX10_duty 41 = .ok (.iconst 0, 1) := by decide +kernel
theorem dX10_duty_42 : decode cX10_duty 42 = .ok (.invokevirtual 186, 3) := by decide +kernel
theorem dX10_duty_45 : decode cX10_duty 45 = .ok (.ireturn, 1) := by decide +kernel
theorem dX10_duty_46 : decode cX10_duty 46 = .ok (.aload_n 0, 1) := by decide +kernel
theorem dX10_duty_47 : decode cX10_duty 47 = .ok (.getfield 19, 3) := by decide +kernel
theorem dX10_duty_50 : decode cX10_duty 50 = .ok (.iload_n 1, 1) := by decide +kernel
theorem dX10_duty_51 : decode cX10_duty 51 = .ok (.iconst 1, 1) := by decide +kernel
theorem dX10_duty_52 : decode cX10_duty 52 = .ok (.invokevirtual 186, 3) := by decide +kernel
theorem dX10_duty_55 : decode cX10_duty 55 = .ok (.ireturn, 1) := by decide +kernel
theorem dX10_duty_56 : decode cX10_duty 56 = .ok (.aload_n 0, 1) := by decide +kernel
theorem dX10_duty_57 : decode cX10_duty 57 = .ok (.getfield 19, 3) := by decide +kernel
theorem dX10_duty_60 : decode cX10_duty 60 = .ok (.iload_n 1, 1) := by decide +kernel
theorem dX10_duty_61 : decode cX10_duty 61 = .ok (.iconst 2, 1) := by decide +kernel
theorem dX10_duty_62 : decode cX10_duty 62 = .ok (.invokevirtual 186, 3) := by decide +kernel
theorem dX10_duty_65 : decode cX10_duty 65 = .ok (.ireturn, 1) := by decide +kernel
theorem dX10_duty_66 : decode cX10_duty 66 = .ok (.aload_n 0, 1) := by decide +kernel
theorem dX10_duty_67 : decode cX10_duty 67 = .ok (.getfield 19, 3) := by decide +kernel
theorem dX10_duty_70 : decode cX10_duty 70 = .ok (.iload_n 1, 1) := by decide +kernel
theorem dX10_duty_71 : decode cX10_duty 71 = .ok (.invokevirtual 189, 3) := by decide +kernel
theorem dX10_duty_74 : decode cX10_duty 74 = .ok (.ifCond .eq 7, 3) := by decide +kernel
theorem dX10_duty_77 : decode cX10_duty 77 = .ok (.iconst 1, 1) := by decide +kernel
theorem dX10_duty_78 : decode cX10_duty 78 = .ok (.goto 4, 3) := by decide +kernel
theorem dX10_duty_81 : decode cX10_duty 81 = .ok (.iconst 0, 1) := by decide +kernel
theorem dX10_duty_82 : decode cX10_duty 82 = .ok (.ireturn, 1) := by decide +kernel
theorem dX10_duty_83 : decode cX10_duty 83 = .ok (.new 180, 3) := by decide +kernel
theorem dX10_duty_86 : decode cX10_duty 86 = .ok (.dup, 1) := by decide +kernel
theorem dX10_duty_87 : decode cX10_duty 87 = .ok (.invokespecial 182, 3) := by decide +kernel
theorem dX10_duty_90 : decode cX10_duty 90 = .ok (.athrow, 1) := by decide +kernel
theorem dX10_range_0 : decode cX10_range 0 = .ok (.aload_n 0, 1) := by decide +kernel
theorem dX10_range_1 : decode cX10_range 1 = .ok (.iload_n 1, 1) := by decide +kernel
theorem dX10_range_2 : decode cX10_range 2 = .ok (.iconst 0, 1) := by decide +kernel
theorem dX10_range_3 : decode cX10_range 3 = .ok (.sipush 2499, 3) := by decide +kernel
theorem dX10_range_6 : decode cX10_range 6 = .ok (.invokevirtual 192, 3) := by decide +kernel
theorem dX10_range_9 : decode cX10_range 9 = .ok (.aload_n 0, 1) := by decide +kernel
theorem dX10_range_10 : decode cX10_range 10 = .ok (.getfield 19, 3) := by decide +kernel
theorem dX10_range_13 : decode cX10_range 13 = .ok (.iload_n 1, 1) := by decide +kernel
theorem dX10_range_14 : decode cX10_range 14 = .ok (.invokevirtual 196, 3) := by decide +kernel
theorem dX10_range_17 : decode cX10_range 17 = .ok (.ireturn, 1) := by decide +kernel
theorem dX10_water_0 : decode cX10_water 0 = .ok (.aload_n 0, 1) := by decide +kernel
theorem dX10_water_1 : decode cX10_water 1 = .ok (.iload_n 1, 1) := by decide +kernel
theorem dX10_water_2 : decode cX10_water 2 = .ok (.iconst 0, 1) := by decide +kernel
theorem dX10_water_3 : decode cX10_water 3 = .ok (.sipush 9999, 3) := by decide +kernel
theorem dX10_water_6 : decode cX10_water 6 = .ok (.invokevirtual 192, 3) := by decide +kernel
theorem dX10_water_9 : decode cX10_water 9 = .ok (.aload_n 0, 1) := by decide +kernel
theorem dX10_water_10 : decode cX10_water 10 = .ok (.getfield 19, 3) := by decide +kernel
theorem dX10_water_13 : decode cX10_water 13 = .ok (.iload_n 1, 1) := by decide +kernel
theorem dX10_water_14 : decode cX10_water 14 = .ok (.invokevirtual 157, 3) := by decide +kernel
theorem dX10_water_17 : decode cX10_water 17 = .ok (.ireturn, 1) := by decide +kernel
theorem dX10_depth_0 : decode cX10_depth 0 = .ok (.aload_n 0, 1) := by decide +kernel
theorem dX10_depth_1 : decode cX10_depth 1 = .ok (.iload_n 1, 1) := by decide +kernel
theorem dX10_depth_2 : decode cX10_depth 2 = .ok (.invokevirtual 140, 3) := by decide +kernel
theorem dX10_depth_5 : decode cX10_depth 5 = .ok (.aload_n 0, 1) := by decide +kernel
theorem dX10_depth_6 : decode cX10_depth 6 = .ok (.iload_n 2, 1) := by decide +kernel
theorem dX10_depth_7 : decode cX10_depth 7 = .ok (.iconst 0, 1) := by decide +kernel
theorem dX10_depth_8 : decode cX10_depth 8 = .ok (.sipush 9999, 3) := by decide +kernel
theorem dX10_depth_11 : decode cX10_depth 11 = .ok (.invokevirtual 192, 3) := by decide +kernel
theorem dX10_depth_14 : decode cX10_depth 14 = .ok (.aload_n 0, 1) := by decide +kernel
theorem dX10_depth_15 : decode cX10_depth 15 = .ok (.getfield 19, 3) := by decide +kernel
theorem dX10_depth_18 : decode cX10_depth 18 = .ok (.aload_n 0, 1) := by decide +kernel
theorem dX10_depth_19 : decode cX10_depth 19 = .ok (.getfield 19, 3) := by decide +kernel
theorem dX10_depth_22 : decode cX10_depth 22 = .ok (.iload_n 2, 1) := by decide +kernel
theorem dX10_depth_23 : decode cX10_depth 23 = .ok (.invokevirtual 157, 3) := by decide +kernel
theorem dX10_depth_26 : decode cX10_depth 26 = .ok (.iload_n 1, 1) := by decide +kernel
theorem dX10_depth_27 : decode cX10_depth 27 = .ok (.invokevirtual 199, 3) := by decide +kernel
theorem dX10_depth_30 : decode cX10_depth 30 = .ok (.ireturn, 1) := by decide +kernel
theorem dX10_printed_0 : decode cX10_printed 0 = .ok (.aload_n 0, 1) := by decide +kernel
theorem dX10_printed_1 : decode cX10_printed 1 = .ok (.iload_n 1, 1) := by decide +kernel
theorem dX10_printed_2 : decode cX10_printed 2 = .ok (.iconst 0, 1) := by decide +kernel
theorem dX10_printed_3 : decode cX10_printed 3 = .ok (.bipush 11, 2) := by decide +kernel
theorem dX10_printed_5 : decode cX10_printed 5 = .ok (.invokevirtual 192, 3) := by decide +kernel
theorem dX10_printed_8 : decode cX10_printed 8 = .ok (.aload_n 0, 1) := by decide +kernel
theorem dX10_printed_9 : decode cX10_printed 9 = .ok (.getfield 19, 3) := by decide +kernel
theorem dX10_printed_12 : decode cX10_printed 12 = .ok (.aload_n 0, 1) := by decide +kernel
theorem dX10_printed_13 : decode cX10_printed 13 = .ok (.getfield 19, 3) := by decide +kernel
theorem dX10_printed_16 : decode cX10_printed 16 = .ok (.getfield 202, 3) := by decide +kernel
theorem dX10_printed_19 : decode cX10_printed 19 = .ok (.iload_n 1, 1) := by decide +kernel
theorem dX10_printed_20 : decode cX10_printed 20 = .ok (.invokevirtual 205, 3) := by decide +kernel
theorem dX10_printed_23 : decode cX10_printed 23 = .ok (.ireturn, 1) := by decide +kernel
theorem dX10_goal_0 : decode cX10_goal 0 = .ok (.aload_n 0, 1) := by decide +kernel
theorem dX10_goal_1 : decode cX10_goal 1 = .ok (.iload_n 1, 1) := by decide +kernel
theorem dX10_goal_2 : decode cX10_goal 2 = .ok (.invokevirtual 151, 3) := by decide +kernel
theorem dX10_goal_5 : decode cX10_goal 5 = .ok (.aload_n 0, 1) := by decide +kernel
theorem dX10_goal_6 : decode cX10_goal 6 = .ok (.iload_n 2, 1) := by decide +kernel
theorem dX10_goal_7 : decode cX10_goal 7 = .ok (.invokevirtual 140, 3) := by decide +kernel
theorem dX10_goal_10 : decode cX10_goal 10 = .ok (.aload_n 0, 1) := by decide +kernel
theorem dX10_goal_11 : decode cX10_goal 11 = .ok (.iload_n 1, 1) := by decide +kernel
theorem dX10_goal_12 : decode cX10_goal 12 = .ok (.invokevirtual 208, 3) := by decide +kernel
theorem dX10_goal_15 : decode cX10_goal 15 = .ok (.aload_n 0, 1) := by decide +kernel
theorem dX10_goal_16 : decode cX10_goal 16 = .ok (.getfield 88, 3) := by decide +kernel
theorem dX10_goal_19 : decode cX10_goal 19 = .ok (.aload_n 0, 1) := by decide +kernel
theorem dX10_goal_20 : decode cX10_goal 20 = .ok (.getfield 19, 3) := by decide +kernel
theorem dX10_goal_23 : decode cX10_goal 23 = .ok (.invokevirtual 211, 3) := by decide +kernel
theorem dX10_goal_26 : decode cX10_goal 26 = .ok (.aload_n 0, 1) := by decide +kernel
theorem dX10_goal_27 : decode cX10_goal 27 = .ok (.getfield 19, 3) := by decide +kernel
theorem dX10_goal_30 : decode cX10_goal 30 = .ok (.iload_n 1, 1) := by decide +kernel
theorem dX10_goal_31 : decode cX10_goal 31 = .ok (.iconst 1, 1) := by decide +kernel
theorem dX10_goal_32 : decode cX10_goal 32 = .ok (.invokevirtual 161, 3) := by decide +kernel
theorem dX10_goal_35 : decode cX10_goal 35 = .ok (.istore_n 3, 1) := by decide +kernel
theorem dX10_goal_36 : decode cX10_goal 36 = .ok (.aload_n 0, 1) := by decide +kernel
theorem dX10_goal_37 : decode cX10_goal 37 = .ok (.getfield 19, 3) := by decide +kernel
theorem dX10_goal_40 : decode cX10_goal 40 = .ok (.iload_n 1, 1) := by decide +kernel
theorem dX10_goal_41 : decode cX10_goal 41 = .ok (.iconst 1, 1) := by decide +kernel
theorem dX10_goal_42 : decode cX10_goal 42 = .ok (.iload_n 2, 1) := by decide +kernel
theorem dX10_goal_43 : decode cX10_goal 43 = .ok (.invokevirtual 214, 3) := by decide +kernel
theorem dX10_goal_46 : decode cX10_goal 46 = .ok (.iload_n 3, 1) := by decide +kernel
theorem dX10_goal_47 : decode cX10_goal 47 = .ok (.ireturn, 1) := by decide +kernel
theorem dX10_rest_0 : decode cX10_rest 0 = .ok (.aload_n 0, 1) := by decide +kernel
theorem dX10_rest_1 : decode cX10_rest 1 = .ok (.iload_n 1, 1) := by decide +kernel
theorem dX10_rest_2 : decode cX10_rest 2 = .ok (.invokevirtual 151, 3) := by decide +kernel
theorem dX10_rest_5 : decode cX10_rest 5 = .ok (.aload_n 0, 1) := by decide +kernel
theorem dX10_rest_6 : decode cX10_rest 6 = .ok (.iload_n 1, 1) := by decide +kernel
theorem dX10_rest_7 : decode cX10_rest 7 = .ok (.invokevirtual 208, 3) := by decide +kernel
theorem dX10_rest_10 : decode cX10_rest 10 = .ok (.aload_n 0, 1) := by decide +kernel
theorem dX10_rest_11 : decode cX10_rest 11 = .ok (.getfield 88, 3) := by decide +kernel
theorem dX10_rest_14 : decode cX10_rest 14 = .ok (.aload_n 0, 1) := by decide +kernel
theorem dX10_rest_15 : decode cX10_rest 15 = .ok (.getfield 19, 3) := by decide +kernel
theorem dX10_rest_18 : decode cX10_rest 18 = .ok (.invokevirtual 211, 3) := by decide +kernel
theorem dX10_rest_21 : decode cX10_rest 21 = .ok (.aload_n 0, 1) := by decide +kernel
theorem dX10_rest_22 : decode cX10_rest 22 = .ok (.getfield 19, 3) := by decide +kernel
theorem dX10_rest_25 : decode cX10_rest 25 = .ok (.iload_n 1, 1) := by decide +kernel
theorem dX10_rest_26 : decode cX10_rest 26 = .ok (.iconst 3, 1) := by decide +kernel
theorem dX10_rest_27 : decode cX10_rest 27 = .ok (.invokevirtual 161, 3) := by decide +kernel
theorem dX10_rest_30 : decode cX10_rest 30 = .ok (.istore_n 2, 1) := by decide +kernel
theorem dX10_rest_31 : decode cX10_rest 31 = .ok (.aload_n 0, 1) := by decide +kernel
theorem dX10_rest_32 : decode cX10_rest 32 = .ok (.getfield 19, 3) := by decide +kernel
theorem dX10_rest_35 : decode cX10_rest 35 = .ok (.iload_n 1, 1) := by decide +kernel
theorem dX10_rest_36 : decode cX10_rest 36 = .ok (.iconst 3, 1) := by decide +kernel
theorem dX10_rest_37 : decode cX10_rest 37 = .ok (.iconst 0, 1) := by decide +kernel
theorem dX10_rest_38 : decode cX10_rest 38 = .ok (.invokevirtual 214, 3) := by decide +kernel
theorem dX10_rest_41 : decode cX10_rest 41 = .ok (.iload_n 2, 1) := by decide +kernel
theorem dX10_rest_42 : decode cX10_rest 42 = .ok (.ireturn, 1) := by decide +kernel
theorem dX10_error_0 : decode cX10_error 0 = .ok (.aload_n 0, 1) := by decide +kernel
theorem dX10_error_1 : decode cX10_error 1 = .ok (.iload_n 1, 1) := by decide +kernel
theorem dX10_error_2 : decode cX10_error 2 = .ok (.iconst 0, 1) := by decide +kernel
theorem dX10_error_3 : decode cX10_error 3 = .ok (.bipush 11, 2) := by decide +kernel
theorem dX10_error_5 : decode cX10_error 5 = .ok (.invokevirtual 192, 3) := by decide +kernel
theorem dX10_error_8 : decode cX10_error 8 = .ok (.aload_n 0, 1) := by decide +kernel
theorem dX10_error_9 : decode cX10_error 9 = .ok (.iload_n 2, 1) := by decide +kernel
theorem dX10_error_10 : decode cX10_error 10 = .ok (.invokevirtual 217, 3) := by decide +kernel
theorem dX10_error_13 : decode cX10_error 13 = .ok (.aload_n 0, 1) := by decide +kernel
theorem dX10_error_14 : decode cX10_error 14 = .ok (.getfield 88, 3) := by decide +kernel
theorem dX10_error_17 : decode cX10_error 17 = .ok (.aload_n 0, 1) := by decide +kernel
theorem dX10_error_18 : decode cX10_error 18 = .ok (.getfield 19, 3) := by decide +kernel
theorem dX10_error_21 : decode cX10_error 21 = .ok (.invokevirtual 211, 3) := by decide +kernel
theorem dX10_error_24 : decode cX10_error 24 = .ok (.aload_n 0, 1) := by decide +kernel
theorem dX10_error_25 : decode cX10_error 25 = .ok (.getfield 19, 3) := by decide +kernel
theorem dX10_error_28 : decode cX10_error 28 = .ok (.getfield 220, 3) := by decide +kernel
theorem dX10_error_31 : decode cX10_error 31 = .ok (.iload_n 1, 1) := by decide +kernel
theorem dX10_error_32 : decode cX10_error 32 = .ok (.iload_n 2, 1) := by decide +kernel
theorem dX10_error_33 : decode cX10_error 33 = .ok (.invokestatic 223, 3) := by decide +kernel
theorem dX10_error_36 : decode cX10_error 36 = .ok (.aload_n 0, 1) := by decide +kernel
theorem dX10_error_37 : decode cX10_error 37 = .ok (.getfield 19, 3) := by decide +kernel
theorem dX10_error_40 : decode cX10_error 40 = .ok (.aload_n 0, 1) := by decide +kernel
theorem dX10_error_41 : decode cX10_error 41 = .ok (.getfield 19, 3) := by decide +kernel
theorem dX10_error_44 : decode cX10_error 44 = .ok (.getfield 202, 3) := by decide +kernel
theorem dX10_error_47 : decode cX10_error 47 = .ok (.iload_n 1, 1) := by decide +kernel
theorem dX10_error_48 : decode cX10_error 48 = .ok (.invokevirtual 205, 3) := by decide +kernel
theorem dX10_error_51 : decode cX10_error 51 = .ok (.ireturn, 1) := by decide +kernel
theorem dX10_edition_0 : decode cX10_edition 0 = .ok (.aload_n 0, 1) := by decide +kernel
theorem dX10_edition_1 : decode cX10_edition 1 = .ok (.iload_n 1, 1) := by decide +kernel
theorem dX10_edition_2 : decode cX10_edition 2 = .ok (.invokevirtual 217, 3) := by decide +kernel
theorem dX10_edition_5 : decode cX10_edition 5 = .ok (.aload_n 0, 1) := by decide +kernel
theorem dX10_edition_6 : decode cX10_edition 6 = .ok (.getfield 88, 3) := by decide +kernel
theorem dX10_edition_9 : decode cX10_edition 9 = .ok (.aload_n 0, 1) := by decide +kernel
theorem dX10_edition_10 : decode cX10_edition 10 = .ok (.getfield 19, 3) := by decide +kernel
theorem dX10_edition_13 : decode cX10_edition 13 = .ok (.invokevirtual 211, 3) := by decide +kernel
theorem dX10_edition_16 : decode cX10_edition 16 = .ok (.aload_n 0, 1) := by decide +kernel
theorem dX10_edition_17 : decode cX10_edition 17 = .ok (.getfield 19, 3) := by decide +kernel
theorem dX10_edition_20 : decode cX10_edition 20 = .ok (.getfield 202, 3) := by decide +kernel
theorem dX10_edition_23 : decode cX10_edition 23 = .ok (.istore_n 2, 1) := by decide +kernel
theorem dX10_edition_24 : decode cX10_edition 24 = .ok (.aload_n 0, 1) := by decide +kernel
theorem dX10_edition_25 : decode cX10_edition 25 = .ok (.getfield 19, 3) := by decide +kernel
theorem dX10_edition_28 : decode cX10_edition 28 = .ok (.iload_n 1, 1) := by decide +kernel
theorem dX10_edition_29 : decode cX10_edition 29 = .ok (.putfield 202, 3) := by decide +kernel
theorem dX10_edition_32 : decode cX10_edition 32 = .ok (.iload_n 2, 1) := by decide +kernel
theorem dX10_edition_33 : decode cX10_edition 33 = .ok (.ireturn, 1) := by decide +kernel
theorem dX10_wind_0 : decode cX10_wind 0 = .ok (.aload_n 0, 1) := by decide +kernel
theorem dX10_wind_1 : decode cX10_wind 1 = .ok (.iload_n 1, 1) := by decide +kernel
theorem dX10_wind_2 : decode cX10_wind 2 = .ok (.bipush (-5), 2) := by decide +kernel
theorem dX10_wind_4 : decode cX10_wind 4 = .ok (.iconst 5, 1) := by decide +kernel
theorem dX10_wind_5 : decode cX10_wind 5 = .ok (.invokevirtual 192, 3) := by decide +kernel
theorem dX10_wind_8 : decode cX10_wind 8 = .ok (.aload_n 0, 1) := by decide +kernel
theorem dX10_wind_9 : decode cX10_wind 9 = .ok (.getfield 88, 3) := by decide +kernel
theorem dX10_wind_12 : decode cX10_wind 12 = .ok (.aload_n 0, 1) := by decide +kernel
theorem dX10_wind_13 : decode cX10_wind 13 = .ok (.getfield 19, 3) := by decide +kernel
theorem dX10_wind_16 : decode cX10_wind 16 = .ok (.invokevirtual 211, 3) := by decide +kernel
theorem dX10_wind_19 : decode cX10_wind 19 = .ok (.aload_n 0, 1) := by decide +kernel
theorem dX10_wind_20 : decode cX10_wind 20 = .ok (.getfield 19, 3) := by decide +kernel
theorem dX10_wind_23 : decode cX10_wind 23 = .ok (.getfield 227, 3) := by decide +kernel
theorem dX10_wind_26 : decode cX10_wind 26 = .ok (.istore_n 2, 1) := by decide +kernel
theorem dX10_wind_27 : decode cX10_wind 27 = .ok (.aload_n 0, 1) := by decide +kernel
theorem dX10_wind_28 : decode cX10_wind 28 = .ok (.getfield 19, 3) := by decide +kernel
theorem dX10_wind_31 : decode cX10_wind 31 = .ok (.iload_n 1, 1) := by decide +kernel
theorem dX10_wind_32 : decode cX10_wind 32 = .ok (.putfield 227, 3) := by decide +kernel
theorem dX10_wind_35 : decode cX10_wind 35 = .ok (.iload_n 2, 1) := by decide +kernel
theorem dX10_wind_36 : decode cX10_wind 36 = .ok (.ireturn, 1) := by decide +kernel
theorem dX10_anew_0 : decode cX10_anew 0 = .ok (.aload_n 0, 1) := by decide +kernel
theorem dX10_anew_1 : decode cX10_anew 1 = .ok (.iload_n 1, 1) := by decide +kernel
theorem dX10_anew_2 : decode cX10_anew 2 = .ok (.invokevirtual 183, 3) := by decide +kernel
theorem dX10_anew_5 : decode cX10_anew 5 = .ok (.aload_n 0, 1) := by decide +kernel
theorem dX10_anew_6 : decode cX10_anew 6 = .ok (.getfield 88, 3) := by decide +kernel
theorem dX10_anew_9 : decode cX10_anew 9 = .ok (.aload_n 0, 1) := by decide +kernel
theorem dX10_anew_10 : decode cX10_anew 10 = .ok (.getfield 19, 3) := by decide +kernel
theorem dX10_anew_13 : decode cX10_anew 13 = .ok (.invokevirtual 211, 3) := by decide +kernel
theorem dX10_anew_16 : decode cX10_anew 16 = .ok (.aload_n 0, 1) := by decide +kernel
theorem dX10_anew_17 : decode cX10_anew 17 = .ok (.getfield 19, 3) := by decide +kernel
theorem dX10_anew_20 : decode cX10_anew 20 = .ok (.iload_n 1, 1) := by decide +kernel
theorem dX10_anew_21 : decode cX10_anew 21 = .ok (.invokevirtual 189, 3) := by decide +kernel
theorem dX10_anew_24 : decode cX10_anew 24 = .ok (.istore_n 2, 1) := by decide +kernel
theorem dX10_anew_25 : decode cX10_anew 25 = .ok (.aload_n 0, 1) := by decide +kernel
theorem dX10_anew_26 : decode cX10_anew 26 = .ok (.getfield 19, 3) := by decide +kernel
theorem dX10_anew_29 : decode cX10_anew 29 = .ok (.dup, 1) := by decide +kernel
theorem dX10_anew_30 : decode cX10_anew 30 = .ok (.getfield 230, 3) := by decide +kernel
theorem dX10_anew_33 : decode cX10_anew 33 = .ok (.iconst 1, 1) := by decide +kernel
theorem dX10_anew_34 : decode cX10_anew 34 = .ok (.iload_n 1, 1) := by decide +kernel
theorem dX10_anew_35 : decode cX10_anew 35 = .ok (.ishl, 1) := by decide +kernel
theorem dX10_anew_36 : decode cX10_anew 36 = .ok (.iconst (-1), 1) := by decide +kernel
theorem dX10_anew_37 : decode cX10_anew 37 = .ok (.ixor, 1) := by decide +kernel
theorem dX10_anew_38 : decode cX10_anew 38 = .ok (.iand, 1) := by decide +kernel
theorem dX10_anew_39 : decode cX10_anew 39 = .ok (.putfield 230, 3) := by decide +kernel
theorem dX10_anew_42 : decode cX10_anew 42 = .ok (.iload_n 2, 1) := by decide +kernel
theorem dX10_anew_43 : decode cX10_anew 43 = .ok (.ireturn, 1) := by decide +kernel
theorem dX10_hours_0 : decode cX10_hours 0 = .ok (.aload_n 0, 1) := by decide +kernel
theorem dX10_hours_1 : decode cX10_hours 1 = .ok (.iload_n 1, 1) := by decide +kernel
theorem dX10_hours_2 : decode cX10_hours 2 = .ok (.iconst 1, 1) := by decide +kernel
theorem dX10_hours_3 : decode cX10_hours 3 = .ok (.bipush 100, 2) := by decide +kernel
theorem dX10_hours_5 : decode cX10_hours 5 = .ok (.invokevirtual 192, 3) := by decide +kernel
theorem dX10_hours_8 : decode cX10_hours 8 = .ok (.aload_n 0, 1) := by decide +kernel
theorem dX10_hours_9 : decode cX10_hours 9 = .ok (.getfield 88, 3) := by decide +kernel
theorem dX10_hours_12 : decode cX10_hours 12 = .ok (.aload_n 0, 1) := by decide +kernel
theorem dX10_hours_13 : decode cX10_hours 13 = .ok (.getfield 19, 3) := by decide +kernel
theorem dX10_hours_16 : decode cX10_hours 16 = .ok (.invokevirtual 211, 3) := by decide +kernel
theorem dX10_hours_19 : decode cX10_hours 19 = .ok (.aload_n 0, 1) := by decide +kernel
theorem dX10_hours_20 : decode cX10_hours 20 = .ok (.getfield 19, 3) := by decide +kernel
theorem dX10_hours_23 : decode cX10_hours 23 = .ok (.aload_n 0, 1) := by decide +kernel
theorem dX10_hours_24 : decode cX10_hours 24 = .ok (.getfield 32, 3) := by decide +kernel
theorem dX10_hours_27 : decode cX10_hours 27 = .ok (.iload_n 1, 1) := by decide +kernel
theorem dX10_hours_28 : decode cX10_hours 28 = .ok (.iconst 1, 1) := by decide +kernel
theorem dX10_hours_29 : decode cX10_hours 29 = .ok (.invokestatic 233, 3) := by decide +kernel
theorem dX10_hours_32 : decode cX10_hours 32 = .ok (.ireturn, 1) := by decide +kernel
theorem dX10_high_0 : decode cX10_high 0 = .ok (.aload_n 0, 1) := by decide +kernel
theorem dX10_high_1 : decode cX10_high 1 = .ok (.iload_n 1, 1) := by decide +kernel
theorem dX10_high_2 : decode cX10_high 2 = .ok (.iconst 0, 1) := by decide +kernel
theorem dX10_high_3 : decode cX10_high 3 = .ok (.sipush 9999, 3) := by decide +kernel
theorem dX10_high_6 : decode cX10_high 6 = .ok (.invokevirtual 192, 3) := by decide +kernel
theorem dX10_high_9 : decode cX10_high 9 = .ok (.aload_n 0, 1) := by decide +kernel
theorem dX10_high_10 : decode cX10_high 10 = .ok (.getfield 19, 3) := by decide +kernel
theorem dX10_high_13 : decode cX10_high 13 = .ok (.iload_n 1, 1) := by decide +kernel
theorem dX10_high_14 : decode cX10_high 14 = .ok (.invokevirtual 239, 3) := by decide +kernel
theorem dX10_high_17 : decode cX10_high 17 = .ok (.istore_n 2, 1) := by decide +kernel
theorem dX10_high_18 : decode cX10_high 18 = .ok (.iload_n 2, 1) := by decide +kernel
theorem dX10_high_19 : decode cX10_high 19 = .ok (.ifCond .ne 7, 3) := by decide +kernel
theorem dX10_high_22 : decode cX10_high 22 = .ok (.iload_n 1, 1) := by decide +kernel
theorem dX10_high_23 : decode cX10_high 23 = .ok (.goto 14, 3) := by decide +kernel
theorem dX10_high_26 : decode cX10_high 26 = .ok (.iload_n 1, 1) := by decide +kernel
theorem dX10_high_27 : decode cX10_high 27 = .ok (.iload_n 2, 1) := by decide +kernel
theorem dX10_high_28 : decode cX10_high 28 = .ok (.isub, 1) := by decide +kernel
theorem dX10_high_29 : decode cX10_high 29 = .ok (.aload_n 0, 1) := by decide +kernel
theorem dX10_high_30 : decode cX10_high 30 = .ok (.getfield 19, 3) := by decide +kernel
theorem dX10_high_33 : decode cX10_high 33 = .ok (.getfield 242, 3) := by decide +kernel
theorem dX10_high_36 : decode cX10_high 36 = .ok (.iadd, 1) := by decide +kernel
theorem dX10_high_37 : decode cX10_high 37 = .ok (.ireturn, 1) := by decide +kernel
theorem dX10_low_0 : decode cX10_low 0 = .ok (.aload_n 0, 1) := by decide +kernel
theorem dX10_low_1 : decode cX10_low 1 = .ok (.iload_n 1, 1) := by decide +kernel
theorem dX10_low_2 : decode cX10_low 2 = .ok (.iconst 0, 1) := by decide +kernel
theorem dX10_low_3 : decode cX10_low 3 = .ok (.sipush 400, 3) := by decide +kernel
theorem dX10_low_6 : decode cX10_low 6 = .ok (.invokevirtual 192, 3) := by decide +kernel
theorem dX10_low_9 : decode cX10_low 9 = .ok (.iload_n 1, 1) := by decide +kernel
theorem dX10_low_10 : decode cX10_low 10 = .ok (.aload_n 0, 1) := by decide +kernel
theorem dX10_low_11 : decode cX10_low 11 = .ok (.getfield 19, 3) := by decide +kernel
theorem dX10_low_14 : decode cX10_low 14 = .ok (.getfield 242, 3) := by decide +kernel
theorem dX10_low_17 : decode cX10_low 17 = .ok (.imul, 1) := by decide +kernel
theorem dX10_low_18 : decode cX10_low 18 = .ok (.istore_n 2, 1) := by decide +kernel
theorem dX10_low_19 : decode cX10_low 19 = .ok (.iconst 1, 1) := by decide +kernel
theorem dX10_low_20 : decode cX10_low 20 = .ok (.istore_n 3, 1) := by decide +kernel
theorem dX10_low_21 : decode cX10_low 21 = .ok (.iload_n 3, 1) := by decide +kernel
theorem dX10_low_22 : decode cX10_low 22 = .ok (.aload_n 0, 1) := by decide +kernel
theorem dX10_low_23 : decode cX10_low 23 = .ok (.getfield 19, 3) := by decide +kernel
theorem dX10_low_26 : decode cX10_low 26 = .ok (.getfield 242, 3) := by decide +kernel
theorem dX10_low_29 : decode cX10_low 29 = .ok (.if_icmp .ge 45, 3) := by decide +kernel
theorem dX10_low_32 : decode cX10_low 32 = .ok (.iload_n 1, 1) := by decide +kernel
theorem dX10_low_33 : decode cX10_low 33 = .ok (.aload_n 0, 1) := by decide +kernel
theorem dX10_low_34 : decode cX10_low 34 = .ok (.getfield 19, 3) := by decide +kernel
theorem dX10_low_37 : decode cX10_low 37 = .ok (.getfield 242, 3) := by decide +kernel
theorem dX10_low_40 : decode cX10_low 40 = .ok (.imul, 1) := by decide +kernel
theorem dX10_low_41 : decode cX10_low 41 = .ok (.iload_n 3, 1) := by decide +kernel
theorem dX10_low_42 : decode cX10_low 42 = .ok (.iadd, 1) := by decide +kernel
theorem dX10_low_43 : decode cX10_low 43 = .ok (.istore 4, 2) := by decide +kernel
theorem dX10_low_45 : decode cX10_low 45 = .ok (.aload_n 0, 1) := by decide +kernel
theorem dX10_low_46 : decode cX10_low 46 = .ok (.getfield 19, 3) := by decide +kernel
theorem dX10_low_49 : decode cX10_low 49 = .ok (.iload 4, 2) := by decide +kernel
theorem dX10_low_51 : decode cX10_low 51 = .ok (.invokevirtual 157, 3) := by decide +kernel
theorem dX10_low_54 : decode cX10_low 54 = .ok (.aload_n 0, 1) := by decide +kernel
theorem dX10_low_55 : decode cX10_low 55 = .ok (.getfield 19, 3) := by decide +kernel
theorem dX10_low_58 : decode cX10_low 58 = .ok (.iload_n 2, 1) := by decide +kernel
theorem dX10_low_59 : decode cX10_low 59 = .ok (.invokevirtual 157, 3) := by decide +kernel
theorem dX10_low_62 : decode cX10_low 62 = .ok (.if_icmp .ge 6, 3) := by decide +kernel
theorem dX10_low_65 : decode cX10_low 65 = .ok (.iload 4, 2) := by decide +kernel
theorem dX10_low_67 : decode cX10_low 67 = .ok (.istore_n 2, 1) := by decide +kernel
theorem dX10_low_68 : decode cX10_low 68 = .ok (.iinc 3 1, 3) := by decide +kernel
theorem dX10_low_71 : decode cX10_low 71 = .ok (.goto (-50), 3) := by decide +kernel
theorem dX10_low_74 : decode cX10_low 74 = .ok (.iload_n 2, 1) := by decide +kernel
theorem dX10_low_75 : decode cX10_low 75 = .ok (.ireturn, 1) := by decide +kernel
theorem dX10_dry_0 : decode cX10_dry 0 = .ok (.aload_n 0, 1) := by decide +kernel
theorem dX10_dry_1 : decode cX10_dry 1 = .ok (.iload_n 1, 1) := by decide +kernel
theorem dX10_dry_2 : decode cX10_dry 2 = .ok (.invokevirtual 140, 3) := by decide +kernel
theorem dX10_dry_5 : decode cX10_dry 5 = .ok (.aload_n 0, 1) := by decide +kernel
theorem dX10_dry_6 : decode cX10_dry 6 = .ok (.iload_n 2, 1) := by decide +kernel
theorem dX10_dry_7 : decode cX10_dry 7 = .ok (.iconst 0, 1) := by decide +kernel
theorem dX10_dry_8 : decode cX10_dry 8 = .ok (.sipush 400, 3) := by decide +kernel
theorem dX10_dry_11 : decode cX10_dry 11 = .ok (.invokevirtual 192, 3) := by decide +kernel
theorem dX10_dry_14 : decode cX10_dry 14 = .ok (.aload_n 0, 1) := by decide +kernel
theorem dX10_dry_15 : decode cX10_dry 15 = .ok (.iconst 1, 1) := by decide +kernel
theorem dX10_dry_16 : decode cX10_dry 16 = .ok (.iload_n 1, 1) := by decide +kernel
theorem dX10_dry_17 : decode cX10_dry 17 = .ok (.ishl, 1) := by decide +kernel
theorem dX10_dry_18 : decode cX10_dry 18 = .ok (.iconst 0, 1) := by decide +kernel
theorem dX10_dry_19 : decode cX10_dry 19 = .ok (.iload_n 2, 1) := by decide +kernel
theorem dX10_dry_20 : decode cX10_dry 20 = .ok (.invokevirtual 245, 3) := by decide +kernel
theorem dX10_dry_23 : decode cX10_dry 23 = .ok (.ireturn, 1) := by decide +kernel
theorem dX10_highest_0 : decode cX10_highest 0 = .ok (.aload_n 0, 1) := by decide +kernel
theorem dX10_highest_1 : decode cX10_highest 1 = .ok (.iload_n 1, 1) := by decide +kernel
theorem dX10_highest_2 : decode cX10_highest 2 = .ok (.iconst 0, 1) := by decide +kernel
theorem dX10_highest_3 : decode cX10_highest 3 = .ok (.sipush 400, 3) := by decide +kernel
theorem dX10_highest_6 : decode cX10_highest 6 = .ok (.invokevirtual 192, 3) := by decide +kernel
theorem dX10_highest_9 : decode cX10_highest 9 = .ok (.iload_n 1, 1) := by decide +kernel
theorem dX10_highest_10 : decode cX10_highest 10 = .ok (.istore_n 2, 1) := by decide +kernel
theorem dX10_highest_11 : decode cX10_highest 11 = .ok (.iconst 1, 1) := by decide +kernel
theorem dX10_highest_12 : decode cX10_highest 12 = .ok (.istore_n 3, 1) := by decide +kernel
theorem dX10_highest_13 : decode cX10_highest 13 = .ok (.iload_n 3, 1) := by decide +kernel
theorem dX10_highest_14 : decode cX10_highest 14 = .ok (.aload_n 0, 1) := by decide +kernel
theorem dX10_highest_15 : decode cX10_highest 15 = .ok (.getfield 19, 3) := by decide +kernel
theorem dX10_highest_18 : decode cX10_highest 18 = .ok (.getfield 249, 3) := by decide +kernel
theorem dX10_highest_21 : decode cX10_highest 21 = .ok (.if_icmp .ge 34, 3) := by decide +kernel
theorem dX10_highest_24 : decode cX10_highest 24 = .ok (.aload_n 0, 1) := by decide +kernel
theorem dX10_highest_25 : decode cX10_highest 25 = .ok (.getfield 19, 3) := by decide +kernel
theorem dX10_highest_28 : decode cX10_highest 28 = .ok (.iload_n 1, 1) := by decide +kernel
theorem dX10_highest_29 : decode cX10_highest 29 = .ok (.iload_n 3, 1) := by decide +kernel
theorem dX10_highest_30 : decode cX10_highest 30 = .ok (.iadd, 1) := by decide +kernel
theorem dX10_highest_31 : decode cX10_highest 31 = .ok (.invokevirtual 196, 3) := by decide +kernel
theorem dX10_highest_34 : decode cX10_highest 34 = .ok (.aload_n 0, 1) := by decide +kernel
theorem dX10_highest_35 : decode cX10_highest 35 = .ok (.getfield 19, 3) := by decide +kernel
theorem dX10_highest_38 : decode cX10_highest 38 = .ok (.iload_n 2, 1) := by decide +kernel
theorem dX10_highest_39 : decode cX10_highest 39 = .ok (.invokevirtual 196, 3) := by decide +kernel
theorem dX10_highest_42 : decode cX10_highest 42 = .ok (.if_icmp .le 7, 3) := by decide +kernel
theorem dX10_highest_45 : decode cX10_highest 45 = .ok (.iload_n 1, 1) := by decide +kernel
theorem dX10_highest_46 : decode cX10_highest 46 = .ok (.iload_n 3, 1) := by decide +kernel
theorem dX10_highest_47 : decode cX10_highest 47 = .ok (.iadd, 1) := by decide +kernel
theorem dX10_highest_48 : decode cX10_highest 48 = .ok (.istore_n 2, 1) := by decide +kernel
theorem dX10_highest_49 : decode cX10_highest 49 = .ok (.iinc 3 1, 3) := by decide +kernel
theorem dX10_highest_52 : decode cX10_highest 52 = .ok (.goto (-39), 3) := by decide +kernel
theorem dX10_highest_55 : decode cX10_highest 55 = .ok (.iload_n 2, 1) := by decide +kernel
theorem dX10_highest_56 : decode cX10_highest 56 = .ok (.ireturn, 1) := by decide +kernel
theorem dX10_way_0 : decode cX10_way 0 = .ok (.aload_n 0, 1) := by decide +kernel
theorem dX10_way_1 : decode cX10_way 1 = .ok (.iload_n 1, 1) := by decide +kernel
theorem dX10_way_2 : decode cX10_way 2 = .ok (.invokevirtual 140, 3) := by decide +kernel
theorem dX10_way_5 : decode cX10_way 5 = .ok (.aload_n 0, 1) := by decide +kernel
theorem dX10_way_6 : decode cX10_way 6 = .ok (.iload_n 2, 1) := by decide +kernel
theorem dX10_way_7 : decode cX10_way 7 = .ok (.invokevirtual 140, 3) := by decide +kernel
theorem dX10_way_10 : decode cX10_way 10 = .ok (.aload_n 0, 1) := by decide +kernel
theorem dX10_way_11 : decode cX10_way 11 = .ok (.iload_n 3, 1) := by decide +kernel
theorem dX10_way_12 : decode cX10_way 12 = .ok (.iconst 1, 1) := by decide +kernel
theorem dX10_way_13 : decode cX10_way 13 = .ok (.iconst 4, 1) := by decide +kernel
theorem dX10_way_14 : decode cX10_way 14 = .ok (.invokevirtual 192, 3) := by decide +kernel
theorem dX10_way_17 : decode cX10_way 17 = .ok (.aload_n 0, 1) := by decide +kernel
theorem dX10_way_18 : decode cX10_way 18 = .ok (.iload 4, 2) := by decide +kernel
theorem dX10_way_20 : decode cX10_way 20 = .ok (.iconst 0, 1) := by decide +kernel
theorem dX10_way_21 : decode cX10_way 21 = .ok (.bipush 9, 2) := by decide +kernel
theorem dX10_way_23 : decode cX10_way 23 = .ok (.invokevirtual 192, 3) := by decide +kernel
theorem dX10_way_26 : decode cX10_way 26 = .ok (.aload_n 0, 1) := by decide +kernel
theorem dX10_way_27 : decode cX10_way 27 = .ok (.iload 5, 2) := by decide +kernel
theorem dX10_way_29 : decode cX10_way 29 = .ok (.iconst 0, 1) := by decide +kernel
theorem dX10_way_30 : decode cX10_way 30 = .ok (.sipush 9999, 3) := by decide +kernel
theorem dX10_way_33 : decode cX10_way 33 = .ok (.invokevirtual 192, 3) := by decide +kernel
theorem dX10_way_36 : decode cX10_way 36 = .ok (.aload_n 0, 1) := by decide +kernel
theorem dX10_way_37 : decode cX10_way 37 = .ok (.getfield 72, 3) := by decide +kernel
theorem dX10_way_40 : decode cX10_way 40 = .ok (.aload_n 0, 1) := by decide +kernel
theorem dX10_way_41 : decode cX10_way 41 = .ok (.getfield 19, 3) := by decide +kernel
theorem dX10_way_44 : decode cX10_way 44 = .ok (.invokevirtual 252, 3) := by decide +kernel
theorem dX10_way_47 : decode cX10_way 47 = .ok (.aload_n 0, 1) := by decide +kernel
theorem dX10_way_48 : decode cX10_way 48 = .ok (.getfield 72, 3) := by decide +kernel
theorem dX10_way_51 : decode cX10_way 51 = .ok (.aload_n 0, 1) := by decide +kernel
theorem dX10_way_52 : decode cX10_way 52 = .ok (.getfield 19, 3) := by decide +kernel
theorem dX10_way_55 : decode cX10_way 55 = .ok (.iload_n 1, 1) := by decide +kernel
theorem dX10_way_56 : decode cX10_way 56 = .ok (.iload_n 2, 1) := by decide +kernel
theorem dX10_way_57 : decode cX10_way 57 = .ok (.iload_n 3, 1) := by decide +kernel
theorem dX10_way_58 : decode cX10_way 58 = .ok (.iload 4, 2) := by decide +kernel
theorem dX10_way_60 : decode cX10_way 60 = .ok (.iload 5, 2) := by decide +kernel
theorem dX10_way_62 : decode cX10_way 62 = .ok (.invokevirtual 255, 3) := by decide +kernel
theorem dX10_way_65 : decode cX10_way 65 = .ok (.ireturn, 1) := by decide +kernel
theorem dX10_start_0 : decode cX10_start 0 = .ok (.aload_n 0, 1) := by decide +kernel
theorem dX10_start_1 : decode cX10_start 1 = .ok (.iload_n 1, 1) := by decide +kernel
theorem dX10_start_2 : decode cX10_start 2 = .ok (.invokevirtual 140, 3) := by decide +kernel
theorem dX10_start_5 : decode cX10_start 5 = .ok (.aload_n 0, 1) := by decide +kernel
theorem dX10_start_6 : decode cX10_start 6 = .ok (.iload_n 2, 1) := by decide +kernel
theorem dX10_start_7 : decode cX10_start 7 = .ok (.invokevirtual 140, 3) := by decide +kernel
theorem dX10_start_10 : decode cX10_start 10 = .ok (.aload_n 0, 1) := by decide +kernel
theorem dX10_start_11 : decode cX10_start 11 = .ok (.iload_n 3, 1) := by decide +kernel
theorem dX10_start_12 : decode cX10_start 12 = .ok (.iconst 1, 1) := by decide +kernel
theorem dX10_start_13 : decode cX10_start 13 = .ok (.iconst 4, 1) := by decide +kernel
theorem dX10_start_14 : decode cX10_start 14 = .ok (.invokevirtual 192, 3) := by decide +kernel
theorem dX10_start_17 : decode cX10_start 17 = .ok (.aload_n 0, 1) := by decide +kernel
theorem dX10_start_18 : decode cX10_start 18 = .ok (.iload 4, 2) := by decide +kernel
theorem dX10_start_20 : decode cX10_start 20 = .ok (.iconst 0, 1) := by decide +kernel
theorem dX10_start_21 : decode cX10_start 21 = .ok (.bipush 9, 2) := by decide +kernel
theorem dX10_start_23 : decode cX10_start 23 = .ok (.invokevirtual 192, 3) := by decide +kernel
theorem dX10_start_26 : decode cX10_start 26 = .ok (.aload_n 0, 1) := by decide +kernel
theorem dX10_start_27 : decode cX10_start 27 = .ok (.iload 5, 2) := by decide +kernel
theorem dX10_start_29 : decode cX10_start 29 = .ok (.iconst 0, 1) := by decide +kernel
theorem dX10_start_30 : decode cX10_start 30 = .ok (.sipush 400, 3) := by decide +kernel
theorem dX10_start_33 : decode cX10_start 33 = .ok (.invokevirtual 192, 3) := by decide +kernel
theorem dX10_start_36 : decode cX10_start 36 = .ok (.aload_n 0, 1) := by decide +kernel
theorem dX10_start_37 : decode cX10_start 37 = .ok (.getfield 72, 3) := by decide +kernel
theorem dX10_start_40 : decode cX10_start 40 = .ok (.aload_n 0, 1) := by decide +kernel
theorem dX10_start_41 : decode cX10_start 41 = .ok (.getfield 19, 3) := by decide +kernel
theorem dX10_start_44 : decode cX10_start 44 = .ok (.invokevirtual 252, 3) := by decide +kernel
theorem dX10_start_47 : decode cX10_start 47 = .ok (.aload_n 0, 1) := by decide +kernel
theorem dX10_start_48 : decode cX10_start 48 = .ok (.getfield 19, 3) := by decide +kernel
theorem dX10_start_51 : decode cX10_start 51 = .ok (.getfield 242, 3) := by decide +kernel
theorem dX10_start_54 : decode cX10_start 54 = .ok (.iconst 1, 1) := by decide +kernel
theorem dX10_start_55 : decode cX10_start 55 = .ok (.isub, 1) := by decide +kernel
theorem dX10_start_56 : decode cX10_start 56 = .ok (.istore 6, 2) := by decide +kernel
theorem dX10_start_58 : decode cX10_start 58 = .ok (.iload 6, 2) := by decide +kernel
theorem dX10_start_60 : decode cX10_start 60 = .ok (.ifCond .lt 49, 3) := by decide +kernel
theorem dX10_start_63 : decode cX10_start 63 = .ok (.iload 5, 2) := by decide +kernel
theorem dX10_start_65 : decode cX10_start 65 = .ok (.aload_n 0, 1) := by decide +kernel
theorem dX10_start_66 : decode cX10_start 66 = .ok (.getfield 19, 3) := by decide +kernel
theorem dX10_start_69 : decode cX10_start 69 = .ok (.getfield 242, 3) := by decide +kernel
theorem dX10_start_72 : decode cX10_start 72 = .ok (.imul, 1) := by decide +kernel
theorem dX10_start_73 : decode cX10_start 73 = .ok (.iload 6, 2) := by decide +kernel
theorem dX10_start_75 : decode cX10_start 75 = .ok (.iadd, 1) := by decide +kernel
theorem dX10_start_76 : decode cX10_start 76 = .ok (.istore 7, 2) := by decide +kernel
theorem dX10_start_78 : decode cX10_start 78 = .ok (.aload_n 0, 1) := by decide +kernel
theorem dX10_start_79 : decode cX10_start 79 = .ok (.getfield 72, 3) := by decide +kernel
theorem dX10_start_82 : decode cX10_start 82 = .ok (.aload_n 0, 1) := by decide +kernel
theorem dX10_start_83 : decode cX10_start 83 = .ok (.getfield 19, 3) := by decide +kernel
theorem dX10_start_86 : decode cX10_start 86 = .ok (.iload_n 1, 1) := by decide +kernel
theorem dX10_start_87 : decode cX10_start 87 = .ok (.iload_n 2, 1) := by decide +kernel
theorem dX10_start_88 : decode cX10_start 88 = .ok (.iload_n 3, 1) := by decide +kernel
theorem dX10_start_89 : decode cX10_start 89 = .ok (.iload 4, 2) := by decide +kernel
theorem dX10_start_91 : decode cX10_start 91 = .ok (.iload 7, 2) := by decide +kernel
theorem dX10_start_93 : decode cX10_start 93 = .ok (.invokevirtual 255, 3) := by decide +kernel
theorem dX10_start_96 : decode cX10_start 96 = .ok (.iconst (-1), 1) := by decide +kernel
theorem dX10_start_97 : decode cX10_start 97 = .ok (.if_icmp .eq 6, 3) := by decide +kernel
theorem dX10_start_100 : decode cX10_start 100 = .ok (.iload 7, 2) := by decide +kernel
theorem dX10_start_102 : decode cX10_start 102 = .ok (.ireturn, 1) := by decide +kernel
theorem dX10_start_103 : decode cX10_start 103 = .ok (.iinc 6 (-1), 3) := by decide +kernel
theorem dX10_start_106 : decode cX10_start 106 = .ok (.goto (-48), 3) := by decide +kernel
theorem dX10_start_109 : decode cX10_start 109 = .ok (.iconst (-1), 1) := by decide +kernel
theorem dX10_start_110 : decode cX10_start 110 = .ok (.ireturn, 1) := by decide +kernel
theorem dX10_safe_0 : decode cX10_safe 0 = .ok (.aload_n 0, 1) := by decide +kernel
theorem dX10_safe_1 : decode cX10_safe 1 = .ok (.iload_n 1, 1) := by decide +kernel
theorem dX10_safe_2 : decode cX10_safe 2 = .ok (.invokevirtual 140, 3) := by decide +kernel
theorem dX10_safe_5 : decode cX10_safe 5 = .ok (.aload_n 0, 1) := by decide +kernel
theorem dX10_safe_6 : decode cX10_safe 6 = .ok (.iload_n 2, 1) := by decide +kernel
theorem dX10_safe_7 : decode cX10_safe 7 = .ok (.invokevirtual 140, 3) := by decide +kernel
theorem dX10_safe_10 : decode cX10_safe 10 = .ok (.aload_n 0, 1) := by decide +kernel
theorem dX10_safe_11 : decode cX10_safe 11 = .ok (.iload_n 1, 1) := by decide +kernel
theorem dX10_safe_12 : decode cX10_safe 12 = .ok (.iconst 0, 1) := by decide +kernel
theorem dX10_safe_13 : decode cX10_safe 13 = .ok (.iload_n 2, 1) := by decide +kernel
theorem dX10_safe_14 : decode cX10_safe 14 = .ok (.invokevirtual 192, 3) := by decide +kernel
theorem dX10_safe_17 : decode cX10_safe 17 = .ok (.aload_n 0, 1) := by decide +kernel
theorem dX10_safe_18 : decode cX10_safe 18 = .ok (.iload_n 3, 1) := by decide +kernel
theorem dX10_safe_19 : decode cX10_safe 19 = .ok (.iconst 0, 1) := by decide +kernel
theorem dX10_safe_20 : decode cX10_safe 20 = .ok (.bipush 9, 2) := by decide +kernel
theorem dX10_safe_22 : decode cX10_safe 22 = .ok (.invokevirtual 192, 3) := by decide +kernel
theorem dX10_safe_25 : decode cX10_safe 25 = .ok (.aload_n 0, 1) := by decide +kernel
theorem dX10_safe_26 : decode cX10_safe 26 = .ok (.iload 4, 2) := by decide +kernel
theorem dX10_safe_28 : decode cX10_safe 28 = .ok (.iconst 0, 1) := by decide +kernel
theorem dX10_safe_29 : decode cX10_safe 29 = .ok (.sipush 400, 3) := by decide +kernel
theorem dX10_safe_32 : decode cX10_safe 32 = .ok (.invokevirtual 192, 3) := by decide +kernel
theorem dX10_safe_35 : decode cX10_safe 35 = .ok (.iconst 2, 1) := by decide +kernel
theorem dX10_safe_36 : decode cX10_safe 36 = .ok (.iload_n 2, 1) := by decide +kernel
theorem dX10_safe_37 : decode cX10_safe 37 = .ok (.ishl, 1) := by decide +kernel
theorem dX10_safe_38 : decode cX10_safe 38 = .ok (.iconst 1, 1) := by decide +kernel
theorem dX10_safe_39 : decode cX10_safe 39 = .ok (.isub, 1) := by decide +kernel
theorem dX10_safe_40 : decode cX10_safe 40 = .ok (.istore 5, 2) := by decide +kernel
theorem dX10_safe_42 : decode cX10_safe 42 = .ok (.iconst 1, 1) := by decide +kernel
theorem dX10_safe_43 : decode cX10_safe 43 = .ok (.iload_n 1, 1) := by decide +kernel
theorem dX10_safe_44 : decode cX10_safe 44 = .ok (.ishl, 1) := by decide +kernel
theorem dX10_safe_45 : decode cX10_safe 45 = .ok (.iconst 1, 1) := by decide +kernel
theorem dX10_safe_46 : decode cX10_safe 46 = .ok (.isub, 1) := by decide +kernel
theorem dX10_safe_47 : decode cX10_safe 47 = .ok (.istore 6, 2) := by decide +kernel
theorem dX10_safe_49 : decode cX10_safe 49 = .ok (.aload_n 0, 1) := by decide +kernel
theorem dX10_safe_50 : decode cX10_safe 50 = .ok (.iload 5, 2) := by decide +kernel
theorem dX10_safe_52 : decode cX10_safe 52 = .ok (.iload 6, 2) := by decide +kernel
theorem dX10_safe_54 : decode cX10_safe 54 = .ok (.iconst (-1), 1) := by decide +kernel
theorem dX10_safe_55 : decode cX10_safe 55 = .ok (.ixor, 1) := by decide +kernel
theorem dX10_safe_56 : decode cX10_safe 56 = .ok (.iand, 1) := by decide +kernel
theorem dX10_safe_57 : decode cX10_safe 57 = .ok (.iload_n 3, 1) := by decide +kernel
theorem dX10_safe_58 : decode cX10_safe 58 = .ok (.iload 4, 2) := by decide +kernel
theorem dX10_safe_60 : decode cX10_safe 60 = .ok (.invokevirtual 245, 3) := by decide +kernel
theorem dX10_safe_63 : decode cX10_safe 63 = .ok (.ireturn, 1) := by decide +kernel
theorem dX10_fetch_0 : decode cX10_fetch 0 = .ok (.aload_n 0, 1) := by decide +kernel
theorem dX10_fetch_1 : decode cX10_fetch 1 = .ok (.iload_n 1, 1) := by decide +kernel
theorem dX10_fetch_2 : decode cX10_fetch 2 = .ok (.invokevirtual 151, 3) := by decide +kernel
theorem dX10_fetch_5 : decode cX10_fetch 5 = .ok (.aload_n 0, 1) := by decide +kernel
theorem dX10_fetch_6 : decode cX10_fetch 6 = .ok (.getfield 19, 3) := by decide +kernel
theorem dX10_fetch_9 : decode cX10_fetch 9 = .ok (.iload_n 1, 1) := by decide +kernel
theorem dX10_fetch_10 : decode cX10_fetch 10 = .ok (.invokevirtual 165, 3) := by decide +kernel
theorem dX10_fetch_13 : decode cX10_fetch 13 = .ok (.ifCond .eq 5, 3) := by decide +kernel
theorem dX10_fetch_16 : decode cX10_fetch 16 = .ok (.iconst (-1), 1) := by decide +kernel
theorem dX10_fetch_17 : decode cX10_fetch 17 = .ok (.ireturn, 1) := by decide +kernel
theorem dX10_fetch_18 : decode cX10_fetch 18 = .ok (.aload_n 0, 1) := by decide +kernel
theorem dX10_fetch_19 : decode cX10_fetch 19 = .ok (.getfield 72, 3) := by decide +kernel
theorem dX10_fetch_22 : decode cX10_fetch 22 = .ok (.aload_n 0, 1) := by decide +kernel
theorem dX10_fetch_23 : decode cX10_fetch 23 = .ok (.getfield 19, 3) := by decide +kernel
theorem dX10_fetch_26 : decode cX10_fetch 26 = .ok (.invokevirtual 252, 3) := by decide +kernel
theorem dX10_fetch_29 : decode cX10_fetch 29 = .ok (.aload_n 0, 1) := by decide +kernel
theorem dX10_fetch_30 : decode cX10_fetch 30 = .ok (.getfield 19, 3) := by decide +kernel
theorem dX10_fetch_33 : decode cX10_fetch 33 = .ok (.iload_n 1, 1) := by decide +kernel
theorem dX10_fetch_34 : decode cX10_fetch 34 = .ok (.iconst 0, 1) := by decide +kernel
theorem dX10_fetch_35 : decode cX10_fetch 35 = .ok (.invokevirtual 161, 3) := by decide +kernel
theorem dX10_fetch_38 : decode cX10_fetch 38 = .ok (.istore_n 2, 1) := by decide +kernel
theorem dX10_fetch_39 : decode cX10_fetch 39 = .ok (.iconst (-1), 1) := by decide +kernel
theorem dX10_fetch_40 : decode cX10_fetch 40 = .ok (.istore_n 3, 1) := by decide +kernel
theorem dX10_fetch_41 : decode cX10_fetch 41 = .ok (.bipush 61, 2) := by decide +kernel
theorem dX10_fetch_43 : decode cX10_fetch 43 = .ok (.istore 4, 2) := by decide +kernel
theorem dX10_fetch_45 : decode cX10_fetch 45 = .ok (.iconst 0, 1) := by decide +kernel
theorem dX10_fetch_46 : decode cX10_fetch 46 = .ok (.istore 5, 2) := by decide +kernel
theorem dX10_fetch_48 : decode cX10_fetch 48 = .ok (.iload 5, 2) := by decide +kernel
theorem dX10_fetch_50 : decode cX10_fetch 50 = .ok (.aload_n 0, 1) := by decide +kernel
theorem dX10_fetch_51 : decode cX10_fetch 51 = .ok (.getfield 19, 3) := by decide +kernel
theorem dX10_fetch_54 : decode cX10_fetch 54 = .ok (.getfield 259, 3) := by decide +kernel
theorem dX10_fetch_57 : decode cX10_fetch 57 = .ok (.if_icmp .ge 63, 3) := by decide +kernel
theorem dX10_fetch_60 : decode cX10_fetch 60 = .ok (.iload 5, 2) := by decide +kernel
theorem dX10_fetch_62 : decode cX10_fetch 62 = .ok (.iload_n 1, 1) := by decide +kernel
theorem dX10_fetch_63 : decode cX10_fetch 63 = .ok (.if_icmp .eq 51, 3) := by decide +kernel
theorem dX10_fetch_66 : decode cX10_fetch 66 = .ok (.aload_n 0, 1) := by decide +kernel
theorem dX10_fetch_67 : decode cX10_fetch 67 = .ok (.getfield 19, 3) := by decide +kernel
theorem dX10_fetch_70 : decode cX10_fetch 70 = .ok (.iload 5, 2) := by decide +kernel
theorem dX10_fetch_72 : decode cX10_fetch 72 = .ok (.invokevirtual 165, 3) := by decide +kernel
theorem dX10_fetch_75 : decode cX10_fetch 75 = .ok (.ifCond .ne 39, 3) := by decide +kernel
theorem dX10_fetch_78 : decode cX10_fetch 78 = .ok (.aload_n 0, 1) := by decide +kernel
theorem dX10_fetch_79 : decode cX10_fetch 79 = .ok (.getfield 72, 3) := by decide +kernel
theorem dX10_fetch_82 : decode cX10_fetch 82 = .ok (.aload_n 0, 1) := by decide +kernel
theorem dX10_fetch_83 : decode cX10_fetch 83 = .ok (.getfield 19, 3) := by decide +kernel
theorem dX10_fetch_86 : decode cX10_fetch 86 = .ok (.iload 5, 2) := by decide +kernel
theorem dX10_fetch_88 : decode cX10_fetch 88 = .ok (.iload_n 2, 1) := by decide +kernel
theorem dX10_fetch_89 : decode cX10_fetch 89 = .ok (.invokevirtual 262, 3) := by decide +kernel
theorem dX10_fetch_92 : decode cX10_fetch 92 = .ok (.istore 6, 2) := by decide +kernel
theorem dX10_fetch_94 : decode cX10_fetch 94 = .ok (.iload 6, 2) := by decide +kernel
theorem dX10_fetch_96 : decode cX10_fetch 96 = .ok (.iconst (-1), 1) := by decide +kernel
theorem dX10_fetch_97 : decode cX10_fetch 97 = .ok (.if_icmp .eq 17, 3) := by decide +kernel
theorem dX10_fetch_100 : decode cX10_fetch 100 = .ok (.iload 6, 2) := by decide +kernel
theorem dX10_fetch_102 : decode cX10_fetch 102 = .ok (.iload 4, 2) := by decide +kernel
theorem dX10_fetch_104 : decode cX10_fetch 104 = .ok (.if_icmp .ge 10, 3) := by decide +kernel
theorem dX10_fetch_107 : decode cX10_fetch 107 = .ok (.iload 6, 2) := by decide +kernel
theorem dX10_fetch_109 : decode cX10_fetch 109 = .ok (.istore 4, 2) := by decide +kernel
theorem dX10_fetch_111 : decode cX10_fetch 111 = .ok (.iload 5, 2) := by decide +kernel
theorem dX10_fetch_113 : decode cX10_fetch 113 = .ok (.istore_n 3, 1) := by decide +kernel
theorem dX10_fetch_114 : decode cX10_fetch 114 = .ok (.iinc 5 1, 3) := by decide +kernel
theorem dX10_fetch_117 : decode cX10_fetch 117 = .ok (.goto (-69), 3) := by decide +kernel
theorem dX10_fetch_120 : decode cX10_fetch 120 = .ok (.iload_n 3, 1) := by decide +kernel
theorem dX10_fetch_121 : decode cX10_fetch 121 = .ok (.ireturn, 1) := by decide +kernel
theorem dX10_send_0 : decode cX10_send 0 = .ok (.aload_n 0, 1) := by decide +kernel
theorem dX10_send_1 : decode cX10_send 1 = .ok (.getfield 10, 3) := by decide +kernel
theorem dX10_send_4 : decode cX10_send 4 = .ok (.getfield 100, 3) := by decide +kernel
theorem dX10_send_7 : decode cX10_send 7 = .ok (.istore_n 2, 1) := by decide +kernel
theorem dX10_send_8 : decode cX10_send 8 = .ok (.aload_n 0, 1) := by decide +kernel
theorem dX10_send_9 : decode cX10_send 9 = .ok (.getfield 10, 3) := by decide +kernel
theorem dX10_send_12 : decode cX10_send 12 = .ok (.iconst 0, 1) := by decide +kernel
theorem dX10_send_13 : decode cX10_send 13 = .ok (.putfield 100, 3) := by decide +kernel
theorem dX10_send_16 : decode cX10_send 16 = .ok (.iload_n 1, 1) := by decide +kernel
theorem dX10_send_17 : decode cX10_send 17 = .ok (.iconst (-1), 1) := by decide +kernel
theorem dX10_send_18 : decode cX10_send 18 = .ok (.if_icmp .eq 8, 3) := by decide +kernel
theorem dX10_send_21 : decode cX10_send 21 = .ok (.aload_n 0, 1) := by decide +kernel
theorem dX10_send_22 : decode cX10_send 22 = .ok (.iload_n 1, 1) := by decide +kernel
theorem dX10_send_23 : decode cX10_send 23 = .ok (.invokevirtual 151, 3) := by decide +kernel
theorem dX10_send_26 : decode cX10_send 26 = .ok (.iload_n 2, 1) := by decide +kernel
theorem dX10_send_27 : decode cX10_send 27 = .ok (.aload_n 0, 1) := by decide +kernel
theorem dX10_send_28 : decode cX10_send 28 = .ok (.getfield 19, 3) := by decide +kernel
theorem dX10_send_31 : decode cX10_send 31 = .ok (.invokevirtual 265, 3) := by decide +kernel
theorem dX10_send_34 : decode cX10_send 34 = .ok (.if_icmp .eq 11, 3) := by decide +kernel
theorem dX10_send_37 : decode cX10_send 37 = .ok (.new 115, 3) := by decide +kernel
theorem dX10_send_40 : decode cX10_send 40 = .ok (.dup, 1) := by decide +kernel
theorem dX10_send_41 : decode cX10_send 41 = .ok (.invokespecial 117, 3) := by decide +kernel
theorem dX10_send_44 : decode cX10_send 44 = .ok (.athrow, 1) := by decide +kernel
theorem dX10_send_45 : decode cX10_send 45 = .ok (.iconst 0, 1) := by decide +kernel
theorem dX10_send_46 : decode cX10_send 46 = .ok (.istore_n 3, 1) := by decide +kernel
theorem dX10_send_47 : decode cX10_send 47 = .ok (.iload_n 3, 1) := by decide +kernel
theorem dX10_send_48 : decode cX10_send 48 = .ok (.iload_n 2, 1) := by decide +kernel
theorem dX10_send_49 : decode cX10_send 49 = .ok (.if_icmp .ge 27, 3) := by decide +kernel
theorem dX10_send_52 : decode cX10_send 52 = .ok (.aload_n 0, 1) := by decide +kernel
theorem dX10_send_53 : decode cX10_send 53 = .ok (.aload_n 0, 1) := by decide +kernel
theorem dX10_send_54 : decode cX10_send 54 = .ok (.getfield 10, 3) := by decide +kernel
theorem dX10_send_57 : decode cX10_send 57 = .ok (.getfield 268, 3) := by decide +kernel
theorem dX10_send_60 : decode cX10_send 60 = .ok (.iload_n 3, 1) := by decide +kernel
theorem dX10_send_61 : decode cX10_send 61 = .ok (.invokestatic 147, 3) := by decide +kernel
theorem dX10_send_64 : decode cX10_send 64 = .ok (.iconst 0, 1) := by decide +kernel
theorem dX10_send_65 : decode cX10_send 65 = .ok (.bipush 11, 2) := by decide +kernel
theorem dX10_send_67 : decode cX10_send 67 = .ok (.invokevirtual 192, 3) := by decide +kernel
theorem dX10_send_70 : decode cX10_send 70 = .ok (.iinc 3 1, 3) := by decide +kernel
theorem dX10_send_73 : decode cX10_send 73 = .ok (.goto (-26), 3) := by decide +kernel
theorem dX10_send_76 : decode cX10_send 76 = .ok (.aload_n 0, 1) := by decide +kernel
theorem dX10_send_77 : decode cX10_send 77 = .ok (.getfield 81, 3) := by decide +kernel
theorem dX10_send_80 : decode cX10_send 80 = .ok (.aload_n 0, 1) := by decide +kernel
theorem dX10_send_81 : decode cX10_send 81 = .ok (.getfield 19, 3) := by decide +kernel
theorem dX10_send_84 : decode cX10_send 84 = .ok (.aload_n 0, 1) := by decide +kernel
theorem dX10_send_85 : decode cX10_send 85 = .ok (.getfield 10, 3) := by decide +kernel
theorem dX10_send_88 : decode cX10_send 88 = .ok (.getfield 268, 3) := by decide +kernel
theorem dX10_send_91 : decode cX10_send 91 = .ok (.iload_n 2, 1) := by decide +kernel
theorem dX10_send_92 : decode cX10_send 92 = .ok (.invokevirtual 271, 3) := by decide +kernel
theorem dX10_send_95 : decode cX10_send 95 = .ok (.istore_n 3, 1) := by decide +kernel
theorem dX10_send_96 : decode cX10_send 96 = .ok (.iload_n 3, 1) := by decide +kernel
theorem dX10_send_97 : decode cX10_send 97 = .ok (.iconst (-1), 1) := by decide +kernel
theorem dX10_send_98 : decode cX10_send 98 = .ok (.if_icmp .eq 8, 3) := by decide +kernel
theorem dX10_send_101 : decode cX10_send 101 = .ok (.iload_n 1, 1) := by decide +kernel
theorem dX10_send_102 : decode cX10_send 102 = .ok (.iconst (-1), 1) := by decide +kernel
theorem dX10_send_103 : decode cX10_send 103 = .ok (.if_icmp .ne 7, 3) := by decide +kernel
theorem dX10_send_106 : decode cX10_send 106 = .ok (.iload_n 3, 1) := by decide +kernel
theorem dX10_send_107 : decode cX10_send 107 = .ok (.goto 11, 3) := by decide +kernel
theorem dX10_send_110 : decode cX10_send 110 = .ok (.aload_n 0, 1) := by decide +kernel
theorem dX10_send_111 : decode cX10_send 111 = .ok (.getfield 81, 3) := by decide +kernel
theorem dX10_send_114 : decode cX10_send 114 = .ok (.iload_n 1, 1) := by decide +kernel
theorem dX10_send_115 : decode cX10_send 115 = .ok (.invokevirtual 275, 3) := by decide +kernel
theorem dX10_send_118 : decode cX10_send 118 = .ok (.ireturn, 1) := by decide +kernel
theorem dX10_most_0 : decode cX10_most 0 = .ok (.aload_n 0, 1) := by decide +kernel
theorem dX10_most_1 : decode cX10_most 1 = .ok (.iload_n 1, 1) := by decide +kernel
theorem dX10_most_2 : decode cX10_most 2 = .ok (.invokevirtual 151, 3) := by decide +kernel
theorem dX10_most_5 : decode cX10_most 5 = .ok (.aload_n 0, 1) := by decide +kernel
theorem dX10_most_6 : decode cX10_most 6 = .ok (.getfield 19, 3) := by decide +kernel
theorem dX10_most_9 : decode cX10_most 9 = .ok (.iload_n 1, 1) := by decide +kernel
theorem dX10_most_10 : decode cX10_most 10 = .ok (.invokevirtual 165, 3) := by decide +kernel
theorem dX10_most_13 : decode cX10_most 13 = .ok (.ifCond .eq 7, 3) := by decide +kernel
theorem dX10_most_16 : decode cX10_most 16 = .ok (.iconst 0, 1) := by decide +kernel
theorem dX10_most_17 : decode cX10_most 17 = .ok (.goto 15, 3) := by decide +kernel
theorem dX10_most_20 : decode cX10_most 20 = .ok (.aload_n 0, 1) := by decide +kernel
theorem dX10_most_21 : decode cX10_most 21 = .ok (.getfield 81, 3) := by decide +kernel
theorem dX10_most_24 : decode cX10_most 24 = .ok (.aload_n 0, 1) := by decide +kernel
theorem dX10_most_25 : decode cX10_most 25 = .ok (.getfield 19, 3) := by decide +kernel
theorem dX10_most_28 : decode cX10_most 28 = .ok (.iload_n 1, 1) := by decide +kernel
theorem dX10_most_29 : decode cX10_most 29 = .ok (.invokevirtual 278, 3) := by decide +kernel
theorem dX10_most_32 : decode cX10_most 32 = .ok (.istore_n 3, 1) := by decide +kernel
theorem dX10_most_33 : decode cX10_most 33 = .ok (.iload_n 2, 1) := by decide +kernel
theorem dX10_most_34 : decode cX10_most 34 = .ok (.iconst (-1), 1) := by decide +kernel
theorem dX10_most_35 : decode cX10_most 35 = .ok (.if_icmp .ne 5, 3) := by decide +kernel
theorem dX10_most_38 : decode cX10_most 38 = .ok (.iload_n 3, 1) := by decide +kernel
theorem dX10_most_39 : decode cX10_most 39 = .ok (.ireturn, 1) := by decide +kernel
theorem dX10_most_40 : decode cX10_most 40 = .ok (.iload_n 2, 1) := by decide +kernel
theorem dX10_most_41 : decode cX10_most 41 = .ok (.ifCond .lt 19, 3) := by decide +kernel
theorem dX10_most_44 : decode cX10_most 44 = .ok (.iload_n 2, 1) := by decide +kernel
theorem dX10_most_45 : decode cX10_most 45 = .ok (.iload_n 3, 1) := by decide +kernel
theorem dX10_most_46 : decode cX10_most 46 = .ok (.if_icmp .ge 14, 3) := by decide +kernel
theorem dX10_most_49 : decode cX10_most 49 = .ok (.aload_n 0, 1) := by decide +kernel
theorem dX10_most_50 : decode cX10_most 50 = .ok (.getfield 81, 3) := by decide +kernel
theorem dX10_most_53 : decode cX10_most 53 = .ok (.iload_n 2, 1) := by decide +kernel
theorem dX10_most_54 : decode cX10_most 54 = .ok (.invokevirtual 282, 3) := by decide +kernel
theorem dX10_most_57 : decode cX10_most 57 = .ok (.goto 4, 3) := by decide +kernel
theorem dX10_most_60 : decode cX10_most 60 = .ok (.iconst (-1), 1) := by decide +kernel
theorem dX10_most_61 : decode cX10_most 61 = .ok (.ireturn, 1) := by decide +kernel
theorem dX10_came_0 : decode cX10_came 0 = .ok (.aload_n 0, 1) := by decide +kernel
theorem dX10_came_1 : decode cX10_came 1 = .ok (.invokevirtual 285, 3) := by decide +kernel
theorem dX10_came_4 : decode cX10_came 4 = .ok (.istore_n 2, 1) := by decide +kernel
theorem dX10_came_5 : decode cX10_came 5 = .ok (.iconst 0, 1) := by decide +kernel
theorem dX10_came_6 : decode cX10_came 6 = .ok (.istore_n 3, 1) := by decide +kernel
theorem dX10_came_7 : decode cX10_came 7 = .ok (.bipush (-9), 2) := by decide +kernel
theorem dX10_came_9 : decode cX10_came 9 = .ok (.istore 4, 2) := by decide +kernel
theorem dX10_came_11 : decode cX10_came 11 = .ok (.iconst 3, 1) := by decide +kernel
theorem dX10_came_12 : decode cX10_came 12 = .ok (.istore 5, 2) := by decide +kernel
theorem dX10_came_14 : decode cX10_came 14 = .ok (.iload 5, 2) := by decide +kernel
theorem dX10_came_16 : decode cX10_came 16 = .ok (.bipush (-3), 2) := by decide +kernel
theorem dX10_came_18 : decode cX10_came 18 = .ok (.if_icmp .lt 26, 3) := by decide +kernel
theorem dX10_came_21 : decode cX10_came 21 = .ok (.aload_n 0, 1) := by decide +kernel
theorem dX10_came_22 : decode cX10_came 22 = .ok (.iload 5, 2) := by decide +kernel
theorem dX10_came_24 : decode cX10_came 24 = .ok (.iload_n 2, 1) := by decide +kernel
theorem dX10_came_25 : decode cX10_came 25 = .ok (.invokevirtual 288, 3) := by decide +kernel
theorem dX10_came_28 : decode cX10_came 28 = .ok (.ifCond .ne 10, 3) := by decide +kernel
theorem dX10_came_31 : decode cX10_came 31 = .ok (.iinc 3 1, 3) := by decide +kernel
theorem dX10_came_34 : decode cX10_came 34 = .ok (.iload 5, 2) := by decide +kernel
theorem dX10_came_36 : decode cX10_came 36 = .ok (.istore 4, 2) := by decide +kernel
theorem dX10_came_38 : decode cX10_came 38 = .ok (.iinc 5 (-1), 3) := by decide +kernel
theorem dX10_came_41 : decode cX10_came 41 = .ok (.goto (-27), 3) := by decide +kernel
theorem dX10_came_44 : decode cX10_came 44 = .ok (.iload_n 1, 1) := by decide +kernel
theorem dX10_came_45 : decode cX10_came 45 = .ok (.ifCond .eq 8, 3) := by decide +kernel
theorem dX10_came_48 : decode cX10_came 48 = .ok (.iload 4, 2) := by decide +kernel
theorem dX10_came_50 : decode cX10_came 50 = .ok (.goto 4, 3) := by decide +kernel
theorem dX10_came_53 : decode cX10_came 53 = .ok (.iload_n 3, 1) := by decide +kernel
theorem dX10_came_54 : decode cX10_came 54 = .ok (.ireturn, 1) := by decide +kernel
theorem dX10_amends_0 : decode cX10_amends 0 = .ok (.aload_n 0, 1) := by decide +kernel
theorem dX10_amends_1 : decode cX10_amends 1 = .ok (.invokevirtual 285, 3) := by decide +kernel
theorem dX10_amends_4 : decode cX10_amends 4 = .ok (.istore_n 2, 1) := by decide +kernel
theorem dX10_amends_5 : decode cX10_amends 5 = .ok (.bipush (-3), 2) := by decide +kernel
theorem dX10_amends_7 : decode cX10_amends 7 = .ok (.istore_n 3, 1) := by decide +kernel
theorem dX10_amends_8 : decode cX10_amends 8 = .ok (.aload_n 0, 1) := by decide +kernel
theorem dX10_amends_9 : decode cX10_amends 9 = .ok (.iload_n 3, 1) := by decide +kernel
theorem dX10_amends_10 : decode cX10_amends 10 = .ok (.iload_n 2, 1) := by decide +kernel
theorem dX10_amends_11 : decode cX10_amends 11 = .ok (.invokevirtual 288, 3) := by decide +kernel
theorem dX10_amends_14 : decode cX10_amends 14 = .ok (.istore 4, 2) := by decide +kernel
theorem dX10_amends_16 : decode cX10_amends 16 = .ok (.iload_n 3, 1) := by decide +kernel
theorem dX10_amends_17 : decode cX10_amends 17 = .ok (.iconst 1, 1) := by decide +kernel
theorem dX10_amends_18 : decode cX10_amends 18 = .ok (.iadd, 1) := by decide +kernel
theorem dX10_amends_19 : decode cX10_amends 19 = .ok (.istore 5, 2) := by decide +kernel
theorem dX10_amends_21 : decode cX10_amends 21 = .ok (.iload 5, 2) := by decide +kernel
theorem dX10_amends_23 : decode cX10_amends 23 = .ok (.iconst 3, 1) := by decide +kernel
theorem dX10_amends_24 : decode cX10_amends 24 = .ok (.if_icmp .gt 32, 3) := by decide +kernel
theorem dX10_amends_27 : decode cX10_amends 27 = .ok (.aload_n 0, 1) := by decide +kernel
theorem dX10_amends_28 : decode cX10_amends 28 = .ok (.iload 5, 2) := by decide +kernel
theorem dX10_amends_30 : decode cX10_amends 30 = .ok (.iload_n 2, 1) := by decide +kernel
theorem dX10_amends_31 : decode cX10_amends 31 = .ok (.invokevirtual 288, 3) := by decide +kernel
theorem dX10_amends_34 : decode cX10_amends 34 = .ok (.istore 6, 2) := by decide +kernel
theorem dX10_amends_36 : decode cX10_amends 36 = .ok (.iload 6, 2) := by decide +kernel
theorem dX10_amends_38 : decode cX10_amends 38 = .ok (.iload 4, 2) := by decide +kernel
theorem dX10_amends_40 : decode cX10_amends 40 = .ok (.if_icmp .ge 10, 3) := by decide +kernel
theorem dX10_amends_43 : decode cX10_amends 43 = .ok (.iload 6, 2) := by decide +kernel
theorem dX10_amends_45 : decode cX10_amends 45 = .ok (.istore 4, 2) := by decide +kernel
theorem dX10_amends_47 : decode cX10_amends 47 = .ok (.iload 5, 2) := by decide +kernel
theorem dX10_amends_49 : decode cX10_amends 49 = .ok (.istore_n 3, 1) := by decide +kernel
theorem dX10_amends_50 : decode cX10_amends 50 = .ok (.iinc 5 1, 3) := by decide +kernel
theorem dX10_amends_53 : decode cX10_amends 53 = .ok (.goto (-32), 3) := by decide +kernel
theorem dX10_amends_56 : decode cX10_amends 56 = .ok (.iload_n 1, 1) := by decide +kernel
theorem dX10_amends_57 : decode cX10_amends 57 = .ok (.ifCond .eq 7, 3) := by decide +kernel
theorem dX10_amends_60 : decode cX10_amends 60 = .ok (.iload_n 3, 1) := by decide +kernel
theorem dX10_amends_61 : decode cX10_amends 61 = .ok (.goto 5, 3) := by decide +kernel
theorem dX10_amends_64 : decode cX10_amends 64 = .ok (.iload 4, 2) := by decide +kernel
theorem dX10_amends_66 : decode cX10_amends 66 = .ok (.ireturn, 1) := by decide +kernel
theorem dX10_witness_0 : decode cX10_witness 0 = .ok (.aload_n 0, 1) := by decide +kernel
theorem dX10_witness_1 : decode cX10_witness 1 = .ok (.invokevirtual 285, 3) := by decide +kernel
theorem dX10_witness_4 : decode cX10_witness 4 = .ok (.istore_n 1, 1) := by decide +kernel
theorem dX10_witness_5 : decode cX10_witness 5 = .ok (.iconst 0, 1) := by decide +kernel
theorem dX10_witness_6 : decode cX10_witness 6 = .ok (.istore_n 2, 1) := by decide +kernel
theorem dX10_witness_7 : decode cX10_witness 7 = .ok (.iconst 0, 1) := by decide +kernel
theorem dX10_witness_8 : decode cX10_witness 8 = .ok (.istore_n 3, 1) := by decide +kernel
theorem dX10_witness_9 : decode cX10_witness 9 = .ok (.iload_n 3, 1) := by decide +kernel
theorem dX10_witness_10 : decode cX10_witness 10 = .ok (.iload_n 1, 1) := by decide +kernel
theorem dX10_witness_11 : decode cX10_witness 11 = .ok (.if_icmp .ge 25, 3) := by decide +kernel
theorem dX10_witness_14 : decode cX10_witness 14 = .ok (.iload_n 2, 1) := by decide +kernel
theorem dX10_witness_15 : decode cX10_witness 15 = .ok (.iconst 1, 1) := by decide +kernel
theorem dX10_witness_16 : decode cX10_witness 16 = .ok (.aload_n 0, 1) := by decide +kernel
theorem dX10_witness_17 : decode cX10_witness 17 = .ok (.getfield 10, 3) := by decide +kernel
theorem dX10_witness_20 : decode cX10_witness 20 = .ok (.getfield 268, 3) := by decide +kernel
theorem dX10_witness_23 : decode cX10_witness 23 = .ok (.iload_n 3, 1) := by decide +kernel
theorem dX10_witness_24 : decode cX10_witness 24 = .ok (.invokestatic 147, 3) := by decide +kernel
theorem dX10_witness_27 : decode cX10_witness 27 = .ok (.ishl, 1) := by decide +kernel
theorem dX10_witness_28 : decode cX10_witness 28 = .ok (.ior, 1) := by decide +kernel
theorem dX10_witness_29 : decode cX10_witness 29 = .ok (.istore_n 2, 1) := by decide +kernel
theorem dX10_witness_30 : decode cX10_witness 30 = .ok (.iinc 3 2, 3) := by decide +kernel
theorem dX10_witness_33 : decode cX10_witness 33 = .ok (.goto (-24), 3) := by decide +kernel
theorem dX10_witness_36 : decode cX10_witness 36 = .ok (.iconst (-1), 1) := by decide +kernel
theorem dX10_witness_37 : decode cX10_witness 37 = .ok (.istore_n 3, 1) := by decide +kernel
theorem dX10_witness_38 : decode cX10_witness 38 = .ok (.iconst (-1), 1) := by decide +kernel
theorem dX10_witness_39 : decode cX10_witness 39 = .ok (.istore 4, 2) := by decide +kernel
theorem dX10_witness_41 : decode cX10_witness 41 = .ok (.iconst 0, 1) := by decide +kernel
theorem dX10_witness_42 : decode cX10_witness 42 = .ok (.istore 5, 2) := by decide +kernel
theorem dX10_witness_44 : decode cX10_witness 44 = .ok (.iload 5, 2) := by decide +kernel
theorem dX10_witness_46 : decode cX10_witness 46 = .ok (.bipush 12, 2) := by decide +kernel
theorem dX10_witness_48 : decode cX10_witness 48 = .ok (.if_icmp .ge 49, 3) := by decide +kernel
theorem dX10_witness_51 : decode cX10_witness 51 = .ok (.aload_n 0, 1) := by decide +kernel
theorem dX10_witness_52 : decode cX10_witness 52 = .ok (.getfield 19, 3) := by decide +kernel
theorem dX10_witness_55 : decode cX10_witness 55 = .ok (.getfield 220, 3) := by decide +kernel
theorem dX10_witness_58 : decode cX10_witness 58 = .ok (.iload 5, 2) := by decide +kernel
theorem dX10_witness_60 : decode cX10_witness 60 = .ok (.invokestatic 147, 3) := by decide +kernel
theorem dX10_witness_63 : decode cX10_witness 63 = .ok (.invokestatic 291, 3) := by decide +kernel
theorem dX10_witness_66 : decode cX10_witness 66 = .ok (.istore 6, 2) := by decide +kernel
theorem dX10_witness_68 : decode cX10_witness 68 = .ok (.iload_n 2, 1) := by decide +kernel
theorem dX10_witness_69 : decode cX10_witness 69 = .ok (.iload 5, 2) := by decide +kernel
theorem dX10_witness_71 : decode cX10_witness 71 = .ok (.invokestatic 296, 3) := by decide +kernel
theorem dX10_witness_74 : decode cX10_witness 74 = .ok (.ifCond .ne 17, 3) := by decide +kernel
theorem dX10_witness_77 : decode cX10_witness 77 = .ok (.iload 6, 2) := by decide +kernel
theorem dX10_witness_79 : decode cX10_witness 79 = .ok (.iload 4, 2) := by decide +kernel
theorem dX10_witness_81 : decode cX10_witness 81 = .ok (.if_icmp .le 10, 3) := by decide +kernel
theorem dX10_witness_84 : decode cX10_witness 84 = .ok (.iload 6, 2) := by decide +kernel
theorem dX10_witness_86 : decode cX10_witness 86 = .ok (.istore 4, 2) := by decide +kernel
theorem dX10_witness_88 : decode cX10_witness 88 = .ok (.iload 5, 2) := by decide +kernel
theorem dX10_witness_90 : decode cX10_witness 90 = .ok (.istore_n 3, 1) := by decide +kernel
theorem dX10_witness_91 : decode cX10_witness 91 = .ok (.iinc 5 1, 3) := by decide +kernel
theorem dX10_witness_94 : decode cX10_witness 94 = .ok (.goto (-50), 3) := by decide +kernel
theorem dX10_witness_97 : decode cX10_witness 97 = .ok (.iload_n 3, 1) := by decide +kernel
theorem dX10_witness_98 : decode cX10_witness 98 = .ok (.ireturn, 1) := by decide +kernel
theorem dX10_clash_0 : decode cX10_clash 0 = .ok (.aload_n 0, 1) := by decide +kernel
theorem dX10_clash_1 : decode cX10_clash 1 = .ok (.iload_n 1, 1) := by decide +kernel
theorem dX10_clash_2 : decode cX10_clash 2 = .ok (.invokevirtual 217, 3) := by decide +kernel
theorem dX10_clash_5 : decode cX10_clash 5 = .ok (.aload_n 0, 1) := by decide +kernel
theorem dX10_clash_6 : decode cX10_clash 6 = .ok (.iload_n 2, 1) := by decide +kernel
theorem dX10_clash_7 : decode cX10_clash 7 = .ok (.invokevirtual 217, 3) := by decide +kernel
theorem dX10_clash_10 : decode cX10_clash 10 = .ok (.iconst 0, 1) := by decide +kernel
theorem dX10_clash_11 : decode cX10_clash 11 = .ok (.istore_n 3, 1) := by decide +kernel
theorem dX10_clash_12 : decode cX10_clash 12 = .ok (.iconst 0, 1) := by decide +kernel
theorem dX10_clash_13 : decode cX10_clash 13 = .ok (.istore 4, 2) := by decide +kernel
theorem dX10_clash_15 : decode cX10_clash 15 = .ok (.iload 4, 2) := by decide +kernel
theorem dX10_clash_17 : decode cX10_clash 17 = .ok (.bipush 12, 2) := by decide +kernel
theorem dX10_clash_19 : decode cX10_clash 19 = .ok (.if_icmp .ge 45, 3) := by decide +kernel
theorem dX10_clash_22 : decode cX10_clash 22 = .ok (.aload_n 0, 1) := by decide +kernel
theorem dX10_clash_23 : decode cX10_clash 23 = .ok (.getfield 19, 3) := by decide +kernel
theorem dX10_clash_26 : decode cX10_clash 26 = .ok (.iload_n 1, 1) := by decide +kernel
theorem dX10_clash_27 : decode cX10_clash 27 = .ok (.iload 4, 2) := by decide +kernel
theorem dX10_clash_29 : decode cX10_clash 29 = .ok (.invokevirtual 205, 3) := by decide +kernel
theorem dX10_clash_32 : decode cX10_clash 32 = .ok (.invokestatic 300, 3) := by decide +kernel
theorem dX10_clash_35 : decode cX10_clash 35 = .ok (.aload_n 0, 1) := by decide +kernel
theorem dX10_clash_36 : decode cX10_clash 36 = .ok (.getfield 19, 3) := by decide +kernel
theorem dX10_clash_39 : decode cX10_clash 39 = .ok (.iload_n 2, 1) := by decide +kernel
theorem dX10_clash_40 : decode cX10_clash 40 = .ok (.iload 4, 2) := by decide +kernel
theorem dX10_clash_42 : decode cX10_clash 42 = .ok (.invokevirtual 205, 3) := by decide +kernel
theorem dX10_clash_45 : decode cX10_clash 45 = .ok (.invokestatic 300, 3) := by decide +kernel
theorem dX10_clash_48 : decode cX10_clash 48 = .ok (.if_icmp .eq 10, 3) := by decide +kernel
theorem dX10_clash_51 : decode cX10_clash 51 = .ok (.iload_n 3, 1) := by decide +kernel
theorem dX10_clash_52 : decode cX10_clash 52 = .ok (.iconst 1, 1) := by decide +kernel
theorem dX10_clash_53 : decode cX10_clash 53 = .ok (.iload 4, 2) := by decide +kernel
theorem dX10_clash_55 : decode cX10_clash 55 = .ok (.ishl, 1) := by decide +kernel
theorem dX10_clash_56 : decode cX10_clash 56 = .ok (.ior, 1) := by decide +kernel
theorem dX10_clash_57 : decode cX10_clash 57 = .ok (.istore_n 3, 1) := by decide +kernel
theorem dX10_clash_58 : decode cX10_clash 58 = .ok (.iinc 4 1, 3) := by decide +kernel
theorem dX10_clash_61 : decode cX10_clash 61 = .ok (.goto (-46), 3) := by decide +kernel
theorem dX10_clash_64 : decode cX10_clash 64 = .ok (.iload_n 3, 1) := by decide +kernel
theorem dX10_clash_65 : decode cX10_clash 65 = .ok (.ireturn, 1) := by decide +kernel
theorem dX10_blank_0 : decode cX10_blank 0 = .ok (.iconst 1, 1) := by decide +kernel
theorem dX10_blank_1 : decode cX10_blank 1 = .ok (.istore_n 1, 1) := by decide +kernel
theorem dX10_blank_2 : decode cX10_blank 2 = .ok (.iload_n 1, 1) := by decide +kernel
theorem dX10_blank_3 : decode cX10_blank 3 = .ok (.bipush 12, 2) := by decide +kernel
theorem dX10_blank_5 : decode cX10_blank 5 = .ok (.if_icmp .ge 46, 3) := by decide +kernel
theorem dX10_blank_8 : decode cX10_blank 8 = .ok (.aload_n 0, 1) := by decide +kernel
theorem dX10_blank_9 : decode cX10_blank 9 = .ok (.getfield 19, 3) := by decide +kernel
theorem dX10_blank_12 : decode cX10_blank 12 = .ok (.aload_n 0, 1) := by decide +kernel
theorem dX10_blank_13 : decode cX10_blank 13 = .ok (.getfield 19, 3) := by decide +kernel
theorem dX10_blank_16 : decode cX10_blank 16 = .ok (.getfield 202, 3) := by decide +kernel
theorem dX10_blank_19 : decode cX10_blank 19 = .ok (.iload_n 1, 1) := by decide +kernel
theorem dX10_blank_20 : decode cX10_blank 20 = .ok (.invokevirtual 205, 3) := by decide +kernel
theorem dX10_blank_23 : decode cX10_blank 23 = .ok (.aload_n 0, 1) := by decide +kernel
theorem dX10_blank_24 : decode cX10_blank 24 = .ok (.getfield 19, 3) := by decide +kernel
theorem dX10_blank_27 : decode cX10_blank 27 = .ok (.aload_n 0, 1) := by decide +kernel
theorem dX10_blank_28 : decode cX10_blank 28 = .ok (.getfield 19, 3) := by decide +kernel
theorem dX10_blank_31 : decode cX10_blank 31 = .ok (.getfield 202, 3) := by decide +kernel
theorem dX10_blank_34 : decode cX10_blank 34 = .ok (.iload_n 1, 1) := by decide +kernel
theorem dX10_blank_35 : decode cX10_blank 35 = .ok (.iconst 1, 1) := by decide +kernel
theorem dX10_blank_36 : decode cX10_blank 36 = .ok (.isub, 1) := by decide +kernel
theorem dX10_blank_37 : decode cX10_blank 37 = .ok (.invokevirtual 205, 3) := by decide +kernel
theorem dX10_blank_40 : decode cX10_blank 40 = .ok (.if_icmp .gt 5, 3) := by decide +kernel
theorem dX10_blank_43 : decode cX10_blank 43 = .ok (.iload_n 1, 1) := by decide +kernel
theorem dX10_blank_44 : decode cX10_blank 44 = .ok (.ireturn, 1) := by decide +kernel
theorem dX10_blank_45 : decode cX10_blank 45 = .ok (.iinc 1 1, 3) := by decide +kernel
theorem dX10_blank_48 : decode cX10_blank 48 = .ok (.goto (-46), 3) := by decide +kernel
theorem dX10_blank_51 : decode cX10_blank 51 = .ok (.iconst (-1), 1) := by decide +kernel
theorem dX10_blank_52 : decode cX10_blank 52 = .ok (.ireturn, 1) := by decide +kernel
theorem dX10_neaps_0 : decode cX10_neaps 0 = .ok (.iconst 0, 1) := by decide +kernel
theorem dX10_neaps_1 : decode cX10_neaps 1 = .ok (.istore_n 1, 1) := by decide +kernel
theorem dX10_neaps_2 : decode cX10_neaps 2 = .ok (.iconst 0, 1) := by decide +kernel
theorem dX10_neaps_3 : decode cX10_neaps 3 = .ok (.istore_n 2, 1) := by decide +kernel
theorem dX10_neaps_4 : decode cX10_neaps 4 = .ok (.iload_n 2, 1) := by decide +kernel
theorem dX10_neaps_5 : decode cX10_neaps 5 = .ok (.bipush 12, 2) := by decide +kernel
theorem dX10_neaps_7 : decode cX10_neaps 7 = .ok (.if_icmp .ge 33, 3) := by decide +kernel
theorem dX10_neaps_10 : decode cX10_neaps 10 = .ok (.aload_n 0, 1) := by decide +kernel
theorem dX10_neaps_11 : decode cX10_neaps 11 = .ok (.getfield 19, 3) := by decide +kernel
theorem dX10_neaps_14 : decode cX10_neaps 14 = .ok (.iload_n 2, 1) := by decide +kernel
theorem dX10_neaps_15 : decode cX10_neaps 15 = .ok (.invokevirtual 196, 3) := by decide +kernel
theorem dX10_neaps_18 : decode cX10_neaps 18 = .ok (.aload_n 0, 1) := by decide +kernel
theorem dX10_neaps_19 : decode cX10_neaps 19 = .ok (.getfield 19, 3) := by decide +kernel
theorem dX10_neaps_22 : decode cX10_neaps 22 = .ok (.getfield 303, 3) := by decide +kernel
theorem dX10_neaps_25 : decode cX10_neaps 25 = .ok (.if_icmp .ne 9, 3) := by decide +kernel
theorem dX10_neaps_28 : decode cX10_neaps 28 = .ok (.iload_n 1, 1) := by decide +kernel
theorem dX10_neaps_29 : decode cX10_neaps 29 = .ok (.iconst 1, 1) := by decide +kernel
theorem dX10_neaps_30 : decode cX10_neaps 30 = .ok (.iload_n 2, 1) := by decide +kernel
theorem dX10_neaps_31 : decode cX10_neaps 31 = .ok (.ishl, 1) := by decide +kernel
theorem dX10_neaps_32 : decode cX10_neaps 32 = .ok (.ior, 1) := by decide +kernel
theorem dX10_neaps_33 : decode cX10_neaps 33 = .ok (.istore_n 1, 1) := by decide +kernel
theorem dX10_neaps_34 : decode cX10_neaps 34 = .ok (.iinc 2 1, 3) := by decide +kernel
theorem dX10_neaps_37 : decode cX10_neaps 37 = .ok (.goto (-33), 3) := by decide +kernel
theorem dX10_neaps_40 : decode cX10_neaps 40 = .ok (.iload_n 1, 1) := by decide +kernel
theorem dX10_neaps_41 : decode cX10_neaps 41 = .ok (.ireturn, 1) := by decide +kernel
theorem dX10_stranded_0 : decode cX10_stranded 0 = .ok (.aload_n 0, 1) := by decide +kernel
theorem dX10_stranded_1 : decode cX10_stranded 1 = .ok (.getfield 19, 3) := by decide +kernel
theorem dX10_stranded_4 : decode cX10_stranded 4 = .ok (.aload_n 0, 1) := by decide +kernel
theorem dX10_stranded_5 : decode cX10_stranded 5 = .ok (.getfield 19, 3) := by decide +kernel
theorem dX10_stranded_8 : decode cX10_stranded 8 = .ok (.getfield 154, 3) := by decide +kernel
theorem dX10_stranded_11 : decode cX10_stranded 11 = .ok (.invokevirtual 157, 3) := by decide +kernel
theorem dX10_stranded_14 : decode cX10_stranded 14 = .ok (.istore_n 1, 1) := by decide +kernel
theorem dX10_stranded_15 : decode cX10_stranded 15 = .ok (.iconst 0, 1) := by decide +kernel
theorem dX10_stranded_16 : decode cX10_stranded 16 = .ok (.istore_n 2, 1) := by decide +kernel
theorem dX10_stranded_17 : decode cX10_stranded 17 = .ok (.iconst 0, 1) := by decide +kernel
theorem dX10_stranded_18 : decode cX10_stranded 18 = .ok (.istore_n 3, 1) := by decide +kernel
theorem dX10_stranded_19 : decode cX10_stranded 19 = .ok (.iload_n 3, 1) := by decide +kernel
theorem dX10_stranded_20 : decode cX10_stranded 20 = .ok (.aload_n 0, 1) := by decide +kernel
theorem dX10_stranded_21 : decode cX10_stranded 21 = .ok (.getfield 19, 3) := by decide +kernel
theorem dX10_stranded_24 : decode cX10_stranded 24 = .ok (.getfield 259, 3) := by decide +kernel
theorem dX10_stranded_27 : decode cX10_stranded 27 = .ok (.if_icmp .ge 139, 3) := by decide +kernel
theorem dX10_stranded_30 : decode cX10_stranded 30 = .ok (.aload_n 0, 1) := by decide +kernel
theorem dX10_stranded_31 : decode cX10_stranded 31 = .ok (.getfield 19, 3) := by decide +kernel
theorem dX10_stranded_34 : decode cX10_stranded 34 = .ok (.iload_n 3, 1) := by decide +kernel
theorem dX10_stranded_35 : decode cX10_stranded 35 = .ok (.iconst 0, 1) := by decide +kernel
theorem dX10_stranded_36 : decode cX10_stranded 36 = .ok (.invokevirtual 161, 3) := by decide +kernel
theorem dX10_stranded_39 : decode cX10_stranded 39 = .ok (.istore 4, 2) := by decide +kernel
theorem dX10_stranded_41 : decode cX10_stranded 41 = .ok (.aload_n 0, 1) := by decide +kernel
theorem dX10_stranded_42 : decode cX10_stranded 42 = .ok (.getfield 19, 3) := by decide +kernel
theorem dX10_stranded_45 : decode cX10_stranded 45 = .ok (.iload_n 3, 1) := by decide +kernel
theorem dX10_stranded_46 : decode cX10_stranded 46 = .ok (.invokevirtual 165, 3) := by decide +kernel
theorem dX10_stranded_49 : decode cX10_stranded 49 = .ok (.ifCond .ne 111, 3) := by decide +kernel
theorem dX10_stranded_52 : decode cX10_stranded 52 = .ok (.aload_n 0, 1) := by decide +kernel
theorem dX10_stranded_53 : decode cX10_stranded 53 = .ok (.getfield 19, 3) := by decide +kernel
theorem dX10_stranded_56 : decode cX10_stranded 56 = .ok (.iload_n 1, 1) := by decide +kernel
theorem dX10_stranded_57 : decode cX10_stranded 57 = .ok (.iload 4, 2) := by decide +kernel
theorem dX10_stranded_59 : decode cX10_stranded 59 = .ok (.invokevirtual 199, 3) := by decide +kernel
theorem dX10_stranded_62 : decode cX10_stranded 62 = .ok (.ifCond .ne 98, 3) := by decide +kernel
theorem dX10_stranded_65 : decode cX10_stranded 65 = .ok (.aload_n 0, 1) := by decide +kernel
theorem dX10_stranded_66 : decode cX10_stranded 66 = .ok (.getfield 32, 3) := by decide +kernel
theorem dX10_stranded_69 : decode cX10_stranded 69 = .ok (.aload_n 0, 1) := by decide +kernel
theorem dX10_stranded_70 : decode cX10_stranded 70 = .ok (.getfield 19, 3) := by decide +kernel
theorem dX10_stranded_73 : decode cX10_stranded 73 = .ok (.iload_n 3, 1) := by decide +kernel
theorem dX10_stranded_74 : decode cX10_stranded 74 = .ok (.iload_n 1, 1) := by decide +kernel
theorem dX10_stranded_75 : decode cX10_stranded 75 = .ok (.invokevirtual 169, 3) := by decide +kernel
theorem dX10_stranded_78 : decode cX10_stranded 78 = .ok (.istore 5, 2) := by decide +kernel
theorem dX10_stranded_80 : decode cX10_stranded 80 = .ok (.iload 4, 2) := by decide +kernel
theorem dX10_stranded_82 : decode cX10_stranded 82 = .ok (.ifCond .eq 20, 3) := by decide +kernel
theorem dX10_stranded_85 : decode cX10_stranded 85 = .ok (.aload_n 0, 1) := by decide +kernel
theorem dX10_stranded_86 : decode cX10_stranded 86 = .ok (.getfield 19, 3) := by decide +kernel
theorem dX10_stranded_89 : decode cX10_stranded 89 = .ok (.iload_n 1, 1) := by decide +kernel
theorem dX10_stranded_90 : decode cX10_stranded 90 = .ok (.iload 4, 2) := by decide +kernel
theorem dX10_stranded_92 : decode cX10_stranded 92 = .ok (.iconst 1, 1) := by decide +kernel
theorem dX10_stranded_93 : decode cX10_stranded 93 = .ok (.isub, 1) := by decide +kernel
theorem dX10_stranded_94 : decode cX10_stranded 94 = .ok (.invokevirtual 199, 3) := by decide +kernel
theorem dX10_stranded_97 : decode cX10_stranded 97 = .ok (.iload 5, 2) := by decide +kernel
theorem dX10_stranded_99 : decode cX10_stranded 99 = .ok (.if_icmp .le 7, 3) := by decide +kernel
theorem dX10_stranded_102 : decode cX10_stranded 102 = .ok (.iconst 1, 1) := by decide +kernel
theorem dX10_stranded_103 : decode cX10_stranded 103 = .ok (.goto 4, 3) := by decide +kernel
theorem dX10_stranded_106 : decode cX10_stranded 106 = .ok (.iconst 0, 1) := by decide +kernel
theorem dX10_stranded_107 : decode cX10_stranded 107 = .ok (.istore 6, 2) := by decide +kernel
theorem dX10_stranded_109 : decode cX10_stranded 109 = .ok (.iload 4, 2) := by decide +kernel
theorem dX10_stranded_111 : decode cX10_stranded 111 = .ok (.bipush 11, 2) := by decide +kernel
theorem dX10_stranded_113 : decode cX10_stranded 113 = .ok (.if_icmp .eq 20, 3) := by decide +kernel
theorem dX10_stranded_116 : decode cX10_stranded 116 = .ok (.aload_n 0, 1) := by decide +kernel
theorem dX10_stranded_117 : decode cX10_stranded 117 = .ok (.getfield 19, 3) := by decide +kernel
theorem dX10_stranded_120 : decode cX10_stranded 120 = .ok (.iload_n 1, 1) := by decide +kernel
theorem dX10_stranded_121 : decode cX10_stranded 121 = .ok (.iload 4, 2) := by decide +kernel
theorem dX10_stranded_123 : decode cX10_stranded 123 = .ok (.iconst 1, 1) := by decide +kernel
theorem dX10_stranded_124 : decode cX10_stranded 124 = .ok (.iadd, 1) := by decide +kernel
theorem dX10_stranded_125 : decode cX10_stranded 125 = .ok (.invokevirtual 199, 3) := by decide +kernel
theorem dX10_stranded_128 : decode cX10_stranded 128 = .ok (.iload 5, 2) := by decide +kernel
theorem dX10_stranded_130 : decode cX10_stranded 130 = .ok (.if_icmp .le 7, 3) := by decide +kernel
theorem dX10_stranded_133 : decode cX10_stranded 133 = .ok (.iconst 1, 1) := by decide +kernel
theorem dX10_stranded_134 : decode cX10_stranded 134 = .ok (.goto 4, 3) := by decide +kernel
theorem dX10_stranded_137 : decode cX10_stranded 137 = .ok (.iconst 0, 1) := by decide +kernel
theorem dX10_stranded_138 : decode cX10_stranded 138 = .ok (.istore 7, 2) := by decide +kernel
theorem dX10_stranded_140 : decode cX10_stranded 140 = .ok (.iload_n 2, 1) := by decide +kernel
theorem dX10_stranded_141 : decode cX10_stranded 141 = .ok (.iload 6, 2) := by decide +kernel
theorem dX10_stranded_143 : decode cX10_stranded 143 = .ok (.ifCond .eq 14, 3) := by decide +kernel
theorem dX10_stranded_146 : decode cX10_stranded 146 = .ok (.iload 7, 2) := by decide +kernel
theorem dX10_stranded_148 : decode cX10_stranded 148 = .ok (.ifCond .eq 9, 3) := by decide +kernel
theorem dX10_stranded_151 : decode cX10_stranded 151 = .ok (.iconst 1, 1) := by decide +kernel
theorem dX10_stranded_152 : decode cX10_stranded 152 = .ok (.iload_n 3, 1) := by decide +kernel
theorem dX10_stranded_153 : decode cX10_stranded 153 = .ok (.ishl, 1) := by decide +kernel
theorem dX10_stranded_154 : decode cX10_stranded 154 = .ok (.goto 4, 3) := by decide +kernel
theorem dX10_stranded_157 : decode cX10_stranded 157 = .ok (.iconst 0, 1) := by decide +kernel
theorem dX10_stranded_158 : decode cX10_stranded 158 = .ok (.ior, 1) := by decide +kernel
theorem dX10_stranded_159 : decode cX10_stranded 159 = .ok (.istore_n 2, 1) := by decide +kernel
theorem dX10_stranded_160 : decode cX10_stranded 160 = .ok (.iinc 3 1, 3) := by decide +kernel
theorem dX10_stranded_163 : decode cX10_stranded 163 = .ok (.goto (-144), 3) := by decide +kernel
theorem dX10_stranded_166 : decode cX10_stranded 166 = .ok (.iload_n 2, 1) := by decide +kernel
theorem dX10_stranded_167 : decode cX10_stranded 167 = .ok (.ireturn, 1) := by decide +kernel
theorem dX10_ahead_0 : decode cX10_ahead 0 = .ok (.aload_n 0, 1) := by decide +kernel
theorem dX10_ahead_1 : decode cX10_ahead 1 = .ok (.iload_n 1, 1) := by decide +kernel
theorem dX10_ahead_2 : decode cX10_ahead 2 = .ok (.invokevirtual 151, 3) := by decide +kernel
theorem dX10_ahead_5 : decode cX10_ahead 5 = .ok (.aload_n 0, 1) := by decide +kernel
theorem dX10_ahead_6 : decode cX10_ahead 6 = .ok (.iload_n 2, 1) := by decide +kernel
theorem dX10_ahead_7 : decode cX10_ahead 7 = .ok (.iconst 0, 1) := by decide +kernel
theorem dX10_ahead_8 : decode cX10_ahead 8 = .ok (.bipush 100, 2) := by decide +kernel
theorem dX10_ahead_10 : decode cX10_ahead 10 = .ok (.invokevirtual 192, 3) := by decide +kernel
theorem dX10_ahead_13 : decode cX10_ahead 13 = .ok (.aload_n 0, 1) := by decide +kernel
theorem dX10_ahead_14 : decode cX10_ahead 14 = .ok (.invokevirtual 107, 3) := by decide +kernel
theorem dX10_ahead_17 : decode cX10_ahead 17 = .ok (.astore_n 3, 1) := by decide +kernel
theorem dX10_ahead_18 : decode cX10_ahead 18 = .ok (.aload_n 3, 1) := by decide +kernel
theorem dX10_ahead_19 : decode cX10_ahead 19 = .ok (.aload_n 0, 1) := by decide +kernel
theorem dX10_ahead_20 : decode cX10_ahead 20 = .ok (.getfield 32, 3) := by decide +kernel
theorem dX10_ahead_23 : decode cX10_ahead 23 = .ok (.iload_n 2, 1) := by decide +kernel
theorem dX10_ahead_24 : decode cX10_ahead 24 = .ok (.iconst 0, 1) := by decide +kernel
theorem dX10_ahead_25 : decode cX10_ahead 25 = .ok (.invokestatic 233, 3) := by decide +kernel
theorem dX10_ahead_28 : decode cX10_ahead 28 = .ok (.pop, 1) := by decide +kernel
theorem dX10_ahead_29 : decode cX10_ahead 29 = .ok (.aload_n 3, 1) := by decide +kernel
theorem dX10_ahead_30 : decode cX10_ahead 30 = .ok (.iload_n 1, 1) := by decide +kernel
theorem dX10_ahead_31 : decode cX10_ahead 31 = .ok (.iconst 0, 1) := by decide +kernel
theorem dX10_ahead_32 : decode cX10_ahead 32 = .ok (.invokevirtual 161, 3) := by decide +kernel
theorem dX10_ahead_35 : decode cX10_ahead 35 = .ok (.ireturn, 1) := by decide +kernel
theorem dX10_doomed_0 : decode cX10_doomed 0 = .ok (.aload_n 0, 1) := by decide +kernel
theorem dX10_doomed_1 : decode cX10_doomed 1 = .ok (.iload_n 1, 1) := by decide +kernel
theorem dX10_doomed_2 : decode cX10_doomed 2 = .ok (.iconst 0, 1) := by decide +kernel
theorem dX10_doomed_3 : decode cX10_doomed 3 = .ok (.bipush 100, 2) := by decide +kernel
theorem dX10_doomed_5 : decode cX10_doomed 5 = .ok (.invokevirtual 192, 3) := by decide +kernel
theorem dX10_doomed_8 : decode cX10_doomed 8 = .ok (.aload_n 0, 1) := by decide +kernel
theorem dX10_doomed_9 : decode cX10_doomed 9 = .ok (.invokevirtual 107, 3) := by decide +kernel
theorem dX10_doomed_12 : decode cX10_doomed 12 = .ok (.astore_n 2, 1) := by decide +kernel
theorem dX10_doomed_13 : decode cX10_doomed 13 = .ok (.aload_n 2, 1) := by decide +kernel
theorem dX10_doomed_14 : decode cX10_doomed 14 = .ok (.aload_n 0, 1) := by decide +kernel
theorem dX10_doomed_15 : decode cX10_doomed 15 = .ok (.getfield 32, 3) := by decide +kernel
theorem dX10_doomed_18 : decode cX10_doomed 18 = .ok (.iload_n 1, 1) := by decide +kernel
theorem dX10_doomed_19 : decode cX10_doomed 19 = .ok (.iconst 0, 1) := by decide +kernel
theorem dX10_doomed_20 : decode cX10_doomed 20 = .ok (.invokestatic 233, 3) := by decide +kernel
theorem dX10_doomed_23 : decode cX10_doomed 23 = .ok (.pop, 1) := by decide +kernel
theorem dX10_doomed_24 : decode cX10_doomed 24 = .ok (.aload_n 2, 1) := by decide +kernel
theorem dX10_doomed_25 : decode cX10_doomed 25 = .ok (.getfield 306, 3) := by decide +kernel
theorem dX10_doomed_28 : decode cX10_doomed 28 = .ok (.aload_n 0, 1) := by decide +kernel
theorem dX10_doomed_29 : decode cX10_doomed 29 = .ok (.getfield 19, 3) := by decide +kernel
theorem dX10_doomed_32 : decode cX10_doomed 32 = .ok (.getfield 306, 3) := by decide +kernel
theorem dX10_doomed_35 : decode cX10_doomed 35 = .ok (.iconst (-1), 1) := by decide +kernel
theorem dX10_doomed_36 : decode cX10_doomed 36 = .ok (.ixor, 1) := by decide +kernel
theorem dX10_doomed_37 : decode cX10_doomed 37 = .ok (.iand, 1) := by decide +kernel
theorem dX10_doomed_38 : decode cX10_doomed 38 = .ok (.ireturn, 1) := by decide +kernel
theorem dX10_done_0 : decode cX10_done 0 = .ok (.aload_n 0, 1) := by decide +kernel
theorem dX10_done_1 : decode cX10_done 1 = .ok (.iload_n 1, 1) := by decide +kernel
theorem dX10_done_2 : decode cX10_done 2 = .ok (.iconst 0, 1) := by decide +kernel
theorem dX10_done_3 : decode cX10_done 3 = .ok (.bipush 100, 2) := by decide +kernel
theorem dX10_done_5 : decode cX10_done 5 = .ok (.invokevirtual 192, 3) := by decide +kernel
theorem dX10_done_8 : decode cX10_done 8 = .ok (.aload_n 0, 1) := by decide +kernel
theorem dX10_done_9 : decode cX10_done 9 = .ok (.invokevirtual 107, 3) := by decide +kernel
theorem dX10_done_12 : decode cX10_done 12 = .ok (.astore_n 2, 1) := by decide +kernel
theorem dX10_done_13 : decode cX10_done 13 = .ok (.aload_n 2, 1) := by decide +kernel
theorem dX10_done_14 : decode cX10_done 14 = .ok (.aload_n 0, 1) := by decide +kernel
theorem dX10_done_15 : decode cX10_done 15 = .ok (.getfield 32, 3) := by decide +kernel
theorem dX10_done_18 : decode cX10_done 18 = .ok (.iload_n 1, 1) := by decide +kernel
theorem dX10_done_19 : decode cX10_done 19 = .ok (.iconst 0, 1) := by decide +kernel
theorem dX10_done_20 : decode cX10_done 20 = .ok (.invokestatic 233, 3) := by decide +kernel
theorem dX10_done_23 : decode cX10_done 23 = .ok (.pop, 1) := by decide +kernel
theorem dX10_done_24 : decode cX10_done 24 = .ok (.aload_n 2, 1) := by decide +kernel
theorem dX10_done_25 : decode cX10_done 25 = .ok (.getfield 230, 3) := by decide +kernel
theorem dX10_done_28 : decode cX10_done 28 = .ok (.ireturn, 1) := by decide +kernel
theorem dX10_lost_0 : decode cX10_lost 0 = .ok (.iconst 0, 1) := by decide +kernel
theorem dX10_lost_1 : decode cX10_lost 1 = .ok (.istore_n 1, 1) := by decide +kernel
theorem dX10_lost_2 : decode cX10_lost 2 = .ok (.iconst 0, 1) := by decide +kernel
theorem dX10_lost_3 : decode cX10_lost 3 = .ok (.istore_n 2, 1) := by decide +kernel
theorem dX10_lost_4 : decode cX10_lost 4 = .ok (.iload_n 2, 1) := by decide +kernel
theorem dX10_lost_5 : decode cX10_lost 5 = .ok (.aload_n 0, 1) := by decide +kernel
theorem dX10_lost_6 : decode cX10_lost 6 = .ok (.getfield 19, 3) := by decide +kernel
theorem dX10_lost_9 : decode cX10_lost 9 = .ok (.getfield 309, 3) := by decide +kernel
theorem dX10_lost_12 : decode cX10_lost 12 = .ok (.if_icmp .ge 45, 3) := by decide +kernel
theorem dX10_lost_15 : decode cX10_lost 15 = .ok (.aload_n 0, 1) := by decide +kernel
theorem dX10_lost_16 : decode cX10_lost 16 = .ok (.getfield 19, 3) := by decide +kernel
theorem dX10_lost_19 : decode cX10_lost 19 = .ok (.iload_n 2, 1) := by decide +kernel
theorem dX10_lost_20 : decode cX10_lost 20 = .ok (.invokevirtual 189, 3) := by decide +kernel
theorem dX10_lost_23 : decode cX10_lost 23 = .ok (.ifCond .ne 28, 3) := by decide +kernel
theorem dX10_lost_26 : decode cX10_lost 26 = .ok (.aload_n 0, 1) := by decide +kernel
theorem dX10_lost_27 : decode cX10_lost 27 = .ok (.getfield 19, 3) := by decide +kernel
theorem dX10_lost_30 : decode cX10_lost 30 = .ok (.iload_n 2, 1) := by decide +kernel
theorem dX10_lost_31 : decode cX10_lost 31 = .ok (.iconst 2, 1) := by decide +kernel
theorem dX10_lost_32 : decode cX10_lost 32 = .ok (.invokevirtual 186, 3) := by decide +kernel
theorem dX10_lost_35 : decode cX10_lost 35 = .ok (.aload_n 0, 1) := by decide +kernel
theorem dX10_lost_36 : decode cX10_lost 36 = .ok (.getfield 19, 3) := by decide +kernel
theorem dX10_lost_39 : decode cX10_lost 39 = .ok (.getfield 154, 3) := by decide +kernel
theorem dX10_lost_42 : decode cX10_lost 42 = .ok (.if_icmp .ge 9, 3) := by decide +kernel
theorem dX10_lost_45 : decode cX10_lost 45 = .ok (.iload_n 1, 1) := by decide +kernel
theorem dX10_lost_46 : decode cX10_lost 46 = .ok (.iconst 1, 1) := by decide +kernel
theorem dX10_lost_47 : decode cX10_lost 47 = .ok (.iload_n 2, 1) := by decide +kernel
theorem dX10_lost_48 : decode cX10_lost 48 = .ok (.ishl, 1) := by decide +kernel
theorem dX10_lost_49 : decode cX10_lost 49 = .ok (.ior, 1) := by decide +kernel
theorem dX10_lost_50 : decode cX10_lost 50 = .ok (.istore_n 1, 1) := by decide +kernel
theorem dX10_lost_51 : decode cX10_lost 51 = .ok (.iinc 2 1, 3) := by decide +kernel
theorem dX10_lost_54 : decode cX10_lost 54 = .ok (.goto (-50), 3) := by decide +kernel
theorem dX10_lost_57 : decode cX10_lost 57 = .ok (.iload_n 1, 1) := by decide +kernel
theorem dX10_lost_58 : decode cX10_lost 58 = .ok (.ireturn, 1) := by decide +kernel
theorem dX10_odds_0 : decode cX10_odds 0 = .ok (.aload_n 0, 1) := by decide +kernel
theorem dX10_odds_1 : decode cX10_odds 1 = .ok (.iload_n 1, 1) := by decide +kernel
theorem dX10_odds_2 : decode cX10_odds 2 = .ok (.iconst 0, 1) := by decide +kernel
theorem dX10_odds_3 : decode cX10_odds 3 = .ok (.bipush 6, 2) := by decide +kernel
theorem dX10_odds_5 : decode cX10_odds 5 = .ok (.invokevirtual 192, 3) := by decide +kernel
theorem dX10_odds_8 : decode cX10_odds 8 = .ok (.aload_n 0, 1) := by decide +kernel
theorem dX10_odds_9 : decode cX10_odds 9 = .ok (.iload_n 2, 1) := by decide +kernel
theorem dX10_odds_10 : decode cX10_odds 10 = .ok (.iconst 0, 1) := by decide +kernel
theorem dX10_odds_11 : decode cX10_odds 11 = .ok (.bipush 6, 2) := by decide +kernel
theorem dX10_odds_13 : decode cX10_odds 13 = .ok (.invokevirtual 192, 3) := by decide +kernel
theorem dX10_odds_16 : decode cX10_odds 16 = .ok (.lconst 0, 1) := by decide +kernel
theorem dX10_odds_17 : decode cX10_odds 17 = .ok (.lstore_n 3, 1) := by decide +kernel
theorem dX10_odds_18 : decode cX10_odds 18 = .ok (.iload_n 2, 1) := by decide +kernel
theorem dX10_odds_19 : decode cX10_odds 19 = .ok (.istore 5, 2) := by decide +kernel
theorem dX10_odds_21 : decode cX10_odds 21 = .ok (.iload 5, 2) := by decide +kernel
theorem dX10_odds_23 : decode cX10_odds 23 = .ok (.iload_n 1, 1) := by decide +kernel
theorem dX10_odds_24 : decode cX10_odds 24 = .ok (.if_icmp .gt 49, 3) := by decide +kernel
theorem dX10_odds_27 : decode cX10_odds 27 = .ok (.lload_n 3, 1) := by decide +kernel
theorem dX10_odds_28 : decode cX10_odds 28 = .ok (.iload_n 1, 1) := by decide +kernel
theorem dX10_odds_29 : decode cX10_odds 29 = .ok (.iload 5, 2) := by decide +kernel
theorem dX10_odds_31 : decode cX10_odds 31 = .ok (.invokestatic 312, 3) := by decide +kernel
theorem dX10_odds_34 : decode cX10_odds 34 = .ok (.aload_n 0, 1) := by decide +kernel
theorem dX10_odds_35 : decode cX10_odds 35 = .ok (.getfield 19, 3) := by decide +kernel
theorem dX10_odds_38 : decode cX10_odds 38 = .ok (.getfield 316, 3) := by decide +kernel
theorem dX10_odds_41 : decode cX10_odds 41 = .ok (.iload 5, 2) := by decide +kernel
theorem dX10_odds_43 : decode cX10_odds 43 = .ok (.invokestatic 319, 3) := by decide +kernel
theorem dX10_odds_46 : decode cX10_odds 46 = .ok (.lmul, 1) := by decide +kernel
theorem dX10_odds_47 : decode cX10_odds 47 = .ok (.bipush 100, 2) := by decide +kernel
theorem dX10_odds_49 : decode cX10_odds 49 = .ok (.aload_n 0, 1) := by decide +kernel
theorem dX10_odds_50 : decode cX10_odds 50 = .ok (.getfield 19, 3) := by decide +kernel
theorem dX10_odds_53 : decode cX10_odds 53 = .ok (.getfield 316, 3) := by decide +kernel
theorem dX10_odds_56 : decode cX10_odds 56 = .ok (.isub, 1) := by decide +kernel
theorem dX10_odds_57 : decode cX10_odds 57 = .ok (.iload_n 1, 1) := by decide +kernel
theorem dX10_odds_58 : decode cX10_odds 58 = .ok (.iload 5, 2) := by decide +kernel
theorem dX10_odds_60 : decode cX10_odds 60 = .ok (.isub, 1) := by decide +kernel
theorem dX10_odds_61 : decode cX10_odds 61 = .ok (.invokestatic 319, 3) := by decide +kernel
theorem dX10_odds_64 : decode cX10_odds 64 = .ok (.lmul, 1) := by decide +kernel
theorem dX10_odds_65 : decode cX10_odds 65 = .ok (.ladd, 1) := by decide +kernel
theorem dX10_odds_66 : decode cX10_odds 66 = .ok (.lstore_n 3, 1) := by decide +kernel
theorem dX10_odds_67 : decode cX10_odds 67 = .ok (.iinc 5 1, 3) := by decide +kernel
theorem dX10_odds_70 : decode cX10_odds 70 = .ok (.goto (-49), 3) := by decide +kernel
theorem dX10_odds_73 : decode cX10_odds 73 = .ok (.lload_n 3, 1) := by decide +kernel
theorem dX10_odds_74 : decode cX10_odds 74 = .ok (.ldc2_w 322, 3) := by decide +kernel
theorem dX10_odds_77 : decode cX10_odds 77 = .ok (.lmul, 1) := by decide +kernel
theorem dX10_odds_78 : decode cX10_odds 78 = .ok (.lconst 1, 1) := by decide +kernel
theorem dX10_odds_79 : decode cX10_odds 79 = .ok (.bipush 100, 2) := by decide +kernel
theorem dX10_odds_81 : decode cX10_odds 81 = .ok (.iload_n 1, 1) := by decide +kernel
theorem dX10_odds_82 : decode cX10_odds 82 = .ok (.invokestatic 319, 3) := by decide +kernel
theorem dX10_odds_85 : decode cX10_odds 85 = .ok (.invokestatic 324, 3) := by decide +kernel
theorem dX10_odds_88 : decode cX10_odds 88 = .ok (.ldiv, 1) := by decide +kernel
theorem dX10_odds_89 : decode cX10_odds 89 = .ok (.l2i, 1) := by decide +kernel
theorem dX10_odds_90 : decode cX10_odds 90 = .ok (.ireturn, 1) := by decide +kernel
theorem dX10_risk_0 : decode cX10_risk 0 = .ok (.aload_n 0, 1) := by decide +kernel
theorem dX10_risk_1 : decode cX10_risk 1 = .ok (.iload_n 1, 1) := by decide +kernel
theorem dX10_risk_2 : decode cX10_risk 2 = .ok (.invokevirtual 140, 3) := by decide +kernel
theorem dX10_risk_5 : decode cX10_risk 5 = .ok (.aload_n 0, 1) := by decide +kernel
theorem dX10_risk_6 : decode cX10_risk 6 = .ok (.iload_n 2, 1) := by decide +kernel
theorem dX10_risk_7 : decode cX10_risk 7 = .ok (.iconst 0, 1) := by decide +kernel
theorem dX10_risk_8 : decode cX10_risk 8 = .ok (.sipush 9999, 3) := by decide +kernel
theorem dX10_risk_11 : decode cX10_risk 11 = .ok (.invokevirtual 192, 3) := by decide +kernel
theorem dX10_risk_14 : decode cX10_risk 14 = .ok (.aload_n 0, 1) := by decide +kernel
theorem dX10_risk_15 : decode cX10_risk 15 = .ok (.iload_n 3, 1) := by decide +kernel
theorem dX10_risk_16 : decode cX10_risk 16 = .ok (.iconst 0, 1) := by decide +kernel
theorem dX10_risk_17 : decode cX10_risk 17 = .ok (.bipush 9, 2) := by decide +kernel
theorem dX10_risk_19 : decode cX10_risk 19 = .ok (.invokevirtual 192, 3) := by decide +kernel
theorem dX10_risk_22 : decode cX10_risk 22 = .ok (.iconst 0, 1) := by decide +kernel
theorem dX10_risk_23 : decode cX10_risk 23 = .ok (.istore 4, 2) := by decide +kernel
theorem dX10_risk_25 : decode cX10_risk 25 = .ok (.bipush (-5), 2) := by decide +kernel
theorem dX10_risk_27 : decode cX10_risk 27 = .ok (.istore 5, 2) := by decide +kernel
theorem dX10_risk_29 : decode cX10_risk 29 = .ok (.iload 5, 2) := by decide +kernel
theorem dX10_risk_31 : decode cX10_risk 31 = .ok (.iconst 5, 1) := by decide +kernel
theorem dX10_risk_32 : decode cX10_risk 32 = .ok (.if_icmp .gt 34, 3) := by decide +kernel
theorem dX10_risk_35 : decode cX10_risk 35 = .ok (.aload_n 0, 1) := by decide +kernel
theorem dX10_risk_36 : decode cX10_risk 36 = .ok (.getfield 19, 3) := by decide +kernel
theorem dX10_risk_39 : decode cX10_risk 39 = .ok (.aload_n 0, 1) := by decide +kernel
theorem dX10_risk_40 : decode cX10_risk 40 = .ok (.getfield 19, 3) := by decide +kernel
theorem dX10_risk_43 : decode cX10_risk 43 = .ok (.iload_n 2, 1) := by decide +kernel
theorem dX10_risk_44 : decode cX10_risk 44 = .ok (.iload 5, 2) := by decide +kernel
theorem dX10_risk_46 : decode cX10_risk 46 = .ok (.invokevirtual 328, 3) := by decide +kernel
theorem dX10_risk_49 : decode cX10_risk 49 = .ok (.iload_n 1, 1) := by decide +kernel
theorem dX10_risk_50 : decode cX10_risk 50 = .ok (.invokevirtual 199, 3) := by decide +kernel
theorem dX10_risk_53 : decode cX10_risk 53 = .ok (.iload_n 3, 1) := by decide +kernel
theorem dX10_risk_54 : decode cX10_risk 54 = .ok (.if_icmp .le 6, 3) := by decide +kernel
theorem dX10_risk_57 : decode cX10_risk 57 = .ok (.iinc 4 1, 3) := by decide +kernel
theorem dX10_risk_60 : decode cX10_risk 60 = .ok (.iinc 5 1, 3) := by decide +kernel
theorem dX10_risk_63 : decode cX10_risk 63 = .ok (.goto (-34), 3) := by decide +kernel
theorem dX10_risk_66 : decode cX10_risk 66 = .ok (.iload 4, 2) := by decide +kernel
theorem dX10_risk_68 : decode cX10_risk 68 = .ok (.ireturn, 1) := by decide +kernel
theorem dX10_trial_0 : decode cX10_trial 0 = .ok (.aload_n 0, 1) := by decide +kernel
theorem dX10_trial_1 : decode cX10_trial 1 = .ok (.iload_n 1, 1) := by decide +kernel
theorem dX10_trial_2 : decode cX10_trial 2 = .ok (.iconst 0, 1) := by decide +kernel
theorem dX10_trial_3 : decode cX10_trial 3 = .ok (.bipush 100, 2) := by decide +kernel
theorem dX10_trial_5 : decode cX10_trial 5 = .ok (.invokevirtual 192, 3) := by decide +kernel
theorem dX10_trial_8 : decode cX10_trial 8 = .ok (.aload_n 0, 1) := by decide +kernel
theorem dX10_trial_9 : decode cX10_trial 9 = .ok (.invokevirtual 107, 3) := by decide +kernel
theorem dX10_trial_12 : decode cX10_trial 12 = .ok (.astore_n 3, 1) := by decide +kernel
theorem dX10_trial_13 : decode cX10_trial 13 = .ok (.aload_n 3, 1) := by decide +kernel
theorem dX10_trial_14 : decode cX10_trial 14 = .ok (.aload_n 0, 1) := by decide +kernel
theorem dX10_trial_15 : decode cX10_trial 15 = .ok (.getfield 32, 3) := by decide +kernel
theorem dX10_trial_18 : decode cX10_trial 18 = .ok (.iload_n 1, 1) := by decide +kernel
theorem dX10_trial_19 : decode cX10_trial 19 = .ok (.iconst 1, 1) := by decide +kernel
theorem dX10_trial_20 : decode cX10_trial 20 = .ok (.invokestatic 233, 3) := by decide +kernel
theorem dX10_trial_23 : decode cX10_trial 23 = .ok (.istore 4, 2) := by decide +kernel
theorem dX10_trial_25 : decode cX10_trial 25 = .ok (.iload_n 2, 1) := by decide +kernel
theorem dX10_trial_26 : decode cX10_trial 26 = .ok (.ifCond .eq 10, 3) := by decide +kernel
theorem dX10_trial_29 : decode cX10_trial 29 = .ok (.aload_n 3, 1) := by decide +kernel
theorem dX10_trial_30 : decode cX10_trial 30 = .ok (.getfield 306, 3) := by decide +kernel
theorem dX10_trial_33 : decode cX10_trial 33 = .ok (.goto 5, 3) := by decide +kernel
theorem dX10_trial_36 : decode cX10_trial 36 = .ok (.iload 4, 2) := by decide +kernel
theorem dX10_trial_38 : decode cX10_trial 38 = .ok (.ireturn, 1) := by decide +kernel
theorem dX10_span_0 : decode cX10_span 0 = .ok (.aload_n 0, 1) := by decide +kernel
theorem dX10_span_1 : decode cX10_span 1 = .ok (.iload_n 1, 1) := by decide +kernel
theorem dX10_span_2 : decode cX10_span 2 = .ok (.iconst 0, 1) := by decide +kernel
theorem dX10_span_3 : decode cX10_span 3 = .ok (.bipush 100, 2) := by decide +kernel
theorem dX10_span_5 : decode cX10_span 5 = .ok (.invokevirtual 192, 3) := by decide +kernel
theorem dX10_span_8 : decode cX10_span 8 = .ok (.bipush 6, 2) := by decide +kernel
theorem dX10_span_10 : decode cX10_span 10 = .ok (.istore_n 3, 1) := by decide +kernel
theorem dX10_span_11 : decode cX10_span 11 = .ok (.iconst 0, 1) := by decide +kernel
theorem dX10_span_12 : decode cX10_span 12 = .ok (.istore 4, 2) := by decide +kernel
theorem dX10_span_14 : decode cX10_span 14 = .ok (.iconst 1, 1) := by decide +kernel
theorem dX10_span_15 : decode cX10_span 15 = .ok (.istore 5, 2) := by decide +kernel
theorem dX10_span_17 : decode cX10_span 17 = .ok (.iload 5, 2) := by decide +kernel
theorem dX10_span_19 : decode cX10_span 19 = .ok (.bipush 6, 2) := by decide +kernel
theorem dX10_span_21 : decode cX10_span 21 = .ok (.if_icmp .gt 51, 3) := by decide +kernel
theorem dX10_span_24 : decode cX10_span 24 = .ok (.aload_n 0, 1) := by decide +kernel
theorem dX10_span_25 : decode cX10_span 25 = .ok (.invokevirtual 107, 3) := by decide +kernel
theorem dX10_span_28 : decode cX10_span 28 = .ok (.astore 6, 2) := by decide +kernel
theorem dX10_span_30 : decode cX10_span 30 = .ok (.aload 6, 2) := by decide +kernel
theorem dX10_span_32 : decode cX10_span 32 = .ok (.iload 5, 2) := by decide +kernel
theorem dX10_span_34 : decode cX10_span 34 = .ok (.putfield 331, 3) := by decide +kernel
theorem dX10_span_37 : decode cX10_span 37 = .ok (.aload 6, 2) := by decide +kernel
theorem dX10_span_39 : decode cX10_span 39 = .ok (.aload_n 0, 1) := by decide +kernel
theorem dX10_span_40 : decode cX10_span 40 = .ok (.getfield 32, 3) := by decide +kernel
theorem dX10_span_43 : decode cX10_span 43 = .ok (.iload_n 1, 1) := by decide +kernel
theorem dX10_span_44 : decode cX10_span 44 = .ok (.iconst 1, 1) := by decide +kernel
theorem dX10_span_45 : decode cX10_span 45 = .ok (.invokestatic 233, 3) := by decide +kernel
theorem dX10_span_48 : decode cX10_span 48 = .ok (.istore 7, 2) := by decide +kernel
theorem dX10_span_50 : decode cX10_span 50 = .ok (.iload_n 3, 1) := by decide +kernel
theorem dX10_span_51 : decode cX10_span 51 = .ok (.iload 7, 2) := by decide +kernel
theorem dX10_span_53 : decode cX10_span 53 = .ok (.invokestatic 334, 3) := by decide +kernel
theorem dX10_span_56 : decode cX10_span 56 = .ok (.istore_n 3, 1) := by decide +kernel
theorem dX10_span_57 : decode cX10_span 57 = .ok (.iload 4, 2) := by decide +kernel
theorem dX10_span_59 : decode cX10_span 59 = .ok (.iload 7, 2) := by decide +kernel
theorem dX10_span_61 : decode cX10_span 61 = .ok (.invokestatic 337, 3) := by decide +kernel
theorem dX10_span_64 : decode cX10_span 64 = .ok (.istore 4, 2) := by decide +kernel
theorem dX10_span_66 : decode cX10_span 66 = .ok (.iinc 5 1, 3) := by decide +kernel
theorem dX10_span_69 : decode cX10_span 69 = .ok (.goto (-52), 3) := by decide +kernel
theorem dX10_span_72 : decode cX10_span 72 = .ok (.iload_n 2, 1) := by decide +kernel
theorem dX10_span_73 : decode cX10_span 73 = .ok (.ifCond .eq 8, 3) := by decide +kernel
theorem dX10_span_76 : decode cX10_span 76 = .ok (.iload 4, 2) := by decide +kernel
theorem dX10_span_78 : decode cX10_span 78 = .ok (.goto 4, 3) := by decide +kernel
theorem dX10_span_81 : decode cX10_span 81 = .ok (.iload_n 3, 1) := by decide +kernel
theorem dX10_span_82 : decode cX10_span 82 = .ok (.ireturn, 1) := by decide +kernel
theorem dX10_led_0 : decode cX10_led 0 = .ok (.aload_n 0, 1) := by decide +kernel
theorem dX10_led_1 : decode cX10_led 1 = .ok (.iload_n 1, 1) := by decide +kernel
theorem dX10_led_2 : decode cX10_led 2 = .ok (.invokevirtual 140, 3) := by decide +kernel
theorem dX10_led_5 : decode cX10_led 5 = .ok (.iconst 0, 1) := by decide +kernel
theorem dX10_led_6 : decode cX10_led 6 = .ok (.istore_n 3, 1) := by decide +kernel
theorem dX10_led_7 : decode cX10_led 7 = .ok (.iconst (-1), 1) := by decide +kernel
theorem dX10_led_8 : decode cX10_led 8 = .ok (.istore 4, 2) := by decide +kernel
theorem dX10_led_10 : decode cX10_led 10 = .ok (.aload_n 0, 1) := by decide +kernel
theorem dX10_led_11 : decode cX10_led 11 = .ok (.getfield 19, 3) := by decide +kernel
theorem dX10_led_14 : decode cX10_led 14 = .ok (.invokevirtual 339, 3) := by decide +kernel
theorem dX10_led_17 : decode cX10_led 17 = .ok (.iconst 1, 1) := by decide +kernel
theorem dX10_led_18 : decode cX10_led 18 = .ok (.isub, 1) := by decide +kernel
theorem dX10_led_19 : decode cX10_led 19 = .ok (.istore 5, 2) := by decide +kernel
theorem dX10_led_21 : decode cX10_led 21 = .ok (.iload 5, 2) := by decide +kernel
theorem dX10_led_23 : decode cX10_led 23 = .ok (.ifCond .lt 36, 3) := by decide +kernel
theorem dX10_led_26 : decode cX10_led 26 = .ok (.aload_n 0, 1) := by decide +kernel
theorem dX10_led_27 : decode cX10_led 27 = .ok (.getfield 19, 3) := by decide +kernel
theorem dX10_led_30 : decode cX10_led 30 = .ok (.iload 5, 2) := by decide +kernel
theorem dX10_led_32 : decode cX10_led 32 = .ok (.invokevirtual 342, 3) := by decide +kernel
theorem dX10_led_35 : decode cX10_led 35 = .ok (.iload_n 1, 1) := by decide +kernel
theorem dX10_led_36 : decode cX10_led 36 = .ok (.if_icmp .ne 17, 3) := by decide +kernel
theorem dX10_led_39 : decode cX10_led 39 = .ok (.iinc 3 1, 3) := by decide +kernel
theorem dX10_led_42 : decode cX10_led 42 = .ok (.aload_n 0, 1) := by decide +kernel
theorem dX10_led_43 : decode cX10_led 43 = .ok (.getfield 19, 3) := by decide +kernel
theorem dX10_led_46 : decode cX10_led 46 = .ok (.iload 5, 2) := by decide +kernel
theorem dX10_led_48 : decode cX10_led 48 = .ok (.invokevirtual 345, 3) := by decide +kernel
theorem dX10_led_51 : decode cX10_led 51 = .ok (.istore 4, 2) := by decide +kernel
theorem dX10_led_53 : decode cX10_led 53 = .ok (.iinc 5 (-1), 3) := by decide +kernel
theorem dX10_led_56 : decode cX10_led 56 = .ok (.goto (-35), 3) := by decide +kernel
theorem dX10_led_59 : decode cX10_led 59 = .ok (.iload_n 2, 1) := by decide +kernel
theorem dX10_led_60 : decode cX10_led 60 = .ok (.ifCond .eq 8, 3) := by decide +kernel
theorem dX10_led_63 : decode cX10_led 63 = .ok (.iload 4, 2) := by decide +kernel
theorem dX10_led_65 : decode cX10_led 65 = .ok (.goto 4, 3) := by decide +kernel
theorem dX10_led_68 : decode cX10_led 68 = .ok (.iload_n 3, 1) := by decide +kernel
theorem dX10_led_69 : decode cX10_led 69 = .ok (.ireturn, 1) := by decide +kernel
theorem dX10_log_0 : decode cX10_log 0 = .ok (.iload_n 2, 1) := by decide +kernel
theorem dX10_log_1 : decode cX10_log 1 = .ok (.ifCond .lt 8, 3) := by decide +kernel
theorem dX10_log_4 : decode cX10_log 4 = .ok (.iload_n 2, 1) := by decide +kernel
theorem dX10_log_5 : decode cX10_log 5 = .ok (.iconst 3, 1) := by decide +kernel
theorem dX10_log_6 : decode cX10_log 6 = .ok (.if_icmp .le 11, 3) := by decide +kernel
theorem dX10_log_9 : decode cX10_log 9 = .ok (.new 180, 3) := by decide +kernel
theorem dX10_log_12 : decode cX10_log 12 = .ok (.dup, 1) := by decide +kernel
theorem dX10_log_13 : decode cX10_log 13 = .ok (.invokespecial 182, 3) := by decide +kernel
theorem dX10_log_16 : decode cX10_log 16 = .ok (.athrow, 1) := by decide +kernel
theorem dX10_log_17 : decode cX10_log 17 = .ok (.iload_n 1, 1) := by decide +kernel
theorem dX10_log_18 : decode cX10_log 18 = .ok (.ifCond .lt 14, 3) := by decide +kernel
theorem dX10_log_21 : decode cX10_log 21 = .ok (.iload_n 1, 1) := by decide +kernel
theorem dX10_log_22 : decode cX10_log 22 = .ok (.aload_n 0, 1) := by decide +kernel
theorem dX10_log_23 : decode cX10_log 23 = .ok (.getfield 19, 3) := by decide +kernel
theorem dX10_log_26 : decode cX10_log 26 = .ok (.invokevirtual 339, 3) := by decide +kernel
theorem dX10_log_29 : decode cX10_log 29 = .ok (.if_icmp .lt 5, 3) := by decide +kernel
theorem dX10_log_32 : decode cX10_log 32 = .ok (.iconst (-1), 1) := by decide +kernel
theorem dX10_log_33 : decode cX10_log 33 = .ok (.ireturn, 1) := by decide +kernel
theorem dX10_log_34 : decode cX10_log 34 = .ok (.iload_n 2, 1) := by decide +kernel
theorem dX10_log_35 : decode cX10_log 35 = .ok (.tableswitch 52 0 2 #[25, 34, 43], 25) := by decide +kernel
theorem dX10_log_60 : decode cX10_log 60 = .ok (.aload_n 0, 1) := by decide +kernel
theorem dX10_log_61 : decode cX10_log 61 = .ok (.getfield 19, 3) := by decide +kernel
theorem dX10_log_64 : decode cX10_log 64 = .ok (.iload_n 1, 1) := by decide +kernel
theorem dX10_log_65 : decode cX10_log 65 = .ok (.invokevirtual 345, 3) := by decide +kernel
theorem dX10_log_68 : decode cX10_log 68 = .ok (.ireturn, 1) := by decide +kernel
theorem dX10_log_69 : decode cX10_log 69 = .ok (.aload_n 0, 1) := by decide +kernel
theorem dX10_log_70 : decode cX10_log 70 = .ok (.getfield 19, 3) := by decide +kernel
theorem dX10_log_73 : decode cX10_log 73 = .ok (.iload_n 1, 1) := by decide +kernel
theorem dX10_log_74 : decode cX10_log 74 = .ok (.invokevirtual 348, 3) := by decide +kernel
theorem dX10_log_77 : decode cX10_log 77 = .ok (.ireturn, 1) := by decide +kernel
theorem dX10_log_78 : decode cX10_log 78 = .ok (.aload_n 0, 1) := by decide +kernel
theorem dX10_log_79 : decode cX10_log 79 = .ok (.getfield 19, 3) := by decide +kernel
theorem dX10_log_82 : decode cX10_log 82 = .ok (.iload_n 1, 1) := by decide +kernel
theorem dX10_log_83 : decode cX10_log 83 = .ok (.invokevirtual 351, 3) := by decide +kernel
theorem dX10_log_86 : decode cX10_log 86 = .ok (.ireturn, 1) := by decide +kernel
theorem dX10_log_87 : decode cX10_log 87 = .ok (.aload_n 0, 1) := by decide +kernel
theorem dX10_log_88 : decode cX10_log 88 = .ok (.getfield 19, 3) := by decide +kernel
theorem dX10_log_91 : decode cX10_log 91 = .ok (.iload_n 1, 1) := by decide +kernel
theorem dX10_log_92 : decode cX10_log 92 = .ok (.invokevirtual 342, 3) := by decide +kernel
theorem dX10_log_95 : decode cX10_log 95 = .ok (.ireturn, 1) := by decide +kernel
theorem dX10_seed_0 : decode cX10_seed 0 = .ok (.aload_n 0, 1) := by decide +kernel
theorem dX10_seed_1 : decode cX10_seed 1 = .ok (.getfield 19, 3) := by decide +kernel
theorem dX10_seed_4 : decode cX10_seed 4 = .ok (.getfield 331, 3) := by decide +kernel
theorem dX10_seed_7 : decode cX10_seed 7 = .ok (.istore_n 2, 1) := by decide +kernel
theorem dX10_seed_8 : decode cX10_seed 8 = .ok (.aload_n 0, 1) := by decide +kernel
theorem dX10_seed_9 : decode cX10_seed 9 = .ok (.getfield 19, 3) := by decide +kernel
theorem dX10_seed_12 : decode cX10_seed 12 = .ok (.iload_n 1, 1) := by decide +kernel
theorem dX10_seed_13 : decode cX10_seed 13 = .ok (.putfield 331, 3) := by decide +kernel
theorem dX10_seed_16 : decode cX10_seed 16 = .ok (.iload_n 2, 1) := by decide +kernel
theorem dX10_seed_17 : decode cX10_seed 17 = .ok (.ireturn, 1) := by decide +kernel
theorem dX10_undo_0 : decode cX10_undo 0 = .ok (.aload_n 0, 1) := by decide +kernel
theorem dX10_undo_1 : decode cX10_undo 1 = .ok (.getfield 88, 3) := by decide +kernel
theorem dX10_undo_4 : decode cX10_undo 4 = .ok (.aload_n 0, 1) := by decide +kernel
theorem dX10_undo_5 : decode cX10_undo 5 = .ok (.getfield 19, 3) := by decide +kernel
theorem dX10_undo_8 : decode cX10_undo 8 = .ok (.invokevirtual 354, 3) := by decide +kernel
theorem dX10_undo_11 : decode cX10_undo 11 = .ok (.ireturn, 1) := by decide +kernel
theorem dX10_image_0 : decode cX10_image 0 = .ok (.aload_n 0, 1) := by decide +kernel
theorem dX10_image_1 : decode cX10_image 1 = .ok (.getfield 26, 3) := by decide +kernel
theorem dX10_image_4 : decode cX10_image 4 = .ok (.aload_n 0, 1) := by decide +kernel
theorem dX10_image_5 : decode cX10_image 5 = .ok (.getfield 19, 3) := by decide +kernel
theorem dX10_image_8 : decode cX10_image 8 = .ok (.invokevirtual 124, 3) := by decide +kernel
theorem dX10_image_11 : decode cX10_image 11 = .ok (.aload_n 0, 1) := by decide +kernel
theorem dX10_image_12 : decode cX10_image 12 = .ok (.getfield 39, 3) := by decide +kernel
theorem dX10_image_15 : decode cX10_image 15 = .ok (.aload_n 0, 1) := by decide +kernel
theorem dX10_image_16 : decode cX10_image 16 = .ok (.getfield 32, 3) := by decide +kernel
theorem dX10_image_19 : decode cX10_image 19 = .ok (.invokevirtual 134, 3) := by decide +kernel
theorem dX10_image_22 : decode cX10_image 22 = .ok (.aload_n 0, 1) := by decide +kernel
theorem dX10_image_23 : decode cX10_image 23 = .ok (.iconst 1, 1) := by decide +kernel
theorem dX10_image_24 : decode cX10_image 24 = .ok (.putfield 96, 3) := by decide +kernel
theorem dX10_image_27 : decode cX10_image 27 = .ok (.return_, 1) := by decide +kernel
theorem dX10_back_0 : decode cX10_back 0 = .ok (.aload_n 0, 1) := by decide +kernel
theorem dX10_back_1 : decode cX10_back 1 = .ok (.getfield 96, 3) := by decide +kernel
theorem dX10_back_4 : decode cX10_back 4 = .ok (.ifCond .ne 5, 3) := by decide +kernel
theorem dX10_back_7 : decode cX10_back 7 = .ok (.iconst 0, 1) := by decide +kernel
theorem dX10_back_8 : decode cX10_back 8 = .ok (.ireturn, 1) := by decide +kernel
theorem dX10_back_9 : decode cX10_back 9 = .ok (.aload_n 0, 1) := by decide +kernel
theorem dX10_back_10 : decode cX10_back 10 = .ok (.getfield 19, 3) := by decide +kernel
theorem dX10_back_13 : decode cX10_back 13 = .ok (.aload_n 0, 1) := by decide +kernel
theorem dX10_back_14 : decode cX10_back 14 = .ok (.getfield 26, 3) := by decide +kernel
theorem dX10_back_17 : decode cX10_back 17 = .ok (.invokevirtual 124, 3) := by decide +kernel
theorem dX10_back_20 : decode cX10_back 20 = .ok (.aload_n 0, 1) := by decide +kernel
theorem dX10_back_21 : decode cX10_back 21 = .ok (.getfield 32, 3) := by decide +kernel
theorem dX10_back_24 : decode cX10_back 24 = .ok (.aload_n 0, 1) := by decide +kernel
theorem dX10_back_25 : decode cX10_back 25 = .ok (.getfield 39, 3) := by decide +kernel
theorem dX10_back_28 : decode cX10_back 28 = .ok (.invokevirtual 134, 3) := by decide +kernel
theorem dX10_back_31 : decode cX10_back 31 = .ok (.aload_n 0, 1) := by decide +kernel
theorem dX10_back_32 : decode cX10_back 32 = .ok (.getfield 88, 3) := by decide +kernel
theorem dX10_back_35 : decode cX10_back 35 = .ok (.invokevirtual 128, 3) := by decide +kernel
theorem dX10_back_38 : decode cX10_back 38 = .ok (.iconst 1, 1) := by decide +kernel
theorem dX10_back_39 : decode cX10_back 39 = .ok (.ireturn, 1) := by decide +kernel
theorem dX10_count_0 : decode cX10_count 0 = .ok (.iload_n 1, 1) := by decide +kernel
theorem dX10_count_1 : decode cX10_count 1 = .ok (.tableswitch 211 0 15 #[79, 87, 95, 103, 111, 119, 127, 135, 143, 151, 161, 171, 179, 187, 195, 203], 79) := by decide +kernel
theorem dX10_count_80 : decode cX10_count 80 = .ok (.aload_n 0, 1) := by decide +kernel
theorem dX10_count_81 : decode cX10_count 81 = .ok (.getfield 19, 3) := by decide +kernel
theorem dX10_count_84 : decode cX10_count 84 = .ok (.getfield 259, 3) := by decide +kernel
theorem dX10_count_87 : decode cX10_count 87 = .ok (.ireturn, 1) := by decide +kernel
theorem dX10_count_88 : decode cX10_count 88 = .ok (.aload_n 0, 1) := by decide +kernel
theorem dX10_count_89 : decode cX10_count 89 = .ok (.getfield 19, 3) := by decide +kernel
theorem dX10_count_92 : decode cX10_count 92 = .ok (.getfield 309, 3) := by decide +kernel
theorem dX10_count_95 : decode cX10_count 95 = .ok (.ireturn, 1) := by decide +kernel
theorem dX10_count_96 : decode cX10_count 96 = .ok (.aload_n 0, 1) := by decide +kernel
theorem dX10_count_97 : decode cX10_count 97 = .ok (.getfield 19, 3) := by decide +kernel
theorem dX10_count_100 : decode cX10_count 100 = .ok (.getfield 118, 3) := by decide +kernel
theorem dX10_count_103 : decode cX10_count 103 = .ok (.ireturn, 1) := by decide +kernel
theorem dX10_count_104 : decode cX10_count 104 = .ok (.aload_n 0, 1) := by decide +kernel
theorem dX10_count_105 : decode cX10_count 105 = .ok (.getfield 32, 3) := by decide +kernel
theorem dX10_count_108 : decode cX10_count 108 = .ok (.getfield 137, 3) := by decide +kernel
theorem dX10_count_111 : decode cX10_count 111 = .ok (.ireturn, 1) := by decide +kernel
theorem dX10_count_112 : decode cX10_count 112 = .ok (.aload_n 0, 1) := by decide +kernel
theorem dX10_count_113 : decode cX10_count 113 = .ok (.getfield 19, 3) := by decide +kernel
theorem dX10_count_116 : decode cX10_count 116 = .ok (.getfield 154, 3) := by decide +kernel
theorem dX10_count_119 : decode cX10_count 119 = .ok (.ireturn, 1) := by decide +kernel
theorem dX10_count_120 : decode cX10_count 120 = .ok (.aload_n 0, 1) := by decide +kernel
theorem dX10_count_121 : decode cX10_count 121 = .ok (.getfield 19, 3) := by decide +kernel
theorem dX10_count_124 : decode cX10_count 124 = .ok (.getfield 242, 3) := by decide +kernel
theorem dX10_count_127 : decode cX10_count 127 = .ok (.ireturn, 1) := by decide +kernel
theorem dX10_count_128 : decode cX10_count 128 = .ok (.aload_n 0, 1) := by decide +kernel
theorem dX10_count_129 : decode cX10_count 129 = .ok (.getfield 19, 3) := by decide +kernel
theorem dX10_count_132 : decode cX10_count 132 = .ok (.getfield 249, 3) := by decide +kernel
theorem dX10_count_135 : decode cX10_count 135 = .ok (.ireturn, 1) := by decide +kernel
theorem dX10_count_136 : decode cX10_count 136 = .ok (.aload_n 0, 1) := by decide +kernel
theorem dX10_count_137 : decode cX10_count 137 = .ok (.getfield 19, 3) := by decide +kernel
theorem dX10_count_140 : decode cX10_count 140 = .ok (.getfield 303, 3) := by decide +kernel
theorem dX10_count_143 : decode cX10_count 143 = .ok (.ireturn, 1) := by decide +kernel
theorem dX10_count_144 : decode cX10_count 144 = .ok (.aload_n 0, 1) := by decide +kernel
theorem dX10_count_145 : decode cX10_count 145 = .ok (.getfield 19, 3) := by decide +kernel
theorem dX10_count_148 : decode cX10_count 148 = .ok (.getfield 358, 3) := by decide +kernel
theorem dX10_count_151 : decode cX10_count 151 = .ok (.ireturn, 1) := by decide +kernel
theorem dX10_count_152 : decode cX10_count 152 = .ok (.aload_n 0, 1) := by decide +kernel
theorem dX10_count_153 : decode cX10_count 153 = .ok (.getfield 19, 3) := by decide +kernel
theorem dX10_count_156 : decode cX10_count 156 = .ok (.getfield 227, 3) := by decide +kernel
theorem dX10_count_159 : decode cX10_count 159 = .ok (.iconst 5, 1) := by decide +kernel
theorem dX10_count_160 : decode cX10_count 160 = .ok (.iadd, 1) := by decide +kernel
theorem dX10_count_161 : decode cX10_count 161 = .ok (.ireturn, 1) := by decide +kernel
theorem dX10_count_162 : decode cX10_count 162 = .ok (.aload_n 0, 1) := by decide +kernel
theorem dX10_count_163 : decode cX10_count 163 = .ok (.getfield 19, 3) := by decide +kernel
theorem dX10_count_166 : decode cX10_count 166 = .ok (.getfield 202, 3) := by decide +kernel
theorem dX10_count_169 : decode cX10_count 169 = .ok (.iconst 3, 1) := by decide +kernel
theorem dX10_count_170 : decode cX10_count 170 = .ok (.iadd, 1) := by decide +kernel
theorem dX10_count_171 : decode cX10_count 171 = .ok (.ireturn, 1) := by decide +kernel
theorem dX10_count_172 : decode cX10_count 172 = .ok (.aload_n 0, 1) := by decide +kernel
theorem dX10_count_173 : decode cX10_count 173 = .ok (.getfield 19, 3) := by decide +kernel
theorem dX10_count_176 : decode cX10_count 176 = .ok (.getfield 316, 3) := by decide +kernel
theorem dX10_count_179 : decode cX10_count 179 = .ok (.ireturn, 1) := by decide +kernel
theorem dX10_count_180 : decode cX10_count 180 = .ok (.aload_n 0, 1) := by decide +kernel
theorem dX10_count_181 : decode cX10_count 181 = .ok (.getfield 19, 3) := by decide +kernel
theorem dX10_count_184 : decode cX10_count 184 = .ok (.getfield 230, 3) := by decide +kernel
theorem dX10_count_187 : decode cX10_count 187 = .ok (.ireturn, 1) := by decide +kernel
theorem dX10_count_188 : decode cX10_count 188 = .ok (.aload_n 0, 1) := by decide +kernel
theorem dX10_count_189 : decode cX10_count 189 = .ok (.getfield 19, 3) := by decide +kernel
theorem dX10_count_192 : decode cX10_count 192 = .ok (.getfield 306, 3) := by decide +kernel
theorem dX10_count_195 : decode cX10_count 195 = .ok (.ireturn, 1) := by decide +kernel
theorem dX10_count_196 : decode cX10_count 196 = .ok (.aload_n 0, 1) := by decide +kernel
theorem dX10_count_197 : decode cX10_count 197 = .ok (.getfield 19, 3) := by decide +kernel
theorem dX10_count_200 : decode cX10_count 200 = .ok (.invokevirtual 339, 3) := by decide +kernel
theorem dX10_count_203 : decode cX10_count 203 = .ok (.ireturn, 1) := by decide +kernel
theorem dX10_count_204 : decode cX10_count 204 = .ok (.aload_n 0, 1) := by decide +kernel
theorem dX10_count_205 : decode cX10_count 205 = .ok (.getfield 88, 3) := by decide +kernel
theorem dX10_count_208 : decode cX10_count 208 = .ok (.getfield 361, 3) := by decide +kernel
theorem dX10_count_211 : decode cX10_count 211 = .ok (.ireturn, 1) := by decide +kernel
theorem dX10_count_212 : decode cX10_count 212 = .ok (.iconst (-1), 1) := by decide +kernel
theorem dX10_count_213 : decode cX10_count 213 = .ok (.ireturn, 1) := by decide +kernel
theorem dX10_needPlace_0 : decode cX10_needPlace 0 = .ok (.iload_n 1, 1) := by decide +kernel
theorem dX10_needPlace_1 : decode cX10_needPlace 1 = .ok (.ifCond .lt 9, 3) := by decide +kernel
theorem dX10_needPlace_4 : decode cX10_needPlace 4 = .ok (.iload_n 1, 1) := by decide +kernel
theorem dX10_needPlace_5 : decode cX10_needPlace 5 = .ok (.bipush 12, 2) := by decide +kernel
theorem dX10_needPlace_7 : decode cX10_needPlace 7 = .ok (.if_icmp .lt 11, 3) := by decide +kernel
theorem dX10_needPlace_10 : decode cX10_needPlace 10 = .ok (.new 364, 3) := by decide +kernel
theorem dX10_needPlace_13 : decode cX10_needPlace 13 = .ok (.dup, 1) := by decide +kernel
theorem dX10_needPlace_14 : decode cX10_needPlace 14 = .ok (.invokespecial 366, 3) := by decide +kernel
theorem dX10_needPlace_17 : decode cX10_needPlace 17 = .ok (.athrow, 1) := by decide +kernel
theorem dX10_needPlace_18 : decode cX10_needPlace 18 = .ok (.return_, 1) := by decide +kernel
theorem dX10_needMonk_0 : decode cX10_needMonk 0 = .ok (.iload_n 1, 1) := by decide +kernel
theorem dX10_needMonk_1 : decode cX10_needMonk 1 = .ok (.ifCond .lt 14, 3) := by decide +kernel
theorem dX10_needMonk_4 : decode cX10_needMonk 4 = .ok (.iload_n 1, 1) := by decide +kernel
theorem dX10_needMonk_5 : decode cX10_needMonk 5 = .ok (.aload_n 0, 1) := by decide +kernel
theorem dX10_needMonk_6 : decode cX10_needMonk 6 = .ok (.getfield 19, 3) := by decide +kernel
theorem dX10_needMonk_9 : decode cX10_needMonk 9 = .ok (.getfield 259, 3) := by decide +kernel
theorem dX10_needMonk_12 : decode cX10_needMonk 12 = .ok (.if_icmp .lt 11, 3) := by decide +kernel
theorem dX10_needMonk_15 : decode cX10_needMonk 15 = .ok (.new 364, 3) := by decide +kernel
theorem dX10_needMonk_18 : decode cX10_needMonk 18 = .ok (.dup, 1) := by decide +kernel
theorem dX10_needMonk_19 : decode cX10_needMonk 19 = .ok (.invokespecial 366, 3) := by decide +kernel
theorem dX10_needMonk_22 : decode cX10_needMonk 22 = .ok (.athrow, 1) := by decide +kernel
theorem dX10_needMonk_23 : decode cX10_needMonk 23 = .ok (.return_, 1) := by decide +kernel
theorem dX10_needDuty_0 : decode cX10_needDuty 0 = .ok (.iload_n 1, 1) := by decide +kernel
theorem dX10_needDuty_1 : decode cX10_needDuty 1 = .ok (.ifCond .lt 14, 3) := by decide +kernel
theorem dX10_needDuty_4 : decode cX10_needDuty 4 = .ok (.iload_n 1, 1) := by decide +kernel
theorem dX10_needDuty_5 : decode cX10_needDuty 5 = .ok (.aload_n 0, 1) := by decide +kernel
theorem dX10_needDuty_6 : decode cX10_needDuty 6 = .ok (.getfield 19, 3) := by decide +kernel
theorem dX10_needDuty_9 : decode cX10_needDuty 9 = .ok (.getfield 309, 3) := by decide +kernel
theorem dX10_needDuty_12 : decode cX10_needDuty 12 = .ok (.if_icmp .lt 11, 3) := by decide +kernel
theorem dX10_needDuty_15 : decode cX10_needDuty 15 = .ok (.new 364, 3) := by decide +kernel
theorem dX10_needDuty_18 : decode cX10_needDuty 18 = .ok (.dup, 1) := by decide +kernel
theorem dX10_needDuty_19 : decode cX10_needDuty 19 = .ok (.invokespecial 366, 3) := by decide +kernel
theorem dX10_needDuty_22 : decode cX10_needDuty 22 = .ok (.athrow, 1) := by decide +kernel
theorem dX10_needDuty_23 : decode cX10_needDuty 23 = .ok (.return_, 1) := by decide +kernel
theorem dX10_needAlive_0 : decode cX10_needAlive 0 = .ok (.aload_n 0, 1) := by decide +kernel
theorem dX10_needAlive_1 : decode cX10_needAlive 1 = .ok (.getfield 19, 3) := by decide +kernel
theorem dX10_needAlive_4 : decode cX10_needAlive 4 = .ok (.iload_n 1, 1) := by decide +kernel
theorem dX10_needAlive_5 : decode cX10_needAlive 5 = .ok (.invokevirtual 165, 3) := by decide +kernel
theorem dX10_needAlive_8 : decode cX10_needAlive 8 = .ok (.ifCond .eq 11, 3) := by decide +kernel
theorem dX10_needAlive_11 : decode cX10_needAlive 11 = .ok (.new 367, 3) := by decide +kernel
theorem dX10_needAlive_14 : decode cX10_needAlive 14 = .ok (.dup, 1) := by decide +kernel
theorem dX10_needAlive_15 : decode cX10_needAlive 15 = .ok (.invokespecial 369, 3) := by decide +kernel
theorem dX10_needAlive_18 : decode cX10_needAlive 18 = .ok (.athrow, 1) := by decide +kernel
theorem dX10_needAlive_19 : decode cX10_needAlive 19 = .ok (.return_, 1) := by decide +kernel
theorem dX10_needPrint_0 : decode cX10_needPrint 0 = .ok (.aload_n 0, 1) := by decide +kernel
theorem dX10_needPrint_1 : decode cX10_needPrint 1 = .ok (.iload_n 1, 1) := by decide +kernel
theorem dX10_needPrint_2 : decode cX10_needPrint 2 = .ok (.bipush (-3), 2) := by decide +kernel
theorem dX10_needPrint_4 : decode cX10_needPrint 4 = .ok (.iconst 3, 1) := by decide +kernel
theorem dX10_needPrint_5 : decode cX10_needPrint 5 = .ok (.invokevirtual 192, 3) := by decide +kernel
theorem dX10_needPrint_8 : decode cX10_needPrint 8 = .ok (.return_, 1) := by decide +kernel
theorem dX10_needWithin_0 : decode cX10_needWithin 0 = .ok (.iload_n 1, 1) := by decide +kernel
theorem dX10_needWithin_1 : decode cX10_needWithin 1 = .ok (.iload_n 2, 1) := by decide +kernel
theorem dX10_needWithin_2 : decode cX10_needWithin 2 = .ok (.if_icmp .lt 8, 3) := by decide +kernel
theorem dX10_needWithin_5 : decode cX10_needWithin 5 = .ok (.iload_n 1, 1) := by decide +kernel
theorem dX10_needWithin_6 : decode cX10_needWithin 6 = .ok (.iload_n 3, 1) := by decide +kernel
theorem dX10_needWithin_7 : decode cX10_needWithin 7 = .ok (.if_icmp .le 11, 3) := by decide +kernel
theorem dX10_needWithin_10 : decode cX10_needWithin 10 = .ok (.new 115, 3) := by decide +kernel
theorem dX10_needWithin_13 : decode cX10_needWithin 13 = .ok (.dup, 1) := by decide +kernel
theorem dX10_needWithin_14 : decode cX10_needWithin 14 = .ok (.invokespecial 117, 3) := by decide +kernel
theorem dX10_needWithin_17 : decode cX10_needWithin 17 = .ok (.athrow, 1) := by decide +kernel
theorem dX10_needWithin_18 : decode cX10_needWithin 18 = .ok (.return_, 1) := by decide +kernel
theorem dX10_hoursNoDeeper_0 : decode cX10_hoursNoDeeper 0 = .ok (.aload_n 0, 1) := by decide +kernel
theorem dX10_hoursNoDeeper_1 : decode cX10_hoursNoDeeper 1 = .ok (.getfield 72, 3) := by decide +kernel
theorem dX10_hoursNoDeeper_4 : decode cX10_hoursNoDeeper 4 = .ok (.aload_n 0, 1) := by decide +kernel
theorem dX10_hoursNoDeeper_5 : decode cX10_hoursNoDeeper 5 = .ok (.getfield 19, 3) := by decide +kernel
theorem dX10_hoursNoDeeper_8 : decode cX10_hoursNoDeeper 8 = .ok (.invokevirtual 252, 3) := by decide +kernel
theorem dX10_hoursNoDeeper_11 : decode cX10_hoursNoDeeper 11 = .ok (.iconst 0, 1) := by decide +kernel
theorem dX10_hoursNoDeeper_12 : decode cX10_hoursNoDeeper 12 = .ok (.istore 4, 2) := by decide +kernel
theorem dX10_hoursNoDeeper_14 : decode cX10_hoursNoDeeper 14 = .ok (.iconst 0, 1) := by decide +kernel
theorem dX10_hoursNoDeeper_15 : decode cX10_hoursNoDeeper 15 = .ok (.istore 5, 2) := by decide +kernel
theorem dX10_hoursNoDeeper_17 : decode cX10_hoursNoDeeper 17 = .ok (.iload 5, 2) := by decide +kernel
theorem dX10_hoursNoDeeper_19 : decode cX10_hoursNoDeeper 19 = .ok (.aload_n 0, 1) := by decide +kernel
theorem dX10_hoursNoDeeper_20 : decode cX10_hoursNoDeeper 20 = .ok (.getfield 19, 3) := by decide +kernel
theorem dX10_hoursNoDeeper_23 : decode cX10_hoursNoDeeper 23 = .ok (.getfield 242, 3) := by decide +kernel
theorem dX10_hoursNoDeeper_26 : decode cX10_hoursNoDeeper 26 = .ok (.if_icmp .ge 47, 3) := by decide +kernel
theorem dX10_hoursNoDeeper_29 : decode cX10_hoursNoDeeper 29 = .ok (.aload_n 0, 1) := by decide +kernel
theorem dX10_hoursNoDeeper_30 : decode cX10_hoursNoDeeper 30 = .ok (.getfield 72, 3) := by decide +kernel
theorem dX10_hoursNoDeeper_33 : decode cX10_hoursNoDeeper 33 = .ok (.aload_n 0, 1) := by decide +kernel
theorem dX10_hoursNoDeeper_34 : decode cX10_hoursNoDeeper 34 = .ok (.getfield 19, 3) := by decide +kernel
theorem dX10_hoursNoDeeper_37 : decode cX10_hoursNoDeeper 37 = .ok (.iload_n 3, 1) := by decide +kernel
theorem dX10_hoursNoDeeper_38 : decode cX10_hoursNoDeeper 38 = .ok (.aload_n 0, 1) := by decide +kernel
theorem dX10_hoursNoDeeper_39 : decode cX10_hoursNoDeeper 39 = .ok (.getfield 19, 3) := by decide +kernel
theorem dX10_hoursNoDeeper_42 : decode cX10_hoursNoDeeper 42 = .ok (.getfield 242, 3) := by decide +kernel
theorem dX10_hoursNoDeeper_45 : decode cX10_hoursNoDeeper 45 = .ok (.imul, 1) := by decide +kernel
theorem dX10_hoursNoDeeper_46 : decode cX10_hoursNoDeeper 46 = .ok (.iload 5, 2) := by decide +kernel
theorem dX10_hoursNoDeeper_48 : decode cX10_hoursNoDeeper 48 = .ok (.iadd, 1) := by decide +kernel
theorem dX10_hoursNoDeeper_49 : decode cX10_hoursNoDeeper 49 = .ok (.iload_n 2, 1) := by decide +kernel
theorem dX10_hoursNoDeeper_50 : decode cX10_hoursNoDeeper 50 = .ok (.invokevirtual 370, 3) := by decide +kernel
theorem dX10_hoursNoDeeper_53 : decode cX10_hoursNoDeeper 53 = .ok (.istore 6, 2) := by decide +kernel
theorem dX10_hoursNoDeeper_55 : decode cX10_hoursNoDeeper 55 = .ok (.iload_n 1, 1) := by decide +kernel
theorem dX10_hoursNoDeeper_56 : decode cX10_hoursNoDeeper 56 = .ok (.iload 6, 2) := by decide +kernel
theorem dX10_hoursNoDeeper_58 : decode cX10_hoursNoDeeper 58 = .ok (.iconst (-1), 1) := by decide +kernel
theorem dX10_hoursNoDeeper_59 : decode cX10_hoursNoDeeper 59 = .ok (.ixor, 1) := by decide +kernel
theorem dX10_hoursNoDeeper_60 : decode cX10_hoursNoDeeper 60 = .ok (.iand, 1) := by decide +kernel
theorem dX10_hoursNoDeeper_61 : decode cX10_hoursNoDeeper 61 = .ok (.ifCond .ne 6, 3) := by decide +kernel
theorem dX10_hoursNoDeeper_64 : decode cX10_hoursNoDeeper 64 = .ok (.iinc 4 1, 3) := by decide +kernel
theorem dX10_hoursNoDeeper_67 : decode cX10_hoursNoDeeper 67 = .ok (.iinc 5 1, 3) := by decide +kernel
theorem dX10_hoursNoDeeper_70 : decode cX10_hoursNoDeeper 70 = .ok (.goto (-53), 3) := by decide +kernel
theorem dX10_hoursNoDeeper_73 : decode cX10_hoursNoDeeper 73 = .ok (.iload 4, 2) := by decide +kernel
theorem dX10_hoursNoDeeper_75 : decode cX10_hoursNoDeeper 75 = .ok (.ireturn, 1) := by decide +kernel
theorem dX10_useTold_0 : decode cX10_useTold 0 = .ok (.aload_n 0, 1) := by decide +kernel
theorem dX10_useTold_1 : decode cX10_useTold 1 = .ok (.getfield 10, 3) := by decide +kernel
theorem dX10_useTold_4 : decode cX10_useTold 4 = .ok (.getfield 100, 3) := by decide +kernel
theorem dX10_useTold_7 : decode cX10_useTold 7 = .ok (.istore_n 1, 1) := by decide +kernel
theorem dX10_useTold_8 : decode cX10_useTold 8 = .ok (.aload_n 0, 1) := by decide +kernel
theorem dX10_useTold_9 : decode cX10_useTold 9 = .ok (.getfield 10, 3) := by decide +kernel
theorem dX10_useTold_12 : decode cX10_useTold 12 = .ok (.iconst 0, 1) := by decide +kernel
theorem dX10_useTold_13 : decode cX10_useTold 13 = .ok (.putfield 100, 3) := by decide +kernel
theorem dX10_useTold_16 : decode cX10_useTold 16 = .ok (.aload_n 0, 1) := by decide +kernel
theorem dX10_useTold_17 : decode cX10_useTold 17 = .ok (.iload_n 1, 1) := by decide +kernel
theorem dX10_useTold_18 : decode cX10_useTold 18 = .ok (.iconst 0, 1) := by decide +kernel
theorem dX10_useTold_19 : decode cX10_useTold 19 = .ok (.bipush 40, 2) := by decide +kernel
theorem dX10_useTold_21 : decode cX10_useTold 21 = .ok (.invokevirtual 192, 3) := by decide +kernel
theorem dX10_useTold_24 : decode cX10_useTold 24 = .ok (.aload_n 0, 1) := by decide +kernel
theorem dX10_useTold_25 : decode cX10_useTold 25 = .ok (.iload_n 1, 1) := by decide +kernel
theorem dX10_useTold_26 : decode cX10_useTold 26 = .ok (.iconst 2, 1) := by decide +kernel
theorem dX10_useTold_27 : decode cX10_useTold 27 = .ok (.irem, 1) := by decide +kernel
theorem dX10_useTold_28 : decode cX10_useTold 28 = .ok (.iconst 0, 1) := by decide +kernel
theorem dX10_useTold_29 : decode cX10_useTold 29 = .ok (.iconst 0, 1) := by decide +kernel
theorem dX10_useTold_30 : decode cX10_useTold 30 = .ok (.invokevirtual 192, 3) := by decide +kernel
theorem dX10_useTold_33 : decode cX10_useTold 33 = .ok (.iconst 0, 1) := by decide +kernel
theorem dX10_useTold_34 : decode cX10_useTold 34 = .ok (.istore_n 2, 1) := by decide +kernel
theorem dX10_useTold_35 : decode cX10_useTold 35 = .ok (.iload_n 2, 1) := by decide +kernel
theorem dX10_useTold_36 : decode cX10_useTold 36 = .ok (.iload_n 1, 1) := by decide +kernel
theorem dX10_useTold_37 : decode cX10_useTold 37 = .ok (.if_icmp .ge 47, 3) := by decide +kernel
theorem dX10_useTold_40 : decode cX10_useTold 40 = .ok (.aload_n 0, 1) := by decide +kernel
theorem dX10_useTold_41 : decode cX10_useTold 41 = .ok (.aload_n 0, 1) := by decide +kernel
theorem dX10_useTold_42 : decode cX10_useTold 42 = .ok (.getfield 10, 3) := by decide +kernel
theorem dX10_useTold_45 : decode cX10_useTold 45 = .ok (.getfield 268, 3) := by decide +kernel
theorem dX10_useTold_48 : decode cX10_useTold 48 = .ok (.iload_n 2, 1) := by decide +kernel
theorem dX10_useTold_49 : decode cX10_useTold 49 = .ok (.invokestatic 147, 3) := by decide +kernel
theorem dX10_useTold_52 : decode cX10_useTold 52 = .ok (.iconst 0, 1) := by decide +kernel
theorem dX10_useTold_53 : decode cX10_useTold 53 = .ok (.bipush 11, 2) := by decide +kernel
theorem dX10_useTold_55 : decode cX10_useTold 55 = .ok (.invokevirtual 192, 3) := by decide +kernel
theorem dX10_useTold_58 : decode cX10_useTold 58 = .ok (.aload_n 0, 1) := by decide +kernel
theorem dX10_useTold_59 : decode cX10_useTold 59 = .ok (.aload_n 0, 1) := by decide +kernel
theorem dX10_useTold_60 : decode cX10_useTold 60 = .ok (.getfield 10, 3) := by decide +kernel
theorem dX10_useTold_63 : decode cX10_useTold 63 = .ok (.getfield 268, 3) := by decide +kernel
theorem dX10_useTold_66 : decode cX10_useTold 66 = .ok (.iload_n 2, 1) := by decide +kernel
theorem dX10_useTold_67 : decode cX10_useTold 67 = .ok (.iconst 1, 1) := by decide +kernel
theorem dX10_useTold_68 : decode cX10_useTold 68 = .ok (.iadd, 1) := by decide +kernel
theorem dX10_useTold_69 : decode cX10_useTold 69 = .ok (.invokestatic 147, 3) := by decide +kernel
theorem dX10_useTold_72 : decode cX10_useTold 72 = .ok (.iconst 0, 1) := by decide +kernel
theorem dX10_useTold_73 : decode cX10_useTold 73 = .ok (.bipush 12, 2) := by decide +kernel
theorem dX10_useTold_75 : decode cX10_useTold 75 = .ok (.invokevirtual 192, 3) := by decide +kernel
theorem dX10_useTold_78 : decode cX10_useTold 78 = .ok (.iinc 2 2, 3) := by decide +kernel
theorem dX10_useTold_81 : decode cX10_useTold 81 = .ok (.goto (-46), 3) := by decide +kernel
theorem dX10_useTold_84 : decode cX10_useTold 84 = .ok (.iload_n 1, 1) := by decide +kernel
theorem dX10_useTold_85 : decode cX10_useTold 85 = .ok (.ireturn, 1) := by decide +kernel
theorem dX10_misfits_0 : decode cX10_misfits 0 = .ok (.iconst 0, 1) := by decide +kernel
theorem dX10_misfits_1 : decode cX10_misfits 1 = .ok (.istore_n 3, 1) := by decide +kernel
theorem dX10_misfits_2 : decode cX10_misfits 2 = .ok (.iconst 0, 1) := by decide +kernel
theorem dX10_misfits_3 : decode cX10_misfits 3 = .ok (.istore 4, 2) := by decide +kernel
theorem dX10_misfits_5 : decode cX10_misfits 5 = .ok (.iload 4, 2) := by decide +kernel
theorem dX10_misfits_7 : decode cX10_misfits 7 = .ok (.iload_n 2, 1) := by decide +kernel
theorem dX10_misfits_8 : decode cX10_misfits 8 = .ok (.if_icmp .ge 77, 3) := by decide +kernel
theorem dX10_misfits_11 : decode cX10_misfits 11 = .ok (.aload_n 0, 1) := by decide +kernel
theorem dX10_misfits_12 : decode cX10_misfits 12 = .ok (.getfield 10, 3) := by decide +kernel
theorem dX10_misfits_15 : decode cX10_misfits 15 = .ok (.getfield 268, 3) := by decide +kernel
theorem dX10_misfits_18 : decode cX10_misfits 18 = .ok (.iload 4, 2) := by decide +kernel
theorem dX10_misfits_20 : decode cX10_misfits 20 = .ok (.invokestatic 147, 3) := by decide +kernel
theorem dX10_misfits_23 : decode cX10_misfits 23 = .ok (.istore 5, 2) := by decide +kernel
theorem dX10_misfits_25 : decode cX10_misfits 25 = .ok (.aload_n 0, 1) := by decide +kernel
theorem dX10_misfits_26 : decode cX10_misfits 26 = .ok (.getfield 10, 3) := by decide +kernel
theorem dX10_misfits_29 : decode cX10_misfits 29 = .ok (.getfield 268, 3) := by decide +kernel
theorem dX10_misfits_32 : decode cX10_misfits 32 = .ok (.iload 4, 2) := by decide +kernel
theorem dX10_misfits_34 : decode cX10_misfits 34 = .ok (.iconst 1, 1) := by decide +kernel
theorem dX10_misfits_35 : decode cX10_misfits 35 = .ok (.iadd, 1) := by decide +kernel
theorem dX10_misfits_36 : decode cX10_misfits 36 = .ok (.invokestatic 147, 3) := by decide +kernel
theorem dX10_misfits_39 : decode cX10_misfits 39 = .ok (.bipush 6, 2) := by decide +kernel
theorem dX10_misfits_41 : decode cX10_misfits 41 = .ok (.isub, 1) := by decide +kernel
theorem dX10_misfits_42 : decode cX10_misfits 42 = .ok (.istore 6, 2) := by decide +kernel
theorem dX10_misfits_44 : decode cX10_misfits 44 = .ok (.aload_n 0, 1) := by decide +kernel
theorem dX10_misfits_45 : decode cX10_misfits 45 = .ok (.getfield 19, 3) := by decide +kernel
theorem dX10_misfits_48 : decode cX10_misfits 48 = .ok (.iload_n 1, 1) := by decide +kernel
theorem dX10_misfits_49 : decode cX10_misfits 49 = .ok (.iload 5, 2) := by decide +kernel
theorem dX10_misfits_51 : decode cX10_misfits 51 = .ok (.invokevirtual 205, 3) := by decide +kernel
theorem dX10_misfits_54 : decode cX10_misfits 54 = .ok (.aload_n 0, 1) := by decide +kernel
theorem dX10_misfits_55 : decode cX10_misfits 55 = .ok (.getfield 19, 3) := by decide +kernel
theorem dX10_misfits_58 : decode cX10_misfits 58 = .ok (.aload_n 0, 1) := by decide +kernel
theorem dX10_misfits_59 : decode cX10_misfits 59 = .ok (.getfield 19, 3) := by decide +kernel
theorem dX10_misfits_62 : decode cX10_misfits 62 = .ok (.getfield 202, 3) := by decide +kernel
theorem dX10_misfits_65 : decode cX10_misfits 65 = .ok (.iload 5, 2) := by decide +kernel
theorem dX10_misfits_67 : decode cX10_misfits 67 = .ok (.invokevirtual 205, 3) := by decide +kernel
theorem dX10_misfits_70 : decode cX10_misfits 70 = .ok (.iload 6, 2) := by decide +kernel
theorem dX10_misfits_72 : decode cX10_misfits 72 = .ok (.iadd, 1) := by decide +kernel
theorem dX10_misfits_73 : decode cX10_misfits 73 = .ok (.if_icmp .eq 6, 3) := by decide +kernel
theorem dX10_misfits_76 : decode cX10_misfits 76 = .ok (.iinc 3 1, 3) := by decide +kernel
theorem dX10_misfits_79 : decode cX10_misfits 79 = .ok (.iinc 4 2, 3) := by decide +kernel
theorem dX10_misfits_82 : decode cX10_misfits 82 = .ok (.goto (-77), 3) := by decide +kernel
theorem dX10_misfits_85 : decode cX10_misfits 85 = .ok (.iload_n 3, 1) := by decide +kernel
theorem dX10_misfits_86 : decode cX10_misfits 86 = .ok (.ireturn, 1) := by decide +kernel
theorem dX10_trialCopy_0 : decode cX10_trialCopy 0 = .ok (.aload_n 0, 1) := by decide +kernel
theorem dX10_trialCopy_1 : decode cX10_trialCopy 1 = .ok (.getfield 23, 3) := by decide +kernel
theorem dX10_trialCopy_4 : decode cX10_trialCopy 4 = .ok (.aload_n 0, 1) := by decide +kernel
theorem dX10_trialCopy_5 : decode cX10_trialCopy 5 = .ok (.getfield 19, 3) := by decide +kernel
theorem dX10_trialCopy_8 : decode cX10_trialCopy 8 = .ok (.invokevirtual 124, 3) := by decide +kernel
theorem dX10_trialCopy_11 : decode cX10_trialCopy 11 = .ok (.aload_n 0, 1) := by decide +kernel
theorem dX10_trialCopy_12 : decode cX10_trialCopy 12 = .ok (.getfield 23, 3) := by decide +kernel
theorem dX10_trialCopy_15 : decode cX10_trialCopy 15 = .ok (.areturn, 1) := by decide +kernel
theorem dX10_dayOf_0 : decode cX10_dayOf 0 = .ok (.iload_n 0, 1) := by decide +kernel
theorem dX10_dayOf_1 : decode cX10_dayOf 1 = .ok (.ifCond .ge 7, 3) := by decide +kernel
theorem dX10_dayOf_4 : decode cX10_dayOf 4 = .ok (.iconst (-1), 1) := by decide +kernel
theorem dX10_dayOf_5 : decode cX10_dayOf 5 = .ok (.goto 7, 3) := by decide +kernel
theorem dX10_dayOf_8 : decode cX10_dayOf 8 = .ok (.iload_n 0, 1) := by decide +kernel
theorem dX10_dayOf_9 : decode cX10_dayOf 9 = .ok (.bipush 24, 2) := by decide +kernel
theorem dX10_dayOf_11 : decode cX10_dayOf 11 = .ok (.idiv, 1) := by decide +kernel
theorem dX10_dayOf_12 : decode cX10_dayOf 12 = .ok (.ireturn, 1) := by decide +kernel
theorem dX10_power_0 : decode cX10_power 0 = .ok (.lconst 1, 1) := by decide +kernel
theorem dX10_power_1 : decode cX10_power 1 = .ok (.lstore_n 2, 1) := by decide +kernel
theorem dX10_power_2 : decode cX10_power 2 = .ok (.iconst 0, 1) := by decide +kernel
theorem dX10_power_3 : decode cX10_power 3 = .ok (.istore 4, 2) := by decide +kernel
theorem dX10_power_5 : decode cX10_power 5 = .ok (.iload 4, 2) := by decide +kernel
theorem dX10_power_7 : decode cX10_power 7 = .ok (.iload_n 1, 1) := by decide +kernel
theorem dX10_power_8 : decode cX10_power 8 = .ok (.if_icmp .ge 14, 3) := by decide +kernel
theorem dX10_power_11 : decode cX10_power 11 = .ok (.lload_n 2, 1) := by decide +kernel
theorem dX10_power_12 : decode cX10_power 12 = .ok (.iload_n 0, 1) := by decide +kernel
theorem dX10_power_13 : decode cX10_power 13 = .ok (.i2l, 1) := by decide +kernel
theorem dX10_power_14 : decode cX10_power 14 = .ok (.lmul, 1) := by decide +kernel
theorem dX10_power_15 : decode cX10_power 15 = .ok (.lstore_n 2, 1) := by decide +kernel
theorem dX10_power_16 : decode cX10_power 16 = .ok (.iinc 4 1, 3) := by decide +kernel
theorem dX10_power_19 : decode cX10_power 19 = .ok (.goto (-14), 3) := by decide +kernel
theorem dX10_power_22 : decode cX10_power 22 = .ok (.lload_n 2, 1) := by decide +kernel
theorem dX10_power_23 : decode cX10_power 23 = .ok (.lreturn, 1) := by decide +kernel
theorem dX10_choices_0 : decode cX10_choices 0 = .ok (.lconst 1, 1) := by decide +kernel
theorem dX10_choices_1 : decode cX10_choices 1 = .ok (.lstore_n 2, 1) := by decide +kernel
theorem dX10_choices_2 : decode cX10_choices 2 = .ok (.iconst 1, 1) := by decide +kernel
theorem dX10_choices_3 : decode cX10_choices 3 = .ok (.istore 4, 2) := by decide +kernel
theorem dX10_choices_5 : decode cX10_choices 5 = .ok (.iload 4, 2) := by decide +kernel
theorem dX10_choices_7 : decode cX10_choices 7 = .ok (.iload_n 1, 1) := by decide +kernel
theorem dX10_choices_8 : decode cX10_choices 8 = .ok (.if_icmp .gt 23, 3) := by decide +kernel
theorem dX10_choices_11 : decode cX10_choices 11 = .ok (.lload_n 2, 1) := by decide +kernel
theorem dX10_choices_12 : decode cX10_choices 12 = .ok (.iload_n 0, 1) := by decide +kernel
theorem dX10_choices_13 : decode cX10_choices 13 = .ok (.iload_n 1, 1) := by decide +kernel
theorem dX10_choices_14 : decode cX10_choices 14 = .ok (.isub, 1) := by decide +kernel
theorem dX10_choices_15 : decode cX10_choices 15 = .ok (.iload 4, 2) := by decide +kernel
theorem dX10_choices_17 : decode cX10_choices 17 = .ok (.iadd, 1) := by decide +kernel
theorem dX10_choices_18 : decode cX10_choices 18 = .ok (.i2l, 1) := by decide +kernel
theorem dX10_choices_19 : decode cX10_choices 19 = .ok (.lmul, 1) := by decide +kernel
theorem dX10_choices_20 : decode cX10_choices 20 = .ok (.iload 4, 2) := by decide +kernel
theorem dX10_choices_22 : decode cX10_choices 22 = .ok (.i2l, 1) := by decide +kernel
theorem dX10_choices_23 : decode cX10_choices 23 = .ok (.ldiv, 1) := by decide +kernel
theorem dX10_choices_24 : decode cX10_choices 24 = .ok (.lstore_n 2, 1) := by decide +kernel
theorem dX10_choices_25 : decode cX10_choices 25 = .ok (.iinc 4 1, 3) := by decide +kernel
theorem dX10_choices_28 : decode cX10_choices 28 = .ok (.goto (-23), 3) := by decide +kernel
theorem dX10_choices_31 : decode cX10_choices 31 = .ok (.lload_n 2, 1) := by decide +kernel
theorem dX10_choices_32 : decode cX10_choices 32 = .ok (.lreturn, 1) := by decide +kernel
theorem dX10_has_0 : decode cX10_has 0 = .ok (.iload_n 1, 1) := by decide +kernel
theorem dX10_has_1 : decode cX10_has 1 = .ok (.ifCond .lt 22, 3) := by decide +kernel
theorem dX10_has_4 : decode cX10_has 4 = .ok (.iload_n 1, 1) := by decide +kernel
theorem dX10_has_5 : decode cX10_has 5 = .ok (.bipush 32, 2) := by decide +kernel
theorem dX10_has_7 : decode cX10_has 7 = .ok (.if_icmp .ge 16, 3) := by decide +kernel
theorem dX10_has_10 : decode cX10_has 10 = .ok (.iload_n 0, 1) := by decide +kernel
theorem dX10_has_11 : decode cX10_has 11 = .ok (.iload_n 1, 1) := by decide +kernel
theorem dX10_has_12 : decode cX10_has 12 = .ok (.ishr, 1) := by decide +kernel
theorem dX10_has_13 : decode cX10_has 13 = .ok (.iconst 1, 1) := by decide +kernel
theorem dX10_has_14 : decode cX10_has 14 = .ok (.iand, 1) := by decide +kernel
theorem dX10_has_15 : decode cX10_has 15 = .ok (.iconst 1, 1) := by decide +kernel
theorem dX10_has_16 : decode cX10_has 16 = .ok (.if_icmp .ne 7, 3) := by decide +kernel
theorem dX10_has_19 : decode cX10_has 19 = .ok (.iconst 1, 1) := by decide +kernel
theorem dX10_has_20 : decode cX10_has 20 = .ok (.goto 4, 3) := by decide +kernel
theorem dX10_has_23 : decode cX10_has 23 = .ok (.iconst 0, 1) := by decide +kernel
theorem dX10_has_24 : decode cX10_has 24 = .ok (.ireturn, 1) := by decide +kernel
theorem dX10_at_0 : decode cX10_at 0 = .ok (.iload_n 1, 1) := by decide +kernel
theorem dX10_at_1 : decode cX10_at 1 = .ok (.ifCond .lt 15, 3) := by decide +kernel
theorem dX10_at_4 : decode cX10_at 4 = .ok (.iload_n 1, 1) := by decide +kernel
theorem dX10_at_5 : decode cX10_at 5 = .ok (.aload_n 0, 1) := by decide +kernel
theorem dX10_at_6 : decode cX10_at 6 = .ok (.arraylength, 1) := by decide +kernel
theorem dX10_at_7 : decode cX10_at 7 = .ok (.if_icmp .ge 9, 3) := by decide +kernel
theorem dX10_at_10 : decode cX10_at 10 = .ok (.aload_n 0, 1) := by decide +kernel
theorem dX10_at_11 : decode cX10_at 11 = .ok (.iload_n 1, 1) := by decide +kernel
theorem dX10_at_12 : decode cX10_at 12 = .ok (.iaload, 1) := by decide +kernel
theorem dX10_at_13 : decode cX10_at 13 = .ok (.goto 4, 3) := by decide +kernel
theorem dX10_at_16 : decode cX10_at 16 = .ok (.iconst 0, 1) := by decide +kernel
theorem dX10_at_17 : decode cX10_at 17 = .ok (.ireturn, 1) := by decide +kernel
theorem dX10_put_0 : decode cX10_put 0 = .ok (.iload_n 1, 1) := by decide +kernel
theorem dX10_put_1 : decode cX10_put 1 = .ok (.ifCond .lt 13, 3) := by decide +kernel
theorem dX10_put_4 : decode cX10_put 4 = .ok (.iload_n 1, 1) := by decide +kernel
theorem dX10_put_5 : decode cX10_put 5 = .ok (.aload_n 0, 1) := by decide +kernel
theorem dX10_put_6 : decode cX10_put 6 = .ok (.arraylength, 1) := by decide +kernel
theorem dX10_put_7 : decode cX10_put 7 = .ok (.if_icmp .ge 7, 3) := by decide +kernel
theorem dX10_put_10 : decode cX10_put 10 = .ok (.aload_n 0, 1) := by decide +kernel
theorem dX10_put_11 : decode cX10_put 11 = .ok (.iload_n 1, 1) := by decide +kernel
theorem dX10_put_12 : decode cX10_put 12 = .ok (.iload_n 2, 1) := by decide +kernel
theorem dX10_put_13 : decode cX10_put 13 = .ok (.iastore, 1) := by decide +kernel
theorem dX10_put_14 : decode cX10_put 14 = .ok (.return_, 1) := by decide +kernel
theorem dX10_copyRow_0 : decode cX10_copyRow 0 = .ok (.aload_n 0, 1) := by decide +kernel
theorem dX10_copyRow_1 : decode cX10_copyRow 1 = .ok (.iconst 0, 1) := by decide +kernel
theorem dX10_copyRow_2 : decode cX10_copyRow 2 = .ok (.aload_n 1, 1) := by decide +kernel
theorem dX10_copyRow_3 : decode cX10_copyRow 3 = .ok (.iconst 0, 1) := by decide +kernel
theorem dX10_copyRow_4 : decode cX10_copyRow 4 = .ok (.aload_n 0, 1) := by decide +kernel
theorem dX10_copyRow_5 : decode cX10_copyRow 5 = .ok (.arraylength, 1) := by decide +kernel
theorem dX10_copyRow_6 : decode cX10_copyRow 6 = .ok (.aload_n 1, 1) := by decide +kernel
theorem dX10_copyRow_7 : decode cX10_copyRow 7 = .ok (.arraylength, 1) := by decide +kernel
theorem dX10_copyRow_8 : decode cX10_copyRow 8 = .ok (.invokestatic 334, 3) := by decide +kernel
theorem dX10_copyRow_11 : decode cX10_copyRow 11 = .ok (.invokestatic 373, 3) := by decide +kernel
theorem dX10_copyRow_14 : decode cX10_copyRow 14 = .ok (.return_, 1) := by decide +kernel
