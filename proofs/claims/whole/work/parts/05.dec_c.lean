-- decode rows (made by wip/whole/gen/names.py)
theorem dX11_thrown_0 : decode cX11_thrown 0 = .ok (.aload_n 0, 1) := by decide +kernel
theorem dX11_thrown_1 : decode cX11_thrown 1 = .ok (.getfield 3, 3) := by decide +kernel
theorem dX11_thrown_4 : decode cX11_thrown 4 = .ok (.ireturn, 1) := by decide +kernel
theorem dX11_throwsIf_0 : decode cX11_throwsIf 0 = .ok (.iload_n 1, 1) := by decide +kernel
theorem dX11_throwsIf_1 : decode cX11_throwsIf 1 = .ok (.ifCond .eq 8, 3) := by decide +kernel
theorem dX11_throwsIf_4 : decode cX11_throwsIf 4 = .ok (.aload_n 0, 1) := by decide +kernel
theorem dX11_throwsIf_5 : decode cX11_throwsIf 5 = .ok (.iload_n 2, 1) := by decide +kernel
theorem dX11_throwsIf_6 : decode cX11_throwsIf 6 = .ok (.putfield 3, 3) := by decide +kernel
theorem dX11_throwsIf_9 : decode cX11_throwsIf 9 = .ok (.iload_n 1, 1) := by decide +kernel
theorem dX11_throwsIf_10 : decode cX11_throwsIf 10 = .ok (.ireturn, 1) := by decide +kernel
theorem dX11_in_0 : decode cX11_in 0 = .ok (.iload_n 0, 1) := by decide +kernel
theorem dX11_in_1 : decode cX11_in 1 = .ok (.iload_n 1, 1) := by decide +kernel
theorem dX11_in_2 : decode cX11_in 2 = .ok (.if_icmp .lt 12, 3) := by decide +kernel
theorem dX11_in_5 : decode cX11_in 5 = .ok (.iload_n 0, 1) := by decide +kernel
theorem dX11_in_6 : decode cX11_in 6 = .ok (.iload_n 2, 1) := by decide +kernel
theorem dX11_in_7 : decode cX11_in 7 = .ok (.if_icmp .gt 7, 3) := by decide +kernel
theorem dX11_in_10 : decode cX11_in 10 = .ok (.iconst 1, 1) := by decide +kernel
theorem dX11_in_11 : decode cX11_in 11 = .ok (.goto 4, 3) := by decide +kernel
theorem dX11_in_14 : decode cX11_in 14 = .ok (.iconst 0, 1) := by decide +kernel
theorem dX11_in_15 : decode cX11_in 15 = .ok (.ireturn, 1) := by decide +kernel
theorem dX11_has_0 : decode cX11_has 0 = .ok (.iload_n 0, 1) := by decide +kernel
theorem dX11_has_1 : decode cX11_has 1 = .ok (.iload_n 1, 1) := by decide +kernel
theorem dX11_has_2 : decode cX11_has 2 = .ok (.ishr, 1) := by decide +kernel
theorem dX11_has_3 : decode cX11_has 3 = .ok (.iconst 1, 1) := by decide +kernel
theorem dX11_has_4 : decode cX11_has 4 = .ok (.iand, 1) := by decide +kernel
theorem dX11_has_5 : decode cX11_has 5 = .ok (.iconst 1, 1) := by decide +kernel
theorem dX11_has_6 : decode cX11_has 6 = .ok (.if_icmp .ne 7, 3) := by decide +kernel
theorem dX11_has_9 : decode cX11_has 9 = .ok (.iconst 1, 1) := by decide +kernel
theorem dX11_has_10 : decode cX11_has 10 = .ok (.goto 4, 3) := by decide +kernel
theorem dX11_has_13 : decode cX11_has 13 = .ok (.iconst 0, 1) := by decide +kernel
theorem dX11_has_14 : decode cX11_has 14 = .ok (.ireturn, 1) := by decide +kernel
theorem dX11_init_0 : decode cX11_init 0 = .ok (.aload_n 0, 1) := by decide +kernel
theorem dX11_init_1 : decode cX11_init 1 = .ok (.invokespecial 7, 3) := by decide +kernel
theorem dX11_init_4 : decode cX11_init 4 = .ok (.aload_n 0, 1) := by decide +kernel
theorem dX11_init_5 : decode cX11_init 5 = .ok (.sipush 2030, 3) := by decide +kernel
theorem dX11_init_8 : decode cX11_init 8 = .ok (.newarray .int, 2) := by decide +kernel
theorem dX11_init_10 : decode cX11_init 10 = .ok (.putfield 13, 3) := by decide +kernel
theorem dX11_init_13 : decode cX11_init 13 = .ok (.aload_n 0, 1) := by decide +kernel
theorem dX11_init_14 : decode cX11_init 14 = .ok (.sipush 1181, 3) := by decide +kernel
theorem dX11_init_17 : decode cX11_init 17 = .ok (.newarray .int, 2) := by decide +kernel
theorem dX11_init_19 : decode cX11_init 19 = .ok (.putfield 17, 3) := by decide +kernel
theorem dX11_init_22 : decode cX11_init 22 = .ok (.aload_n 0, 1) := by decide +kernel
theorem dX11_init_23 : decode cX11_init 23 = .ok (.sipush 1181, 3) := by decide +kernel
theorem dX11_init_26 : decode cX11_init 26 = .ok (.newarray .int, 2) := by decide +kernel
theorem dX11_init_28 : decode cX11_init 28 = .ok (.putfield 20, 3) := by decide +kernel
theorem dX11_init_31 : decode cX11_init 31 = .ok (.aload_n 0, 1) := by decide +kernel
theorem dX11_init_32 : decode cX11_init 32 = .ok (.sipush 332, 3) := by decide +kernel
theorem dX11_init_35 : decode cX11_init 35 = .ok (.newarray .int, 2) := by decide +kernel
theorem dX11_init_37 : decode cX11_init 37 = .ok (.putfield 23, 3) := by decide +kernel
theorem dX11_init_40 : decode cX11_init 40 = .ok (.aload_n 0, 1) := by decide +kernel
theorem dX11_init_41 : decode cX11_init 41 = .ok (.sipush 3984, 3) := by decide +kernel
theorem dX11_init_44 : decode cX11_init 44 = .ok (.newarray .int, 2) := by decide +kernel
theorem dX11_init_46 : decode cX11_init 46 = .ok (.putfield 26, 3) := by decide +kernel
theorem dX11_init_49 : decode cX11_init 49 = .ok (.aload_n 0, 1) := by decide +kernel
theorem dX11_init_50 : decode cX11_init 50 = .ok (.sipush 400, 3) := by decide +kernel
theorem dX11_init_53 : decode cX11_init 53 = .ok (.newarray .byte, 2) := by decide +kernel
theorem dX11_init_55 : decode cX11_init 55 = .ok (.putfield 29, 3) := by decide +kernel
theorem dX11_init_58 : decode cX11_init 58 = .ok (.aload_n 0, 1) := by decide +kernel
theorem dX11_init_59 : decode cX11_init 59 = .ok (.iconst (-1), 1) := by decide +kernel
theorem dX11_init_60 : decode cX11_init 60 = .ok (.putfield 33, 3) := by decide +kernel
theorem dX11_init_63 : decode cX11_init 63 = .ok (.aload_n 0, 1) := by decide +kernel
theorem dX11_init_64 : decode cX11_init 64 = .ok (.iconst 5, 1) := by decide +kernel
theorem dX11_init_65 : decode cX11_init 65 = .ok (.newarray .int, 2) := by decide +kernel
theorem dX11_init_67 : decode cX11_init 67 = .ok (.putfield 36, 3) := by decide +kernel
theorem dX11_init_70 : decode cX11_init 70 = .ok (.aload_n 0, 1) := by decide +kernel
theorem dX11_init_71 : decode cX11_init 71 = .ok (.sipush 400, 3) := by decide +kernel
theorem dX11_init_74 : decode cX11_init 74 = .ok (.newarray .int, 2) := by decide +kernel
theorem dX11_init_76 : decode cX11_init 76 = .ok (.putfield 39, 3) := by decide +kernel
theorem dX11_init_79 : decode cX11_init 79 = .ok (.aload_n 0, 1) := by decide +kernel
theorem dX11_init_80 : decode cX11_init 80 = .ok (.bipush 36, 2) := by decide +kernel
theorem dX11_init_82 : decode cX11_init 82 = .ok (.newarray .int, 2) := by decide +kernel
theorem dX11_init_84 : decode cX11_init 84 = .ok (.putfield 42, 3) := by decide +kernel
theorem dX11_init_87 : decode cX11_init 87 = .ok (.aload_n 0, 1) := by decide +kernel
theorem dX11_init_88 : decode cX11_init 88 = .ok (.sipush 448, 3) := by decide +kernel
theorem dX11_init_91 : decode cX11_init 91 = .ok (.newarray .int, 2) := by decide +kernel
theorem dX11_init_93 : decode cX11_init 93 = .ok (.putfield 45, 3) := by decide +kernel
theorem dX11_init_96 : decode cX11_init 96 = .ok (.aload_n 0, 1) := by decide +kernel
theorem dX11_init_97 : decode cX11_init 97 = .ok (.bipush 7, 2) := by decide +kernel
theorem dX11_init_99 : decode cX11_init 99 = .ok (.newarray .int, 2) := by decide +kernel
theorem dX11_init_101 : decode cX11_init 101 = .ok (.putfield 48, 3) := by decide +kernel
theorem dX11_init_104 : decode cX11_init 104 = .ok (.aload_n 0, 1) := by decide +kernel
theorem dX11_init_105 : decode cX11_init 105 = .ok (.bipush 7, 2) := by decide +kernel
theorem dX11_init_107 : decode cX11_init 107 = .ok (.newarray .int, 2) := by decide +kernel
theorem dX11_init_109 : decode cX11_init 109 = .ok (.putfield 51, 3) := by decide +kernel
theorem dX11_init_112 : decode cX11_init 112 = .ok (.aload_n 0, 1) := by decide +kernel
theorem dX11_init_113 : decode cX11_init 113 = .ok (.bipush 7, 2) := by decide +kernel
theorem dX11_init_115 : decode cX11_init 115 = .ok (.newarray .int, 2) := by decide +kernel
theorem dX11_init_117 : decode cX11_init 117 = .ok (.putfield 54, 3) := by decide +kernel
theorem dX11_init_120 : decode cX11_init 120 = .ok (.aload_n 0, 1) := by decide +kernel
theorem dX11_init_121 : decode cX11_init 121 = .ok (.bipush 6, 2) := by decide +kernel
theorem dX11_init_123 : decode cX11_init 123 = .ok (.newarray .int, 2) := by decide +kernel
theorem dX11_init_125 : decode cX11_init 125 = .ok (.putfield 57, 3) := by decide +kernel
theorem dX11_init_128 : decode cX11_init 128 = .ok (.aload_n 0, 1) := by decide +kernel
theorem dX11_init_129 : decode cX11_init 129 = .ok (.getfield 13, 3) := by decide +kernel
theorem dX11_init_132 : decode cX11_init 132 = .ok (.iconst 5, 1) := by decide +kernel
theorem dX11_init_133 : decode cX11_init 133 = .ok (.bipush 12, 2) := by decide +kernel
theorem dX11_init_135 : decode cX11_init 135 = .ok (.iastore, 1) := by decide +kernel
theorem dX11_init_136 : decode cX11_init 136 = .ok (.aload_n 0, 1) := by decide +kernel
theorem dX11_init_137 : decode cX11_init 137 = .ok (.getfield 13, 3) := by decide +kernel
theorem dX11_init_140 : decode cX11_init 140 = .ok (.bipush 6, 2) := by decide +kernel
theorem dX11_init_142 : decode cX11_init 142 = .ok (.bipush 14, 2) := by decide +kernel
theorem dX11_init_144 : decode cX11_init 144 = .ok (.iastore, 1) := by decide +kernel
theorem dX11_init_145 : decode cX11_init 145 = .ok (.aload_n 0, 1) := by decide +kernel
theorem dX11_init_146 : decode cX11_init 146 = .ok (.getfield 13, 3) := by decide +kernel
theorem dX11_init_149 : decode cX11_init 149 = .ok (.bipush 7, 2) := by decide +kernel
theorem dX11_init_151 : decode cX11_init 151 = .ok (.bipush 6, 2) := by decide +kernel
theorem dX11_init_153 : decode cX11_init 153 = .ok (.iastore, 1) := by decide +kernel
theorem dX11_init_154 : decode cX11_init 154 = .ok (.aload_n 0, 1) := by decide +kernel
theorem dX11_init_155 : decode cX11_init 155 = .ok (.getfield 13, 3) := by decide +kernel
theorem dX11_init_158 : decode cX11_init 158 = .ok (.bipush 8, 2) := by decide +kernel
theorem dX11_init_160 : decode cX11_init 160 = .ok (.bipush 12, 2) := by decide +kernel
theorem dX11_init_162 : decode cX11_init 162 = .ok (.iastore, 1) := by decide +kernel
theorem dX11_init_163 : decode cX11_init 163 = .ok (.aload_n 0, 1) := by decide +kernel
theorem dX11_init_164 : decode cX11_init 164 = .ok (.getfield 13, 3) := by decide +kernel
theorem dX11_init_167 : decode cX11_init 167 = .ok (.bipush 13, 2) := by decide +kernel
theorem dX11_init_169 : decode cX11_init 169 = .ok (.iconst 1, 1) := by decide +kernel
theorem dX11_init_170 : decode cX11_init 170 = .ok (.iastore, 1) := by decide +kernel
theorem dX11_init_171 : decode cX11_init 171 = .ok (.return_, 1) := by decide +kernel
theorem dX11_image_0 : decode cX11_image 0 = .ok (.aload_n 0, 1) := by decide +kernel
theorem dX11_image_1 : decode cX11_image 1 = .ok (.iconst 0, 1) := by decide +kernel
theorem dX11_image_2 : decode cX11_image 2 = .ok (.putfield 3, 3) := by decide +kernel
theorem dX11_image_5 : decode cX11_image 5 = .ok (.iconst 0, 1) := by decide +kernel
theorem dX11_image_6 : decode cX11_image 6 = .ok (.istore_n 1, 1) := by decide +kernel
theorem dX11_image_7 : decode cX11_image 7 = .ok (.iload_n 1, 1) := by decide +kernel
theorem dX11_image_8 : decode cX11_image 8 = .ok (.sipush 1181, 3) := by decide +kernel
theorem dX11_image_11 : decode cX11_image 11 = .ok (.if_icmp .ge 21, 3) := by decide +kernel
theorem dX11_image_14 : decode cX11_image 14 = .ok (.aload_n 0, 1) := by decide +kernel
theorem dX11_image_15 : decode cX11_image 15 = .ok (.getfield 17, 3) := by decide +kernel
theorem dX11_image_18 : decode cX11_image 18 = .ok (.iload_n 1, 1) := by decide +kernel
theorem dX11_image_19 : decode cX11_image 19 = .ok (.aload_n 0, 1) := by decide +kernel
theorem dX11_image_20 : decode cX11_image 20 = .ok (.getfield 13, 3) := by decide +kernel
theorem dX11_image_23 : decode cX11_image 23 = .ok (.iload_n 1, 1) := by decide +kernel
theorem dX11_image_24 : decode cX11_image 24 = .ok (.iaload, 1) := by decide +kernel
theorem dX11_image_25 : decode cX11_image 25 = .ok (.iastore, 1) := by decide +kernel
theorem dX11_image_26 : decode cX11_image 26 = .ok (.iinc 1 1, 3) := by decide +kernel
theorem dX11_image_29 : decode cX11_image 29 = .ok (.goto (-22), 3) := by decide +kernel
theorem dX11_image_32 : decode cX11_image 32 = .ok (.aload_n 0, 1) := by decide +kernel
theorem dX11_image_33 : decode cX11_image 33 = .ok (.iconst 1, 1) := by decide +kernel
theorem dX11_image_34 : decode cX11_image 34 = .ok (.putfield 60, 3) := by decide +kernel
theorem dX11_image_37 : decode cX11_image 37 = .ok (.return_, 1) := by decide +kernel
theorem dX11_back_0 : decode cX11_back 0 = .ok (.aload_n 0, 1) := by decide +kernel
theorem dX11_back_1 : decode cX11_back 1 = .ok (.iconst 0, 1) := by decide +kernel
theorem dX11_back_2 : decode cX11_back 2 = .ok (.putfield 3, 3) := by decide +kernel
theorem dX11_back_5 : decode cX11_back 5 = .ok (.aload_n 0, 1) := by decide +kernel
theorem dX11_back_6 : decode cX11_back 6 = .ok (.getfield 60, 3) := by decide +kernel
theorem dX11_back_9 : decode cX11_back 9 = .ok (.ifCond .ne 5, 3) := by decide +kernel
theorem dX11_back_12 : decode cX11_back 12 = .ok (.iconst 0, 1) := by decide +kernel
theorem dX11_back_13 : decode cX11_back 13 = .ok (.ireturn, 1) := by decide +kernel
theorem dX11_back_14 : decode cX11_back 14 = .ok (.iconst 0, 1) := by decide +kernel
theorem dX11_back_15 : decode cX11_back 15 = .ok (.istore_n 1, 1) := by decide +kernel
theorem dX11_back_16 : decode cX11_back 16 = .ok (.iload_n 1, 1) := by decide +kernel
theorem dX11_back_17 : decode cX11_back 17 = .ok (.sipush 1181, 3) := by decide +kernel
theorem dX11_back_20 : decode cX11_back 20 = .ok (.if_icmp .ge 21, 3) := by decide +kernel
theorem dX11_back_23 : decode cX11_back 23 = .ok (.aload_n 0, 1) := by decide +kernel
theorem dX11_back_24 : decode cX11_back 24 = .ok (.getfield 13, 3) := by decide +kernel
theorem dX11_back_27 : decode cX11_back 27 = .ok (.iload_n 1, 1) := by decide +kernel
theorem dX11_back_28 : decode cX11_back 28 = .ok (.aload_n 0, 1) := by decide +kernel
theorem dX11_back_29 : decode cX11_back 29 = .ok (.getfield 17, 3) := by decide +kernel
theorem dX11_back_32 : decode cX11_back 32 = .ok (.iload_n 1, 1) := by decide +kernel
theorem dX11_back_33 : decode cX11_back 33 = .ok (.iaload, 1) := by decide +kernel
theorem dX11_back_34 : decode cX11_back 34 = .ok (.iastore, 1) := by decide +kernel
theorem dX11_back_35 : decode cX11_back 35 = .ok (.iinc 1 1, 3) := by decide +kernel
theorem dX11_back_38 : decode cX11_back 38 = .ok (.goto (-22), 3) := by decide +kernel
theorem dX11_back_41 : decode cX11_back 41 = .ok (.aload_n 0, 1) := by decide +kernel
theorem dX11_back_42 : decode cX11_back 42 = .ok (.iconst 0, 1) := by decide +kernel
theorem dX11_back_43 : decode cX11_back 43 = .ok (.putfield 64, 3) := by decide +kernel
theorem dX11_back_46 : decode cX11_back 46 = .ok (.iconst 1, 1) := by decide +kernel
theorem dX11_back_47 : decode cX11_back 47 = .ok (.ireturn, 1) := by decide +kernel
theorem dX11_remembers_0 : decode cX11_remembers 0 = .ok (.aload_n 0, 1) := by decide +kernel
theorem dX11_remembers_1 : decode cX11_remembers 1 = .ok (.getfield 64, 3) := by decide +kernel
theorem dX11_remembers_4 : decode cX11_remembers 4 = .ok (.bipush 12, 2) := by decide +kernel
theorem dX11_remembers_6 : decode cX11_remembers 6 = .ok (.if_icmp .ne 37, 3) := by decide +kernel
theorem dX11_remembers_9 : decode cX11_remembers 9 = .ok (.iconst 0, 1) := by decide +kernel
theorem dX11_remembers_10 : decode cX11_remembers 10 = .ok (.istore_n 1, 1) := by decide +kernel
theorem dX11_remembers_11 : decode cX11_remembers 11 = .ok (.iload_n 1, 1) := by decide +kernel
theorem dX11_remembers_12 : decode cX11_remembers 12 = .ok (.sipush 3652, 3) := by decide +kernel
theorem dX11_remembers_15 : decode cX11_remembers 15 = .ok (.if_icmp .ge 25, 3) := by decide +kernel
theorem dX11_remembers_18 : decode cX11_remembers 18 = .ok (.aload_n 0, 1) := by decide +kernel
theorem dX11_remembers_19 : decode cX11_remembers 19 = .ok (.getfield 26, 3) := by decide +kernel
theorem dX11_remembers_22 : decode cX11_remembers 22 = .ok (.iload_n 1, 1) := by decide +kernel
theorem dX11_remembers_23 : decode cX11_remembers 23 = .ok (.aload_n 0, 1) := by decide +kernel
theorem dX11_remembers_24 : decode cX11_remembers 24 = .ok (.getfield 26, 3) := by decide +kernel
theorem dX11_remembers_27 : decode cX11_remembers 27 = .ok (.iload_n 1, 1) := by decide +kernel
theorem dX11_remembers_28 : decode cX11_remembers 28 = .ok (.sipush 332, 3) := by decide +kernel
theorem dX11_remembers_31 : decode cX11_remembers 31 = .ok (.iadd, 1) := by decide +kernel
theorem dX11_remembers_32 : decode cX11_remembers 32 = .ok (.iaload, 1) := by decide +kernel
theorem dX11_remembers_33 : decode cX11_remembers 33 = .ok (.iastore, 1) := by decide +kernel
theorem dX11_remembers_34 : decode cX11_remembers 34 = .ok (.iinc 1 1, 3) := by decide +kernel
theorem dX11_remembers_37 : decode cX11_remembers 37 = .ok (.goto (-26), 3) := by decide +kernel
theorem dX11_remembers_40 : decode cX11_remembers 40 = .ok (.goto 13, 3) := by decide +kernel
theorem dX11_remembers_43 : decode cX11_remembers 43 = .ok (.aload_n 0, 1) := by decide +kernel
theorem dX11_remembers_44 : decode cX11_remembers 44 = .ok (.dup, 1) := by decide +kernel
theorem dX11_remembers_45 : decode cX11_remembers 45 = .ok (.getfield 64, 3) := by decide +kernel
theorem dX11_remembers_48 : decode cX11_remembers 48 = .ok (.iconst 1, 1) := by decide +kernel
theorem dX11_remembers_49 : decode cX11_remembers 49 = .ok (.iadd, 1) := by decide +kernel
theorem dX11_remembers_50 : decode cX11_remembers 50 = .ok (.putfield 64, 3) := by decide +kernel
theorem dX11_remembers_53 : decode cX11_remembers 53 = .ok (.iconst 0, 1) := by decide +kernel
theorem dX11_remembers_54 : decode cX11_remembers 54 = .ok (.istore_n 1, 1) := by decide +kernel
theorem dX11_remembers_55 : decode cX11_remembers 55 = .ok (.iload_n 1, 1) := by decide +kernel
theorem dX11_remembers_56 : decode cX11_remembers 56 = .ok (.sipush 332, 3) := by decide +kernel
theorem dX11_remembers_59 : decode cX11_remembers 59 = .ok (.if_icmp .ge 32, 3) := by decide +kernel
theorem dX11_remembers_62 : decode cX11_remembers 62 = .ok (.aload_n 0, 1) := by decide +kernel
theorem dX11_remembers_63 : decode cX11_remembers 63 = .ok (.getfield 26, 3) := by decide +kernel
theorem dX11_remembers_66 : decode cX11_remembers 66 = .ok (.sipush 332, 3) := by decide +kernel
theorem dX11_remembers_69 : decode cX11_remembers 69 = .ok (.aload_n 0, 1) := by decide +kernel
theorem dX11_remembers_70 : decode cX11_remembers 70 = .ok (.getfield 64, 3) := by decide +kernel
theorem dX11_remembers_73 : decode cX11_remembers 73 = .ok (.iconst 1, 1) := by decide +kernel
theorem dX11_remembers_74 : decode cX11_remembers 74 = .ok (.isub, 1) := by decide +kernel
theorem dX11_remembers_75 : decode cX11_remembers 75 = .ok (.imul, 1) := by decide +kernel
theorem dX11_remembers_76 : decode cX11_remembers 76 = .ok (.iload_n 1, 1) := by decide +kernel
theorem dX11_remembers_77 : decode cX11_remembers 77 = .ok (.iadd, 1) := by decide +kernel
theorem dX11_remembers_78 : decode cX11_remembers 78 = .ok (.aload_n 0, 1) := by decide +kernel
theorem dX11_remembers_79 : decode cX11_remembers 79 = .ok (.getfield 13, 3) := by decide +kernel
theorem dX11_remembers_82 : decode cX11_remembers 82 = .ok (.iload_n 1, 1) := by decide +kernel
theorem dX11_remembers_83 : decode cX11_remembers 83 = .ok (.iaload, 1) := by decide +kernel
theorem dX11_remembers_84 : decode cX11_remembers 84 = .ok (.iastore, 1) := by decide +kernel
theorem dX11_remembers_85 : decode cX11_remembers 85 = .ok (.iinc 1 1, 3) := by decide +kernel
theorem dX11_remembers_88 : decode cX11_remembers 88 = .ok (.goto (-33), 3) := by decide +kernel
theorem dX11_remembers_91 : decode cX11_remembers 91 = .ok (.return_, 1) := by decide +kernel
theorem dX11_undo_0 : decode cX11_undo 0 = .ok (.aload_n 0, 1) := by decide +kernel
theorem dX11_undo_1 : decode cX11_undo 1 = .ok (.iconst 0, 1) := by decide +kernel
theorem dX11_undo_2 : decode cX11_undo 2 = .ok (.putfield 3, 3) := by decide +kernel
theorem dX11_undo_5 : decode cX11_undo 5 = .ok (.aload_n 0, 1) := by decide +kernel
theorem dX11_undo_6 : decode cX11_undo 6 = .ok (.getfield 64, 3) := by decide +kernel
theorem dX11_undo_9 : decode cX11_undo 9 = .ok (.ifCond .ne 5, 3) := by decide +kernel
theorem dX11_undo_12 : decode cX11_undo 12 = .ok (.iconst 0, 1) := by decide +kernel
theorem dX11_undo_13 : decode cX11_undo 13 = .ok (.ireturn, 1) := by decide +kernel
theorem dX11_undo_14 : decode cX11_undo 14 = .ok (.aload_n 0, 1) := by decide +kernel
theorem dX11_undo_15 : decode cX11_undo 15 = .ok (.dup, 1) := by decide +kernel
theorem dX11_undo_16 : decode cX11_undo 16 = .ok (.getfield 64, 3) := by decide +kernel
theorem dX11_undo_19 : decode cX11_undo 19 = .ok (.iconst 1, 1) := by decide +kernel
theorem dX11_undo_20 : decode cX11_undo 20 = .ok (.isub, 1) := by decide +kernel
theorem dX11_undo_21 : decode cX11_undo 21 = .ok (.putfield 64, 3) := by decide +kernel
theorem dX11_undo_24 : decode cX11_undo 24 = .ok (.iconst 0, 1) := by decide +kernel
theorem dX11_undo_25 : decode cX11_undo 25 = .ok (.istore_n 1, 1) := by decide +kernel
theorem dX11_undo_26 : decode cX11_undo 26 = .ok (.iload_n 1, 1) := by decide +kernel
theorem dX11_undo_27 : decode cX11_undo 27 = .ok (.sipush 332, 3) := by decide +kernel
theorem dX11_undo_30 : decode cX11_undo 30 = .ok (.if_icmp .ge 30, 3) := by decide +kernel
theorem dX11_undo_33 : decode cX11_undo 33 = .ok (.aload_n 0, 1) := by decide +kernel
theorem dX11_undo_34 : decode cX11_undo 34 = .ok (.getfield 13, 3) := by decide +kernel
theorem dX11_undo_37 : decode cX11_undo 37 = .ok (.iload_n 1, 1) := by decide +kernel
theorem dX11_undo_38 : decode cX11_undo 38 = .ok (.aload_n 0, 1) := by decide +kernel
theorem dX11_undo_39 : decode cX11_undo 39 = .ok (.getfield 26, 3) := by decide +kernel
theorem dX11_undo_42 : decode cX11_undo 42 = .ok (.sipush 332, 3) := by decide +kernel
theorem dX11_undo_45 : decode cX11_undo 45 = .ok (.aload_n 0, 1) := by decide +kernel
theorem dX11_undo_46 : decode cX11_undo 46 = .ok (.getfield 64, 3) := by decide +kernel
theorem dX11_undo_49 : decode cX11_undo 49 = .ok (.imul, 1) := by decide +kernel
theorem dX11_undo_50 : decode cX11_undo 50 = .ok (.iload_n 1, 1) := by decide +kernel
theorem dX11_undo_51 : decode cX11_undo 51 = .ok (.iadd, 1) := by decide +kernel
theorem dX11_undo_52 : decode cX11_undo 52 = .ok (.iaload, 1) := by decide +kernel
theorem dX11_undo_53 : decode cX11_undo 53 = .ok (.iastore, 1) := by decide +kernel
theorem dX11_undo_54 : decode cX11_undo 54 = .ok (.iinc 1 1, 3) := by decide +kernel
theorem dX11_undo_57 : decode cX11_undo 57 = .ok (.goto (-31), 3) := by decide +kernel
theorem dX11_undo_60 : decode cX11_undo 60 = .ok (.iconst 1, 1) := by decide +kernel
theorem dX11_undo_61 : decode cX11_undo 61 = .ok (.ireturn, 1) := by decide +kernel
theorem dX11_monks_0 : decode cX11_monks 0 = .ok (.aload_n 0, 1) := by decide +kernel
theorem dX11_monks_1 : decode cX11_monks 1 = .ok (.getfield 13, 3) := by decide +kernel
theorem dX11_monks_4 : decode cX11_monks 4 = .ok (.iconst 0, 1) := by decide +kernel
theorem dX11_monks_5 : decode cX11_monks 5 = .ok (.iaload, 1) := by decide +kernel
theorem dX11_monks_6 : decode cX11_monks 6 = .ok (.ireturn, 1) := by decide +kernel
theorem dX11_duties_0 : decode cX11_duties 0 = .ok (.aload_n 0, 1) := by decide +kernel
theorem dX11_duties_1 : decode cX11_duties 1 = .ok (.getfield 13, 3) := by decide +kernel
theorem dX11_duties_4 : decode cX11_duties 4 = .ok (.iconst 1, 1) := by decide +kernel
theorem dX11_duties_5 : decode cX11_duties 5 = .ok (.iaload, 1) := by decide +kernel
theorem dX11_duties_6 : decode cX11_duties 6 = .ok (.ireturn, 1) := by decide +kernel
theorem dX11_monkAt_0 : decode cX11_monkAt 0 = .ok (.bipush 38, 2) := by decide +kernel
theorem dX11_monkAt_2 : decode cX11_monkAt 2 = .ok (.iconst 5, 1) := by decide +kernel
theorem dX11_monkAt_3 : decode cX11_monkAt 3 = .ok (.iload_n 0, 1) := by decide +kernel
theorem dX11_monkAt_4 : decode cX11_monkAt 4 = .ok (.imul, 1) := by decide +kernel
theorem dX11_monkAt_5 : decode cX11_monkAt 5 = .ok (.iadd, 1) := by decide +kernel
theorem dX11_monkAt_6 : decode cX11_monkAt 6 = .ok (.iload_n 1, 1) := by decide +kernel
theorem dX11_monkAt_7 : decode cX11_monkAt 7 = .ok (.iadd, 1) := by decide +kernel
theorem dX11_monkAt_8 : decode cX11_monkAt 8 = .ok (.ireturn, 1) := by decide +kernel
theorem dX11_of_0 : decode cX11_of 0 = .ok (.aload_n 0, 1) := by decide +kernel
theorem dX11_of_1 : decode cX11_of 1 = .ok (.getfield 13, 3) := by decide +kernel
theorem dX11_of_4 : decode cX11_of 4 = .ok (.iload_n 1, 1) := by decide +kernel
theorem dX11_of_5 : decode cX11_of 5 = .ok (.iload_n 2, 1) := by decide +kernel
theorem dX11_of_6 : decode cX11_of 6 = .ok (.invokestatic 67, 3) := by decide +kernel
theorem dX11_of_9 : decode cX11_of 9 = .ok (.iaload, 1) := by decide +kernel
theorem dX11_of_10 : decode cX11_of 10 = .ok (.ireturn, 1) := by decide +kernel
theorem dX11_isDrowned_0 : decode cX11_isDrowned 0 = .ok (.aload_n 0, 1) := by decide +kernel
theorem dX11_isDrowned_1 : decode cX11_isDrowned 1 = .ok (.iload_n 1, 1) := by decide +kernel
theorem dX11_isDrowned_2 : decode cX11_isDrowned 2 = .ok (.iconst 4, 1) := by decide +kernel
theorem dX11_isDrowned_3 : decode cX11_isDrowned 3 = .ok (.invokevirtual 71, 3) := by decide +kernel
theorem dX11_isDrowned_6 : decode cX11_isDrowned 6 = .ok (.iconst 1, 1) := by decide +kernel
theorem dX11_isDrowned_7 : decode cX11_isDrowned 7 = .ok (.if_icmp .ne 7, 3) := by decide +kernel
theorem dX11_isDrowned_10 : decode cX11_isDrowned 10 = .ok (.iconst 1, 1) := by decide +kernel
theorem dX11_isDrowned_11 : decode cX11_isDrowned 11 = .ok (.goto 4, 3) := by decide +kernel
theorem dX11_isDrowned_14 : decode cX11_isDrowned 14 = .ok (.iconst 0, 1) := by decide +kernel
theorem dX11_isDrowned_15 : decode cX11_isDrowned 15 = .ok (.ireturn, 1) := by decide +kernel
theorem dX11_dutyAt_0 : decode cX11_dutyAt 0 = .ok (.bipush 68, 2) := by decide +kernel
theorem dX11_dutyAt_2 : decode cX11_dutyAt 2 = .ok (.iconst 4, 1) := by decide +kernel
theorem dX11_dutyAt_3 : decode cX11_dutyAt 3 = .ok (.iload_n 0, 1) := by decide +kernel
theorem dX11_dutyAt_4 : decode cX11_dutyAt 4 = .ok (.imul, 1) := by decide +kernel
theorem dX11_dutyAt_5 : decode cX11_dutyAt 5 = .ok (.iadd, 1) := by decide +kernel
theorem dX11_dutyAt_6 : decode cX11_dutyAt 6 = .ok (.iload_n 1, 1) := by decide +kernel
theorem dX11_dutyAt_7 : decode cX11_dutyAt 7 = .ok (.iadd, 1) := by decide +kernel
theorem dX11_dutyAt_8 : decode cX11_dutyAt 8 = .ok (.ireturn, 1) := by decide +kernel
theorem dX11_ofDuty_0 : decode cX11_ofDuty 0 = .ok (.aload_n 0, 1) := by decide +kernel
theorem dX11_ofDuty_1 : decode cX11_ofDuty 1 = .ok (.getfield 13, 3) := by decide +kernel
theorem dX11_ofDuty_4 : decode cX11_ofDuty 4 = .ok (.iload_n 1, 1) := by decide +kernel
theorem dX11_ofDuty_5 : decode cX11_ofDuty 5 = .ok (.iload_n 2, 1) := by decide +kernel
theorem dX11_ofDuty_6 : decode cX11_ofDuty 6 = .ok (.invokestatic 74, 3) := by decide +kernel
theorem dX11_ofDuty_9 : decode cX11_ofDuty 9 = .ok (.iaload, 1) := by decide +kernel
theorem dX11_ofDuty_10 : decode cX11_ofDuty 10 = .ok (.ireturn, 1) := by decide +kernel
theorem dX11_isKept_0 : decode cX11_isKept 0 = .ok (.aload_n 0, 1) := by decide +kernel
theorem dX11_isKept_1 : decode cX11_isKept 1 = .ok (.iload_n 1, 1) := by decide +kernel
theorem dX11_isKept_2 : decode cX11_isKept 2 = .ok (.iconst 3, 1) := by decide +kernel
theorem dX11_isKept_3 : decode cX11_isKept 3 = .ok (.invokevirtual 77, 3) := by decide +kernel
theorem dX11_isKept_6 : decode cX11_isKept 6 = .ok (.iconst 1, 1) := by decide +kernel
theorem dX11_isKept_7 : decode cX11_isKept 7 = .ok (.if_icmp .ne 7, 3) := by decide +kernel
theorem dX11_isKept_10 : decode cX11_isKept 10 = .ok (.iconst 1, 1) := by decide +kernel
theorem dX11_isKept_11 : decode cX11_isKept 11 = .ok (.goto 4, 3) := by decide +kernel
theorem dX11_isKept_14 : decode cX11_isKept 14 = .ok (.iconst 0, 1) := by decide +kernel
theorem dX11_isKept_15 : decode cX11_isKept 15 = .ok (.ireturn, 1) := by decide +kernel
theorem dX11_noMonk_0 : decode cX11_noMonk 0 = .ok (.iload_n 1, 1) := by decide +kernel
theorem dX11_noMonk_1 : decode cX11_noMonk 1 = .ok (.iconst 0, 1) := by decide +kernel
theorem dX11_noMonk_2 : decode cX11_noMonk 2 = .ok (.aload_n 0, 1) := by decide +kernel
theorem dX11_noMonk_3 : decode cX11_noMonk 3 = .ok (.invokevirtual 80, 3) := by decide +kernel
theorem dX11_noMonk_6 : decode cX11_noMonk 6 = .ok (.iconst 1, 1) := by decide +kernel
theorem dX11_noMonk_7 : decode cX11_noMonk 7 = .ok (.isub, 1) := by decide +kernel
theorem dX11_noMonk_8 : decode cX11_noMonk 8 = .ok (.invokestatic 84, 3) := by decide +kernel
theorem dX11_noMonk_11 : decode cX11_noMonk 11 = .ok (.ifCond .ne 7, 3) := by decide +kernel
theorem dX11_noMonk_14 : decode cX11_noMonk 14 = .ok (.iconst 1, 1) := by decide +kernel
theorem dX11_noMonk_15 : decode cX11_noMonk 15 = .ok (.goto 4, 3) := by decide +kernel
theorem dX11_noMonk_18 : decode cX11_noMonk 18 = .ok (.iconst 0, 1) := by decide +kernel
theorem dX11_noMonk_19 : decode cX11_noMonk 19 = .ok (.ireturn, 1) := by decide +kernel
theorem dX11_noDuty_0 : decode cX11_noDuty 0 = .ok (.iload_n 1, 1) := by decide +kernel
theorem dX11_noDuty_1 : decode cX11_noDuty 1 = .ok (.iconst 0, 1) := by decide +kernel
theorem dX11_noDuty_2 : decode cX11_noDuty 2 = .ok (.aload_n 0, 1) := by decide +kernel
theorem dX11_noDuty_3 : decode cX11_noDuty 3 = .ok (.invokevirtual 88, 3) := by decide +kernel
theorem dX11_noDuty_6 : decode cX11_noDuty 6 = .ok (.iconst 1, 1) := by decide +kernel
theorem dX11_noDuty_7 : decode cX11_noDuty 7 = .ok (.isub, 1) := by decide +kernel
theorem dX11_noDuty_8 : decode cX11_noDuty 8 = .ok (.invokestatic 84, 3) := by decide +kernel
theorem dX11_noDuty_11 : decode cX11_noDuty 11 = .ok (.ifCond .ne 7, 3) := by decide +kernel
theorem dX11_noDuty_14 : decode cX11_noDuty 14 = .ok (.iconst 1, 1) := by decide +kernel
theorem dX11_noDuty_15 : decode cX11_noDuty 15 = .ok (.goto 4, 3) := by decide +kernel
theorem dX11_noDuty_18 : decode cX11_noDuty 18 = .ok (.iconst 0, 1) := by decide +kernel
theorem dX11_noDuty_19 : decode cX11_noDuty 19 = .ok (.ireturn, 1) := by decide +kernel
theorem dX11_noPlace_0 : decode cX11_noPlace 0 = .ok (.iload_n 0, 1) := by decide +kernel
theorem dX11_noPlace_1 : decode cX11_noPlace 1 = .ok (.iconst 0, 1) := by decide +kernel
theorem dX11_noPlace_2 : decode cX11_noPlace 2 = .ok (.bipush 11, 2) := by decide +kernel
theorem dX11_noPlace_4 : decode cX11_noPlace 4 = .ok (.invokestatic 84, 3) := by decide +kernel
theorem dX11_noPlace_7 : decode cX11_noPlace 7 = .ok (.ifCond .ne 7, 3) := by decide +kernel
theorem dX11_noPlace_10 : decode cX11_noPlace 10 = .ok (.iconst 1, 1) := by decide +kernel
theorem dX11_noPlace_11 : decode cX11_noPlace 11 = .ok (.goto 4, 3) := by decide +kernel
theorem dX11_noPlace_14 : decode cX11_noPlace 14 = .ok (.iconst 0, 1) := by decide +kernel
theorem dX11_noPlace_15 : decode cX11_noPlace 15 = .ok (.ireturn, 1) := by decide +kernel
theorem dX11_noHour_0 : decode cX11_noHour 0 = .ok (.iload_n 0, 1) := by decide +kernel
theorem dX11_noHour_1 : decode cX11_noHour 1 = .ok (.iconst 0, 1) := by decide +kernel
theorem dX11_noHour_2 : decode cX11_noHour 2 = .ok (.sipush 9999, 3) := by decide +kernel
theorem dX11_noHour_5 : decode cX11_noHour 5 = .ok (.invokestatic 84, 3) := by decide +kernel
theorem dX11_noHour_8 : decode cX11_noHour 8 = .ok (.ifCond .ne 7, 3) := by decide +kernel
theorem dX11_noHour_11 : decode cX11_noHour 11 = .ok (.iconst 1, 1) := by decide +kernel
theorem dX11_noHour_12 : decode cX11_noHour 12 = .ok (.goto 4, 3) := by decide +kernel
theorem dX11_noHour_15 : decode cX11_noHour 15 = .ok (.iconst 0, 1) := by decide +kernel
theorem dX11_noHour_16 : decode cX11_noHour 16 = .ok (.ireturn, 1) := by decide +kernel
theorem dX11_noTide_0 : decode cX11_noTide 0 = .ok (.iload_n 0, 1) := by decide +kernel
theorem dX11_noTide_1 : decode cX11_noTide 1 = .ok (.iconst 0, 1) := by decide +kernel
theorem dX11_noTide_2 : decode cX11_noTide 2 = .ok (.sipush 400, 3) := by decide +kernel
theorem dX11_noTide_5 : decode cX11_noTide 5 = .ok (.invokestatic 84, 3) := by decide +kernel
theorem dX11_noTide_8 : decode cX11_noTide 8 = .ok (.ifCond .ne 7, 3) := by decide +kernel
theorem dX11_noTide_11 : decode cX11_noTide 11 = .ok (.iconst 1, 1) := by decide +kernel
theorem dX11_noTide_12 : decode cX11_noTide 12 = .ok (.goto 4, 3) := by decide +kernel
theorem dX11_noTide_15 : decode cX11_noTide 15 = .ok (.iconst 0, 1) := by decide +kernel
theorem dX11_noTide_16 : decode cX11_noTide 16 = .ok (.ireturn, 1) := by decide +kernel
theorem dX11_drawn_0 : decode cX11_drawn 0 = .ok (.aload_n 0, 1) := by decide +kernel
theorem dX11_drawn_1 : decode cX11_drawn 1 = .ok (.getfield 13, 3) := by decide +kernel
theorem dX11_drawn_4 : decode cX11_drawn 4 = .ok (.bipush 13, 2) := by decide +kernel
theorem dX11_drawn_6 : decode cX11_drawn 6 = .ok (.ldc 91, 2) := by decide +kernel
theorem dX11_drawn_8 : decode cX11_drawn 8 = .ok (.aload_n 0, 1) := by decide +kernel
theorem dX11_drawn_9 : decode cX11_drawn 9 = .ok (.getfield 13, 3) := by decide +kernel
theorem dX11_drawn_12 : decode cX11_drawn 12 = .ok (.bipush 13, 2) := by decide +kernel
theorem dX11_drawn_14 : decode cX11_drawn 14 = .ok (.iaload, 1) := by decide +kernel
theorem dX11_drawn_15 : decode cX11_drawn 15 = .ok (.imul, 1) := by decide +kernel
theorem dX11_drawn_16 : decode cX11_drawn 16 = .ok (.sipush 12345, 3) := by decide +kernel
theorem dX11_drawn_19 : decode cX11_drawn 19 = .ok (.iadd, 1) := by decide +kernel
theorem dX11_drawn_20 : decode cX11_drawn 20 = .ok (.iastore, 1) := by decide +kernel
theorem dX11_drawn_21 : decode cX11_drawn 21 = .ok (.aload_n 0, 1) := by decide +kernel
theorem dX11_drawn_22 : decode cX11_drawn 22 = .ok (.getfield 13, 3) := by decide +kernel
theorem dX11_drawn_25 : decode cX11_drawn 25 = .ok (.bipush 13, 2) := by decide +kernel
theorem dX11_drawn_27 : decode cX11_drawn 27 = .ok (.iaload, 1) := by decide +kernel
theorem dX11_drawn_28 : decode cX11_drawn 28 = .ok (.bipush 16, 2) := by decide +kernel
theorem dX11_drawn_30 : decode cX11_drawn 30 = .ok (.ishr, 1) := by decide +kernel
theorem dX11_drawn_31 : decode cX11_drawn 31 = .ok (.sipush 32767, 3) := by decide +kernel
theorem dX11_drawn_34 : decode cX11_drawn 34 = .ok (.iand, 1) := by decide +kernel
theorem dX11_drawn_35 : decode cX11_drawn 35 = .ok (.iload_n 1, 1) := by decide +kernel
theorem dX11_drawn_36 : decode cX11_drawn 36 = .ok (.irem, 1) := by decide +kernel
theorem dX11_drawn_37 : decode cX11_drawn 37 = .ok (.ireturn, 1) := by decide +kernel
theorem dX11_feed_0 : decode cX11_feed 0 = .ok (.aload_n 0, 1) := by decide +kernel
theorem dX11_feed_1 : decode cX11_feed 1 = .ok (.iconst 0, 1) := by decide +kernel
theorem dX11_feed_2 : decode cX11_feed 2 = .ok (.putfield 3, 3) := by decide +kernel
theorem dX11_feed_5 : decode cX11_feed 5 = .ok (.aload_n 0, 1) := by decide +kernel
theorem dX11_feed_6 : decode cX11_feed 6 = .ok (.getfield 92, 3) := by decide +kernel
theorem dX11_feed_9 : decode cX11_feed 9 = .ok (.bipush 20, 2) := by decide +kernel
theorem dX11_feed_11 : decode cX11_feed 11 = .ok (.iadd, 1) := by decide +kernel
theorem dX11_feed_12 : decode cX11_feed 12 = .ok (.sipush 400, 3) := by decide +kernel
theorem dX11_feed_15 : decode cX11_feed 15 = .ok (.if_icmp .le 5, 3) := by decide +kernel
theorem dX11_feed_18 : decode cX11_feed 18 = .ok (.iconst (-1), 1) := by decide +kernel
theorem dX11_feed_19 : decode cX11_feed 19 = .ok (.ireturn, 1) := by decide +kernel
theorem dX11_feed_20 : decode cX11_feed 20 = .ok (.aload_n 0, 1) := by decide +kernel
theorem dX11_feed_21 : decode cX11_feed 21 = .ok (.getfield 36, 3) := by decide +kernel
theorem dX11_feed_24 : decode cX11_feed 24 = .ok (.iconst 0, 1) := by decide +kernel
theorem dX11_feed_25 : decode cX11_feed 25 = .ok (.iload_n 1, 1) := by decide +kernel
theorem dX11_feed_26 : decode cX11_feed 26 = .ok (.iastore, 1) := by decide +kernel
theorem dX11_feed_27 : decode cX11_feed 27 = .ok (.aload_n 0, 1) := by decide +kernel
theorem dX11_feed_28 : decode cX11_feed 28 = .ok (.getfield 36, 3) := by decide +kernel
theorem dX11_feed_31 : decode cX11_feed 31 = .ok (.iconst 1, 1) := by decide +kernel
theorem dX11_feed_32 : decode cX11_feed 32 = .ok (.iload_n 2, 1) := by decide +kernel
theorem dX11_feed_33 : decode cX11_feed 33 = .ok (.iastore, 1) := by decide +kernel
theorem dX11_feed_34 : decode cX11_feed 34 = .ok (.aload_n 0, 1) := by decide +kernel
theorem dX11_feed_35 : decode cX11_feed 35 = .ok (.getfield 36, 3) := by decide +kernel
theorem dX11_feed_38 : decode cX11_feed 38 = .ok (.iconst 2, 1) := by decide +kernel
theorem dX11_feed_39 : decode cX11_feed 39 = .ok (.iload_n 3, 1) := by decide +kernel
theorem dX11_feed_40 : decode cX11_feed 40 = .ok (.iastore, 1) := by decide +kernel
theorem dX11_feed_41 : decode cX11_feed 41 = .ok (.aload_n 0, 1) := by decide +kernel
theorem dX11_feed_42 : decode cX11_feed 42 = .ok (.getfield 36, 3) := by decide +kernel
theorem dX11_feed_45 : decode cX11_feed 45 = .ok (.iconst 3, 1) := by decide +kernel
theorem dX11_feed_46 : decode cX11_feed 46 = .ok (.iload 4, 2) := by decide +kernel
theorem dX11_feed_48 : decode cX11_feed 48 = .ok (.iastore, 1) := by decide +kernel
theorem dX11_feed_49 : decode cX11_feed 49 = .ok (.aload_n 0, 1) := by decide +kernel
theorem dX11_feed_50 : decode cX11_feed 50 = .ok (.getfield 36, 3) := by decide +kernel
theorem dX11_feed_53 : decode cX11_feed 53 = .ok (.iconst 4, 1) := by decide +kernel
theorem dX11_feed_54 : decode cX11_feed 54 = .ok (.iload 5, 2) := by decide +kernel
theorem dX11_feed_56 : decode cX11_feed 56 = .ok (.iastore, 1) := by decide +kernel
theorem dX11_feed_57 : decode cX11_feed 57 = .ok (.iconst 0, 1) := by decide +kernel
theorem dX11_feed_58 : decode cX11_feed 58 = .ok (.istore 6, 2) := by decide +kernel
theorem dX11_feed_60 : decode cX11_feed 60 = .ok (.iload 6, 2) := by decide +kernel
theorem dX11_feed_62 : decode cX11_feed 62 = .ok (.bipush 20, 2) := by decide +kernel
theorem dX11_feed_64 : decode cX11_feed 64 = .ok (.if_icmp .ge 42, 3) := by decide +kernel
theorem dX11_feed_67 : decode cX11_feed 67 = .ok (.aload_n 0, 1) := by decide +kernel
theorem dX11_feed_68 : decode cX11_feed 68 = .ok (.getfield 29, 3) := by decide +kernel
theorem dX11_feed_71 : decode cX11_feed 71 = .ok (.aload_n 0, 1) := by decide +kernel
theorem dX11_feed_72 : decode cX11_feed 72 = .ok (.getfield 92, 3) := by decide +kernel
theorem dX11_feed_75 : decode cX11_feed 75 = .ok (.iload 6, 2) := by decide +kernel
theorem dX11_feed_77 : decode cX11_feed 77 = .ok (.iadd, 1) := by decide +kernel
theorem dX11_feed_78 : decode cX11_feed 78 = .ok (.aload_n 0, 1) := by decide +kernel
theorem dX11_feed_79 : decode cX11_feed 79 = .ok (.getfield 36, 3) := by decide +kernel
theorem dX11_feed_82 : decode cX11_feed 82 = .ok (.iload 6, 2) := by decide +kernel
theorem dX11_feed_84 : decode cX11_feed 84 = .ok (.iconst 4, 1) := by decide +kernel
theorem dX11_feed_85 : decode cX11_feed 85 = .ok (.idiv, 1) := by decide +kernel
theorem dX11_feed_86 : decode cX11_feed 86 = .ok (.iaload, 1) := by decide +kernel
theorem dX11_feed_87 : decode cX11_feed 87 = .ok (.bipush 24, 2) := by decide +kernel
theorem dX11_feed_89 : decode cX11_feed 89 = .ok (.bipush 8, 2) := by decide +kernel
theorem dX11_feed_91 : decode cX11_feed 91 = .ok (.iload 6, 2) := by decide +kernel
theorem dX11_feed_93 : decode cX11_feed 93 = .ok (.iconst 4, 1) := by decide +kernel
theorem dX11_feed_94 : decode cX11_feed 94 = .ok (.irem, 1) := by decide +kernel
theorem dX11_feed_95 : decode cX11_feed 95 = .ok (.imul, 1) := by decide +kernel
theorem dX11_feed_96 : decode cX11_feed 96 = .ok (.isub, 1) := by decide +kernel
theorem dX11_feed_97 : decode cX11_feed 97 = .ok (.ishr, 1) := by decide +kernel
theorem dX11_feed_98 : decode cX11_feed 98 = .ok (.i2b, 1) := by decide +kernel
theorem dX11_feed_99 : decode cX11_feed 99 = .ok (.bastore, 1) := by decide +kernel
theorem dX11_feed_100 : decode cX11_feed 100 = .ok (.iinc 6 1, 3) := by decide +kernel
theorem dX11_feed_103 : decode cX11_feed 103 = .ok (.goto (-43), 3) := by decide +kernel
theorem dX11_feed_106 : decode cX11_feed 106 = .ok (.aload_n 0, 1) := by decide +kernel
theorem dX11_feed_107 : decode cX11_feed 107 = .ok (.dup, 1) := by decide +kernel
theorem dX11_feed_108 : decode cX11_feed 108 = .ok (.getfield 92, 3) := by decide +kernel
theorem dX11_feed_111 : decode cX11_feed 111 = .ok (.bipush 20, 2) := by decide +kernel
theorem dX11_feed_113 : decode cX11_feed 113 = .ok (.iadd, 1) := by decide +kernel
theorem dX11_feed_114 : decode cX11_feed 114 = .ok (.putfield 92, 3) := by decide +kernel
theorem dX11_feed_117 : decode cX11_feed 117 = .ok (.aload_n 0, 1) := by decide +kernel
theorem dX11_feed_118 : decode cX11_feed 118 = .ok (.getfield 92, 3) := by decide +kernel
theorem dX11_feed_121 : decode cX11_feed 121 = .ok (.ireturn, 1) := by decide +kernel
theorem dX11_end_0 : decode cX11_end 0 = .ok (.aload_n 0, 1) := by decide +kernel
theorem dX11_end_1 : decode cX11_end 1 = .ok (.iconst 0, 1) := by decide +kernel
theorem dX11_end_2 : decode cX11_end 2 = .ok (.putfield 3, 3) := by decide +kernel
theorem dX11_end_5 : decode cX11_end 5 = .ok (.iload_n 1, 1) := by decide +kernel
theorem dX11_end_6 : decode cX11_end 6 = .ok (.ifCond .lt 11, 3) := by decide +kernel
theorem dX11_end_9 : decode cX11_end 9 = .ok (.iload_n 1, 1) := by decide +kernel
theorem dX11_end_10 : decode cX11_end 10 = .ok (.aload_n 0, 1) := by decide +kernel
theorem dX11_end_11 : decode cX11_end 11 = .ok (.getfield 92, 3) := by decide +kernel
theorem dX11_end_14 : decode cX11_end 14 = .ok (.if_icmp .le 5, 3) := by decide +kernel
theorem dX11_end_17 : decode cX11_end 17 = .ok (.iconst 0, 1) := by decide +kernel
theorem dX11_end_18 : decode cX11_end 18 = .ok (.ireturn, 1) := by decide +kernel
theorem dX11_end_19 : decode cX11_end 19 = .ok (.aload_n 0, 1) := by decide +kernel
theorem dX11_end_20 : decode cX11_end 20 = .ok (.iload_n 1, 1) := by decide +kernel
theorem dX11_end_21 : decode cX11_end 21 = .ok (.putfield 92, 3) := by decide +kernel
theorem dX11_end_24 : decode cX11_end 24 = .ok (.iconst 1, 1) := by decide +kernel
theorem dX11_end_25 : decode cX11_end 25 = .ok (.ireturn, 1) := by decide +kernel
theorem dX11_isAt_0 : decode cX11_isAt 0 = .ok (.aload_n 0, 1) := by decide +kernel
theorem dX11_isAt_1 : decode cX11_isAt 1 = .ok (.getfield 95, 3) := by decide +kernel
theorem dX11_isAt_4 : decode cX11_isAt 4 = .ok (.aload_n 0, 1) := by decide +kernel
theorem dX11_isAt_5 : decode cX11_isAt 5 = .ok (.getfield 98, 3) := by decide +kernel
theorem dX11_isAt_8 : decode cX11_isAt 8 = .ok (.if_icmp .ge 33, 3) := by decide +kernel
theorem dX11_isAt_11 : decode cX11_isAt 11 = .ok (.aload_n 0, 1) := by decide +kernel
theorem dX11_isAt_12 : decode cX11_isAt 12 = .ok (.getfield 29, 3) := by decide +kernel
theorem dX11_isAt_15 : decode cX11_isAt 15 = .ok (.aload_n 0, 1) := by decide +kernel
theorem dX11_isAt_16 : decode cX11_isAt 16 = .ok (.getfield 95, 3) := by decide +kernel
theorem dX11_isAt_19 : decode cX11_isAt 19 = .ok (.baload, 1) := by decide +kernel
theorem dX11_isAt_20 : decode cX11_isAt 20 = .ok (.iload_n 1, 1) := by decide +kernel
theorem dX11_isAt_21 : decode cX11_isAt 21 = .ok (.if_icmp .lt 20, 3) := by decide +kernel
theorem dX11_isAt_24 : decode cX11_isAt 24 = .ok (.aload_n 0, 1) := by decide +kernel
theorem dX11_isAt_25 : decode cX11_isAt 25 = .ok (.getfield 29, 3) := by decide +kernel
theorem dX11_isAt_28 : decode cX11_isAt 28 = .ok (.aload_n 0, 1) := by decide +kernel
theorem dX11_isAt_29 : decode cX11_isAt 29 = .ok (.getfield 95, 3) := by decide +kernel
theorem dX11_isAt_32 : decode cX11_isAt 32 = .ok (.baload, 1) := by decide +kernel
theorem dX11_isAt_33 : decode cX11_isAt 33 = .ok (.iload_n 2, 1) := by decide +kernel
theorem dX11_isAt_34 : decode cX11_isAt 34 = .ok (.if_icmp .gt 7, 3) := by decide +kernel
theorem dX11_isAt_37 : decode cX11_isAt 37 = .ok (.iconst 1, 1) := by decide +kernel
theorem dX11_isAt_38 : decode cX11_isAt 38 = .ok (.goto 4, 3) := by decide +kernel
theorem dX11_isAt_41 : decode cX11_isAt 41 = .ok (.iconst 0, 1) := by decide +kernel
theorem dX11_isAt_42 : decode cX11_isAt 42 = .ok (.ireturn, 1) := by decide +kernel
theorem dX11_blanks_0 : decode cX11_blanks 0 = .ok (.aload_n 0, 1) := by decide +kernel
theorem dX11_blanks_1 : decode cX11_blanks 1 = .ok (.bipush 32, 2) := by decide +kernel
theorem dX11_blanks_3 : decode cX11_blanks 3 = .ok (.bipush 32, 2) := by decide +kernel
theorem dX11_blanks_5 : decode cX11_blanks 5 = .ok (.invokevirtual 101, 3) := by decide +kernel
theorem dX11_blanks_8 : decode cX11_blanks 8 = .ok (.ifCond .eq 16, 3) := by decide +kernel
theorem dX11_blanks_11 : decode cX11_blanks 11 = .ok (.aload_n 0, 1) := by decide +kernel
theorem dX11_blanks_12 : decode cX11_blanks 12 = .ok (.dup, 1) := by decide +kernel
theorem dX11_blanks_13 : decode cX11_blanks 13 = .ok (.getfield 95, 3) := by decide +kernel
theorem dX11_blanks_16 : decode cX11_blanks 16 = .ok (.iconst 1, 1) := by decide +kernel
theorem dX11_blanks_17 : decode cX11_blanks 17 = .ok (.iadd, 1) := by decide +kernel
theorem dX11_blanks_18 : decode cX11_blanks 18 = .ok (.putfield 95, 3) := by decide +kernel
theorem dX11_blanks_21 : decode cX11_blanks 21 = .ok (.goto (-21), 3) := by decide +kernel
theorem dX11_blanks_24 : decode cX11_blanks 24 = .ok (.aload_n 0, 1) := by decide +kernel
theorem dX11_blanks_25 : decode cX11_blanks 25 = .ok (.aload_n 0, 1) := by decide +kernel
theorem dX11_blanks_26 : decode cX11_blanks 26 = .ok (.getfield 95, 3) := by decide +kernel
theorem dX11_blanks_29 : decode cX11_blanks 29 = .ok (.putfield 105, 3) := by decide +kernel
theorem dX11_blanks_32 : decode cX11_blanks 32 = .ok (.return_, 1) := by decide +kernel
theorem dX11_letters_0 : decode cX11_letters 0 = .ok (.aload_n 0, 1) := by decide +kernel
theorem dX11_letters_1 : decode cX11_letters 1 = .ok (.invokevirtual 108, 3) := by decide +kernel
theorem dX11_letters_4 : decode cX11_letters 4 = .ok (.aload_n 0, 1) := by decide +kernel
theorem dX11_letters_5 : decode cX11_letters 5 = .ok (.bipush 97, 2) := by decide +kernel
theorem dX11_letters_7 : decode cX11_letters 7 = .ok (.bipush 122, 2) := by decide +kernel
theorem dX11_letters_9 : decode cX11_letters 9 = .ok (.invokevirtual 101, 3) := by decide +kernel
theorem dX11_letters_12 : decode cX11_letters 12 = .ok (.ifCond .eq 16, 3) := by decide +kernel
theorem dX11_letters_15 : decode cX11_letters 15 = .ok (.aload_n 0, 1) := by decide +kernel
theorem dX11_letters_16 : decode cX11_letters 16 = .ok (.dup, 1) := by decide +kernel
theorem dX11_letters_17 : decode cX11_letters 17 = .ok (.getfield 95, 3) := by decide +kernel
theorem dX11_letters_20 : decode cX11_letters 20 = .ok (.iconst 1, 1) := by decide +kernel
theorem dX11_letters_21 : decode cX11_letters 21 = .ok (.iadd, 1) := by decide +kernel
theorem dX11_letters_22 : decode cX11_letters 22 = .ok (.putfield 95, 3) := by decide +kernel
theorem dX11_letters_25 : decode cX11_letters 25 = .ok (.goto (-21), 3) := by decide +kernel
theorem dX11_letters_28 : decode cX11_letters 28 = .ok (.return_, 1) := by decide +kernel
theorem dX11_isWord_0 : decode cX11_isWord 0 = .ok (.aload_n 0, 1) := by decide +kernel
theorem dX11_isWord_1 : decode cX11_isWord 1 = .ok (.getfield 95, 3) := by decide +kernel
theorem dX11_isWord_4 : decode cX11_isWord 4 = .ok (.aload_n 0, 1) := by decide +kernel
theorem dX11_isWord_5 : decode cX11_isWord 5 = .ok (.getfield 105, 3) := by decide +kernel
theorem dX11_isWord_8 : decode cX11_isWord 8 = .ok (.isub, 1) := by decide +kernel
theorem dX11_isWord_9 : decode cX11_isWord 9 = .ok (.aload_n 1, 1) := by decide +kernel
theorem dX11_isWord_10 : decode cX11_isWord 10 = .ok (.invokevirtual 111, 3) := by decide +kernel
theorem dX11_isWord_13 : decode cX11_isWord 13 = .ok (.if_icmp .ne 7, 3) := by decide +kernel
theorem dX11_isWord_16 : decode cX11_isWord 16 = .ok (.iconst 1, 1) := by decide +kernel
theorem dX11_isWord_17 : decode cX11_isWord 17 = .ok (.goto 4, 3) := by decide +kernel
theorem dX11_isWord_20 : decode cX11_isWord 20 = .ok (.iconst 0, 1) := by decide +kernel
theorem dX11_isWord_21 : decode cX11_isWord 21 = .ok (.istore_n 2, 1) := by decide +kernel
theorem dX11_isWord_22 : decode cX11_isWord 22 = .ok (.iconst 0, 1) := by decide +kernel
theorem dX11_isWord_23 : decode cX11_isWord 23 = .ok (.istore_n 3, 1) := by decide +kernel
theorem dX11_isWord_24 : decode cX11_isWord 24 = .ok (.iload_n 2, 1) := by decide +kernel
theorem dX11_isWord_25 : decode cX11_isWord 25 = .ok (.ifCond .eq 42, 3) := by decide +kernel
theorem dX11_isWord_28 : decode cX11_isWord 28 = .ok (.iload_n 3, 1) := by decide +kernel
theorem dX11_isWord_29 : decode cX11_isWord 29 = .ok (.aload_n 1, 1) := by decide +kernel
theorem dX11_isWord_30 : decode cX11_isWord 30 = .ok (.invokevirtual 111, 3) := by decide +kernel
theorem dX11_isWord_33 : decode cX11_isWord 33 = .ok (.if_icmp .ge 34, 3) := by decide +kernel
theorem dX11_isWord_36 : decode cX11_isWord 36 = .ok (.aload_n 0, 1) := by decide +kernel
theorem dX11_isWord_37 : decode cX11_isWord 37 = .ok (.getfield 29, 3) := by decide +kernel
theorem dX11_isWord_40 : decode cX11_isWord 40 = .ok (.aload_n 0, 1) := by decide +kernel
theorem dX11_isWord_41 : decode cX11_isWord 41 = .ok (.getfield 105, 3) := by decide +kernel
theorem dX11_isWord_44 : decode cX11_isWord 44 = .ok (.iload_n 3, 1) := by decide +kernel
theorem dX11_isWord_45 : decode cX11_isWord 45 = .ok (.iadd, 1) := by decide +kernel
theorem dX11_isWord_46 : decode cX11_isWord 46 = .ok (.baload, 1) := by decide +kernel
theorem dX11_isWord_47 : decode cX11_isWord 47 = .ok (.aload_n 1, 1) := by decide +kernel
theorem dX11_isWord_48 : decode cX11_isWord 48 = .ok (.iload_n 3, 1) := by decide +kernel
theorem dX11_isWord_49 : decode cX11_isWord 49 = .ok (.invokevirtual 116, 3) := by decide +kernel
theorem dX11_isWord_52 : decode cX11_isWord 52 = .ok (.if_icmp .ne 7, 3) := by decide +kernel
theorem dX11_isWord_55 : decode cX11_isWord 55 = .ok (.iconst 1, 1) := by decide +kernel
theorem dX11_isWord_56 : decode cX11_isWord 56 = .ok (.goto 4, 3) := by decide +kernel
theorem dX11_isWord_59 : decode cX11_isWord 59 = .ok (.iconst 0, 1) := by decide +kernel
theorem dX11_isWord_60 : decode cX11_isWord 60 = .ok (.istore_n 2, 1) := by decide +kernel
theorem dX11_isWord_61 : decode cX11_isWord 61 = .ok (.iinc 3 1, 3) := by decide +kernel
theorem dX11_isWord_64 : decode cX11_isWord 64 = .ok (.goto (-40), 3) := by decide +kernel
theorem dX11_isWord_67 : decode cX11_isWord 67 = .ok (.iload_n 2, 1) := by decide +kernel
theorem dX11_isWord_68 : decode cX11_isWord 68 = .ok (.ireturn, 1) := by decide +kernel
theorem dX11_passes_0 : decode cX11_passes 0 = .ok (.aload_n 0, 1) := by decide +kernel
theorem dX11_passes_1 : decode cX11_passes 1 = .ok (.invokevirtual 120, 3) := by decide +kernel
theorem dX11_passes_4 : decode cX11_passes 4 = .ok (.aload_n 0, 1) := by decide +kernel
theorem dX11_passes_5 : decode cX11_passes 5 = .ok (.aload_n 1, 1) := by decide +kernel
theorem dX11_passes_6 : decode cX11_passes 6 = .ok (.invokevirtual 123, 3) := by decide +kernel
theorem dX11_passes_9 : decode cX11_passes 9 = .ok (.ifCond .eq 5, 3) := by decide +kernel
theorem dX11_passes_12 : decode cX11_passes 12 = .ok (.iconst 1, 1) := by decide +kernel
theorem dX11_passes_13 : decode cX11_passes 13 = .ok (.ireturn, 1) := by decide +kernel
theorem dX11_passes_14 : decode cX11_passes 14 = .ok (.aload_n 0, 1) := by decide +kernel
theorem dX11_passes_15 : decode cX11_passes 15 = .ok (.aload_n 0, 1) := by decide +kernel
theorem dX11_passes_16 : decode cX11_passes 16 = .ok (.getfield 105, 3) := by decide +kernel
theorem dX11_passes_19 : decode cX11_passes 19 = .ok (.putfield 95, 3) := by decide +kernel
theorem dX11_passes_22 : decode cX11_passes 22 = .ok (.iconst 0, 1) := by decide +kernel
theorem dX11_passes_23 : decode cX11_passes 23 = .ok (.ireturn, 1) := by decide +kernel
theorem dX11_sign_0 : decode cX11_sign 0 = .ok (.aload_n 0, 1) := by decide +kernel
theorem dX11_sign_1 : decode cX11_sign 1 = .ok (.invokevirtual 108, 3) := by decide +kernel
theorem dX11_sign_4 : decode cX11_sign 4 = .ok (.aload_n 0, 1) := by decide +kernel
theorem dX11_sign_5 : decode cX11_sign 5 = .ok (.iload_n 1, 1) := by decide +kernel
theorem dX11_sign_6 : decode cX11_sign 6 = .ok (.iload_n 1, 1) := by decide +kernel
theorem dX11_sign_7 : decode cX11_sign 7 = .ok (.invokevirtual 101, 3) := by decide +kernel
theorem dX11_sign_10 : decode cX11_sign 10 = .ok (.ifCond .ne 5, 3) := by decide +kernel
theorem dX11_sign_13 : decode cX11_sign 13 = .ok (.iconst 0, 1) := by decide +kernel
theorem dX11_sign_14 : decode cX11_sign 14 = .ok (.ireturn, 1) := by decide +kernel
theorem dX11_sign_15 : decode cX11_sign 15 = .ok (.aload_n 0, 1) := by decide +kernel
theorem dX11_sign_16 : decode cX11_sign 16 = .ok (.dup, 1) := by decide +kernel
theorem dX11_sign_17 : decode cX11_sign 17 = .ok (.getfield 95, 3) := by decide +kernel
theorem dX11_sign_20 : decode cX11_sign 20 = .ok (.iconst 1, 1) := by decide +kernel
theorem dX11_sign_21 : decode cX11_sign 21 = .ok (.iadd, 1) := by decide +kernel
theorem dX11_sign_22 : decode cX11_sign 22 = .ok (.putfield 95, 3) := by decide +kernel
theorem dX11_sign_25 : decode cX11_sign 25 = .ok (.iconst 1, 1) := by decide +kernel
theorem dX11_sign_26 : decode cX11_sign 26 = .ok (.ireturn, 1) := by decide +kernel
theorem dX11_number_0 : decode cX11_number 0 = .ok (.aload_n 0, 1) := by decide +kernel
theorem dX11_number_1 : decode cX11_number 1 = .ok (.invokevirtual 108, 3) := by decide +kernel
theorem dX11_number_4 : decode cX11_number 4 = .ok (.iconst 0, 1) := by decide +kernel
theorem dX11_number_5 : decode cX11_number 5 = .ok (.istore_n 3, 1) := by decide +kernel
theorem dX11_number_6 : decode cX11_number 6 = .ok (.aload_n 0, 1) := by decide +kernel
theorem dX11_number_7 : decode cX11_number 7 = .ok (.bipush 48, 2) := by decide +kernel
theorem dX11_number_9 : decode cX11_number 9 = .ok (.bipush 57, 2) := by decide +kernel
theorem dX11_number_11 : decode cX11_number 11 = .ok (.invokevirtual 101, 3) := by decide +kernel
theorem dX11_number_14 : decode cX11_number 14 = .ok (.ifCond .eq 51, 3) := by decide +kernel
theorem dX11_number_17 : decode cX11_number 17 = .ok (.aload_n 0, 1) := by decide +kernel
theorem dX11_number_18 : decode cX11_number 18 = .ok (.getfield 95, 3) := by decide +kernel
theorem dX11_number_21 : decode cX11_number 21 = .ok (.aload_n 0, 1) := by decide +kernel
theorem dX11_number_22 : decode cX11_number 22 = .ok (.getfield 105, 3) := by decide +kernel
theorem dX11_number_25 : decode cX11_number 25 = .ok (.isub, 1) := by decide +kernel
theorem dX11_number_26 : decode cX11_number 26 = .ok (.iconst 3, 1) := by decide +kernel
theorem dX11_number_27 : decode cX11_number 27 = .ok (.if_icmp .ge 23, 3) := by decide +kernel
theorem dX11_number_30 : decode cX11_number 30 = .ok (.bipush 10, 2) := by decide +kernel
theorem dX11_number_32 : decode cX11_number 32 = .ok (.iload_n 3, 1) := by decide +kernel
theorem dX11_number_33 : decode cX11_number 33 = .ok (.imul, 1) := by decide +kernel
theorem dX11_number_34 : decode cX11_number 34 = .ok (.aload_n 0, 1) := by decide +kernel
theorem dX11_number_35 : decode cX11_number 35 = .ok (.getfield 29, 3) := by decide +kernel
theorem dX11_number_38 : decode cX11_number 38 = .ok (.aload_n 0, 1) := by decide +kernel
theorem dX11_number_39 : decode cX11_number 39 = .ok (.getfield 95, 3) := by decide +kernel
theorem dX11_number_42 : decode cX11_number 42 = .ok (.baload, 1) := by decide +kernel
theorem dX11_number_43 : decode cX11_number 43 = .ok (.iadd, 1) := by decide +kernel
theorem dX11_number_44 : decode cX11_number 44 = .ok (.bipush 48, 2) := by decide +kernel
theorem dX11_number_46 : decode cX11_number 46 = .ok (.isub, 1) := by decide +kernel
theorem dX11_number_47 : decode cX11_number 47 = .ok (.goto 4, 3) := by decide +kernel
theorem dX11_number_50 : decode cX11_number 50 = .ok (.iload_n 3, 1) := by decide +kernel
theorem dX11_number_51 : decode cX11_number 51 = .ok (.istore_n 3, 1) := by decide +kernel
theorem dX11_number_52 : decode cX11_number 52 = .ok (.aload_n 0, 1) := by decide +kernel
theorem dX11_number_53 : decode cX11_number 53 = .ok (.dup, 1) := by decide +kernel
theorem dX11_number_54 : decode cX11_number 54 = .ok (.getfield 95, 3) := by decide +kernel
theorem dX11_number_57 : decode cX11_number 57 = .ok (.iconst 1, 1) := by decide +kernel
theorem dX11_number_58 : decode cX11_number 58 = .ok (.iadd, 1) := by decide +kernel
theorem dX11_number_59 : decode cX11_number 59 = .ok (.putfield 95, 3) := by decide +kernel
theorem dX11_number_62 : decode cX11_number 62 = .ok (.goto (-56), 3) := by decide +kernel
theorem dX11_number_65 : decode cX11_number 65 = .ok (.aload_n 0, 1) := by decide +kernel
theorem dX11_number_66 : decode cX11_number 66 = .ok (.getfield 95, 3) := by decide +kernel
theorem dX11_number_69 : decode cX11_number 69 = .ok (.aload_n 0, 1) := by decide +kernel
theorem dX11_number_70 : decode cX11_number 70 = .ok (.getfield 105, 3) := by decide +kernel
theorem dX11_number_73 : decode cX11_number 73 = .ok (.if_icmp .eq 26, 3) := by decide +kernel
theorem dX11_number_76 : decode cX11_number 76 = .ok (.aload_n 0, 1) := by decide +kernel
theorem dX11_number_77 : decode cX11_number 77 = .ok (.getfield 95, 3) := by decide +kernel
theorem dX11_number_80 : decode cX11_number 80 = .ok (.aload_n 0, 1) := by decide +kernel
theorem dX11_number_81 : decode cX11_number 81 = .ok (.getfield 105, 3) := by decide +kernel
theorem dX11_number_84 : decode cX11_number 84 = .ok (.isub, 1) := by decide +kernel
theorem dX11_number_85 : decode cX11_number 85 = .ok (.iconst 3, 1) := by decide +kernel
theorem dX11_number_86 : decode cX11_number 86 = .ok (.if_icmp .gt 13, 3) := by decide +kernel
theorem dX11_number_89 : decode cX11_number 89 = .ok (.iload_n 3, 1) := by decide +kernel
theorem dX11_number_90 : decode cX11_number 90 = .ok (.iload_n 1, 1) := by decide +kernel
theorem dX11_number_91 : decode cX11_number 91 = .ok (.if_icmp .lt 8, 3) := by decide +kernel
theorem dX11_number_94 : decode cX11_number 94 = .ok (.iload_n 3, 1) := by decide +kernel
theorem dX11_number_95 : decode cX11_number 95 = .ok (.iload_n 2, 1) := by decide +kernel
theorem dX11_number_96 : decode cX11_number 96 = .ok (.if_icmp .le 7, 3) := by decide +kernel
theorem dX11_number_99 : decode cX11_number 99 = .ok (.iconst (-1), 1) := by decide +kernel
theorem dX11_number_100 : decode cX11_number 100 = .ok (.goto 4, 3) := by decide +kernel
theorem dX11_number_103 : decode cX11_number 103 = .ok (.iload_n 3, 1) := by decide +kernel
theorem dX11_number_104 : decode cX11_number 104 = .ok (.ireturn, 1) := by decide +kernel
theorem dX11_after_0 : decode cX11_after 0 = .ok (.aload_n 0, 1) := by decide +kernel
theorem dX11_after_1 : decode cX11_after 1 = .ok (.invokevirtual 120, 3) := by decide +kernel
theorem dX11_after_4 : decode cX11_after 4 = .ok (.aload_n 0, 1) := by decide +kernel
theorem dX11_after_5 : decode cX11_after 5 = .ok (.aload_n 1, 1) := by decide +kernel
theorem dX11_after_6 : decode cX11_after 6 = .ok (.invokevirtual 123, 3) := by decide +kernel
theorem dX11_after_9 : decode cX11_after 9 = .ok (.ifCond .eq 12, 3) := by decide +kernel
theorem dX11_after_12 : decode cX11_after 12 = .ok (.aload_n 0, 1) := by decide +kernel
theorem dX11_after_13 : decode cX11_after 13 = .ok (.iload_n 2, 1) := by decide +kernel
theorem dX11_after_14 : decode cX11_after 14 = .ok (.iload_n 3, 1) := by decide +kernel
theorem dX11_after_15 : decode cX11_after 15 = .ok (.invokevirtual 127, 3) := by decide +kernel
theorem dX11_after_18 : decode cX11_after 18 = .ok (.goto 4, 3) := by decide +kernel
theorem dX11_after_21 : decode cX11_after 21 = .ok (.iconst (-1), 1) := by decide +kernel
theorem dX11_after_22 : decode cX11_after 22 = .ok (.ireturn, 1) := by decide +kernel
theorem dX11_fault_0 : decode cX11_fault 0 = .ok (.aload_n 0, 1) := by decide +kernel
theorem dX11_fault_1 : decode cX11_fault 1 = .ok (.iconst 0, 1) := by decide +kernel
theorem dX11_fault_2 : decode cX11_fault 2 = .ok (.putfield 3, 3) := by decide +kernel
theorem dX11_fault_5 : decode cX11_fault 5 = .ok (.aload_n 0, 1) := by decide +kernel
theorem dX11_fault_6 : decode cX11_fault 6 = .ok (.getfield 33, 3) := by decide +kernel
theorem dX11_fault_9 : decode cX11_fault 9 = .ok (.ireturn, 1) := by decide +kernel
theorem dX11_uses_0 : decode cX11_uses 0 = .ok (.aload_n 0, 1) := by decide +kernel
theorem dX11_uses_1 : decode cX11_uses 1 = .ok (.iconst 0, 1) := by decide +kernel
theorem dX11_uses_2 : decode cX11_uses 2 = .ok (.putfield 3, 3) := by decide +kernel
theorem dX11_uses_5 : decode cX11_uses 5 = .ok (.aload_n 0, 1) := by decide +kernel
theorem dX11_uses_6 : decode cX11_uses 6 = .ok (.aload_n 0, 1) := by decide +kernel
theorem dX11_uses_7 : decode cX11_uses 7 = .ok (.getfield 92, 3) := by decide +kernel
theorem dX11_uses_10 : decode cX11_uses 10 = .ok (.putfield 98, 3) := by decide +kernel
theorem dX11_uses_13 : decode cX11_uses 13 = .ok (.aload_n 0, 1) := by decide +kernel
theorem dX11_uses_14 : decode cX11_uses 14 = .ok (.iconst 0, 1) := by decide +kernel
theorem dX11_uses_15 : decode cX11_uses 15 = .ok (.putfield 92, 3) := by decide +kernel
theorem dX11_uses_18 : decode cX11_uses 18 = .ok (.aload_n 0, 1) := by decide +kernel
theorem dX11_uses_19 : decode cX11_uses 19 = .ok (.iconst 0, 1) := by decide +kernel
theorem dX11_uses_20 : decode cX11_uses 20 = .ok (.putfield 95, 3) := by decide +kernel
theorem dX11_uses_23 : decode cX11_uses 23 = .ok (.return_, 1) := by decide +kernel
theorem dX11_readNumber_0 : decode cX11_readNumber 0 = .ok (.aload_n 0, 1) := by decide +kernel
theorem dX11_readNumber_1 : decode cX11_readNumber 1 = .ok (.iload_n 2, 1) := by decide +kernel
theorem dX11_readNumber_2 : decode cX11_readNumber 2 = .ok (.iload_n 3, 1) := by decide +kernel
theorem dX11_readNumber_3 : decode cX11_readNumber 3 = .ok (.invokevirtual 127, 3) := by decide +kernel
theorem dX11_readNumber_6 : decode cX11_readNumber 6 = .ok (.istore 4, 2) := by decide +kernel
theorem dX11_readNumber_8 : decode cX11_readNumber 8 = .ok (.aload_n 0, 1) := by decide +kernel
theorem dX11_readNumber_9 : decode cX11_readNumber 9 = .ok (.getfield 13, 3) := by decide +kernel
theorem dX11_readNumber_12 : decode cX11_readNumber 12 = .ok (.iload_n 1, 1) := by decide +kernel
theorem dX11_readNumber_13 : decode cX11_readNumber 13 = .ok (.iload 4, 2) := by decide +kernel
theorem dX11_readNumber_15 : decode cX11_readNumber 15 = .ok (.ifCond .ge 12, 3) := by decide +kernel
theorem dX11_readNumber_18 : decode cX11_readNumber 18 = .ok (.aload_n 0, 1) := by decide +kernel
theorem dX11_readNumber_19 : decode cX11_readNumber 19 = .ok (.getfield 13, 3) := by decide +kernel
theorem dX11_readNumber_22 : decode cX11_readNumber 22 = .ok (.iload_n 1, 1) := by decide +kernel
theorem dX11_readNumber_23 : decode cX11_readNumber 23 = .ok (.iaload, 1) := by decide +kernel
theorem dX11_readNumber_24 : decode cX11_readNumber 24 = .ok (.goto 5, 3) := by decide +kernel
theorem dX11_readNumber_27 : decode cX11_readNumber 27 = .ok (.iload 4, 2) := by decide +kernel
theorem dX11_readNumber_29 : decode cX11_readNumber 29 = .ok (.iastore, 1) := by decide +kernel
theorem dX11_readNumber_30 : decode cX11_readNumber 30 = .ok (.iload 4, 2) := by decide +kernel
theorem dX11_readNumber_32 : decode cX11_readNumber 32 = .ok (.ifCond .lt 7, 3) := by decide +kernel
theorem dX11_readNumber_35 : decode cX11_readNumber 35 = .ok (.iconst 1, 1) := by decide +kernel
theorem dX11_readNumber_36 : decode cX11_readNumber 36 = .ok (.goto 4, 3) := by decide +kernel
theorem dX11_readNumber_39 : decode cX11_readNumber 39 = .ok (.iconst 0, 1) := by decide +kernel
theorem dX11_readNumber_40 : decode cX11_readNumber 40 = .ok (.ireturn, 1) := by decide +kernel
theorem dX11_readGround_0 : decode cX11_readGround 0 = .ok (.aload_n 0, 1) := by decide +kernel
theorem dX11_readGround_1 : decode cX11_readGround 1 = .ok (.iconst 0, 1) := by decide +kernel
theorem dX11_readGround_2 : decode cX11_readGround 2 = .ok (.bipush 11, 2) := by decide +kernel
theorem dX11_readGround_4 : decode cX11_readGround 4 = .ok (.invokevirtual 127, 3) := by decide +kernel
theorem dX11_readGround_7 : decode cX11_readGround 7 = .ok (.istore_n 1, 1) := by decide +kernel
theorem dX11_readGround_8 : decode cX11_readGround 8 = .ok (.iload_n 1, 1) := by decide +kernel
theorem dX11_readGround_9 : decode cX11_readGround 9 = .ok (.ifCond .lt 21, 3) := by decide +kernel
theorem dX11_readGround_12 : decode cX11_readGround 12 = .ok (.aload_n 0, 1) := by decide +kernel
theorem dX11_readGround_13 : decode cX11_readGround 13 = .ok (.bipush 14, 2) := by decide +kernel
theorem dX11_readGround_15 : decode cX11_readGround 15 = .ok (.iload_n 1, 1) := by decide +kernel
theorem dX11_readGround_16 : decode cX11_readGround 16 = .ok (.iadd, 1) := by decide +kernel
theorem dX11_readGround_17 : decode cX11_readGround 17 = .ok (.iconst 0, 1) := by decide +kernel
theorem dX11_readGround_18 : decode cX11_readGround 18 = .ok (.bipush 19, 2) := by decide +kernel
theorem dX11_readGround_20 : decode cX11_readGround 20 = .ok (.invokevirtual 130, 3) := by decide +kernel
theorem dX11_readGround_23 : decode cX11_readGround 23 = .ok (.ifCond .eq 7, 3) := by decide +kernel
theorem dX11_readGround_26 : decode cX11_readGround 26 = .ok (.iconst 1, 1) := by decide +kernel
theorem dX11_readGround_27 : decode cX11_readGround 27 = .ok (.goto 4, 3) := by decide +kernel
theorem dX11_readGround_30 : decode cX11_readGround 30 = .ok (.iconst 0, 1) := by decide +kernel
theorem dX11_readGround_31 : decode cX11_readGround 31 = .ok (.ireturn, 1) := by decide +kernel
theorem dX11_readRange_0 : decode cX11_readRange 0 = .ok (.aload_n 0, 1) := by decide +kernel
theorem dX11_readRange_1 : decode cX11_readRange 1 = .ok (.iconst 0, 1) := by decide +kernel
theorem dX11_readRange_2 : decode cX11_readRange 2 = .ok (.bipush 30, 2) := by decide +kernel
theorem dX11_readRange_4 : decode cX11_readRange 4 = .ok (.invokevirtual 127, 3) := by decide +kernel
theorem dX11_readRange_7 : decode cX11_readRange 7 = .ok (.istore_n 1, 1) := by decide +kernel
theorem dX11_readRange_8 : decode cX11_readRange 8 = .ok (.iload_n 1, 1) := by decide +kernel
theorem dX11_readRange_9 : decode cX11_readRange 9 = .ok (.ifCond .ge 7, 3) := by decide +kernel
theorem dX11_readRange_12 : decode cX11_readRange 12 = .ok (.iconst (-1), 1) := by decide +kernel
theorem dX11_readRange_13 : decode cX11_readRange 13 = .ok (.goto 12, 3) := by decide +kernel
theorem dX11_readRange_16 : decode cX11_readRange 16 = .ok (.aload_n 0, 1) := by decide +kernel
theorem dX11_readRange_17 : decode cX11_readRange 17 = .ok (.ldc 133, 2) := by decide +kernel
theorem dX11_readRange_19 : decode cX11_readRange 19 = .ok (.iload_n 1, 1) := by decide +kernel
theorem dX11_readRange_20 : decode cX11_readRange 20 = .ok (.bipush 30, 2) := by decide +kernel
theorem dX11_readRange_22 : decode cX11_readRange 22 = .ok (.invokevirtual 135, 3) := by decide +kernel
theorem dX11_readRange_25 : decode cX11_readRange 25 = .ok (.istore_n 2, 1) := by decide +kernel
theorem dX11_readRange_26 : decode cX11_readRange 26 = .ok (.iload_n 2, 1) := by decide +kernel
theorem dX11_readRange_27 : decode cX11_readRange 27 = .ok (.ifCond .ge 5, 3) := by decide +kernel
theorem dX11_readRange_30 : decode cX11_readRange 30 = .ok (.iconst 0, 1) := by decide +kernel
theorem dX11_readRange_31 : decode cX11_readRange 31 = .ok (.ireturn, 1) := by decide +kernel
theorem dX11_readRange_32 : decode cX11_readRange 32 = .ok (.aload_n 0, 1) := by decide +kernel
theorem dX11_readRange_33 : decode cX11_readRange 33 = .ok (.getfield 13, 3) := by decide +kernel
theorem dX11_readRange_36 : decode cX11_readRange 36 = .ok (.bipush 7, 2) := by decide +kernel
theorem dX11_readRange_38 : decode cX11_readRange 38 = .ok (.iload_n 1, 1) := by decide +kernel
theorem dX11_readRange_39 : decode cX11_readRange 39 = .ok (.iastore, 1) := by decide +kernel
theorem dX11_readRange_40 : decode cX11_readRange 40 = .ok (.aload_n 0, 1) := by decide +kernel
theorem dX11_readRange_41 : decode cX11_readRange 41 = .ok (.getfield 13, 3) := by decide +kernel
theorem dX11_readRange_44 : decode cX11_readRange 44 = .ok (.bipush 8, 2) := by decide +kernel
theorem dX11_readRange_46 : decode cX11_readRange 46 = .ok (.iload_n 2, 1) := by decide +kernel
theorem dX11_readRange_47 : decode cX11_readRange 47 = .ok (.iastore, 1) := by decide +kernel
theorem dX11_readRange_48 : decode cX11_readRange 48 = .ok (.iconst 1, 1) := by decide +kernel
theorem dX11_readRange_49 : decode cX11_readRange 49 = .ok (.ireturn, 1) := by decide +kernel
theorem dX11_readMonk_0 : decode cX11_readMonk 0 = .ok (.aload_n 0, 1) := by decide +kernel
theorem dX11_readMonk_1 : decode cX11_readMonk 1 = .ok (.invokevirtual 80, 3) := by decide +kernel
theorem dX11_readMonk_4 : decode cX11_readMonk 4 = .ok (.istore_n 1, 1) := by decide +kernel
theorem dX11_readMonk_5 : decode cX11_readMonk 5 = .ok (.iload_n 1, 1) := by decide +kernel
theorem dX11_readMonk_6 : decode cX11_readMonk 6 = .ok (.bipush 6, 2) := by decide +kernel
theorem dX11_readMonk_8 : decode cX11_readMonk 8 = .ok (.if_icmp .ne 5, 3) := by decide +kernel
theorem dX11_readMonk_11 : decode cX11_readMonk 11 = .ok (.iconst 0, 1) := by decide +kernel
theorem dX11_readMonk_12 : decode cX11_readMonk 12 = .ok (.ireturn, 1) := by decide +kernel
theorem dX11_readMonk_13 : decode cX11_readMonk 13 = .ok (.aload_n 0, 1) := by decide +kernel
theorem dX11_readMonk_14 : decode cX11_readMonk 14 = .ok (.iconst 0, 1) := by decide +kernel
theorem dX11_readMonk_15 : decode cX11_readMonk 15 = .ok (.bipush 11, 2) := by decide +kernel
theorem dX11_readMonk_17 : decode cX11_readMonk 17 = .ok (.invokevirtual 127, 3) := by decide +kernel
theorem dX11_readMonk_20 : decode cX11_readMonk 20 = .ok (.istore_n 2, 1) := by decide +kernel
theorem dX11_readMonk_21 : decode cX11_readMonk 21 = .ok (.iload_n 2, 1) := by decide +kernel
theorem dX11_readMonk_22 : decode cX11_readMonk 22 = .ok (.ifCond .ge 7, 3) := by decide +kernel
theorem dX11_readMonk_25 : decode cX11_readMonk 25 = .ok (.iconst (-1), 1) := by decide +kernel
theorem dX11_readMonk_26 : decode cX11_readMonk 26 = .ok (.goto 11, 3) := by decide +kernel
theorem dX11_readMonk_29 : decode cX11_readMonk 29 = .ok (.aload_n 0, 1) := by decide +kernel
theorem dX11_readMonk_30 : decode cX11_readMonk 30 = .ok (.ldc 139, 2) := by decide +kernel
theorem dX11_readMonk_32 : decode cX11_readMonk 32 = .ok (.iconst 1, 1) := by decide +kernel
theorem dX11_readMonk_33 : decode cX11_readMonk 33 = .ok (.iconst 4, 1) := by decide +kernel
theorem dX11_readMonk_34 : decode cX11_readMonk 34 = .ok (.invokevirtual 135, 3) := by decide +kernel
theorem dX11_readMonk_37 : decode cX11_readMonk 37 = .ok (.istore_n 3, 1) := by decide +kernel
theorem dX11_readMonk_38 : decode cX11_readMonk 38 = .ok (.iload_n 3, 1) := by decide +kernel
theorem dX11_readMonk_39 : decode cX11_readMonk 39 = .ok (.ifCond .ge 5, 3) := by decide +kernel
theorem dX11_readMonk_42 : decode cX11_readMonk 42 = .ok (.iconst 0, 1) := by decide +kernel
theorem dX11_readMonk_43 : decode cX11_readMonk 43 = .ok (.ireturn, 1) := by decide +kernel
theorem dX11_readMonk_44 : decode cX11_readMonk 44 = .ok (.aload_n 0, 1) := by decide +kernel
theorem dX11_readMonk_45 : decode cX11_readMonk 45 = .ok (.ldc 141, 2) := by decide +kernel
theorem dX11_readMonk_47 : decode cX11_readMonk 47 = .ok (.invokevirtual 143, 3) := by decide +kernel
theorem dX11_readMonk_50 : decode cX11_readMonk 50 = .ok (.ifCond .eq 13, 3) := by decide +kernel
theorem dX11_readMonk_53 : decode cX11_readMonk 53 = .ok (.aload_n 0, 1) := by decide +kernel
theorem dX11_readMonk_54 : decode cX11_readMonk 54 = .ok (.iconst 0, 1) := by decide +kernel
theorem dX11_readMonk_55 : decode cX11_readMonk 55 = .ok (.bipush 11, 2) := by decide +kernel
theorem dX11_readMonk_57 : decode cX11_readMonk 57 = .ok (.invokevirtual 127, 3) := by decide +kernel
theorem dX11_readMonk_60 : decode cX11_readMonk 60 = .ok (.goto 4, 3) := by decide +kernel
theorem dX11_readMonk_63 : decode cX11_readMonk 63 = .ok (.iload_n 2, 1) := by decide +kernel
theorem dX11_readMonk_64 : decode cX11_readMonk 64 = .ok (.istore 4, 2) := by decide +kernel
theorem dX11_readMonk_66 : decode cX11_readMonk 66 = .ok (.iload 4, 2) := by decide +kernel
theorem dX11_readMonk_68 : decode cX11_readMonk 68 = .ok (.ifCond .ge 5, 3) := by decide +kernel
theorem dX11_readMonk_71 : decode cX11_readMonk 71 = .ok (.iconst 0, 1) := by decide +kernel
theorem dX11_readMonk_72 : decode cX11_readMonk 72 = .ok (.ireturn, 1) := by decide +kernel
theorem dX11_readMonk_73 : decode cX11_readMonk 73 = .ok (.aload_n 0, 1) := by decide +kernel
theorem dX11_readMonk_74 : decode cX11_readMonk 74 = .ok (.getfield 13, 3) := by decide +kernel
theorem dX11_readMonk_77 : decode cX11_readMonk 77 = .ok (.iload_n 1, 1) := by decide +kernel
theorem dX11_readMonk_78 : decode cX11_readMonk 78 = .ok (.iconst 0, 1) := by decide +kernel
theorem dX11_readMonk_79 : decode cX11_readMonk 79 = .ok (.invokestatic 67, 3) := by decide +kernel
theorem dX11_readMonk_82 : decode cX11_readMonk 82 = .ok (.iload_n 2, 1) := by decide +kernel
theorem dX11_readMonk_83 : decode cX11_readMonk 83 = .ok (.iastore, 1) := by decide +kernel
theorem dX11_readMonk_84 : decode cX11_readMonk 84 = .ok (.aload_n 0, 1) := by decide +kernel
theorem dX11_readMonk_85 : decode cX11_readMonk 85 = .ok (.getfield 13, 3) := by decide +kernel
theorem dX11_readMonk_88 : decode cX11_readMonk 88 = .ok (.iload_n 1, 1) := by decide +kernel
theorem dX11_readMonk_89 : decode cX11_readMonk 89 = .ok (.iconst 1, 1) := by decide +kernel
theorem dX11_readMonk_90 : decode cX11_readMonk 90 = .ok (.invokestatic 67, 3) := by decide +kernel
theorem dX11_readMonk_93 : decode cX11_readMonk 93 = .ok (.iload 4, 2) := by decide +kernel
theorem dX11_readMonk_95 : decode cX11_readMonk 95 = .ok (.iastore, 1) := by decide +kernel
theorem dX11_readMonk_96 : decode cX11_readMonk 96 = .ok (.aload_n 0, 1) := by decide +kernel
theorem dX11_readMonk_97 : decode cX11_readMonk 97 = .ok (.getfield 13, 3) := by decide +kernel
theorem dX11_readMonk_100 : decode cX11_readMonk 100 = .ok (.iload_n 1, 1) := by decide +kernel
theorem dX11_readMonk_101 : decode cX11_readMonk 101 = .ok (.iconst 2, 1) := by decide +kernel
theorem dX11_readMonk_102 : decode cX11_readMonk 102 = .ok (.invokestatic 67, 3) := by decide +kernel
theorem dX11_readMonk_105 : decode cX11_readMonk 105 = .ok (.iload_n 3, 1) := by decide +kernel
theorem dX11_readMonk_106 : decode cX11_readMonk 106 = .ok (.iastore, 1) := by decide +kernel
theorem dX11_readMonk_107 : decode cX11_readMonk 107 = .ok (.aload_n 0, 1) := by decide +kernel
theorem dX11_readMonk_108 : decode cX11_readMonk 108 = .ok (.getfield 13, 3) := by decide +kernel
theorem dX11_readMonk_111 : decode cX11_readMonk 111 = .ok (.iload_n 1, 1) := by decide +kernel
theorem dX11_readMonk_112 : decode cX11_readMonk 112 = .ok (.iconst 3, 1) := by decide +kernel
theorem dX11_readMonk_113 : decode cX11_readMonk 113 = .ok (.invokestatic 67, 3) := by decide +kernel
theorem dX11_readMonk_116 : decode cX11_readMonk 116 = .ok (.iconst 0, 1) := by decide +kernel
theorem dX11_readMonk_117 : decode cX11_readMonk 117 = .ok (.iastore, 1) := by decide +kernel
theorem dX11_readMonk_118 : decode cX11_readMonk 118 = .ok (.aload_n 0, 1) := by decide +kernel
theorem dX11_readMonk_119 : decode cX11_readMonk 119 = .ok (.getfield 13, 3) := by decide +kernel
theorem dX11_readMonk_122 : decode cX11_readMonk 122 = .ok (.iload_n 1, 1) := by decide +kernel
theorem dX11_readMonk_123 : decode cX11_readMonk 123 = .ok (.iconst 4, 1) := by decide +kernel
theorem dX11_readMonk_124 : decode cX11_readMonk 124 = .ok (.invokestatic 67, 3) := by decide +kernel
theorem dX11_readMonk_127 : decode cX11_readMonk 127 = .ok (.iconst 0, 1) := by decide +kernel
theorem dX11_readMonk_128 : decode cX11_readMonk 128 = .ok (.iastore, 1) := by decide +kernel
theorem dX11_readMonk_129 : decode cX11_readMonk 129 = .ok (.aload_n 0, 1) := by decide +kernel
theorem dX11_readMonk_130 : decode cX11_readMonk 130 = .ok (.getfield 13, 3) := by decide +kernel
theorem dX11_readMonk_133 : decode cX11_readMonk 133 = .ok (.iconst 0, 1) := by decide +kernel
theorem dX11_readMonk_134 : decode cX11_readMonk 134 = .ok (.dup2, 1) := by decide +kernel
theorem dX11_readMonk_135 : decode cX11_readMonk 135 = .ok (.iaload, 1) := by decide +kernel
theorem dX11_readMonk_136 : decode cX11_readMonk 136 = .ok (.iconst 1, 1) := by decide +kernel
theorem dX11_readMonk_137 : decode cX11_readMonk 137 = .ok (.iadd, 1) := by decide +kernel
theorem dX11_readMonk_138 : decode cX11_readMonk 138 = .ok (.iastore, 1) := by decide +kernel
theorem dX11_readMonk_139 : decode cX11_readMonk 139 = .ok (.iconst 1, 1) := by decide +kernel
theorem dX11_readMonk_140 : decode cX11_readMonk 140 = .ok (.ireturn, 1) := by decide +kernel
theorem dX11_readDuty_0 : decode cX11_readDuty 0 = .ok (.aload_n 0, 1) := by decide +kernel
theorem dX11_readDuty_1 : decode cX11_readDuty 1 = .ok (.invokevirtual 88, 3) := by decide +kernel
theorem dX11_readDuty_4 : decode cX11_readDuty 4 = .ok (.istore_n 1, 1) := by decide +kernel
theorem dX11_readDuty_5 : decode cX11_readDuty 5 = .ok (.iload_n 1, 1) := by decide +kernel
theorem dX11_readDuty_6 : decode cX11_readDuty 6 = .ok (.bipush 6, 2) := by decide +kernel
theorem dX11_readDuty_8 : decode cX11_readDuty 8 = .ok (.if_icmp .ne 5, 3) := by decide +kernel
theorem dX11_readDuty_11 : decode cX11_readDuty 11 = .ok (.iconst 0, 1) := by decide +kernel
theorem dX11_readDuty_12 : decode cX11_readDuty 12 = .ok (.ireturn, 1) := by decide +kernel
theorem dX11_readDuty_13 : decode cX11_readDuty 13 = .ok (.aload_n 0, 1) := by decide +kernel
theorem dX11_readDuty_14 : decode cX11_readDuty 14 = .ok (.iconst 0, 1) := by decide +kernel
theorem dX11_readDuty_15 : decode cX11_readDuty 15 = .ok (.bipush 11, 2) := by decide +kernel
theorem dX11_readDuty_17 : decode cX11_readDuty 17 = .ok (.invokevirtual 127, 3) := by decide +kernel
theorem dX11_readDuty_20 : decode cX11_readDuty 20 = .ok (.istore_n 2, 1) := by decide +kernel
theorem dX11_readDuty_21 : decode cX11_readDuty 21 = .ok (.iload_n 2, 1) := by decide +kernel
theorem dX11_readDuty_22 : decode cX11_readDuty 22 = .ok (.ifCond .ge 7, 3) := by decide +kernel
theorem dX11_readDuty_25 : decode cX11_readDuty 25 = .ok (.iconst (-1), 1) := by decide +kernel
theorem dX11_readDuty_26 : decode cX11_readDuty 26 = .ok (.goto 13, 3) := by decide +kernel
theorem dX11_readDuty_29 : decode cX11_readDuty 29 = .ok (.aload_n 0, 1) := by decide +kernel
theorem dX11_readDuty_30 : decode cX11_readDuty 30 = .ok (.ldc 146, 2) := by decide +kernel
theorem dX11_readDuty_32 : decode cX11_readDuty 32 = .ok (.iconst 0, 1) := by decide +kernel
theorem dX11_readDuty_33 : decode cX11_readDuty 33 = .ok (.sipush 999, 3) := by decide +kernel
theorem dX11_readDuty_36 : decode cX11_readDuty 36 = .ok (.invokevirtual 135, 3) := by decide +kernel
theorem dX11_readDuty_39 : decode cX11_readDuty 39 = .ok (.istore_n 3, 1) := by decide +kernel
theorem dX11_readDuty_40 : decode cX11_readDuty 40 = .ok (.iload_n 3, 1) := by decide +kernel
theorem dX11_readDuty_41 : decode cX11_readDuty 41 = .ok (.ifCond .ge 7, 3) := by decide +kernel
theorem dX11_readDuty_44 : decode cX11_readDuty 44 = .ok (.iconst (-1), 1) := by decide +kernel
theorem dX11_readDuty_45 : decode cX11_readDuty 45 = .ok (.goto 13, 3) := by decide +kernel
theorem dX11_readDuty_48 : decode cX11_readDuty 48 = .ok (.aload_n 0, 1) := by decide +kernel
theorem dX11_readDuty_49 : decode cX11_readDuty 49 = .ok (.ldc 133, 2) := by decide +kernel
theorem dX11_readDuty_51 : decode cX11_readDuty 51 = .ok (.iload_n 3, 1) := by decide +kernel
theorem dX11_readDuty_52 : decode cX11_readDuty 52 = .ok (.sipush 999, 3) := by decide +kernel
theorem dX11_readDuty_55 : decode cX11_readDuty 55 = .ok (.invokevirtual 135, 3) := by decide +kernel
theorem dX11_readDuty_58 : decode cX11_readDuty 58 = .ok (.istore 4, 2) := by decide +kernel
theorem dX11_readDuty_60 : decode cX11_readDuty 60 = .ok (.iload 4, 2) := by decide +kernel
theorem dX11_readDuty_62 : decode cX11_readDuty 62 = .ok (.ifCond .ge 5, 3) := by decide +kernel
theorem dX11_readDuty_65 : decode cX11_readDuty 65 = .ok (.iconst 0, 1) := by decide +kernel
theorem dX11_readDuty_66 : decode cX11_readDuty 66 = .ok (.ireturn, 1) := by decide +kernel
theorem dX11_readDuty_67 : decode cX11_readDuty 67 = .ok (.aload_n 0, 1) := by decide +kernel
theorem dX11_readDuty_68 : decode cX11_readDuty 68 = .ok (.getfield 13, 3) := by decide +kernel
theorem dX11_readDuty_71 : decode cX11_readDuty 71 = .ok (.iload_n 1, 1) := by decide +kernel
theorem dX11_readDuty_72 : decode cX11_readDuty 72 = .ok (.iconst 0, 1) := by decide +kernel
theorem dX11_readDuty_73 : decode cX11_readDuty 73 = .ok (.invokestatic 74, 3) := by decide +kernel
theorem dX11_readDuty_76 : decode cX11_readDuty 76 = .ok (.iload_n 2, 1) := by decide +kernel
theorem dX11_readDuty_77 : decode cX11_readDuty 77 = .ok (.iastore, 1) := by decide +kernel
theorem dX11_readDuty_78 : decode cX11_readDuty 78 = .ok (.aload_n 0, 1) := by decide +kernel
theorem dX11_readDuty_79 : decode cX11_readDuty 79 = .ok (.getfield 13, 3) := by decide +kernel
theorem dX11_readDuty_82 : decode cX11_readDuty 82 = .ok (.iload_n 1, 1) := by decide +kernel
theorem dX11_readDuty_83 : decode cX11_readDuty 83 = .ok (.iconst 1, 1) := by decide +kernel
theorem dX11_readDuty_84 : decode cX11_readDuty 84 = .ok (.invokestatic 74, 3) := by decide +kernel
theorem dX11_readDuty_87 : decode cX11_readDuty 87 = .ok (.iload_n 3, 1) := by decide +kernel
theorem dX11_readDuty_88 : decode cX11_readDuty 88 = .ok (.iastore, 1) := by decide +kernel
theorem dX11_readDuty_89 : decode cX11_readDuty 89 = .ok (.aload_n 0, 1) := by decide +kernel
theorem dX11_readDuty_90 : decode cX11_readDuty 90 = .ok (.getfield 13, 3) := by decide +kernel
theorem dX11_readDuty_93 : decode cX11_readDuty 93 = .ok (.iload_n 1, 1) := by decide +kernel
theorem dX11_readDuty_94 : decode cX11_readDuty 94 = .ok (.iconst 2, 1) := by decide +kernel
theorem dX11_readDuty_95 : decode cX11_readDuty 95 = .ok (.invokestatic 74, 3) := by decide +kernel
theorem dX11_readDuty_98 : decode cX11_readDuty 98 = .ok (.iload 4, 2) := by decide +kernel
theorem dX11_readDuty_100 : decode cX11_readDuty 100 = .ok (.iastore, 1) := by decide +kernel
theorem dX11_readDuty_101 : decode cX11_readDuty 101 = .ok (.aload_n 0, 1) := by decide +kernel
theorem dX11_readDuty_102 : decode cX11_readDuty 102 = .ok (.getfield 13, 3) := by decide +kernel
theorem dX11_readDuty_105 : decode cX11_readDuty 105 = .ok (.iload_n 1, 1) := by decide +kernel
theorem dX11_readDuty_106 : decode cX11_readDuty 106 = .ok (.iconst 3, 1) := by decide +kernel
theorem dX11_readDuty_107 : decode cX11_readDuty 107 = .ok (.invokestatic 74, 3) := by decide +kernel
theorem dX11_readDuty_110 : decode cX11_readDuty 110 = .ok (.iconst 0, 1) := by decide +kernel
theorem dX11_readDuty_111 : decode cX11_readDuty 111 = .ok (.iastore, 1) := by decide +kernel
theorem dX11_readDuty_112 : decode cX11_readDuty 112 = .ok (.aload_n 0, 1) := by decide +kernel
theorem dX11_readDuty_113 : decode cX11_readDuty 113 = .ok (.getfield 13, 3) := by decide +kernel
theorem dX11_readDuty_116 : decode cX11_readDuty 116 = .ok (.iconst 1, 1) := by decide +kernel
theorem dX11_readDuty_117 : decode cX11_readDuty 117 = .ok (.dup2, 1) := by decide +kernel
theorem dX11_readDuty_118 : decode cX11_readDuty 118 = .ok (.iaload, 1) := by decide +kernel
theorem dX11_readDuty_119 : decode cX11_readDuty 119 = .ok (.iconst 1, 1) := by decide +kernel
theorem dX11_readDuty_120 : decode cX11_readDuty 120 = .ok (.iadd, 1) := by decide +kernel
theorem dX11_readDuty_121 : decode cX11_readDuty 121 = .ok (.iastore, 1) := by decide +kernel
theorem dX11_readDuty_122 : decode cX11_readDuty 122 = .ok (.iconst 1, 1) := by decide +kernel
theorem dX11_readDuty_123 : decode cX11_readDuty 123 = .ok (.ireturn, 1) := by decide +kernel
theorem dX11_readSigned_0 : decode cX11_readSigned 0 = .ok (.aload_n 0, 1) := by decide +kernel
theorem dX11_readSigned_1 : decode cX11_readSigned 1 = .ok (.invokevirtual 120, 3) := by decide +kernel
theorem dX11_readSigned_4 : decode cX11_readSigned 4 = .ok (.aload_n 0, 1) := by decide +kernel
theorem dX11_readSigned_5 : decode cX11_readSigned 5 = .ok (.ldc 148, 2) := by decide +kernel
theorem dX11_readSigned_7 : decode cX11_readSigned 7 = .ok (.invokevirtual 123, 3) := by decide +kernel
theorem dX11_readSigned_10 : decode cX11_readSigned 10 = .ok (.istore_n 2, 1) := by decide +kernel
theorem dX11_readSigned_11 : decode cX11_readSigned 11 = .ok (.iload_n 2, 1) := by decide +kernel
theorem dX11_readSigned_12 : decode cX11_readSigned 12 = .ok (.ifCond .ne 12, 3) := by decide +kernel
theorem dX11_readSigned_15 : decode cX11_readSigned 15 = .ok (.aload_n 0, 1) := by decide +kernel
theorem dX11_readSigned_16 : decode cX11_readSigned 16 = .ok (.ldc 150, 2) := by decide +kernel
theorem dX11_readSigned_18 : decode cX11_readSigned 18 = .ok (.invokevirtual 123, 3) := by decide +kernel
theorem dX11_readSigned_21 : decode cX11_readSigned 21 = .ok (.ifCond .eq 12, 3) := by decide +kernel
theorem dX11_readSigned_24 : decode cX11_readSigned 24 = .ok (.aload_n 0, 1) := by decide +kernel
theorem dX11_readSigned_25 : decode cX11_readSigned 25 = .ok (.iconst 0, 1) := by decide +kernel
theorem dX11_readSigned_26 : decode cX11_readSigned 26 = .ok (.iconst 3, 1) := by decide +kernel
theorem dX11_readSigned_27 : decode cX11_readSigned 27 = .ok (.invokevirtual 127, 3) := by decide +kernel
theorem dX11_readSigned_30 : decode cX11_readSigned 30 = .ok (.goto 4, 3) := by decide +kernel
theorem dX11_readSigned_33 : decode cX11_readSigned 33 = .ok (.iconst (-1), 1) := by decide +kernel
theorem dX11_readSigned_34 : decode cX11_readSigned 34 = .ok (.istore_n 3, 1) := by decide +kernel
theorem dX11_readSigned_35 : decode cX11_readSigned 35 = .ok (.iload_n 3, 1) := by decide +kernel
theorem dX11_readSigned_36 : decode cX11_readSigned 36 = .ok (.ifCond .lt 19, 3) := by decide +kernel
theorem dX11_readSigned_39 : decode cX11_readSigned 39 = .ok (.aload_n 0, 1) := by decide +kernel
theorem dX11_readSigned_40 : decode cX11_readSigned 40 = .ok (.getfield 13, 3) := by decide +kernel
theorem dX11_readSigned_43 : decode cX11_readSigned 43 = .ok (.iload_n 1, 1) := by decide +kernel
theorem dX11_readSigned_44 : decode cX11_readSigned 44 = .ok (.iload_n 2, 1) := by decide +kernel
theorem dX11_readSigned_45 : decode cX11_readSigned 45 = .ok (.ifCond .eq 8, 3) := by decide +kernel
theorem dX11_readSigned_48 : decode cX11_readSigned 48 = .ok (.iload_n 3, 1) := by decide +kernel
theorem dX11_readSigned_49 : decode cX11_readSigned 49 = .ok (.ineg, 1) := by decide +kernel
theorem dX11_readSigned_50 : decode cX11_readSigned 50 = .ok (.goto 4, 3) := by decide +kernel
theorem dX11_readSigned_53 : decode cX11_readSigned 53 = .ok (.iload_n 3, 1) := by decide +kernel
theorem dX11_readSigned_54 : decode cX11_readSigned 54 = .ok (.iastore, 1) := by decide +kernel
theorem dX11_readSigned_55 : decode cX11_readSigned 55 = .ok (.iload_n 3, 1) := by decide +kernel
theorem dX11_readSigned_56 : decode cX11_readSigned 56 = .ok (.ifCond .lt 7, 3) := by decide +kernel
theorem dX11_readSigned_59 : decode cX11_readSigned 59 = .ok (.iconst 1, 1) := by decide +kernel
theorem dX11_readSigned_60 : decode cX11_readSigned 60 = .ok (.goto 4, 3) := by decide +kernel
theorem dX11_readSigned_63 : decode cX11_readSigned 63 = .ok (.iconst 0, 1) := by decide +kernel
theorem dX11_readSigned_64 : decode cX11_readSigned 64 = .ok (.ireturn, 1) := by decide +kernel
theorem dX11_readError_0 : decode cX11_readError 0 = .ok (.aload_n 0, 1) := by decide +kernel
theorem dX11_readError_1 : decode cX11_readError 1 = .ok (.iconst 0, 1) := by decide +kernel
theorem dX11_readError_2 : decode cX11_readError 2 = .ok (.bipush 11, 2) := by decide +kernel
theorem dX11_readError_4 : decode cX11_readError 4 = .ok (.invokevirtual 127, 3) := by decide +kernel
theorem dX11_readError_7 : decode cX11_readError 7 = .ok (.istore_n 1, 1) := by decide +kernel
theorem dX11_readError_8 : decode cX11_readError 8 = .ok (.iload_n 1, 1) := by decide +kernel
theorem dX11_readError_9 : decode cX11_readError 9 = .ok (.ifCond .lt 18, 3) := by decide +kernel
theorem dX11_readError_12 : decode cX11_readError 12 = .ok (.aload_n 0, 1) := by decide +kernel
theorem dX11_readError_13 : decode cX11_readError 13 = .ok (.bipush 26, 2) := by decide +kernel
theorem dX11_readError_15 : decode cX11_readError 15 = .ok (.iload_n 1, 1) := by decide +kernel
theorem dX11_readError_16 : decode cX11_readError 16 = .ok (.iadd, 1) := by decide +kernel
theorem dX11_readError_17 : decode cX11_readError 17 = .ok (.invokevirtual 152, 3) := by decide +kernel
theorem dX11_readError_20 : decode cX11_readError 20 = .ok (.ifCond .eq 7, 3) := by decide +kernel
theorem dX11_readError_23 : decode cX11_readError 23 = .ok (.iconst 1, 1) := by decide +kernel
theorem dX11_readError_24 : decode cX11_readError 24 = .ok (.goto 4, 3) := by decide +kernel
theorem dX11_readError_27 : decode cX11_readError 27 = .ok (.iconst 0, 1) := by decide +kernel
theorem dX11_readError_28 : decode cX11_readError 28 = .ok (.ireturn, 1) := by decide +kernel
theorem dX11_readCoastLine_0 : decode cX11_readCoastLine 0 = .ok (.aload_n 0, 1) := by decide +kernel
theorem dX11_readCoastLine_1 : decode cX11_readCoastLine 1 = .ok (.ldc 156, 2) := by decide +kernel
theorem dX11_readCoastLine_3 : decode cX11_readCoastLine 3 = .ok (.invokevirtual 123, 3) := by decide +kernel
theorem dX11_readCoastLine_6 : decode cX11_readCoastLine 6 = .ok (.ifCond .eq 8, 3) := by decide +kernel
theorem dX11_readCoastLine_9 : decode cX11_readCoastLine 9 = .ok (.aload_n 0, 1) := by decide +kernel
theorem dX11_readCoastLine_10 : decode cX11_readCoastLine 10 = .ok (.invokevirtual 158, 3) := by decide +kernel
theorem dX11_readCoastLine_13 : decode cX11_readCoastLine 13 = .ok (.ireturn, 1) := by decide +kernel
theorem dX11_readCoastLine_14 : decode cX11_readCoastLine 14 = .ok (.aload_n 0, 1) := by decide +kernel
theorem dX11_readCoastLine_15 : decode cX11_readCoastLine 15 = .ok (.ldc 162, 2) := by decide +kernel
theorem dX11_readCoastLine_17 : decode cX11_readCoastLine 17 = .ok (.invokevirtual 123, 3) := by decide +kernel
theorem dX11_readCoastLine_20 : decode cX11_readCoastLine 20 = .ok (.ifCond .eq 12, 3) := by decide +kernel
theorem dX11_readCoastLine_23 : decode cX11_readCoastLine 23 = .ok (.aload_n 0, 1) := by decide +kernel
theorem dX11_readCoastLine_24 : decode cX11_readCoastLine 24 = .ok (.iconst 5, 1) := by decide +kernel
theorem dX11_readCoastLine_25 : decode cX11_readCoastLine 25 = .ok (.iconst 4, 1) := by decide +kernel
theorem dX11_readCoastLine_26 : decode cX11_readCoastLine 26 = .ok (.bipush 24, 2) := by decide +kernel
theorem dX11_readCoastLine_28 : decode cX11_readCoastLine 28 = .ok (.invokevirtual 130, 3) := by decide +kernel
theorem dX11_readCoastLine_31 : decode cX11_readCoastLine 31 = .ok (.ireturn, 1) := by decide +kernel
theorem dX11_readCoastLine_32 : decode cX11_readCoastLine 32 = .ok (.aload_n 0, 1) := by decide +kernel
theorem dX11_readCoastLine_33 : decode cX11_readCoastLine 33 = .ok (.ldc 164, 2) := by decide +kernel
theorem dX11_readCoastLine_35 : decode cX11_readCoastLine 35 = .ok (.invokevirtual 123, 3) := by decide +kernel
theorem dX11_readCoastLine_38 : decode cX11_readCoastLine 38 = .ok (.ifCond .eq 13, 3) := by decide +kernel
theorem dX11_readCoastLine_41 : decode cX11_readCoastLine 41 = .ok (.aload_n 0, 1) := by decide +kernel
theorem dX11_readCoastLine_42 : decode cX11_readCoastLine 42 = .ok (.bipush 6, 2) := by decide +kernel
theorem dX11_readCoastLine_44 : decode cX11_readCoastLine 44 = .ok (.iconst 2, 1) := by decide +kernel
theorem dX11_readCoastLine_45 : decode cX11_readCoastLine 45 = .ok (.bipush 28, 2) := by decide +kernel
theorem dX11_readCoastLine_47 : decode cX11_readCoastLine 47 = .ok (.invokevirtual 130, 3) := by decide +kernel
theorem dX11_readCoastLine_50 : decode cX11_readCoastLine 50 = .ok (.ireturn, 1) := by decide +kernel
theorem dX11_readCoastLine_51 : decode cX11_readCoastLine 51 = .ok (.aload_n 0, 1) := by decide +kernel
theorem dX11_readCoastLine_52 : decode cX11_readCoastLine 52 = .ok (.ldc 166, 2) := by decide +kernel
theorem dX11_readCoastLine_54 : decode cX11_readCoastLine 54 = .ok (.invokevirtual 123, 3) := by decide +kernel
theorem dX11_readCoastLine_57 : decode cX11_readCoastLine 57 = .ok (.ifCond .eq 8, 3) := by decide +kernel
theorem dX11_readCoastLine_60 : decode cX11_readCoastLine 60 = .ok (.aload_n 0, 1) := by decide +kernel
theorem dX11_readCoastLine_61 : decode cX11_readCoastLine 61 = .ok (.invokevirtual 168, 3) := by decide +kernel
theorem dX11_readCoastLine_64 : decode cX11_readCoastLine 64 = .ok (.ireturn, 1) := by decide +kernel
theorem dX11_readCoastLine_65 : decode cX11_readCoastLine 65 = .ok (.aload_n 0, 1) := by decide +kernel
theorem dX11_readCoastLine_66 : decode cX11_readCoastLine 66 = .ok (.ldc 171, 2) := by decide +kernel
theorem dX11_readCoastLine_68 : decode cX11_readCoastLine 68 = .ok (.invokevirtual 123, 3) := by decide +kernel
theorem dX11_readCoastLine_71 : decode cX11_readCoastLine 71 = .ok (.ifCond .eq 8, 3) := by decide +kernel
theorem dX11_readCoastLine_74 : decode cX11_readCoastLine 74 = .ok (.aload_n 0, 1) := by decide +kernel
theorem dX11_readCoastLine_75 : decode cX11_readCoastLine 75 = .ok (.invokevirtual 173, 3) := by decide +kernel
theorem dX11_readCoastLine_78 : decode cX11_readCoastLine 78 = .ok (.ireturn, 1) := by decide +kernel
theorem dX11_readCoastLine_79 : decode cX11_readCoastLine 79 = .ok (.aload_n 0, 1) := by decide +kernel
theorem dX11_readCoastLine_80 : decode cX11_readCoastLine 80 = .ok (.ldc 176, 2) := by decide +kernel
theorem dX11_readCoastLine_82 : decode cX11_readCoastLine 82 = .ok (.invokevirtual 123, 3) := by decide +kernel
theorem dX11_readCoastLine_85 : decode cX11_readCoastLine 85 = .ok (.ifCond .eq 8, 3) := by decide +kernel
theorem dX11_readCoastLine_88 : decode cX11_readCoastLine 88 = .ok (.aload_n 0, 1) := by decide +kernel
theorem dX11_readCoastLine_89 : decode cX11_readCoastLine 89 = .ok (.invokevirtual 178, 3) := by decide +kernel
theorem dX11_readCoastLine_92 : decode cX11_readCoastLine 92 = .ok (.ireturn, 1) := by decide +kernel
theorem dX11_readCoastLine_93 : decode cX11_readCoastLine 93 = .ok (.aload_n 0, 1) := by decide +kernel
theorem dX11_readCoastLine_94 : decode cX11_readCoastLine 94 = .ok (.ldc 181, 2) := by decide +kernel
theorem dX11_readCoastLine_96 : decode cX11_readCoastLine 96 = .ok (.invokevirtual 123, 3) := by decide +kernel
theorem dX11_readCoastLine_99 : decode cX11_readCoastLine 99 = .ok (.ifCond .eq 13, 3) := by decide +kernel
theorem dX11_readCoastLine_102 : decode cX11_readCoastLine 102 = .ok (.aload_n 0, 1) := by decide +kernel
theorem dX11_readCoastLine_103 : decode cX11_readCoastLine 103 = .ok (.bipush 11, 2) := by decide +kernel
theorem dX11_readCoastLine_105 : decode cX11_readCoastLine 105 = .ok (.iconst 0, 1) := by decide +kernel
theorem dX11_readCoastLine_106 : decode cX11_readCoastLine 106 = .ok (.bipush 100, 2) := by decide +kernel
theorem dX11_readCoastLine_108 : decode cX11_readCoastLine 108 = .ok (.invokevirtual 130, 3) := by decide +kernel
theorem dX11_readCoastLine_111 : decode cX11_readCoastLine 111 = .ok (.ireturn, 1) := by decide +kernel
theorem dX11_readCoastLine_112 : decode cX11_readCoastLine 112 = .ok (.aload_n 0, 1) := by decide +kernel
theorem dX11_readCoastLine_113 : decode cX11_readCoastLine 113 = .ok (.ldc 183, 2) := by decide +kernel
theorem dX11_readCoastLine_115 : decode cX11_readCoastLine 115 = .ok (.invokevirtual 123, 3) := by decide +kernel
theorem dX11_readCoastLine_118 : decode cX11_readCoastLine 118 = .ok (.ifCond .eq 10, 3) := by decide +kernel
theorem dX11_readCoastLine_121 : decode cX11_readCoastLine 121 = .ok (.aload_n 0, 1) := by decide +kernel
theorem dX11_readCoastLine_122 : decode cX11_readCoastLine 122 = .ok (.bipush 10, 2) := by decide +kernel
theorem dX11_readCoastLine_124 : decode cX11_readCoastLine 124 = .ok (.invokevirtual 152, 3) := by decide +kernel
theorem dX11_readCoastLine_127 : decode cX11_readCoastLine 127 = .ok (.ireturn, 1) := by decide +kernel
theorem dX11_readCoastLine_128 : decode cX11_readCoastLine 128 = .ok (.aload_n 0, 1) := by decide +kernel
theorem dX11_readCoastLine_129 : decode cX11_readCoastLine 129 = .ok (.ldc 185, 2) := by decide +kernel
theorem dX11_readCoastLine_131 : decode cX11_readCoastLine 131 = .ok (.invokevirtual 123, 3) := by decide +kernel
theorem dX11_readCoastLine_134 : decode cX11_readCoastLine 134 = .ok (.ifCond .eq 14, 3) := by decide +kernel
theorem dX11_readCoastLine_137 : decode cX11_readCoastLine 137 = .ok (.aload_n 0, 1) := by decide +kernel
theorem dX11_readCoastLine_138 : decode cX11_readCoastLine 138 = .ok (.invokevirtual 187, 3) := by decide +kernel
theorem dX11_readCoastLine_141 : decode cX11_readCoastLine 141 = .ok (.ifCond .eq 7, 3) := by decide +kernel
theorem dX11_readCoastLine_144 : decode cX11_readCoastLine 144 = .ok (.iconst 1, 1) := by decide +kernel
theorem dX11_readCoastLine_145 : decode cX11_readCoastLine 145 = .ok (.goto 4, 3) := by decide +kernel
theorem dX11_readCoastLine_148 : decode cX11_readCoastLine 148 = .ok (.iconst 0, 1) := by decide +kernel
theorem dX11_readCoastLine_149 : decode cX11_readCoastLine 149 = .ok (.ireturn, 1) := by decide +kernel
theorem dX11_emits_0 : decode cX11_emits 0 = .ok (.aload_n 0, 1) := by decide +kernel
theorem dX11_emits_1 : decode cX11_emits 1 = .ok (.getfield 13, 3) := by decide +kernel
theorem dX11_emits_4 : decode cX11_emits 4 = .ok (.sipush 1230, 3) := by decide +kernel
theorem dX11_emits_7 : decode cX11_emits 7 = .ok (.iconst 2, 1) := by decide +kernel
theorem dX11_emits_8 : decode cX11_emits 8 = .ok (.aload_n 0, 1) := by decide +kernel
theorem dX11_emits_9 : decode cX11_emits 9 = .ok (.getfield 190, 3) := by decide +kernel
theorem dX11_emits_12 : decode cX11_emits 12 = .ok (.imul, 1) := by decide +kernel
theorem dX11_emits_13 : decode cX11_emits 13 = .ok (.iadd, 1) := by decide +kernel
theorem dX11_emits_14 : decode cX11_emits 14 = .ok (.iload_n 1, 1) := by decide +kernel
theorem dX11_emits_15 : decode cX11_emits 15 = .ok (.iastore, 1) := by decide +kernel
theorem dX11_emits_16 : decode cX11_emits 16 = .ok (.aload_n 0, 1) := by decide +kernel
theorem dX11_emits_17 : decode cX11_emits 17 = .ok (.getfield 13, 3) := by decide +kernel
theorem dX11_emits_20 : decode cX11_emits 20 = .ok (.sipush 1230, 3) := by decide +kernel
theorem dX11_emits_23 : decode cX11_emits 23 = .ok (.iconst 2, 1) := by decide +kernel
theorem dX11_emits_24 : decode cX11_emits 24 = .ok (.aload_n 0, 1) := by decide +kernel
theorem dX11_emits_25 : decode cX11_emits 25 = .ok (.getfield 190, 3) := by decide +kernel
theorem dX11_emits_28 : decode cX11_emits 28 = .ok (.imul, 1) := by decide +kernel
theorem dX11_emits_29 : decode cX11_emits 29 = .ok (.iadd, 1) := by decide +kernel
theorem dX11_emits_30 : decode cX11_emits 30 = .ok (.iconst 1, 1) := by decide +kernel
theorem dX11_emits_31 : decode cX11_emits 31 = .ok (.iadd, 1) := by decide +kernel
theorem dX11_emits_32 : decode cX11_emits 32 = .ok (.iload_n 2, 1) := by decide +kernel
theorem dX11_emits_33 : decode cX11_emits 33 = .ok (.iastore, 1) := by decide +kernel
theorem dX11_emits_34 : decode cX11_emits 34 = .ok (.aload_n 0, 1) := by decide +kernel
theorem dX11_emits_35 : decode cX11_emits 35 = .ok (.dup, 1) := by decide +kernel
theorem dX11_emits_36 : decode cX11_emits 36 = .ok (.getfield 190, 3) := by decide +kernel
theorem dX11_emits_39 : decode cX11_emits 39 = .ok (.iconst 1, 1) := by decide +kernel
theorem dX11_emits_40 : decode cX11_emits 40 = .ok (.iadd, 1) := by decide +kernel
theorem dX11_emits_41 : decode cX11_emits 41 = .ok (.putfield 190, 3) := by decide +kernel
theorem dX11_emits_44 : decode cX11_emits 44 = .ok (.return_, 1) := by decide +kernel
theorem dX11_readPart_0 : decode cX11_readPart 0 = .ok (.aload_n 0, 1) := by decide +kernel
theorem dX11_readPart_1 : decode cX11_readPart 1 = .ok (.invokevirtual 120, 3) := by decide +kernel
theorem dX11_readPart_4 : decode cX11_readPart 4 = .ok (.aload_n 0, 1) := by decide +kernel
theorem dX11_readPart_5 : decode cX11_readPart 5 = .ok (.getfield 95, 3) := by decide +kernel
theorem dX11_readPart_8 : decode cX11_readPart 8 = .ok (.aload_n 0, 1) := by decide +kernel
theorem dX11_readPart_9 : decode cX11_readPart 9 = .ok (.getfield 105, 3) := by decide +kernel
theorem dX11_readPart_12 : decode cX11_readPart 12 = .ok (.if_icmp .ne 22, 3) := by decide +kernel
theorem dX11_readPart_15 : decode cX11_readPart 15 = .ok (.aload_n 0, 1) := by decide +kernel
theorem dX11_readPart_16 : decode cX11_readPart 16 = .ok (.iconst 0, 1) := by decide +kernel
theorem dX11_readPart_17 : decode cX11_readPart 17 = .ok (.sipush 999, 3) := by decide +kernel
theorem dX11_readPart_20 : decode cX11_readPart 20 = .ok (.invokevirtual 127, 3) := by decide +kernel
theorem dX11_readPart_23 : decode cX11_readPart 23 = .ok (.istore_n 1, 1) := by decide +kernel
theorem dX11_readPart_24 : decode cX11_readPart 24 = .ok (.aload_n 0, 1) := by decide +kernel
theorem dX11_readPart_25 : decode cX11_readPart 25 = .ok (.bipush 8, 2) := by decide +kernel
theorem dX11_readPart_27 : decode cX11_readPart 27 = .ok (.iload_n 1, 1) := by decide +kernel
theorem dX11_readPart_28 : decode cX11_readPart 28 = .ok (.invokevirtual 193, 3) := by decide +kernel
theorem dX11_readPart_31 : decode cX11_readPart 31 = .ok (.goto 89, 3) := by decide +kernel
theorem dX11_readPart_34 : decode cX11_readPart 34 = .ok (.aload_n 0, 1) := by decide +kernel
theorem dX11_readPart_35 : decode cX11_readPart 35 = .ok (.ldc 171, 2) := by decide +kernel
theorem dX11_readPart_37 : decode cX11_readPart 37 = .ok (.invokevirtual 123, 3) := by decide +kernel
theorem dX11_readPart_40 : decode cX11_readPart 40 = .ok (.ifCond .eq 7, 3) := by decide +kernel
theorem dX11_readPart_43 : decode cX11_readPart 43 = .ok (.iconst 0, 1) := by decide +kernel
theorem dX11_readPart_44 : decode cX11_readPart 44 = .ok (.goto 69, 3) := by decide +kernel
theorem dX11_readPart_47 : decode cX11_readPart 47 = .ok (.aload_n 0, 1) := by decide +kernel
theorem dX11_readPart_48 : decode cX11_readPart 48 = .ok (.ldc 197, 2) := by decide +kernel
theorem dX11_readPart_50 : decode cX11_readPart 50 = .ok (.invokevirtual 123, 3) := by decide +kernel
theorem dX11_readPart_53 : decode cX11_readPart 53 = .ok (.ifCond .eq 7, 3) := by decide +kernel
theorem dX11_readPart_56 : decode cX11_readPart 56 = .ok (.iconst 1, 1) := by decide +kernel
theorem dX11_readPart_57 : decode cX11_readPart 57 = .ok (.goto 56, 3) := by decide +kernel
theorem dX11_readPart_60 : decode cX11_readPart 60 = .ok (.aload_n 0, 1) := by decide +kernel
theorem dX11_readPart_61 : decode cX11_readPart 61 = .ok (.ldc 199, 2) := by decide +kernel
theorem dX11_readPart_63 : decode cX11_readPart 63 = .ok (.invokevirtual 123, 3) := by decide +kernel
theorem dX11_readPart_66 : decode cX11_readPart 66 = .ok (.ifCond .eq 7, 3) := by decide +kernel
theorem dX11_readPart_69 : decode cX11_readPart 69 = .ok (.iconst 2, 1) := by decide +kernel
theorem dX11_readPart_70 : decode cX11_readPart 70 = .ok (.goto 43, 3) := by decide +kernel
theorem dX11_readPart_73 : decode cX11_readPart 73 = .ok (.aload_n 0, 1) := by decide +kernel
theorem dX11_readPart_74 : decode cX11_readPart 74 = .ok (.ldc 201, 2) := by decide +kernel
theorem dX11_readPart_76 : decode cX11_readPart 76 = .ok (.invokevirtual 123, 3) := by decide +kernel
theorem dX11_readPart_79 : decode cX11_readPart 79 = .ok (.ifCond .eq 7, 3) := by decide +kernel
theorem dX11_readPart_82 : decode cX11_readPart 82 = .ok (.iconst 3, 1) := by decide +kernel
theorem dX11_readPart_83 : decode cX11_readPart 83 = .ok (.goto 30, 3) := by decide +kernel
theorem dX11_readPart_86 : decode cX11_readPart 86 = .ok (.aload_n 0, 1) := by decide +kernel
theorem dX11_readPart_87 : decode cX11_readPart 87 = .ok (.ldc 203, 2) := by decide +kernel
theorem dX11_readPart_89 : decode cX11_readPart 89 = .ok (.invokevirtual 123, 3) := by decide +kernel
theorem dX11_readPart_92 : decode cX11_readPart 92 = .ok (.ifCond .eq 7, 3) := by decide +kernel
theorem dX11_readPart_95 : decode cX11_readPart 95 = .ok (.iconst 4, 1) := by decide +kernel
theorem dX11_readPart_96 : decode cX11_readPart 96 = .ok (.goto 17, 3) := by decide +kernel
theorem dX11_readPart_99 : decode cX11_readPart 99 = .ok (.aload_n 0, 1) := by decide +kernel
theorem dX11_readPart_100 : decode cX11_readPart 100 = .ok (.ldc 205, 2) := by decide +kernel
theorem dX11_readPart_102 : decode cX11_readPart 102 = .ok (.invokevirtual 123, 3) := by decide +kernel
theorem dX11_readPart_105 : decode cX11_readPart 105 = .ok (.ifCond .eq 7, 3) := by decide +kernel
theorem dX11_readPart_108 : decode cX11_readPart 108 = .ok (.iconst 5, 1) := by decide +kernel
theorem dX11_readPart_109 : decode cX11_readPart 109 = .ok (.goto 4, 3) := by decide +kernel
theorem dX11_readPart_112 : decode cX11_readPart 112 = .ok (.iconst (-1), 1) := by decide +kernel
theorem dX11_readPart_113 : decode cX11_readPart 113 = .ok (.istore_n 1, 1) := by decide +kernel
theorem dX11_readPart_114 : decode cX11_readPart 114 = .ok (.aload_n 0, 1) := by decide +kernel
theorem dX11_readPart_115 : decode cX11_readPart 115 = .ok (.iload_n 1, 1) := by decide +kernel
theorem dX11_readPart_116 : decode cX11_readPart 116 = .ok (.iconst 0, 1) := by decide +kernel
theorem dX11_readPart_117 : decode cX11_readPart 117 = .ok (.invokevirtual 193, 3) := by decide +kernel
theorem dX11_readPart_120 : decode cX11_readPart 120 = .ok (.iload_n 1, 1) := by decide +kernel
theorem dX11_readPart_121 : decode cX11_readPart 121 = .ok (.ifCond .lt 7, 3) := by decide +kernel
theorem dX11_readPart_124 : decode cX11_readPart 124 = .ok (.iconst 1, 1) := by decide +kernel
theorem dX11_readPart_125 : decode cX11_readPart 125 = .ok (.goto 4, 3) := by decide +kernel
theorem dX11_readPart_128 : decode cX11_readPart 128 = .ok (.iconst 0, 1) := by decide +kernel
theorem dX11_readPart_129 : decode cX11_readPart 129 = .ok (.ireturn, 1) := by decide +kernel
theorem dX11_readSum_0 : decode cX11_readSum 0 = .ok (.aload_n 0, 1) := by decide +kernel
theorem dX11_readSum_1 : decode cX11_readSum 1 = .ok (.invokevirtual 207, 3) := by decide +kernel
theorem dX11_readSum_4 : decode cX11_readSum 4 = .ok (.ifCond .ne 5, 3) := by decide +kernel
theorem dX11_readSum_7 : decode cX11_readSum 7 = .ok (.iconst 0, 1) := by decide +kernel
theorem dX11_readSum_8 : decode cX11_readSum 8 = .ok (.ireturn, 1) := by decide +kernel
theorem dX11_readSum_9 : decode cX11_readSum 9 = .ok (.aload_n 0, 1) := by decide +kernel
theorem dX11_readSum_10 : decode cX11_readSum 10 = .ok (.bipush 43, 2) := by decide +kernel
theorem dX11_readSum_12 : decode cX11_readSum 12 = .ok (.invokevirtual 210, 3) := by decide +kernel
theorem dX11_readSum_15 : decode cX11_readSum 15 = .ok (.ifCond .eq 22, 3) := by decide +kernel
theorem dX11_readSum_18 : decode cX11_readSum 18 = .ok (.aload_n 0, 1) := by decide +kernel
theorem dX11_readSum_19 : decode cX11_readSum 19 = .ok (.invokevirtual 207, 3) := by decide +kernel
theorem dX11_readSum_22 : decode cX11_readSum 22 = .ok (.ifCond .ne 5, 3) := by decide +kernel
theorem dX11_readSum_25 : decode cX11_readSum 25 = .ok (.iconst 0, 1) := by decide +kernel
theorem dX11_readSum_26 : decode cX11_readSum 26 = .ok (.ireturn, 1) := by decide +kernel
theorem dX11_readSum_27 : decode cX11_readSum 27 = .ok (.aload_n 0, 1) := by decide +kernel
theorem dX11_readSum_28 : decode cX11_readSum 28 = .ok (.bipush 9, 2) := by decide +kernel
theorem dX11_readSum_30 : decode cX11_readSum 30 = .ok (.iconst 0, 1) := by decide +kernel
theorem dX11_readSum_31 : decode cX11_readSum 31 = .ok (.invokevirtual 193, 3) := by decide +kernel
theorem dX11_readSum_34 : decode cX11_readSum 34 = .ok (.goto (-25), 3) := by decide +kernel
theorem dX11_readSum_37 : decode cX11_readSum 37 = .ok (.iconst 1, 1) := by decide +kernel
theorem dX11_readSum_38 : decode cX11_readSum 38 = .ok (.ireturn, 1) := by decide +kernel
theorem dX11_readTag_0 : decode cX11_readTag 0 = .ok (.aload_n 0, 1) := by decide +kernel
theorem dX11_readTag_1 : decode cX11_readTag 1 = .ok (.invokevirtual 120, 3) := by decide +kernel
theorem dX11_readTag_4 : decode cX11_readTag 4 = .ok (.aload_n 0, 1) := by decide +kernel
theorem dX11_readTag_5 : decode cX11_readTag 5 = .ok (.ldc 213, 2) := by decide +kernel
theorem dX11_readTag_7 : decode cX11_readTag 7 = .ok (.invokevirtual 123, 3) := by decide +kernel
theorem dX11_readTag_10 : decode cX11_readTag 10 = .ok (.ifCond .eq 8, 3) := by decide +kernel
theorem dX11_readTag_13 : decode cX11_readTag 13 = .ok (.bipush 6, 2) := by decide +kernel
theorem dX11_readTag_15 : decode cX11_readTag 15 = .ok (.goto 18, 3) := by decide +kernel
theorem dX11_readTag_18 : decode cX11_readTag 18 = .ok (.aload_n 0, 1) := by decide +kernel
theorem dX11_readTag_19 : decode cX11_readTag 19 = .ok (.ldc 215, 2) := by decide +kernel
theorem dX11_readTag_21 : decode cX11_readTag 21 = .ok (.invokevirtual 123, 3) := by decide +kernel
theorem dX11_readTag_24 : decode cX11_readTag 24 = .ok (.ifCond .eq 8, 3) := by decide +kernel
theorem dX11_readTag_27 : decode cX11_readTag 27 = .ok (.bipush 7, 2) := by decide +kernel
theorem dX11_readTag_29 : decode cX11_readTag 29 = .ok (.goto 4, 3) := by decide +kernel
theorem dX11_readTag_32 : decode cX11_readTag 32 = .ok (.iconst (-1), 1) := by decide +kernel
theorem dX11_readTag_33 : decode cX11_readTag 33 = .ok (.istore_n 1, 1) := by decide +kernel
theorem dX11_readTag_34 : decode cX11_readTag 34 = .ok (.iload_n 1, 1) := by decide +kernel
theorem dX11_readTag_35 : decode cX11_readTag 35 = .ok (.ifCond .lt 12, 3) := by decide +kernel
theorem dX11_readTag_38 : decode cX11_readTag 38 = .ok (.aload_n 0, 1) := by decide +kernel
theorem dX11_readTag_39 : decode cX11_readTag 39 = .ok (.iload_n 1, 1) := by decide +kernel
theorem dX11_readTag_40 : decode cX11_readTag 40 = .ok (.iconst 0, 1) := by decide +kernel
theorem dX11_readTag_41 : decode cX11_readTag 41 = .ok (.invokevirtual 193, 3) := by decide +kernel
theorem dX11_readTag_44 : decode cX11_readTag 44 = .ok (.goto 11, 3) := by decide +kernel
theorem dX11_readTag_47 : decode cX11_readTag 47 = .ok (.aload_n 0, 1) := by decide +kernel
theorem dX11_readTag_48 : decode cX11_readTag 48 = .ok (.aload_n 0, 1) := by decide +kernel
theorem dX11_readTag_49 : decode cX11_readTag 49 = .ok (.getfield 105, 3) := by decide +kernel
theorem dX11_readTag_52 : decode cX11_readTag 52 = .ok (.putfield 95, 3) := by decide +kernel
theorem dX11_readTag_55 : decode cX11_readTag 55 = .ok (.iload_n 1, 1) := by decide +kernel
theorem dX11_readTag_56 : decode cX11_readTag 56 = .ok (.ifCond .lt 7, 3) := by decide +kernel
theorem dX11_readTag_59 : decode cX11_readTag 59 = .ok (.iconst 1, 1) := by decide +kernel
theorem dX11_readTag_60 : decode cX11_readTag 60 = .ok (.goto 4, 3) := by decide +kernel
theorem dX11_readTag_63 : decode cX11_readTag 63 = .ok (.iconst 0, 1) := by decide +kernel
theorem dX11_readTag_64 : decode cX11_readTag 64 = .ok (.ireturn, 1) := by decide +kernel
theorem dX11_readAtom_0 : decode cX11_readAtom 0 = .ok (.aload_n 0, 1) := by decide +kernel
theorem dX11_readAtom_1 : decode cX11_readAtom 1 = .ok (.bipush 40, 2) := by decide +kernel
theorem dX11_readAtom_3 : decode cX11_readAtom 3 = .ok (.invokevirtual 210, 3) := by decide +kernel
theorem dX11_readAtom_6 : decode cX11_readAtom 6 = .ok (.ifCond .eq 50, 3) := by decide +kernel
theorem dX11_readAtom_9 : decode cX11_readAtom 9 = .ok (.aload_n 0, 1) := by decide +kernel
theorem dX11_readAtom_10 : decode cX11_readAtom 10 = .ok (.getfield 217, 3) := by decide +kernel
theorem dX11_readAtom_13 : decode cX11_readAtom 13 = .ok (.bipush 6, 2) := by decide +kernel
theorem dX11_readAtom_15 : decode cX11_readAtom 15 = .ok (.if_icmp .ne 5, 3) := by decide +kernel
theorem dX11_readAtom_18 : decode cX11_readAtom 18 = .ok (.iconst 0, 1) := by decide +kernel
theorem dX11_readAtom_19 : decode cX11_readAtom 19 = .ok (.ireturn, 1) := by decide +kernel
theorem dX11_readAtom_20 : decode cX11_readAtom 20 = .ok (.aload_n 0, 1) := by decide +kernel
theorem dX11_readAtom_21 : decode cX11_readAtom 21 = .ok (.dup, 1) := by decide +kernel
theorem dX11_readAtom_22 : decode cX11_readAtom 22 = .ok (.getfield 217, 3) := by decide +kernel
theorem dX11_readAtom_25 : decode cX11_readAtom 25 = .ok (.iconst 1, 1) := by decide +kernel
theorem dX11_readAtom_26 : decode cX11_readAtom 26 = .ok (.iadd, 1) := by decide +kernel
theorem dX11_readAtom_27 : decode cX11_readAtom 27 = .ok (.putfield 217, 3) := by decide +kernel
theorem dX11_readAtom_30 : decode cX11_readAtom 30 = .ok (.aload_n 0, 1) := by decide +kernel
theorem dX11_readAtom_31 : decode cX11_readAtom 31 = .ok (.invokevirtual 220, 3) := by decide +kernel
theorem dX11_readAtom_34 : decode cX11_readAtom 34 = .ok (.ifCond .ne 5, 3) := by decide +kernel
theorem dX11_readAtom_37 : decode cX11_readAtom 37 = .ok (.iconst 0, 1) := by decide +kernel
theorem dX11_readAtom_38 : decode cX11_readAtom 38 = .ok (.ireturn, 1) := by decide +kernel
theorem dX11_readAtom_39 : decode cX11_readAtom 39 = .ok (.aload_n 0, 1) := by decide +kernel
theorem dX11_readAtom_40 : decode cX11_readAtom 40 = .ok (.dup, 1) := by decide +kernel
theorem dX11_readAtom_41 : decode cX11_readAtom 41 = .ok (.getfield 217, 3) := by decide +kernel
theorem dX11_readAtom_44 : decode cX11_readAtom 44 = .ok (.iconst 1, 1) := by decide +kernel
theorem dX11_readAtom_45 : decode cX11_readAtom 45 = .ok (.isub, 1) := by decide +kernel
theorem dX11_readAtom_46 : decode cX11_readAtom 46 = .ok (.putfield 217, 3) := by decide +kernel
theorem dX11_readAtom_49 : decode cX11_readAtom 49 = .ok (.aload_n 0, 1) := by decide +kernel
theorem dX11_readAtom_50 : decode cX11_readAtom 50 = .ok (.bipush 41, 2) := by decide +kernel
theorem dX11_readAtom_52 : decode cX11_readAtom 52 = .ok (.invokevirtual 210, 3) := by decide +kernel
theorem dX11_readAtom_55 : decode cX11_readAtom 55 = .ok (.ireturn, 1) := by decide +kernel
theorem dX11_readAtom_56 : decode cX11_readAtom 56 = .ok (.aload_n 0, 1) := by decide +kernel
theorem dX11_readAtom_57 : decode cX11_readAtom 57 = .ok (.ldc 223, 2) := by decide +kernel
theorem dX11_readAtom_59 : decode cX11_readAtom 59 = .ok (.invokevirtual 143, 3) := by decide +kernel
theorem dX11_readAtom_62 : decode cX11_readAtom 62 = .ok (.ifCond .eq 52, 3) := by decide +kernel
theorem dX11_readAtom_65 : decode cX11_readAtom 65 = .ok (.aload_n 0, 1) := by decide +kernel
theorem dX11_readAtom_66 : decode cX11_readAtom 66 = .ok (.getfield 217, 3) := by decide +kernel
theorem dX11_readAtom_69 : decode cX11_readAtom 69 = .ok (.bipush 6, 2) := by decide +kernel
theorem dX11_readAtom_71 : decode cX11_readAtom 71 = .ok (.if_icmp .ne 5, 3) := by decide +kernel
theorem dX11_readAtom_74 : decode cX11_readAtom 74 = .ok (.iconst 0, 1) := by decide +kernel
theorem dX11_readAtom_75 : decode cX11_readAtom 75 = .ok (.ireturn, 1) := by decide +kernel
theorem dX11_readAtom_76 : decode cX11_readAtom 76 = .ok (.aload_n 0, 1) := by decide +kernel
theorem dX11_readAtom_77 : decode cX11_readAtom 77 = .ok (.dup, 1) := by decide +kernel
theorem dX11_readAtom_78 : decode cX11_readAtom 78 = .ok (.getfield 217, 3) := by decide +kernel
theorem dX11_readAtom_81 : decode cX11_readAtom 81 = .ok (.iconst 1, 1) := by decide +kernel
theorem dX11_readAtom_82 : decode cX11_readAtom 82 = .ok (.iadd, 1) := by decide +kernel
theorem dX11_readAtom_83 : decode cX11_readAtom 83 = .ok (.putfield 217, 3) := by decide +kernel
theorem dX11_readAtom_86 : decode cX11_readAtom 86 = .ok (.aload_n 0, 1) := by decide +kernel
theorem dX11_readAtom_87 : decode cX11_readAtom 87 = .ok (.invokevirtual 225, 3) := by decide +kernel
theorem dX11_readAtom_90 : decode cX11_readAtom 90 = .ok (.ifCond .ne 5, 3) := by decide +kernel
theorem dX11_readAtom_93 : decode cX11_readAtom 93 = .ok (.iconst 0, 1) := by decide +kernel
theorem dX11_readAtom_94 : decode cX11_readAtom 94 = .ok (.ireturn, 1) := by decide +kernel
theorem dX11_readAtom_95 : decode cX11_readAtom 95 = .ok (.aload_n 0, 1) := by decide +kernel
theorem dX11_readAtom_96 : decode cX11_readAtom 96 = .ok (.dup, 1) := by decide +kernel
theorem dX11_readAtom_97 : decode cX11_readAtom 97 = .ok (.getfield 217, 3) := by decide +kernel
theorem dX11_readAtom_100 : decode cX11_readAtom 100 = .ok (.iconst 1, 1) := by decide +kernel
theorem dX11_readAtom_101 : decode cX11_readAtom 101 = .ok (.isub, 1) := by decide +kernel
theorem dX11_readAtom_102 : decode cX11_readAtom 102 = .ok (.putfield 217, 3) := by decide +kernel
theorem dX11_readAtom_105 : decode cX11_readAtom 105 = .ok (.aload_n 0, 1) := by decide +kernel
theorem dX11_readAtom_106 : decode cX11_readAtom 106 = .ok (.bipush 12, 2) := by decide +kernel
theorem dX11_readAtom_108 : decode cX11_readAtom 108 = .ok (.iconst 0, 1) := by decide +kernel
theorem dX11_readAtom_109 : decode cX11_readAtom 109 = .ok (.invokevirtual 193, 3) := by decide +kernel
theorem dX11_readAtom_112 : decode cX11_readAtom 112 = .ok (.iconst 1, 1) := by decide +kernel
theorem dX11_readAtom_113 : decode cX11_readAtom 113 = .ok (.ireturn, 1) := by decide +kernel
theorem dX11_readAtom_114 : decode cX11_readAtom 114 = .ok (.aload_n 0, 1) := by decide +kernel
theorem dX11_readAtom_115 : decode cX11_readAtom 115 = .ok (.invokevirtual 228, 3) := by decide +kernel
theorem dX11_readAtom_118 : decode cX11_readAtom 118 = .ok (.ifCond .eq 5, 3) := by decide +kernel
theorem dX11_readAtom_121 : decode cX11_readAtom 121 = .ok (.iconst 1, 1) := by decide +kernel
theorem dX11_readAtom_122 : decode cX11_readAtom 122 = .ok (.ireturn, 1) := by decide +kernel
theorem dX11_readAtom_123 : decode cX11_readAtom 123 = .ok (.aload_n 0, 1) := by decide +kernel
theorem dX11_readAtom_124 : decode cX11_readAtom 124 = .ok (.invokevirtual 231, 3) := by decide +kernel
theorem dX11_readAtom_127 : decode cX11_readAtom 127 = .ok (.ifCond .ne 5, 3) := by decide +kernel
theorem dX11_readAtom_130 : decode cX11_readAtom 130 = .ok (.iconst 0, 1) := by decide +kernel
theorem dX11_readAtom_131 : decode cX11_readAtom 131 = .ok (.ireturn, 1) := by decide +kernel
theorem dX11_readAtom_132 : decode cX11_readAtom 132 = .ok (.aload_n 0, 1) := by decide +kernel
theorem dX11_readAtom_133 : decode cX11_readAtom 133 = .ok (.bipush 60, 2) := by decide +kernel
theorem dX11_readAtom_135 : decode cX11_readAtom 135 = .ok (.invokevirtual 210, 3) := by decide +kernel
theorem dX11_readAtom_138 : decode cX11_readAtom 138 = .ok (.istore_n 1, 1) := by decide +kernel
theorem dX11_readAtom_139 : decode cX11_readAtom 139 = .ok (.iload_n 1, 1) := by decide +kernel
theorem dX11_readAtom_140 : decode cX11_readAtom 140 = .ok (.ifCond .ne 12, 3) := by decide +kernel
theorem dX11_readAtom_143 : decode cX11_readAtom 143 = .ok (.aload_n 0, 1) := by decide +kernel
theorem dX11_readAtom_144 : decode cX11_readAtom 144 = .ok (.bipush 62, 2) := by decide +kernel
theorem dX11_readAtom_146 : decode cX11_readAtom 146 = .ok (.invokevirtual 210, 3) := by decide +kernel
theorem dX11_readAtom_149 : decode cX11_readAtom 149 = .ok (.ifCond .eq 10, 3) := by decide +kernel
theorem dX11_readAtom_152 : decode cX11_readAtom 152 = .ok (.aload_n 0, 1) := by decide +kernel
theorem dX11_readAtom_153 : decode cX11_readAtom 153 = .ok (.invokevirtual 231, 3) := by decide +kernel
theorem dX11_readAtom_156 : decode cX11_readAtom 156 = .ok (.ifCond .ne 5, 3) := by decide +kernel
theorem dX11_readAtom_159 : decode cX11_readAtom 159 = .ok (.iconst 0, 1) := by decide +kernel
theorem dX11_readAtom_160 : decode cX11_readAtom 160 = .ok (.ireturn, 1) := by decide +kernel
theorem dX11_readAtom_161 : decode cX11_readAtom 161 = .ok (.aload_n 0, 1) := by decide +kernel
theorem dX11_readAtom_162 : decode cX11_readAtom 162 = .ok (.iload_n 1, 1) := by decide +kernel
theorem dX11_readAtom_163 : decode cX11_readAtom 163 = .ok (.ifCond .eq 8, 3) := by decide +kernel
theorem dX11_readAtom_166 : decode cX11_readAtom 166 = .ok (.bipush 10, 2) := by decide +kernel
theorem dX11_readAtom_168 : decode cX11_readAtom 168 = .ok (.goto 5, 3) := by decide +kernel
theorem dX11_readAtom_171 : decode cX11_readAtom 171 = .ok (.bipush 11, 2) := by decide +kernel
theorem dX11_readAtom_173 : decode cX11_readAtom 173 = .ok (.iconst 0, 1) := by decide +kernel
theorem dX11_readAtom_174 : decode cX11_readAtom 174 = .ok (.invokevirtual 193, 3) := by decide +kernel
theorem dX11_readAtom_177 : decode cX11_readAtom 177 = .ok (.iconst 1, 1) := by decide +kernel
theorem dX11_readAtom_178 : decode cX11_readAtom 178 = .ok (.ireturn, 1) := by decide +kernel
theorem dX11_readAllOf_0 : decode cX11_readAllOf 0 = .ok (.aload_n 0, 1) := by decide +kernel
theorem dX11_readAllOf_1 : decode cX11_readAllOf 1 = .ok (.invokevirtual 225, 3) := by decide +kernel
theorem dX11_readAllOf_4 : decode cX11_readAllOf 4 = .ok (.ifCond .ne 5, 3) := by decide +kernel
theorem dX11_readAllOf_7 : decode cX11_readAllOf 7 = .ok (.iconst 0, 1) := by decide +kernel
theorem dX11_readAllOf_8 : decode cX11_readAllOf 8 = .ok (.ireturn, 1) := by decide +kernel
theorem dX11_readAllOf_9 : decode cX11_readAllOf 9 = .ok (.aload_n 0, 1) := by decide +kernel
theorem dX11_readAllOf_10 : decode cX11_readAllOf 10 = .ok (.ldc 234, 2) := by decide +kernel
theorem dX11_readAllOf_12 : decode cX11_readAllOf 12 = .ok (.invokevirtual 143, 3) := by decide +kernel
theorem dX11_readAllOf_15 : decode cX11_readAllOf 15 = .ok (.ifCond .eq 22, 3) := by decide +kernel
theorem dX11_readAllOf_18 : decode cX11_readAllOf 18 = .ok (.aload_n 0, 1) := by decide +kernel
theorem dX11_readAllOf_19 : decode cX11_readAllOf 19 = .ok (.invokevirtual 225, 3) := by decide +kernel
theorem dX11_readAllOf_22 : decode cX11_readAllOf 22 = .ok (.ifCond .ne 5, 3) := by decide +kernel
theorem dX11_readAllOf_25 : decode cX11_readAllOf 25 = .ok (.iconst 0, 1) := by decide +kernel
theorem dX11_readAllOf_26 : decode cX11_readAllOf 26 = .ok (.ireturn, 1) := by decide +kernel
theorem dX11_readAllOf_27 : decode cX11_readAllOf 27 = .ok (.aload_n 0, 1) := by decide +kernel
theorem dX11_readAllOf_28 : decode cX11_readAllOf 28 = .ok (.bipush 13, 2) := by decide +kernel
theorem dX11_readAllOf_30 : decode cX11_readAllOf 30 = .ok (.iconst 0, 1) := by decide +kernel
theorem dX11_readAllOf_31 : decode cX11_readAllOf 31 = .ok (.invokevirtual 193, 3) := by decide +kernel
theorem dX11_readAllOf_34 : decode cX11_readAllOf 34 = .ok (.goto (-25), 3) := by decide +kernel
theorem dX11_readAllOf_37 : decode cX11_readAllOf 37 = .ok (.iconst 1, 1) := by decide +kernel
theorem dX11_readAllOf_38 : decode cX11_readAllOf 38 = .ok (.ireturn, 1) := by decide +kernel
theorem dX11_readCond_0 : decode cX11_readCond 0 = .ok (.aload_n 0, 1) := by decide +kernel
theorem dX11_readCond_1 : decode cX11_readCond 1 = .ok (.invokevirtual 236, 3) := by decide +kernel
theorem dX11_readCond_4 : decode cX11_readCond 4 = .ok (.ifCond .ne 5, 3) := by decide +kernel
theorem dX11_readCond_7 : decode cX11_readCond 7 = .ok (.iconst 0, 1) := by decide +kernel
theorem dX11_readCond_8 : decode cX11_readCond 8 = .ok (.ireturn, 1) := by decide +kernel
theorem dX11_readCond_9 : decode cX11_readCond 9 = .ok (.aload_n 0, 1) := by decide +kernel
theorem dX11_readCond_10 : decode cX11_readCond 10 = .ok (.ldc 239, 2) := by decide +kernel
theorem dX11_readCond_12 : decode cX11_readCond 12 = .ok (.invokevirtual 143, 3) := by decide +kernel
theorem dX11_readCond_15 : decode cX11_readCond 15 = .ok (.ifCond .eq 22, 3) := by decide +kernel
theorem dX11_readCond_18 : decode cX11_readCond 18 = .ok (.aload_n 0, 1) := by decide +kernel
theorem dX11_readCond_19 : decode cX11_readCond 19 = .ok (.invokevirtual 236, 3) := by decide +kernel
theorem dX11_readCond_22 : decode cX11_readCond 22 = .ok (.ifCond .ne 5, 3) := by decide +kernel
theorem dX11_readCond_25 : decode cX11_readCond 25 = .ok (.iconst 0, 1) := by decide +kernel
theorem dX11_readCond_26 : decode cX11_readCond 26 = .ok (.ireturn, 1) := by decide +kernel
theorem dX11_readCond_27 : decode cX11_readCond 27 = .ok (.aload_n 0, 1) := by decide +kernel
theorem dX11_readCond_28 : decode cX11_readCond 28 = .ok (.bipush 14, 2) := by decide +kernel
theorem dX11_readCond_30 : decode cX11_readCond 30 = .ok (.iconst 0, 1) := by decide +kernel
theorem dX11_readCond_31 : decode cX11_readCond 31 = .ok (.invokevirtual 193, 3) := by decide +kernel
theorem dX11_readCond_34 : decode cX11_readCond 34 = .ok (.goto (-25), 3) := by decide +kernel
theorem dX11_readCond_37 : decode cX11_readCond 37 = .ok (.iconst 1, 1) := by decide +kernel
theorem dX11_readCond_38 : decode cX11_readCond 38 = .ok (.ireturn, 1) := by decide +kernel
theorem dX11_readLawLine_0 : decode cX11_readLawLine 0 = .ok (.sipush 1182, 3) := by decide +kernel
theorem dX11_readLawLine_3 : decode cX11_readLawLine 3 = .ok (.iconst 4, 1) := by decide +kernel
theorem dX11_readLawLine_4 : decode cX11_readLawLine 4 = .ok (.iload_n 1, 1) := by decide +kernel
theorem dX11_readLawLine_5 : decode cX11_readLawLine 5 = .ok (.imul, 1) := by decide +kernel
theorem dX11_readLawLine_6 : decode cX11_readLawLine 6 = .ok (.iadd, 1) := by decide +kernel
theorem dX11_readLawLine_7 : decode cX11_readLawLine 7 = .ok (.istore_n 2, 1) := by decide +kernel
theorem dX11_readLawLine_8 : decode cX11_readLawLine 8 = .ok (.aload_n 0, 1) := by decide +kernel
theorem dX11_readLawLine_9 : decode cX11_readLawLine 9 = .ok (.getfield 13, 3) := by decide +kernel
theorem dX11_readLawLine_12 : decode cX11_readLawLine 12 = .ok (.iload_n 2, 1) := by decide +kernel
theorem dX11_readLawLine_13 : decode cX11_readLawLine 13 = .ok (.aload_n 0, 1) := by decide +kernel
theorem dX11_readLawLine_14 : decode cX11_readLawLine 14 = .ok (.ldc 241, 2) := by decide +kernel
theorem dX11_readLawLine_16 : decode cX11_readLawLine 16 = .ok (.invokevirtual 123, 3) := by decide +kernel
theorem dX11_readLawLine_19 : decode cX11_readLawLine 19 = .ok (.ifCond .eq 7, 3) := by decide +kernel
theorem dX11_readLawLine_22 : decode cX11_readLawLine 22 = .ok (.iconst 0, 1) := by decide +kernel
theorem dX11_readLawLine_23 : decode cX11_readLawLine 23 = .ok (.goto 30, 3) := by decide +kernel
theorem dX11_readLawLine_26 : decode cX11_readLawLine 26 = .ok (.aload_n 0, 1) := by decide +kernel
theorem dX11_readLawLine_27 : decode cX11_readLawLine 27 = .ok (.ldc 243, 2) := by decide +kernel
theorem dX11_readLawLine_29 : decode cX11_readLawLine 29 = .ok (.invokevirtual 123, 3) := by decide +kernel
theorem dX11_readLawLine_32 : decode cX11_readLawLine 32 = .ok (.ifCond .eq 7, 3) := by decide +kernel
theorem dX11_readLawLine_35 : decode cX11_readLawLine 35 = .ok (.iconst 1, 1) := by decide +kernel
theorem dX11_readLawLine_36 : decode cX11_readLawLine 36 = .ok (.goto 17, 3) := by decide +kernel
theorem dX11_readLawLine_39 : decode cX11_readLawLine 39 = .ok (.aload_n 0, 1) := by decide +kernel
theorem dX11_readLawLine_40 : decode cX11_readLawLine 40 = .ok (.ldc 245, 2) := by decide +kernel
theorem dX11_readLawLine_42 : decode cX11_readLawLine 42 = .ok (.invokevirtual 123, 3) := by decide +kernel
theorem dX11_readLawLine_45 : decode cX11_readLawLine 45 = .ok (.ifCond .eq 7, 3) := by decide +kernel
theorem dX11_readLawLine_48 : decode cX11_readLawLine 48 = .ok (.iconst 2, 1) := by decide +kernel
theorem dX11_readLawLine_49 : decode cX11_readLawLine 49 = .ok (.goto 4, 3) := by decide +kernel
theorem dX11_readLawLine_52 : decode cX11_readLawLine 52 = .ok (.iconst (-1), 1) := by decide +kernel
theorem dX11_readLawLine_53 : decode cX11_readLawLine 53 = .ok (.iastore, 1) := by decide +kernel
theorem dX11_readLawLine_54 : decode cX11_readLawLine 54 = .ok (.aload_n 0, 1) := by decide +kernel
theorem dX11_readLawLine_55 : decode cX11_readLawLine 55 = .ok (.getfield 13, 3) := by decide +kernel
theorem dX11_readLawLine_58 : decode cX11_readLawLine 58 = .ok (.iload_n 2, 1) := by decide +kernel
theorem dX11_readLawLine_59 : decode cX11_readLawLine 59 = .ok (.iaload, 1) := by decide +kernel
theorem dX11_readLawLine_60 : decode cX11_readLawLine 60 = .ok (.ifCond .ge 5, 3) := by decide +kernel
theorem dX11_readLawLine_63 : decode cX11_readLawLine 63 = .ok (.iconst 0, 1) := by decide +kernel
theorem dX11_readLawLine_64 : decode cX11_readLawLine 64 = .ok (.ireturn, 1) := by decide +kernel
theorem dX11_readLawLine_65 : decode cX11_readLawLine 65 = .ok (.aload_n 0, 1) := by decide +kernel
theorem dX11_readLawLine_66 : decode cX11_readLawLine 66 = .ok (.getfield 13, 3) := by decide +kernel
theorem dX11_readLawLine_69 : decode cX11_readLawLine 69 = .ok (.iload_n 2, 1) := by decide +kernel
theorem dX11_readLawLine_70 : decode cX11_readLawLine 70 = .ok (.iconst 1, 1) := by decide +kernel
theorem dX11_readLawLine_71 : decode cX11_readLawLine 71 = .ok (.iadd, 1) := by decide +kernel
theorem dX11_readLawLine_72 : decode cX11_readLawLine 72 = .ok (.aload_n 0, 1) := by decide +kernel
theorem dX11_readLawLine_73 : decode cX11_readLawLine 73 = .ok (.getfield 13, 3) := by decide +kernel
theorem dX11_readLawLine_76 : decode cX11_readLawLine 76 = .ok (.iload_n 2, 1) := by decide +kernel
theorem dX11_readLawLine_77 : decode cX11_readLawLine 77 = .ok (.iaload, 1) := by decide +kernel
theorem dX11_readLawLine_78 : decode cX11_readLawLine 78 = .ok (.iconst 1, 1) := by decide +kernel
theorem dX11_readLawLine_79 : decode cX11_readLawLine 79 = .ok (.if_icmp .ne 7, 3) := by decide +kernel
theorem dX11_readLawLine_82 : decode cX11_readLawLine 82 = .ok (.iconst 1, 1) := by decide +kernel
theorem dX11_readLawLine_83 : decode cX11_readLawLine 83 = .ok (.goto 10, 3) := by decide +kernel
theorem dX11_readLawLine_86 : decode cX11_readLawLine 86 = .ok (.aload_n 0, 1) := by decide +kernel
theorem dX11_readLawLine_87 : decode cX11_readLawLine 87 = .ok (.iconst 0, 1) := by decide +kernel
theorem dX11_readLawLine_88 : decode cX11_readLawLine 88 = .ok (.bipush 9, 2) := by decide +kernel
theorem dX11_readLawLine_90 : decode cX11_readLawLine 90 = .ok (.invokevirtual 127, 3) := by decide +kernel
theorem dX11_readLawLine_93 : decode cX11_readLawLine 93 = .ok (.iastore, 1) := by decide +kernel
theorem dX11_readLawLine_94 : decode cX11_readLawLine 94 = .ok (.aload_n 0, 1) := by decide +kernel
theorem dX11_readLawLine_95 : decode cX11_readLawLine 95 = .ok (.getfield 13, 3) := by decide +kernel
theorem dX11_readLawLine_98 : decode cX11_readLawLine 98 = .ok (.iload_n 2, 1) := by decide +kernel
theorem dX11_readLawLine_99 : decode cX11_readLawLine 99 = .ok (.iconst 1, 1) := by decide +kernel
theorem dX11_readLawLine_100 : decode cX11_readLawLine 100 = .ok (.iadd, 1) := by decide +kernel
theorem dX11_readLawLine_101 : decode cX11_readLawLine 101 = .ok (.iaload, 1) := by decide +kernel
theorem dX11_readLawLine_102 : decode cX11_readLawLine 102 = .ok (.ifCond .ge 5, 3) := by decide +kernel
theorem dX11_readLawLine_105 : decode cX11_readLawLine 105 = .ok (.iconst 0, 1) := by decide +kernel
theorem dX11_readLawLine_106 : decode cX11_readLawLine 106 = .ok (.ireturn, 1) := by decide +kernel
theorem dX11_readLawLine_107 : decode cX11_readLawLine 107 = .ok (.aload_n 0, 1) := by decide +kernel
theorem dX11_readLawLine_108 : decode cX11_readLawLine 108 = .ok (.getfield 13, 3) := by decide +kernel
theorem dX11_readLawLine_111 : decode cX11_readLawLine 111 = .ok (.iload_n 2, 1) := by decide +kernel
theorem dX11_readLawLine_112 : decode cX11_readLawLine 112 = .ok (.iconst 2, 1) := by decide +kernel
theorem dX11_readLawLine_113 : decode cX11_readLawLine 113 = .ok (.iadd, 1) := by decide +kernel
theorem dX11_readLawLine_114 : decode cX11_readLawLine 114 = .ok (.aload_n 0, 1) := by decide +kernel
theorem dX11_readLawLine_115 : decode cX11_readLawLine 115 = .ok (.getfield 190, 3) := by decide +kernel
theorem dX11_readLawLine_118 : decode cX11_readLawLine 118 = .ok (.iastore, 1) := by decide +kernel
theorem dX11_readLawLine_119 : decode cX11_readLawLine 119 = .ok (.aload_n 0, 1) := by decide +kernel
theorem dX11_readLawLine_120 : decode cX11_readLawLine 120 = .ok (.iconst 0, 1) := by decide +kernel
theorem dX11_readLawLine_121 : decode cX11_readLawLine 121 = .ok (.putfield 217, 3) := by decide +kernel
theorem dX11_readLawLine_124 : decode cX11_readLawLine 124 = .ok (.aload_n 0, 1) := by decide +kernel
theorem dX11_readLawLine_125 : decode cX11_readLawLine 125 = .ok (.ldc 247, 2) := by decide +kernel
theorem dX11_readLawLine_127 : decode cX11_readLawLine 127 = .ok (.invokevirtual 143, 3) := by decide +kernel
theorem dX11_readLawLine_130 : decode cX11_readLawLine 130 = .ok (.ifCond .eq 12, 3) := by decide +kernel
theorem dX11_readLawLine_133 : decode cX11_readLawLine 133 = .ok (.aload_n 0, 1) := by decide +kernel
theorem dX11_readLawLine_134 : decode cX11_readLawLine 134 = .ok (.invokevirtual 220, 3) := by decide +kernel
theorem dX11_readLawLine_137 : decode cX11_readLawLine 137 = .ok (.ifCond .ne 5, 3) := by decide +kernel
theorem dX11_readLawLine_140 : decode cX11_readLawLine 140 = .ok (.iconst 0, 1) := by decide +kernel
theorem dX11_readLawLine_141 : decode cX11_readLawLine 141 = .ok (.ireturn, 1) := by decide +kernel
theorem dX11_readLawLine_142 : decode cX11_readLawLine 142 = .ok (.aload_n 0, 1) := by decide +kernel
theorem dX11_readLawLine_143 : decode cX11_readLawLine 143 = .ok (.getfield 13, 3) := by decide +kernel
theorem dX11_readLawLine_146 : decode cX11_readLawLine 146 = .ok (.iload_n 2, 1) := by decide +kernel
theorem dX11_readLawLine_147 : decode cX11_readLawLine 147 = .ok (.iconst 3, 1) := by decide +kernel
theorem dX11_readLawLine_148 : decode cX11_readLawLine 148 = .ok (.iadd, 1) := by decide +kernel
theorem dX11_readLawLine_149 : decode cX11_readLawLine 149 = .ok (.aload_n 0, 1) := by decide +kernel
theorem dX11_readLawLine_150 : decode cX11_readLawLine 150 = .ok (.getfield 190, 3) := by decide +kernel
theorem dX11_readLawLine_153 : decode cX11_readLawLine 153 = .ok (.iastore, 1) := by decide +kernel
theorem dX11_readLawLine_154 : decode cX11_readLawLine 154 = .ok (.iconst 1, 1) := by decide +kernel
theorem dX11_readLawLine_155 : decode cX11_readLawLine 155 = .ok (.ireturn, 1) := by decide +kernel
theorem dX11_readLine_0 : decode cX11_readLine 0 = .ok (.aload_n 0, 1) := by decide +kernel
theorem dX11_readLine_1 : decode cX11_readLine 1 = .ok (.invokevirtual 120, 3) := by decide +kernel
theorem dX11_readLine_4 : decode cX11_readLine 4 = .ok (.iload_n 2, 1) := by decide +kernel
theorem dX11_readLine_5 : decode cX11_readLine 5 = .ok (.iload_n 1, 1) := by decide +kernel
theorem dX11_readLine_6 : decode cX11_readLine 6 = .ok (.ifCond .eq 8, 3) := by decide +kernel
theorem dX11_readLine_9 : decode cX11_readLine 9 = .ok (.bipush 14, 2) := by decide +kernel
theorem dX11_readLine_11 : decode cX11_readLine 11 = .ok (.goto 5, 3) := by decide +kernel
theorem dX11_readLine_14 : decode cX11_readLine 14 = .ok (.bipush 12, 2) := by decide +kernel
theorem dX11_readLine_16 : decode cX11_readLine 16 = .ok (.if_icmp .ge 29, 3) := by decide +kernel
theorem dX11_readLine_19 : decode cX11_readLine 19 = .ok (.iload_n 1, 1) := by decide +kernel
theorem dX11_readLine_20 : decode cX11_readLine 20 = .ok (.ifCond .eq 13, 3) := by decide +kernel
theorem dX11_readLine_23 : decode cX11_readLine 23 = .ok (.aload_n 0, 1) := by decide +kernel
theorem dX11_readLine_24 : decode cX11_readLine 24 = .ok (.invokevirtual 249, 3) := by decide +kernel
theorem dX11_readLine_27 : decode cX11_readLine 27 = .ok (.ifCond .eq 18, 3) := by decide +kernel
theorem dX11_readLine_30 : decode cX11_readLine 30 = .ok (.goto 11, 3) := by decide +kernel
theorem dX11_readLine_33 : decode cX11_readLine 33 = .ok (.aload_n 0, 1) := by decide +kernel
theorem dX11_readLine_34 : decode cX11_readLine 34 = .ok (.iload_n 2, 1) := by decide +kernel
theorem dX11_readLine_35 : decode cX11_readLine 35 = .ok (.invokevirtual 252, 3) := by decide +kernel
theorem dX11_readLine_38 : decode cX11_readLine 38 = .ok (.ifCond .eq 7, 3) := by decide +kernel
theorem dX11_readLine_41 : decode cX11_readLine 41 = .ok (.iconst 1, 1) := by decide +kernel
theorem dX11_readLine_42 : decode cX11_readLine 42 = .ok (.goto 4, 3) := by decide +kernel
theorem dX11_readLine_45 : decode cX11_readLine 45 = .ok (.iconst 0, 1) := by decide +kernel
theorem dX11_readLine_46 : decode cX11_readLine 46 = .ok (.ireturn, 1) := by decide +kernel
theorem dX11_readAll_0 : decode cX11_readAll 0 = .ok (.aload_n 0, 1) := by decide +kernel
theorem dX11_readAll_1 : decode cX11_readAll 1 = .ok (.invokevirtual 255, 3) := by decide +kernel
theorem dX11_readAll_4 : decode cX11_readAll 4 = .ok (.aload_n 0, 1) := by decide +kernel
theorem dX11_readAll_5 : decode cX11_readAll 5 = .ok (.iconst 0, 1) := by decide +kernel
theorem dX11_readAll_6 : decode cX11_readAll 6 = .ok (.putfield 190, 3) := by decide +kernel
theorem dX11_readAll_9 : decode cX11_readAll 9 = .ok (.aload_n 0, 1) := by decide +kernel
theorem dX11_readAll_10 : decode cX11_readAll 10 = .ok (.invokevirtual 108, 3) := by decide +kernel
theorem dX11_readAll_13 : decode cX11_readAll 13 = .ok (.aload_n 0, 1) := by decide +kernel
theorem dX11_readAll_14 : decode cX11_readAll 14 = .ok (.getfield 95, 3) := by decide +kernel
theorem dX11_readAll_17 : decode cX11_readAll 17 = .ok (.aload_n 0, 1) := by decide +kernel
theorem dX11_readAll_18 : decode cX11_readAll 18 = .ok (.getfield 98, 3) := by decide +kernel
theorem dX11_readAll_21 : decode cX11_readAll 21 = .ok (.if_icmp .ne 5, 3) := by decide +kernel
theorem dX11_readAll_24 : decode cX11_readAll 24 = .ok (.iconst 0, 1) := by decide +kernel
theorem dX11_readAll_25 : decode cX11_readAll 25 = .ok (.ireturn, 1) := by decide +kernel
theorem dX11_readAll_26 : decode cX11_readAll 26 = .ok (.iconst 0, 1) := by decide +kernel
theorem dX11_readAll_27 : decode cX11_readAll 27 = .ok (.istore_n 2, 1) := by decide +kernel
theorem dX11_readAll_28 : decode cX11_readAll 28 = .ok (.aload_n 0, 1) := by decide +kernel
theorem dX11_readAll_29 : decode cX11_readAll 29 = .ok (.iload_n 1, 1) := by decide +kernel
theorem dX11_readAll_30 : decode cX11_readAll 30 = .ok (.iload_n 2, 1) := by decide +kernel
theorem dX11_readAll_31 : decode cX11_readAll 31 = .ok (.invokevirtual 258, 3) := by decide +kernel
theorem dX11_readAll_34 : decode cX11_readAll 34 = .ok (.ifCond .ne 5, 3) := by decide +kernel
theorem dX11_readAll_37 : decode cX11_readAll 37 = .ok (.iconst (-1), 1) := by decide +kernel
theorem dX11_readAll_38 : decode cX11_readAll 38 = .ok (.ireturn, 1) := by decide +kernel
theorem dX11_readAll_39 : decode cX11_readAll 39 = .ok (.aload_n 0, 1) := by decide +kernel
theorem dX11_readAll_40 : decode cX11_readAll 40 = .ok (.invokevirtual 108, 3) := by decide +kernel
theorem dX11_readAll_43 : decode cX11_readAll 43 = .ok (.aload_n 0, 1) := by decide +kernel
theorem dX11_readAll_44 : decode cX11_readAll 44 = .ok (.getfield 95, 3) := by decide +kernel
theorem dX11_readAll_47 : decode cX11_readAll 47 = .ok (.aload_n 0, 1) := by decide +kernel
theorem dX11_readAll_48 : decode cX11_readAll 48 = .ok (.getfield 98, 3) := by decide +kernel
theorem dX11_readAll_51 : decode cX11_readAll 51 = .ok (.if_icmp .ne 7, 3) := by decide +kernel
theorem dX11_readAll_54 : decode cX11_readAll 54 = .ok (.iload_n 2, 1) := by decide +kernel
theorem dX11_readAll_55 : decode cX11_readAll 55 = .ok (.iconst 1, 1) := by decide +kernel
theorem dX11_readAll_56 : decode cX11_readAll 56 = .ok (.iadd, 1) := by decide +kernel
theorem dX11_readAll_57 : decode cX11_readAll 57 = .ok (.ireturn, 1) := by decide +kernel
theorem dX11_readAll_58 : decode cX11_readAll 58 = .ok (.aload_n 0, 1) := by decide +kernel
theorem dX11_readAll_59 : decode cX11_readAll 59 = .ok (.bipush 59, 2) := by decide +kernel
theorem dX11_readAll_61 : decode cX11_readAll 61 = .ok (.bipush 59, 2) := by decide +kernel
theorem dX11_readAll_63 : decode cX11_readAll 63 = .ok (.invokevirtual 101, 3) := by decide +kernel
theorem dX11_readAll_66 : decode cX11_readAll 66 = .ok (.ifCond .ne 5, 3) := by decide +kernel
theorem dX11_readAll_69 : decode cX11_readAll 69 = .ok (.iconst (-1), 1) := by decide +kernel
theorem dX11_readAll_70 : decode cX11_readAll 70 = .ok (.ireturn, 1) := by decide +kernel
theorem dX11_readAll_71 : decode cX11_readAll 71 = .ok (.aload_n 0, 1) := by decide +kernel
theorem dX11_readAll_72 : decode cX11_readAll 72 = .ok (.dup, 1) := by decide +kernel
theorem dX11_readAll_73 : decode cX11_readAll 73 = .ok (.getfield 95, 3) := by decide +kernel
theorem dX11_readAll_76 : decode cX11_readAll 76 = .ok (.iconst 1, 1) := by decide +kernel
theorem dX11_readAll_77 : decode cX11_readAll 77 = .ok (.iadd, 1) := by decide +kernel
theorem dX11_readAll_78 : decode cX11_readAll 78 = .ok (.putfield 95, 3) := by decide +kernel
theorem dX11_readAll_81 : decode cX11_readAll 81 = .ok (.iinc 2 1, 3) := by decide +kernel
theorem dX11_readAll_84 : decode cX11_readAll 84 = .ok (.goto (-56), 3) := by decide +kernel
theorem dX11_coast_0 : decode cX11_coast 0 = .ok (.iconst 0, 1) := by decide +kernel
theorem dX11_coast_1 : decode cX11_coast 1 = .ok (.istore_n 1, 1) := by decide +kernel
theorem dX11_coast_2 : decode cX11_coast 2 = .ok (.iload_n 1, 1) := by decide +kernel
theorem dX11_coast_3 : decode cX11_coast 3 = .ok (.sipush 1181, 3) := by decide +kernel
theorem dX11_coast_6 : decode cX11_coast 6 = .ok (.if_icmp .ge 21, 3) := by decide +kernel
theorem dX11_coast_9 : decode cX11_coast 9 = .ok (.aload_n 0, 1) := by decide +kernel
theorem dX11_coast_10 : decode cX11_coast 10 = .ok (.getfield 20, 3) := by decide +kernel
theorem dX11_coast_13 : decode cX11_coast 13 = .ok (.iload_n 1, 1) := by decide +kernel
theorem dX11_coast_14 : decode cX11_coast 14 = .ok (.aload_n 0, 1) := by decide +kernel
theorem dX11_coast_15 : decode cX11_coast 15 = .ok (.getfield 13, 3) := by decide +kernel
theorem dX11_coast_18 : decode cX11_coast 18 = .ok (.iload_n 1, 1) := by decide +kernel
theorem dX11_coast_19 : decode cX11_coast 19 = .ok (.iaload, 1) := by decide +kernel
theorem dX11_coast_20 : decode cX11_coast 20 = .ok (.iastore, 1) := by decide +kernel
theorem dX11_coast_21 : decode cX11_coast 21 = .ok (.iinc 1 1, 3) := by decide +kernel
theorem dX11_coast_24 : decode cX11_coast 24 = .ok (.goto (-22), 3) := by decide +kernel
theorem dX11_coast_27 : decode cX11_coast 27 = .ok (.aload_n 0, 1) := by decide +kernel
theorem dX11_coast_28 : decode cX11_coast 28 = .ok (.iconst 1, 1) := by decide +kernel
theorem dX11_coast_29 : decode cX11_coast 29 = .ok (.invokevirtual 262, 3) := by decide +kernel
theorem dX11_coast_32 : decode cX11_coast 32 = .ok (.istore_n 1, 1) := by decide +kernel
theorem dX11_coast_33 : decode cX11_coast 33 = .ok (.aload_n 0, 1) := by decide +kernel
theorem dX11_coast_34 : decode cX11_coast 34 = .ok (.iload_n 1, 1) := by decide +kernel
theorem dX11_coast_35 : decode cX11_coast 35 = .ok (.ifCond .ge 10, 3) := by decide +kernel
theorem dX11_coast_38 : decode cX11_coast 38 = .ok (.aload_n 0, 1) := by decide +kernel
theorem dX11_coast_39 : decode cX11_coast 39 = .ok (.getfield 105, 3) := by decide +kernel
theorem dX11_coast_42 : decode cX11_coast 42 = .ok (.goto 4, 3) := by decide +kernel
theorem dX11_coast_45 : decode cX11_coast 45 = .ok (.iconst (-1), 1) := by decide +kernel
theorem dX11_coast_46 : decode cX11_coast 46 = .ok (.putfield 33, 3) := by decide +kernel
theorem dX11_coast_49 : decode cX11_coast 49 = .ok (.aload_n 0, 1) := by decide +kernel
theorem dX11_coast_50 : decode cX11_coast 50 = .ok (.iload_n 1, 1) := by decide +kernel
theorem dX11_coast_51 : decode cX11_coast 51 = .ok (.ifCond .ge 7, 3) := by decide +kernel
theorem dX11_coast_54 : decode cX11_coast 54 = .ok (.iconst 1, 1) := by decide +kernel
theorem dX11_coast_55 : decode cX11_coast 55 = .ok (.goto 4, 3) := by decide +kernel
theorem dX11_coast_58 : decode cX11_coast 58 = .ok (.iconst 0, 1) := by decide +kernel
theorem dX11_coast_59 : decode cX11_coast 59 = .ok (.iconst 1, 1) := by decide +kernel
theorem dX11_coast_60 : decode cX11_coast 60 = .ok (.invokevirtual 266, 3) := by decide +kernel
theorem dX11_coast_63 : decode cX11_coast 63 = .ok (.ifCond .ne 27, 3) := by decide +kernel
theorem dX11_coast_66 : decode cX11_coast 66 = .ok (.aload_n 0, 1) := by decide +kernel
theorem dX11_coast_67 : decode cX11_coast 67 = .ok (.aload_n 0, 1) := by decide +kernel
theorem dX11_coast_68 : decode cX11_coast 68 = .ok (.getfield 13, 3) := by decide +kernel
theorem dX11_coast_71 : decode cX11_coast 71 = .ok (.iconst 2, 1) := by decide +kernel
theorem dX11_coast_72 : decode cX11_coast 72 = .ok (.iaload, 1) := by decide +kernel
theorem dX11_coast_73 : decode cX11_coast 73 = .ok (.bipush 12, 2) := by decide +kernel
theorem dX11_coast_75 : decode cX11_coast 75 = .ok (.if_icmp .ne 7, 3) := by decide +kernel
theorem dX11_coast_78 : decode cX11_coast 78 = .ok (.iconst 1, 1) := by decide +kernel
theorem dX11_coast_79 : decode cX11_coast 79 = .ok (.goto 4, 3) := by decide +kernel
theorem dX11_coast_82 : decode cX11_coast 82 = .ok (.iconst 0, 1) := by decide +kernel
theorem dX11_coast_83 : decode cX11_coast 83 = .ok (.iconst 2, 1) := by decide +kernel
theorem dX11_coast_84 : decode cX11_coast 84 = .ok (.invokevirtual 266, 3) := by decide +kernel
theorem dX11_coast_87 : decode cX11_coast 87 = .ok (.ifCond .eq 32, 3) := by decide +kernel
theorem dX11_coast_90 : decode cX11_coast 90 = .ok (.iconst 0, 1) := by decide +kernel
theorem dX11_coast_91 : decode cX11_coast 91 = .ok (.istore_n 2, 1) := by decide +kernel
theorem dX11_coast_92 : decode cX11_coast 92 = .ok (.iload_n 2, 1) := by decide +kernel
theorem dX11_coast_93 : decode cX11_coast 93 = .ok (.sipush 1181, 3) := by decide +kernel
theorem dX11_coast_96 : decode cX11_coast 96 = .ok (.if_icmp .ge 21, 3) := by decide +kernel
theorem dX11_coast_99 : decode cX11_coast 99 = .ok (.aload_n 0, 1) := by decide +kernel
theorem dX11_coast_100 : decode cX11_coast 100 = .ok (.getfield 13, 3) := by decide +kernel
theorem dX11_coast_103 : decode cX11_coast 103 = .ok (.iload_n 2, 1) := by decide +kernel
theorem dX11_coast_104 : decode cX11_coast 104 = .ok (.aload_n 0, 1) := by decide +kernel
theorem dX11_coast_105 : decode cX11_coast 105 = .ok (.getfield 20, 3) := by decide +kernel
theorem dX11_coast_108 : decode cX11_coast 108 = .ok (.iload_n 2, 1) := by decide +kernel
theorem dX11_coast_109 : decode cX11_coast 109 = .ok (.iaload, 1) := by decide +kernel
theorem dX11_coast_110 : decode cX11_coast 110 = .ok (.iastore, 1) := by decide +kernel
theorem dX11_coast_111 : decode cX11_coast 111 = .ok (.iinc 2 1, 3) := by decide +kernel
theorem dX11_coast_114 : decode cX11_coast 114 = .ok (.goto (-22), 3) := by decide +kernel
theorem dX11_coast_117 : decode cX11_coast 117 = .ok (.iconst 0, 1) := by decide +kernel
theorem dX11_coast_118 : decode cX11_coast 118 = .ok (.ireturn, 1) := by decide +kernel
theorem dX11_coast_119 : decode cX11_coast 119 = .ok (.aload_n 0, 1) := by decide +kernel
theorem dX11_coast_120 : decode cX11_coast 120 = .ok (.getfield 13, 3) := by decide +kernel
theorem dX11_coast_123 : decode cX11_coast 123 = .ok (.iconst 2, 1) := by decide +kernel
theorem dX11_coast_124 : decode cX11_coast 124 = .ok (.dup2, 1) := by decide +kernel
theorem dX11_coast_125 : decode cX11_coast 125 = .ok (.iaload, 1) := by decide +kernel
theorem dX11_coast_126 : decode cX11_coast 126 = .ok (.iconst 1, 1) := by decide +kernel
theorem dX11_coast_127 : decode cX11_coast 127 = .ok (.iadd, 1) := by decide +kernel
theorem dX11_coast_128 : decode cX11_coast 128 = .ok (.iastore, 1) := by decide +kernel
theorem dX11_coast_129 : decode cX11_coast 129 = .ok (.aload_n 0, 1) := by decide +kernel
theorem dX11_coast_130 : decode cX11_coast 130 = .ok (.iconst 0, 1) := by decide +kernel
theorem dX11_coast_131 : decode cX11_coast 131 = .ok (.putfield 64, 3) := by decide +kernel
theorem dX11_coast_134 : decode cX11_coast 134 = .ok (.aload_n 0, 1) := by decide +kernel
theorem dX11_coast_135 : decode cX11_coast 135 = .ok (.getfield 13, 3) := by decide +kernel
theorem dX11_coast_138 : decode cX11_coast 138 = .ok (.iconst 2, 1) := by decide +kernel
theorem dX11_coast_139 : decode cX11_coast 139 = .ok (.iaload, 1) := by decide +kernel
theorem dX11_coast_140 : decode cX11_coast 140 = .ok (.ireturn, 1) := by decide +kernel
theorem dX11_law_0 : decode cX11_law 0 = .ok (.aload_n 0, 1) := by decide +kernel
theorem dX11_law_1 : decode cX11_law 1 = .ok (.iconst 0, 1) := by decide +kernel
theorem dX11_law_2 : decode cX11_law 2 = .ok (.invokevirtual 262, 3) := by decide +kernel
theorem dX11_law_5 : decode cX11_law 5 = .ok (.istore_n 1, 1) := by decide +kernel
theorem dX11_law_6 : decode cX11_law 6 = .ok (.aload_n 0, 1) := by decide +kernel
theorem dX11_law_7 : decode cX11_law 7 = .ok (.iload_n 1, 1) := by decide +kernel
theorem dX11_law_8 : decode cX11_law 8 = .ok (.ifCond .ge 10, 3) := by decide +kernel
theorem dX11_law_11 : decode cX11_law 11 = .ok (.aload_n 0, 1) := by decide +kernel
theorem dX11_law_12 : decode cX11_law 12 = .ok (.getfield 105, 3) := by decide +kernel
theorem dX11_law_15 : decode cX11_law 15 = .ok (.goto 4, 3) := by decide +kernel
theorem dX11_law_18 : decode cX11_law 18 = .ok (.iconst (-1), 1) := by decide +kernel
theorem dX11_law_19 : decode cX11_law 19 = .ok (.putfield 33, 3) := by decide +kernel
theorem dX11_law_22 : decode cX11_law 22 = .ok (.aload_n 0, 1) := by decide +kernel
theorem dX11_law_23 : decode cX11_law 23 = .ok (.iload_n 1, 1) := by decide +kernel
theorem dX11_law_24 : decode cX11_law 24 = .ok (.ifCond .ge 7, 3) := by decide +kernel
theorem dX11_law_27 : decode cX11_law 27 = .ok (.iconst 1, 1) := by decide +kernel
theorem dX11_law_28 : decode cX11_law 28 = .ok (.goto 4, 3) := by decide +kernel
theorem dX11_law_31 : decode cX11_law 31 = .ok (.iconst 0, 1) := by decide +kernel
theorem dX11_law_32 : decode cX11_law 32 = .ok (.iconst 1, 1) := by decide +kernel
theorem dX11_law_33 : decode cX11_law 33 = .ok (.invokevirtual 266, 3) := by decide +kernel
theorem dX11_law_36 : decode cX11_law 36 = .ok (.ifCond .eq 5, 3) := by decide +kernel
theorem dX11_law_39 : decode cX11_law 39 = .ok (.iconst 0, 1) := by decide +kernel
theorem dX11_law_40 : decode cX11_law 40 = .ok (.ireturn, 1) := by decide +kernel
theorem dX11_law_41 : decode cX11_law 41 = .ok (.aload_n 0, 1) := by decide +kernel
theorem dX11_law_42 : decode cX11_law 42 = .ok (.getfield 13, 3) := by decide +kernel
theorem dX11_law_45 : decode cX11_law 45 = .ok (.sipush 1181, 3) := by decide +kernel
theorem dX11_law_48 : decode cX11_law 48 = .ok (.iload_n 1, 1) := by decide +kernel
theorem dX11_law_49 : decode cX11_law 49 = .ok (.iastore, 1) := by decide +kernel
theorem dX11_law_50 : decode cX11_law 50 = .ok (.iconst 0, 1) := by decide +kernel
theorem dX11_law_51 : decode cX11_law 51 = .ok (.istore_n 2, 1) := by decide +kernel
theorem dX11_law_52 : decode cX11_law 52 = .ok (.iload_n 2, 1) := by decide +kernel
theorem dX11_law_53 : decode cX11_law 53 = .ok (.sipush 849, 3) := by decide +kernel
theorem dX11_law_56 : decode cX11_law 56 = .ok (.if_icmp .ge 29, 3) := by decide +kernel
theorem dX11_law_59 : decode cX11_law 59 = .ok (.aload_n 0, 1) := by decide +kernel
theorem dX11_law_60 : decode cX11_law 60 = .ok (.getfield 13, 3) := by decide +kernel
theorem dX11_law_63 : decode cX11_law 63 = .ok (.sipush 332, 3) := by decide +kernel
theorem dX11_law_66 : decode cX11_law 66 = .ok (.iload_n 2, 1) := by decide +kernel
theorem dX11_law_67 : decode cX11_law 67 = .ok (.iadd, 1) := by decide +kernel
theorem dX11_law_68 : decode cX11_law 68 = .ok (.aload_n 0, 1) := by decide +kernel
theorem dX11_law_69 : decode cX11_law 69 = .ok (.getfield 13, 3) := by decide +kernel
theorem dX11_law_72 : decode cX11_law 72 = .ok (.sipush 1181, 3) := by decide +kernel
theorem dX11_law_75 : decode cX11_law 75 = .ok (.iload_n 2, 1) := by decide +kernel
theorem dX11_law_76 : decode cX11_law 76 = .ok (.iadd, 1) := by decide +kernel
theorem dX11_law_77 : decode cX11_law 77 = .ok (.iaload, 1) := by decide +kernel
theorem dX11_law_78 : decode cX11_law 78 = .ok (.iastore, 1) := by decide +kernel
theorem dX11_law_79 : decode cX11_law 79 = .ok (.iinc 2 1, 3) := by decide +kernel
theorem dX11_law_82 : decode cX11_law 82 = .ok (.goto (-30), 3) := by decide +kernel
theorem dX11_law_85 : decode cX11_law 85 = .ok (.aload_n 0, 1) := by decide +kernel
theorem dX11_law_86 : decode cX11_law 86 = .ok (.getfield 13, 3) := by decide +kernel
theorem dX11_law_89 : decode cX11_law 89 = .ok (.iconst 3, 1) := by decide +kernel
theorem dX11_law_90 : decode cX11_law 90 = .ok (.iconst 1, 1) := by decide +kernel
theorem dX11_law_91 : decode cX11_law 91 = .ok (.iastore, 1) := by decide +kernel
theorem dX11_law_92 : decode cX11_law 92 = .ok (.aload_n 0, 1) := by decide +kernel
theorem dX11_law_93 : decode cX11_law 93 = .ok (.iconst 0, 1) := by decide +kernel
theorem dX11_law_94 : decode cX11_law 94 = .ok (.putfield 64, 3) := by decide +kernel
theorem dX11_law_97 : decode cX11_law 97 = .ok (.iload_n 1, 1) := by decide +kernel
theorem dX11_law_98 : decode cX11_law 98 = .ok (.ireturn, 1) := by decide +kernel
theorem dX11_rangeOf_0 : decode cX11_rangeOf 0 = .ok (.iconst 2, 1) := by decide +kernel
theorem dX11_rangeOf_1 : decode cX11_rangeOf 1 = .ok (.iload_n 1, 1) := by decide +kernel
theorem dX11_rangeOf_2 : decode cX11_rangeOf 2 = .ok (.aload_n 0, 1) := by decide +kernel
theorem dX11_rangeOf_3 : decode cX11_rangeOf 3 = .ok (.getfield 13, 3) := by decide +kernel
theorem dX11_rangeOf_6 : decode cX11_rangeOf 6 = .ok (.bipush 6, 2) := by decide +kernel
theorem dX11_rangeOf_8 : decode cX11_rangeOf 8 = .ok (.iaload, 1) := by decide +kernel
theorem dX11_rangeOf_9 : decode cX11_rangeOf 9 = .ok (.irem, 1) := by decide +kernel
theorem dX11_rangeOf_10 : decode cX11_rangeOf 10 = .ok (.imul, 1) := by decide +kernel
theorem dX11_rangeOf_11 : decode cX11_rangeOf 11 = .ok (.aload_n 0, 1) := by decide +kernel
theorem dX11_rangeOf_12 : decode cX11_rangeOf 12 = .ok (.getfield 13, 3) := by decide +kernel
theorem dX11_rangeOf_15 : decode cX11_rangeOf 15 = .ok (.bipush 6, 2) := by decide +kernel
theorem dX11_rangeOf_17 : decode cX11_rangeOf 17 = .ok (.iaload, 1) := by decide +kernel
theorem dX11_rangeOf_18 : decode cX11_rangeOf 18 = .ok (.isub, 1) := by decide +kernel
theorem dX11_rangeOf_19 : decode cX11_rangeOf 19 = .ok (.invokestatic 269, 3) := by decide +kernel
theorem dX11_rangeOf_22 : decode cX11_rangeOf 22 = .ok (.istore_n 2, 1) := by decide +kernel
theorem dX11_rangeOf_23 : decode cX11_rangeOf 23 = .ok (.aload_n 0, 1) := by decide +kernel
theorem dX11_rangeOf_24 : decode cX11_rangeOf 24 = .ok (.getfield 13, 3) := by decide +kernel
theorem dX11_rangeOf_27 : decode cX11_rangeOf 27 = .ok (.bipush 7, 2) := by decide +kernel
theorem dX11_rangeOf_29 : decode cX11_rangeOf 29 = .ok (.iaload, 1) := by decide +kernel
theorem dX11_rangeOf_30 : decode cX11_rangeOf 30 = .ok (.aload_n 0, 1) := by decide +kernel
theorem dX11_rangeOf_31 : decode cX11_rangeOf 31 = .ok (.getfield 13, 3) := by decide +kernel
theorem dX11_rangeOf_34 : decode cX11_rangeOf 34 = .ok (.bipush 8, 2) := by decide +kernel
theorem dX11_rangeOf_36 : decode cX11_rangeOf 36 = .ok (.iaload, 1) := by decide +kernel
theorem dX11_rangeOf_37 : decode cX11_rangeOf 37 = .ok (.aload_n 0, 1) := by decide +kernel
theorem dX11_rangeOf_38 : decode cX11_rangeOf 38 = .ok (.getfield 13, 3) := by decide +kernel
theorem dX11_rangeOf_41 : decode cX11_rangeOf 41 = .ok (.bipush 7, 2) := by decide +kernel
theorem dX11_rangeOf_43 : decode cX11_rangeOf 43 = .ok (.iaload, 1) := by decide +kernel
theorem dX11_rangeOf_44 : decode cX11_rangeOf 44 = .ok (.isub, 1) := by decide +kernel
theorem dX11_rangeOf_45 : decode cX11_rangeOf 45 = .ok (.iload_n 2, 1) := by decide +kernel
theorem dX11_rangeOf_46 : decode cX11_rangeOf 46 = .ok (.imul, 1) := by decide +kernel
theorem dX11_rangeOf_47 : decode cX11_rangeOf 47 = .ok (.aload_n 0, 1) := by decide +kernel
theorem dX11_rangeOf_48 : decode cX11_rangeOf 48 = .ok (.getfield 13, 3) := by decide +kernel
theorem dX11_rangeOf_51 : decode cX11_rangeOf 51 = .ok (.bipush 6, 2) := by decide +kernel
theorem dX11_rangeOf_53 : decode cX11_rangeOf 53 = .ok (.iaload, 1) := by decide +kernel
theorem dX11_rangeOf_54 : decode cX11_rangeOf 54 = .ok (.idiv, 1) := by decide +kernel
theorem dX11_rangeOf_55 : decode cX11_rangeOf 55 = .ok (.iadd, 1) := by decide +kernel
theorem dX11_rangeOf_56 : decode cX11_rangeOf 56 = .ok (.ireturn, 1) := by decide +kernel
theorem dX11_stepOf_0 : decode cX11_stepOf 0 = .ok (.iload_n 1, 1) := by decide +kernel
theorem dX11_stepOf_1 : decode cX11_stepOf 1 = .ok (.aload_n 0, 1) := by decide +kernel
theorem dX11_stepOf_2 : decode cX11_stepOf 2 = .ok (.getfield 13, 3) := by decide +kernel
theorem dX11_stepOf_5 : decode cX11_stepOf 5 = .ok (.iconst 5, 1) := by decide +kernel
theorem dX11_stepOf_6 : decode cX11_stepOf 6 = .ok (.iaload, 1) := by decide +kernel
theorem dX11_stepOf_7 : decode cX11_stepOf 7 = .ok (.irem, 1) := by decide +kernel
theorem dX11_stepOf_8 : decode cX11_stepOf 8 = .ok (.ireturn, 1) := by decide +kernel
theorem dX11_waterBy_0 : decode cX11_waterBy 0 = .ok (.iconst 2, 1) := by decide +kernel
theorem dX11_waterBy_1 : decode cX11_waterBy 1 = .ok (.aload_n 0, 1) := by decide +kernel
theorem dX11_waterBy_2 : decode cX11_waterBy 2 = .ok (.iload_n 1, 1) := by decide +kernel
theorem dX11_waterBy_3 : decode cX11_waterBy 3 = .ok (.invokevirtual 275, 3) := by decide +kernel
theorem dX11_waterBy_6 : decode cX11_waterBy 6 = .ok (.imul, 1) := by decide +kernel
theorem dX11_waterBy_7 : decode cX11_waterBy 7 = .ok (.aload_n 0, 1) := by decide +kernel
theorem dX11_waterBy_8 : decode cX11_waterBy 8 = .ok (.getfield 13, 3) := by decide +kernel
theorem dX11_waterBy_11 : decode cX11_waterBy 11 = .ok (.iconst 5, 1) := by decide +kernel
theorem dX11_waterBy_12 : decode cX11_waterBy 12 = .ok (.iaload, 1) := by decide +kernel
theorem dX11_waterBy_13 : decode cX11_waterBy 13 = .ok (.isub, 1) := by decide +kernel
theorem dX11_waterBy_14 : decode cX11_waterBy 14 = .ok (.invokestatic 269, 3) := by decide +kernel
theorem dX11_waterBy_17 : decode cX11_waterBy 17 = .ok (.istore_n 3, 1) := by decide +kernel
theorem dX11_waterBy_18 : decode cX11_waterBy 18 = .ok (.iconst 0, 1) := by decide +kernel
theorem dX11_waterBy_19 : decode cX11_waterBy 19 = .ok (.aload_n 0, 1) := by decide +kernel
theorem dX11_waterBy_20 : decode cX11_waterBy 20 = .ok (.iload_n 1, 1) := by decide +kernel
theorem dX11_waterBy_21 : decode cX11_waterBy 21 = .ok (.aload_n 0, 1) := by decide +kernel
theorem dX11_waterBy_22 : decode cX11_waterBy 22 = .ok (.getfield 13, 3) := by decide +kernel
theorem dX11_waterBy_25 : decode cX11_waterBy 25 = .ok (.iconst 5, 1) := by decide +kernel
theorem dX11_waterBy_26 : decode cX11_waterBy 26 = .ok (.iaload, 1) := by decide +kernel
theorem dX11_waterBy_27 : decode cX11_waterBy 27 = .ok (.idiv, 1) := by decide +kernel
theorem dX11_waterBy_28 : decode cX11_waterBy 28 = .ok (.invokevirtual 278, 3) := by decide +kernel
theorem dX11_waterBy_31 : decode cX11_waterBy 31 = .ok (.iload_n 3, 1) := by decide +kernel
theorem dX11_waterBy_32 : decode cX11_waterBy 32 = .ok (.imul, 1) := by decide +kernel
theorem dX11_waterBy_33 : decode cX11_waterBy 33 = .ok (.aload_n 0, 1) := by decide +kernel
theorem dX11_waterBy_34 : decode cX11_waterBy 34 = .ok (.getfield 13, 3) := by decide +kernel
theorem dX11_waterBy_37 : decode cX11_waterBy 37 = .ok (.iconst 5, 1) := by decide +kernel
theorem dX11_waterBy_38 : decode cX11_waterBy 38 = .ok (.iaload, 1) := by decide +kernel
theorem dX11_waterBy_39 : decode cX11_waterBy 39 = .ok (.idiv, 1) := by decide +kernel
theorem dX11_waterBy_40 : decode cX11_waterBy 40 = .ok (.iload_n 2, 1) := by decide +kernel
theorem dX11_waterBy_41 : decode cX11_waterBy 41 = .ok (.iadd, 1) := by decide +kernel
theorem dX11_waterBy_42 : decode cX11_waterBy 42 = .ok (.invokestatic 281, 3) := by decide +kernel
theorem dX11_waterBy_45 : decode cX11_waterBy 45 = .ok (.ireturn, 1) := by decide +kernel
theorem dX11_waterIn_0 : decode cX11_waterIn 0 = .ok (.aload_n 0, 1) := by decide +kernel
theorem dX11_waterIn_1 : decode cX11_waterIn 1 = .ok (.iload_n 1, 1) := by decide +kernel
theorem dX11_waterIn_2 : decode cX11_waterIn 2 = .ok (.aload_n 0, 1) := by decide +kernel
theorem dX11_waterIn_3 : decode cX11_waterIn 3 = .ok (.getfield 13, 3) := by decide +kernel
theorem dX11_waterIn_6 : decode cX11_waterIn 6 = .ok (.bipush 9, 2) := by decide +kernel
theorem dX11_waterIn_8 : decode cX11_waterIn 8 = .ok (.iaload, 1) := by decide +kernel
theorem dX11_waterIn_9 : decode cX11_waterIn 9 = .ok (.invokevirtual 284, 3) := by decide +kernel
theorem dX11_waterIn_12 : decode cX11_waterIn 12 = .ok (.ireturn, 1) := by decide +kernel
theorem dX11_depthAt_0 : decode cX11_depthAt 0 = .ok (.iconst 0, 1) := by decide +kernel
theorem dX11_depthAt_1 : decode cX11_depthAt 1 = .ok (.aload_n 0, 1) := by decide +kernel
theorem dX11_depthAt_2 : decode cX11_depthAt 2 = .ok (.iload_n 2, 1) := by decide +kernel
theorem dX11_depthAt_3 : decode cX11_depthAt 3 = .ok (.invokevirtual 287, 3) := by decide +kernel
theorem dX11_depthAt_6 : decode cX11_depthAt 6 = .ok (.aload_n 0, 1) := by decide +kernel
theorem dX11_depthAt_7 : decode cX11_depthAt 7 = .ok (.getfield 13, 3) := by decide +kernel
theorem dX11_depthAt_10 : decode cX11_depthAt 10 = .ok (.bipush 14, 2) := by decide +kernel
theorem dX11_depthAt_12 : decode cX11_depthAt 12 = .ok (.iload_n 1, 1) := by decide +kernel
theorem dX11_depthAt_13 : decode cX11_depthAt 13 = .ok (.iadd, 1) := by decide +kernel
theorem dX11_depthAt_14 : decode cX11_depthAt 14 = .ok (.iaload, 1) := by decide +kernel
theorem dX11_depthAt_15 : decode cX11_depthAt 15 = .ok (.isub, 1) := by decide +kernel
theorem dX11_depthAt_16 : decode cX11_depthAt 16 = .ok (.invokestatic 281, 3) := by decide +kernel
theorem dX11_depthAt_19 : decode cX11_depthAt 19 = .ok (.ireturn, 1) := by decide +kernel
theorem dX11_depthNow_0 : decode cX11_depthNow 0 = .ok (.aload_n 0, 1) := by decide +kernel
theorem dX11_depthNow_1 : decode cX11_depthNow 1 = .ok (.iload_n 1, 1) := by decide +kernel
theorem dX11_depthNow_2 : decode cX11_depthNow 2 = .ok (.aload_n 0, 1) := by decide +kernel
theorem dX11_depthNow_3 : decode cX11_depthNow 3 = .ok (.getfield 13, 3) := by decide +kernel
theorem dX11_depthNow_6 : decode cX11_depthNow 6 = .ok (.iconst 4, 1) := by decide +kernel
theorem dX11_depthNow_7 : decode cX11_depthNow 7 = .ok (.iaload, 1) := by decide +kernel
theorem dX11_depthNow_8 : decode cX11_depthNow 8 = .ok (.invokevirtual 290, 3) := by decide +kernel
theorem dX11_depthNow_11 : decode cX11_depthNow 11 = .ok (.ireturn, 1) := by decide +kernel
theorem dX11_printedOf_0 : decode cX11_printedOf 0 = .ok (.aload_n 0, 1) := by decide +kernel
theorem dX11_printedOf_1 : decode cX11_printedOf 1 = .ok (.getfield 13, 3) := by decide +kernel
theorem dX11_printedOf_4 : decode cX11_printedOf 4 = .ok (.iconst 5, 1) := by decide +kernel
theorem dX11_printedOf_5 : decode cX11_printedOf 5 = .ok (.iaload, 1) := by decide +kernel
theorem dX11_printedOf_6 : decode cX11_printedOf 6 = .ok (.iload_n 1, 1) := by decide +kernel
theorem dX11_printedOf_7 : decode cX11_printedOf 7 = .ok (.imul, 1) := by decide +kernel
theorem dX11_printedOf_8 : decode cX11_printedOf 8 = .ok (.aload_n 0, 1) := by decide +kernel
theorem dX11_printedOf_9 : decode cX11_printedOf 9 = .ok (.getfield 13, 3) := by decide +kernel
theorem dX11_printedOf_12 : decode cX11_printedOf 12 = .ok (.bipush 10, 2) := by decide +kernel
theorem dX11_printedOf_14 : decode cX11_printedOf 14 = .ok (.iaload, 1) := by decide +kernel
theorem dX11_printedOf_15 : decode cX11_printedOf 15 = .ok (.iadd, 1) := by decide +kernel
theorem dX11_printedOf_16 : decode cX11_printedOf 16 = .ok (.aload_n 0, 1) := by decide +kernel
theorem dX11_printedOf_17 : decode cX11_printedOf 17 = .ok (.getfield 13, 3) := by decide +kernel
theorem dX11_printedOf_20 : decode cX11_printedOf 20 = .ok (.bipush 26, 2) := by decide +kernel
theorem dX11_printedOf_22 : decode cX11_printedOf 22 = .ok (.iload_n 1, 1) := by decide +kernel
theorem dX11_printedOf_23 : decode cX11_printedOf 23 = .ok (.iadd, 1) := by decide +kernel
theorem dX11_printedOf_24 : decode cX11_printedOf 24 = .ok (.iaload, 1) := by decide +kernel
theorem dX11_printedOf_25 : decode cX11_printedOf 25 = .ok (.iadd, 1) := by decide +kernel
theorem dX11_printedOf_26 : decode cX11_printedOf 26 = .ok (.ireturn, 1) := by decide +kernel
theorem dX11_ground_0 : decode cX11_ground 0 = .ok (.aload_n 0, 1) := by decide +kernel
theorem dX11_ground_1 : decode cX11_ground 1 = .ok (.iconst 0, 1) := by decide +kernel
theorem dX11_ground_2 : decode cX11_ground 2 = .ok (.putfield 3, 3) := by decide +kernel
theorem dX11_ground_5 : decode cX11_ground 5 = .ok (.aload_n 0, 1) := by decide +kernel
theorem dX11_ground_6 : decode cX11_ground 6 = .ok (.iload_n 1, 1) := by decide +kernel
theorem dX11_ground_7 : decode cX11_ground 7 = .ok (.invokestatic 293, 3) := by decide +kernel
theorem dX11_ground_10 : decode cX11_ground 10 = .ok (.iconst 1, 1) := by decide +kernel
theorem dX11_ground_11 : decode cX11_ground 11 = .ok (.invokevirtual 266, 3) := by decide +kernel
theorem dX11_ground_14 : decode cX11_ground 14 = .ok (.ifCond .eq 7, 3) := by decide +kernel
theorem dX11_ground_17 : decode cX11_ground 17 = .ok (.iconst 0, 1) := by decide +kernel
theorem dX11_ground_18 : decode cX11_ground 18 = .ok (.goto 12, 3) := by decide +kernel
theorem dX11_ground_21 : decode cX11_ground 21 = .ok (.aload_n 0, 1) := by decide +kernel
theorem dX11_ground_22 : decode cX11_ground 22 = .ok (.getfield 13, 3) := by decide +kernel
theorem dX11_ground_25 : decode cX11_ground 25 = .ok (.bipush 14, 2) := by decide +kernel
theorem dX11_ground_27 : decode cX11_ground 27 = .ok (.iload_n 1, 1) := by decide +kernel
theorem dX11_ground_28 : decode cX11_ground 28 = .ok (.iadd, 1) := by decide +kernel
theorem dX11_ground_29 : decode cX11_ground 29 = .ok (.iaload, 1) := by decide +kernel
theorem dX11_ground_30 : decode cX11_ground 30 = .ok (.ireturn, 1) := by decide +kernel
theorem dX11_range_0 : decode cX11_range 0 = .ok (.aload_n 0, 1) := by decide +kernel
theorem dX11_range_1 : decode cX11_range 1 = .ok (.iconst 0, 1) := by decide +kernel
theorem dX11_range_2 : decode cX11_range 2 = .ok (.putfield 3, 3) := by decide +kernel
theorem dX11_range_5 : decode cX11_range 5 = .ok (.aload_n 0, 1) := by decide +kernel
theorem dX11_range_6 : decode cX11_range 6 = .ok (.iload_n 1, 1) := by decide +kernel
theorem dX11_range_7 : decode cX11_range 7 = .ok (.iconst 0, 1) := by decide +kernel
theorem dX11_range_8 : decode cX11_range 8 = .ok (.sipush 2499, 3) := by decide +kernel
theorem dX11_range_11 : decode cX11_range 11 = .ok (.invokestatic 84, 3) := by decide +kernel
theorem dX11_range_14 : decode cX11_range 14 = .ok (.ifCond .ne 7, 3) := by decide +kernel
theorem dX11_range_17 : decode cX11_range 17 = .ok (.iconst 1, 1) := by decide +kernel
theorem dX11_range_18 : decode cX11_range 18 = .ok (.goto 4, 3) := by decide +kernel
theorem dX11_range_21 : decode cX11_range 21 = .ok (.iconst 0, 1) := by decide +kernel
theorem dX11_range_22 : decode cX11_range 22 = .ok (.iconst 1, 1) := by decide +kernel
theorem dX11_range_23 : decode cX11_range 23 = .ok (.invokevirtual 266, 3) := by decide +kernel
theorem dX11_range_26 : decode cX11_range 26 = .ok (.ifCond .eq 7, 3) := by decide +kernel
theorem dX11_range_29 : decode cX11_range 29 = .ok (.iconst 0, 1) := by decide +kernel
theorem dX11_range_30 : decode cX11_range 30 = .ok (.goto 8, 3) := by decide +kernel
theorem dX11_range_33 : decode cX11_range 33 = .ok (.aload_n 0, 1) := by decide +kernel
theorem dX11_range_34 : decode cX11_range 34 = .ok (.iload_n 1, 1) := by decide +kernel
theorem dX11_range_35 : decode cX11_range 35 = .ok (.invokevirtual 278, 3) := by decide +kernel
theorem dX11_range_38 : decode cX11_range 38 = .ok (.ireturn, 1) := by decide +kernel
theorem dX11_water_0 : decode cX11_water 0 = .ok (.aload_n 0, 1) := by decide +kernel
theorem dX11_water_1 : decode cX11_water 1 = .ok (.iconst 0, 1) := by decide +kernel
theorem dX11_water_2 : decode cX11_water 2 = .ok (.putfield 3, 3) := by decide +kernel
theorem dX11_water_5 : decode cX11_water 5 = .ok (.aload_n 0, 1) := by decide +kernel
theorem dX11_water_6 : decode cX11_water 6 = .ok (.iload_n 1, 1) := by decide +kernel
theorem dX11_water_7 : decode cX11_water 7 = .ok (.invokestatic 296, 3) := by decide +kernel
theorem dX11_water_10 : decode cX11_water 10 = .ok (.iconst 1, 1) := by decide +kernel
theorem dX11_water_11 : decode cX11_water 11 = .ok (.invokevirtual 266, 3) := by decide +kernel
theorem dX11_water_14 : decode cX11_water 14 = .ok (.ifCond .eq 7, 3) := by decide +kernel
theorem dX11_water_17 : decode cX11_water 17 = .ok (.iconst 0, 1) := by decide +kernel
theorem dX11_water_18 : decode cX11_water 18 = .ok (.goto 8, 3) := by decide +kernel
theorem dX11_water_21 : decode cX11_water 21 = .ok (.aload_n 0, 1) := by decide +kernel
theorem dX11_water_22 : decode cX11_water 22 = .ok (.iload_n 1, 1) := by decide +kernel
theorem dX11_water_23 : decode cX11_water 23 = .ok (.invokevirtual 287, 3) := by decide +kernel
theorem dX11_water_26 : decode cX11_water 26 = .ok (.ireturn, 1) := by decide +kernel
theorem dX11_depth_0 : decode cX11_depth 0 = .ok (.aload_n 0, 1) := by decide +kernel
theorem dX11_depth_1 : decode cX11_depth 1 = .ok (.iconst 0, 1) := by decide +kernel
theorem dX11_depth_2 : decode cX11_depth 2 = .ok (.putfield 3, 3) := by decide +kernel
theorem dX11_depth_5 : decode cX11_depth 5 = .ok (.aload_n 0, 1) := by decide +kernel
theorem dX11_depth_6 : decode cX11_depth 6 = .ok (.iload_n 1, 1) := by decide +kernel
theorem dX11_depth_7 : decode cX11_depth 7 = .ok (.invokestatic 293, 3) := by decide +kernel
theorem dX11_depth_10 : decode cX11_depth 10 = .ok (.iconst 1, 1) := by decide +kernel
theorem dX11_depth_11 : decode cX11_depth 11 = .ok (.invokevirtual 266, 3) := by decide +kernel
theorem dX11_depth_14 : decode cX11_depth 14 = .ok (.ifCond .ne 15, 3) := by decide +kernel
theorem dX11_depth_17 : decode cX11_depth 17 = .ok (.aload_n 0, 1) := by decide +kernel
theorem dX11_depth_18 : decode cX11_depth 18 = .ok (.iload_n 2, 1) := by decide +kernel
theorem dX11_depth_19 : decode cX11_depth 19 = .ok (.invokestatic 296, 3) := by decide +kernel
theorem dX11_depth_22 : decode cX11_depth 22 = .ok (.iconst 2, 1) := by decide +kernel
theorem dX11_depth_23 : decode cX11_depth 23 = .ok (.invokevirtual 266, 3) := by decide +kernel
theorem dX11_depth_26 : decode cX11_depth 26 = .ok (.ifCond .eq 7, 3) := by decide +kernel
theorem dX11_depth_29 : decode cX11_depth 29 = .ok (.iconst 0, 1) := by decide +kernel
theorem dX11_depth_30 : decode cX11_depth 30 = .ok (.goto 9, 3) := by decide +kernel
theorem dX11_depth_33 : decode cX11_depth 33 = .ok (.aload_n 0, 1) := by decide +kernel
theorem dX11_depth_34 : decode cX11_depth 34 = .ok (.iload_n 1, 1) := by decide +kernel
theorem dX11_depth_35 : decode cX11_depth 35 = .ok (.iload_n 2, 1) := by decide +kernel
theorem dX11_depth_36 : decode cX11_depth 36 = .ok (.invokevirtual 290, 3) := by decide +kernel
theorem dX11_depth_39 : decode cX11_depth 39 = .ok (.ireturn, 1) := by decide +kernel
theorem dX11_printed_0 : decode cX11_printed 0 = .ok (.aload_n 0, 1) := by decide +kernel
theorem dX11_printed_1 : decode cX11_printed 1 = .ok (.iconst 0, 1) := by decide +kernel
theorem dX11_printed_2 : decode cX11_printed 2 = .ok (.putfield 3, 3) := by decide +kernel
theorem dX11_printed_5 : decode cX11_printed 5 = .ok (.aload_n 0, 1) := by decide +kernel
theorem dX11_printed_6 : decode cX11_printed 6 = .ok (.iload_n 1, 1) := by decide +kernel
theorem dX11_printed_7 : decode cX11_printed 7 = .ok (.iconst 0, 1) := by decide +kernel
theorem dX11_printed_8 : decode cX11_printed 8 = .ok (.bipush 11, 2) := by decide +kernel
theorem dX11_printed_10 : decode cX11_printed 10 = .ok (.invokestatic 84, 3) := by decide +kernel
theorem dX11_printed_13 : decode cX11_printed 13 = .ok (.ifCond .ne 7, 3) := by decide +kernel
theorem dX11_printed_16 : decode cX11_printed 16 = .ok (.iconst 1, 1) := by decide +kernel
theorem dX11_printed_17 : decode cX11_printed 17 = .ok (.goto 4, 3) := by decide +kernel
theorem dX11_printed_20 : decode cX11_printed 20 = .ok (.iconst 0, 1) := by decide +kernel
theorem dX11_printed_21 : decode cX11_printed 21 = .ok (.iconst 1, 1) := by decide +kernel
theorem dX11_printed_22 : decode cX11_printed 22 = .ok (.invokevirtual 266, 3) := by decide +kernel
theorem dX11_printed_25 : decode cX11_printed 25 = .ok (.ifCond .eq 7, 3) := by decide +kernel
theorem dX11_printed_28 : decode cX11_printed 28 = .ok (.iconst 0, 1) := by decide +kernel
theorem dX11_printed_29 : decode cX11_printed 29 = .ok (.goto 8, 3) := by decide +kernel
theorem dX11_printed_32 : decode cX11_printed 32 = .ok (.aload_n 0, 1) := by decide +kernel
theorem dX11_printed_33 : decode cX11_printed 33 = .ok (.iload_n 1, 1) := by decide +kernel
theorem dX11_printed_34 : decode cX11_printed 34 = .ok (.invokevirtual 299, 3) := by decide +kernel
theorem dX11_printed_37 : decode cX11_printed 37 = .ok (.ireturn, 1) := by decide +kernel
theorem dX11_high_0 : decode cX11_high 0 = .ok (.aload_n 0, 1) := by decide +kernel
theorem dX11_high_1 : decode cX11_high 1 = .ok (.iconst 0, 1) := by decide +kernel
theorem dX11_high_2 : decode cX11_high 2 = .ok (.putfield 3, 3) := by decide +kernel
theorem dX11_high_5 : decode cX11_high 5 = .ok (.aload_n 0, 1) := by decide +kernel
theorem dX11_high_6 : decode cX11_high 6 = .ok (.iload_n 1, 1) := by decide +kernel
theorem dX11_high_7 : decode cX11_high 7 = .ok (.invokestatic 296, 3) := by decide +kernel
theorem dX11_high_10 : decode cX11_high 10 = .ok (.iconst 1, 1) := by decide +kernel
theorem dX11_high_11 : decode cX11_high 11 = .ok (.invokevirtual 266, 3) := by decide +kernel
theorem dX11_high_14 : decode cX11_high 14 = .ok (.ifCond .eq 5, 3) := by decide +kernel
theorem dX11_high_17 : decode cX11_high 17 = .ok (.iconst 0, 1) := by decide +kernel
theorem dX11_high_18 : decode cX11_high 18 = .ok (.ireturn, 1) := by decide +kernel
theorem dX11_high_19 : decode cX11_high 19 = .ok (.iload_n 1, 1) := by decide +kernel
theorem dX11_high_20 : decode cX11_high 20 = .ok (.istore_n 2, 1) := by decide +kernel
theorem dX11_high_21 : decode cX11_high 21 = .ok (.aload_n 0, 1) := by decide +kernel
theorem dX11_high_22 : decode cX11_high 22 = .ok (.iload_n 2, 1) := by decide +kernel
theorem dX11_high_23 : decode cX11_high 23 = .ok (.invokevirtual 275, 3) := by decide +kernel
theorem dX11_high_26 : decode cX11_high 26 = .ok (.ifCond .eq 9, 3) := by decide +kernel
theorem dX11_high_29 : decode cX11_high 29 = .ok (.iinc 2 1, 3) := by decide +kernel
theorem dX11_high_32 : decode cX11_high 32 = .ok (.goto (-11), 3) := by decide +kernel
theorem dX11_high_35 : decode cX11_high 35 = .ok (.iload_n 2, 1) := by decide +kernel
theorem dX11_high_36 : decode cX11_high 36 = .ok (.ireturn, 1) := by decide +kernel
theorem dX11_low_0 : decode cX11_low 0 = .ok (.aload_n 0, 1) := by decide +kernel
theorem dX11_low_1 : decode cX11_low 1 = .ok (.iconst 0, 1) := by decide +kernel
theorem dX11_low_2 : decode cX11_low 2 = .ok (.putfield 3, 3) := by decide +kernel
theorem dX11_low_5 : decode cX11_low 5 = .ok (.aload_n 0, 1) := by decide +kernel
theorem dX11_low_6 : decode cX11_low 6 = .ok (.iload_n 1, 1) := by decide +kernel
theorem dX11_low_7 : decode cX11_low 7 = .ok (.invokestatic 302, 3) := by decide +kernel
theorem dX11_low_10 : decode cX11_low 10 = .ok (.iconst 1, 1) := by decide +kernel
theorem dX11_low_11 : decode cX11_low 11 = .ok (.invokevirtual 266, 3) := by decide +kernel
theorem dX11_low_14 : decode cX11_low 14 = .ok (.ifCond .eq 5, 3) := by decide +kernel
theorem dX11_low_17 : decode cX11_low 17 = .ok (.iconst 0, 1) := by decide +kernel
theorem dX11_low_18 : decode cX11_low 18 = .ok (.ireturn, 1) := by decide +kernel
theorem dX11_low_19 : decode cX11_low 19 = .ok (.aload_n 0, 1) := by decide +kernel
theorem dX11_low_20 : decode cX11_low 20 = .ok (.getfield 13, 3) := by decide +kernel
theorem dX11_low_23 : decode cX11_low 23 = .ok (.iconst 5, 1) := by decide +kernel
theorem dX11_low_24 : decode cX11_low 24 = .ok (.iaload, 1) := by decide +kernel
theorem dX11_low_25 : decode cX11_low 25 = .ok (.iload_n 1, 1) := by decide +kernel
theorem dX11_low_26 : decode cX11_low 26 = .ok (.imul, 1) := by decide +kernel
theorem dX11_low_27 : decode cX11_low 27 = .ok (.istore_n 2, 1) := by decide +kernel
theorem dX11_low_28 : decode cX11_low 28 = .ok (.iload_n 2, 1) := by decide +kernel
theorem dX11_low_29 : decode cX11_low 29 = .ok (.istore_n 3, 1) := by decide +kernel
theorem dX11_low_30 : decode cX11_low 30 = .ok (.iconst 1, 1) := by decide +kernel
theorem dX11_low_31 : decode cX11_low 31 = .ok (.istore 4, 2) := by decide +kernel
theorem dX11_low_33 : decode cX11_low 33 = .ok (.iload 4, 2) := by decide +kernel
theorem dX11_low_35 : decode cX11_low 35 = .ok (.aload_n 0, 1) := by decide +kernel
theorem dX11_low_36 : decode cX11_low 36 = .ok (.getfield 13, 3) := by decide +kernel
theorem dX11_low_39 : decode cX11_low 39 = .ok (.iconst 5, 1) := by decide +kernel
theorem dX11_low_40 : decode cX11_low 40 = .ok (.iaload, 1) := by decide +kernel
theorem dX11_low_41 : decode cX11_low 41 = .ok (.if_icmp .ge 34, 3) := by decide +kernel
theorem dX11_low_44 : decode cX11_low 44 = .ok (.aload_n 0, 1) := by decide +kernel
theorem dX11_low_45 : decode cX11_low 45 = .ok (.iload_n 2, 1) := by decide +kernel
theorem dX11_low_46 : decode cX11_low 46 = .ok (.iload 4, 2) := by decide +kernel
theorem dX11_low_48 : decode cX11_low 48 = .ok (.iadd, 1) := by decide +kernel
theorem dX11_low_49 : decode cX11_low 49 = .ok (.invokevirtual 287, 3) := by decide +kernel
theorem dX11_low_52 : decode cX11_low 52 = .ok (.aload_n 0, 1) := by decide +kernel
theorem dX11_low_53 : decode cX11_low 53 = .ok (.iload_n 3, 1) := by decide +kernel
theorem dX11_low_54 : decode cX11_low 54 = .ok (.invokevirtual 287, 3) := by decide +kernel
theorem dX11_low_57 : decode cX11_low 57 = .ok (.if_icmp .ge 10, 3) := by decide +kernel
theorem dX11_low_60 : decode cX11_low 60 = .ok (.iload_n 2, 1) := by decide +kernel
theorem dX11_low_61 : decode cX11_low 61 = .ok (.iload 4, 2) := by decide +kernel
theorem dX11_low_63 : decode cX11_low 63 = .ok (.iadd, 1) := by decide +kernel
theorem dX11_low_64 : decode cX11_low 64 = .ok (.goto 4, 3) := by decide +kernel
theorem dX11_low_67 : decode cX11_low 67 = .ok (.iload_n 3, 1) := by decide +kernel
theorem dX11_low_68 : decode cX11_low 68 = .ok (.istore_n 3, 1) := by decide +kernel
theorem dX11_low_69 : decode cX11_low 69 = .ok (.iinc 4 1, 3) := by decide +kernel
theorem dX11_low_72 : decode cX11_low 72 = .ok (.goto (-39), 3) := by decide +kernel
theorem dX11_low_75 : decode cX11_low 75 = .ok (.iload_n 3, 1) := by decide +kernel
theorem dX11_low_76 : decode cX11_low 76 = .ok (.ireturn, 1) := by decide +kernel
theorem dX11_dry_0 : decode cX11_dry 0 = .ok (.aload_n 0, 1) := by decide +kernel
theorem dX11_dry_1 : decode cX11_dry 1 = .ok (.iconst 0, 1) := by decide +kernel
theorem dX11_dry_2 : decode cX11_dry 2 = .ok (.putfield 3, 3) := by decide +kernel
theorem dX11_dry_5 : decode cX11_dry 5 = .ok (.aload_n 0, 1) := by decide +kernel
theorem dX11_dry_6 : decode cX11_dry 6 = .ok (.iload_n 1, 1) := by decide +kernel
theorem dX11_dry_7 : decode cX11_dry 7 = .ok (.invokestatic 293, 3) := by decide +kernel
theorem dX11_dry_10 : decode cX11_dry 10 = .ok (.iconst 1, 1) := by decide +kernel
theorem dX11_dry_11 : decode cX11_dry 11 = .ok (.invokevirtual 266, 3) := by decide +kernel
theorem dX11_dry_14 : decode cX11_dry 14 = .ok (.ifCond .ne 15, 3) := by decide +kernel
theorem dX11_dry_17 : decode cX11_dry 17 = .ok (.aload_n 0, 1) := by decide +kernel
theorem dX11_dry_18 : decode cX11_dry 18 = .ok (.iload_n 2, 1) := by decide +kernel
theorem dX11_dry_19 : decode cX11_dry 19 = .ok (.invokestatic 302, 3) := by decide +kernel
theorem dX11_dry_22 : decode cX11_dry 22 = .ok (.iconst 2, 1) := by decide +kernel
theorem dX11_dry_23 : decode cX11_dry 23 = .ok (.invokevirtual 266, 3) := by decide +kernel
theorem dX11_dry_26 : decode cX11_dry 26 = .ok (.ifCond .eq 5, 3) := by decide +kernel
theorem dX11_dry_29 : decode cX11_dry 29 = .ok (.iconst 0, 1) := by decide +kernel
theorem dX11_dry_30 : decode cX11_dry 30 = .ok (.ireturn, 1) := by decide +kernel
theorem dX11_dry_31 : decode cX11_dry 31 = .ok (.iconst 0, 1) := by decide +kernel
theorem dX11_dry_32 : decode cX11_dry 32 = .ok (.istore_n 3, 1) := by decide +kernel
theorem dX11_dry_33 : decode cX11_dry 33 = .ok (.iconst 0, 1) := by decide +kernel
theorem dX11_dry_34 : decode cX11_dry 34 = .ok (.istore 4, 2) := by decide +kernel
theorem dX11_dry_36 : decode cX11_dry 36 = .ok (.iload 4, 2) := by decide +kernel
theorem dX11_dry_38 : decode cX11_dry 38 = .ok (.aload_n 0, 1) := by decide +kernel
theorem dX11_dry_39 : decode cX11_dry 39 = .ok (.getfield 13, 3) := by decide +kernel
theorem dX11_dry_42 : decode cX11_dry 42 = .ok (.iconst 5, 1) := by decide +kernel
theorem dX11_dry_43 : decode cX11_dry 43 = .ok (.iaload, 1) := by decide +kernel
theorem dX11_dry_44 : decode cX11_dry 44 = .ok (.if_icmp .ge 36, 3) := by decide +kernel
theorem dX11_dry_47 : decode cX11_dry 47 = .ok (.iload_n 3, 1) := by decide +kernel
theorem dX11_dry_48 : decode cX11_dry 48 = .ok (.aload_n 0, 1) := by decide +kernel
theorem dX11_dry_49 : decode cX11_dry 49 = .ok (.iload_n 1, 1) := by decide +kernel
theorem dX11_dry_50 : decode cX11_dry 50 = .ok (.aload_n 0, 1) := by decide +kernel
theorem dX11_dry_51 : decode cX11_dry 51 = .ok (.getfield 13, 3) := by decide +kernel
theorem dX11_dry_54 : decode cX11_dry 54 = .ok (.iconst 5, 1) := by decide +kernel
theorem dX11_dry_55 : decode cX11_dry 55 = .ok (.iaload, 1) := by decide +kernel
theorem dX11_dry_56 : decode cX11_dry 56 = .ok (.iload_n 2, 1) := by decide +kernel
theorem dX11_dry_57 : decode cX11_dry 57 = .ok (.imul, 1) := by decide +kernel
theorem dX11_dry_58 : decode cX11_dry 58 = .ok (.iload 4, 2) := by decide +kernel
theorem dX11_dry_60 : decode cX11_dry 60 = .ok (.iadd, 1) := by decide +kernel
theorem dX11_dry_61 : decode cX11_dry 61 = .ok (.invokevirtual 290, 3) := by decide +kernel
theorem dX11_dry_64 : decode cX11_dry 64 = .ok (.ifCond .ne 7, 3) := by decide +kernel
theorem dX11_dry_67 : decode cX11_dry 67 = .ok (.iconst 1, 1) := by decide +kernel
theorem dX11_dry_68 : decode cX11_dry 68 = .ok (.goto 4, 3) := by decide +kernel
theorem dX11_dry_71 : decode cX11_dry 71 = .ok (.iconst 0, 1) := by decide +kernel
theorem dX11_dry_72 : decode cX11_dry 72 = .ok (.iadd, 1) := by decide +kernel
theorem dX11_dry_73 : decode cX11_dry 73 = .ok (.istore_n 3, 1) := by decide +kernel
theorem dX11_dry_74 : decode cX11_dry 74 = .ok (.iinc 4 1, 3) := by decide +kernel
theorem dX11_dry_77 : decode cX11_dry 77 = .ok (.goto (-41), 3) := by decide +kernel
theorem dX11_dry_80 : decode cX11_dry 80 = .ok (.iload_n 3, 1) := by decide +kernel
theorem dX11_dry_81 : decode cX11_dry 81 = .ok (.ireturn, 1) := by decide +kernel
theorem dX11_highest_0 : decode cX11_highest 0 = .ok (.aload_n 0, 1) := by decide +kernel
theorem dX11_highest_1 : decode cX11_highest 1 = .ok (.iconst 0, 1) := by decide +kernel
theorem dX11_highest_2 : decode cX11_highest 2 = .ok (.putfield 3, 3) := by decide +kernel
theorem dX11_highest_5 : decode cX11_highest 5 = .ok (.aload_n 0, 1) := by decide +kernel
theorem dX11_highest_6 : decode cX11_highest 6 = .ok (.iload_n 1, 1) := by decide +kernel
theorem dX11_highest_7 : decode cX11_highest 7 = .ok (.invokestatic 302, 3) := by decide +kernel
theorem dX11_highest_10 : decode cX11_highest 10 = .ok (.iconst 1, 1) := by decide +kernel
theorem dX11_highest_11 : decode cX11_highest 11 = .ok (.invokevirtual 266, 3) := by decide +kernel
theorem dX11_highest_14 : decode cX11_highest 14 = .ok (.ifCond .eq 5, 3) := by decide +kernel
theorem dX11_highest_17 : decode cX11_highest 17 = .ok (.iconst 0, 1) := by decide +kernel
theorem dX11_highest_18 : decode cX11_highest 18 = .ok (.ireturn, 1) := by decide +kernel
theorem dX11_highest_19 : decode cX11_highest 19 = .ok (.iload_n 1, 1) := by decide +kernel
theorem dX11_highest_20 : decode cX11_highest 20 = .ok (.istore_n 2, 1) := by decide +kernel
theorem dX11_highest_21 : decode cX11_highest 21 = .ok (.iconst 1, 1) := by decide +kernel
theorem dX11_highest_22 : decode cX11_highest 22 = .ok (.istore_n 3, 1) := by decide +kernel
theorem dX11_highest_23 : decode cX11_highest 23 = .ok (.iload_n 3, 1) := by decide +kernel
theorem dX11_highest_24 : decode cX11_highest 24 = .ok (.aload_n 0, 1) := by decide +kernel
theorem dX11_highest_25 : decode cX11_highest 25 = .ok (.getfield 13, 3) := by decide +kernel
theorem dX11_highest_28 : decode cX11_highest 28 = .ok (.bipush 6, 2) := by decide +kernel
theorem dX11_highest_30 : decode cX11_highest 30 = .ok (.iaload, 1) := by decide +kernel
theorem dX11_highest_31 : decode cX11_highest 31 = .ok (.if_icmp .ge 32, 3) := by decide +kernel
theorem dX11_highest_34 : decode cX11_highest 34 = .ok (.aload_n 0, 1) := by decide +kernel
theorem dX11_highest_35 : decode cX11_highest 35 = .ok (.iload_n 1, 1) := by decide +kernel
theorem dX11_highest_36 : decode cX11_highest 36 = .ok (.iload_n 3, 1) := by decide +kernel
theorem dX11_highest_37 : decode cX11_highest 37 = .ok (.iadd, 1) := by decide +kernel
theorem dX11_highest_38 : decode cX11_highest 38 = .ok (.invokevirtual 278, 3) := by decide +kernel
theorem dX11_highest_41 : decode cX11_highest 41 = .ok (.aload_n 0, 1) := by decide +kernel
theorem dX11_highest_42 : decode cX11_highest 42 = .ok (.iload_n 2, 1) := by decide +kernel
theorem dX11_highest_43 : decode cX11_highest 43 = .ok (.invokevirtual 278, 3) := by decide +kernel
theorem dX11_highest_46 : decode cX11_highest 46 = .ok (.if_icmp .le 9, 3) := by decide +kernel
theorem dX11_highest_49 : decode cX11_highest 49 = .ok (.iload_n 1, 1) := by decide +kernel
theorem dX11_highest_50 : decode cX11_highest 50 = .ok (.iload_n 3, 1) := by decide +kernel
theorem dX11_highest_51 : decode cX11_highest 51 = .ok (.iadd, 1) := by decide +kernel
theorem dX11_highest_52 : decode cX11_highest 52 = .ok (.goto 4, 3) := by decide +kernel
theorem dX11_highest_55 : decode cX11_highest 55 = .ok (.iload_n 2, 1) := by decide +kernel
theorem dX11_highest_56 : decode cX11_highest 56 = .ok (.istore_n 2, 1) := by decide +kernel
theorem dX11_highest_57 : decode cX11_highest 57 = .ok (.iinc 3 1, 3) := by decide +kernel
theorem dX11_highest_60 : decode cX11_highest 60 = .ok (.goto (-37), 3) := by decide +kernel
theorem dX11_highest_63 : decode cX11_highest 63 = .ok (.iload_n 2, 1) := by decide +kernel
theorem dX11_highest_64 : decode cX11_highest 64 = .ok (.ireturn, 1) := by decide +kernel
theorem dX11_neaps_0 : decode cX11_neaps 0 = .ok (.aload_n 0, 1) := by decide +kernel
theorem dX11_neaps_1 : decode cX11_neaps 1 = .ok (.iconst 0, 1) := by decide +kernel
theorem dX11_neaps_2 : decode cX11_neaps 2 = .ok (.putfield 3, 3) := by decide +kernel
theorem dX11_neaps_5 : decode cX11_neaps 5 = .ok (.iconst 0, 1) := by decide +kernel
theorem dX11_neaps_6 : decode cX11_neaps 6 = .ok (.istore_n 1, 1) := by decide +kernel
theorem dX11_neaps_7 : decode cX11_neaps 7 = .ok (.iconst 0, 1) := by decide +kernel
theorem dX11_neaps_8 : decode cX11_neaps 8 = .ok (.istore_n 2, 1) := by decide +kernel
theorem dX11_neaps_9 : decode cX11_neaps 9 = .ok (.iload_n 2, 1) := by decide +kernel
theorem dX11_neaps_10 : decode cX11_neaps 10 = .ok (.bipush 12, 2) := by decide +kernel
theorem dX11_neaps_12 : decode cX11_neaps 12 = .ok (.if_icmp .ge 34, 3) := by decide +kernel
theorem dX11_neaps_15 : decode cX11_neaps 15 = .ok (.iload_n 1, 1) := by decide +kernel
theorem dX11_neaps_16 : decode cX11_neaps 16 = .ok (.aload_n 0, 1) := by decide +kernel
theorem dX11_neaps_17 : decode cX11_neaps 17 = .ok (.iload_n 2, 1) := by decide +kernel
theorem dX11_neaps_18 : decode cX11_neaps 18 = .ok (.invokevirtual 278, 3) := by decide +kernel
theorem dX11_neaps_21 : decode cX11_neaps 21 = .ok (.aload_n 0, 1) := by decide +kernel
theorem dX11_neaps_22 : decode cX11_neaps 22 = .ok (.getfield 13, 3) := by decide +kernel
theorem dX11_neaps_25 : decode cX11_neaps 25 = .ok (.bipush 7, 2) := by decide +kernel
theorem dX11_neaps_27 : decode cX11_neaps 27 = .ok (.iaload, 1) := by decide +kernel
theorem dX11_neaps_28 : decode cX11_neaps 28 = .ok (.if_icmp .ne 9, 3) := by decide +kernel
theorem dX11_neaps_31 : decode cX11_neaps 31 = .ok (.iconst 1, 1) := by decide +kernel
theorem dX11_neaps_32 : decode cX11_neaps 32 = .ok (.iload_n 2, 1) := by decide +kernel
theorem dX11_neaps_33 : decode cX11_neaps 33 = .ok (.ishl, 1) := by decide +kernel
theorem dX11_neaps_34 : decode cX11_neaps 34 = .ok (.goto 4, 3) := by decide +kernel
theorem dX11_neaps_37 : decode cX11_neaps 37 = .ok (.iconst 0, 1) := by decide +kernel
theorem dX11_neaps_38 : decode cX11_neaps 38 = .ok (.ior, 1) := by decide +kernel
theorem dX11_neaps_39 : decode cX11_neaps 39 = .ok (.istore_n 1, 1) := by decide +kernel
theorem dX11_neaps_40 : decode cX11_neaps 40 = .ok (.iinc 2 1, 3) := by decide +kernel
theorem dX11_neaps_43 : decode cX11_neaps 43 = .ok (.goto (-34), 3) := by decide +kernel
theorem dX11_neaps_46 : decode cX11_neaps 46 = .ok (.iload_n 1, 1) := by decide +kernel
theorem dX11_neaps_47 : decode cX11_neaps 47 = .ok (.ireturn, 1) := by decide +kernel
theorem dX11_risk_0 : decode cX11_risk 0 = .ok (.aload_n 0, 1) := by decide +kernel
theorem dX11_risk_1 : decode cX11_risk 1 = .ok (.iconst 0, 1) := by decide +kernel
theorem dX11_risk_2 : decode cX11_risk 2 = .ok (.putfield 3, 3) := by decide +kernel
theorem dX11_risk_5 : decode cX11_risk 5 = .ok (.aload_n 0, 1) := by decide +kernel
theorem dX11_risk_6 : decode cX11_risk 6 = .ok (.iload_n 1, 1) := by decide +kernel
theorem dX11_risk_7 : decode cX11_risk 7 = .ok (.invokestatic 293, 3) := by decide +kernel
theorem dX11_risk_10 : decode cX11_risk 10 = .ok (.iconst 1, 1) := by decide +kernel
theorem dX11_risk_11 : decode cX11_risk 11 = .ok (.invokevirtual 266, 3) := by decide +kernel
theorem dX11_risk_14 : decode cX11_risk 14 = .ok (.ifCond .ne 33, 3) := by decide +kernel
theorem dX11_risk_17 : decode cX11_risk 17 = .ok (.aload_n 0, 1) := by decide +kernel
theorem dX11_risk_18 : decode cX11_risk 18 = .ok (.iload_n 3, 1) := by decide +kernel
theorem dX11_risk_19 : decode cX11_risk 19 = .ok (.iconst 0, 1) := by decide +kernel
theorem dX11_risk_20 : decode cX11_risk 20 = .ok (.bipush 9, 2) := by decide +kernel
theorem dX11_risk_22 : decode cX11_risk 22 = .ok (.invokestatic 84, 3) := by decide +kernel
theorem dX11_risk_25 : decode cX11_risk 25 = .ok (.ifCond .eq 10, 3) := by decide +kernel
theorem dX11_risk_28 : decode cX11_risk 28 = .ok (.iload_n 2, 1) := by decide +kernel
theorem dX11_risk_29 : decode cX11_risk 29 = .ok (.invokestatic 296, 3) := by decide +kernel
theorem dX11_risk_32 : decode cX11_risk 32 = .ok (.ifCond .eq 7, 3) := by decide +kernel
theorem dX11_risk_35 : decode cX11_risk 35 = .ok (.iconst 1, 1) := by decide +kernel
theorem dX11_risk_36 : decode cX11_risk 36 = .ok (.goto 4, 3) := by decide +kernel
theorem dX11_risk_39 : decode cX11_risk 39 = .ok (.iconst 0, 1) := by decide +kernel
theorem dX11_risk_40 : decode cX11_risk 40 = .ok (.iconst 2, 1) := by decide +kernel
theorem dX11_risk_41 : decode cX11_risk 41 = .ok (.invokevirtual 266, 3) := by decide +kernel
theorem dX11_risk_44 : decode cX11_risk 44 = .ok (.ifCond .eq 5, 3) := by decide +kernel
theorem dX11_risk_47 : decode cX11_risk 47 = .ok (.iconst 0, 1) := by decide +kernel
theorem dX11_risk_48 : decode cX11_risk 48 = .ok (.ireturn, 1) := by decide +kernel
theorem dX11_risk_49 : decode cX11_risk 49 = .ok (.iconst 0, 1) := by decide +kernel
theorem dX11_risk_50 : decode cX11_risk 50 = .ok (.istore 4, 2) := by decide +kernel
theorem dX11_risk_52 : decode cX11_risk 52 = .ok (.bipush (-5), 2) := by decide +kernel
theorem dX11_risk_54 : decode cX11_risk 54 = .ok (.istore 5, 2) := by decide +kernel
theorem dX11_risk_56 : decode cX11_risk 56 = .ok (.iload 5, 2) := by decide +kernel
theorem dX11_risk_58 : decode cX11_risk 58 = .ok (.iconst 5, 1) := by decide +kernel
theorem dX11_risk_59 : decode cX11_risk 59 = .ok (.if_icmp .gt 40, 3) := by decide +kernel
theorem dX11_risk_62 : decode cX11_risk 62 = .ok (.iload 4, 2) := by decide +kernel
theorem dX11_risk_64 : decode cX11_risk 64 = .ok (.aload_n 0, 1) := by decide +kernel
theorem dX11_risk_65 : decode cX11_risk 65 = .ok (.iload_n 2, 1) := by decide +kernel
theorem dX11_risk_66 : decode cX11_risk 66 = .ok (.iload 5, 2) := by decide +kernel
theorem dX11_risk_68 : decode cX11_risk 68 = .ok (.invokevirtual 284, 3) := by decide +kernel
theorem dX11_risk_71 : decode cX11_risk 71 = .ok (.aload_n 0, 1) := by decide +kernel
theorem dX11_risk_72 : decode cX11_risk 72 = .ok (.getfield 13, 3) := by decide +kernel
theorem dX11_risk_75 : decode cX11_risk 75 = .ok (.bipush 14, 2) := by decide +kernel
theorem dX11_risk_77 : decode cX11_risk 77 = .ok (.iload_n 1, 1) := by decide +kernel
theorem dX11_risk_78 : decode cX11_risk 78 = .ok (.iadd, 1) := by decide +kernel
theorem dX11_risk_79 : decode cX11_risk 79 = .ok (.iaload, 1) := by decide +kernel
theorem dX11_risk_80 : decode cX11_risk 80 = .ok (.isub, 1) := by decide +kernel
theorem dX11_risk_81 : decode cX11_risk 81 = .ok (.iload_n 3, 1) := by decide +kernel
theorem dX11_risk_82 : decode cX11_risk 82 = .ok (.if_icmp .le 7, 3) := by decide +kernel
theorem dX11_risk_85 : decode cX11_risk 85 = .ok (.iconst 1, 1) := by decide +kernel
theorem dX11_risk_86 : decode cX11_risk 86 = .ok (.goto 4, 3) := by decide +kernel
theorem dX11_risk_89 : decode cX11_risk 89 = .ok (.iconst 0, 1) := by decide +kernel
theorem dX11_risk_90 : decode cX11_risk 90 = .ok (.iadd, 1) := by decide +kernel
theorem dX11_risk_91 : decode cX11_risk 91 = .ok (.istore 4, 2) := by decide +kernel
theorem dX11_risk_93 : decode cX11_risk 93 = .ok (.iinc 5 1, 3) := by decide +kernel
theorem dX11_risk_96 : decode cX11_risk 96 = .ok (.goto (-40), 3) := by decide +kernel
theorem dX11_risk_99 : decode cX11_risk 99 = .ok (.iload 4, 2) := by decide +kernel
theorem dX11_risk_101 : decode cX11_risk 101 = .ok (.ireturn, 1) := by decide +kernel
theorem dX11_isThere_0 : decode cX11_isThere 0 = .ok (.aload_n 0, 1) := by decide +kernel
theorem dX11_isThere_1 : decode cX11_isThere 1 = .ok (.iload_n 1, 1) := by decide +kernel
theorem dX11_isThere_2 : decode cX11_isThere 2 = .ok (.iconst 0, 1) := by decide +kernel
theorem dX11_isThere_3 : decode cX11_isThere 3 = .ok (.invokevirtual 71, 3) := by decide +kernel
theorem dX11_isThere_6 : decode cX11_isThere 6 = .ok (.aload_n 0, 1) := by decide +kernel
theorem dX11_isThere_7 : decode cX11_isThere 7 = .ok (.iload_n 1, 1) := by decide +kernel
theorem dX11_isThere_8 : decode cX11_isThere 8 = .ok (.iconst 1, 1) := by decide +kernel
theorem dX11_isThere_9 : decode cX11_isThere 9 = .ok (.invokevirtual 71, 3) := by decide +kernel
theorem dX11_isThere_12 : decode cX11_isThere 12 = .ok (.if_icmp .ne 7, 3) := by decide +kernel
theorem dX11_isThere_15 : decode cX11_isThere 15 = .ok (.iconst 1, 1) := by decide +kernel
theorem dX11_isThere_16 : decode cX11_isThere 16 = .ok (.goto 4, 3) := by decide +kernel
theorem dX11_isThere_19 : decode cX11_isThere 19 = .ok (.iconst 0, 1) := by decide +kernel
theorem dX11_isThere_20 : decode cX11_isThere 20 = .ok (.ireturn, 1) := by decide +kernel
theorem dX11_factOf_0 : decode cX11_factOf 0 = .ok (.iload_n 1, 1) := by decide +kernel
theorem dX11_factOf_1 : decode cX11_factOf 1 = .ok (.tableswitch 136 0 7 #[47, 49, 56, 67, 78, 85, 95, 122], 47) := by decide +kernel
theorem dX11_factOf_48 : decode cX11_factOf 48 = .ok (.iload_n 3, 1) := by decide +kernel
theorem dX11_factOf_49 : decode cX11_factOf 49 = .ok (.ireturn, 1) := by decide +kernel
theorem dX11_factOf_50 : decode cX11_factOf 50 = .ok (.aload_n 0, 1) := by decide +kernel
theorem dX11_factOf_51 : decode cX11_factOf 51 = .ok (.iload_n 3, 1) := by decide +kernel
theorem dX11_factOf_52 : decode cX11_factOf 52 = .ok (.iconst 0, 1) := by decide +kernel
theorem dX11_factOf_53 : decode cX11_factOf 53 = .ok (.invokevirtual 71, 3) := by decide +kernel
theorem dX11_factOf_56 : decode cX11_factOf 56 = .ok (.ireturn, 1) := by decide +kernel
theorem dX11_factOf_57 : decode cX11_factOf 57 = .ok (.aload_n 0, 1) := by decide +kernel
theorem dX11_factOf_58 : decode cX11_factOf 58 = .ok (.aload_n 0, 1) := by decide +kernel
theorem dX11_factOf_59 : decode cX11_factOf 59 = .ok (.iload_n 3, 1) := by decide +kernel
theorem dX11_factOf_60 : decode cX11_factOf 60 = .ok (.iconst 0, 1) := by decide +kernel
theorem dX11_factOf_61 : decode cX11_factOf 61 = .ok (.invokevirtual 71, 3) := by decide +kernel
theorem dX11_factOf_64 : decode cX11_factOf 64 = .ok (.invokevirtual 305, 3) := by decide +kernel
theorem dX11_factOf_67 : decode cX11_factOf 67 = .ok (.ireturn, 1) := by decide +kernel
theorem dX11_factOf_68 : decode cX11_factOf 68 = .ok (.aload_n 0, 1) := by decide +kernel
theorem dX11_factOf_69 : decode cX11_factOf 69 = .ok (.aload_n 0, 1) := by decide +kernel
theorem dX11_factOf_70 : decode cX11_factOf 70 = .ok (.getfield 13, 3) := by decide +kernel
theorem dX11_factOf_73 : decode cX11_factOf 73 = .ok (.iconst 4, 1) := by decide +kernel
theorem dX11_factOf_74 : decode cX11_factOf 74 = .ok (.iaload, 1) := by decide +kernel
theorem dX11_factOf_75 : decode cX11_factOf 75 = .ok (.invokevirtual 275, 3) := by decide +kernel
theorem dX11_factOf_78 : decode cX11_factOf 78 = .ok (.ireturn, 1) := by decide +kernel
theorem dX11_factOf_79 : decode cX11_factOf 79 = .ok (.aload_n 0, 1) := by decide +kernel
theorem dX11_factOf_80 : decode cX11_factOf 80 = .ok (.iload_n 3, 1) := by decide +kernel
theorem dX11_factOf_81 : decode cX11_factOf 81 = .ok (.iconst 3, 1) := by decide +kernel
theorem dX11_factOf_82 : decode cX11_factOf 82 = .ok (.invokevirtual 71, 3) := by decide +kernel
theorem dX11_factOf_85 : decode cX11_factOf 85 = .ok (.ireturn, 1) := by decide +kernel
theorem dX11_factOf_86 : decode cX11_factOf 86 = .ok (.aload_n 0, 1) := by decide +kernel
theorem dX11_factOf_87 : decode cX11_factOf 87 = .ok (.getfield 13, 3) := by decide +kernel
theorem dX11_factOf_90 : decode cX11_factOf 90 = .ok (.iconst 4, 1) := by decide +kernel
theorem dX11_factOf_91 : decode cX11_factOf 91 = .ok (.iaload, 1) := by decide +kernel
theorem dX11_factOf_92 : decode cX11_factOf 92 = .ok (.bipush 24, 2) := by decide +kernel
theorem dX11_factOf_94 : decode cX11_factOf 94 = .ok (.irem, 1) := by decide +kernel
theorem dX11_factOf_95 : decode cX11_factOf 95 = .ok (.ireturn, 1) := by decide +kernel
theorem dX11_factOf_96 : decode cX11_factOf 96 = .ok (.iconst 2, 1) := by decide +kernel
theorem dX11_factOf_97 : decode cX11_factOf 97 = .ok (.aload_n 0, 1) := by decide +kernel
theorem dX11_factOf_98 : decode cX11_factOf 98 = .ok (.aload_n 0, 1) := by decide +kernel
theorem dX11_factOf_99 : decode cX11_factOf 99 = .ok (.getfield 13, 3) := by decide +kernel
theorem dX11_factOf_102 : decode cX11_factOf 102 = .ok (.iconst 4, 1) := by decide +kernel
theorem dX11_factOf_103 : decode cX11_factOf 103 = .ok (.iaload, 1) := by decide +kernel
theorem dX11_factOf_104 : decode cX11_factOf 104 = .ok (.invokevirtual 275, 3) := by decide +kernel
theorem dX11_factOf_107 : decode cX11_factOf 107 = .ok (.imul, 1) := by decide +kernel
theorem dX11_factOf_108 : decode cX11_factOf 108 = .ok (.aload_n 0, 1) := by decide +kernel
theorem dX11_factOf_109 : decode cX11_factOf 109 = .ok (.getfield 13, 3) := by decide +kernel
theorem dX11_factOf_112 : decode cX11_factOf 112 = .ok (.iconst 5, 1) := by decide +kernel
theorem dX11_factOf_113 : decode cX11_factOf 113 = .ok (.iaload, 1) := by decide +kernel
theorem dX11_factOf_114 : decode cX11_factOf 114 = .ok (.if_icmp .lt 7, 3) := by decide +kernel
theorem dX11_factOf_117 : decode cX11_factOf 117 = .ok (.iconst 1, 1) := by decide +kernel
theorem dX11_factOf_118 : decode cX11_factOf 118 = .ok (.goto 4, 3) := by decide +kernel
theorem dX11_factOf_121 : decode cX11_factOf 121 = .ok (.iconst 0, 1) := by decide +kernel
theorem dX11_factOf_122 : decode cX11_factOf 122 = .ok (.ireturn, 1) := by decide +kernel
theorem dX11_factOf_123 : decode cX11_factOf 123 = .ok (.aload_n 0, 1) := by decide +kernel
theorem dX11_factOf_124 : decode cX11_factOf 124 = .ok (.iload_n 3, 1) := by decide +kernel
theorem dX11_factOf_125 : decode cX11_factOf 125 = .ok (.invokevirtual 308, 3) := by decide +kernel
theorem dX11_factOf_128 : decode cX11_factOf 128 = .ok (.ifCond .eq 7, 3) := by decide +kernel
theorem dX11_factOf_131 : decode cX11_factOf 131 = .ok (.iconst 1, 1) := by decide +kernel
theorem dX11_factOf_132 : decode cX11_factOf 132 = .ok (.goto 4, 3) := by decide +kernel
theorem dX11_factOf_135 : decode cX11_factOf 135 = .ok (.iconst 0, 1) := by decide +kernel
theorem dX11_factOf_136 : decode cX11_factOf 136 = .ok (.ireturn, 1) := by decide +kernel
theorem dX11_factOf_137 : decode cX11_factOf 137 = .ok (.iload_n 2, 1) := by decide +kernel
theorem dX11_factOf_138 : decode cX11_factOf 138 = .ok (.ireturn, 1) := by decide +kernel
theorem dX11_holdsLine_0 : decode cX11_holdsLine 0 = .ok (.iconst 0, 1) := by decide +kernel
theorem dX11_holdsLine_1 : decode cX11_holdsLine 1 = .ok (.istore_n 3, 1) := by decide +kernel
theorem dX11_holdsLine_2 : decode cX11_holdsLine 2 = .ok (.sipush 333, 3) := by decide +kernel
theorem dX11_holdsLine_5 : decode cX11_holdsLine 5 = .ok (.iconst 4, 1) := by decide +kernel
theorem dX11_holdsLine_6 : decode cX11_holdsLine 6 = .ok (.iload_n 1, 1) := by decide +kernel
theorem dX11_holdsLine_7 : decode cX11_holdsLine 7 = .ok (.imul, 1) := by decide +kernel
theorem dX11_holdsLine_8 : decode cX11_holdsLine 8 = .ok (.iadd, 1) := by decide +kernel
theorem dX11_holdsLine_9 : decode cX11_holdsLine 9 = .ok (.istore 4, 2) := by decide +kernel
theorem dX11_holdsLine_11 : decode cX11_holdsLine 11 = .ok (.aload_n 0, 1) := by decide +kernel
theorem dX11_holdsLine_12 : decode cX11_holdsLine 12 = .ok (.getfield 13, 3) := by decide +kernel
theorem dX11_holdsLine_15 : decode cX11_holdsLine 15 = .ok (.iload 4, 2) := by decide +kernel
theorem dX11_holdsLine_17 : decode cX11_holdsLine 17 = .ok (.iconst 2, 1) := by decide +kernel
theorem dX11_holdsLine_18 : decode cX11_holdsLine 18 = .ok (.iadd, 1) := by decide +kernel
theorem dX11_holdsLine_19 : decode cX11_holdsLine 19 = .ok (.iaload, 1) := by decide +kernel
theorem dX11_holdsLine_20 : decode cX11_holdsLine 20 = .ok (.istore 5, 2) := by decide +kernel
theorem dX11_holdsLine_22 : decode cX11_holdsLine 22 = .ok (.iload 5, 2) := by decide +kernel
theorem dX11_holdsLine_24 : decode cX11_holdsLine 24 = .ok (.aload_n 0, 1) := by decide +kernel
theorem dX11_holdsLine_25 : decode cX11_holdsLine 25 = .ok (.getfield 13, 3) := by decide +kernel
theorem dX11_holdsLine_28 : decode cX11_holdsLine 28 = .ok (.iload 4, 2) := by decide +kernel
theorem dX11_holdsLine_30 : decode cX11_holdsLine 30 = .ok (.iconst 3, 1) := by decide +kernel
theorem dX11_holdsLine_31 : decode cX11_holdsLine 31 = .ok (.iadd, 1) := by decide +kernel
theorem dX11_holdsLine_32 : decode cX11_holdsLine 32 = .ok (.iaload, 1) := by decide +kernel
theorem dX11_holdsLine_33 : decode cX11_holdsLine 33 = .ok (.if_icmp .ge 230, 3) := by decide +kernel
theorem dX11_holdsLine_36 : decode cX11_holdsLine 36 = .ok (.aload_n 0, 1) := by decide +kernel
theorem dX11_holdsLine_37 : decode cX11_holdsLine 37 = .ok (.getfield 13, 3) := by decide +kernel
theorem dX11_holdsLine_40 : decode cX11_holdsLine 40 = .ok (.sipush 381, 3) := by decide +kernel
theorem dX11_holdsLine_43 : decode cX11_holdsLine 43 = .ok (.iconst 2, 1) := by decide +kernel
theorem dX11_holdsLine_44 : decode cX11_holdsLine 44 = .ok (.iload 5, 2) := by decide +kernel
theorem dX11_holdsLine_46 : decode cX11_holdsLine 46 = .ok (.imul, 1) := by decide +kernel
theorem dX11_holdsLine_47 : decode cX11_holdsLine 47 = .ok (.iadd, 1) := by decide +kernel
theorem dX11_holdsLine_48 : decode cX11_holdsLine 48 = .ok (.iaload, 1) := by decide +kernel
theorem dX11_holdsLine_49 : decode cX11_holdsLine 49 = .ok (.istore 6, 2) := by decide +kernel
theorem dX11_holdsLine_51 : decode cX11_holdsLine 51 = .ok (.iload 6, 2) := by decide +kernel
theorem dX11_holdsLine_53 : decode cX11_holdsLine 53 = .ok (.bipush 8, 2) := by decide +kernel
theorem dX11_holdsLine_55 : decode cX11_holdsLine 55 = .ok (.if_icmp .gt 37, 3) := by decide +kernel
theorem dX11_holdsLine_58 : decode cX11_holdsLine 58 = .ok (.aload_n 0, 1) := by decide +kernel
theorem dX11_holdsLine_59 : decode cX11_holdsLine 59 = .ok (.getfield 39, 3) := by decide +kernel
theorem dX11_holdsLine_62 : decode cX11_holdsLine 62 = .ok (.iload_n 3, 1) := by decide +kernel
theorem dX11_holdsLine_63 : decode cX11_holdsLine 63 = .ok (.aload_n 0, 1) := by decide +kernel
theorem dX11_holdsLine_64 : decode cX11_holdsLine 64 = .ok (.iload 6, 2) := by decide +kernel
theorem dX11_holdsLine_66 : decode cX11_holdsLine 66 = .ok (.aload_n 0, 1) := by decide +kernel
theorem dX11_holdsLine_67 : decode cX11_holdsLine 67 = .ok (.getfield 13, 3) := by decide +kernel
theorem dX11_holdsLine_70 : decode cX11_holdsLine 70 = .ok (.sipush 381, 3) := by decide +kernel
theorem dX11_holdsLine_73 : decode cX11_holdsLine 73 = .ok (.iconst 2, 1) := by decide +kernel
theorem dX11_holdsLine_74 : decode cX11_holdsLine 74 = .ok (.iload 5, 2) := by decide +kernel
theorem dX11_holdsLine_76 : decode cX11_holdsLine 76 = .ok (.imul, 1) := by decide +kernel
theorem dX11_holdsLine_77 : decode cX11_holdsLine 77 = .ok (.iadd, 1) := by decide +kernel
theorem dX11_holdsLine_78 : decode cX11_holdsLine 78 = .ok (.iconst 1, 1) := by decide +kernel
theorem dX11_holdsLine_79 : decode cX11_holdsLine 79 = .ok (.iadd, 1) := by decide +kernel
theorem dX11_holdsLine_80 : decode cX11_holdsLine 80 = .ok (.iaload, 1) := by decide +kernel
theorem dX11_holdsLine_81 : decode cX11_holdsLine 81 = .ok (.iload_n 2, 1) := by decide +kernel
theorem dX11_holdsLine_82 : decode cX11_holdsLine 82 = .ok (.invokevirtual 311, 3) := by decide +kernel
theorem dX11_holdsLine_85 : decode cX11_holdsLine 85 = .ok (.iastore, 1) := by decide +kernel
theorem dX11_holdsLine_86 : decode cX11_holdsLine 86 = .ok (.iinc 3 1, 3) := by decide +kernel
theorem dX11_holdsLine_89 : decode cX11_holdsLine 89 = .ok (.goto 168, 3) := by decide +kernel
theorem dX11_holdsLine_92 : decode cX11_holdsLine 92 = .ok (.iload 6, 2) := by decide +kernel
theorem dX11_holdsLine_94 : decode cX11_holdsLine 94 = .ok (.bipush 12, 2) := by decide +kernel
theorem dX11_holdsLine_96 : decode cX11_holdsLine 96 = .ok (.if_icmp .ne 24, 3) := by decide +kernel
theorem dX11_holdsLine_99 : decode cX11_holdsLine 99 = .ok (.aload_n 0, 1) := by decide +kernel
theorem dX11_holdsLine_100 : decode cX11_holdsLine 100 = .ok (.getfield 39, 3) := by decide +kernel
theorem dX11_holdsLine_103 : decode cX11_holdsLine 103 = .ok (.iload_n 3, 1) := by decide +kernel
theorem dX11_holdsLine_104 : decode cX11_holdsLine 104 = .ok (.iconst 1, 1) := by decide +kernel
theorem dX11_holdsLine_105 : decode cX11_holdsLine 105 = .ok (.isub, 1) := by decide +kernel
theorem dX11_holdsLine_106 : decode cX11_holdsLine 106 = .ok (.iconst 1, 1) := by decide +kernel
theorem dX11_holdsLine_107 : decode cX11_holdsLine 107 = .ok (.aload_n 0, 1) := by decide +kernel
theorem dX11_holdsLine_108 : decode cX11_holdsLine 108 = .ok (.getfield 39, 3) := by decide +kernel
theorem dX11_holdsLine_111 : decode cX11_holdsLine 111 = .ok (.iload_n 3, 1) := by decide +kernel
theorem dX11_holdsLine_112 : decode cX11_holdsLine 112 = .ok (.iconst 1, 1) := by decide +kernel
theorem dX11_holdsLine_113 : decode cX11_holdsLine 113 = .ok (.isub, 1) := by decide +kernel
theorem dX11_holdsLine_114 : decode cX11_holdsLine 114 = .ok (.iaload, 1) := by decide +kernel
theorem dX11_holdsLine_115 : decode cX11_holdsLine 115 = .ok (.isub, 1) := by decide +kernel
theorem dX11_holdsLine_116 : decode cX11_holdsLine 116 = .ok (.iastore, 1) := by decide +kernel
theorem dX11_holdsLine_117 : decode cX11_holdsLine 117 = .ok (.goto 140, 3) := by decide +kernel
theorem dX11_holdsLine_120 : decode cX11_holdsLine 120 = .ok (.iinc 3 (-1), 3) := by decide +kernel
theorem dX11_holdsLine_123 : decode cX11_holdsLine 123 = .ok (.aload_n 0, 1) := by decide +kernel
theorem dX11_holdsLine_124 : decode cX11_holdsLine 124 = .ok (.getfield 39, 3) := by decide +kernel
theorem dX11_holdsLine_127 : decode cX11_holdsLine 127 = .ok (.iload_n 3, 1) := by decide +kernel
theorem dX11_holdsLine_128 : decode cX11_holdsLine 128 = .ok (.iconst 1, 1) := by decide +kernel
theorem dX11_holdsLine_129 : decode cX11_holdsLine 129 = .ok (.isub, 1) := by decide +kernel
theorem dX11_holdsLine_130 : decode cX11_holdsLine 130 = .ok (.iaload, 1) := by decide +kernel
theorem dX11_holdsLine_131 : decode cX11_holdsLine 131 = .ok (.istore 7, 2) := by decide +kernel
theorem dX11_holdsLine_133 : decode cX11_holdsLine 133 = .ok (.aload_n 0, 1) := by decide +kernel
theorem dX11_holdsLine_134 : decode cX11_holdsLine 134 = .ok (.getfield 39, 3) := by decide +kernel
theorem dX11_holdsLine_137 : decode cX11_holdsLine 137 = .ok (.iload_n 3, 1) := by decide +kernel
theorem dX11_holdsLine_138 : decode cX11_holdsLine 138 = .ok (.iaload, 1) := by decide +kernel
theorem dX11_holdsLine_139 : decode cX11_holdsLine 139 = .ok (.istore 8, 2) := by decide +kernel
theorem dX11_holdsLine_141 : decode cX11_holdsLine 141 = .ok (.iload 6, 2) := by decide +kernel
theorem dX11_holdsLine_143 : decode cX11_holdsLine 143 = .ok (.bipush 10, 2) := by decide +kernel
theorem dX11_holdsLine_145 : decode cX11_holdsLine 145 = .ok (.if_icmp .ne 18, 3) := by decide +kernel
theorem dX11_holdsLine_148 : decode cX11_holdsLine 148 = .ok (.iload 7, 2) := by decide +kernel
theorem dX11_holdsLine_150 : decode cX11_holdsLine 150 = .ok (.iload 8, 2) := by decide +kernel
theorem dX11_holdsLine_152 : decode cX11_holdsLine 152 = .ok (.if_icmp .ge 7, 3) := by decide +kernel
theorem dX11_holdsLine_155 : decode cX11_holdsLine 155 = .ok (.iconst 1, 1) := by decide +kernel
theorem dX11_holdsLine_156 : decode cX11_holdsLine 156 = .ok (.goto 66, 3) := by decide +kernel
theorem dX11_holdsLine_159 : decode cX11_holdsLine 159 = .ok (.iconst 0, 1) := by decide +kernel
theorem dX11_holdsLine_160 : decode cX11_holdsLine 160 = .ok (.goto 62, 3) := by decide +kernel
theorem dX11_holdsLine_163 : decode cX11_holdsLine 163 = .ok (.iload 6, 2) := by decide +kernel
theorem dX11_holdsLine_165 : decode cX11_holdsLine 165 = .ok (.bipush 11, 2) := by decide +kernel
theorem dX11_holdsLine_167 : decode cX11_holdsLine 167 = .ok (.if_icmp .ne 18, 3) := by decide +kernel
theorem dX11_holdsLine_170 : decode cX11_holdsLine 170 = .ok (.iload 7, 2) := by decide +kernel
theorem dX11_holdsLine_172 : decode cX11_holdsLine 172 = .ok (.iload 8, 2) := by decide +kernel
theorem dX11_holdsLine_174 : decode cX11_holdsLine 174 = .ok (.if_icmp .le 7, 3) := by decide +kernel
theorem dX11_holdsLine_177 : decode cX11_holdsLine 177 = .ok (.iconst 1, 1) := by decide +kernel
theorem dX11_holdsLine_178 : decode cX11_holdsLine 178 = .ok (.goto 44, 3) := by decide +kernel
theorem dX11_holdsLine_181 : decode cX11_holdsLine 181 = .ok (.iconst 0, 1) := by decide +kernel
theorem dX11_holdsLine_182 : decode cX11_holdsLine 182 = .ok (.goto 40, 3) := by decide +kernel
theorem dX11_holdsLine_185 : decode cX11_holdsLine 185 = .ok (.iload 6, 2) := by decide +kernel
theorem dX11_holdsLine_187 : decode cX11_holdsLine 187 = .ok (.bipush 13, 2) := by decide +kernel
theorem dX11_holdsLine_189 : decode cX11_holdsLine 189 = .ok (.if_icmp .ne 20, 3) := by decide +kernel
theorem dX11_holdsLine_192 : decode cX11_holdsLine 192 = .ok (.iload 7, 2) := by decide +kernel
theorem dX11_holdsLine_194 : decode cX11_holdsLine 194 = .ok (.iload 8, 2) := by decide +kernel
theorem dX11_holdsLine_196 : decode cX11_holdsLine 196 = .ok (.iadd, 1) := by decide +kernel
theorem dX11_holdsLine_197 : decode cX11_holdsLine 197 = .ok (.iconst 2, 1) := by decide +kernel
theorem dX11_holdsLine_198 : decode cX11_holdsLine 198 = .ok (.if_icmp .ne 7, 3) := by decide +kernel
theorem dX11_holdsLine_201 : decode cX11_holdsLine 201 = .ok (.iconst 1, 1) := by decide +kernel
theorem dX11_holdsLine_202 : decode cX11_holdsLine 202 = .ok (.goto 20, 3) := by decide +kernel
theorem dX11_holdsLine_205 : decode cX11_holdsLine 205 = .ok (.iconst 0, 1) := by decide +kernel
theorem dX11_holdsLine_206 : decode cX11_holdsLine 206 = .ok (.goto 16, 3) := by decide +kernel
theorem dX11_holdsLine_209 : decode cX11_holdsLine 209 = .ok (.iload 7, 2) := by decide +kernel
theorem dX11_holdsLine_211 : decode cX11_holdsLine 211 = .ok (.iload 8, 2) := by decide +kernel
theorem dX11_holdsLine_213 : decode cX11_holdsLine 213 = .ok (.iadd, 1) := by decide +kernel
theorem dX11_holdsLine_214 : decode cX11_holdsLine 214 = .ok (.ifCond .le 7, 3) := by decide +kernel
theorem dX11_holdsLine_217 : decode cX11_holdsLine 217 = .ok (.iconst 1, 1) := by decide +kernel
theorem dX11_holdsLine_218 : decode cX11_holdsLine 218 = .ok (.goto 4, 3) := by decide +kernel
theorem dX11_holdsLine_221 : decode cX11_holdsLine 221 = .ok (.iconst 0, 1) := by decide +kernel
theorem dX11_holdsLine_222 : decode cX11_holdsLine 222 = .ok (.istore 9, 2) := by decide +kernel
theorem dX11_holdsLine_224 : decode cX11_holdsLine 224 = .ok (.aload_n 0, 1) := by decide +kernel
theorem dX11_holdsLine_225 : decode cX11_holdsLine 225 = .ok (.getfield 39, 3) := by decide +kernel
theorem dX11_holdsLine_228 : decode cX11_holdsLine 228 = .ok (.iload_n 3, 1) := by decide +kernel
theorem dX11_holdsLine_229 : decode cX11_holdsLine 229 = .ok (.iconst 1, 1) := by decide +kernel
theorem dX11_holdsLine_230 : decode cX11_holdsLine 230 = .ok (.isub, 1) := by decide +kernel
theorem dX11_holdsLine_231 : decode cX11_holdsLine 231 = .ok (.iload 6, 2) := by decide +kernel
theorem dX11_holdsLine_233 : decode cX11_holdsLine 233 = .ok (.bipush 9, 2) := by decide +kernel
theorem dX11_holdsLine_235 : decode cX11_holdsLine 235 = .ok (.if_icmp .ne 11, 3) := by decide +kernel
theorem dX11_holdsLine_238 : decode cX11_holdsLine 238 = .ok (.iload 7, 2) := by decide +kernel
theorem dX11_holdsLine_240 : decode cX11_holdsLine 240 = .ok (.iload 8, 2) := by decide +kernel
theorem dX11_holdsLine_242 : decode cX11_holdsLine 242 = .ok (.iadd, 1) := by decide +kernel
theorem dX11_holdsLine_243 : decode cX11_holdsLine 243 = .ok (.goto 13, 3) := by decide +kernel
theorem dX11_holdsLine_246 : decode cX11_holdsLine 246 = .ok (.iload 9, 2) := by decide +kernel
theorem dX11_holdsLine_248 : decode cX11_holdsLine 248 = .ok (.ifCond .eq 7, 3) := by decide +kernel
theorem dX11_holdsLine_251 : decode cX11_holdsLine 251 = .ok (.iconst 1, 1) := by decide +kernel
theorem dX11_holdsLine_252 : decode cX11_holdsLine 252 = .ok (.goto 4, 3) := by decide +kernel
theorem dX11_holdsLine_255 : decode cX11_holdsLine 255 = .ok (.iconst 0, 1) := by decide +kernel
theorem dX11_holdsLine_256 : decode cX11_holdsLine 256 = .ok (.iastore, 1) := by decide +kernel
theorem dX11_holdsLine_257 : decode cX11_holdsLine 257 = .ok (.iinc 5 1, 3) := by decide +kernel
theorem dX11_holdsLine_260 : decode cX11_holdsLine 260 = .ok (.goto (-238), 3) := by decide +kernel
theorem dX11_holdsLine_263 : decode cX11_holdsLine 263 = .ok (.iload_n 3, 1) := by decide +kernel
theorem dX11_holdsLine_264 : decode cX11_holdsLine 264 = .ok (.ifCond .eq 13, 3) := by decide +kernel
theorem dX11_holdsLine_267 : decode cX11_holdsLine 267 = .ok (.aload_n 0, 1) := by decide +kernel
theorem dX11_holdsLine_268 : decode cX11_holdsLine 268 = .ok (.getfield 39, 3) := by decide +kernel
theorem dX11_holdsLine_271 : decode cX11_holdsLine 271 = .ok (.iconst 0, 1) := by decide +kernel
theorem dX11_holdsLine_272 : decode cX11_holdsLine 272 = .ok (.iaload, 1) := by decide +kernel
theorem dX11_holdsLine_273 : decode cX11_holdsLine 273 = .ok (.iconst 1, 1) := by decide +kernel
theorem dX11_holdsLine_274 : decode cX11_holdsLine 274 = .ok (.if_icmp .ne 7, 3) := by decide +kernel
theorem dX11_holdsLine_277 : decode cX11_holdsLine 277 = .ok (.iconst 1, 1) := by decide +kernel
theorem dX11_holdsLine_278 : decode cX11_holdsLine 278 = .ok (.goto 4, 3) := by decide +kernel
theorem dX11_holdsLine_281 : decode cX11_holdsLine 281 = .ok (.iconst 0, 1) := by decide +kernel
theorem dX11_holdsLine_282 : decode cX11_holdsLine 282 = .ok (.ireturn, 1) := by decide +kernel
theorem dX11_sumOf_0 : decode cX11_sumOf 0 = .ok (.iconst 0, 1) := by decide +kernel
theorem dX11_sumOf_1 : decode cX11_sumOf 1 = .ok (.istore_n 3, 1) := by decide +kernel
theorem dX11_sumOf_2 : decode cX11_sumOf 2 = .ok (.iconst 0, 1) := by decide +kernel
theorem dX11_sumOf_3 : decode cX11_sumOf 3 = .ok (.istore 4, 2) := by decide +kernel
theorem dX11_sumOf_5 : decode cX11_sumOf 5 = .ok (.aload_n 0, 1) := by decide +kernel
theorem dX11_sumOf_6 : decode cX11_sumOf 6 = .ok (.getfield 13, 3) := by decide +kernel
theorem dX11_sumOf_9 : decode cX11_sumOf 9 = .ok (.iconst 3, 1) := by decide +kernel
theorem dX11_sumOf_10 : decode cX11_sumOf 10 = .ok (.iaload, 1) := by decide +kernel
theorem dX11_sumOf_11 : decode cX11_sumOf 11 = .ok (.iconst 1, 1) := by decide +kernel
theorem dX11_sumOf_12 : decode cX11_sumOf 12 = .ok (.if_icmp .ne 67, 3) := by decide +kernel
theorem dX11_sumOf_15 : decode cX11_sumOf 15 = .ok (.iload 4, 2) := by decide +kernel
theorem dX11_sumOf_17 : decode cX11_sumOf 17 = .ok (.aload_n 0, 1) := by decide +kernel
theorem dX11_sumOf_18 : decode cX11_sumOf 18 = .ok (.getfield 13, 3) := by decide +kernel
theorem dX11_sumOf_21 : decode cX11_sumOf 21 = .ok (.sipush 332, 3) := by decide +kernel
theorem dX11_sumOf_24 : decode cX11_sumOf 24 = .ok (.iaload, 1) := by decide +kernel
theorem dX11_sumOf_25 : decode cX11_sumOf 25 = .ok (.if_icmp .ge 54, 3) := by decide +kernel
theorem dX11_sumOf_28 : decode cX11_sumOf 28 = .ok (.aload_n 0, 1) := by decide +kernel
theorem dX11_sumOf_29 : decode cX11_sumOf 29 = .ok (.getfield 13, 3) := by decide +kernel
theorem dX11_sumOf_32 : decode cX11_sumOf 32 = .ok (.sipush 333, 3) := by decide +kernel
theorem dX11_sumOf_35 : decode cX11_sumOf 35 = .ok (.iconst 4, 1) := by decide +kernel
theorem dX11_sumOf_36 : decode cX11_sumOf 36 = .ok (.iload 4, 2) := by decide +kernel
theorem dX11_sumOf_38 : decode cX11_sumOf 38 = .ok (.imul, 1) := by decide +kernel
theorem dX11_sumOf_39 : decode cX11_sumOf 39 = .ok (.iadd, 1) := by decide +kernel
theorem dX11_sumOf_40 : decode cX11_sumOf 40 = .ok (.iaload, 1) := by decide +kernel
theorem dX11_sumOf_41 : decode cX11_sumOf 41 = .ok (.iload_n 1, 1) := by decide +kernel
theorem dX11_sumOf_42 : decode cX11_sumOf 42 = .ok (.if_icmp .ne 31, 3) := by decide +kernel
theorem dX11_sumOf_45 : decode cX11_sumOf 45 = .ok (.aload_n 0, 1) := by decide +kernel
theorem dX11_sumOf_46 : decode cX11_sumOf 46 = .ok (.iload 4, 2) := by decide +kernel
theorem dX11_sumOf_48 : decode cX11_sumOf 48 = .ok (.iload_n 2, 1) := by decide +kernel
theorem dX11_sumOf_49 : decode cX11_sumOf 49 = .ok (.invokevirtual 315, 3) := by decide +kernel
theorem dX11_sumOf_52 : decode cX11_sumOf 52 = .ok (.ifCond .eq 21, 3) := by decide +kernel
theorem dX11_sumOf_55 : decode cX11_sumOf 55 = .ok (.iload_n 3, 1) := by decide +kernel
theorem dX11_sumOf_56 : decode cX11_sumOf 56 = .ok (.aload_n 0, 1) := by decide +kernel
theorem dX11_sumOf_57 : decode cX11_sumOf 57 = .ok (.getfield 13, 3) := by decide +kernel
theorem dX11_sumOf_60 : decode cX11_sumOf 60 = .ok (.sipush 333, 3) := by decide +kernel
theorem dX11_sumOf_63 : decode cX11_sumOf 63 = .ok (.iconst 4, 1) := by decide +kernel
theorem dX11_sumOf_64 : decode cX11_sumOf 64 = .ok (.iload 4, 2) := by decide +kernel
theorem dX11_sumOf_66 : decode cX11_sumOf 66 = .ok (.imul, 1) := by decide +kernel
theorem dX11_sumOf_67 : decode cX11_sumOf 67 = .ok (.iadd, 1) := by decide +kernel
theorem dX11_sumOf_68 : decode cX11_sumOf 68 = .ok (.iconst 1, 1) := by decide +kernel
theorem dX11_sumOf_69 : decode cX11_sumOf 69 = .ok (.iadd, 1) := by decide +kernel
theorem dX11_sumOf_70 : decode cX11_sumOf 70 = .ok (.iaload, 1) := by decide +kernel
theorem dX11_sumOf_71 : decode cX11_sumOf 71 = .ok (.iadd, 1) := by decide +kernel
theorem dX11_sumOf_72 : decode cX11_sumOf 72 = .ok (.istore_n 3, 1) := by decide +kernel
theorem dX11_sumOf_73 : decode cX11_sumOf 73 = .ok (.iinc 4 1, 3) := by decide +kernel
theorem dX11_sumOf_76 : decode cX11_sumOf 76 = .ok (.goto (-71), 3) := by decide +kernel
theorem dX11_sumOf_79 : decode cX11_sumOf 79 = .ok (.iload_n 3, 1) := by decide +kernel
theorem dX11_sumOf_80 : decode cX11_sumOf 80 = .ok (.ireturn, 1) := by decide +kernel
theorem dX11_wadesBy_0 : decode cX11_wadesBy 0 = .ok (.iconst 1, 1) := by decide +kernel
theorem dX11_wadesBy_1 : decode cX11_wadesBy 1 = .ok (.aload_n 0, 1) := by decide +kernel
theorem dX11_wadesBy_2 : decode cX11_wadesBy 2 = .ok (.iconst 0, 1) := by decide +kernel
theorem dX11_wadesBy_3 : decode cX11_wadesBy 3 = .ok (.iload_n 1, 1) := by decide +kernel
theorem dX11_wadesBy_4 : decode cX11_wadesBy 4 = .ok (.invokevirtual 318, 3) := by decide +kernel
theorem dX11_wadesBy_7 : decode cX11_wadesBy 7 = .ok (.iadd, 1) := by decide +kernel
theorem dX11_wadesBy_8 : decode cX11_wadesBy 8 = .ok (.ireturn, 1) := by decide +kernel
theorem dX11_doesWait_0 : decode cX11_doesWait 0 = .ok (.aload_n 0, 1) := by decide +kernel
theorem dX11_doesWait_1 : decode cX11_doesWait 1 = .ok (.iconst 1, 1) := by decide +kernel
theorem dX11_doesWait_2 : decode cX11_doesWait 2 = .ok (.iload_n 1, 1) := by decide +kernel
theorem dX11_doesWait_3 : decode cX11_doesWait 3 = .ok (.invokevirtual 318, 3) := by decide +kernel
theorem dX11_doesWait_6 : decode cX11_doesWait 6 = .ok (.ifCond .le 7, 3) := by decide +kernel
theorem dX11_doesWait_9 : decode cX11_doesWait 9 = .ok (.iconst 1, 1) := by decide +kernel
theorem dX11_doesWait_10 : decode cX11_doesWait 10 = .ok (.goto 4, 3) := by decide +kernel
theorem dX11_doesWait_13 : decode cX11_doesWait 13 = .ok (.iconst 0, 1) := by decide +kernel
theorem dX11_doesWait_14 : decode cX11_doesWait 14 = .ok (.ireturn, 1) := by decide +kernel
theorem dX11_monk_0 : decode cX11_monk 0 = .ok (.aload_n 0, 1) := by decide +kernel
theorem dX11_monk_1 : decode cX11_monk 1 = .ok (.iconst 0, 1) := by decide +kernel
theorem dX11_monk_2 : decode cX11_monk 2 = .ok (.putfield 3, 3) := by decide +kernel
theorem dX11_monk_5 : decode cX11_monk 5 = .ok (.aload_n 0, 1) := by decide +kernel
theorem dX11_monk_6 : decode cX11_monk 6 = .ok (.aload_n 0, 1) := by decide +kernel
theorem dX11_monk_7 : decode cX11_monk 7 = .ok (.iload_n 1, 1) := by decide +kernel
theorem dX11_monk_8 : decode cX11_monk 8 = .ok (.invokevirtual 321, 3) := by decide +kernel
theorem dX11_monk_11 : decode cX11_monk 11 = .ok (.iconst 1, 1) := by decide +kernel
theorem dX11_monk_12 : decode cX11_monk 12 = .ok (.invokevirtual 266, 3) := by decide +kernel
theorem dX11_monk_15 : decode cX11_monk 15 = .ok (.ifCond .ne 26, 3) := by decide +kernel
theorem dX11_monk_18 : decode cX11_monk 18 = .ok (.aload_n 0, 1) := by decide +kernel
theorem dX11_monk_19 : decode cX11_monk 19 = .ok (.iload_n 2, 1) := by decide +kernel
theorem dX11_monk_20 : decode cX11_monk 20 = .ok (.iconst 0, 1) := by decide +kernel
theorem dX11_monk_21 : decode cX11_monk 21 = .ok (.bipush 7, 2) := by decide +kernel
theorem dX11_monk_23 : decode cX11_monk 23 = .ok (.invokestatic 84, 3) := by decide +kernel
theorem dX11_monk_26 : decode cX11_monk 26 = .ok (.ifCond .ne 7, 3) := by decide +kernel
theorem dX11_monk_29 : decode cX11_monk 29 = .ok (.iconst 1, 1) := by decide +kernel
theorem dX11_monk_30 : decode cX11_monk 30 = .ok (.goto 4, 3) := by decide +kernel
theorem dX11_monk_33 : decode cX11_monk 33 = .ok (.iconst 0, 1) := by decide +kernel
theorem dX11_monk_34 : decode cX11_monk 34 = .ok (.iconst 2, 1) := by decide +kernel
theorem dX11_monk_35 : decode cX11_monk 35 = .ok (.invokevirtual 266, 3) := by decide +kernel
theorem dX11_monk_38 : decode cX11_monk 38 = .ok (.ifCond .eq 5, 3) := by decide +kernel
theorem dX11_monk_41 : decode cX11_monk 41 = .ok (.iconst 0, 1) := by decide +kernel
theorem dX11_monk_42 : decode cX11_monk 42 = .ok (.ireturn, 1) := by decide +kernel
theorem dX11_monk_43 : decode cX11_monk 43 = .ok (.iload_n 2, 1) := by decide +kernel
theorem dX11_monk_44 : decode cX11_monk 44 = .ok (.tableswitch 55 5 7 #[28, 34, 48], 28) := by decide +kernel
theorem dX11_monk_72 : decode cX11_monk 72 = .ok (.aload_n 0, 1) := by decide +kernel
theorem dX11_monk_73 : decode cX11_monk 73 = .ok (.iload_n 1, 1) := by decide +kernel
theorem dX11_monk_74 : decode cX11_monk 74 = .ok (.invokevirtual 324, 3) := by decide +kernel
theorem dX11_monk_77 : decode cX11_monk 77 = .ok (.ireturn, 1) := by decide +kernel
theorem dX11_monk_78 : decode cX11_monk 78 = .ok (.aload_n 0, 1) := by decide +kernel
theorem dX11_monk_79 : decode cX11_monk 79 = .ok (.iload_n 1, 1) := by decide +kernel
theorem dX11_monk_80 : decode cX11_monk 80 = .ok (.invokevirtual 327, 3) := by decide +kernel
theorem dX11_monk_83 : decode cX11_monk 83 = .ok (.ifCond .eq 7, 3) := by decide +kernel
theorem dX11_monk_86 : decode cX11_monk 86 = .ok (.iconst 1, 1) := by decide +kernel
theorem dX11_monk_87 : decode cX11_monk 87 = .ok (.goto 4, 3) := by decide +kernel
theorem dX11_monk_90 : decode cX11_monk 90 = .ok (.iconst 0, 1) := by decide +kernel
theorem dX11_monk_91 : decode cX11_monk 91 = .ok (.ireturn, 1) := by decide +kernel
theorem dX11_monk_92 : decode cX11_monk 92 = .ok (.aload_n 0, 1) := by decide +kernel
theorem dX11_monk_93 : decode cX11_monk 93 = .ok (.iconst 2, 1) := by decide +kernel
theorem dX11_monk_94 : decode cX11_monk 94 = .ok (.iload_n 1, 1) := by decide +kernel
theorem dX11_monk_95 : decode cX11_monk 95 = .ok (.invokevirtual 318, 3) := by decide +kernel
theorem dX11_monk_98 : decode cX11_monk 98 = .ok (.ireturn, 1) := by decide +kernel
theorem dX11_monk_99 : decode cX11_monk 99 = .ok (.aload_n 0, 1) := by decide +kernel
theorem dX11_monk_100 : decode cX11_monk 100 = .ok (.iload_n 1, 1) := by decide +kernel
theorem dX11_monk_101 : decode cX11_monk 101 = .ok (.iload_n 2, 1) := by decide +kernel
theorem dX11_monk_102 : decode cX11_monk 102 = .ok (.invokevirtual 71, 3) := by decide +kernel
theorem dX11_monk_105 : decode cX11_monk 105 = .ok (.ireturn, 1) := by decide +kernel
theorem dX11_duty_0 : decode cX11_duty 0 = .ok (.aload_n 0, 1) := by decide +kernel
theorem dX11_duty_1 : decode cX11_duty 1 = .ok (.iconst 0, 1) := by decide +kernel
theorem dX11_duty_2 : decode cX11_duty 2 = .ok (.putfield 3, 3) := by decide +kernel
theorem dX11_duty_5 : decode cX11_duty 5 = .ok (.aload_n 0, 1) := by decide +kernel
theorem dX11_duty_6 : decode cX11_duty 6 = .ok (.aload_n 0, 1) := by decide +kernel
theorem dX11_duty_7 : decode cX11_duty 7 = .ok (.iload_n 1, 1) := by decide +kernel
theorem dX11_duty_8 : decode cX11_duty 8 = .ok (.invokevirtual 330, 3) := by decide +kernel
theorem dX11_duty_11 : decode cX11_duty 11 = .ok (.iconst 1, 1) := by decide +kernel
theorem dX11_duty_12 : decode cX11_duty 12 = .ok (.invokevirtual 266, 3) := by decide +kernel
theorem dX11_duty_15 : decode cX11_duty 15 = .ok (.ifCond .ne 25, 3) := by decide +kernel
theorem dX11_duty_18 : decode cX11_duty 18 = .ok (.aload_n 0, 1) := by decide +kernel
theorem dX11_duty_19 : decode cX11_duty 19 = .ok (.iload_n 2, 1) := by decide +kernel
theorem dX11_duty_20 : decode cX11_duty 20 = .ok (.iconst 0, 1) := by decide +kernel
theorem dX11_duty_21 : decode cX11_duty 21 = .ok (.iconst 3, 1) := by decide +kernel
theorem dX11_duty_22 : decode cX11_duty 22 = .ok (.invokestatic 84, 3) := by decide +kernel
theorem dX11_duty_25 : decode cX11_duty 25 = .ok (.ifCond .ne 7, 3) := by decide +kernel
theorem dX11_duty_28 : decode cX11_duty 28 = .ok (.iconst 1, 1) := by decide +kernel
theorem dX11_duty_29 : decode cX11_duty 29 = .ok (.goto 4, 3) := by decide +kernel
theorem dX11_duty_32 : decode cX11_duty 32 = .ok (.iconst 0, 1) := by decide +kernel
theorem dX11_duty_33 : decode cX11_duty 33 = .ok (.iconst 2, 1) := by decide +kernel
theorem dX11_duty_34 : decode cX11_duty 34 = .ok (.invokevirtual 266, 3) := by decide +kernel
theorem dX11_duty_37 : decode cX11_duty 37 = .ok (.ifCond .eq 7, 3) := by decide +kernel
theorem dX11_duty_40 : decode cX11_duty 40 = .ok (.iconst 0, 1) := by decide +kernel
theorem dX11_duty_41 : decode cX11_duty 41 = .ok (.goto 9, 3) := by decide +kernel
theorem dX11_duty_44 : decode cX11_duty 44 = .ok (.aload_n 0, 1) := by decide +kernel
theorem dX11_duty_45 : decode cX11_duty 45 = .ok (.iload_n 1, 1) := by decide +kernel
theorem dX11_duty_46 : decode cX11_duty 46 = .ok (.iload_n 2, 1) := by decide +kernel
theorem dX11_duty_47 : decode cX11_duty 47 = .ok (.invokevirtual 77, 3) := by decide +kernel
theorem dX11_duty_50 : decode cX11_duty 50 = .ok (.ireturn, 1) := by decide +kernel
