-- decode rows (made by wip/whole/gen/names.py)
theorem dX11_goal_0 : decode cX11_goal 0 = .ok (.aload_n 0, 1) := by decide +kernel
theorem dX11_goal_1 : decode cX11_goal 1 = .ok (.iconst 0, 1) := by decide +kernel
theorem dX11_goal_2 : decode cX11_goal 2 = .ok (.putfield 3, 3) := by decide +kernel
theorem dX11_goal_5 : decode cX11_goal 5 = .ok (.aload_n 0, 1) := by decide +kernel
theorem dX11_goal_6 : decode cX11_goal 6 = .ok (.aload_n 0, 1) := by decide +kernel
theorem dX11_goal_7 : decode cX11_goal 7 = .ok (.iload_n 1, 1) := by decide +kernel
theorem dX11_goal_8 : decode cX11_goal 8 = .ok (.invokevirtual 321, 3) := by decide +kernel
theorem dX11_goal_11 : decode cX11_goal 11 = .ok (.ifCond .ne 10, 3) := by decide +kernel
theorem dX11_goal_14 : decode cX11_goal 14 = .ok (.iload_n 2, 1) := by decide +kernel
theorem dX11_goal_15 : decode cX11_goal 15 = .ok (.invokestatic 293, 3) := by decide +kernel
theorem dX11_goal_18 : decode cX11_goal 18 = .ok (.ifCond .eq 7, 3) := by decide +kernel
theorem dX11_goal_21 : decode cX11_goal 21 = .ok (.iconst 1, 1) := by decide +kernel
theorem dX11_goal_22 : decode cX11_goal 22 = .ok (.goto 4, 3) := by decide +kernel
theorem dX11_goal_25 : decode cX11_goal 25 = .ok (.iconst 0, 1) := by decide +kernel
theorem dX11_goal_26 : decode cX11_goal 26 = .ok (.iconst 1, 1) := by decide +kernel
theorem dX11_goal_27 : decode cX11_goal 27 = .ok (.invokevirtual 266, 3) := by decide +kernel
theorem dX11_goal_30 : decode cX11_goal 30 = .ok (.ifCond .ne 16, 3) := by decide +kernel
theorem dX11_goal_33 : decode cX11_goal 33 = .ok (.aload_n 0, 1) := by decide +kernel
theorem dX11_goal_34 : decode cX11_goal 34 = .ok (.aload_n 0, 1) := by decide +kernel
theorem dX11_goal_35 : decode cX11_goal 35 = .ok (.iload_n 1, 1) := by decide +kernel
theorem dX11_goal_36 : decode cX11_goal 36 = .ok (.invokevirtual 333, 3) := by decide +kernel
theorem dX11_goal_39 : decode cX11_goal 39 = .ok (.iconst 2, 1) := by decide +kernel
theorem dX11_goal_40 : decode cX11_goal 40 = .ok (.invokevirtual 266, 3) := by decide +kernel
theorem dX11_goal_43 : decode cX11_goal 43 = .ok (.ifCond .eq 5, 3) := by decide +kernel
theorem dX11_goal_46 : decode cX11_goal 46 = .ok (.iconst 0, 1) := by decide +kernel
theorem dX11_goal_47 : decode cX11_goal 47 = .ok (.ireturn, 1) := by decide +kernel
theorem dX11_goal_48 : decode cX11_goal 48 = .ok (.aload_n 0, 1) := by decide +kernel
theorem dX11_goal_49 : decode cX11_goal 49 = .ok (.invokevirtual 336, 3) := by decide +kernel
theorem dX11_goal_52 : decode cX11_goal 52 = .ok (.aload_n 0, 1) := by decide +kernel
theorem dX11_goal_53 : decode cX11_goal 53 = .ok (.iload_n 1, 1) := by decide +kernel
theorem dX11_goal_54 : decode cX11_goal 54 = .ok (.iconst 1, 1) := by decide +kernel
theorem dX11_goal_55 : decode cX11_goal 55 = .ok (.invokevirtual 71, 3) := by decide +kernel
theorem dX11_goal_58 : decode cX11_goal 58 = .ok (.istore_n 3, 1) := by decide +kernel
theorem dX11_goal_59 : decode cX11_goal 59 = .ok (.aload_n 0, 1) := by decide +kernel
theorem dX11_goal_60 : decode cX11_goal 60 = .ok (.getfield 13, 3) := by decide +kernel
theorem dX11_goal_63 : decode cX11_goal 63 = .ok (.iload_n 1, 1) := by decide +kernel
theorem dX11_goal_64 : decode cX11_goal 64 = .ok (.iconst 1, 1) := by decide +kernel
theorem dX11_goal_65 : decode cX11_goal 65 = .ok (.invokestatic 67, 3) := by decide +kernel
theorem dX11_goal_68 : decode cX11_goal 68 = .ok (.iload_n 2, 1) := by decide +kernel
theorem dX11_goal_69 : decode cX11_goal 69 = .ok (.iastore, 1) := by decide +kernel
theorem dX11_goal_70 : decode cX11_goal 70 = .ok (.iload_n 3, 1) := by decide +kernel
theorem dX11_goal_71 : decode cX11_goal 71 = .ok (.ireturn, 1) := by decide +kernel
theorem dX11_rest_0 : decode cX11_rest 0 = .ok (.aload_n 0, 1) := by decide +kernel
theorem dX11_rest_1 : decode cX11_rest 1 = .ok (.iconst 0, 1) := by decide +kernel
theorem dX11_rest_2 : decode cX11_rest 2 = .ok (.putfield 3, 3) := by decide +kernel
theorem dX11_rest_5 : decode cX11_rest 5 = .ok (.aload_n 0, 1) := by decide +kernel
theorem dX11_rest_6 : decode cX11_rest 6 = .ok (.aload_n 0, 1) := by decide +kernel
theorem dX11_rest_7 : decode cX11_rest 7 = .ok (.iload_n 1, 1) := by decide +kernel
theorem dX11_rest_8 : decode cX11_rest 8 = .ok (.invokevirtual 321, 3) := by decide +kernel
theorem dX11_rest_11 : decode cX11_rest 11 = .ok (.iconst 1, 1) := by decide +kernel
theorem dX11_rest_12 : decode cX11_rest 12 = .ok (.invokevirtual 266, 3) := by decide +kernel
theorem dX11_rest_15 : decode cX11_rest 15 = .ok (.ifCond .ne 16, 3) := by decide +kernel
theorem dX11_rest_18 : decode cX11_rest 18 = .ok (.aload_n 0, 1) := by decide +kernel
theorem dX11_rest_19 : decode cX11_rest 19 = .ok (.aload_n 0, 1) := by decide +kernel
theorem dX11_rest_20 : decode cX11_rest 20 = .ok (.iload_n 1, 1) := by decide +kernel
theorem dX11_rest_21 : decode cX11_rest 21 = .ok (.invokevirtual 333, 3) := by decide +kernel
theorem dX11_rest_24 : decode cX11_rest 24 = .ok (.iconst 2, 1) := by decide +kernel
theorem dX11_rest_25 : decode cX11_rest 25 = .ok (.invokevirtual 266, 3) := by decide +kernel
theorem dX11_rest_28 : decode cX11_rest 28 = .ok (.ifCond .eq 5, 3) := by decide +kernel
theorem dX11_rest_31 : decode cX11_rest 31 = .ok (.iconst 0, 1) := by decide +kernel
theorem dX11_rest_32 : decode cX11_rest 32 = .ok (.ireturn, 1) := by decide +kernel
theorem dX11_rest_33 : decode cX11_rest 33 = .ok (.aload_n 0, 1) := by decide +kernel
theorem dX11_rest_34 : decode cX11_rest 34 = .ok (.invokevirtual 336, 3) := by decide +kernel
theorem dX11_rest_37 : decode cX11_rest 37 = .ok (.aload_n 0, 1) := by decide +kernel
theorem dX11_rest_38 : decode cX11_rest 38 = .ok (.iload_n 1, 1) := by decide +kernel
theorem dX11_rest_39 : decode cX11_rest 39 = .ok (.iconst 3, 1) := by decide +kernel
theorem dX11_rest_40 : decode cX11_rest 40 = .ok (.invokevirtual 71, 3) := by decide +kernel
theorem dX11_rest_43 : decode cX11_rest 43 = .ok (.istore_n 2, 1) := by decide +kernel
theorem dX11_rest_44 : decode cX11_rest 44 = .ok (.aload_n 0, 1) := by decide +kernel
theorem dX11_rest_45 : decode cX11_rest 45 = .ok (.getfield 13, 3) := by decide +kernel
theorem dX11_rest_48 : decode cX11_rest 48 = .ok (.iload_n 1, 1) := by decide +kernel
theorem dX11_rest_49 : decode cX11_rest 49 = .ok (.iconst 3, 1) := by decide +kernel
theorem dX11_rest_50 : decode cX11_rest 50 = .ok (.invokestatic 67, 3) := by decide +kernel
theorem dX11_rest_53 : decode cX11_rest 53 = .ok (.iconst 0, 1) := by decide +kernel
theorem dX11_rest_54 : decode cX11_rest 54 = .ok (.iastore, 1) := by decide +kernel
theorem dX11_rest_55 : decode cX11_rest 55 = .ok (.iload_n 2, 1) := by decide +kernel
theorem dX11_rest_56 : decode cX11_rest 56 = .ok (.ireturn, 1) := by decide +kernel
theorem dX11_noEdition_0 : decode cX11_noEdition 0 = .ok (.iload_n 0, 1) := by decide +kernel
theorem dX11_noEdition_1 : decode cX11_noEdition 1 = .ok (.bipush (-3), 2) := by decide +kernel
theorem dX11_noEdition_3 : decode cX11_noEdition 3 = .ok (.iconst 3, 1) := by decide +kernel
theorem dX11_noEdition_4 : decode cX11_noEdition 4 = .ok (.invokestatic 84, 3) := by decide +kernel
theorem dX11_noEdition_7 : decode cX11_noEdition 7 = .ok (.ifCond .ne 7, 3) := by decide +kernel
theorem dX11_noEdition_10 : decode cX11_noEdition 10 = .ok (.iconst 1, 1) := by decide +kernel
theorem dX11_noEdition_11 : decode cX11_noEdition 11 = .ok (.goto 4, 3) := by decide +kernel
theorem dX11_noEdition_14 : decode cX11_noEdition 14 = .ok (.iconst 0, 1) := by decide +kernel
theorem dX11_noEdition_15 : decode cX11_noEdition 15 = .ok (.ireturn, 1) := by decide +kernel
theorem dX11_error_0 : decode cX11_error 0 = .ok (.aload_n 0, 1) := by decide +kernel
theorem dX11_error_1 : decode cX11_error 1 = .ok (.iconst 0, 1) := by decide +kernel
theorem dX11_error_2 : decode cX11_error 2 = .ok (.putfield 3, 3) := by decide +kernel
theorem dX11_error_5 : decode cX11_error 5 = .ok (.aload_n 0, 1) := by decide +kernel
theorem dX11_error_6 : decode cX11_error 6 = .ok (.iload_n 1, 1) := by decide +kernel
theorem dX11_error_7 : decode cX11_error 7 = .ok (.iconst 0, 1) := by decide +kernel
theorem dX11_error_8 : decode cX11_error 8 = .ok (.bipush 11, 2) := by decide +kernel
theorem dX11_error_10 : decode cX11_error 10 = .ok (.invokestatic 84, 3) := by decide +kernel
theorem dX11_error_13 : decode cX11_error 13 = .ok (.ifCond .eq 10, 3) := by decide +kernel
theorem dX11_error_16 : decode cX11_error 16 = .ok (.iload_n 2, 1) := by decide +kernel
theorem dX11_error_17 : decode cX11_error 17 = .ok (.invokestatic 339, 3) := by decide +kernel
theorem dX11_error_20 : decode cX11_error 20 = .ok (.ifCond .eq 7, 3) := by decide +kernel
theorem dX11_error_23 : decode cX11_error 23 = .ok (.iconst 1, 1) := by decide +kernel
theorem dX11_error_24 : decode cX11_error 24 = .ok (.goto 4, 3) := by decide +kernel
theorem dX11_error_27 : decode cX11_error 27 = .ok (.iconst 0, 1) := by decide +kernel
theorem dX11_error_28 : decode cX11_error 28 = .ok (.iconst 1, 1) := by decide +kernel
theorem dX11_error_29 : decode cX11_error 29 = .ok (.invokevirtual 266, 3) := by decide +kernel
theorem dX11_error_32 : decode cX11_error 32 = .ok (.ifCond .eq 5, 3) := by decide +kernel
theorem dX11_error_35 : decode cX11_error 35 = .ok (.iconst 0, 1) := by decide +kernel
theorem dX11_error_36 : decode cX11_error 36 = .ok (.ireturn, 1) := by decide +kernel
theorem dX11_error_37 : decode cX11_error 37 = .ok (.aload_n 0, 1) := by decide +kernel
theorem dX11_error_38 : decode cX11_error 38 = .ok (.invokevirtual 336, 3) := by decide +kernel
theorem dX11_error_41 : decode cX11_error 41 = .ok (.aload_n 0, 1) := by decide +kernel
theorem dX11_error_42 : decode cX11_error 42 = .ok (.getfield 13, 3) := by decide +kernel
theorem dX11_error_45 : decode cX11_error 45 = .ok (.bipush 26, 2) := by decide +kernel
theorem dX11_error_47 : decode cX11_error 47 = .ok (.iload_n 1, 1) := by decide +kernel
theorem dX11_error_48 : decode cX11_error 48 = .ok (.iadd, 1) := by decide +kernel
theorem dX11_error_49 : decode cX11_error 49 = .ok (.iload_n 2, 1) := by decide +kernel
theorem dX11_error_50 : decode cX11_error 50 = .ok (.iastore, 1) := by decide +kernel
theorem dX11_error_51 : decode cX11_error 51 = .ok (.aload_n 0, 1) := by decide +kernel
theorem dX11_error_52 : decode cX11_error 52 = .ok (.iload_n 1, 1) := by decide +kernel
theorem dX11_error_53 : decode cX11_error 53 = .ok (.invokevirtual 299, 3) := by decide +kernel
theorem dX11_error_56 : decode cX11_error 56 = .ok (.ireturn, 1) := by decide +kernel
theorem dX11_edition_0 : decode cX11_edition 0 = .ok (.aload_n 0, 1) := by decide +kernel
theorem dX11_edition_1 : decode cX11_edition 1 = .ok (.iconst 0, 1) := by decide +kernel
theorem dX11_edition_2 : decode cX11_edition 2 = .ok (.putfield 3, 3) := by decide +kernel
theorem dX11_edition_5 : decode cX11_edition 5 = .ok (.aload_n 0, 1) := by decide +kernel
theorem dX11_edition_6 : decode cX11_edition 6 = .ok (.iload_n 1, 1) := by decide +kernel
theorem dX11_edition_7 : decode cX11_edition 7 = .ok (.invokestatic 339, 3) := by decide +kernel
theorem dX11_edition_10 : decode cX11_edition 10 = .ok (.iconst 1, 1) := by decide +kernel
theorem dX11_edition_11 : decode cX11_edition 11 = .ok (.invokevirtual 266, 3) := by decide +kernel
theorem dX11_edition_14 : decode cX11_edition 14 = .ok (.ifCond .eq 5, 3) := by decide +kernel
theorem dX11_edition_17 : decode cX11_edition 17 = .ok (.iconst 0, 1) := by decide +kernel
theorem dX11_edition_18 : decode cX11_edition 18 = .ok (.ireturn, 1) := by decide +kernel
theorem dX11_edition_19 : decode cX11_edition 19 = .ok (.aload_n 0, 1) := by decide +kernel
theorem dX11_edition_20 : decode cX11_edition 20 = .ok (.invokevirtual 336, 3) := by decide +kernel
theorem dX11_edition_23 : decode cX11_edition 23 = .ok (.aload_n 0, 1) := by decide +kernel
theorem dX11_edition_24 : decode cX11_edition 24 = .ok (.getfield 13, 3) := by decide +kernel
theorem dX11_edition_27 : decode cX11_edition 27 = .ok (.bipush 10, 2) := by decide +kernel
theorem dX11_edition_29 : decode cX11_edition 29 = .ok (.iaload, 1) := by decide +kernel
theorem dX11_edition_30 : decode cX11_edition 30 = .ok (.istore_n 2, 1) := by decide +kernel
theorem dX11_edition_31 : decode cX11_edition 31 = .ok (.aload_n 0, 1) := by decide +kernel
theorem dX11_edition_32 : decode cX11_edition 32 = .ok (.getfield 13, 3) := by decide +kernel
theorem dX11_edition_35 : decode cX11_edition 35 = .ok (.bipush 10, 2) := by decide +kernel
theorem dX11_edition_37 : decode cX11_edition 37 = .ok (.iload_n 1, 1) := by decide +kernel
theorem dX11_edition_38 : decode cX11_edition 38 = .ok (.iastore, 1) := by decide +kernel
theorem dX11_edition_39 : decode cX11_edition 39 = .ok (.iload_n 2, 1) := by decide +kernel
theorem dX11_edition_40 : decode cX11_edition 40 = .ok (.ireturn, 1) := by decide +kernel
theorem dX11_wind_0 : decode cX11_wind 0 = .ok (.aload_n 0, 1) := by decide +kernel
theorem dX11_wind_1 : decode cX11_wind 1 = .ok (.iconst 0, 1) := by decide +kernel
theorem dX11_wind_2 : decode cX11_wind 2 = .ok (.putfield 3, 3) := by decide +kernel
theorem dX11_wind_5 : decode cX11_wind 5 = .ok (.aload_n 0, 1) := by decide +kernel
theorem dX11_wind_6 : decode cX11_wind 6 = .ok (.iload_n 1, 1) := by decide +kernel
theorem dX11_wind_7 : decode cX11_wind 7 = .ok (.bipush (-5), 2) := by decide +kernel
theorem dX11_wind_9 : decode cX11_wind 9 = .ok (.iconst 5, 1) := by decide +kernel
theorem dX11_wind_10 : decode cX11_wind 10 = .ok (.invokestatic 84, 3) := by decide +kernel
theorem dX11_wind_13 : decode cX11_wind 13 = .ok (.ifCond .ne 7, 3) := by decide +kernel
theorem dX11_wind_16 : decode cX11_wind 16 = .ok (.iconst 1, 1) := by decide +kernel
theorem dX11_wind_17 : decode cX11_wind 17 = .ok (.goto 4, 3) := by decide +kernel
theorem dX11_wind_20 : decode cX11_wind 20 = .ok (.iconst 0, 1) := by decide +kernel
theorem dX11_wind_21 : decode cX11_wind 21 = .ok (.iconst 1, 1) := by decide +kernel
theorem dX11_wind_22 : decode cX11_wind 22 = .ok (.invokevirtual 266, 3) := by decide +kernel
theorem dX11_wind_25 : decode cX11_wind 25 = .ok (.ifCond .eq 5, 3) := by decide +kernel
theorem dX11_wind_28 : decode cX11_wind 28 = .ok (.iconst 0, 1) := by decide +kernel
theorem dX11_wind_29 : decode cX11_wind 29 = .ok (.ireturn, 1) := by decide +kernel
theorem dX11_wind_30 : decode cX11_wind 30 = .ok (.aload_n 0, 1) := by decide +kernel
theorem dX11_wind_31 : decode cX11_wind 31 = .ok (.invokevirtual 336, 3) := by decide +kernel
theorem dX11_wind_34 : decode cX11_wind 34 = .ok (.aload_n 0, 1) := by decide +kernel
theorem dX11_wind_35 : decode cX11_wind 35 = .ok (.getfield 13, 3) := by decide +kernel
theorem dX11_wind_38 : decode cX11_wind 38 = .ok (.bipush 9, 2) := by decide +kernel
theorem dX11_wind_40 : decode cX11_wind 40 = .ok (.iaload, 1) := by decide +kernel
theorem dX11_wind_41 : decode cX11_wind 41 = .ok (.istore_n 2, 1) := by decide +kernel
theorem dX11_wind_42 : decode cX11_wind 42 = .ok (.aload_n 0, 1) := by decide +kernel
theorem dX11_wind_43 : decode cX11_wind 43 = .ok (.getfield 13, 3) := by decide +kernel
theorem dX11_wind_46 : decode cX11_wind 46 = .ok (.bipush 9, 2) := by decide +kernel
theorem dX11_wind_48 : decode cX11_wind 48 = .ok (.iload_n 1, 1) := by decide +kernel
theorem dX11_wind_49 : decode cX11_wind 49 = .ok (.iastore, 1) := by decide +kernel
theorem dX11_wind_50 : decode cX11_wind 50 = .ok (.iload_n 2, 1) := by decide +kernel
theorem dX11_wind_51 : decode cX11_wind 51 = .ok (.ireturn, 1) := by decide +kernel
theorem dX11_anew_0 : decode cX11_anew 0 = .ok (.aload_n 0, 1) := by decide +kernel
theorem dX11_anew_1 : decode cX11_anew 1 = .ok (.iconst 0, 1) := by decide +kernel
theorem dX11_anew_2 : decode cX11_anew 2 = .ok (.putfield 3, 3) := by decide +kernel
theorem dX11_anew_5 : decode cX11_anew 5 = .ok (.aload_n 0, 1) := by decide +kernel
theorem dX11_anew_6 : decode cX11_anew 6 = .ok (.aload_n 0, 1) := by decide +kernel
theorem dX11_anew_7 : decode cX11_anew 7 = .ok (.iload_n 1, 1) := by decide +kernel
theorem dX11_anew_8 : decode cX11_anew 8 = .ok (.invokevirtual 330, 3) := by decide +kernel
theorem dX11_anew_11 : decode cX11_anew 11 = .ok (.iconst 1, 1) := by decide +kernel
theorem dX11_anew_12 : decode cX11_anew 12 = .ok (.invokevirtual 266, 3) := by decide +kernel
theorem dX11_anew_15 : decode cX11_anew 15 = .ok (.ifCond .eq 5, 3) := by decide +kernel
theorem dX11_anew_18 : decode cX11_anew 18 = .ok (.iconst 0, 1) := by decide +kernel
theorem dX11_anew_19 : decode cX11_anew 19 = .ok (.ireturn, 1) := by decide +kernel
theorem dX11_anew_20 : decode cX11_anew 20 = .ok (.aload_n 0, 1) := by decide +kernel
theorem dX11_anew_21 : decode cX11_anew 21 = .ok (.invokevirtual 336, 3) := by decide +kernel
theorem dX11_anew_24 : decode cX11_anew 24 = .ok (.aload_n 0, 1) := by decide +kernel
theorem dX11_anew_25 : decode cX11_anew 25 = .ok (.iload_n 1, 1) := by decide +kernel
theorem dX11_anew_26 : decode cX11_anew 26 = .ok (.invokevirtual 342, 3) := by decide +kernel
theorem dX11_anew_29 : decode cX11_anew 29 = .ok (.istore_n 2, 1) := by decide +kernel
theorem dX11_anew_30 : decode cX11_anew 30 = .ok (.aload_n 0, 1) := by decide +kernel
theorem dX11_anew_31 : decode cX11_anew 31 = .ok (.getfield 13, 3) := by decide +kernel
theorem dX11_anew_34 : decode cX11_anew 34 = .ok (.iload_n 1, 1) := by decide +kernel
theorem dX11_anew_35 : decode cX11_anew 35 = .ok (.iconst 3, 1) := by decide +kernel
theorem dX11_anew_36 : decode cX11_anew 36 = .ok (.invokestatic 74, 3) := by decide +kernel
theorem dX11_anew_39 : decode cX11_anew 39 = .ok (.iconst 0, 1) := by decide +kernel
theorem dX11_anew_40 : decode cX11_anew 40 = .ok (.iastore, 1) := by decide +kernel
theorem dX11_anew_41 : decode cX11_anew 41 = .ok (.iload_n 2, 1) := by decide +kernel
theorem dX11_anew_42 : decode cX11_anew 42 = .ok (.ireturn, 1) := by decide +kernel
theorem dX11_tells_0 : decode cX11_tells 0 = .ok (.sipush 239, 3) := by decide +kernel
theorem dX11_tells_3 : decode cX11_tells 3 = .ok (.istore 4, 2) := by decide +kernel
theorem dX11_tells_5 : decode cX11_tells 5 = .ok (.iload 4, 2) := by decide +kernel
theorem dX11_tells_7 : decode cX11_tells 7 = .ok (.iconst 4, 1) := by decide +kernel
theorem dX11_tells_8 : decode cX11_tells 8 = .ok (.if_icmp .lt 31, 3) := by decide +kernel
theorem dX11_tells_11 : decode cX11_tells 11 = .ok (.aload_n 0, 1) := by decide +kernel
theorem dX11_tells_12 : decode cX11_tells 12 = .ok (.getfield 13, 3) := by decide +kernel
theorem dX11_tells_15 : decode cX11_tells 15 = .ok (.bipush 92, 2) := by decide +kernel
theorem dX11_tells_17 : decode cX11_tells 17 = .ok (.iload 4, 2) := by decide +kernel
theorem dX11_tells_19 : decode cX11_tells 19 = .ok (.iadd, 1) := by decide +kernel
theorem dX11_tells_20 : decode cX11_tells 20 = .ok (.aload_n 0, 1) := by decide +kernel
theorem dX11_tells_21 : decode cX11_tells 21 = .ok (.getfield 13, 3) := by decide +kernel
theorem dX11_tells_24 : decode cX11_tells 24 = .ok (.bipush 92, 2) := by decide +kernel
theorem dX11_tells_26 : decode cX11_tells 26 = .ok (.iload 4, 2) := by decide +kernel
theorem dX11_tells_28 : decode cX11_tells 28 = .ok (.iadd, 1) := by decide +kernel
theorem dX11_tells_29 : decode cX11_tells 29 = .ok (.iconst 4, 1) := by decide +kernel
theorem dX11_tells_30 : decode cX11_tells 30 = .ok (.isub, 1) := by decide +kernel
theorem dX11_tells_31 : decode cX11_tells 31 = .ok (.iaload, 1) := by decide +kernel
theorem dX11_tells_32 : decode cX11_tells 32 = .ok (.iastore, 1) := by decide +kernel
theorem dX11_tells_33 : decode cX11_tells 33 = .ok (.iinc 4 (-1), 3) := by decide +kernel
theorem dX11_tells_36 : decode cX11_tells 36 = .ok (.goto (-31), 3) := by decide +kernel
theorem dX11_tells_39 : decode cX11_tells 39 = .ok (.aload_n 0, 1) := by decide +kernel
theorem dX11_tells_40 : decode cX11_tells 40 = .ok (.getfield 13, 3) := by decide +kernel
theorem dX11_tells_43 : decode cX11_tells 43 = .ok (.bipush 93, 2) := by decide +kernel
theorem dX11_tells_45 : decode cX11_tells 45 = .ok (.iload_n 1, 1) := by decide +kernel
theorem dX11_tells_46 : decode cX11_tells 46 = .ok (.iastore, 1) := by decide +kernel
theorem dX11_tells_47 : decode cX11_tells 47 = .ok (.aload_n 0, 1) := by decide +kernel
theorem dX11_tells_48 : decode cX11_tells 48 = .ok (.getfield 13, 3) := by decide +kernel
theorem dX11_tells_51 : decode cX11_tells 51 = .ok (.bipush 94, 2) := by decide +kernel
theorem dX11_tells_53 : decode cX11_tells 53 = .ok (.iload_n 2, 1) := by decide +kernel
theorem dX11_tells_54 : decode cX11_tells 54 = .ok (.iastore, 1) := by decide +kernel
theorem dX11_tells_55 : decode cX11_tells 55 = .ok (.aload_n 0, 1) := by decide +kernel
theorem dX11_tells_56 : decode cX11_tells 56 = .ok (.getfield 13, 3) := by decide +kernel
theorem dX11_tells_59 : decode cX11_tells 59 = .ok (.bipush 95, 2) := by decide +kernel
theorem dX11_tells_61 : decode cX11_tells 61 = .ok (.iload_n 3, 1) := by decide +kernel
theorem dX11_tells_62 : decode cX11_tells 62 = .ok (.iastore, 1) := by decide +kernel
theorem dX11_tells_63 : decode cX11_tells 63 = .ok (.aload_n 0, 1) := by decide +kernel
theorem dX11_tells_64 : decode cX11_tells 64 = .ok (.getfield 13, 3) := by decide +kernel
theorem dX11_tells_67 : decode cX11_tells 67 = .ok (.bipush 12, 2) := by decide +kernel
theorem dX11_tells_69 : decode cX11_tells 69 = .ok (.bipush 60, 2) := by decide +kernel
theorem dX11_tells_71 : decode cX11_tells 71 = .ok (.aload_n 0, 1) := by decide +kernel
theorem dX11_tells_72 : decode cX11_tells 72 = .ok (.getfield 13, 3) := by decide +kernel
theorem dX11_tells_75 : decode cX11_tells 75 = .ok (.bipush 12, 2) := by decide +kernel
theorem dX11_tells_77 : decode cX11_tells 77 = .ok (.iaload, 1) := by decide +kernel
theorem dX11_tells_78 : decode cX11_tells 78 = .ok (.iconst 1, 1) := by decide +kernel
theorem dX11_tells_79 : decode cX11_tells 79 = .ok (.iadd, 1) := by decide +kernel
theorem dX11_tells_80 : decode cX11_tells 80 = .ok (.invokestatic 345, 3) := by decide +kernel
theorem dX11_tells_83 : decode cX11_tells 83 = .ok (.iastore, 1) := by decide +kernel
theorem dX11_tells_84 : decode cX11_tells 84 = .ok (.return_, 1) := by decide +kernel
theorem dX11_blows_0 : decode cX11_blows 0 = .ok (.aload_n 0, 1) := by decide +kernel
theorem dX11_blows_1 : decode cX11_blows 1 = .ok (.aload_n 0, 1) := by decide +kernel
theorem dX11_blows_2 : decode cX11_blows 2 = .ok (.getfield 13, 3) := by decide +kernel
theorem dX11_blows_5 : decode cX11_blows 5 = .ok (.iconst 4, 1) := by decide +kernel
theorem dX11_blows_6 : decode cX11_blows 6 = .ok (.iaload, 1) := by decide +kernel
theorem dX11_blows_7 : decode cX11_blows 7 = .ok (.invokevirtual 275, 3) := by decide +kernel
theorem dX11_blows_10 : decode cX11_blows 10 = .ok (.ifCond .eq 4, 3) := by decide +kernel
theorem dX11_blows_13 : decode cX11_blows 13 = .ok (.return_, 1) := by decide +kernel
theorem dX11_blows_14 : decode cX11_blows 14 = .ok (.aload_n 0, 1) := by decide +kernel
theorem dX11_blows_15 : decode cX11_blows 15 = .ok (.getfield 13, 3) := by decide +kernel
theorem dX11_blows_18 : decode cX11_blows 18 = .ok (.bipush 9, 2) := by decide +kernel
theorem dX11_blows_20 : decode cX11_blows 20 = .ok (.aload_n 0, 1) := by decide +kernel
theorem dX11_blows_21 : decode cX11_blows 21 = .ok (.bipush 100, 2) := by decide +kernel
theorem dX11_blows_23 : decode cX11_blows 23 = .ok (.invokevirtual 348, 3) := by decide +kernel
theorem dX11_blows_26 : decode cX11_blows 26 = .ok (.aload_n 0, 1) := by decide +kernel
theorem dX11_blows_27 : decode cX11_blows 27 = .ok (.getfield 13, 3) := by decide +kernel
theorem dX11_blows_30 : decode cX11_blows 30 = .ok (.bipush 11, 2) := by decide +kernel
theorem dX11_blows_32 : decode cX11_blows 32 = .ok (.iaload, 1) := by decide +kernel
theorem dX11_blows_33 : decode cX11_blows 33 = .ok (.if_icmp .ge 14, 3) := by decide +kernel
theorem dX11_blows_36 : decode cX11_blows 36 = .ok (.aload_n 0, 1) := by decide +kernel
theorem dX11_blows_37 : decode cX11_blows 37 = .ok (.bipush 11, 2) := by decide +kernel
theorem dX11_blows_39 : decode cX11_blows 39 = .ok (.invokevirtual 348, 3) := by decide +kernel
theorem dX11_blows_42 : decode cX11_blows 42 = .ok (.iconst 5, 1) := by decide +kernel
theorem dX11_blows_43 : decode cX11_blows 43 = .ok (.isub, 1) := by decide +kernel
theorem dX11_blows_44 : decode cX11_blows 44 = .ok (.goto 4, 3) := by decide +kernel
theorem dX11_blows_47 : decode cX11_blows 47 = .ok (.iconst 0, 1) := by decide +kernel
theorem dX11_blows_48 : decode cX11_blows 48 = .ok (.iastore, 1) := by decide +kernel
theorem dX11_blows_49 : decode cX11_blows 49 = .ok (.return_, 1) := by decide +kernel
theorem dX11_walks_0 : decode cX11_walks 0 = .ok (.aload_n 0, 1) := by decide +kernel
theorem dX11_walks_1 : decode cX11_walks 1 = .ok (.iload_n 1, 1) := by decide +kernel
theorem dX11_walks_2 : decode cX11_walks 2 = .ok (.invokevirtual 324, 3) := by decide +kernel
theorem dX11_walks_5 : decode cX11_walks 5 = .ok (.istore_n 2, 1) := by decide +kernel
theorem dX11_walks_6 : decode cX11_walks 6 = .ok (.iconst 0, 1) := by decide +kernel
theorem dX11_walks_7 : decode cX11_walks 7 = .ok (.istore_n 3, 1) := by decide +kernel
theorem dX11_walks_8 : decode cX11_walks 8 = .ok (.iload_n 3, 1) := by decide +kernel
theorem dX11_walks_9 : decode cX11_walks 9 = .ok (.aload_n 0, 1) := by decide +kernel
theorem dX11_walks_10 : decode cX11_walks 10 = .ok (.iload_n 1, 1) := by decide +kernel
theorem dX11_walks_11 : decode cX11_walks 11 = .ok (.iconst 2, 1) := by decide +kernel
theorem dX11_walks_12 : decode cX11_walks 12 = .ok (.invokevirtual 71, 3) := by decide +kernel
theorem dX11_walks_15 : decode cX11_walks 15 = .ok (.if_icmp .ge 69, 3) := by decide +kernel
theorem dX11_walks_18 : decode cX11_walks 18 = .ok (.aload_n 0, 1) := by decide +kernel
theorem dX11_walks_19 : decode cX11_walks 19 = .ok (.iload_n 1, 1) := by decide +kernel
theorem dX11_walks_20 : decode cX11_walks 20 = .ok (.invokevirtual 308, 3) := by decide +kernel
theorem dX11_walks_23 : decode cX11_walks 23 = .ok (.ifCond .ne 61, 3) := by decide +kernel
theorem dX11_walks_26 : decode cX11_walks 26 = .ok (.aload_n 0, 1) := by decide +kernel
theorem dX11_walks_27 : decode cX11_walks 27 = .ok (.iload_n 1, 1) := by decide +kernel
theorem dX11_walks_28 : decode cX11_walks 28 = .ok (.iconst 0, 1) := by decide +kernel
theorem dX11_walks_29 : decode cX11_walks 29 = .ok (.invokevirtual 71, 3) := by decide +kernel
theorem dX11_walks_32 : decode cX11_walks 32 = .ok (.aload_n 0, 1) := by decide +kernel
theorem dX11_walks_33 : decode cX11_walks 33 = .ok (.iload_n 1, 1) := by decide +kernel
theorem dX11_walks_34 : decode cX11_walks 34 = .ok (.iconst 1, 1) := by decide +kernel
theorem dX11_walks_35 : decode cX11_walks 35 = .ok (.invokevirtual 71, 3) := by decide +kernel
theorem dX11_walks_38 : decode cX11_walks 38 = .ok (.aload_n 0, 1) := by decide +kernel
theorem dX11_walks_39 : decode cX11_walks 39 = .ok (.iload_n 1, 1) := by decide +kernel
theorem dX11_walks_40 : decode cX11_walks 40 = .ok (.iconst 0, 1) := by decide +kernel
theorem dX11_walks_41 : decode cX11_walks 41 = .ok (.invokevirtual 71, 3) := by decide +kernel
theorem dX11_walks_44 : decode cX11_walks 44 = .ok (.if_icmp .le 7, 3) := by decide +kernel
theorem dX11_walks_47 : decode cX11_walks 47 = .ok (.iconst 1, 1) := by decide +kernel
theorem dX11_walks_48 : decode cX11_walks 48 = .ok (.goto 4, 3) := by decide +kernel
theorem dX11_walks_51 : decode cX11_walks 51 = .ok (.iconst (-1), 1) := by decide +kernel
theorem dX11_walks_52 : decode cX11_walks 52 = .ok (.iadd, 1) := by decide +kernel
theorem dX11_walks_53 : decode cX11_walks 53 = .ok (.istore 4, 2) := by decide +kernel
theorem dX11_walks_55 : decode cX11_walks 55 = .ok (.aload_n 0, 1) := by decide +kernel
theorem dX11_walks_56 : decode cX11_walks 56 = .ok (.iload 4, 2) := by decide +kernel
theorem dX11_walks_58 : decode cX11_walks 58 = .ok (.invokevirtual 305, 3) := by decide +kernel
theorem dX11_walks_61 : decode cX11_walks 61 = .ok (.iload_n 2, 1) := by decide +kernel
theorem dX11_walks_62 : decode cX11_walks 62 = .ok (.if_icmp .le 4, 3) := by decide +kernel
theorem dX11_walks_65 : decode cX11_walks 65 = .ok (.return_, 1) := by decide +kernel
theorem dX11_walks_66 : decode cX11_walks 66 = .ok (.aload_n 0, 1) := by decide +kernel
theorem dX11_walks_67 : decode cX11_walks 67 = .ok (.getfield 13, 3) := by decide +kernel
theorem dX11_walks_70 : decode cX11_walks 70 = .ok (.iload_n 1, 1) := by decide +kernel
theorem dX11_walks_71 : decode cX11_walks 71 = .ok (.iconst 0, 1) := by decide +kernel
theorem dX11_walks_72 : decode cX11_walks 72 = .ok (.invokestatic 67, 3) := by decide +kernel
theorem dX11_walks_75 : decode cX11_walks 75 = .ok (.iload 4, 2) := by decide +kernel
theorem dX11_walks_77 : decode cX11_walks 77 = .ok (.iastore, 1) := by decide +kernel
theorem dX11_walks_78 : decode cX11_walks 78 = .ok (.iinc 3 1, 3) := by decide +kernel
theorem dX11_walks_81 : decode cX11_walks 81 = .ok (.goto (-73), 3) := by decide +kernel
theorem dX11_walks_84 : decode cX11_walks 84 = .ok (.return_, 1) := by decide +kernel
theorem dX11_hasMonk_0 : decode cX11_hasMonk 0 = .ok (.iconst 0, 1) := by decide +kernel
theorem dX11_hasMonk_1 : decode cX11_hasMonk 1 = .ok (.istore_n 2, 1) := by decide +kernel
theorem dX11_hasMonk_2 : decode cX11_hasMonk 2 = .ok (.iload_n 2, 1) := by decide +kernel
theorem dX11_hasMonk_3 : decode cX11_hasMonk 3 = .ok (.aload_n 0, 1) := by decide +kernel
theorem dX11_hasMonk_4 : decode cX11_hasMonk 4 = .ok (.invokevirtual 80, 3) := by decide +kernel
theorem dX11_hasMonk_7 : decode cX11_hasMonk 7 = .ok (.if_icmp .ge 29, 3) := by decide +kernel
theorem dX11_hasMonk_10 : decode cX11_hasMonk 10 = .ok (.aload_n 0, 1) := by decide +kernel
theorem dX11_hasMonk_11 : decode cX11_hasMonk 11 = .ok (.iload_n 2, 1) := by decide +kernel
theorem dX11_hasMonk_12 : decode cX11_hasMonk 12 = .ok (.invokevirtual 333, 3) := by decide +kernel
theorem dX11_hasMonk_15 : decode cX11_hasMonk 15 = .ok (.ifCond .ne 15, 3) := by decide +kernel
theorem dX11_hasMonk_18 : decode cX11_hasMonk 18 = .ok (.aload_n 0, 1) := by decide +kernel
theorem dX11_hasMonk_19 : decode cX11_hasMonk 19 = .ok (.iload_n 2, 1) := by decide +kernel
theorem dX11_hasMonk_20 : decode cX11_hasMonk 20 = .ok (.iconst 0, 1) := by decide +kernel
theorem dX11_hasMonk_21 : decode cX11_hasMonk 21 = .ok (.invokevirtual 71, 3) := by decide +kernel
theorem dX11_hasMonk_24 : decode cX11_hasMonk 24 = .ok (.iload_n 1, 1) := by decide +kernel
theorem dX11_hasMonk_25 : decode cX11_hasMonk 25 = .ok (.if_icmp .ne 5, 3) := by decide +kernel
theorem dX11_hasMonk_28 : decode cX11_hasMonk 28 = .ok (.iconst 1, 1) := by decide +kernel
theorem dX11_hasMonk_29 : decode cX11_hasMonk 29 = .ok (.ireturn, 1) := by decide +kernel
theorem dX11_hasMonk_30 : decode cX11_hasMonk 30 = .ok (.iinc 2 1, 3) := by decide +kernel
theorem dX11_hasMonk_33 : decode cX11_hasMonk 33 = .ok (.goto (-31), 3) := by decide +kernel
theorem dX11_hasMonk_36 : decode cX11_hasMonk 36 = .ok (.iconst 0, 1) := by decide +kernel
theorem dX11_hasMonk_37 : decode cX11_hasMonk 37 = .ok (.ireturn, 1) := by decide +kernel
theorem dX11_keeps_0 : decode cX11_keeps 0 = .ok (.aload_n 0, 1) := by decide +kernel
theorem dX11_keeps_1 : decode cX11_keeps 1 = .ok (.iload_n 1, 1) := by decide +kernel
theorem dX11_keeps_2 : decode cX11_keeps 2 = .ok (.invokevirtual 342, 3) := by decide +kernel
theorem dX11_keeps_5 : decode cX11_keeps 5 = .ok (.ifCond .ne 40, 3) := by decide +kernel
theorem dX11_keeps_8 : decode cX11_keeps 8 = .ok (.aload_n 0, 1) := by decide +kernel
theorem dX11_keeps_9 : decode cX11_keeps 9 = .ok (.getfield 13, 3) := by decide +kernel
theorem dX11_keeps_12 : decode cX11_keeps 12 = .ok (.iconst 4, 1) := by decide +kernel
theorem dX11_keeps_13 : decode cX11_keeps 13 = .ok (.iaload, 1) := by decide +kernel
theorem dX11_keeps_14 : decode cX11_keeps 14 = .ok (.aload_n 0, 1) := by decide +kernel
theorem dX11_keeps_15 : decode cX11_keeps 15 = .ok (.iload_n 1, 1) := by decide +kernel
theorem dX11_keeps_16 : decode cX11_keeps 16 = .ok (.iconst 1, 1) := by decide +kernel
theorem dX11_keeps_17 : decode cX11_keeps 17 = .ok (.invokevirtual 77, 3) := by decide +kernel
theorem dX11_keeps_20 : decode cX11_keeps 20 = .ok (.aload_n 0, 1) := by decide +kernel
theorem dX11_keeps_21 : decode cX11_keeps 21 = .ok (.iload_n 1, 1) := by decide +kernel
theorem dX11_keeps_22 : decode cX11_keeps 22 = .ok (.iconst 2, 1) := by decide +kernel
theorem dX11_keeps_23 : decode cX11_keeps 23 = .ok (.invokevirtual 77, 3) := by decide +kernel
theorem dX11_keeps_26 : decode cX11_keeps 26 = .ok (.invokestatic 84, 3) := by decide +kernel
theorem dX11_keeps_29 : decode cX11_keeps 29 = .ok (.ifCond .eq 16, 3) := by decide +kernel
theorem dX11_keeps_32 : decode cX11_keeps 32 = .ok (.aload_n 0, 1) := by decide +kernel
theorem dX11_keeps_33 : decode cX11_keeps 33 = .ok (.aload_n 0, 1) := by decide +kernel
theorem dX11_keeps_34 : decode cX11_keeps 34 = .ok (.iload_n 1, 1) := by decide +kernel
theorem dX11_keeps_35 : decode cX11_keeps 35 = .ok (.iconst 0, 1) := by decide +kernel
theorem dX11_keeps_36 : decode cX11_keeps 36 = .ok (.invokevirtual 77, 3) := by decide +kernel
theorem dX11_keeps_39 : decode cX11_keeps 39 = .ok (.invokevirtual 351, 3) := by decide +kernel
theorem dX11_keeps_42 : decode cX11_keeps 42 = .ok (.ifCond .ne 4, 3) := by decide +kernel
theorem dX11_keeps_45 : decode cX11_keeps 45 = .ok (.return_, 1) := by decide +kernel
theorem dX11_keeps_46 : decode cX11_keeps 46 = .ok (.aload_n 0, 1) := by decide +kernel
theorem dX11_keeps_47 : decode cX11_keeps 47 = .ok (.getfield 13, 3) := by decide +kernel
theorem dX11_keeps_50 : decode cX11_keeps 50 = .ok (.iload_n 1, 1) := by decide +kernel
theorem dX11_keeps_51 : decode cX11_keeps 51 = .ok (.iconst 3, 1) := by decide +kernel
theorem dX11_keeps_52 : decode cX11_keeps 52 = .ok (.invokestatic 74, 3) := by decide +kernel
theorem dX11_keeps_55 : decode cX11_keeps 55 = .ok (.iconst 1, 1) := by decide +kernel
theorem dX11_keeps_56 : decode cX11_keeps 56 = .ok (.iastore, 1) := by decide +kernel
theorem dX11_keeps_57 : decode cX11_keeps 57 = .ok (.aload_n 0, 1) := by decide +kernel
theorem dX11_keeps_58 : decode cX11_keeps 58 = .ok (.iload_n 1, 1) := by decide +kernel
theorem dX11_keeps_59 : decode cX11_keeps 59 = .ok (.iconst 0, 1) := by decide +kernel
theorem dX11_keeps_60 : decode cX11_keeps 60 = .ok (.aload_n 0, 1) := by decide +kernel
theorem dX11_keeps_61 : decode cX11_keeps 61 = .ok (.iload_n 1, 1) := by decide +kernel
theorem dX11_keeps_62 : decode cX11_keeps 62 = .ok (.iconst 0, 1) := by decide +kernel
theorem dX11_keeps_63 : decode cX11_keeps 63 = .ok (.invokevirtual 77, 3) := by decide +kernel
theorem dX11_keeps_66 : decode cX11_keeps 66 = .ok (.invokevirtual 354, 3) := by decide +kernel
theorem dX11_keeps_69 : decode cX11_keeps 69 = .ok (.aload_n 0, 1) := by decide +kernel
theorem dX11_keeps_70 : decode cX11_keeps 70 = .ok (.getfield 13, 3) := by decide +kernel
theorem dX11_keeps_73 : decode cX11_keeps 73 = .ok (.bipush 92, 2) := by decide +kernel
theorem dX11_keeps_75 : decode cX11_keeps 75 = .ok (.aload_n 0, 1) := by decide +kernel
theorem dX11_keeps_76 : decode cX11_keeps 76 = .ok (.getfield 13, 3) := by decide +kernel
theorem dX11_keeps_79 : decode cX11_keeps 79 = .ok (.iconst 4, 1) := by decide +kernel
theorem dX11_keeps_80 : decode cX11_keeps 80 = .ok (.iaload, 1) := by decide +kernel
theorem dX11_keeps_81 : decode cX11_keeps 81 = .ok (.iastore, 1) := by decide +kernel
theorem dX11_keeps_82 : decode cX11_keeps 82 = .ok (.return_, 1) := by decide +kernel
theorem dX11_oneHour_0 : decode cX11_oneHour 0 = .ok (.iload_n 1, 1) := by decide +kernel
theorem dX11_oneHour_1 : decode cX11_oneHour 1 = .ok (.ifCond .ne 7, 3) := by decide +kernel
theorem dX11_oneHour_4 : decode cX11_oneHour 4 = .ok (.aload_n 0, 1) := by decide +kernel
theorem dX11_oneHour_5 : decode cX11_oneHour 5 = .ok (.invokevirtual 358, 3) := by decide +kernel
theorem dX11_oneHour_8 : decode cX11_oneHour 8 = .ok (.iconst 0, 1) := by decide +kernel
theorem dX11_oneHour_9 : decode cX11_oneHour 9 = .ok (.istore_n 2, 1) := by decide +kernel
theorem dX11_oneHour_10 : decode cX11_oneHour 10 = .ok (.iload_n 2, 1) := by decide +kernel
theorem dX11_oneHour_11 : decode cX11_oneHour 11 = .ok (.aload_n 0, 1) := by decide +kernel
theorem dX11_oneHour_12 : decode cX11_oneHour 12 = .ok (.invokevirtual 80, 3) := by decide +kernel
theorem dX11_oneHour_15 : decode cX11_oneHour 15 = .ok (.if_icmp .ge 61, 3) := by decide +kernel
theorem dX11_oneHour_18 : decode cX11_oneHour 18 = .ok (.aload_n 0, 1) := by decide +kernel
theorem dX11_oneHour_19 : decode cX11_oneHour 19 = .ok (.iload_n 2, 1) := by decide +kernel
theorem dX11_oneHour_20 : decode cX11_oneHour 20 = .ok (.invokevirtual 333, 3) := by decide +kernel
theorem dX11_oneHour_23 : decode cX11_oneHour 23 = .ok (.ifCond .eq 6, 3) := by decide +kernel
theorem dX11_oneHour_26 : decode cX11_oneHour 26 = .ok (.goto 44, 3) := by decide +kernel
theorem dX11_oneHour_29 : decode cX11_oneHour 29 = .ok (.aload_n 0, 1) := by decide +kernel
theorem dX11_oneHour_30 : decode cX11_oneHour 30 = .ok (.iload_n 2, 1) := by decide +kernel
theorem dX11_oneHour_31 : decode cX11_oneHour 31 = .ok (.invokevirtual 327, 3) := by decide +kernel
theorem dX11_oneHour_34 : decode cX11_oneHour 34 = .ok (.ifCond .ne 8, 3) := by decide +kernel
theorem dX11_oneHour_37 : decode cX11_oneHour 37 = .ok (.aload_n 0, 1) := by decide +kernel
theorem dX11_oneHour_38 : decode cX11_oneHour 38 = .ok (.iload_n 2, 1) := by decide +kernel
theorem dX11_oneHour_39 : decode cX11_oneHour 39 = .ok (.invokevirtual 361, 3) := by decide +kernel
theorem dX11_oneHour_42 : decode cX11_oneHour 42 = .ok (.aload_n 0, 1) := by decide +kernel
theorem dX11_oneHour_43 : decode cX11_oneHour 43 = .ok (.getfield 13, 3) := by decide +kernel
theorem dX11_oneHour_46 : decode cX11_oneHour 46 = .ok (.iload_n 2, 1) := by decide +kernel
theorem dX11_oneHour_47 : decode cX11_oneHour 47 = .ok (.iconst 3, 1) := by decide +kernel
theorem dX11_oneHour_48 : decode cX11_oneHour 48 = .ok (.invokestatic 67, 3) := by decide +kernel
theorem dX11_oneHour_51 : decode cX11_oneHour 51 = .ok (.bipush 9, 2) := by decide +kernel
theorem dX11_oneHour_53 : decode cX11_oneHour 53 = .ok (.aload_n 0, 1) := by decide +kernel
theorem dX11_oneHour_54 : decode cX11_oneHour 54 = .ok (.iload_n 2, 1) := by decide +kernel
theorem dX11_oneHour_55 : decode cX11_oneHour 55 = .ok (.iconst 3, 1) := by decide +kernel
theorem dX11_oneHour_56 : decode cX11_oneHour 56 = .ok (.invokevirtual 71, 3) := by decide +kernel
theorem dX11_oneHour_59 : decode cX11_oneHour 59 = .ok (.aload_n 0, 1) := by decide +kernel
theorem dX11_oneHour_60 : decode cX11_oneHour 60 = .ok (.iconst 2, 1) := by decide +kernel
theorem dX11_oneHour_61 : decode cX11_oneHour 61 = .ok (.iload_n 2, 1) := by decide +kernel
theorem dX11_oneHour_62 : decode cX11_oneHour 62 = .ok (.invokevirtual 318, 3) := by decide +kernel
theorem dX11_oneHour_65 : decode cX11_oneHour 65 = .ok (.iadd, 1) := by decide +kernel
theorem dX11_oneHour_66 : decode cX11_oneHour 66 = .ok (.invokestatic 345, 3) := by decide +kernel
theorem dX11_oneHour_69 : decode cX11_oneHour 69 = .ok (.iastore, 1) := by decide +kernel
theorem dX11_oneHour_70 : decode cX11_oneHour 70 = .ok (.iinc 2 1, 3) := by decide +kernel
theorem dX11_oneHour_73 : decode cX11_oneHour 73 = .ok (.goto (-63), 3) := by decide +kernel
theorem dX11_oneHour_76 : decode cX11_oneHour 76 = .ok (.iconst 0, 1) := by decide +kernel
theorem dX11_oneHour_77 : decode cX11_oneHour 77 = .ok (.istore_n 2, 1) := by decide +kernel
theorem dX11_oneHour_78 : decode cX11_oneHour 78 = .ok (.iload_n 2, 1) := by decide +kernel
theorem dX11_oneHour_79 : decode cX11_oneHour 79 = .ok (.aload_n 0, 1) := by decide +kernel
theorem dX11_oneHour_80 : decode cX11_oneHour 80 = .ok (.invokevirtual 88, 3) := by decide +kernel
theorem dX11_oneHour_83 : decode cX11_oneHour 83 = .ok (.if_icmp .ge 14, 3) := by decide +kernel
theorem dX11_oneHour_86 : decode cX11_oneHour 86 = .ok (.aload_n 0, 1) := by decide +kernel
theorem dX11_oneHour_87 : decode cX11_oneHour 87 = .ok (.iload_n 2, 1) := by decide +kernel
theorem dX11_oneHour_88 : decode cX11_oneHour 88 = .ok (.invokevirtual 365, 3) := by decide +kernel
theorem dX11_oneHour_91 : decode cX11_oneHour 91 = .ok (.iinc 2 1, 3) := by decide +kernel
theorem dX11_oneHour_94 : decode cX11_oneHour 94 = .ok (.goto (-16), 3) := by decide +kernel
theorem dX11_oneHour_97 : decode cX11_oneHour 97 = .ok (.aload_n 0, 1) := by decide +kernel
theorem dX11_oneHour_98 : decode cX11_oneHour 98 = .ok (.getfield 13, 3) := by decide +kernel
theorem dX11_oneHour_101 : decode cX11_oneHour 101 = .ok (.iconst 4, 1) := by decide +kernel
theorem dX11_oneHour_102 : decode cX11_oneHour 102 = .ok (.iaload, 1) := by decide +kernel
theorem dX11_oneHour_103 : decode cX11_oneHour 103 = .ok (.istore_n 2, 1) := by decide +kernel
theorem dX11_oneHour_104 : decode cX11_oneHour 104 = .ok (.aload_n 0, 1) := by decide +kernel
theorem dX11_oneHour_105 : decode cX11_oneHour 105 = .ok (.getfield 13, 3) := by decide +kernel
theorem dX11_oneHour_108 : decode cX11_oneHour 108 = .ok (.iconst 4, 1) := by decide +kernel
theorem dX11_oneHour_109 : decode cX11_oneHour 109 = .ok (.sipush 9999, 3) := by decide +kernel
theorem dX11_oneHour_112 : decode cX11_oneHour 112 = .ok (.iload_n 2, 1) := by decide +kernel
theorem dX11_oneHour_113 : decode cX11_oneHour 113 = .ok (.iconst 1, 1) := by decide +kernel
theorem dX11_oneHour_114 : decode cX11_oneHour 114 = .ok (.iadd, 1) := by decide +kernel
theorem dX11_oneHour_115 : decode cX11_oneHour 115 = .ok (.invokestatic 345, 3) := by decide +kernel
theorem dX11_oneHour_118 : decode cX11_oneHour 118 = .ok (.iastore, 1) := by decide +kernel
theorem dX11_oneHour_119 : decode cX11_oneHour 119 = .ok (.iconst 0, 1) := by decide +kernel
theorem dX11_oneHour_120 : decode cX11_oneHour 120 = .ok (.istore_n 3, 1) := by decide +kernel
theorem dX11_oneHour_121 : decode cX11_oneHour 121 = .ok (.iload_n 3, 1) := by decide +kernel
theorem dX11_oneHour_122 : decode cX11_oneHour 122 = .ok (.aload_n 0, 1) := by decide +kernel
theorem dX11_oneHour_123 : decode cX11_oneHour 123 = .ok (.invokevirtual 80, 3) := by decide +kernel
theorem dX11_oneHour_126 : decode cX11_oneHour 126 = .ok (.if_icmp .ge 71, 3) := by decide +kernel
theorem dX11_oneHour_129 : decode cX11_oneHour 129 = .ok (.aload_n 0, 1) := by decide +kernel
theorem dX11_oneHour_130 : decode cX11_oneHour 130 = .ok (.iload_n 3, 1) := by decide +kernel
theorem dX11_oneHour_131 : decode cX11_oneHour 131 = .ok (.invokevirtual 333, 3) := by decide +kernel
theorem dX11_oneHour_134 : decode cX11_oneHour 134 = .ok (.ifCond .ne 57, 3) := by decide +kernel
theorem dX11_oneHour_137 : decode cX11_oneHour 137 = .ok (.aload_n 0, 1) := by decide +kernel
theorem dX11_oneHour_138 : decode cX11_oneHour 138 = .ok (.aload_n 0, 1) := by decide +kernel
theorem dX11_oneHour_139 : decode cX11_oneHour 139 = .ok (.iload_n 3, 1) := by decide +kernel
theorem dX11_oneHour_140 : decode cX11_oneHour 140 = .ok (.iconst 0, 1) := by decide +kernel
theorem dX11_oneHour_141 : decode cX11_oneHour 141 = .ok (.invokevirtual 71, 3) := by decide +kernel
theorem dX11_oneHour_144 : decode cX11_oneHour 144 = .ok (.invokevirtual 305, 3) := by decide +kernel
theorem dX11_oneHour_147 : decode cX11_oneHour 147 = .ok (.aload_n 0, 1) := by decide +kernel
theorem dX11_oneHour_148 : decode cX11_oneHour 148 = .ok (.iload_n 3, 1) := by decide +kernel
theorem dX11_oneHour_149 : decode cX11_oneHour 149 = .ok (.invokevirtual 324, 3) := by decide +kernel
theorem dX11_oneHour_152 : decode cX11_oneHour 152 = .ok (.iconst 3, 1) := by decide +kernel
theorem dX11_oneHour_153 : decode cX11_oneHour 153 = .ok (.iadd, 1) := by decide +kernel
theorem dX11_oneHour_154 : decode cX11_oneHour 154 = .ok (.if_icmp .gt 6, 3) := by decide +kernel
theorem dX11_oneHour_157 : decode cX11_oneHour 157 = .ok (.goto 34, 3) := by decide +kernel
theorem dX11_oneHour_160 : decode cX11_oneHour 160 = .ok (.aload_n 0, 1) := by decide +kernel
theorem dX11_oneHour_161 : decode cX11_oneHour 161 = .ok (.getfield 13, 3) := by decide +kernel
theorem dX11_oneHour_164 : decode cX11_oneHour 164 = .ok (.iload_n 3, 1) := by decide +kernel
theorem dX11_oneHour_165 : decode cX11_oneHour 165 = .ok (.iconst 4, 1) := by decide +kernel
theorem dX11_oneHour_166 : decode cX11_oneHour 166 = .ok (.invokestatic 67, 3) := by decide +kernel
theorem dX11_oneHour_169 : decode cX11_oneHour 169 = .ok (.iconst 1, 1) := by decide +kernel
theorem dX11_oneHour_170 : decode cX11_oneHour 170 = .ok (.iastore, 1) := by decide +kernel
theorem dX11_oneHour_171 : decode cX11_oneHour 171 = .ok (.aload_n 0, 1) := by decide +kernel
theorem dX11_oneHour_172 : decode cX11_oneHour 172 = .ok (.iload_n 3, 1) := by decide +kernel
theorem dX11_oneHour_173 : decode cX11_oneHour 173 = .ok (.iconst 1, 1) := by decide +kernel
theorem dX11_oneHour_174 : decode cX11_oneHour 174 = .ok (.aload_n 0, 1) := by decide +kernel
theorem dX11_oneHour_175 : decode cX11_oneHour 175 = .ok (.iload_n 3, 1) := by decide +kernel
theorem dX11_oneHour_176 : decode cX11_oneHour 176 = .ok (.iconst 0, 1) := by decide +kernel
theorem dX11_oneHour_177 : decode cX11_oneHour 177 = .ok (.invokevirtual 71, 3) := by decide +kernel
theorem dX11_oneHour_180 : decode cX11_oneHour 180 = .ok (.invokevirtual 354, 3) := by decide +kernel
theorem dX11_oneHour_183 : decode cX11_oneHour 183 = .ok (.aload_n 0, 1) := by decide +kernel
theorem dX11_oneHour_184 : decode cX11_oneHour 184 = .ok (.getfield 13, 3) := by decide +kernel
theorem dX11_oneHour_187 : decode cX11_oneHour 187 = .ok (.bipush 92, 2) := by decide +kernel
theorem dX11_oneHour_189 : decode cX11_oneHour 189 = .ok (.iload_n 2, 1) := by decide +kernel
theorem dX11_oneHour_190 : decode cX11_oneHour 190 = .ok (.iastore, 1) := by decide +kernel
theorem dX11_oneHour_191 : decode cX11_oneHour 191 = .ok (.iinc 3 1, 3) := by decide +kernel
theorem dX11_oneHour_194 : decode cX11_oneHour 194 = .ok (.goto (-73), 3) := by decide +kernel
theorem dX11_oneHour_197 : decode cX11_oneHour 197 = .ok (.return_, 1) := by decide +kernel
theorem dX11_keepsAll_0 : decode cX11_keepsAll 0 = .ok (.iconst 0, 1) := by decide +kernel
theorem dX11_keepsAll_1 : decode cX11_keepsAll 1 = .ok (.istore_n 1, 1) := by decide +kernel
theorem dX11_keepsAll_2 : decode cX11_keepsAll 2 = .ok (.iload_n 1, 1) := by decide +kernel
theorem dX11_keepsAll_3 : decode cX11_keepsAll 3 = .ok (.sipush 332, 3) := by decide +kernel
theorem dX11_keepsAll_6 : decode cX11_keepsAll 6 = .ok (.if_icmp .ge 21, 3) := by decide +kernel
theorem dX11_keepsAll_9 : decode cX11_keepsAll 9 = .ok (.aload_n 0, 1) := by decide +kernel
theorem dX11_keepsAll_10 : decode cX11_keepsAll 10 = .ok (.getfield 23, 3) := by decide +kernel
theorem dX11_keepsAll_13 : decode cX11_keepsAll 13 = .ok (.iload_n 1, 1) := by decide +kernel
theorem dX11_keepsAll_14 : decode cX11_keepsAll 14 = .ok (.aload_n 0, 1) := by decide +kernel
theorem dX11_keepsAll_15 : decode cX11_keepsAll 15 = .ok (.getfield 13, 3) := by decide +kernel
theorem dX11_keepsAll_18 : decode cX11_keepsAll 18 = .ok (.iload_n 1, 1) := by decide +kernel
theorem dX11_keepsAll_19 : decode cX11_keepsAll 19 = .ok (.iaload, 1) := by decide +kernel
theorem dX11_keepsAll_20 : decode cX11_keepsAll 20 = .ok (.iastore, 1) := by decide +kernel
theorem dX11_keepsAll_21 : decode cX11_keepsAll 21 = .ok (.iinc 1 1, 3) := by decide +kernel
theorem dX11_keepsAll_24 : decode cX11_keepsAll 24 = .ok (.goto (-22), 3) := by decide +kernel
theorem dX11_keepsAll_27 : decode cX11_keepsAll 27 = .ok (.return_, 1) := by decide +kernel
theorem dX11_bringsBack_0 : decode cX11_bringsBack 0 = .ok (.iconst 0, 1) := by decide +kernel
theorem dX11_bringsBack_1 : decode cX11_bringsBack 1 = .ok (.istore_n 1, 1) := by decide +kernel
theorem dX11_bringsBack_2 : decode cX11_bringsBack 2 = .ok (.iload_n 1, 1) := by decide +kernel
theorem dX11_bringsBack_3 : decode cX11_bringsBack 3 = .ok (.sipush 332, 3) := by decide +kernel
theorem dX11_bringsBack_6 : decode cX11_bringsBack 6 = .ok (.if_icmp .ge 21, 3) := by decide +kernel
theorem dX11_bringsBack_9 : decode cX11_bringsBack 9 = .ok (.aload_n 0, 1) := by decide +kernel
theorem dX11_bringsBack_10 : decode cX11_bringsBack 10 = .ok (.getfield 13, 3) := by decide +kernel
theorem dX11_bringsBack_13 : decode cX11_bringsBack 13 = .ok (.iload_n 1, 1) := by decide +kernel
theorem dX11_bringsBack_14 : decode cX11_bringsBack 14 = .ok (.aload_n 0, 1) := by decide +kernel
theorem dX11_bringsBack_15 : decode cX11_bringsBack 15 = .ok (.getfield 23, 3) := by decide +kernel
theorem dX11_bringsBack_18 : decode cX11_bringsBack 18 = .ok (.iload_n 1, 1) := by decide +kernel
theorem dX11_bringsBack_19 : decode cX11_bringsBack 19 = .ok (.iaload, 1) := by decide +kernel
theorem dX11_bringsBack_20 : decode cX11_bringsBack 20 = .ok (.iastore, 1) := by decide +kernel
theorem dX11_bringsBack_21 : decode cX11_bringsBack 21 = .ok (.iinc 1 1, 3) := by decide +kernel
theorem dX11_bringsBack_24 : decode cX11_bringsBack 24 = .ok (.goto (-22), 3) := by decide +kernel
theorem dX11_bringsBack_27 : decode cX11_bringsBack 27 = .ok (.return_, 1) := by decide +kernel
theorem dX11_keptOnes_0 : decode cX11_keptOnes 0 = .ok (.iconst 0, 1) := by decide +kernel
theorem dX11_keptOnes_1 : decode cX11_keptOnes 1 = .ok (.istore_n 1, 1) := by decide +kernel
theorem dX11_keptOnes_2 : decode cX11_keptOnes 2 = .ok (.iconst 0, 1) := by decide +kernel
theorem dX11_keptOnes_3 : decode cX11_keptOnes 3 = .ok (.istore_n 2, 1) := by decide +kernel
theorem dX11_keptOnes_4 : decode cX11_keptOnes 4 = .ok (.iload_n 2, 1) := by decide +kernel
theorem dX11_keptOnes_5 : decode cX11_keptOnes 5 = .ok (.aload_n 0, 1) := by decide +kernel
theorem dX11_keptOnes_6 : decode cX11_keptOnes 6 = .ok (.invokevirtual 88, 3) := by decide +kernel
theorem dX11_keptOnes_9 : decode cX11_keptOnes 9 = .ok (.if_icmp .ge 27, 3) := by decide +kernel
theorem dX11_keptOnes_12 : decode cX11_keptOnes 12 = .ok (.iload_n 1, 1) := by decide +kernel
theorem dX11_keptOnes_13 : decode cX11_keptOnes 13 = .ok (.aload_n 0, 1) := by decide +kernel
theorem dX11_keptOnes_14 : decode cX11_keptOnes 14 = .ok (.iload_n 2, 1) := by decide +kernel
theorem dX11_keptOnes_15 : decode cX11_keptOnes 15 = .ok (.invokevirtual 342, 3) := by decide +kernel
theorem dX11_keptOnes_18 : decode cX11_keptOnes 18 = .ok (.ifCond .eq 9, 3) := by decide +kernel
theorem dX11_keptOnes_21 : decode cX11_keptOnes 21 = .ok (.iconst 1, 1) := by decide +kernel
theorem dX11_keptOnes_22 : decode cX11_keptOnes 22 = .ok (.iload_n 2, 1) := by decide +kernel
theorem dX11_keptOnes_23 : decode cX11_keptOnes 23 = .ok (.ishl, 1) := by decide +kernel
theorem dX11_keptOnes_24 : decode cX11_keptOnes 24 = .ok (.goto 4, 3) := by decide +kernel
theorem dX11_keptOnes_27 : decode cX11_keptOnes 27 = .ok (.iconst 0, 1) := by decide +kernel
theorem dX11_keptOnes_28 : decode cX11_keptOnes 28 = .ok (.ior, 1) := by decide +kernel
theorem dX11_keptOnes_29 : decode cX11_keptOnes 29 = .ok (.istore_n 1, 1) := by decide +kernel
theorem dX11_keptOnes_30 : decode cX11_keptOnes 30 = .ok (.iinc 2 1, 3) := by decide +kernel
theorem dX11_keptOnes_33 : decode cX11_keptOnes 33 = .ok (.goto (-29), 3) := by decide +kernel
theorem dX11_keptOnes_36 : decode cX11_keptOnes 36 = .ok (.iload_n 1, 1) := by decide +kernel
theorem dX11_keptOnes_37 : decode cX11_keptOnes 37 = .ok (.ireturn, 1) := by decide +kernel
theorem dX11_drownedOnes_0 : decode cX11_drownedOnes 0 = .ok (.iconst 0, 1) := by decide +kernel
theorem dX11_drownedOnes_1 : decode cX11_drownedOnes 1 = .ok (.istore_n 1, 1) := by decide +kernel
theorem dX11_drownedOnes_2 : decode cX11_drownedOnes 2 = .ok (.iconst 0, 1) := by decide +kernel
theorem dX11_drownedOnes_3 : decode cX11_drownedOnes 3 = .ok (.istore_n 2, 1) := by decide +kernel
theorem dX11_drownedOnes_4 : decode cX11_drownedOnes 4 = .ok (.iload_n 2, 1) := by decide +kernel
theorem dX11_drownedOnes_5 : decode cX11_drownedOnes 5 = .ok (.aload_n 0, 1) := by decide +kernel
theorem dX11_drownedOnes_6 : decode cX11_drownedOnes 6 = .ok (.invokevirtual 80, 3) := by decide +kernel
theorem dX11_drownedOnes_9 : decode cX11_drownedOnes 9 = .ok (.if_icmp .ge 27, 3) := by decide +kernel
theorem dX11_drownedOnes_12 : decode cX11_drownedOnes 12 = .ok (.iload_n 1, 1) := by decide +kernel
theorem dX11_drownedOnes_13 : decode cX11_drownedOnes 13 = .ok (.aload_n 0, 1) := by decide +kernel
theorem dX11_drownedOnes_14 : decode cX11_drownedOnes 14 = .ok (.iload_n 2, 1) := by decide +kernel
theorem dX11_drownedOnes_15 : decode cX11_drownedOnes 15 = .ok (.invokevirtual 333, 3) := by decide +kernel
theorem dX11_drownedOnes_18 : decode cX11_drownedOnes 18 = .ok (.ifCond .eq 9, 3) := by decide +kernel
theorem dX11_drownedOnes_21 : decode cX11_drownedOnes 21 = .ok (.iconst 1, 1) := by decide +kernel
theorem dX11_drownedOnes_22 : decode cX11_drownedOnes 22 = .ok (.iload_n 2, 1) := by decide +kernel
theorem dX11_drownedOnes_23 : decode cX11_drownedOnes 23 = .ok (.ishl, 1) := by decide +kernel
theorem dX11_drownedOnes_24 : decode cX11_drownedOnes 24 = .ok (.goto 4, 3) := by decide +kernel
theorem dX11_drownedOnes_27 : decode cX11_drownedOnes 27 = .ok (.iconst 0, 1) := by decide +kernel
theorem dX11_drownedOnes_28 : decode cX11_drownedOnes 28 = .ok (.ior, 1) := by decide +kernel
theorem dX11_drownedOnes_29 : decode cX11_drownedOnes 29 = .ok (.istore_n 1, 1) := by decide +kernel
theorem dX11_drownedOnes_30 : decode cX11_drownedOnes 30 = .ok (.iinc 2 1, 3) := by decide +kernel
theorem dX11_drownedOnes_33 : decode cX11_drownedOnes 33 = .ok (.goto (-29), 3) := by decide +kernel
theorem dX11_drownedOnes_36 : decode cX11_drownedOnes 36 = .ok (.iload_n 1, 1) := by decide +kernel
theorem dX11_drownedOnes_37 : decode cX11_drownedOnes 37 = .ok (.ireturn, 1) := by decide +kernel
theorem dX11_goesBy_0 : decode cX11_goesBy 0 = .ok (.aload_n 0, 1) := by decide +kernel
theorem dX11_goesBy_1 : decode cX11_goesBy 1 = .ok (.invokevirtual 368, 3) := by decide +kernel
theorem dX11_goesBy_4 : decode cX11_goesBy 4 = .ok (.invokestatic 371, 3) := by decide +kernel
theorem dX11_goesBy_7 : decode cX11_goesBy 7 = .ok (.istore_n 3, 1) := by decide +kernel
theorem dX11_goesBy_8 : decode cX11_goesBy 8 = .ok (.iconst 0, 1) := by decide +kernel
theorem dX11_goesBy_9 : decode cX11_goesBy 9 = .ok (.istore 4, 2) := by decide +kernel
theorem dX11_goesBy_11 : decode cX11_goesBy 11 = .ok (.iload 4, 2) := by decide +kernel
theorem dX11_goesBy_13 : decode cX11_goesBy 13 = .ok (.iload_n 1, 1) := by decide +kernel
theorem dX11_goesBy_14 : decode cX11_goesBy 14 = .ok (.if_icmp .ge 14, 3) := by decide +kernel
theorem dX11_goesBy_17 : decode cX11_goesBy 17 = .ok (.aload_n 0, 1) := by decide +kernel
theorem dX11_goesBy_18 : decode cX11_goesBy 18 = .ok (.iload_n 2, 1) := by decide +kernel
theorem dX11_goesBy_19 : decode cX11_goesBy 19 = .ok (.invokevirtual 376, 3) := by decide +kernel
theorem dX11_goesBy_22 : decode cX11_goesBy 22 = .ok (.iinc 4 1, 3) := by decide +kernel
theorem dX11_goesBy_25 : decode cX11_goesBy 25 = .ok (.goto (-14), 3) := by decide +kernel
theorem dX11_goesBy_28 : decode cX11_goesBy 28 = .ok (.aload_n 0, 1) := by decide +kernel
theorem dX11_goesBy_29 : decode cX11_goesBy 29 = .ok (.invokevirtual 368, 3) := by decide +kernel
theorem dX11_goesBy_32 : decode cX11_goesBy 32 = .ok (.invokestatic 371, 3) := by decide +kernel
theorem dX11_goesBy_35 : decode cX11_goesBy 35 = .ok (.iload_n 3, 1) := by decide +kernel
theorem dX11_goesBy_36 : decode cX11_goesBy 36 = .ok (.isub, 1) := by decide +kernel
theorem dX11_goesBy_37 : decode cX11_goesBy 37 = .ok (.ireturn, 1) := by decide +kernel
theorem dX11_hours_0 : decode cX11_hours 0 = .ok (.aload_n 0, 1) := by decide +kernel
theorem dX11_hours_1 : decode cX11_hours 1 = .ok (.iconst 0, 1) := by decide +kernel
theorem dX11_hours_2 : decode cX11_hours 2 = .ok (.putfield 3, 3) := by decide +kernel
theorem dX11_hours_5 : decode cX11_hours 5 = .ok (.aload_n 0, 1) := by decide +kernel
theorem dX11_hours_6 : decode cX11_hours 6 = .ok (.iload_n 1, 1) := by decide +kernel
theorem dX11_hours_7 : decode cX11_hours 7 = .ok (.iconst 1, 1) := by decide +kernel
theorem dX11_hours_8 : decode cX11_hours 8 = .ok (.bipush 100, 2) := by decide +kernel
theorem dX11_hours_10 : decode cX11_hours 10 = .ok (.invokestatic 84, 3) := by decide +kernel
theorem dX11_hours_13 : decode cX11_hours 13 = .ok (.ifCond .ne 7, 3) := by decide +kernel
theorem dX11_hours_16 : decode cX11_hours 16 = .ok (.iconst 1, 1) := by decide +kernel
theorem dX11_hours_17 : decode cX11_hours 17 = .ok (.goto 4, 3) := by decide +kernel
theorem dX11_hours_20 : decode cX11_hours 20 = .ok (.iconst 0, 1) := by decide +kernel
theorem dX11_hours_21 : decode cX11_hours 21 = .ok (.iconst 1, 1) := by decide +kernel
theorem dX11_hours_22 : decode cX11_hours 22 = .ok (.invokevirtual 266, 3) := by decide +kernel
theorem dX11_hours_25 : decode cX11_hours 25 = .ok (.ifCond .eq 5, 3) := by decide +kernel
theorem dX11_hours_28 : decode cX11_hours 28 = .ok (.iconst 0, 1) := by decide +kernel
theorem dX11_hours_29 : decode cX11_hours 29 = .ok (.ireturn, 1) := by decide +kernel
theorem dX11_hours_30 : decode cX11_hours 30 = .ok (.aload_n 0, 1) := by decide +kernel
theorem dX11_hours_31 : decode cX11_hours 31 = .ok (.invokevirtual 336, 3) := by decide +kernel
theorem dX11_hours_34 : decode cX11_hours 34 = .ok (.aload_n 0, 1) := by decide +kernel
theorem dX11_hours_35 : decode cX11_hours 35 = .ok (.iload_n 1, 1) := by decide +kernel
theorem dX11_hours_36 : decode cX11_hours 36 = .ok (.iconst 0, 1) := by decide +kernel
theorem dX11_hours_37 : decode cX11_hours 37 = .ok (.invokevirtual 380, 3) := by decide +kernel
theorem dX11_hours_40 : decode cX11_hours 40 = .ok (.ireturn, 1) := by decide +kernel
theorem dX11_ahead_0 : decode cX11_ahead 0 = .ok (.aload_n 0, 1) := by decide +kernel
theorem dX11_ahead_1 : decode cX11_ahead 1 = .ok (.iconst 0, 1) := by decide +kernel
theorem dX11_ahead_2 : decode cX11_ahead 2 = .ok (.putfield 3, 3) := by decide +kernel
theorem dX11_ahead_5 : decode cX11_ahead 5 = .ok (.aload_n 0, 1) := by decide +kernel
theorem dX11_ahead_6 : decode cX11_ahead 6 = .ok (.aload_n 0, 1) := by decide +kernel
theorem dX11_ahead_7 : decode cX11_ahead 7 = .ok (.iload_n 1, 1) := by decide +kernel
theorem dX11_ahead_8 : decode cX11_ahead 8 = .ok (.invokevirtual 321, 3) := by decide +kernel
theorem dX11_ahead_11 : decode cX11_ahead 11 = .ok (.iconst 1, 1) := by decide +kernel
theorem dX11_ahead_12 : decode cX11_ahead 12 = .ok (.invokevirtual 266, 3) := by decide +kernel
theorem dX11_ahead_15 : decode cX11_ahead 15 = .ok (.ifCond .ne 26, 3) := by decide +kernel
theorem dX11_ahead_18 : decode cX11_ahead 18 = .ok (.aload_n 0, 1) := by decide +kernel
theorem dX11_ahead_19 : decode cX11_ahead 19 = .ok (.iload_n 2, 1) := by decide +kernel
theorem dX11_ahead_20 : decode cX11_ahead 20 = .ok (.iconst 0, 1) := by decide +kernel
theorem dX11_ahead_21 : decode cX11_ahead 21 = .ok (.bipush 100, 2) := by decide +kernel
theorem dX11_ahead_23 : decode cX11_ahead 23 = .ok (.invokestatic 84, 3) := by decide +kernel
theorem dX11_ahead_26 : decode cX11_ahead 26 = .ok (.ifCond .ne 7, 3) := by decide +kernel
theorem dX11_ahead_29 : decode cX11_ahead 29 = .ok (.iconst 1, 1) := by decide +kernel
theorem dX11_ahead_30 : decode cX11_ahead 30 = .ok (.goto 4, 3) := by decide +kernel
theorem dX11_ahead_33 : decode cX11_ahead 33 = .ok (.iconst 0, 1) := by decide +kernel
theorem dX11_ahead_34 : decode cX11_ahead 34 = .ok (.iconst 2, 1) := by decide +kernel
theorem dX11_ahead_35 : decode cX11_ahead 35 = .ok (.invokevirtual 266, 3) := by decide +kernel
theorem dX11_ahead_38 : decode cX11_ahead 38 = .ok (.ifCond .eq 5, 3) := by decide +kernel
theorem dX11_ahead_41 : decode cX11_ahead 41 = .ok (.iconst 0, 1) := by decide +kernel
theorem dX11_ahead_42 : decode cX11_ahead 42 = .ok (.ireturn, 1) := by decide +kernel
theorem dX11_ahead_43 : decode cX11_ahead 43 = .ok (.aload_n 0, 1) := by decide +kernel
theorem dX11_ahead_44 : decode cX11_ahead 44 = .ok (.invokevirtual 384, 3) := by decide +kernel
theorem dX11_ahead_47 : decode cX11_ahead 47 = .ok (.aload_n 0, 1) := by decide +kernel
theorem dX11_ahead_48 : decode cX11_ahead 48 = .ok (.iload_n 2, 1) := by decide +kernel
theorem dX11_ahead_49 : decode cX11_ahead 49 = .ok (.iconst 1, 1) := by decide +kernel
theorem dX11_ahead_50 : decode cX11_ahead 50 = .ok (.invokevirtual 380, 3) := by decide +kernel
theorem dX11_ahead_53 : decode cX11_ahead 53 = .ok (.pop, 1) := by decide +kernel
theorem dX11_ahead_54 : decode cX11_ahead 54 = .ok (.aload_n 0, 1) := by decide +kernel
theorem dX11_ahead_55 : decode cX11_ahead 55 = .ok (.iload_n 1, 1) := by decide +kernel
theorem dX11_ahead_56 : decode cX11_ahead 56 = .ok (.iconst 0, 1) := by decide +kernel
theorem dX11_ahead_57 : decode cX11_ahead 57 = .ok (.invokevirtual 71, 3) := by decide +kernel
theorem dX11_ahead_60 : decode cX11_ahead 60 = .ok (.istore_n 3, 1) := by decide +kernel
theorem dX11_ahead_61 : decode cX11_ahead 61 = .ok (.aload_n 0, 1) := by decide +kernel
theorem dX11_ahead_62 : decode cX11_ahead 62 = .ok (.invokevirtual 387, 3) := by decide +kernel
theorem dX11_ahead_65 : decode cX11_ahead 65 = .ok (.iload_n 3, 1) := by decide +kernel
theorem dX11_ahead_66 : decode cX11_ahead 66 = .ok (.ireturn, 1) := by decide +kernel
theorem dX11_doomed_0 : decode cX11_doomed 0 = .ok (.aload_n 0, 1) := by decide +kernel
theorem dX11_doomed_1 : decode cX11_doomed 1 = .ok (.iconst 0, 1) := by decide +kernel
theorem dX11_doomed_2 : decode cX11_doomed 2 = .ok (.putfield 3, 3) := by decide +kernel
theorem dX11_doomed_5 : decode cX11_doomed 5 = .ok (.aload_n 0, 1) := by decide +kernel
theorem dX11_doomed_6 : decode cX11_doomed 6 = .ok (.iload_n 1, 1) := by decide +kernel
theorem dX11_doomed_7 : decode cX11_doomed 7 = .ok (.iconst 0, 1) := by decide +kernel
theorem dX11_doomed_8 : decode cX11_doomed 8 = .ok (.bipush 100, 2) := by decide +kernel
theorem dX11_doomed_10 : decode cX11_doomed 10 = .ok (.invokestatic 84, 3) := by decide +kernel
theorem dX11_doomed_13 : decode cX11_doomed 13 = .ok (.ifCond .ne 7, 3) := by decide +kernel
theorem dX11_doomed_16 : decode cX11_doomed 16 = .ok (.iconst 1, 1) := by decide +kernel
theorem dX11_doomed_17 : decode cX11_doomed 17 = .ok (.goto 4, 3) := by decide +kernel
theorem dX11_doomed_20 : decode cX11_doomed 20 = .ok (.iconst 0, 1) := by decide +kernel
theorem dX11_doomed_21 : decode cX11_doomed 21 = .ok (.iconst 1, 1) := by decide +kernel
theorem dX11_doomed_22 : decode cX11_doomed 22 = .ok (.invokevirtual 266, 3) := by decide +kernel
theorem dX11_doomed_25 : decode cX11_doomed 25 = .ok (.ifCond .eq 5, 3) := by decide +kernel
theorem dX11_doomed_28 : decode cX11_doomed 28 = .ok (.iconst 0, 1) := by decide +kernel
theorem dX11_doomed_29 : decode cX11_doomed 29 = .ok (.ireturn, 1) := by decide +kernel
theorem dX11_doomed_30 : decode cX11_doomed 30 = .ok (.aload_n 0, 1) := by decide +kernel
theorem dX11_doomed_31 : decode cX11_doomed 31 = .ok (.invokevirtual 390, 3) := by decide +kernel
theorem dX11_doomed_34 : decode cX11_doomed 34 = .ok (.istore_n 2, 1) := by decide +kernel
theorem dX11_doomed_35 : decode cX11_doomed 35 = .ok (.aload_n 0, 1) := by decide +kernel
theorem dX11_doomed_36 : decode cX11_doomed 36 = .ok (.invokevirtual 384, 3) := by decide +kernel
theorem dX11_doomed_39 : decode cX11_doomed 39 = .ok (.aload_n 0, 1) := by decide +kernel
theorem dX11_doomed_40 : decode cX11_doomed 40 = .ok (.iload_n 1, 1) := by decide +kernel
theorem dX11_doomed_41 : decode cX11_doomed 41 = .ok (.iconst 1, 1) := by decide +kernel
theorem dX11_doomed_42 : decode cX11_doomed 42 = .ok (.invokevirtual 380, 3) := by decide +kernel
theorem dX11_doomed_45 : decode cX11_doomed 45 = .ok (.pop, 1) := by decide +kernel
theorem dX11_doomed_46 : decode cX11_doomed 46 = .ok (.aload_n 0, 1) := by decide +kernel
theorem dX11_doomed_47 : decode cX11_doomed 47 = .ok (.invokevirtual 390, 3) := by decide +kernel
theorem dX11_doomed_50 : decode cX11_doomed 50 = .ok (.istore_n 3, 1) := by decide +kernel
theorem dX11_doomed_51 : decode cX11_doomed 51 = .ok (.aload_n 0, 1) := by decide +kernel
theorem dX11_doomed_52 : decode cX11_doomed 52 = .ok (.invokevirtual 387, 3) := by decide +kernel
theorem dX11_doomed_55 : decode cX11_doomed 55 = .ok (.iload_n 3, 1) := by decide +kernel
theorem dX11_doomed_56 : decode cX11_doomed 56 = .ok (.iload_n 2, 1) := by decide +kernel
theorem dX11_doomed_57 : decode cX11_doomed 57 = .ok (.iconst (-1), 1) := by decide +kernel
theorem dX11_doomed_58 : decode cX11_doomed 58 = .ok (.ixor, 1) := by decide +kernel
theorem dX11_doomed_59 : decode cX11_doomed 59 = .ok (.iand, 1) := by decide +kernel
theorem dX11_doomed_60 : decode cX11_doomed 60 = .ok (.ireturn, 1) := by decide +kernel
theorem dX11_done_0 : decode cX11_done 0 = .ok (.aload_n 0, 1) := by decide +kernel
theorem dX11_done_1 : decode cX11_done 1 = .ok (.iconst 0, 1) := by decide +kernel
theorem dX11_done_2 : decode cX11_done 2 = .ok (.putfield 3, 3) := by decide +kernel
theorem dX11_done_5 : decode cX11_done 5 = .ok (.aload_n 0, 1) := by decide +kernel
theorem dX11_done_6 : decode cX11_done 6 = .ok (.iload_n 1, 1) := by decide +kernel
theorem dX11_done_7 : decode cX11_done 7 = .ok (.iconst 0, 1) := by decide +kernel
theorem dX11_done_8 : decode cX11_done 8 = .ok (.bipush 100, 2) := by decide +kernel
theorem dX11_done_10 : decode cX11_done 10 = .ok (.invokestatic 84, 3) := by decide +kernel
theorem dX11_done_13 : decode cX11_done 13 = .ok (.ifCond .ne 7, 3) := by decide +kernel
theorem dX11_done_16 : decode cX11_done 16 = .ok (.iconst 1, 1) := by decide +kernel
theorem dX11_done_17 : decode cX11_done 17 = .ok (.goto 4, 3) := by decide +kernel
theorem dX11_done_20 : decode cX11_done 20 = .ok (.iconst 0, 1) := by decide +kernel
theorem dX11_done_21 : decode cX11_done 21 = .ok (.iconst 1, 1) := by decide +kernel
theorem dX11_done_22 : decode cX11_done 22 = .ok (.invokevirtual 266, 3) := by decide +kernel
theorem dX11_done_25 : decode cX11_done 25 = .ok (.ifCond .eq 5, 3) := by decide +kernel
theorem dX11_done_28 : decode cX11_done 28 = .ok (.iconst 0, 1) := by decide +kernel
theorem dX11_done_29 : decode cX11_done 29 = .ok (.ireturn, 1) := by decide +kernel
theorem dX11_done_30 : decode cX11_done 30 = .ok (.aload_n 0, 1) := by decide +kernel
theorem dX11_done_31 : decode cX11_done 31 = .ok (.invokevirtual 384, 3) := by decide +kernel
theorem dX11_done_34 : decode cX11_done 34 = .ok (.aload_n 0, 1) := by decide +kernel
theorem dX11_done_35 : decode cX11_done 35 = .ok (.iload_n 1, 1) := by decide +kernel
theorem dX11_done_36 : decode cX11_done 36 = .ok (.iconst 1, 1) := by decide +kernel
theorem dX11_done_37 : decode cX11_done 37 = .ok (.invokevirtual 380, 3) := by decide +kernel
theorem dX11_done_40 : decode cX11_done 40 = .ok (.pop, 1) := by decide +kernel
theorem dX11_done_41 : decode cX11_done 41 = .ok (.aload_n 0, 1) := by decide +kernel
theorem dX11_done_42 : decode cX11_done 42 = .ok (.invokevirtual 368, 3) := by decide +kernel
theorem dX11_done_45 : decode cX11_done 45 = .ok (.istore_n 2, 1) := by decide +kernel
theorem dX11_done_46 : decode cX11_done 46 = .ok (.aload_n 0, 1) := by decide +kernel
theorem dX11_done_47 : decode cX11_done 47 = .ok (.invokevirtual 387, 3) := by decide +kernel
theorem dX11_done_50 : decode cX11_done 50 = .ok (.iload_n 2, 1) := by decide +kernel
theorem dX11_done_51 : decode cX11_done 51 = .ok (.ireturn, 1) := by decide +kernel
theorem dX11_lost_0 : decode cX11_lost 0 = .ok (.aload_n 0, 1) := by decide +kernel
theorem dX11_lost_1 : decode cX11_lost 1 = .ok (.iconst 0, 1) := by decide +kernel
theorem dX11_lost_2 : decode cX11_lost 2 = .ok (.putfield 3, 3) := by decide +kernel
theorem dX11_lost_5 : decode cX11_lost 5 = .ok (.iconst 0, 1) := by decide +kernel
theorem dX11_lost_6 : decode cX11_lost 6 = .ok (.istore_n 1, 1) := by decide +kernel
theorem dX11_lost_7 : decode cX11_lost 7 = .ok (.iconst 0, 1) := by decide +kernel
theorem dX11_lost_8 : decode cX11_lost 8 = .ok (.istore_n 2, 1) := by decide +kernel
theorem dX11_lost_9 : decode cX11_lost 9 = .ok (.iload_n 2, 1) := by decide +kernel
theorem dX11_lost_10 : decode cX11_lost 10 = .ok (.aload_n 0, 1) := by decide +kernel
theorem dX11_lost_11 : decode cX11_lost 11 = .ok (.invokevirtual 88, 3) := by decide +kernel
theorem dX11_lost_14 : decode cX11_lost 14 = .ok (.if_icmp .ge 42, 3) := by decide +kernel
theorem dX11_lost_17 : decode cX11_lost 17 = .ok (.iload_n 1, 1) := by decide +kernel
theorem dX11_lost_18 : decode cX11_lost 18 = .ok (.aload_n 0, 1) := by decide +kernel
theorem dX11_lost_19 : decode cX11_lost 19 = .ok (.iload_n 2, 1) := by decide +kernel
theorem dX11_lost_20 : decode cX11_lost 20 = .ok (.invokevirtual 342, 3) := by decide +kernel
theorem dX11_lost_23 : decode cX11_lost 23 = .ok (.ifCond .ne 24, 3) := by decide +kernel
theorem dX11_lost_26 : decode cX11_lost 26 = .ok (.aload_n 0, 1) := by decide +kernel
theorem dX11_lost_27 : decode cX11_lost 27 = .ok (.iload_n 2, 1) := by decide +kernel
theorem dX11_lost_28 : decode cX11_lost 28 = .ok (.iconst 2, 1) := by decide +kernel
theorem dX11_lost_29 : decode cX11_lost 29 = .ok (.invokevirtual 77, 3) := by decide +kernel
theorem dX11_lost_32 : decode cX11_lost 32 = .ok (.aload_n 0, 1) := by decide +kernel
theorem dX11_lost_33 : decode cX11_lost 33 = .ok (.getfield 13, 3) := by decide +kernel
theorem dX11_lost_36 : decode cX11_lost 36 = .ok (.iconst 4, 1) := by decide +kernel
theorem dX11_lost_37 : decode cX11_lost 37 = .ok (.iaload, 1) := by decide +kernel
theorem dX11_lost_38 : decode cX11_lost 38 = .ok (.if_icmp .ge 9, 3) := by decide +kernel
theorem dX11_lost_41 : decode cX11_lost 41 = .ok (.iconst 1, 1) := by decide +kernel
theorem dX11_lost_42 : decode cX11_lost 42 = .ok (.iload_n 2, 1) := by decide +kernel
theorem dX11_lost_43 : decode cX11_lost 43 = .ok (.ishl, 1) := by decide +kernel
theorem dX11_lost_44 : decode cX11_lost 44 = .ok (.goto 4, 3) := by decide +kernel
theorem dX11_lost_47 : decode cX11_lost 47 = .ok (.iconst 0, 1) := by decide +kernel
theorem dX11_lost_48 : decode cX11_lost 48 = .ok (.ior, 1) := by decide +kernel
theorem dX11_lost_49 : decode cX11_lost 49 = .ok (.istore_n 1, 1) := by decide +kernel
theorem dX11_lost_50 : decode cX11_lost 50 = .ok (.iinc 2 1, 3) := by decide +kernel
theorem dX11_lost_53 : decode cX11_lost 53 = .ok (.goto (-44), 3) := by decide +kernel
theorem dX11_lost_56 : decode cX11_lost 56 = .ok (.iload_n 1, 1) := by decide +kernel
theorem dX11_lost_57 : decode cX11_lost 57 = .ok (.ireturn, 1) := by decide +kernel
theorem dX11_isDeep_0 : decode cX11_isDeep 0 = .ok (.iload_n 1, 1) := by decide +kernel
theorem dX11_isDeep_1 : decode cX11_isDeep 1 = .ok (.invokestatic 293, 3) := by decide +kernel
theorem dX11_isDeep_4 : decode cX11_isDeep 4 = .ok (.ifCond .ne 12, 3) := by decide +kernel
theorem dX11_isDeep_7 : decode cX11_isDeep 7 = .ok (.aload_n 0, 1) := by decide +kernel
theorem dX11_isDeep_8 : decode cX11_isDeep 8 = .ok (.iload_n 1, 1) := by decide +kernel
theorem dX11_isDeep_9 : decode cX11_isDeep 9 = .ok (.invokevirtual 305, 3) := by decide +kernel
theorem dX11_isDeep_12 : decode cX11_isDeep 12 = .ok (.iload_n 2, 1) := by decide +kernel
theorem dX11_isDeep_13 : decode cX11_isDeep 13 = .ok (.if_icmp .le 7, 3) := by decide +kernel
theorem dX11_isDeep_16 : decode cX11_isDeep 16 = .ok (.iconst 1, 1) := by decide +kernel
theorem dX11_isDeep_17 : decode cX11_isDeep 17 = .ok (.goto 4, 3) := by decide +kernel
theorem dX11_isDeep_20 : decode cX11_isDeep 20 = .ok (.iconst 0, 1) := by decide +kernel
theorem dX11_isDeep_21 : decode cX11_isDeep 21 = .ok (.ireturn, 1) := by decide +kernel
theorem dX11_stranded_0 : decode cX11_stranded 0 = .ok (.aload_n 0, 1) := by decide +kernel
theorem dX11_stranded_1 : decode cX11_stranded 1 = .ok (.iconst 0, 1) := by decide +kernel
theorem dX11_stranded_2 : decode cX11_stranded 2 = .ok (.putfield 3, 3) := by decide +kernel
theorem dX11_stranded_5 : decode cX11_stranded 5 = .ok (.iconst 0, 1) := by decide +kernel
theorem dX11_stranded_6 : decode cX11_stranded 6 = .ok (.istore_n 1, 1) := by decide +kernel
theorem dX11_stranded_7 : decode cX11_stranded 7 = .ok (.iconst 0, 1) := by decide +kernel
theorem dX11_stranded_8 : decode cX11_stranded 8 = .ok (.istore_n 2, 1) := by decide +kernel
theorem dX11_stranded_9 : decode cX11_stranded 9 = .ok (.iload_n 2, 1) := by decide +kernel
theorem dX11_stranded_10 : decode cX11_stranded 10 = .ok (.aload_n 0, 1) := by decide +kernel
theorem dX11_stranded_11 : decode cX11_stranded 11 = .ok (.invokevirtual 80, 3) := by decide +kernel
theorem dX11_stranded_14 : decode cX11_stranded 14 = .ok (.if_icmp .ge 73, 3) := by decide +kernel
theorem dX11_stranded_17 : decode cX11_stranded 17 = .ok (.aload_n 0, 1) := by decide +kernel
theorem dX11_stranded_18 : decode cX11_stranded 18 = .ok (.iload_n 2, 1) := by decide +kernel
theorem dX11_stranded_19 : decode cX11_stranded 19 = .ok (.iconst 0, 1) := by decide +kernel
theorem dX11_stranded_20 : decode cX11_stranded 20 = .ok (.invokevirtual 71, 3) := by decide +kernel
theorem dX11_stranded_23 : decode cX11_stranded 23 = .ok (.istore_n 3, 1) := by decide +kernel
theorem dX11_stranded_24 : decode cX11_stranded 24 = .ok (.aload_n 0, 1) := by decide +kernel
theorem dX11_stranded_25 : decode cX11_stranded 25 = .ok (.iload_n 2, 1) := by decide +kernel
theorem dX11_stranded_26 : decode cX11_stranded 26 = .ok (.invokevirtual 324, 3) := by decide +kernel
theorem dX11_stranded_29 : decode cX11_stranded 29 = .ok (.istore 4, 2) := by decide +kernel
theorem dX11_stranded_31 : decode cX11_stranded 31 = .ok (.iload_n 1, 1) := by decide +kernel
theorem dX11_stranded_32 : decode cX11_stranded 32 = .ok (.aload_n 0, 1) := by decide +kernel
theorem dX11_stranded_33 : decode cX11_stranded 33 = .ok (.iload_n 2, 1) := by decide +kernel
theorem dX11_stranded_34 : decode cX11_stranded 34 = .ok (.invokevirtual 333, 3) := by decide +kernel
theorem dX11_stranded_37 : decode cX11_stranded 37 = .ok (.ifCond .ne 41, 3) := by decide +kernel
theorem dX11_stranded_40 : decode cX11_stranded 40 = .ok (.aload_n 0, 1) := by decide +kernel
theorem dX11_stranded_41 : decode cX11_stranded 41 = .ok (.iload_n 3, 1) := by decide +kernel
theorem dX11_stranded_42 : decode cX11_stranded 42 = .ok (.invokevirtual 305, 3) := by decide +kernel
theorem dX11_stranded_45 : decode cX11_stranded 45 = .ok (.ifCond .ne 33, 3) := by decide +kernel
theorem dX11_stranded_48 : decode cX11_stranded 48 = .ok (.aload_n 0, 1) := by decide +kernel
theorem dX11_stranded_49 : decode cX11_stranded 49 = .ok (.iload_n 3, 1) := by decide +kernel
theorem dX11_stranded_50 : decode cX11_stranded 50 = .ok (.iconst 1, 1) := by decide +kernel
theorem dX11_stranded_51 : decode cX11_stranded 51 = .ok (.isub, 1) := by decide +kernel
theorem dX11_stranded_52 : decode cX11_stranded 52 = .ok (.iload 4, 2) := by decide +kernel
theorem dX11_stranded_54 : decode cX11_stranded 54 = .ok (.invokevirtual 393, 3) := by decide +kernel
theorem dX11_stranded_57 : decode cX11_stranded 57 = .ok (.ifCond .eq 21, 3) := by decide +kernel
theorem dX11_stranded_60 : decode cX11_stranded 60 = .ok (.aload_n 0, 1) := by decide +kernel
theorem dX11_stranded_61 : decode cX11_stranded 61 = .ok (.iload_n 3, 1) := by decide +kernel
theorem dX11_stranded_62 : decode cX11_stranded 62 = .ok (.iconst 1, 1) := by decide +kernel
theorem dX11_stranded_63 : decode cX11_stranded 63 = .ok (.iadd, 1) := by decide +kernel
theorem dX11_stranded_64 : decode cX11_stranded 64 = .ok (.iload 4, 2) := by decide +kernel
theorem dX11_stranded_66 : decode cX11_stranded 66 = .ok (.invokevirtual 393, 3) := by decide +kernel
theorem dX11_stranded_69 : decode cX11_stranded 69 = .ok (.ifCond .eq 9, 3) := by decide +kernel
theorem dX11_stranded_72 : decode cX11_stranded 72 = .ok (.iconst 1, 1) := by decide +kernel
theorem dX11_stranded_73 : decode cX11_stranded 73 = .ok (.iload_n 2, 1) := by decide +kernel
theorem dX11_stranded_74 : decode cX11_stranded 74 = .ok (.ishl, 1) := by decide +kernel
theorem dX11_stranded_75 : decode cX11_stranded 75 = .ok (.goto 4, 3) := by decide +kernel
theorem dX11_stranded_78 : decode cX11_stranded 78 = .ok (.iconst 0, 1) := by decide +kernel
theorem dX11_stranded_79 : decode cX11_stranded 79 = .ok (.ior, 1) := by decide +kernel
theorem dX11_stranded_80 : decode cX11_stranded 80 = .ok (.istore_n 1, 1) := by decide +kernel
theorem dX11_stranded_81 : decode cX11_stranded 81 = .ok (.iinc 2 1, 3) := by decide +kernel
theorem dX11_stranded_84 : decode cX11_stranded 84 = .ok (.goto (-75), 3) := by decide +kernel
theorem dX11_stranded_87 : decode cX11_stranded 87 = .ok (.iload_n 1, 1) := by decide +kernel
theorem dX11_stranded_88 : decode cX11_stranded 88 = .ok (.ireturn, 1) := by decide +kernel
theorem dX11_sideOf_0 : decode cX11_sideOf 0 = .ok (.iconst 0, 1) := by decide +kernel
theorem dX11_sideOf_1 : decode cX11_sideOf 1 = .ok (.istore 6, 2) := by decide +kernel
theorem dX11_sideOf_3 : decode cX11_sideOf 3 = .ok (.iload_n 1, 1) := by decide +kernel
theorem dX11_sideOf_4 : decode cX11_sideOf 4 = .ok (.iload_n 2, 1) := by decide +kernel
theorem dX11_sideOf_5 : decode cX11_sideOf 5 = .ok (.iadd, 1) := by decide +kernel
theorem dX11_sideOf_6 : decode cX11_sideOf 6 = .ok (.istore 7, 2) := by decide +kernel
theorem dX11_sideOf_8 : decode cX11_sideOf 8 = .ok (.iconst 0, 1) := by decide +kernel
theorem dX11_sideOf_9 : decode cX11_sideOf 9 = .ok (.istore 8, 2) := by decide +kernel
theorem dX11_sideOf_11 : decode cX11_sideOf 11 = .ok (.iload 8, 2) := by decide +kernel
theorem dX11_sideOf_13 : decode cX11_sideOf 13 = .ok (.iload_n 3, 1) := by decide +kernel
theorem dX11_sideOf_14 : decode cX11_sideOf 14 = .ok (.if_icmp .ge 45, 3) := by decide +kernel
theorem dX11_sideOf_17 : decode cX11_sideOf 17 = .ok (.iload 7, 2) := by decide +kernel
theorem dX11_sideOf_19 : decode cX11_sideOf 19 = .ok (.invokestatic 293, 3) := by decide +kernel
theorem dX11_sideOf_22 : decode cX11_sideOf 22 = .ok (.ifCond .ne 37, 3) := by decide +kernel
theorem dX11_sideOf_25 : decode cX11_sideOf 25 = .ok (.aload_n 0, 1) := by decide +kernel
theorem dX11_sideOf_26 : decode cX11_sideOf 26 = .ok (.iload 7, 2) := by decide +kernel
theorem dX11_sideOf_28 : decode cX11_sideOf 28 = .ok (.iload 5, 2) := by decide +kernel
theorem dX11_sideOf_30 : decode cX11_sideOf 30 = .ok (.invokevirtual 290, 3) := by decide +kernel
theorem dX11_sideOf_33 : decode cX11_sideOf 33 = .ok (.iload 4, 2) := by decide +kernel
theorem dX11_sideOf_35 : decode cX11_sideOf 35 = .ok (.if_icmp .gt 24, 3) := by decide +kernel
theorem dX11_sideOf_38 : decode cX11_sideOf 38 = .ok (.iload 6, 2) := by decide +kernel
theorem dX11_sideOf_40 : decode cX11_sideOf 40 = .ok (.iconst 1, 1) := by decide +kernel
theorem dX11_sideOf_41 : decode cX11_sideOf 41 = .ok (.iload 7, 2) := by decide +kernel
theorem dX11_sideOf_43 : decode cX11_sideOf 43 = .ok (.ishl, 1) := by decide +kernel
theorem dX11_sideOf_44 : decode cX11_sideOf 44 = .ok (.ior, 1) := by decide +kernel
theorem dX11_sideOf_45 : decode cX11_sideOf 45 = .ok (.istore 6, 2) := by decide +kernel
theorem dX11_sideOf_47 : decode cX11_sideOf 47 = .ok (.iload 7, 2) := by decide +kernel
theorem dX11_sideOf_49 : decode cX11_sideOf 49 = .ok (.iload_n 2, 1) := by decide +kernel
theorem dX11_sideOf_50 : decode cX11_sideOf 50 = .ok (.iadd, 1) := by decide +kernel
theorem dX11_sideOf_51 : decode cX11_sideOf 51 = .ok (.istore 7, 2) := by decide +kernel
theorem dX11_sideOf_53 : decode cX11_sideOf 53 = .ok (.iinc 8 1, 3) := by decide +kernel
theorem dX11_sideOf_56 : decode cX11_sideOf 56 = .ok (.goto (-45), 3) := by decide +kernel
theorem dX11_sideOf_59 : decode cX11_sideOf 59 = .ok (.iload 6, 2) := by decide +kernel
theorem dX11_sideOf_61 : decode cX11_sideOf 61 = .ok (.ireturn, 1) := by decide +kernel
theorem dX11_endsOf_0 : decode cX11_endsOf 0 = .ok (.iload_n 1, 1) := by decide +kernel
theorem dX11_endsOf_1 : decode cX11_endsOf 1 = .ok (.istore 5, 2) := by decide +kernel
theorem dX11_endsOf_3 : decode cX11_endsOf 3 = .ok (.iconst 0, 1) := by decide +kernel
theorem dX11_endsOf_4 : decode cX11_endsOf 4 = .ok (.istore 6, 2) := by decide +kernel
theorem dX11_endsOf_6 : decode cX11_endsOf 6 = .ok (.iload 6, 2) := by decide +kernel
theorem dX11_endsOf_8 : decode cX11_endsOf 8 = .ok (.bipush 12, 2) := by decide +kernel
theorem dX11_endsOf_10 : decode cX11_endsOf 10 = .ok (.if_icmp .ge 46, 3) := by decide +kernel
theorem dX11_endsOf_13 : decode cX11_endsOf 13 = .ok (.iload_n 1, 1) := by decide +kernel
theorem dX11_endsOf_14 : decode cX11_endsOf 14 = .ok (.iload 6, 2) := by decide +kernel
theorem dX11_endsOf_16 : decode cX11_endsOf 16 = .ok (.invokestatic 396, 3) := by decide +kernel
theorem dX11_endsOf_19 : decode cX11_endsOf 19 = .ok (.ifCond .eq 31, 3) := by decide +kernel
theorem dX11_endsOf_22 : decode cX11_endsOf 22 = .ok (.iload 5, 2) := by decide +kernel
theorem dX11_endsOf_24 : decode cX11_endsOf 24 = .ok (.aload_n 0, 1) := by decide +kernel
theorem dX11_endsOf_25 : decode cX11_endsOf 25 = .ok (.iload 6, 2) := by decide +kernel
theorem dX11_endsOf_27 : decode cX11_endsOf 27 = .ok (.iconst 1, 1) := by decide +kernel
theorem dX11_endsOf_28 : decode cX11_endsOf 28 = .ok (.iload_n 2, 1) := by decide +kernel
theorem dX11_endsOf_29 : decode cX11_endsOf 29 = .ok (.iload_n 3, 1) := by decide +kernel
theorem dX11_endsOf_30 : decode cX11_endsOf 30 = .ok (.iload 4, 2) := by decide +kernel
theorem dX11_endsOf_32 : decode cX11_endsOf 32 = .ok (.invokevirtual 399, 3) := by decide +kernel
theorem dX11_endsOf_35 : decode cX11_endsOf 35 = .ok (.aload_n 0, 1) := by decide +kernel
theorem dX11_endsOf_36 : decode cX11_endsOf 36 = .ok (.iload 6, 2) := by decide +kernel
theorem dX11_endsOf_38 : decode cX11_endsOf 38 = .ok (.iconst (-1), 1) := by decide +kernel
theorem dX11_endsOf_39 : decode cX11_endsOf 39 = .ok (.iload_n 2, 1) := by decide +kernel
theorem dX11_endsOf_40 : decode cX11_endsOf 40 = .ok (.iload_n 3, 1) := by decide +kernel
theorem dX11_endsOf_41 : decode cX11_endsOf 41 = .ok (.iload 4, 2) := by decide +kernel
theorem dX11_endsOf_43 : decode cX11_endsOf 43 = .ok (.invokevirtual 399, 3) := by decide +kernel
theorem dX11_endsOf_46 : decode cX11_endsOf 46 = .ok (.ior, 1) := by decide +kernel
theorem dX11_endsOf_47 : decode cX11_endsOf 47 = .ok (.ior, 1) := by decide +kernel
theorem dX11_endsOf_48 : decode cX11_endsOf 48 = .ok (.istore 5, 2) := by decide +kernel
theorem dX11_endsOf_50 : decode cX11_endsOf 50 = .ok (.iinc 6 1, 3) := by decide +kernel
theorem dX11_endsOf_53 : decode cX11_endsOf 53 = .ok (.goto (-47), 3) := by decide +kernel
theorem dX11_endsOf_56 : decode cX11_endsOf 56 = .ok (.iconst 0, 1) := by decide +kernel
theorem dX11_endsOf_57 : decode cX11_endsOf 57 = .ok (.istore 6, 2) := by decide +kernel
theorem dX11_endsOf_59 : decode cX11_endsOf 59 = .ok (.iload 6, 2) := by decide +kernel
theorem dX11_endsOf_61 : decode cX11_endsOf 61 = .ok (.bipush 12, 2) := by decide +kernel
theorem dX11_endsOf_63 : decode cX11_endsOf 63 = .ok (.if_icmp .ge 39, 3) := by decide +kernel
theorem dX11_endsOf_66 : decode cX11_endsOf 66 = .ok (.iload 5, 2) := by decide +kernel
theorem dX11_endsOf_68 : decode cX11_endsOf 68 = .ok (.aload_n 0, 1) := by decide +kernel
theorem dX11_endsOf_69 : decode cX11_endsOf 69 = .ok (.iload 6, 2) := by decide +kernel
theorem dX11_endsOf_71 : decode cX11_endsOf 71 = .ok (.iload 4, 2) := by decide +kernel
theorem dX11_endsOf_73 : decode cX11_endsOf 73 = .ok (.iconst 1, 1) := by decide +kernel
theorem dX11_endsOf_74 : decode cX11_endsOf 74 = .ok (.iadd, 1) := by decide +kernel
theorem dX11_endsOf_75 : decode cX11_endsOf 75 = .ok (.invokevirtual 290, 3) := by decide +kernel
theorem dX11_endsOf_78 : decode cX11_endsOf 78 = .ok (.iload_n 3, 1) := by decide +kernel
theorem dX11_endsOf_79 : decode cX11_endsOf 79 = .ok (.if_icmp .gt 8, 3) := by decide +kernel
theorem dX11_endsOf_82 : decode cX11_endsOf 82 = .ok (.iload 5, 2) := by decide +kernel
theorem dX11_endsOf_84 : decode cX11_endsOf 84 = .ok (.goto 9, 3) := by decide +kernel
theorem dX11_endsOf_87 : decode cX11_endsOf 87 = .ok (.iconst 1, 1) := by decide +kernel
theorem dX11_endsOf_88 : decode cX11_endsOf 88 = .ok (.iload 6, 2) := by decide +kernel
theorem dX11_endsOf_90 : decode cX11_endsOf 90 = .ok (.ishl, 1) := by decide +kernel
theorem dX11_endsOf_91 : decode cX11_endsOf 91 = .ok (.iconst (-1), 1) := by decide +kernel
theorem dX11_endsOf_92 : decode cX11_endsOf 92 = .ok (.ixor, 1) := by decide +kernel
theorem dX11_endsOf_93 : decode cX11_endsOf 93 = .ok (.iand, 1) := by decide +kernel
theorem dX11_endsOf_94 : decode cX11_endsOf 94 = .ok (.istore 5, 2) := by decide +kernel
theorem dX11_endsOf_96 : decode cX11_endsOf 96 = .ok (.iinc 6 1, 3) := by decide +kernel
theorem dX11_endsOf_99 : decode cX11_endsOf 99 = .ok (.goto (-40), 3) := by decide +kernel
theorem dX11_endsOf_102 : decode cX11_endsOf 102 = .ok (.iload 5, 2) := by decide +kernel
theorem dX11_endsOf_104 : decode cX11_endsOf 104 = .ok (.ireturn, 1) := by decide +kernel
theorem dX11_hoursOf_0 : decode cX11_hoursOf 0 = .ok (.iconst 1, 1) := by decide +kernel
theorem dX11_hoursOf_1 : decode cX11_hoursOf 1 = .ok (.iload_n 1, 1) := by decide +kernel
theorem dX11_hoursOf_2 : decode cX11_hoursOf 2 = .ok (.ishl, 1) := by decide +kernel
theorem dX11_hoursOf_3 : decode cX11_hoursOf 3 = .ok (.istore 6, 2) := by decide +kernel
theorem dX11_hoursOf_5 : decode cX11_hoursOf 5 = .ok (.iconst 0, 1) := by decide +kernel
theorem dX11_hoursOf_6 : decode cX11_hoursOf 6 = .ok (.istore 7, 2) := by decide +kernel
theorem dX11_hoursOf_8 : decode cX11_hoursOf 8 = .ok (.iload 7, 2) := by decide +kernel
theorem dX11_hoursOf_10 : decode cX11_hoursOf 10 = .ok (.bipush 60, 2) := by decide +kernel
theorem dX11_hoursOf_12 : decode cX11_hoursOf 12 = .ok (.if_icmp .gt 37, 3) := by decide +kernel
theorem dX11_hoursOf_15 : decode cX11_hoursOf 15 = .ok (.iload 6, 2) := by decide +kernel
theorem dX11_hoursOf_17 : decode cX11_hoursOf 17 = .ok (.iload_n 2, 1) := by decide +kernel
theorem dX11_hoursOf_18 : decode cX11_hoursOf 18 = .ok (.invokestatic 396, 3) := by decide +kernel
theorem dX11_hoursOf_21 : decode cX11_hoursOf 21 = .ok (.ifCond .eq 6, 3) := by decide +kernel
theorem dX11_hoursOf_24 : decode cX11_hoursOf 24 = .ok (.iload 7, 2) := by decide +kernel
theorem dX11_hoursOf_26 : decode cX11_hoursOf 26 = .ok (.ireturn, 1) := by decide +kernel
theorem dX11_hoursOf_27 : decode cX11_hoursOf 27 = .ok (.aload_n 0, 1) := by decide +kernel
theorem dX11_hoursOf_28 : decode cX11_hoursOf 28 = .ok (.iload 6, 2) := by decide +kernel
theorem dX11_hoursOf_30 : decode cX11_hoursOf 30 = .ok (.iload_n 3, 1) := by decide +kernel
theorem dX11_hoursOf_31 : decode cX11_hoursOf 31 = .ok (.iload 4, 2) := by decide +kernel
theorem dX11_hoursOf_33 : decode cX11_hoursOf 33 = .ok (.iload 5, 2) := by decide +kernel
theorem dX11_hoursOf_35 : decode cX11_hoursOf 35 = .ok (.iload 7, 2) := by decide +kernel
theorem dX11_hoursOf_37 : decode cX11_hoursOf 37 = .ok (.iadd, 1) := by decide +kernel
theorem dX11_hoursOf_38 : decode cX11_hoursOf 38 = .ok (.invokevirtual 403, 3) := by decide +kernel
theorem dX11_hoursOf_41 : decode cX11_hoursOf 41 = .ok (.istore 6, 2) := by decide +kernel
theorem dX11_hoursOf_43 : decode cX11_hoursOf 43 = .ok (.iinc 7 1, 3) := by decide +kernel
theorem dX11_hoursOf_46 : decode cX11_hoursOf 46 = .ok (.goto (-38), 3) := by decide +kernel
theorem dX11_hoursOf_49 : decode cX11_hoursOf 49 = .ok (.ldc_w 407, 3) := by decide +kernel
theorem dX11_hoursOf_52 : decode cX11_hoursOf 52 = .ok (.ireturn, 1) := by decide +kernel
theorem dX11_noWay_0 : decode cX11_noWay 0 = .ok (.iload_n 0, 1) := by decide +kernel
theorem dX11_noWay_1 : decode cX11_noWay 1 = .ok (.iconst 1, 1) := by decide +kernel
theorem dX11_noWay_2 : decode cX11_noWay 2 = .ok (.iconst 4, 1) := by decide +kernel
theorem dX11_noWay_3 : decode cX11_noWay 3 = .ok (.invokestatic 84, 3) := by decide +kernel
theorem dX11_noWay_6 : decode cX11_noWay 6 = .ok (.ifCond .eq 13, 3) := by decide +kernel
theorem dX11_noWay_9 : decode cX11_noWay 9 = .ok (.iload_n 1, 1) := by decide +kernel
theorem dX11_noWay_10 : decode cX11_noWay 10 = .ok (.iconst 0, 1) := by decide +kernel
theorem dX11_noWay_11 : decode cX11_noWay 11 = .ok (.bipush 9, 2) := by decide +kernel
theorem dX11_noWay_13 : decode cX11_noWay 13 = .ok (.invokestatic 84, 3) := by decide +kernel
theorem dX11_noWay_16 : decode cX11_noWay 16 = .ok (.ifCond .ne 7, 3) := by decide +kernel
theorem dX11_noWay_19 : decode cX11_noWay 19 = .ok (.iconst 1, 1) := by decide +kernel
theorem dX11_noWay_20 : decode cX11_noWay 20 = .ok (.goto 4, 3) := by decide +kernel
theorem dX11_noWay_23 : decode cX11_noWay 23 = .ok (.iconst 0, 1) := by decide +kernel
theorem dX11_noWay_24 : decode cX11_noWay 24 = .ok (.ireturn, 1) := by decide +kernel
theorem dX11_way_0 : decode cX11_way 0 = .ok (.aload_n 0, 1) := by decide +kernel
theorem dX11_way_1 : decode cX11_way 1 = .ok (.iconst 0, 1) := by decide +kernel
theorem dX11_way_2 : decode cX11_way 2 = .ok (.putfield 3, 3) := by decide +kernel
theorem dX11_way_5 : decode cX11_way 5 = .ok (.aload_n 0, 1) := by decide +kernel
theorem dX11_way_6 : decode cX11_way 6 = .ok (.iload_n 1, 1) := by decide +kernel
theorem dX11_way_7 : decode cX11_way 7 = .ok (.invokestatic 293, 3) := by decide +kernel
theorem dX11_way_10 : decode cX11_way 10 = .ok (.ifCond .ne 10, 3) := by decide +kernel
theorem dX11_way_13 : decode cX11_way 13 = .ok (.iload_n 2, 1) := by decide +kernel
theorem dX11_way_14 : decode cX11_way 14 = .ok (.invokestatic 293, 3) := by decide +kernel
theorem dX11_way_17 : decode cX11_way 17 = .ok (.ifCond .eq 7, 3) := by decide +kernel
theorem dX11_way_20 : decode cX11_way 20 = .ok (.iconst 1, 1) := by decide +kernel
theorem dX11_way_21 : decode cX11_way 21 = .ok (.goto 4, 3) := by decide +kernel
theorem dX11_way_24 : decode cX11_way 24 = .ok (.iconst 0, 1) := by decide +kernel
theorem dX11_way_25 : decode cX11_way 25 = .ok (.iconst 1, 1) := by decide +kernel
theorem dX11_way_26 : decode cX11_way 26 = .ok (.invokevirtual 266, 3) := by decide +kernel
theorem dX11_way_29 : decode cX11_way 29 = .ok (.ifCond .ne 33, 3) := by decide +kernel
theorem dX11_way_32 : decode cX11_way 32 = .ok (.aload_n 0, 1) := by decide +kernel
theorem dX11_way_33 : decode cX11_way 33 = .ok (.iload_n 3, 1) := by decide +kernel
theorem dX11_way_34 : decode cX11_way 34 = .ok (.iload 4, 2) := by decide +kernel
theorem dX11_way_36 : decode cX11_way 36 = .ok (.invokestatic 408, 3) := by decide +kernel
theorem dX11_way_39 : decode cX11_way 39 = .ok (.ifCond .ne 11, 3) := by decide +kernel
theorem dX11_way_42 : decode cX11_way 42 = .ok (.iload 5, 2) := by decide +kernel
theorem dX11_way_44 : decode cX11_way 44 = .ok (.invokestatic 296, 3) := by decide +kernel
theorem dX11_way_47 : decode cX11_way 47 = .ok (.ifCond .eq 7, 3) := by decide +kernel
theorem dX11_way_50 : decode cX11_way 50 = .ok (.iconst 1, 1) := by decide +kernel
theorem dX11_way_51 : decode cX11_way 51 = .ok (.goto 4, 3) := by decide +kernel
theorem dX11_way_54 : decode cX11_way 54 = .ok (.iconst 0, 1) := by decide +kernel
theorem dX11_way_55 : decode cX11_way 55 = .ok (.iconst 2, 1) := by decide +kernel
theorem dX11_way_56 : decode cX11_way 56 = .ok (.invokevirtual 266, 3) := by decide +kernel
theorem dX11_way_59 : decode cX11_way 59 = .ok (.ifCond .eq 5, 3) := by decide +kernel
theorem dX11_way_62 : decode cX11_way 62 = .ok (.iconst 0, 1) := by decide +kernel
theorem dX11_way_63 : decode cX11_way 63 = .ok (.ireturn, 1) := by decide +kernel
theorem dX11_way_64 : decode cX11_way 64 = .ok (.aload_n 0, 1) := by decide +kernel
theorem dX11_way_65 : decode cX11_way 65 = .ok (.iload_n 1, 1) := by decide +kernel
theorem dX11_way_66 : decode cX11_way 66 = .ok (.iload_n 2, 1) := by decide +kernel
theorem dX11_way_67 : decode cX11_way 67 = .ok (.iload_n 3, 1) := by decide +kernel
theorem dX11_way_68 : decode cX11_way 68 = .ok (.iload 4, 2) := by decide +kernel
theorem dX11_way_70 : decode cX11_way 70 = .ok (.iload 5, 2) := by decide +kernel
theorem dX11_way_72 : decode cX11_way 72 = .ok (.invokevirtual 411, 3) := by decide +kernel
theorem dX11_way_75 : decode cX11_way 75 = .ok (.istore 6, 2) := by decide +kernel
theorem dX11_way_77 : decode cX11_way 77 = .ok (.iload 6, 2) := by decide +kernel
theorem dX11_way_79 : decode cX11_way 79 = .ok (.ldc_w 407, 3) := by decide +kernel
theorem dX11_way_82 : decode cX11_way 82 = .ok (.if_icmp .lt 7, 3) := by decide +kernel
theorem dX11_way_85 : decode cX11_way 85 = .ok (.iconst (-1), 1) := by decide +kernel
theorem dX11_way_86 : decode cX11_way 86 = .ok (.goto 5, 3) := by decide +kernel
theorem dX11_way_89 : decode cX11_way 89 = .ok (.iload 6, 2) := by decide +kernel
theorem dX11_way_91 : decode cX11_way 91 = .ok (.ireturn, 1) := by decide +kernel
theorem dX11_start_0 : decode cX11_start 0 = .ok (.aload_n 0, 1) := by decide +kernel
theorem dX11_start_1 : decode cX11_start 1 = .ok (.iconst 0, 1) := by decide +kernel
theorem dX11_start_2 : decode cX11_start 2 = .ok (.putfield 3, 3) := by decide +kernel
theorem dX11_start_5 : decode cX11_start 5 = .ok (.aload_n 0, 1) := by decide +kernel
theorem dX11_start_6 : decode cX11_start 6 = .ok (.iload_n 1, 1) := by decide +kernel
theorem dX11_start_7 : decode cX11_start 7 = .ok (.invokestatic 293, 3) := by decide +kernel
theorem dX11_start_10 : decode cX11_start 10 = .ok (.ifCond .ne 10, 3) := by decide +kernel
theorem dX11_start_13 : decode cX11_start 13 = .ok (.iload_n 2, 1) := by decide +kernel
theorem dX11_start_14 : decode cX11_start 14 = .ok (.invokestatic 293, 3) := by decide +kernel
theorem dX11_start_17 : decode cX11_start 17 = .ok (.ifCond .eq 7, 3) := by decide +kernel
theorem dX11_start_20 : decode cX11_start 20 = .ok (.iconst 1, 1) := by decide +kernel
theorem dX11_start_21 : decode cX11_start 21 = .ok (.goto 4, 3) := by decide +kernel
theorem dX11_start_24 : decode cX11_start 24 = .ok (.iconst 0, 1) := by decide +kernel
theorem dX11_start_25 : decode cX11_start 25 = .ok (.iconst 1, 1) := by decide +kernel
theorem dX11_start_26 : decode cX11_start 26 = .ok (.invokevirtual 266, 3) := by decide +kernel
theorem dX11_start_29 : decode cX11_start 29 = .ok (.ifCond .ne 33, 3) := by decide +kernel
theorem dX11_start_32 : decode cX11_start 32 = .ok (.aload_n 0, 1) := by decide +kernel
theorem dX11_start_33 : decode cX11_start 33 = .ok (.iload_n 3, 1) := by decide +kernel
theorem dX11_start_34 : decode cX11_start 34 = .ok (.iload 4, 2) := by decide +kernel
theorem dX11_start_36 : decode cX11_start 36 = .ok (.invokestatic 408, 3) := by decide +kernel
theorem dX11_start_39 : decode cX11_start 39 = .ok (.ifCond .ne 11, 3) := by decide +kernel
theorem dX11_start_42 : decode cX11_start 42 = .ok (.iload 5, 2) := by decide +kernel
theorem dX11_start_44 : decode cX11_start 44 = .ok (.invokestatic 302, 3) := by decide +kernel
theorem dX11_start_47 : decode cX11_start 47 = .ok (.ifCond .eq 7, 3) := by decide +kernel
theorem dX11_start_50 : decode cX11_start 50 = .ok (.iconst 1, 1) := by decide +kernel
theorem dX11_start_51 : decode cX11_start 51 = .ok (.goto 4, 3) := by decide +kernel
theorem dX11_start_54 : decode cX11_start 54 = .ok (.iconst 0, 1) := by decide +kernel
theorem dX11_start_55 : decode cX11_start 55 = .ok (.iconst 2, 1) := by decide +kernel
theorem dX11_start_56 : decode cX11_start 56 = .ok (.invokevirtual 266, 3) := by decide +kernel
theorem dX11_start_59 : decode cX11_start 59 = .ok (.ifCond .eq 5, 3) := by decide +kernel
theorem dX11_start_62 : decode cX11_start 62 = .ok (.iconst 0, 1) := by decide +kernel
theorem dX11_start_63 : decode cX11_start 63 = .ok (.ireturn, 1) := by decide +kernel
theorem dX11_start_64 : decode cX11_start 64 = .ok (.aload_n 0, 1) := by decide +kernel
theorem dX11_start_65 : decode cX11_start 65 = .ok (.getfield 13, 3) := by decide +kernel
theorem dX11_start_68 : decode cX11_start 68 = .ok (.iconst 5, 1) := by decide +kernel
theorem dX11_start_69 : decode cX11_start 69 = .ok (.iaload, 1) := by decide +kernel
theorem dX11_start_70 : decode cX11_start 70 = .ok (.iload 5, 2) := by decide +kernel
theorem dX11_start_72 : decode cX11_start 72 = .ok (.iconst 1, 1) := by decide +kernel
theorem dX11_start_73 : decode cX11_start 73 = .ok (.iadd, 1) := by decide +kernel
theorem dX11_start_74 : decode cX11_start 74 = .ok (.imul, 1) := by decide +kernel
theorem dX11_start_75 : decode cX11_start 75 = .ok (.iconst 1, 1) := by decide +kernel
theorem dX11_start_76 : decode cX11_start 76 = .ok (.isub, 1) := by decide +kernel
theorem dX11_start_77 : decode cX11_start 77 = .ok (.istore 6, 2) := by decide +kernel
theorem dX11_start_79 : decode cX11_start 79 = .ok (.iconst 0, 1) := by decide +kernel
theorem dX11_start_80 : decode cX11_start 80 = .ok (.istore 7, 2) := by decide +kernel
theorem dX11_start_82 : decode cX11_start 82 = .ok (.iload 7, 2) := by decide +kernel
theorem dX11_start_84 : decode cX11_start 84 = .ok (.aload_n 0, 1) := by decide +kernel
theorem dX11_start_85 : decode cX11_start 85 = .ok (.getfield 13, 3) := by decide +kernel
theorem dX11_start_88 : decode cX11_start 88 = .ok (.iconst 5, 1) := by decide +kernel
theorem dX11_start_89 : decode cX11_start 89 = .ok (.iaload, 1) := by decide +kernel
theorem dX11_start_90 : decode cX11_start 90 = .ok (.if_icmp .ge 35, 3) := by decide +kernel
theorem dX11_start_93 : decode cX11_start 93 = .ok (.aload_n 0, 1) := by decide +kernel
theorem dX11_start_94 : decode cX11_start 94 = .ok (.iload_n 1, 1) := by decide +kernel
theorem dX11_start_95 : decode cX11_start 95 = .ok (.iload_n 2, 1) := by decide +kernel
theorem dX11_start_96 : decode cX11_start 96 = .ok (.iload_n 3, 1) := by decide +kernel
theorem dX11_start_97 : decode cX11_start 97 = .ok (.iload 4, 2) := by decide +kernel
theorem dX11_start_99 : decode cX11_start 99 = .ok (.iload 6, 2) := by decide +kernel
theorem dX11_start_101 : decode cX11_start 101 = .ok (.iload 7, 2) := by decide +kernel
theorem dX11_start_103 : decode cX11_start 103 = .ok (.isub, 1) := by decide +kernel
theorem dX11_start_104 : decode cX11_start 104 = .ok (.invokevirtual 411, 3) := by decide +kernel
theorem dX11_start_107 : decode cX11_start 107 = .ok (.ldc_w 407, 3) := by decide +kernel
theorem dX11_start_110 : decode cX11_start 110 = .ok (.if_icmp .ge 9, 3) := by decide +kernel
theorem dX11_start_113 : decode cX11_start 113 = .ok (.iload 6, 2) := by decide +kernel
theorem dX11_start_115 : decode cX11_start 115 = .ok (.iload 7, 2) := by decide +kernel
theorem dX11_start_117 : decode cX11_start 117 = .ok (.isub, 1) := by decide +kernel
theorem dX11_start_118 : decode cX11_start 118 = .ok (.ireturn, 1) := by decide +kernel
theorem dX11_start_119 : decode cX11_start 119 = .ok (.iinc 7 1, 3) := by decide +kernel
theorem dX11_start_122 : decode cX11_start 122 = .ok (.goto (-40), 3) := by decide +kernel
theorem dX11_start_125 : decode cX11_start 125 = .ok (.iconst (-1), 1) := by decide +kernel
theorem dX11_start_126 : decode cX11_start 126 = .ok (.ireturn, 1) := by decide +kernel
theorem dX11_safe_0 : decode cX11_safe 0 = .ok (.aload_n 0, 1) := by decide +kernel
theorem dX11_safe_1 : decode cX11_safe 1 = .ok (.iconst 0, 1) := by decide +kernel
theorem dX11_safe_2 : decode cX11_safe 2 = .ok (.putfield 3, 3) := by decide +kernel
theorem dX11_safe_5 : decode cX11_safe 5 = .ok (.aload_n 0, 1) := by decide +kernel
theorem dX11_safe_6 : decode cX11_safe 6 = .ok (.iload_n 1, 1) := by decide +kernel
theorem dX11_safe_7 : decode cX11_safe 7 = .ok (.invokestatic 293, 3) := by decide +kernel
theorem dX11_safe_10 : decode cX11_safe 10 = .ok (.ifCond .ne 10, 3) := by decide +kernel
theorem dX11_safe_13 : decode cX11_safe 13 = .ok (.iload_n 2, 1) := by decide +kernel
theorem dX11_safe_14 : decode cX11_safe 14 = .ok (.invokestatic 293, 3) := by decide +kernel
theorem dX11_safe_17 : decode cX11_safe 17 = .ok (.ifCond .eq 7, 3) := by decide +kernel
theorem dX11_safe_20 : decode cX11_safe 20 = .ok (.iconst 1, 1) := by decide +kernel
theorem dX11_safe_21 : decode cX11_safe 21 = .ok (.goto 4, 3) := by decide +kernel
theorem dX11_safe_24 : decode cX11_safe 24 = .ok (.iconst 0, 1) := by decide +kernel
theorem dX11_safe_25 : decode cX11_safe 25 = .ok (.iconst 1, 1) := by decide +kernel
theorem dX11_safe_26 : decode cX11_safe 26 = .ok (.invokevirtual 266, 3) := by decide +kernel
theorem dX11_safe_29 : decode cX11_safe 29 = .ok (.ifCond .ne 39, 3) := by decide +kernel
theorem dX11_safe_32 : decode cX11_safe 32 = .ok (.aload_n 0, 1) := by decide +kernel
theorem dX11_safe_33 : decode cX11_safe 33 = .ok (.iload_n 1, 1) := by decide +kernel
theorem dX11_safe_34 : decode cX11_safe 34 = .ok (.iload_n 2, 1) := by decide +kernel
theorem dX11_safe_35 : decode cX11_safe 35 = .ok (.if_icmp .gt 21, 3) := by decide +kernel
theorem dX11_safe_38 : decode cX11_safe 38 = .ok (.iload_n 3, 1) := by decide +kernel
theorem dX11_safe_39 : decode cX11_safe 39 = .ok (.iconst 0, 1) := by decide +kernel
theorem dX11_safe_40 : decode cX11_safe 40 = .ok (.bipush 9, 2) := by decide +kernel
theorem dX11_safe_42 : decode cX11_safe 42 = .ok (.invokestatic 84, 3) := by decide +kernel
theorem dX11_safe_45 : decode cX11_safe 45 = .ok (.ifCond .eq 11, 3) := by decide +kernel
theorem dX11_safe_48 : decode cX11_safe 48 = .ok (.iload 4, 2) := by decide +kernel
theorem dX11_safe_50 : decode cX11_safe 50 = .ok (.invokestatic 302, 3) := by decide +kernel
theorem dX11_safe_53 : decode cX11_safe 53 = .ok (.ifCond .eq 7, 3) := by decide +kernel
theorem dX11_safe_56 : decode cX11_safe 56 = .ok (.iconst 1, 1) := by decide +kernel
theorem dX11_safe_57 : decode cX11_safe 57 = .ok (.goto 4, 3) := by decide +kernel
theorem dX11_safe_60 : decode cX11_safe 60 = .ok (.iconst 0, 1) := by decide +kernel
theorem dX11_safe_61 : decode cX11_safe 61 = .ok (.iconst 2, 1) := by decide +kernel
theorem dX11_safe_62 : decode cX11_safe 62 = .ok (.invokevirtual 266, 3) := by decide +kernel
theorem dX11_safe_65 : decode cX11_safe 65 = .ok (.ifCond .eq 5, 3) := by decide +kernel
theorem dX11_safe_68 : decode cX11_safe 68 = .ok (.iconst 0, 1) := by decide +kernel
theorem dX11_safe_69 : decode cX11_safe 69 = .ok (.ireturn, 1) := by decide +kernel
theorem dX11_safe_70 : decode cX11_safe 70 = .ok (.iconst 0, 1) := by decide +kernel
theorem dX11_safe_71 : decode cX11_safe 71 = .ok (.istore 5, 2) := by decide +kernel
theorem dX11_safe_73 : decode cX11_safe 73 = .ok (.iconst 0, 1) := by decide +kernel
theorem dX11_safe_74 : decode cX11_safe 74 = .ok (.istore 6, 2) := by decide +kernel
theorem dX11_safe_76 : decode cX11_safe 76 = .ok (.iload 6, 2) := by decide +kernel
theorem dX11_safe_78 : decode cX11_safe 78 = .ok (.aload_n 0, 1) := by decide +kernel
theorem dX11_safe_79 : decode cX11_safe 79 = .ok (.getfield 13, 3) := by decide +kernel
theorem dX11_safe_82 : decode cX11_safe 82 = .ok (.iconst 5, 1) := by decide +kernel
theorem dX11_safe_83 : decode cX11_safe 83 = .ok (.iaload, 1) := by decide +kernel
theorem dX11_safe_84 : decode cX11_safe 84 = .ok (.if_icmp .ge 76, 3) := by decide +kernel
theorem dX11_safe_87 : decode cX11_safe 87 = .ok (.iconst 1, 1) := by decide +kernel
theorem dX11_safe_88 : decode cX11_safe 88 = .ok (.istore 7, 2) := by decide +kernel
theorem dX11_safe_90 : decode cX11_safe 90 = .ok (.iload_n 1, 1) := by decide +kernel
theorem dX11_safe_91 : decode cX11_safe 91 = .ok (.istore 8, 2) := by decide +kernel
theorem dX11_safe_93 : decode cX11_safe 93 = .ok (.iload 8, 2) := by decide +kernel
theorem dX11_safe_95 : decode cX11_safe 95 = .ok (.iload_n 2, 1) := by decide +kernel
theorem dX11_safe_96 : decode cX11_safe 96 = .ok (.if_icmp .gt 43, 3) := by decide +kernel
theorem dX11_safe_99 : decode cX11_safe 99 = .ok (.iload 7, 2) := by decide +kernel
theorem dX11_safe_101 : decode cX11_safe 101 = .ok (.ifCond .eq 29, 3) := by decide +kernel
theorem dX11_safe_104 : decode cX11_safe 104 = .ok (.aload_n 0, 1) := by decide +kernel
theorem dX11_safe_105 : decode cX11_safe 105 = .ok (.iload 8, 2) := by decide +kernel
theorem dX11_safe_107 : decode cX11_safe 107 = .ok (.aload_n 0, 1) := by decide +kernel
theorem dX11_safe_108 : decode cX11_safe 108 = .ok (.getfield 13, 3) := by decide +kernel
theorem dX11_safe_111 : decode cX11_safe 111 = .ok (.iconst 5, 1) := by decide +kernel
theorem dX11_safe_112 : decode cX11_safe 112 = .ok (.iaload, 1) := by decide +kernel
theorem dX11_safe_113 : decode cX11_safe 113 = .ok (.iload 4, 2) := by decide +kernel
theorem dX11_safe_115 : decode cX11_safe 115 = .ok (.imul, 1) := by decide +kernel
theorem dX11_safe_116 : decode cX11_safe 116 = .ok (.iload 6, 2) := by decide +kernel
theorem dX11_safe_118 : decode cX11_safe 118 = .ok (.iadd, 1) := by decide +kernel
theorem dX11_safe_119 : decode cX11_safe 119 = .ok (.invokevirtual 290, 3) := by decide +kernel
theorem dX11_safe_122 : decode cX11_safe 122 = .ok (.iload_n 3, 1) := by decide +kernel
theorem dX11_safe_123 : decode cX11_safe 123 = .ok (.if_icmp .gt 7, 3) := by decide +kernel
theorem dX11_safe_126 : decode cX11_safe 126 = .ok (.iconst 1, 1) := by decide +kernel
theorem dX11_safe_127 : decode cX11_safe 127 = .ok (.goto 4, 3) := by decide +kernel
theorem dX11_safe_130 : decode cX11_safe 130 = .ok (.iconst 0, 1) := by decide +kernel
theorem dX11_safe_131 : decode cX11_safe 131 = .ok (.istore 7, 2) := by decide +kernel
theorem dX11_safe_133 : decode cX11_safe 133 = .ok (.iinc 8 1, 3) := by decide +kernel
theorem dX11_safe_136 : decode cX11_safe 136 = .ok (.goto (-43), 3) := by decide +kernel
theorem dX11_safe_139 : decode cX11_safe 139 = .ok (.iload 5, 2) := by decide +kernel
theorem dX11_safe_141 : decode cX11_safe 141 = .ok (.iload 7, 2) := by decide +kernel
theorem dX11_safe_143 : decode cX11_safe 143 = .ok (.ifCond .eq 7, 3) := by decide +kernel
theorem dX11_safe_146 : decode cX11_safe 146 = .ok (.iconst 1, 1) := by decide +kernel
theorem dX11_safe_147 : decode cX11_safe 147 = .ok (.goto 4, 3) := by decide +kernel
theorem dX11_safe_150 : decode cX11_safe 150 = .ok (.iconst 0, 1) := by decide +kernel
theorem dX11_safe_151 : decode cX11_safe 151 = .ok (.iadd, 1) := by decide +kernel
theorem dX11_safe_152 : decode cX11_safe 152 = .ok (.istore 5, 2) := by decide +kernel
theorem dX11_safe_154 : decode cX11_safe 154 = .ok (.iinc 6 1, 3) := by decide +kernel
theorem dX11_safe_157 : decode cX11_safe 157 = .ok (.goto (-81), 3) := by decide +kernel
theorem dX11_safe_160 : decode cX11_safe 160 = .ok (.iload 5, 2) := by decide +kernel
theorem dX11_safe_162 : decode cX11_safe 162 = .ok (.ireturn, 1) := by decide +kernel
theorem dX11_comesTo_0 : decode cX11_comesTo 0 = .ok (.aload_n 0, 1) := by decide +kernel
theorem dX11_comesTo_1 : decode cX11_comesTo 1 = .ok (.aload_n 0, 1) := by decide +kernel
theorem dX11_comesTo_2 : decode cX11_comesTo 2 = .ok (.iload_n 1, 1) := by decide +kernel
theorem dX11_comesTo_3 : decode cX11_comesTo 3 = .ok (.iconst 0, 1) := by decide +kernel
theorem dX11_comesTo_4 : decode cX11_comesTo 4 = .ok (.invokevirtual 71, 3) := by decide +kernel
theorem dX11_comesTo_7 : decode cX11_comesTo 7 = .ok (.iload_n 2, 1) := by decide +kernel
theorem dX11_comesTo_8 : decode cX11_comesTo 8 = .ok (.aload_n 0, 1) := by decide +kernel
theorem dX11_comesTo_9 : decode cX11_comesTo 9 = .ok (.iload_n 1, 1) := by decide +kernel
theorem dX11_comesTo_10 : decode cX11_comesTo 10 = .ok (.iconst 2, 1) := by decide +kernel
theorem dX11_comesTo_11 : decode cX11_comesTo 11 = .ok (.invokevirtual 71, 3) := by decide +kernel
theorem dX11_comesTo_14 : decode cX11_comesTo 14 = .ok (.iconst 1, 1) := by decide +kernel
theorem dX11_comesTo_15 : decode cX11_comesTo 15 = .ok (.aload_n 0, 1) := by decide +kernel
theorem dX11_comesTo_16 : decode cX11_comesTo 16 = .ok (.getfield 13, 3) := by decide +kernel
theorem dX11_comesTo_19 : decode cX11_comesTo 19 = .ok (.iconst 4, 1) := by decide +kernel
theorem dX11_comesTo_20 : decode cX11_comesTo 20 = .ok (.iaload, 1) := by decide +kernel
theorem dX11_comesTo_21 : decode cX11_comesTo 21 = .ok (.invokevirtual 411, 3) := by decide +kernel
theorem dX11_comesTo_24 : decode cX11_comesTo 24 = .ok (.ireturn, 1) := by decide +kernel
theorem dX11_fetch_0 : decode cX11_fetch 0 = .ok (.aload_n 0, 1) := by decide +kernel
theorem dX11_fetch_1 : decode cX11_fetch 1 = .ok (.iconst 0, 1) := by decide +kernel
theorem dX11_fetch_2 : decode cX11_fetch 2 = .ok (.putfield 3, 3) := by decide +kernel
theorem dX11_fetch_5 : decode cX11_fetch 5 = .ok (.aload_n 0, 1) := by decide +kernel
theorem dX11_fetch_6 : decode cX11_fetch 6 = .ok (.aload_n 0, 1) := by decide +kernel
theorem dX11_fetch_7 : decode cX11_fetch 7 = .ok (.iload_n 1, 1) := by decide +kernel
theorem dX11_fetch_8 : decode cX11_fetch 8 = .ok (.invokevirtual 321, 3) := by decide +kernel
theorem dX11_fetch_11 : decode cX11_fetch 11 = .ok (.iconst 1, 1) := by decide +kernel
theorem dX11_fetch_12 : decode cX11_fetch 12 = .ok (.invokevirtual 266, 3) := by decide +kernel
theorem dX11_fetch_15 : decode cX11_fetch 15 = .ok (.ifCond .eq 5, 3) := by decide +kernel
theorem dX11_fetch_18 : decode cX11_fetch 18 = .ok (.iconst 0, 1) := by decide +kernel
theorem dX11_fetch_19 : decode cX11_fetch 19 = .ok (.ireturn, 1) := by decide +kernel
theorem dX11_fetch_20 : decode cX11_fetch 20 = .ok (.aload_n 0, 1) := by decide +kernel
theorem dX11_fetch_21 : decode cX11_fetch 21 = .ok (.iload_n 1, 1) := by decide +kernel
theorem dX11_fetch_22 : decode cX11_fetch 22 = .ok (.invokevirtual 333, 3) := by decide +kernel
theorem dX11_fetch_25 : decode cX11_fetch 25 = .ok (.ifCond .eq 5, 3) := by decide +kernel
theorem dX11_fetch_28 : decode cX11_fetch 28 = .ok (.iconst (-1), 1) := by decide +kernel
theorem dX11_fetch_29 : decode cX11_fetch 29 = .ok (.ireturn, 1) := by decide +kernel
theorem dX11_fetch_30 : decode cX11_fetch 30 = .ok (.iconst (-1), 1) := by decide +kernel
theorem dX11_fetch_31 : decode cX11_fetch 31 = .ok (.istore_n 2, 1) := by decide +kernel
theorem dX11_fetch_32 : decode cX11_fetch 32 = .ok (.ldc_w 407, 3) := by decide +kernel
theorem dX11_fetch_35 : decode cX11_fetch 35 = .ok (.istore_n 3, 1) := by decide +kernel
theorem dX11_fetch_36 : decode cX11_fetch 36 = .ok (.iconst 0, 1) := by decide +kernel
theorem dX11_fetch_37 : decode cX11_fetch 37 = .ok (.istore 4, 2) := by decide +kernel
theorem dX11_fetch_39 : decode cX11_fetch 39 = .ok (.iload 4, 2) := by decide +kernel
theorem dX11_fetch_41 : decode cX11_fetch 41 = .ok (.aload_n 0, 1) := by decide +kernel
theorem dX11_fetch_42 : decode cX11_fetch 42 = .ok (.invokevirtual 80, 3) := by decide +kernel
theorem dX11_fetch_45 : decode cX11_fetch 45 = .ok (.if_icmp .ge 64, 3) := by decide +kernel
theorem dX11_fetch_48 : decode cX11_fetch 48 = .ok (.iload 4, 2) := by decide +kernel
theorem dX11_fetch_50 : decode cX11_fetch 50 = .ok (.iload_n 1, 1) := by decide +kernel
theorem dX11_fetch_51 : decode cX11_fetch 51 = .ok (.if_icmp .eq 12, 3) := by decide +kernel
theorem dX11_fetch_54 : decode cX11_fetch 54 = .ok (.aload_n 0, 1) := by decide +kernel
theorem dX11_fetch_55 : decode cX11_fetch 55 = .ok (.iload 4, 2) := by decide +kernel
theorem dX11_fetch_57 : decode cX11_fetch 57 = .ok (.invokevirtual 333, 3) := by decide +kernel
theorem dX11_fetch_60 : decode cX11_fetch 60 = .ok (.ifCond .eq 9, 3) := by decide +kernel
theorem dX11_fetch_63 : decode cX11_fetch 63 = .ok (.ldc_w 407, 3) := by decide +kernel
theorem dX11_fetch_66 : decode cX11_fetch 66 = .ok (.goto 15, 3) := by decide +kernel
theorem dX11_fetch_69 : decode cX11_fetch 69 = .ok (.aload_n 0, 1) := by decide +kernel
theorem dX11_fetch_70 : decode cX11_fetch 70 = .ok (.iload 4, 2) := by decide +kernel
theorem dX11_fetch_72 : decode cX11_fetch 72 = .ok (.aload_n 0, 1) := by decide +kernel
theorem dX11_fetch_73 : decode cX11_fetch 73 = .ok (.iload_n 1, 1) := by decide +kernel
theorem dX11_fetch_74 : decode cX11_fetch 74 = .ok (.iconst 0, 1) := by decide +kernel
theorem dX11_fetch_75 : decode cX11_fetch 75 = .ok (.invokevirtual 71, 3) := by decide +kernel
theorem dX11_fetch_78 : decode cX11_fetch 78 = .ok (.invokevirtual 414, 3) := by decide +kernel
theorem dX11_fetch_81 : decode cX11_fetch 81 = .ok (.istore 5, 2) := by decide +kernel
theorem dX11_fetch_83 : decode cX11_fetch 83 = .ok (.iload 5, 2) := by decide +kernel
theorem dX11_fetch_85 : decode cX11_fetch 85 = .ok (.iload_n 3, 1) := by decide +kernel
theorem dX11_fetch_86 : decode cX11_fetch 86 = .ok (.if_icmp .ge 8, 3) := by decide +kernel
theorem dX11_fetch_89 : decode cX11_fetch 89 = .ok (.iload 4, 2) := by decide +kernel
theorem dX11_fetch_91 : decode cX11_fetch 91 = .ok (.goto 4, 3) := by decide +kernel
theorem dX11_fetch_94 : decode cX11_fetch 94 = .ok (.iload_n 2, 1) := by decide +kernel
theorem dX11_fetch_95 : decode cX11_fetch 95 = .ok (.istore_n 2, 1) := by decide +kernel
theorem dX11_fetch_96 : decode cX11_fetch 96 = .ok (.iload_n 3, 1) := by decide +kernel
theorem dX11_fetch_97 : decode cX11_fetch 97 = .ok (.iload 5, 2) := by decide +kernel
theorem dX11_fetch_99 : decode cX11_fetch 99 = .ok (.invokestatic 345, 3) := by decide +kernel
theorem dX11_fetch_102 : decode cX11_fetch 102 = .ok (.istore_n 3, 1) := by decide +kernel
theorem dX11_fetch_103 : decode cX11_fetch 103 = .ok (.iinc 4 1, 3) := by decide +kernel
theorem dX11_fetch_106 : decode cX11_fetch 106 = .ok (.goto (-67), 3) := by decide +kernel
theorem dX11_fetch_109 : decode cX11_fetch 109 = .ok (.iload_n 2, 1) := by decide +kernel
theorem dX11_fetch_110 : decode cX11_fetch 110 = .ok (.ireturn, 1) := by decide +kernel
theorem dX11_leastOf_0 : decode cX11_leastOf 0 = .ok (.aload_n 0, 1) := by decide +kernel
theorem dX11_leastOf_1 : decode cX11_leastOf 1 = .ok (.getfield 45, 3) := by decide +kernel
theorem dX11_leastOf_4 : decode cX11_leastOf 4 = .ok (.iload_n 1, 1) := by decide +kernel
theorem dX11_leastOf_5 : decode cX11_leastOf 5 = .ok (.bipush 6, 2) := by decide +kernel
theorem dX11_leastOf_7 : decode cX11_leastOf 7 = .ok (.ishl, 1) := by decide +kernel
theorem dX11_leastOf_8 : decode cX11_leastOf 8 = .ok (.iload_n 2, 1) := by decide +kernel
theorem dX11_leastOf_9 : decode cX11_leastOf 9 = .ok (.iadd, 1) := by decide +kernel
theorem dX11_leastOf_10 : decode cX11_leastOf 10 = .ok (.iaload, 1) := by decide +kernel
theorem dX11_leastOf_11 : decode cX11_leastOf 11 = .ok (.ireturn, 1) := by decide +kernel
theorem dX11_leastBy_0 : decode cX11_leastBy 0 = .ok (.ldc_w 407, 3) := by decide +kernel
theorem dX11_leastBy_3 : decode cX11_leastBy 3 = .ok (.aload_n 0, 1) := by decide +kernel
theorem dX11_leastBy_4 : decode cX11_leastBy 4 = .ok (.getfield 42, 3) := by decide +kernel
theorem dX11_leastBy_7 : decode cX11_leastBy 7 = .ok (.bipush 6, 2) := by decide +kernel
theorem dX11_leastBy_9 : decode cX11_leastBy 9 = .ok (.iload_n 1, 1) := by decide +kernel
theorem dX11_leastBy_10 : decode cX11_leastBy 10 = .ok (.imul, 1) := by decide +kernel
theorem dX11_leastBy_11 : decode cX11_leastBy 11 = .ok (.iload_n 3, 1) := by decide +kernel
theorem dX11_leastBy_12 : decode cX11_leastBy 12 = .ok (.iadd, 1) := by decide +kernel
theorem dX11_leastBy_13 : decode cX11_leastBy 13 = .ok (.iaload, 1) := by decide +kernel
theorem dX11_leastBy_14 : decode cX11_leastBy 14 = .ok (.aload_n 0, 1) := by decide +kernel
theorem dX11_leastBy_15 : decode cX11_leastBy 15 = .ok (.iload_n 1, 1) := by decide +kernel
theorem dX11_leastBy_16 : decode cX11_leastBy 16 = .ok (.iconst 1, 1) := by decide +kernel
theorem dX11_leastBy_17 : decode cX11_leastBy 17 = .ok (.iadd, 1) := by decide +kernel
theorem dX11_leastBy_18 : decode cX11_leastBy 18 = .ok (.iload_n 2, 1) := by decide +kernel
theorem dX11_leastBy_19 : decode cX11_leastBy 19 = .ok (.iconst 1, 1) := by decide +kernel
theorem dX11_leastBy_20 : decode cX11_leastBy 20 = .ok (.iload_n 3, 1) := by decide +kernel
theorem dX11_leastBy_21 : decode cX11_leastBy 21 = .ok (.ishl, 1) := by decide +kernel
theorem dX11_leastBy_22 : decode cX11_leastBy 22 = .ok (.ior, 1) := by decide +kernel
theorem dX11_leastBy_23 : decode cX11_leastBy 23 = .ok (.invokevirtual 417, 3) := by decide +kernel
theorem dX11_leastBy_26 : decode cX11_leastBy 26 = .ok (.iadd, 1) := by decide +kernel
theorem dX11_leastBy_27 : decode cX11_leastBy 27 = .ok (.invokestatic 345, 3) := by decide +kernel
theorem dX11_leastBy_30 : decode cX11_leastBy 30 = .ok (.ireturn, 1) := by decide +kernel
theorem dX11_laysLeast_0 : decode cX11_laysLeast 0 = .ok (.iconst 0, 1) := by decide +kernel
theorem dX11_laysLeast_1 : decode cX11_laysLeast 1 = .ok (.istore_n 2, 1) := by decide +kernel
theorem dX11_laysLeast_2 : decode cX11_laysLeast 2 = .ok (.iload_n 2, 1) := by decide +kernel
theorem dX11_laysLeast_3 : decode cX11_laysLeast 3 = .ok (.aload_n 0, 1) := by decide +kernel
theorem dX11_laysLeast_4 : decode cX11_laysLeast 4 = .ok (.invokevirtual 80, 3) := by decide +kernel
theorem dX11_laysLeast_7 : decode cX11_laysLeast 7 = .ok (.if_icmp .ge 58, 3) := by decide +kernel
theorem dX11_laysLeast_10 : decode cX11_laysLeast 10 = .ok (.iconst 0, 1) := by decide +kernel
theorem dX11_laysLeast_11 : decode cX11_laysLeast 11 = .ok (.istore_n 3, 1) := by decide +kernel
theorem dX11_laysLeast_12 : decode cX11_laysLeast 12 = .ok (.iload_n 3, 1) := by decide +kernel
theorem dX11_laysLeast_13 : decode cX11_laysLeast 13 = .ok (.iload_n 1, 1) := by decide +kernel
theorem dX11_laysLeast_14 : decode cX11_laysLeast 14 = .ok (.if_icmp .ge 45, 3) := by decide +kernel
theorem dX11_laysLeast_17 : decode cX11_laysLeast 17 = .ok (.aload_n 0, 1) := by decide +kernel
theorem dX11_laysLeast_18 : decode cX11_laysLeast 18 = .ok (.getfield 42, 3) := by decide +kernel
theorem dX11_laysLeast_21 : decode cX11_laysLeast 21 = .ok (.bipush 6, 2) := by decide +kernel
theorem dX11_laysLeast_23 : decode cX11_laysLeast 23 = .ok (.iload_n 2, 1) := by decide +kernel
theorem dX11_laysLeast_24 : decode cX11_laysLeast 24 = .ok (.imul, 1) := by decide +kernel
theorem dX11_laysLeast_25 : decode cX11_laysLeast 25 = .ok (.iload_n 3, 1) := by decide +kernel
theorem dX11_laysLeast_26 : decode cX11_laysLeast 26 = .ok (.iadd, 1) := by decide +kernel
theorem dX11_laysLeast_27 : decode cX11_laysLeast 27 = .ok (.aload_n 0, 1) := by decide +kernel
theorem dX11_laysLeast_28 : decode cX11_laysLeast 28 = .ok (.iload_n 2, 1) := by decide +kernel
theorem dX11_laysLeast_29 : decode cX11_laysLeast 29 = .ok (.invokevirtual 333, 3) := by decide +kernel
theorem dX11_laysLeast_32 : decode cX11_laysLeast 32 = .ok (.ifCond .eq 9, 3) := by decide +kernel
theorem dX11_laysLeast_35 : decode cX11_laysLeast 35 = .ok (.ldc_w 407, 3) := by decide +kernel
theorem dX11_laysLeast_38 : decode cX11_laysLeast 38 = .ok (.goto 14, 3) := by decide +kernel
theorem dX11_laysLeast_41 : decode cX11_laysLeast 41 = .ok (.aload_n 0, 1) := by decide +kernel
theorem dX11_laysLeast_42 : decode cX11_laysLeast 42 = .ok (.iload_n 2, 1) := by decide +kernel
theorem dX11_laysLeast_43 : decode cX11_laysLeast 43 = .ok (.aload_n 0, 1) := by decide +kernel
theorem dX11_laysLeast_44 : decode cX11_laysLeast 44 = .ok (.getfield 29, 3) := by decide +kernel
theorem dX11_laysLeast_47 : decode cX11_laysLeast 47 = .ok (.iload_n 3, 1) := by decide +kernel
theorem dX11_laysLeast_48 : decode cX11_laysLeast 48 = .ok (.baload, 1) := by decide +kernel
theorem dX11_laysLeast_49 : decode cX11_laysLeast 49 = .ok (.invokevirtual 414, 3) := by decide +kernel
theorem dX11_laysLeast_52 : decode cX11_laysLeast 52 = .ok (.iastore, 1) := by decide +kernel
theorem dX11_laysLeast_53 : decode cX11_laysLeast 53 = .ok (.iinc 3 1, 3) := by decide +kernel
theorem dX11_laysLeast_56 : decode cX11_laysLeast 56 = .ok (.goto (-44), 3) := by decide +kernel
theorem dX11_laysLeast_59 : decode cX11_laysLeast 59 = .ok (.iinc 2 1, 3) := by decide +kernel
theorem dX11_laysLeast_62 : decode cX11_laysLeast 62 = .ok (.goto (-60), 3) := by decide +kernel
theorem dX11_laysLeast_65 : decode cX11_laysLeast 65 = .ok (.iconst 0, 1) := by decide +kernel
theorem dX11_laysLeast_66 : decode cX11_laysLeast 66 = .ok (.istore_n 2, 1) := by decide +kernel
theorem dX11_laysLeast_67 : decode cX11_laysLeast 67 = .ok (.iload_n 2, 1) := by decide +kernel
theorem dX11_laysLeast_68 : decode cX11_laysLeast 68 = .ok (.bipush 64, 2) := by decide +kernel
theorem dX11_laysLeast_70 : decode cX11_laysLeast 70 = .ok (.if_icmp .ge 24, 3) := by decide +kernel
theorem dX11_laysLeast_73 : decode cX11_laysLeast 73 = .ok (.aload_n 0, 1) := by decide +kernel
theorem dX11_laysLeast_74 : decode cX11_laysLeast 74 = .ok (.getfield 45, 3) := by decide +kernel
theorem dX11_laysLeast_77 : decode cX11_laysLeast 77 = .ok (.aload_n 0, 1) := by decide +kernel
theorem dX11_laysLeast_78 : decode cX11_laysLeast 78 = .ok (.invokevirtual 80, 3) := by decide +kernel
theorem dX11_laysLeast_81 : decode cX11_laysLeast 81 = .ok (.bipush 6, 2) := by decide +kernel
theorem dX11_laysLeast_83 : decode cX11_laysLeast 83 = .ok (.ishl, 1) := by decide +kernel
theorem dX11_laysLeast_84 : decode cX11_laysLeast 84 = .ok (.iload_n 2, 1) := by decide +kernel
theorem dX11_laysLeast_85 : decode cX11_laysLeast 85 = .ok (.iadd, 1) := by decide +kernel
theorem dX11_laysLeast_86 : decode cX11_laysLeast 86 = .ok (.iconst 0, 1) := by decide +kernel
theorem dX11_laysLeast_87 : decode cX11_laysLeast 87 = .ok (.iastore, 1) := by decide +kernel
theorem dX11_laysLeast_88 : decode cX11_laysLeast 88 = .ok (.iinc 2 1, 3) := by decide +kernel
theorem dX11_laysLeast_91 : decode cX11_laysLeast 91 = .ok (.goto (-24), 3) := by decide +kernel
theorem dX11_laysLeast_94 : decode cX11_laysLeast 94 = .ok (.aload_n 0, 1) := by decide +kernel
theorem dX11_laysLeast_95 : decode cX11_laysLeast 95 = .ok (.invokevirtual 80, 3) := by decide +kernel
theorem dX11_laysLeast_98 : decode cX11_laysLeast 98 = .ok (.iconst 1, 1) := by decide +kernel
theorem dX11_laysLeast_99 : decode cX11_laysLeast 99 = .ok (.isub, 1) := by decide +kernel
theorem dX11_laysLeast_100 : decode cX11_laysLeast 100 = .ok (.istore_n 2, 1) := by decide +kernel
theorem dX11_laysLeast_101 : decode cX11_laysLeast 101 = .ok (.iload_n 2, 1) := by decide +kernel
theorem dX11_laysLeast_102 : decode cX11_laysLeast 102 = .ok (.ifCond .lt 107, 3) := by decide +kernel
theorem dX11_laysLeast_105 : decode cX11_laysLeast 105 = .ok (.iconst 0, 1) := by decide +kernel
theorem dX11_laysLeast_106 : decode cX11_laysLeast 106 = .ok (.istore_n 3, 1) := by decide +kernel
theorem dX11_laysLeast_107 : decode cX11_laysLeast 107 = .ok (.iload_n 3, 1) := by decide +kernel
theorem dX11_laysLeast_108 : decode cX11_laysLeast 108 = .ok (.bipush 64, 2) := by decide +kernel
theorem dX11_laysLeast_110 : decode cX11_laysLeast 110 = .ok (.if_icmp .ge 93, 3) := by decide +kernel
theorem dX11_laysLeast_113 : decode cX11_laysLeast 113 = .ok (.aload_n 0, 1) := by decide +kernel
theorem dX11_laysLeast_114 : decode cX11_laysLeast 114 = .ok (.iload_n 2, 1) := by decide +kernel
theorem dX11_laysLeast_115 : decode cX11_laysLeast 115 = .ok (.invokevirtual 333, 3) := by decide +kernel
theorem dX11_laysLeast_118 : decode cX11_laysLeast 118 = .ok (.ifCond .eq 14, 3) := by decide +kernel
theorem dX11_laysLeast_121 : decode cX11_laysLeast 121 = .ok (.aload_n 0, 1) := by decide +kernel
theorem dX11_laysLeast_122 : decode cX11_laysLeast 122 = .ok (.iload_n 2, 1) := by decide +kernel
theorem dX11_laysLeast_123 : decode cX11_laysLeast 123 = .ok (.iconst 1, 1) := by decide +kernel
theorem dX11_laysLeast_124 : decode cX11_laysLeast 124 = .ok (.iadd, 1) := by decide +kernel
theorem dX11_laysLeast_125 : decode cX11_laysLeast 125 = .ok (.iload_n 3, 1) := by decide +kernel
theorem dX11_laysLeast_126 : decode cX11_laysLeast 126 = .ok (.invokevirtual 417, 3) := by decide +kernel
theorem dX11_laysLeast_129 : decode cX11_laysLeast 129 = .ok (.goto 6, 3) := by decide +kernel
theorem dX11_laysLeast_132 : decode cX11_laysLeast 132 = .ok (.ldc_w 407, 3) := by decide +kernel
theorem dX11_laysLeast_135 : decode cX11_laysLeast 135 = .ok (.istore 4, 2) := by decide +kernel
theorem dX11_laysLeast_137 : decode cX11_laysLeast 137 = .ok (.iconst 0, 1) := by decide +kernel
theorem dX11_laysLeast_138 : decode cX11_laysLeast 138 = .ok (.istore 5, 2) := by decide +kernel
theorem dX11_laysLeast_140 : decode cX11_laysLeast 140 = .ok (.iload 5, 2) := by decide +kernel
theorem dX11_laysLeast_142 : decode cX11_laysLeast 142 = .ok (.iload_n 1, 1) := by decide +kernel
theorem dX11_laysLeast_143 : decode cX11_laysLeast 143 = .ok (.if_icmp .ge 41, 3) := by decide +kernel
theorem dX11_laysLeast_146 : decode cX11_laysLeast 146 = .ok (.aload_n 0, 1) := by decide +kernel
theorem dX11_laysLeast_147 : decode cX11_laysLeast 147 = .ok (.iload_n 2, 1) := by decide +kernel
theorem dX11_laysLeast_148 : decode cX11_laysLeast 148 = .ok (.invokevirtual 333, 3) := by decide +kernel
theorem dX11_laysLeast_151 : decode cX11_laysLeast 151 = .ok (.ifCond .ne 33, 3) := by decide +kernel
theorem dX11_laysLeast_154 : decode cX11_laysLeast 154 = .ok (.iload_n 3, 1) := by decide +kernel
theorem dX11_laysLeast_155 : decode cX11_laysLeast 155 = .ok (.iload 5, 2) := by decide +kernel
theorem dX11_laysLeast_157 : decode cX11_laysLeast 157 = .ok (.invokestatic 396, 3) := by decide +kernel
theorem dX11_laysLeast_160 : decode cX11_laysLeast 160 = .ok (.ifCond .ne 18, 3) := by decide +kernel
theorem dX11_laysLeast_163 : decode cX11_laysLeast 163 = .ok (.iload 4, 2) := by decide +kernel
theorem dX11_laysLeast_165 : decode cX11_laysLeast 165 = .ok (.aload_n 0, 1) := by decide +kernel
theorem dX11_laysLeast_166 : decode cX11_laysLeast 166 = .ok (.iload_n 2, 1) := by decide +kernel
theorem dX11_laysLeast_167 : decode cX11_laysLeast 167 = .ok (.iload_n 3, 1) := by decide +kernel
theorem dX11_laysLeast_168 : decode cX11_laysLeast 168 = .ok (.iload 5, 2) := by decide +kernel
theorem dX11_laysLeast_170 : decode cX11_laysLeast 170 = .ok (.invokevirtual 420, 3) := by decide +kernel
theorem dX11_laysLeast_173 : decode cX11_laysLeast 173 = .ok (.invokestatic 345, 3) := by decide +kernel
theorem dX11_laysLeast_176 : decode cX11_laysLeast 176 = .ok (.istore 4, 2) := by decide +kernel
theorem dX11_laysLeast_178 : decode cX11_laysLeast 178 = .ok (.iinc 5 1, 3) := by decide +kernel
theorem dX11_laysLeast_181 : decode cX11_laysLeast 181 = .ok (.goto (-41), 3) := by decide +kernel
theorem dX11_laysLeast_184 : decode cX11_laysLeast 184 = .ok (.aload_n 0, 1) := by decide +kernel
theorem dX11_laysLeast_185 : decode cX11_laysLeast 185 = .ok (.getfield 45, 3) := by decide +kernel
theorem dX11_laysLeast_188 : decode cX11_laysLeast 188 = .ok (.iload_n 2, 1) := by decide +kernel
theorem dX11_laysLeast_189 : decode cX11_laysLeast 189 = .ok (.bipush 6, 2) := by decide +kernel
theorem dX11_laysLeast_191 : decode cX11_laysLeast 191 = .ok (.ishl, 1) := by decide +kernel
theorem dX11_laysLeast_192 : decode cX11_laysLeast 192 = .ok (.iload_n 3, 1) := by decide +kernel
theorem dX11_laysLeast_193 : decode cX11_laysLeast 193 = .ok (.iadd, 1) := by decide +kernel
theorem dX11_laysLeast_194 : decode cX11_laysLeast 194 = .ok (.iload 4, 2) := by decide +kernel
theorem dX11_laysLeast_196 : decode cX11_laysLeast 196 = .ok (.iastore, 1) := by decide +kernel
theorem dX11_laysLeast_197 : decode cX11_laysLeast 197 = .ok (.iinc 3 1, 3) := by decide +kernel
theorem dX11_laysLeast_200 : decode cX11_laysLeast 200 = .ok (.goto (-93), 3) := by decide +kernel
theorem dX11_laysLeast_203 : decode cX11_laysLeast 203 = .ok (.iinc 2 (-1), 3) := by decide +kernel
theorem dX11_laysLeast_206 : decode cX11_laysLeast 206 = .ok (.goto (-105), 3) := by decide +kernel
theorem dX11_laysLeast_209 : decode cX11_laysLeast 209 = .ok (.return_, 1) := by decide +kernel
theorem dX11_send_0 : decode cX11_send 0 = .ok (.aload_n 0, 1) := by decide +kernel
theorem dX11_send_1 : decode cX11_send 1 = .ok (.invokevirtual 255, 3) := by decide +kernel
theorem dX11_send_4 : decode cX11_send 4 = .ok (.aload_n 0, 1) := by decide +kernel
theorem dX11_send_5 : decode cX11_send 5 = .ok (.iload_n 1, 1) := by decide +kernel
theorem dX11_send_6 : decode cX11_send 6 = .ok (.iconst (-1), 1) := by decide +kernel
theorem dX11_send_7 : decode cX11_send 7 = .ok (.if_icmp .eq 15, 3) := by decide +kernel
theorem dX11_send_10 : decode cX11_send 10 = .ok (.aload_n 0, 1) := by decide +kernel
theorem dX11_send_11 : decode cX11_send 11 = .ok (.iload_n 1, 1) := by decide +kernel
theorem dX11_send_12 : decode cX11_send 12 = .ok (.invokevirtual 321, 3) := by decide +kernel
theorem dX11_send_15 : decode cX11_send 15 = .ok (.ifCond .eq 7, 3) := by decide +kernel
theorem dX11_send_18 : decode cX11_send 18 = .ok (.iconst 1, 1) := by decide +kernel
theorem dX11_send_19 : decode cX11_send 19 = .ok (.goto 4, 3) := by decide +kernel
theorem dX11_send_22 : decode cX11_send 22 = .ok (.iconst 0, 1) := by decide +kernel
theorem dX11_send_23 : decode cX11_send 23 = .ok (.iconst 1, 1) := by decide +kernel
theorem dX11_send_24 : decode cX11_send 24 = .ok (.invokevirtual 266, 3) := by decide +kernel
theorem dX11_send_27 : decode cX11_send 27 = .ok (.ifCond .eq 5, 3) := by decide +kernel
theorem dX11_send_30 : decode cX11_send 30 = .ok (.iconst 0, 1) := by decide +kernel
theorem dX11_send_31 : decode cX11_send 31 = .ok (.ireturn, 1) := by decide +kernel
theorem dX11_send_32 : decode cX11_send 32 = .ok (.aload_n 0, 1) := by decide +kernel
theorem dX11_send_33 : decode cX11_send 33 = .ok (.invokevirtual 80, 3) := by decide +kernel
theorem dX11_send_36 : decode cX11_send 36 = .ok (.aload_n 0, 1) := by decide +kernel
theorem dX11_send_37 : decode cX11_send 37 = .ok (.invokevirtual 390, 3) := by decide +kernel
theorem dX11_send_40 : decode cX11_send 40 = .ok (.invokestatic 371, 3) := by decide +kernel
theorem dX11_send_43 : decode cX11_send 43 = .ok (.isub, 1) := by decide +kernel
theorem dX11_send_44 : decode cX11_send 44 = .ok (.istore_n 2, 1) := by decide +kernel
theorem dX11_send_45 : decode cX11_send 45 = .ok (.aload_n 0, 1) := by decide +kernel
theorem dX11_send_46 : decode cX11_send 46 = .ok (.getfield 98, 3) := by decide +kernel
theorem dX11_send_49 : decode cX11_send 49 = .ok (.iload_n 2, 1) := by decide +kernel
theorem dX11_send_50 : decode cX11_send 50 = .ok (.if_icmp .ne 7, 3) := by decide +kernel
theorem dX11_send_53 : decode cX11_send 53 = .ok (.iconst 1, 1) := by decide +kernel
theorem dX11_send_54 : decode cX11_send 54 = .ok (.goto 4, 3) := by decide +kernel
theorem dX11_send_57 : decode cX11_send 57 = .ok (.iconst 0, 1) := by decide +kernel
theorem dX11_send_58 : decode cX11_send 58 = .ok (.istore_n 3, 1) := by decide +kernel
theorem dX11_send_59 : decode cX11_send 59 = .ok (.iconst 0, 1) := by decide +kernel
theorem dX11_send_60 : decode cX11_send 60 = .ok (.istore 4, 2) := by decide +kernel
theorem dX11_send_62 : decode cX11_send 62 = .ok (.iload 4, 2) := by decide +kernel
theorem dX11_send_64 : decode cX11_send 64 = .ok (.aload_n 0, 1) := by decide +kernel
theorem dX11_send_65 : decode cX11_send 65 = .ok (.getfield 98, 3) := by decide +kernel
theorem dX11_send_68 : decode cX11_send 68 = .ok (.if_icmp .ge 32, 3) := by decide +kernel
theorem dX11_send_71 : decode cX11_send 71 = .ok (.iload_n 3, 1) := by decide +kernel
theorem dX11_send_72 : decode cX11_send 72 = .ok (.ifCond .eq 28, 3) := by decide +kernel
theorem dX11_send_75 : decode cX11_send 75 = .ok (.aload_n 0, 1) := by decide +kernel
theorem dX11_send_76 : decode cX11_send 76 = .ok (.getfield 29, 3) := by decide +kernel
theorem dX11_send_79 : decode cX11_send 79 = .ok (.iload 4, 2) := by decide +kernel
theorem dX11_send_81 : decode cX11_send 81 = .ok (.baload, 1) := by decide +kernel
theorem dX11_send_82 : decode cX11_send 82 = .ok (.invokestatic 293, 3) := by decide +kernel
theorem dX11_send_85 : decode cX11_send 85 = .ok (.ifCond .ne 7, 3) := by decide +kernel
theorem dX11_send_88 : decode cX11_send 88 = .ok (.iconst 1, 1) := by decide +kernel
theorem dX11_send_89 : decode cX11_send 89 = .ok (.goto 4, 3) := by decide +kernel
theorem dX11_send_92 : decode cX11_send 92 = .ok (.iconst 0, 1) := by decide +kernel
theorem dX11_send_93 : decode cX11_send 93 = .ok (.istore_n 3, 1) := by decide +kernel
theorem dX11_send_94 : decode cX11_send 94 = .ok (.iinc 4 1, 3) := by decide +kernel
theorem dX11_send_97 : decode cX11_send 97 = .ok (.goto (-35), 3) := by decide +kernel
theorem dX11_send_100 : decode cX11_send 100 = .ok (.aload_n 0, 1) := by decide +kernel
theorem dX11_send_101 : decode cX11_send 101 = .ok (.iload_n 3, 1) := by decide +kernel
theorem dX11_send_102 : decode cX11_send 102 = .ok (.ifCond .ne 7, 3) := by decide +kernel
theorem dX11_send_105 : decode cX11_send 105 = .ok (.iconst 1, 1) := by decide +kernel
theorem dX11_send_106 : decode cX11_send 106 = .ok (.goto 4, 3) := by decide +kernel
theorem dX11_send_109 : decode cX11_send 109 = .ok (.iconst 0, 1) := by decide +kernel
theorem dX11_send_110 : decode cX11_send 110 = .ok (.iconst 2, 1) := by decide +kernel
theorem dX11_send_111 : decode cX11_send 111 = .ok (.invokevirtual 266, 3) := by decide +kernel
theorem dX11_send_114 : decode cX11_send 114 = .ok (.ifCond .eq 5, 3) := by decide +kernel
theorem dX11_send_117 : decode cX11_send 117 = .ok (.iconst 0, 1) := by decide +kernel
theorem dX11_send_118 : decode cX11_send 118 = .ok (.ireturn, 1) := by decide +kernel
theorem dX11_send_119 : decode cX11_send 119 = .ok (.aload_n 0, 1) := by decide +kernel
theorem dX11_send_120 : decode cX11_send 120 = .ok (.iload_n 2, 1) := by decide +kernel
theorem dX11_send_121 : decode cX11_send 121 = .ok (.invokevirtual 423, 3) := by decide +kernel
theorem dX11_send_124 : decode cX11_send 124 = .ok (.aload_n 0, 1) := by decide +kernel
theorem dX11_send_125 : decode cX11_send 125 = .ok (.iconst 0, 1) := by decide +kernel
theorem dX11_send_126 : decode cX11_send 126 = .ok (.iconst 0, 1) := by decide +kernel
theorem dX11_send_127 : decode cX11_send 127 = .ok (.invokevirtual 417, 3) := by decide +kernel
theorem dX11_send_130 : decode cX11_send 130 = .ok (.ldc_w 407, 3) := by decide +kernel
theorem dX11_send_133 : decode cX11_send 133 = .ok (.if_icmp .ge 16, 3) := by decide +kernel
theorem dX11_send_136 : decode cX11_send 136 = .ok (.iload_n 1, 1) := by decide +kernel
theorem dX11_send_137 : decode cX11_send 137 = .ok (.iconst (-1), 1) := by decide +kernel
theorem dX11_send_138 : decode cX11_send 138 = .ok (.if_icmp .eq 13, 3) := by decide +kernel
theorem dX11_send_141 : decode cX11_send 141 = .ok (.aload_n 0, 1) := by decide +kernel
theorem dX11_send_142 : decode cX11_send 142 = .ok (.iload_n 1, 1) := by decide +kernel
theorem dX11_send_143 : decode cX11_send 143 = .ok (.invokevirtual 333, 3) := by decide +kernel
theorem dX11_send_146 : decode cX11_send 146 = .ok (.ifCond .eq 5, 3) := by decide +kernel
theorem dX11_send_149 : decode cX11_send 149 = .ok (.iconst (-1), 1) := by decide +kernel
theorem dX11_send_150 : decode cX11_send 150 = .ok (.ireturn, 1) := by decide +kernel
theorem dX11_send_151 : decode cX11_send 151 = .ok (.iload_n 1, 1) := by decide +kernel
theorem dX11_send_152 : decode cX11_send 152 = .ok (.iconst (-1), 1) := by decide +kernel
theorem dX11_send_153 : decode cX11_send 153 = .ok (.if_icmp .ne 10, 3) := by decide +kernel
theorem dX11_send_156 : decode cX11_send 156 = .ok (.aload_n 0, 1) := by decide +kernel
theorem dX11_send_157 : decode cX11_send 157 = .ok (.iconst 0, 1) := by decide +kernel
theorem dX11_send_158 : decode cX11_send 158 = .ok (.iconst 0, 1) := by decide +kernel
theorem dX11_send_159 : decode cX11_send 159 = .ok (.invokevirtual 417, 3) := by decide +kernel
theorem dX11_send_162 : decode cX11_send 162 = .ok (.ireturn, 1) := by decide +kernel
theorem dX11_send_163 : decode cX11_send 163 = .ok (.iconst 0, 1) := by decide +kernel
theorem dX11_send_164 : decode cX11_send 164 = .ok (.istore 4, 2) := by decide +kernel
theorem dX11_send_166 : decode cX11_send 166 = .ok (.iconst 0, 1) := by decide +kernel
theorem dX11_send_167 : decode cX11_send 167 = .ok (.istore 5, 2) := by decide +kernel
theorem dX11_send_169 : decode cX11_send 169 = .ok (.iconst 0, 1) := by decide +kernel
theorem dX11_send_170 : decode cX11_send 170 = .ok (.istore 6, 2) := by decide +kernel
theorem dX11_send_172 : decode cX11_send 172 = .ok (.iload 6, 2) := by decide +kernel
theorem dX11_send_174 : decode cX11_send 174 = .ok (.iload_n 1, 1) := by decide +kernel
theorem dX11_send_175 : decode cX11_send 175 = .ok (.if_icmp .gt 70, 3) := by decide +kernel
theorem dX11_send_178 : decode cX11_send 178 = .ok (.aload_n 0, 1) := by decide +kernel
theorem dX11_send_179 : decode cX11_send 179 = .ok (.iload 6, 2) := by decide +kernel
theorem dX11_send_181 : decode cX11_send 181 = .ok (.invokevirtual 333, 3) := by decide +kernel
theorem dX11_send_184 : decode cX11_send 184 = .ok (.ifCond .eq 6, 3) := by decide +kernel
theorem dX11_send_187 : decode cX11_send 187 = .ok (.goto 52, 3) := by decide +kernel
theorem dX11_send_190 : decode cX11_send 190 = .ok (.iconst 0, 1) := by decide +kernel
theorem dX11_send_191 : decode cX11_send 191 = .ok (.istore 5, 2) := by decide +kernel
theorem dX11_send_193 : decode cX11_send 193 = .ok (.iload 4, 2) := by decide +kernel
theorem dX11_send_195 : decode cX11_send 195 = .ok (.iload 5, 2) := by decide +kernel
theorem dX11_send_197 : decode cX11_send 197 = .ok (.invokestatic 396, 3) := by decide +kernel
theorem dX11_send_200 : decode cX11_send 200 = .ok (.ifCond .ne 24, 3) := by decide +kernel
theorem dX11_send_203 : decode cX11_send 203 = .ok (.aload_n 0, 1) := by decide +kernel
theorem dX11_send_204 : decode cX11_send 204 = .ok (.iload 6, 2) := by decide +kernel
theorem dX11_send_206 : decode cX11_send 206 = .ok (.iload 4, 2) := by decide +kernel
theorem dX11_send_208 : decode cX11_send 208 = .ok (.iload 5, 2) := by decide +kernel
theorem dX11_send_210 : decode cX11_send 210 = .ok (.invokevirtual 420, 3) := by decide +kernel
theorem dX11_send_213 : decode cX11_send 213 = .ok (.aload_n 0, 1) := by decide +kernel
theorem dX11_send_214 : decode cX11_send 214 = .ok (.iload 6, 2) := by decide +kernel
theorem dX11_send_216 : decode cX11_send 216 = .ok (.iload 4, 2) := by decide +kernel
theorem dX11_send_218 : decode cX11_send 218 = .ok (.invokevirtual 417, 3) := by decide +kernel
theorem dX11_send_221 : decode cX11_send 221 = .ok (.if_icmp .eq 9, 3) := by decide +kernel
theorem dX11_send_224 : decode cX11_send 224 = .ok (.iinc 5 1, 3) := by decide +kernel
theorem dX11_send_227 : decode cX11_send 227 = .ok (.goto (-34), 3) := by decide +kernel
theorem dX11_send_230 : decode cX11_send 230 = .ok (.iload 4, 2) := by decide +kernel
theorem dX11_send_232 : decode cX11_send 232 = .ok (.iconst 1, 1) := by decide +kernel
theorem dX11_send_233 : decode cX11_send 233 = .ok (.iload 5, 2) := by decide +kernel
theorem dX11_send_235 : decode cX11_send 235 = .ok (.ishl, 1) := by decide +kernel
theorem dX11_send_236 : decode cX11_send 236 = .ok (.ior, 1) := by decide +kernel
theorem dX11_send_237 : decode cX11_send 237 = .ok (.istore 4, 2) := by decide +kernel
theorem dX11_send_239 : decode cX11_send 239 = .ok (.iinc 6 1, 3) := by decide +kernel
theorem dX11_send_242 : decode cX11_send 242 = .ok (.goto (-70), 3) := by decide +kernel
theorem dX11_send_245 : decode cX11_send 245 = .ok (.iload 5, 2) := by decide +kernel
theorem dX11_send_247 : decode cX11_send 247 = .ok (.ireturn, 1) := by decide +kernel
theorem dX11_canBe_0 : decode cX11_canBe 0 = .ok (.iload 4, 2) := by decide +kernel
theorem dX11_canBe_2 : decode cX11_canBe 2 = .ok (.iload_n 3, 1) := by decide +kernel
theorem dX11_canBe_3 : decode cX11_canBe 3 = .ok (.invokestatic 396, 3) := by decide +kernel
theorem dX11_canBe_6 : decode cX11_canBe 6 = .ok (.ifCond .ne 11, 3) := by decide +kernel
theorem dX11_canBe_9 : decode cX11_canBe 9 = .ok (.aload_n 0, 1) := by decide +kernel
theorem dX11_canBe_10 : decode cX11_canBe 10 = .ok (.iload_n 3, 1) := by decide +kernel
theorem dX11_canBe_11 : decode cX11_canBe 11 = .ok (.invokevirtual 342, 3) := by decide +kernel
theorem dX11_canBe_14 : decode cX11_canBe 14 = .ok (.ifCond .eq 5, 3) := by decide +kernel
theorem dX11_canBe_17 : decode cX11_canBe 17 = .ok (.iconst 0, 1) := by decide +kernel
theorem dX11_canBe_18 : decode cX11_canBe 18 = .ok (.ireturn, 1) := by decide +kernel
theorem dX11_canBe_19 : decode cX11_canBe 19 = .ok (.aload_n 0, 1) := by decide +kernel
theorem dX11_canBe_20 : decode cX11_canBe 20 = .ok (.aload_n 0, 1) := by decide +kernel
theorem dX11_canBe_21 : decode cX11_canBe 21 = .ok (.getfield 51, 3) := by decide +kernel
theorem dX11_canBe_24 : decode cX11_canBe 24 = .ok (.iload_n 2, 1) := by decide +kernel
theorem dX11_canBe_25 : decode cX11_canBe 25 = .ok (.iaload, 1) := by decide +kernel
theorem dX11_canBe_26 : decode cX11_canBe 26 = .ok (.aload_n 0, 1) := by decide +kernel
theorem dX11_canBe_27 : decode cX11_canBe 27 = .ok (.iload_n 3, 1) := by decide +kernel
theorem dX11_canBe_28 : decode cX11_canBe 28 = .ok (.iconst 0, 1) := by decide +kernel
theorem dX11_canBe_29 : decode cX11_canBe 29 = .ok (.invokevirtual 77, 3) := by decide +kernel
theorem dX11_canBe_32 : decode cX11_canBe 32 = .ok (.aload_n 0, 1) := by decide +kernel
theorem dX11_canBe_33 : decode cX11_canBe 33 = .ok (.iload_n 1, 1) := by decide +kernel
theorem dX11_canBe_34 : decode cX11_canBe 34 = .ok (.iconst 2, 1) := by decide +kernel
theorem dX11_canBe_35 : decode cX11_canBe 35 = .ok (.invokevirtual 71, 3) := by decide +kernel
theorem dX11_canBe_38 : decode cX11_canBe 38 = .ok (.iconst 1, 1) := by decide +kernel
theorem dX11_canBe_39 : decode cX11_canBe 39 = .ok (.aload_n 0, 1) := by decide +kernel
theorem dX11_canBe_40 : decode cX11_canBe 40 = .ok (.getfield 54, 3) := by decide +kernel
theorem dX11_canBe_43 : decode cX11_canBe 43 = .ok (.iload_n 2, 1) := by decide +kernel
theorem dX11_canBe_44 : decode cX11_canBe 44 = .ok (.iaload, 1) := by decide +kernel
theorem dX11_canBe_45 : decode cX11_canBe 45 = .ok (.invokevirtual 411, 3) := by decide +kernel
theorem dX11_canBe_48 : decode cX11_canBe 48 = .ok (.istore 5, 2) := by decide +kernel
theorem dX11_canBe_50 : decode cX11_canBe 50 = .ok (.aload_n 0, 1) := by decide +kernel
theorem dX11_canBe_51 : decode cX11_canBe 51 = .ok (.getfield 54, 3) := by decide +kernel
theorem dX11_canBe_54 : decode cX11_canBe 54 = .ok (.iload_n 2, 1) := by decide +kernel
theorem dX11_canBe_55 : decode cX11_canBe 55 = .ok (.iaload, 1) := by decide +kernel
theorem dX11_canBe_56 : decode cX11_canBe 56 = .ok (.iload 5, 2) := by decide +kernel
theorem dX11_canBe_58 : decode cX11_canBe 58 = .ok (.iadd, 1) := by decide +kernel
theorem dX11_canBe_59 : decode cX11_canBe 59 = .ok (.aload_n 0, 1) := by decide +kernel
theorem dX11_canBe_60 : decode cX11_canBe 60 = .ok (.iload_n 3, 1) := by decide +kernel
theorem dX11_canBe_61 : decode cX11_canBe 61 = .ok (.iconst 1, 1) := by decide +kernel
theorem dX11_canBe_62 : decode cX11_canBe 62 = .ok (.invokevirtual 77, 3) := by decide +kernel
theorem dX11_canBe_65 : decode cX11_canBe 65 = .ok (.invokestatic 281, 3) := by decide +kernel
theorem dX11_canBe_68 : decode cX11_canBe 68 = .ok (.istore 6, 2) := by decide +kernel
theorem dX11_canBe_70 : decode cX11_canBe 70 = .ok (.iload 5, 2) := by decide +kernel
theorem dX11_canBe_72 : decode cX11_canBe 72 = .ok (.ldc_w 407, 3) := by decide +kernel
theorem dX11_canBe_75 : decode cX11_canBe 75 = .ok (.if_icmp .ge 14, 3) := by decide +kernel
theorem dX11_canBe_78 : decode cX11_canBe 78 = .ok (.iload 6, 2) := by decide +kernel
theorem dX11_canBe_80 : decode cX11_canBe 80 = .ok (.aload_n 0, 1) := by decide +kernel
theorem dX11_canBe_81 : decode cX11_canBe 81 = .ok (.iload_n 3, 1) := by decide +kernel
theorem dX11_canBe_82 : decode cX11_canBe 82 = .ok (.iconst 2, 1) := by decide +kernel
theorem dX11_canBe_83 : decode cX11_canBe 83 = .ok (.invokevirtual 77, 3) := by decide +kernel
theorem dX11_canBe_86 : decode cX11_canBe 86 = .ok (.if_icmp .le 5, 3) := by decide +kernel
theorem dX11_canBe_89 : decode cX11_canBe 89 = .ok (.iconst 0, 1) := by decide +kernel
theorem dX11_canBe_90 : decode cX11_canBe 90 = .ok (.ireturn, 1) := by decide +kernel
theorem dX11_canBe_91 : decode cX11_canBe 91 = .ok (.aload_n 0, 1) := by decide +kernel
theorem dX11_canBe_92 : decode cX11_canBe 92 = .ok (.getfield 51, 3) := by decide +kernel
theorem dX11_canBe_95 : decode cX11_canBe 95 = .ok (.iload_n 2, 1) := by decide +kernel
theorem dX11_canBe_96 : decode cX11_canBe 96 = .ok (.iconst 1, 1) := by decide +kernel
theorem dX11_canBe_97 : decode cX11_canBe 97 = .ok (.iadd, 1) := by decide +kernel
theorem dX11_canBe_98 : decode cX11_canBe 98 = .ok (.aload_n 0, 1) := by decide +kernel
theorem dX11_canBe_99 : decode cX11_canBe 99 = .ok (.iload_n 3, 1) := by decide +kernel
theorem dX11_canBe_100 : decode cX11_canBe 100 = .ok (.iconst 0, 1) := by decide +kernel
theorem dX11_canBe_101 : decode cX11_canBe 101 = .ok (.invokevirtual 77, 3) := by decide +kernel
theorem dX11_canBe_104 : decode cX11_canBe 104 = .ok (.iastore, 1) := by decide +kernel
theorem dX11_canBe_105 : decode cX11_canBe 105 = .ok (.aload_n 0, 1) := by decide +kernel
theorem dX11_canBe_106 : decode cX11_canBe 106 = .ok (.getfield 54, 3) := by decide +kernel
theorem dX11_canBe_109 : decode cX11_canBe 109 = .ok (.iload_n 2, 1) := by decide +kernel
theorem dX11_canBe_110 : decode cX11_canBe 110 = .ok (.iconst 1, 1) := by decide +kernel
theorem dX11_canBe_111 : decode cX11_canBe 111 = .ok (.iadd, 1) := by decide +kernel
theorem dX11_canBe_112 : decode cX11_canBe 112 = .ok (.iload 6, 2) := by decide +kernel
theorem dX11_canBe_114 : decode cX11_canBe 114 = .ok (.iastore, 1) := by decide +kernel
theorem dX11_canBe_115 : decode cX11_canBe 115 = .ok (.iconst 1, 1) := by decide +kernel
theorem dX11_canBe_116 : decode cX11_canBe 116 = .ok (.ireturn, 1) := by decide +kernel
theorem dX11_laysMost_0 : decode cX11_laysMost 0 = .ok (.aload_n 0, 1) := by decide +kernel
theorem dX11_laysMost_1 : decode cX11_laysMost 1 = .ok (.iconst 0, 1) := by decide +kernel
theorem dX11_laysMost_2 : decode cX11_laysMost 2 = .ok (.putfield 426, 3) := by decide +kernel
theorem dX11_laysMost_5 : decode cX11_laysMost 5 = .ok (.iconst 0, 1) := by decide +kernel
theorem dX11_laysMost_6 : decode cX11_laysMost 6 = .ok (.istore_n 2, 1) := by decide +kernel
theorem dX11_laysMost_7 : decode cX11_laysMost 7 = .ok (.iconst 0, 1) := by decide +kernel
theorem dX11_laysMost_8 : decode cX11_laysMost 8 = .ok (.istore_n 3, 1) := by decide +kernel
theorem dX11_laysMost_9 : decode cX11_laysMost 9 = .ok (.aload_n 0, 1) := by decide +kernel
theorem dX11_laysMost_10 : decode cX11_laysMost 10 = .ok (.getfield 51, 3) := by decide +kernel
theorem dX11_laysMost_13 : decode cX11_laysMost 13 = .ok (.iconst 0, 1) := by decide +kernel
theorem dX11_laysMost_14 : decode cX11_laysMost 14 = .ok (.aload_n 0, 1) := by decide +kernel
theorem dX11_laysMost_15 : decode cX11_laysMost 15 = .ok (.iload_n 1, 1) := by decide +kernel
theorem dX11_laysMost_16 : decode cX11_laysMost 16 = .ok (.iconst 0, 1) := by decide +kernel
theorem dX11_laysMost_17 : decode cX11_laysMost 17 = .ok (.invokevirtual 71, 3) := by decide +kernel
theorem dX11_laysMost_20 : decode cX11_laysMost 20 = .ok (.iastore, 1) := by decide +kernel
theorem dX11_laysMost_21 : decode cX11_laysMost 21 = .ok (.aload_n 0, 1) := by decide +kernel
theorem dX11_laysMost_22 : decode cX11_laysMost 22 = .ok (.getfield 54, 3) := by decide +kernel
theorem dX11_laysMost_25 : decode cX11_laysMost 25 = .ok (.iconst 0, 1) := by decide +kernel
theorem dX11_laysMost_26 : decode cX11_laysMost 26 = .ok (.aload_n 0, 1) := by decide +kernel
theorem dX11_laysMost_27 : decode cX11_laysMost 27 = .ok (.getfield 13, 3) := by decide +kernel
theorem dX11_laysMost_30 : decode cX11_laysMost 30 = .ok (.iconst 4, 1) := by decide +kernel
theorem dX11_laysMost_31 : decode cX11_laysMost 31 = .ok (.iaload, 1) := by decide +kernel
theorem dX11_laysMost_32 : decode cX11_laysMost 32 = .ok (.iastore, 1) := by decide +kernel
theorem dX11_laysMost_33 : decode cX11_laysMost 33 = .ok (.aload_n 0, 1) := by decide +kernel
theorem dX11_laysMost_34 : decode cX11_laysMost 34 = .ok (.getfield 48, 3) := by decide +kernel
theorem dX11_laysMost_37 : decode cX11_laysMost 37 = .ok (.iconst 0, 1) := by decide +kernel
theorem dX11_laysMost_38 : decode cX11_laysMost 38 = .ok (.iconst 0, 1) := by decide +kernel
theorem dX11_laysMost_39 : decode cX11_laysMost 39 = .ok (.iastore, 1) := by decide +kernel
theorem dX11_laysMost_40 : decode cX11_laysMost 40 = .ok (.iload_n 2, 1) := by decide +kernel
theorem dX11_laysMost_41 : decode cX11_laysMost 41 = .ok (.ifCond .lt 155, 3) := by decide +kernel
theorem dX11_laysMost_44 : decode cX11_laysMost 44 = .ok (.aload_n 0, 1) := by decide +kernel
theorem dX11_laysMost_45 : decode cX11_laysMost 45 = .ok (.getfield 48, 3) := by decide +kernel
theorem dX11_laysMost_48 : decode cX11_laysMost 48 = .ok (.iload_n 2, 1) := by decide +kernel
theorem dX11_laysMost_49 : decode cX11_laysMost 49 = .ok (.iaload, 1) := by decide +kernel
theorem dX11_laysMost_50 : decode cX11_laysMost 50 = .ok (.istore 4, 2) := by decide +kernel
theorem dX11_laysMost_52 : decode cX11_laysMost 52 = .ok (.iload_n 2, 1) := by decide +kernel
theorem dX11_laysMost_53 : decode cX11_laysMost 53 = .ok (.aload_n 0, 1) := by decide +kernel
theorem dX11_laysMost_54 : decode cX11_laysMost 54 = .ok (.invokevirtual 88, 3) := by decide +kernel
theorem dX11_laysMost_57 : decode cX11_laysMost 57 = .ok (.if_icmp .eq 12, 3) := by decide +kernel
theorem dX11_laysMost_60 : decode cX11_laysMost 60 = .ok (.iload 4, 2) := by decide +kernel
theorem dX11_laysMost_62 : decode cX11_laysMost 62 = .ok (.aload_n 0, 1) := by decide +kernel
theorem dX11_laysMost_63 : decode cX11_laysMost 63 = .ok (.invokevirtual 88, 3) := by decide +kernel
theorem dX11_laysMost_66 : decode cX11_laysMost 66 = .ok (.if_icmp .ne 36, 3) := by decide +kernel
theorem dX11_laysMost_69 : decode cX11_laysMost 69 = .ok (.iinc 2 (-1), 3) := by decide +kernel
theorem dX11_laysMost_72 : decode cX11_laysMost 72 = .ok (.iload_n 2, 1) := by decide +kernel
theorem dX11_laysMost_73 : decode cX11_laysMost 73 = .ok (.ifCond .lt 120, 3) := by decide +kernel
theorem dX11_laysMost_76 : decode cX11_laysMost 76 = .ok (.iload_n 3, 1) := by decide +kernel
theorem dX11_laysMost_77 : decode cX11_laysMost 77 = .ok (.iconst 1, 1) := by decide +kernel
theorem dX11_laysMost_78 : decode cX11_laysMost 78 = .ok (.aload_n 0, 1) := by decide +kernel
theorem dX11_laysMost_79 : decode cX11_laysMost 79 = .ok (.getfield 48, 3) := by decide +kernel
theorem dX11_laysMost_82 : decode cX11_laysMost 82 = .ok (.iload_n 2, 1) := by decide +kernel
theorem dX11_laysMost_83 : decode cX11_laysMost 83 = .ok (.iaload, 1) := by decide +kernel
theorem dX11_laysMost_84 : decode cX11_laysMost 84 = .ok (.ishl, 1) := by decide +kernel
theorem dX11_laysMost_85 : decode cX11_laysMost 85 = .ok (.iconst (-1), 1) := by decide +kernel
theorem dX11_laysMost_86 : decode cX11_laysMost 86 = .ok (.ixor, 1) := by decide +kernel
theorem dX11_laysMost_87 : decode cX11_laysMost 87 = .ok (.iand, 1) := by decide +kernel
theorem dX11_laysMost_88 : decode cX11_laysMost 88 = .ok (.istore_n 3, 1) := by decide +kernel
theorem dX11_laysMost_89 : decode cX11_laysMost 89 = .ok (.aload_n 0, 1) := by decide +kernel
theorem dX11_laysMost_90 : decode cX11_laysMost 90 = .ok (.getfield 48, 3) := by decide +kernel
theorem dX11_laysMost_93 : decode cX11_laysMost 93 = .ok (.iload_n 2, 1) := by decide +kernel
theorem dX11_laysMost_94 : decode cX11_laysMost 94 = .ok (.dup2, 1) := by decide +kernel
theorem dX11_laysMost_95 : decode cX11_laysMost 95 = .ok (.iaload, 1) := by decide +kernel
theorem dX11_laysMost_96 : decode cX11_laysMost 96 = .ok (.iconst 1, 1) := by decide +kernel
theorem dX11_laysMost_97 : decode cX11_laysMost 97 = .ok (.iadd, 1) := by decide +kernel
theorem dX11_laysMost_98 : decode cX11_laysMost 98 = .ok (.iastore, 1) := by decide +kernel
theorem dX11_laysMost_99 : decode cX11_laysMost 99 = .ok (.goto 94, 3) := by decide +kernel
theorem dX11_laysMost_102 : decode cX11_laysMost 102 = .ok (.aload_n 0, 1) := by decide +kernel
theorem dX11_laysMost_103 : decode cX11_laysMost 103 = .ok (.iload_n 1, 1) := by decide +kernel
theorem dX11_laysMost_104 : decode cX11_laysMost 104 = .ok (.iload_n 2, 1) := by decide +kernel
theorem dX11_laysMost_105 : decode cX11_laysMost 105 = .ok (.iload 4, 2) := by decide +kernel
theorem dX11_laysMost_107 : decode cX11_laysMost 107 = .ok (.iload_n 3, 1) := by decide +kernel
theorem dX11_laysMost_108 : decode cX11_laysMost 108 = .ok (.invokevirtual 429, 3) := by decide +kernel
theorem dX11_laysMost_111 : decode cX11_laysMost 111 = .ok (.ifCond .eq 72, 3) := by decide +kernel
theorem dX11_laysMost_114 : decode cX11_laysMost 114 = .ok (.iload_n 3, 1) := by decide +kernel
theorem dX11_laysMost_115 : decode cX11_laysMost 115 = .ok (.iconst 1, 1) := by decide +kernel
theorem dX11_laysMost_116 : decode cX11_laysMost 116 = .ok (.iload 4, 2) := by decide +kernel
theorem dX11_laysMost_118 : decode cX11_laysMost 118 = .ok (.ishl, 1) := by decide +kernel
theorem dX11_laysMost_119 : decode cX11_laysMost 119 = .ok (.ior, 1) := by decide +kernel
theorem dX11_laysMost_120 : decode cX11_laysMost 120 = .ok (.istore_n 3, 1) := by decide +kernel
theorem dX11_laysMost_121 : decode cX11_laysMost 121 = .ok (.iinc 2 1, 3) := by decide +kernel
theorem dX11_laysMost_124 : decode cX11_laysMost 124 = .ok (.aload_n 0, 1) := by decide +kernel
theorem dX11_laysMost_125 : decode cX11_laysMost 125 = .ok (.getfield 48, 3) := by decide +kernel
theorem dX11_laysMost_128 : decode cX11_laysMost 128 = .ok (.iload_n 2, 1) := by decide +kernel
theorem dX11_laysMost_129 : decode cX11_laysMost 129 = .ok (.iconst 0, 1) := by decide +kernel
theorem dX11_laysMost_130 : decode cX11_laysMost 130 = .ok (.iastore, 1) := by decide +kernel
theorem dX11_laysMost_131 : decode cX11_laysMost 131 = .ok (.iconst 0, 1) := by decide +kernel
theorem dX11_laysMost_132 : decode cX11_laysMost 132 = .ok (.istore 5, 2) := by decide +kernel
theorem dX11_laysMost_134 : decode cX11_laysMost 134 = .ok (.iload 5, 2) := by decide +kernel
theorem dX11_laysMost_136 : decode cX11_laysMost 136 = .ok (.iload_n 2, 1) := by decide +kernel
theorem dX11_laysMost_137 : decode cX11_laysMost 137 = .ok (.if_icmp .ge 31, 3) := by decide +kernel
theorem dX11_laysMost_140 : decode cX11_laysMost 140 = .ok (.iload_n 2, 1) := by decide +kernel
theorem dX11_laysMost_141 : decode cX11_laysMost 141 = .ok (.aload_n 0, 1) := by decide +kernel
theorem dX11_laysMost_142 : decode cX11_laysMost 142 = .ok (.getfield 426, 3) := by decide +kernel
theorem dX11_laysMost_145 : decode cX11_laysMost 145 = .ok (.if_icmp .le 23, 3) := by decide +kernel
theorem dX11_laysMost_148 : decode cX11_laysMost 148 = .ok (.aload_n 0, 1) := by decide +kernel
theorem dX11_laysMost_149 : decode cX11_laysMost 149 = .ok (.getfield 57, 3) := by decide +kernel
theorem dX11_laysMost_152 : decode cX11_laysMost 152 = .ok (.iload 5, 2) := by decide +kernel
theorem dX11_laysMost_154 : decode cX11_laysMost 154 = .ok (.aload_n 0, 1) := by decide +kernel
theorem dX11_laysMost_155 : decode cX11_laysMost 155 = .ok (.getfield 48, 3) := by decide +kernel
theorem dX11_laysMost_158 : decode cX11_laysMost 158 = .ok (.iload 5, 2) := by decide +kernel
theorem dX11_laysMost_160 : decode cX11_laysMost 160 = .ok (.iaload, 1) := by decide +kernel
theorem dX11_laysMost_161 : decode cX11_laysMost 161 = .ok (.iastore, 1) := by decide +kernel
theorem dX11_laysMost_162 : decode cX11_laysMost 162 = .ok (.iinc 5 1, 3) := by decide +kernel
theorem dX11_laysMost_165 : decode cX11_laysMost 165 = .ok (.goto (-31), 3) := by decide +kernel
theorem dX11_laysMost_168 : decode cX11_laysMost 168 = .ok (.aload_n 0, 1) := by decide +kernel
theorem dX11_laysMost_169 : decode cX11_laysMost 169 = .ok (.aload_n 0, 1) := by decide +kernel
theorem dX11_laysMost_170 : decode cX11_laysMost 170 = .ok (.getfield 426, 3) := by decide +kernel
theorem dX11_laysMost_173 : decode cX11_laysMost 173 = .ok (.iload_n 2, 1) := by decide +kernel
theorem dX11_laysMost_174 : decode cX11_laysMost 174 = .ok (.invokestatic 281, 3) := by decide +kernel
theorem dX11_laysMost_177 : decode cX11_laysMost 177 = .ok (.putfield 426, 3) := by decide +kernel
theorem dX11_laysMost_180 : decode cX11_laysMost 180 = .ok (.goto 13, 3) := by decide +kernel
theorem dX11_laysMost_183 : decode cX11_laysMost 183 = .ok (.aload_n 0, 1) := by decide +kernel
theorem dX11_laysMost_184 : decode cX11_laysMost 184 = .ok (.getfield 48, 3) := by decide +kernel
theorem dX11_laysMost_187 : decode cX11_laysMost 187 = .ok (.iload_n 2, 1) := by decide +kernel
theorem dX11_laysMost_188 : decode cX11_laysMost 188 = .ok (.dup2, 1) := by decide +kernel
theorem dX11_laysMost_189 : decode cX11_laysMost 189 = .ok (.iaload, 1) := by decide +kernel
theorem dX11_laysMost_190 : decode cX11_laysMost 190 = .ok (.iconst 1, 1) := by decide +kernel
theorem dX11_laysMost_191 : decode cX11_laysMost 191 = .ok (.iadd, 1) := by decide +kernel
theorem dX11_laysMost_192 : decode cX11_laysMost 192 = .ok (.iastore, 1) := by decide +kernel
theorem dX11_laysMost_193 : decode cX11_laysMost 193 = .ok (.goto (-153), 3) := by decide +kernel
theorem dX11_laysMost_196 : decode cX11_laysMost 196 = .ok (.return_, 1) := by decide +kernel
theorem dX11_most_0 : decode cX11_most 0 = .ok (.aload_n 0, 1) := by decide +kernel
theorem dX11_most_1 : decode cX11_most 1 = .ok (.iconst 0, 1) := by decide +kernel
theorem dX11_most_2 : decode cX11_most 2 = .ok (.putfield 3, 3) := by decide +kernel
theorem dX11_most_5 : decode cX11_most 5 = .ok (.aload_n 0, 1) := by decide +kernel
theorem dX11_most_6 : decode cX11_most 6 = .ok (.aload_n 0, 1) := by decide +kernel
theorem dX11_most_7 : decode cX11_most 7 = .ok (.iload_n 1, 1) := by decide +kernel
theorem dX11_most_8 : decode cX11_most 8 = .ok (.invokevirtual 321, 3) := by decide +kernel
theorem dX11_most_11 : decode cX11_most 11 = .ok (.iconst 1, 1) := by decide +kernel
theorem dX11_most_12 : decode cX11_most 12 = .ok (.invokevirtual 266, 3) := by decide +kernel
theorem dX11_most_15 : decode cX11_most 15 = .ok (.ifCond .eq 5, 3) := by decide +kernel
theorem dX11_most_18 : decode cX11_most 18 = .ok (.iconst 0, 1) := by decide +kernel
theorem dX11_most_19 : decode cX11_most 19 = .ok (.ireturn, 1) := by decide +kernel
theorem dX11_most_20 : decode cX11_most 20 = .ok (.aload_n 0, 1) := by decide +kernel
theorem dX11_most_21 : decode cX11_most 21 = .ok (.iload_n 1, 1) := by decide +kernel
theorem dX11_most_22 : decode cX11_most 22 = .ok (.invokevirtual 333, 3) := by decide +kernel
theorem dX11_most_25 : decode cX11_most 25 = .ok (.ifCond .eq 14, 3) := by decide +kernel
theorem dX11_most_28 : decode cX11_most 28 = .ok (.iload_n 2, 1) := by decide +kernel
theorem dX11_most_29 : decode cX11_most 29 = .ok (.iconst (-1), 1) := by decide +kernel
theorem dX11_most_30 : decode cX11_most 30 = .ok (.if_icmp .ne 7, 3) := by decide +kernel
theorem dX11_most_33 : decode cX11_most 33 = .ok (.iconst 0, 1) := by decide +kernel
theorem dX11_most_34 : decode cX11_most 34 = .ok (.goto 4, 3) := by decide +kernel
theorem dX11_most_37 : decode cX11_most 37 = .ok (.iconst (-1), 1) := by decide +kernel
theorem dX11_most_38 : decode cX11_most 38 = .ok (.ireturn, 1) := by decide +kernel
theorem dX11_most_39 : decode cX11_most 39 = .ok (.aload_n 0, 1) := by decide +kernel
theorem dX11_most_40 : decode cX11_most 40 = .ok (.iload_n 1, 1) := by decide +kernel
theorem dX11_most_41 : decode cX11_most 41 = .ok (.invokevirtual 433, 3) := by decide +kernel
theorem dX11_most_44 : decode cX11_most 44 = .ok (.iload_n 2, 1) := by decide +kernel
theorem dX11_most_45 : decode cX11_most 45 = .ok (.iconst (-1), 1) := by decide +kernel
theorem dX11_most_46 : decode cX11_most 46 = .ok (.if_icmp .ne 10, 3) := by decide +kernel
theorem dX11_most_49 : decode cX11_most 49 = .ok (.aload_n 0, 1) := by decide +kernel
theorem dX11_most_50 : decode cX11_most 50 = .ok (.getfield 426, 3) := by decide +kernel
theorem dX11_most_53 : decode cX11_most 53 = .ok (.goto 27, 3) := by decide +kernel
theorem dX11_most_56 : decode cX11_most 56 = .ok (.iload_n 2, 1) := by decide +kernel
theorem dX11_most_57 : decode cX11_most 57 = .ok (.iconst 0, 1) := by decide +kernel
theorem dX11_most_58 : decode cX11_most 58 = .ok (.aload_n 0, 1) := by decide +kernel
theorem dX11_most_59 : decode cX11_most 59 = .ok (.getfield 426, 3) := by decide +kernel
theorem dX11_most_62 : decode cX11_most 62 = .ok (.iconst 1, 1) := by decide +kernel
theorem dX11_most_63 : decode cX11_most 63 = .ok (.isub, 1) := by decide +kernel
theorem dX11_most_64 : decode cX11_most 64 = .ok (.invokestatic 84, 3) := by decide +kernel
theorem dX11_most_67 : decode cX11_most 67 = .ok (.ifCond .eq 12, 3) := by decide +kernel
theorem dX11_most_70 : decode cX11_most 70 = .ok (.aload_n 0, 1) := by decide +kernel
theorem dX11_most_71 : decode cX11_most 71 = .ok (.getfield 57, 3) := by decide +kernel
theorem dX11_most_74 : decode cX11_most 74 = .ok (.iload_n 2, 1) := by decide +kernel
theorem dX11_most_75 : decode cX11_most 75 = .ok (.iaload, 1) := by decide +kernel
theorem dX11_most_76 : decode cX11_most 76 = .ok (.goto 4, 3) := by decide +kernel
theorem dX11_most_79 : decode cX11_most 79 = .ok (.iconst (-1), 1) := by decide +kernel
theorem dX11_most_80 : decode cX11_most 80 = .ok (.ireturn, 1) := by decide +kernel
theorem dX11_isTold_0 : decode cX11_isTold 0 = .ok (.aload_n 0, 1) := by decide +kernel
theorem dX11_isTold_1 : decode cX11_isTold 1 = .ok (.getfield 98, 3) := by decide +kernel
theorem dX11_isTold_4 : decode cX11_isTold 4 = .ok (.iconst 2, 1) := by decide +kernel
theorem dX11_isTold_5 : decode cX11_isTold 5 = .ok (.irem, 1) := by decide +kernel
theorem dX11_isTold_6 : decode cX11_isTold 6 = .ok (.ifCond .ne 16, 3) := by decide +kernel
theorem dX11_isTold_9 : decode cX11_isTold 9 = .ok (.aload_n 0, 1) := by decide +kernel
theorem dX11_isTold_10 : decode cX11_isTold 10 = .ok (.getfield 98, 3) := by decide +kernel
theorem dX11_isTold_13 : decode cX11_isTold 13 = .ok (.bipush 40, 2) := by decide +kernel
theorem dX11_isTold_15 : decode cX11_isTold 15 = .ok (.if_icmp .gt 7, 3) := by decide +kernel
theorem dX11_isTold_18 : decode cX11_isTold 18 = .ok (.iconst 1, 1) := by decide +kernel
theorem dX11_isTold_19 : decode cX11_isTold 19 = .ok (.goto 4, 3) := by decide +kernel
theorem dX11_isTold_22 : decode cX11_isTold 22 = .ok (.iconst 0, 1) := by decide +kernel
theorem dX11_isTold_23 : decode cX11_isTold 23 = .ok (.istore_n 1, 1) := by decide +kernel
theorem dX11_isTold_24 : decode cX11_isTold 24 = .ok (.iconst 0, 1) := by decide +kernel
theorem dX11_isTold_25 : decode cX11_isTold 25 = .ok (.istore_n 2, 1) := by decide +kernel
theorem dX11_isTold_26 : decode cX11_isTold 26 = .ok (.iload_n 2, 1) := by decide +kernel
theorem dX11_isTold_27 : decode cX11_isTold 27 = .ok (.aload_n 0, 1) := by decide +kernel
theorem dX11_isTold_28 : decode cX11_isTold 28 = .ok (.getfield 98, 3) := by decide +kernel
theorem dX11_isTold_31 : decode cX11_isTold 31 = .ok (.if_icmp .ge 51, 3) := by decide +kernel
theorem dX11_isTold_34 : decode cX11_isTold 34 = .ok (.iload_n 1, 1) := by decide +kernel
theorem dX11_isTold_35 : decode cX11_isTold 35 = .ok (.ifCond .eq 47, 3) := by decide +kernel
theorem dX11_isTold_38 : decode cX11_isTold 38 = .ok (.aload_n 0, 1) := by decide +kernel
theorem dX11_isTold_39 : decode cX11_isTold 39 = .ok (.getfield 29, 3) := by decide +kernel
theorem dX11_isTold_42 : decode cX11_isTold 42 = .ok (.iload_n 2, 1) := by decide +kernel
theorem dX11_isTold_43 : decode cX11_isTold 43 = .ok (.baload, 1) := by decide +kernel
theorem dX11_isTold_44 : decode cX11_isTold 44 = .ok (.iconst 0, 1) := by decide +kernel
theorem dX11_isTold_45 : decode cX11_isTold 45 = .ok (.bipush 11, 2) := by decide +kernel
theorem dX11_isTold_47 : decode cX11_isTold 47 = .ok (.invokestatic 84, 3) := by decide +kernel
theorem dX11_isTold_50 : decode cX11_isTold 50 = .ok (.ifCond .eq 24, 3) := by decide +kernel
theorem dX11_isTold_53 : decode cX11_isTold 53 = .ok (.aload_n 0, 1) := by decide +kernel
theorem dX11_isTold_54 : decode cX11_isTold 54 = .ok (.getfield 29, 3) := by decide +kernel
theorem dX11_isTold_57 : decode cX11_isTold 57 = .ok (.iload_n 2, 1) := by decide +kernel
theorem dX11_isTold_58 : decode cX11_isTold 58 = .ok (.iconst 1, 1) := by decide +kernel
theorem dX11_isTold_59 : decode cX11_isTold 59 = .ok (.iadd, 1) := by decide +kernel
theorem dX11_isTold_60 : decode cX11_isTold 60 = .ok (.baload, 1) := by decide +kernel
theorem dX11_isTold_61 : decode cX11_isTold 61 = .ok (.iconst 0, 1) := by decide +kernel
theorem dX11_isTold_62 : decode cX11_isTold 62 = .ok (.bipush 12, 2) := by decide +kernel
theorem dX11_isTold_64 : decode cX11_isTold 64 = .ok (.invokestatic 84, 3) := by decide +kernel
theorem dX11_isTold_67 : decode cX11_isTold 67 = .ok (.ifCond .eq 7, 3) := by decide +kernel
theorem dX11_isTold_70 : decode cX11_isTold 70 = .ok (.iconst 1, 1) := by decide +kernel
theorem dX11_isTold_71 : decode cX11_isTold 71 = .ok (.goto 4, 3) := by decide +kernel
theorem dX11_isTold_74 : decode cX11_isTold 74 = .ok (.iconst 0, 1) := by decide +kernel
theorem dX11_isTold_75 : decode cX11_isTold 75 = .ok (.istore_n 1, 1) := by decide +kernel
theorem dX11_isTold_76 : decode cX11_isTold 76 = .ok (.iinc 2 2, 3) := by decide +kernel
theorem dX11_isTold_79 : decode cX11_isTold 79 = .ok (.goto (-53), 3) := by decide +kernel
theorem dX11_isTold_82 : decode cX11_isTold 82 = .ok (.iload_n 1, 1) := by decide +kernel
theorem dX11_isTold_83 : decode cX11_isTold 83 = .ok (.ireturn, 1) := by decide +kernel
theorem dX11_unlike_0 : decode cX11_unlike 0 = .ok (.iconst 0, 1) := by decide +kernel
theorem dX11_unlike_1 : decode cX11_unlike 1 = .ok (.istore_n 2, 1) := by decide +kernel
theorem dX11_unlike_2 : decode cX11_unlike 2 = .ok (.iconst 0, 1) := by decide +kernel
theorem dX11_unlike_3 : decode cX11_unlike 3 = .ok (.istore_n 3, 1) := by decide +kernel
theorem dX11_unlike_4 : decode cX11_unlike 4 = .ok (.iload_n 3, 1) := by decide +kernel
theorem dX11_unlike_5 : decode cX11_unlike 5 = .ok (.aload_n 0, 1) := by decide +kernel
theorem dX11_unlike_6 : decode cX11_unlike 6 = .ok (.getfield 98, 3) := by decide +kernel
theorem dX11_unlike_9 : decode cX11_unlike 9 = .ok (.if_icmp .ge 40, 3) := by decide +kernel
theorem dX11_unlike_12 : decode cX11_unlike 12 = .ok (.iload_n 2, 1) := by decide +kernel
theorem dX11_unlike_13 : decode cX11_unlike 13 = .ok (.aload_n 0, 1) := by decide +kernel
theorem dX11_unlike_14 : decode cX11_unlike 14 = .ok (.getfield 13, 3) := by decide +kernel
theorem dX11_unlike_17 : decode cX11_unlike 17 = .ok (.bipush 10, 2) := by decide +kernel
theorem dX11_unlike_19 : decode cX11_unlike 19 = .ok (.iaload, 1) := by decide +kernel
theorem dX11_unlike_20 : decode cX11_unlike 20 = .ok (.aload_n 0, 1) := by decide +kernel
theorem dX11_unlike_21 : decode cX11_unlike 21 = .ok (.getfield 29, 3) := by decide +kernel
theorem dX11_unlike_24 : decode cX11_unlike 24 = .ok (.iload_n 3, 1) := by decide +kernel
theorem dX11_unlike_25 : decode cX11_unlike 25 = .ok (.iconst 1, 1) := by decide +kernel
theorem dX11_unlike_26 : decode cX11_unlike 26 = .ok (.iadd, 1) := by decide +kernel
theorem dX11_unlike_27 : decode cX11_unlike 27 = .ok (.baload, 1) := by decide +kernel
theorem dX11_unlike_28 : decode cX11_unlike 28 = .ok (.iadd, 1) := by decide +kernel
theorem dX11_unlike_29 : decode cX11_unlike 29 = .ok (.bipush 6, 2) := by decide +kernel
theorem dX11_unlike_31 : decode cX11_unlike 31 = .ok (.isub, 1) := by decide +kernel
theorem dX11_unlike_32 : decode cX11_unlike 32 = .ok (.iload_n 1, 1) := by decide +kernel
theorem dX11_unlike_33 : decode cX11_unlike 33 = .ok (.if_icmp .ne 7, 3) := by decide +kernel
theorem dX11_unlike_36 : decode cX11_unlike 36 = .ok (.iconst 0, 1) := by decide +kernel
theorem dX11_unlike_37 : decode cX11_unlike 37 = .ok (.goto 4, 3) := by decide +kernel
theorem dX11_unlike_40 : decode cX11_unlike 40 = .ok (.iconst 1, 1) := by decide +kernel
theorem dX11_unlike_41 : decode cX11_unlike 41 = .ok (.iadd, 1) := by decide +kernel
theorem dX11_unlike_42 : decode cX11_unlike 42 = .ok (.istore_n 2, 1) := by decide +kernel
theorem dX11_unlike_43 : decode cX11_unlike 43 = .ok (.iinc 3 2, 3) := by decide +kernel
theorem dX11_unlike_46 : decode cX11_unlike 46 = .ok (.goto (-42), 3) := by decide +kernel
theorem dX11_unlike_49 : decode cX11_unlike 49 = .ok (.iload_n 2, 1) := by decide +kernel
theorem dX11_unlike_50 : decode cX11_unlike 50 = .ok (.ireturn, 1) := by decide +kernel
theorem dX11_came_0 : decode cX11_came 0 = .ok (.aload_n 0, 1) := by decide +kernel
theorem dX11_came_1 : decode cX11_came 1 = .ok (.invokevirtual 255, 3) := by decide +kernel
theorem dX11_came_4 : decode cX11_came 4 = .ok (.aload_n 0, 1) := by decide +kernel
theorem dX11_came_5 : decode cX11_came 5 = .ok (.aload_n 0, 1) := by decide +kernel
theorem dX11_came_6 : decode cX11_came 6 = .ok (.invokevirtual 436, 3) := by decide +kernel
theorem dX11_came_9 : decode cX11_came 9 = .ok (.ifCond .ne 7, 3) := by decide +kernel
theorem dX11_came_12 : decode cX11_came 12 = .ok (.iconst 1, 1) := by decide +kernel
theorem dX11_came_13 : decode cX11_came 13 = .ok (.goto 4, 3) := by decide +kernel
theorem dX11_came_16 : decode cX11_came 16 = .ok (.iconst 0, 1) := by decide +kernel
theorem dX11_came_17 : decode cX11_came 17 = .ok (.iconst 1, 1) := by decide +kernel
theorem dX11_came_18 : decode cX11_came 18 = .ok (.invokevirtual 266, 3) := by decide +kernel
theorem dX11_came_21 : decode cX11_came 21 = .ok (.ifCond .eq 5, 3) := by decide +kernel
theorem dX11_came_24 : decode cX11_came 24 = .ok (.iconst 0, 1) := by decide +kernel
theorem dX11_came_25 : decode cX11_came 25 = .ok (.ireturn, 1) := by decide +kernel
theorem dX11_came_26 : decode cX11_came 26 = .ok (.iconst 0, 1) := by decide +kernel
theorem dX11_came_27 : decode cX11_came 27 = .ok (.istore_n 2, 1) := by decide +kernel
theorem dX11_came_28 : decode cX11_came 28 = .ok (.bipush (-9), 2) := by decide +kernel
theorem dX11_came_30 : decode cX11_came 30 = .ok (.istore_n 3, 1) := by decide +kernel
theorem dX11_came_31 : decode cX11_came 31 = .ok (.iconst 3, 1) := by decide +kernel
theorem dX11_came_32 : decode cX11_came 32 = .ok (.istore 4, 2) := by decide +kernel
theorem dX11_came_34 : decode cX11_came 34 = .ok (.iload 4, 2) := by decide +kernel
theorem dX11_came_36 : decode cX11_came 36 = .ok (.bipush (-3), 2) := by decide +kernel
theorem dX11_came_38 : decode cX11_came 38 = .ok (.if_icmp .lt 27, 3) := by decide +kernel
theorem dX11_came_41 : decode cX11_came 41 = .ok (.aload_n 0, 1) := by decide +kernel
theorem dX11_came_42 : decode cX11_came 42 = .ok (.iload 4, 2) := by decide +kernel
theorem dX11_came_44 : decode cX11_came 44 = .ok (.invokevirtual 439, 3) := by decide +kernel
theorem dX11_came_47 : decode cX11_came 47 = .ok (.ifCond .le 6, 3) := by decide +kernel
theorem dX11_came_50 : decode cX11_came 50 = .ok (.goto 9, 3) := by decide +kernel
theorem dX11_came_53 : decode cX11_came 53 = .ok (.iinc 2 1, 3) := by decide +kernel
theorem dX11_came_56 : decode cX11_came 56 = .ok (.iload 4, 2) := by decide +kernel
theorem dX11_came_58 : decode cX11_came 58 = .ok (.istore_n 3, 1) := by decide +kernel
theorem dX11_came_59 : decode cX11_came 59 = .ok (.iinc 4 (-1), 3) := by decide +kernel
theorem dX11_came_62 : decode cX11_came 62 = .ok (.goto (-28), 3) := by decide +kernel
theorem dX11_came_65 : decode cX11_came 65 = .ok (.iload_n 1, 1) := by decide +kernel
theorem dX11_came_66 : decode cX11_came 66 = .ok (.ifCond .eq 7, 3) := by decide +kernel
theorem dX11_came_69 : decode cX11_came 69 = .ok (.iload_n 3, 1) := by decide +kernel
theorem dX11_came_70 : decode cX11_came 70 = .ok (.goto 4, 3) := by decide +kernel
theorem dX11_came_73 : decode cX11_came 73 = .ok (.iload_n 2, 1) := by decide +kernel
theorem dX11_came_74 : decode cX11_came 74 = .ok (.ireturn, 1) := by decide +kernel
theorem dX11_amends_0 : decode cX11_amends 0 = .ok (.aload_n 0, 1) := by decide +kernel
theorem dX11_amends_1 : decode cX11_amends 1 = .ok (.invokevirtual 255, 3) := by decide +kernel
theorem dX11_amends_4 : decode cX11_amends 4 = .ok (.aload_n 0, 1) := by decide +kernel
theorem dX11_amends_5 : decode cX11_amends 5 = .ok (.aload_n 0, 1) := by decide +kernel
theorem dX11_amends_6 : decode cX11_amends 6 = .ok (.invokevirtual 436, 3) := by decide +kernel
theorem dX11_amends_9 : decode cX11_amends 9 = .ok (.ifCond .ne 7, 3) := by decide +kernel
theorem dX11_amends_12 : decode cX11_amends 12 = .ok (.iconst 1, 1) := by decide +kernel
theorem dX11_amends_13 : decode cX11_amends 13 = .ok (.goto 4, 3) := by decide +kernel
theorem dX11_amends_16 : decode cX11_amends 16 = .ok (.iconst 0, 1) := by decide +kernel
theorem dX11_amends_17 : decode cX11_amends 17 = .ok (.iconst 1, 1) := by decide +kernel
theorem dX11_amends_18 : decode cX11_amends 18 = .ok (.invokevirtual 266, 3) := by decide +kernel
theorem dX11_amends_21 : decode cX11_amends 21 = .ok (.ifCond .eq 5, 3) := by decide +kernel
theorem dX11_amends_24 : decode cX11_amends 24 = .ok (.iconst 0, 1) := by decide +kernel
theorem dX11_amends_25 : decode cX11_amends 25 = .ok (.ireturn, 1) := by decide +kernel
theorem dX11_amends_26 : decode cX11_amends 26 = .ok (.bipush (-3), 2) := by decide +kernel
theorem dX11_amends_28 : decode cX11_amends 28 = .ok (.istore_n 2, 1) := by decide +kernel
theorem dX11_amends_29 : decode cX11_amends 29 = .ok (.iload_n 2, 1) := by decide +kernel
theorem dX11_amends_30 : decode cX11_amends 30 = .ok (.iconst 1, 1) := by decide +kernel
theorem dX11_amends_31 : decode cX11_amends 31 = .ok (.iadd, 1) := by decide +kernel
theorem dX11_amends_32 : decode cX11_amends 32 = .ok (.istore_n 3, 1) := by decide +kernel
theorem dX11_amends_33 : decode cX11_amends 33 = .ok (.iload_n 3, 1) := by decide +kernel
theorem dX11_amends_34 : decode cX11_amends 34 = .ok (.iconst 3, 1) := by decide +kernel
theorem dX11_amends_35 : decode cX11_amends 35 = .ok (.if_icmp .gt 28, 3) := by decide +kernel
theorem dX11_amends_38 : decode cX11_amends 38 = .ok (.aload_n 0, 1) := by decide +kernel
theorem dX11_amends_39 : decode cX11_amends 39 = .ok (.iload_n 3, 1) := by decide +kernel
theorem dX11_amends_40 : decode cX11_amends 40 = .ok (.invokevirtual 439, 3) := by decide +kernel
theorem dX11_amends_43 : decode cX11_amends 43 = .ok (.aload_n 0, 1) := by decide +kernel
theorem dX11_amends_44 : decode cX11_amends 44 = .ok (.iload_n 2, 1) := by decide +kernel
theorem dX11_amends_45 : decode cX11_amends 45 = .ok (.invokevirtual 439, 3) := by decide +kernel
theorem dX11_amends_48 : decode cX11_amends 48 = .ok (.if_icmp .ge 7, 3) := by decide +kernel
theorem dX11_amends_51 : decode cX11_amends 51 = .ok (.iload_n 3, 1) := by decide +kernel
theorem dX11_amends_52 : decode cX11_amends 52 = .ok (.goto 4, 3) := by decide +kernel
theorem dX11_amends_55 : decode cX11_amends 55 = .ok (.iload_n 2, 1) := by decide +kernel
theorem dX11_amends_56 : decode cX11_amends 56 = .ok (.istore_n 2, 1) := by decide +kernel
theorem dX11_amends_57 : decode cX11_amends 57 = .ok (.iinc 3 1, 3) := by decide +kernel
theorem dX11_amends_60 : decode cX11_amends 60 = .ok (.goto (-27), 3) := by decide +kernel
theorem dX11_amends_63 : decode cX11_amends 63 = .ok (.iload_n 1, 1) := by decide +kernel
theorem dX11_amends_64 : decode cX11_amends 64 = .ok (.ifCond .eq 7, 3) := by decide +kernel
theorem dX11_amends_67 : decode cX11_amends 67 = .ok (.iload_n 2, 1) := by decide +kernel
theorem dX11_amends_68 : decode cX11_amends 68 = .ok (.goto 8, 3) := by decide +kernel
theorem dX11_amends_71 : decode cX11_amends 71 = .ok (.aload_n 0, 1) := by decide +kernel
theorem dX11_amends_72 : decode cX11_amends 72 = .ok (.iload_n 2, 1) := by decide +kernel
theorem dX11_amends_73 : decode cX11_amends 73 = .ok (.invokevirtual 439, 3) := by decide +kernel
theorem dX11_amends_76 : decode cX11_amends 76 = .ok (.ireturn, 1) := by decide +kernel
theorem dX11_witness_0 : decode cX11_witness 0 = .ok (.aload_n 0, 1) := by decide +kernel
theorem dX11_witness_1 : decode cX11_witness 1 = .ok (.invokevirtual 255, 3) := by decide +kernel
theorem dX11_witness_4 : decode cX11_witness 4 = .ok (.aload_n 0, 1) := by decide +kernel
theorem dX11_witness_5 : decode cX11_witness 5 = .ok (.aload_n 0, 1) := by decide +kernel
theorem dX11_witness_6 : decode cX11_witness 6 = .ok (.invokevirtual 436, 3) := by decide +kernel
theorem dX11_witness_9 : decode cX11_witness 9 = .ok (.ifCond .ne 7, 3) := by decide +kernel
theorem dX11_witness_12 : decode cX11_witness 12 = .ok (.iconst 1, 1) := by decide +kernel
theorem dX11_witness_13 : decode cX11_witness 13 = .ok (.goto 4, 3) := by decide +kernel
theorem dX11_witness_16 : decode cX11_witness 16 = .ok (.iconst 0, 1) := by decide +kernel
theorem dX11_witness_17 : decode cX11_witness 17 = .ok (.iconst 1, 1) := by decide +kernel
theorem dX11_witness_18 : decode cX11_witness 18 = .ok (.invokevirtual 266, 3) := by decide +kernel
theorem dX11_witness_21 : decode cX11_witness 21 = .ok (.ifCond .eq 5, 3) := by decide +kernel
theorem dX11_witness_24 : decode cX11_witness 24 = .ok (.iconst 0, 1) := by decide +kernel
theorem dX11_witness_25 : decode cX11_witness 25 = .ok (.ireturn, 1) := by decide +kernel
theorem dX11_witness_26 : decode cX11_witness 26 = .ok (.iconst 0, 1) := by decide +kernel
theorem dX11_witness_27 : decode cX11_witness 27 = .ok (.istore_n 1, 1) := by decide +kernel
theorem dX11_witness_28 : decode cX11_witness 28 = .ok (.iconst 0, 1) := by decide +kernel
theorem dX11_witness_29 : decode cX11_witness 29 = .ok (.istore_n 2, 1) := by decide +kernel
theorem dX11_witness_30 : decode cX11_witness 30 = .ok (.iload_n 2, 1) := by decide +kernel
theorem dX11_witness_31 : decode cX11_witness 31 = .ok (.aload_n 0, 1) := by decide +kernel
theorem dX11_witness_32 : decode cX11_witness 32 = .ok (.getfield 98, 3) := by decide +kernel
theorem dX11_witness_35 : decode cX11_witness 35 = .ok (.if_icmp .ge 20, 3) := by decide +kernel
theorem dX11_witness_38 : decode cX11_witness 38 = .ok (.iload_n 1, 1) := by decide +kernel
theorem dX11_witness_39 : decode cX11_witness 39 = .ok (.iconst 1, 1) := by decide +kernel
theorem dX11_witness_40 : decode cX11_witness 40 = .ok (.aload_n 0, 1) := by decide +kernel
theorem dX11_witness_41 : decode cX11_witness 41 = .ok (.getfield 29, 3) := by decide +kernel
theorem dX11_witness_44 : decode cX11_witness 44 = .ok (.iload_n 2, 1) := by decide +kernel
theorem dX11_witness_45 : decode cX11_witness 45 = .ok (.baload, 1) := by decide +kernel
theorem dX11_witness_46 : decode cX11_witness 46 = .ok (.ishl, 1) := by decide +kernel
theorem dX11_witness_47 : decode cX11_witness 47 = .ok (.ior, 1) := by decide +kernel
theorem dX11_witness_48 : decode cX11_witness 48 = .ok (.istore_n 1, 1) := by decide +kernel
theorem dX11_witness_49 : decode cX11_witness 49 = .ok (.iinc 2 2, 3) := by decide +kernel
theorem dX11_witness_52 : decode cX11_witness 52 = .ok (.goto (-22), 3) := by decide +kernel
theorem dX11_witness_55 : decode cX11_witness 55 = .ok (.iconst (-1), 1) := by decide +kernel
theorem dX11_witness_56 : decode cX11_witness 56 = .ok (.istore_n 2, 1) := by decide +kernel
theorem dX11_witness_57 : decode cX11_witness 57 = .ok (.iconst (-1), 1) := by decide +kernel
theorem dX11_witness_58 : decode cX11_witness 58 = .ok (.istore_n 3, 1) := by decide +kernel
theorem dX11_witness_59 : decode cX11_witness 59 = .ok (.iconst 0, 1) := by decide +kernel
theorem dX11_witness_60 : decode cX11_witness 60 = .ok (.istore 4, 2) := by decide +kernel
theorem dX11_witness_62 : decode cX11_witness 62 = .ok (.iload 4, 2) := by decide +kernel
theorem dX11_witness_64 : decode cX11_witness 64 = .ok (.bipush 12, 2) := by decide +kernel
theorem dX11_witness_66 : decode cX11_witness 66 = .ok (.if_icmp .ge 57, 3) := by decide +kernel
theorem dX11_witness_69 : decode cX11_witness 69 = .ok (.iload_n 1, 1) := by decide +kernel
theorem dX11_witness_70 : decode cX11_witness 70 = .ok (.iload 4, 2) := by decide +kernel
theorem dX11_witness_72 : decode cX11_witness 72 = .ok (.invokestatic 396, 3) := by decide +kernel
theorem dX11_witness_75 : decode cX11_witness 75 = .ok (.ifCond .eq 7, 3) := by decide +kernel
theorem dX11_witness_78 : decode cX11_witness 78 = .ok (.iconst (-1), 1) := by decide +kernel
theorem dX11_witness_79 : decode cX11_witness 79 = .ok (.goto 16, 3) := by decide +kernel
theorem dX11_witness_82 : decode cX11_witness 82 = .ok (.aload_n 0, 1) := by decide +kernel
theorem dX11_witness_83 : decode cX11_witness 83 = .ok (.getfield 13, 3) := by decide +kernel
theorem dX11_witness_86 : decode cX11_witness 86 = .ok (.bipush 26, 2) := by decide +kernel
theorem dX11_witness_88 : decode cX11_witness 88 = .ok (.iload 4, 2) := by decide +kernel
theorem dX11_witness_90 : decode cX11_witness 90 = .ok (.iadd, 1) := by decide +kernel
theorem dX11_witness_91 : decode cX11_witness 91 = .ok (.iaload, 1) := by decide +kernel
theorem dX11_witness_92 : decode cX11_witness 92 = .ok (.invokestatic 269, 3) := by decide +kernel
theorem dX11_witness_95 : decode cX11_witness 95 = .ok (.istore 5, 2) := by decide +kernel
theorem dX11_witness_97 : decode cX11_witness 97 = .ok (.iload 5, 2) := by decide +kernel
theorem dX11_witness_99 : decode cX11_witness 99 = .ok (.iload_n 3, 1) := by decide +kernel
theorem dX11_witness_100 : decode cX11_witness 100 = .ok (.if_icmp .le 8, 3) := by decide +kernel
theorem dX11_witness_103 : decode cX11_witness 103 = .ok (.iload 4, 2) := by decide +kernel
theorem dX11_witness_105 : decode cX11_witness 105 = .ok (.goto 4, 3) := by decide +kernel
theorem dX11_witness_108 : decode cX11_witness 108 = .ok (.iload_n 2, 1) := by decide +kernel
theorem dX11_witness_109 : decode cX11_witness 109 = .ok (.istore_n 2, 1) := by decide +kernel
theorem dX11_witness_110 : decode cX11_witness 110 = .ok (.iload_n 3, 1) := by decide +kernel
theorem dX11_witness_111 : decode cX11_witness 111 = .ok (.iload 5, 2) := by decide +kernel
theorem dX11_witness_113 : decode cX11_witness 113 = .ok (.invokestatic 281, 3) := by decide +kernel
theorem dX11_witness_116 : decode cX11_witness 116 = .ok (.istore_n 3, 1) := by decide +kernel
theorem dX11_witness_117 : decode cX11_witness 117 = .ok (.iinc 4 1, 3) := by decide +kernel
theorem dX11_witness_120 : decode cX11_witness 120 = .ok (.goto (-58), 3) := by decide +kernel
theorem dX11_witness_123 : decode cX11_witness 123 = .ok (.iload_n 2, 1) := by decide +kernel
theorem dX11_witness_124 : decode cX11_witness 124 = .ok (.ireturn, 1) := by decide +kernel
theorem dX11_dayOf_0 : decode cX11_dayOf 0 = .ok (.aload_n 0, 1) := by decide +kernel
theorem dX11_dayOf_1 : decode cX11_dayOf 1 = .ok (.iload_n 1, 1) := by decide +kernel
theorem dX11_dayOf_2 : decode cX11_dayOf 2 = .ok (.invokevirtual 299, 3) := by decide +kernel
theorem dX11_dayOf_5 : decode cX11_dayOf 5 = .ok (.aload_n 0, 1) := by decide +kernel
theorem dX11_dayOf_6 : decode cX11_dayOf 6 = .ok (.getfield 13, 3) := by decide +kernel
theorem dX11_dayOf_9 : decode cX11_dayOf 9 = .ok (.bipush 10, 2) := by decide +kernel
theorem dX11_dayOf_11 : decode cX11_dayOf 11 = .ok (.iaload, 1) := by decide +kernel
theorem dX11_dayOf_12 : decode cX11_dayOf 12 = .ok (.isub, 1) := by decide +kernel
theorem dX11_dayOf_13 : decode cX11_dayOf 13 = .ok (.iload_n 2, 1) := by decide +kernel
theorem dX11_dayOf_14 : decode cX11_dayOf 14 = .ok (.iadd, 1) := by decide +kernel
theorem dX11_dayOf_15 : decode cX11_dayOf 15 = .ok (.bipush 24, 2) := by decide +kernel
theorem dX11_dayOf_17 : decode cX11_dayOf 17 = .ok (.invokestatic 442, 3) := by decide +kernel
theorem dX11_dayOf_20 : decode cX11_dayOf 20 = .ok (.ireturn, 1) := by decide +kernel
theorem dX11_clash_0 : decode cX11_clash 0 = .ok (.aload_n 0, 1) := by decide +kernel
theorem dX11_clash_1 : decode cX11_clash 1 = .ok (.iconst 0, 1) := by decide +kernel
theorem dX11_clash_2 : decode cX11_clash 2 = .ok (.putfield 3, 3) := by decide +kernel
theorem dX11_clash_5 : decode cX11_clash 5 = .ok (.aload_n 0, 1) := by decide +kernel
theorem dX11_clash_6 : decode cX11_clash 6 = .ok (.iload_n 1, 1) := by decide +kernel
theorem dX11_clash_7 : decode cX11_clash 7 = .ok (.invokestatic 339, 3) := by decide +kernel
theorem dX11_clash_10 : decode cX11_clash 10 = .ok (.ifCond .ne 10, 3) := by decide +kernel
theorem dX11_clash_13 : decode cX11_clash 13 = .ok (.iload_n 2, 1) := by decide +kernel
theorem dX11_clash_14 : decode cX11_clash 14 = .ok (.invokestatic 339, 3) := by decide +kernel
theorem dX11_clash_17 : decode cX11_clash 17 = .ok (.ifCond .eq 7, 3) := by decide +kernel
theorem dX11_clash_20 : decode cX11_clash 20 = .ok (.iconst 1, 1) := by decide +kernel
theorem dX11_clash_21 : decode cX11_clash 21 = .ok (.goto 4, 3) := by decide +kernel
theorem dX11_clash_24 : decode cX11_clash 24 = .ok (.iconst 0, 1) := by decide +kernel
theorem dX11_clash_25 : decode cX11_clash 25 = .ok (.iconst 1, 1) := by decide +kernel
theorem dX11_clash_26 : decode cX11_clash 26 = .ok (.invokevirtual 266, 3) := by decide +kernel
theorem dX11_clash_29 : decode cX11_clash 29 = .ok (.ifCond .eq 5, 3) := by decide +kernel
theorem dX11_clash_32 : decode cX11_clash 32 = .ok (.iconst 0, 1) := by decide +kernel
theorem dX11_clash_33 : decode cX11_clash 33 = .ok (.ireturn, 1) := by decide +kernel
theorem dX11_clash_34 : decode cX11_clash 34 = .ok (.iconst 0, 1) := by decide +kernel
theorem dX11_clash_35 : decode cX11_clash 35 = .ok (.istore_n 3, 1) := by decide +kernel
theorem dX11_clash_36 : decode cX11_clash 36 = .ok (.iconst 0, 1) := by decide +kernel
theorem dX11_clash_37 : decode cX11_clash 37 = .ok (.istore 4, 2) := by decide +kernel
theorem dX11_clash_39 : decode cX11_clash 39 = .ok (.iload 4, 2) := by decide +kernel
theorem dX11_clash_41 : decode cX11_clash 41 = .ok (.bipush 12, 2) := by decide +kernel
theorem dX11_clash_43 : decode cX11_clash 43 = .ok (.if_icmp .ge 37, 3) := by decide +kernel
theorem dX11_clash_46 : decode cX11_clash 46 = .ok (.iload_n 3, 1) := by decide +kernel
theorem dX11_clash_47 : decode cX11_clash 47 = .ok (.aload_n 0, 1) := by decide +kernel
theorem dX11_clash_48 : decode cX11_clash 48 = .ok (.iload 4, 2) := by decide +kernel
theorem dX11_clash_50 : decode cX11_clash 50 = .ok (.iload_n 1, 1) := by decide +kernel
theorem dX11_clash_51 : decode cX11_clash 51 = .ok (.invokevirtual 445, 3) := by decide +kernel
theorem dX11_clash_54 : decode cX11_clash 54 = .ok (.aload_n 0, 1) := by decide +kernel
theorem dX11_clash_55 : decode cX11_clash 55 = .ok (.iload 4, 2) := by decide +kernel
theorem dX11_clash_57 : decode cX11_clash 57 = .ok (.iload_n 2, 1) := by decide +kernel
theorem dX11_clash_58 : decode cX11_clash 58 = .ok (.invokevirtual 445, 3) := by decide +kernel
theorem dX11_clash_61 : decode cX11_clash 61 = .ok (.if_icmp .eq 10, 3) := by decide +kernel
theorem dX11_clash_64 : decode cX11_clash 64 = .ok (.iconst 1, 1) := by decide +kernel
theorem dX11_clash_65 : decode cX11_clash 65 = .ok (.iload 4, 2) := by decide +kernel
theorem dX11_clash_67 : decode cX11_clash 67 = .ok (.ishl, 1) := by decide +kernel
theorem dX11_clash_68 : decode cX11_clash 68 = .ok (.goto 4, 3) := by decide +kernel
theorem dX11_clash_71 : decode cX11_clash 71 = .ok (.iconst 0, 1) := by decide +kernel
theorem dX11_clash_72 : decode cX11_clash 72 = .ok (.ior, 1) := by decide +kernel
theorem dX11_clash_73 : decode cX11_clash 73 = .ok (.istore_n 3, 1) := by decide +kernel
theorem dX11_clash_74 : decode cX11_clash 74 = .ok (.iinc 4 1, 3) := by decide +kernel
theorem dX11_clash_77 : decode cX11_clash 77 = .ok (.goto (-38), 3) := by decide +kernel
theorem dX11_clash_80 : decode cX11_clash 80 = .ok (.iload_n 3, 1) := by decide +kernel
theorem dX11_clash_81 : decode cX11_clash 81 = .ok (.ireturn, 1) := by decide +kernel
theorem dX11_blank_0 : decode cX11_blank 0 = .ok (.aload_n 0, 1) := by decide +kernel
theorem dX11_blank_1 : decode cX11_blank 1 = .ok (.iconst 0, 1) := by decide +kernel
theorem dX11_blank_2 : decode cX11_blank 2 = .ok (.putfield 3, 3) := by decide +kernel
theorem dX11_blank_5 : decode cX11_blank 5 = .ok (.iconst 1, 1) := by decide +kernel
theorem dX11_blank_6 : decode cX11_blank 6 = .ok (.istore_n 1, 1) := by decide +kernel
theorem dX11_blank_7 : decode cX11_blank 7 = .ok (.iload_n 1, 1) := by decide +kernel
theorem dX11_blank_8 : decode cX11_blank 8 = .ok (.bipush 12, 2) := by decide +kernel
theorem dX11_blank_10 : decode cX11_blank 10 = .ok (.if_icmp .ge 26, 3) := by decide +kernel
theorem dX11_blank_13 : decode cX11_blank 13 = .ok (.aload_n 0, 1) := by decide +kernel
theorem dX11_blank_14 : decode cX11_blank 14 = .ok (.iload_n 1, 1) := by decide +kernel
theorem dX11_blank_15 : decode cX11_blank 15 = .ok (.invokevirtual 299, 3) := by decide +kernel
theorem dX11_blank_18 : decode cX11_blank 18 = .ok (.aload_n 0, 1) := by decide +kernel
theorem dX11_blank_19 : decode cX11_blank 19 = .ok (.iload_n 1, 1) := by decide +kernel
theorem dX11_blank_20 : decode cX11_blank 20 = .ok (.iconst 1, 1) := by decide +kernel
theorem dX11_blank_21 : decode cX11_blank 21 = .ok (.isub, 1) := by decide +kernel
theorem dX11_blank_22 : decode cX11_blank 22 = .ok (.invokevirtual 299, 3) := by decide +kernel
theorem dX11_blank_25 : decode cX11_blank 25 = .ok (.if_icmp .gt 5, 3) := by decide +kernel
theorem dX11_blank_28 : decode cX11_blank 28 = .ok (.iload_n 1, 1) := by decide +kernel
theorem dX11_blank_29 : decode cX11_blank 29 = .ok (.ireturn, 1) := by decide +kernel
theorem dX11_blank_30 : decode cX11_blank 30 = .ok (.iinc 1 1, 3) := by decide +kernel
theorem dX11_blank_33 : decode cX11_blank 33 = .ok (.goto (-26), 3) := by decide +kernel
theorem dX11_blank_36 : decode cX11_blank 36 = .ok (.iconst (-1), 1) := by decide +kernel
theorem dX11_blank_37 : decode cX11_blank 37 = .ok (.ireturn, 1) := by decide +kernel
theorem dX11_odds_0 : decode cX11_odds 0 = .ok (.aload_n 0, 1) := by decide +kernel
theorem dX11_odds_1 : decode cX11_odds 1 = .ok (.iconst 0, 1) := by decide +kernel
theorem dX11_odds_2 : decode cX11_odds 2 = .ok (.putfield 3, 3) := by decide +kernel
theorem dX11_odds_5 : decode cX11_odds 5 = .ok (.aload_n 0, 1) := by decide +kernel
theorem dX11_odds_6 : decode cX11_odds 6 = .ok (.iload_n 1, 1) := by decide +kernel
theorem dX11_odds_7 : decode cX11_odds 7 = .ok (.iconst 0, 1) := by decide +kernel
theorem dX11_odds_8 : decode cX11_odds 8 = .ok (.bipush 6, 2) := by decide +kernel
theorem dX11_odds_10 : decode cX11_odds 10 = .ok (.invokestatic 84, 3) := by decide +kernel
theorem dX11_odds_13 : decode cX11_odds 13 = .ok (.ifCond .eq 13, 3) := by decide +kernel
theorem dX11_odds_16 : decode cX11_odds 16 = .ok (.iload_n 2, 1) := by decide +kernel
theorem dX11_odds_17 : decode cX11_odds 17 = .ok (.iconst 0, 1) := by decide +kernel
theorem dX11_odds_18 : decode cX11_odds 18 = .ok (.bipush 6, 2) := by decide +kernel
theorem dX11_odds_20 : decode cX11_odds 20 = .ok (.invokestatic 84, 3) := by decide +kernel
theorem dX11_odds_23 : decode cX11_odds 23 = .ok (.ifCond .ne 7, 3) := by decide +kernel
theorem dX11_odds_26 : decode cX11_odds 26 = .ok (.iconst 1, 1) := by decide +kernel
theorem dX11_odds_27 : decode cX11_odds 27 = .ok (.goto 4, 3) := by decide +kernel
theorem dX11_odds_30 : decode cX11_odds 30 = .ok (.iconst 0, 1) := by decide +kernel
theorem dX11_odds_31 : decode cX11_odds 31 = .ok (.iconst 1, 1) := by decide +kernel
theorem dX11_odds_32 : decode cX11_odds 32 = .ok (.invokevirtual 266, 3) := by decide +kernel
theorem dX11_odds_35 : decode cX11_odds 35 = .ok (.ifCond .eq 5, 3) := by decide +kernel
theorem dX11_odds_38 : decode cX11_odds 38 = .ok (.iconst 0, 1) := by decide +kernel
theorem dX11_odds_39 : decode cX11_odds 39 = .ok (.ireturn, 1) := by decide +kernel
theorem dX11_odds_40 : decode cX11_odds 40 = .ok (.lconst 0, 1) := by decide +kernel
theorem dX11_odds_41 : decode cX11_odds 41 = .ok (.lstore_n 3, 1) := by decide +kernel
theorem dX11_odds_42 : decode cX11_odds 42 = .ok (.lconst 1, 1) := by decide +kernel
theorem dX11_odds_43 : decode cX11_odds 43 = .ok (.lstore 5, 2) := by decide +kernel
theorem dX11_odds_45 : decode cX11_odds 45 = .ok (.iconst 0, 1) := by decide +kernel
theorem dX11_odds_46 : decode cX11_odds 46 = .ok (.istore 7, 2) := by decide +kernel
theorem dX11_odds_48 : decode cX11_odds 48 = .ok (.iload 7, 2) := by decide +kernel
theorem dX11_odds_50 : decode cX11_odds 50 = .ok (.iload_n 1, 1) := by decide +kernel
theorem dX11_odds_51 : decode cX11_odds 51 = .ok (.if_icmp .ge 17, 3) := by decide +kernel
theorem dX11_odds_54 : decode cX11_odds 54 = .ok (.lload 5, 2) := by decide +kernel
theorem dX11_odds_56 : decode cX11_odds 56 = .ok (.ldc2_w 448, 3) := by decide +kernel
theorem dX11_odds_59 : decode cX11_odds 59 = .ok (.lmul, 1) := by decide +kernel
theorem dX11_odds_60 : decode cX11_odds 60 = .ok (.lstore 5, 2) := by decide +kernel
theorem dX11_odds_62 : decode cX11_odds 62 = .ok (.iinc 7 1, 3) := by decide +kernel
theorem dX11_odds_65 : decode cX11_odds 65 = .ok (.goto (-17), 3) := by decide +kernel
theorem dX11_odds_68 : decode cX11_odds 68 = .ok (.iconst 0, 1) := by decide +kernel
theorem dX11_odds_69 : decode cX11_odds 69 = .ok (.istore 7, 2) := by decide +kernel
theorem dX11_odds_71 : decode cX11_odds 71 = .ok (.iload 7, 2) := by decide +kernel
theorem dX11_odds_73 : decode cX11_odds 73 = .ok (.iconst 1, 1) := by decide +kernel
theorem dX11_odds_74 : decode cX11_odds 74 = .ok (.iload_n 1, 1) := by decide +kernel
theorem dX11_odds_75 : decode cX11_odds 75 = .ok (.ishl, 1) := by decide +kernel
theorem dX11_odds_76 : decode cX11_odds 76 = .ok (.if_icmp .ge 81, 3) := by decide +kernel
theorem dX11_odds_79 : decode cX11_odds 79 = .ok (.iload 7, 2) := by decide +kernel
theorem dX11_odds_81 : decode cX11_odds 81 = .ok (.invokestatic 371, 3) := by decide +kernel
theorem dX11_odds_84 : decode cX11_odds 84 = .ok (.iload_n 2, 1) := by decide +kernel
theorem dX11_odds_85 : decode cX11_odds 85 = .ok (.if_icmp .ge 6, 3) := by decide +kernel
theorem dX11_odds_88 : decode cX11_odds 88 = .ok (.goto 63, 3) := by decide +kernel
theorem dX11_odds_91 : decode cX11_odds 91 = .ok (.lconst 1, 1) := by decide +kernel
theorem dX11_odds_92 : decode cX11_odds 92 = .ok (.lstore 8, 2) := by decide +kernel
theorem dX11_odds_94 : decode cX11_odds 94 = .ok (.iconst 0, 1) := by decide +kernel
theorem dX11_odds_95 : decode cX11_odds 95 = .ok (.istore 10, 2) := by decide +kernel
theorem dX11_odds_97 : decode cX11_odds 97 = .ok (.iload 10, 2) := by decide +kernel
theorem dX11_odds_99 : decode cX11_odds 99 = .ok (.iload_n 1, 1) := by decide +kernel
theorem dX11_odds_100 : decode cX11_odds 100 = .ok (.if_icmp .ge 46, 3) := by decide +kernel
theorem dX11_odds_103 : decode cX11_odds 103 = .ok (.lload 8, 2) := by decide +kernel
theorem dX11_odds_105 : decode cX11_odds 105 = .ok (.iload 7, 2) := by decide +kernel
theorem dX11_odds_107 : decode cX11_odds 107 = .ok (.iload 10, 2) := by decide +kernel
theorem dX11_odds_109 : decode cX11_odds 109 = .ok (.invokestatic 396, 3) := by decide +kernel
theorem dX11_odds_112 : decode cX11_odds 112 = .ok (.ifCond .eq 14, 3) := by decide +kernel
theorem dX11_odds_115 : decode cX11_odds 115 = .ok (.aload_n 0, 1) := by decide +kernel
theorem dX11_odds_116 : decode cX11_odds 116 = .ok (.getfield 13, 3) := by decide +kernel
theorem dX11_odds_119 : decode cX11_odds 119 = .ok (.bipush 11, 2) := by decide +kernel
theorem dX11_odds_121 : decode cX11_odds 121 = .ok (.iaload, 1) := by decide +kernel
theorem dX11_odds_122 : decode cX11_odds 122 = .ok (.i2l, 1) := by decide +kernel
theorem dX11_odds_123 : decode cX11_odds 123 = .ok (.goto 14, 3) := by decide +kernel
theorem dX11_odds_126 : decode cX11_odds 126 = .ok (.bipush 100, 2) := by decide +kernel
theorem dX11_odds_128 : decode cX11_odds 128 = .ok (.aload_n 0, 1) := by decide +kernel
theorem dX11_odds_129 : decode cX11_odds 129 = .ok (.getfield 13, 3) := by decide +kernel
theorem dX11_odds_132 : decode cX11_odds 132 = .ok (.bipush 11, 2) := by decide +kernel
theorem dX11_odds_134 : decode cX11_odds 134 = .ok (.iaload, 1) := by decide +kernel
theorem dX11_odds_135 : decode cX11_odds 135 = .ok (.isub, 1) := by decide +kernel
theorem dX11_odds_136 : decode cX11_odds 136 = .ok (.i2l, 1) := by decide +kernel
theorem dX11_odds_137 : decode cX11_odds 137 = .ok (.lmul, 1) := by decide +kernel
theorem dX11_odds_138 : decode cX11_odds 138 = .ok (.lstore 8, 2) := by decide +kernel
theorem dX11_odds_140 : decode cX11_odds 140 = .ok (.iinc 10 1, 3) := by decide +kernel
theorem dX11_odds_143 : decode cX11_odds 143 = .ok (.goto (-46), 3) := by decide +kernel
theorem dX11_odds_146 : decode cX11_odds 146 = .ok (.lload_n 3, 1) := by decide +kernel
theorem dX11_odds_147 : decode cX11_odds 147 = .ok (.lload 8, 2) := by decide +kernel
theorem dX11_odds_149 : decode cX11_odds 149 = .ok (.ladd, 1) := by decide +kernel
theorem dX11_odds_150 : decode cX11_odds 150 = .ok (.lstore_n 3, 1) := by decide +kernel
theorem dX11_odds_151 : decode cX11_odds 151 = .ok (.iinc 7 1, 3) := by decide +kernel
theorem dX11_odds_154 : decode cX11_odds 154 = .ok (.goto (-83), 3) := by decide +kernel
theorem dX11_odds_157 : decode cX11_odds 157 = .ok (.ldc2_w 450, 3) := by decide +kernel
theorem dX11_odds_160 : decode cX11_odds 160 = .ok (.lload_n 3, 1) := by decide +kernel
theorem dX11_odds_161 : decode cX11_odds 161 = .ok (.lmul, 1) := by decide +kernel
theorem dX11_odds_162 : decode cX11_odds 162 = .ok (.lload 5, 2) := by decide +kernel
theorem dX11_odds_164 : decode cX11_odds 164 = .ok (.ldiv, 1) := by decide +kernel
theorem dX11_odds_165 : decode cX11_odds 165 = .ok (.l2i, 1) := by decide +kernel
theorem dX11_odds_166 : decode cX11_odds 166 = .ok (.ireturn, 1) := by decide +kernel
theorem dX11_trial_0 : decode cX11_trial 0 = .ok (.aload_n 0, 1) := by decide +kernel
theorem dX11_trial_1 : decode cX11_trial 1 = .ok (.iconst 0, 1) := by decide +kernel
theorem dX11_trial_2 : decode cX11_trial 2 = .ok (.putfield 3, 3) := by decide +kernel
theorem dX11_trial_5 : decode cX11_trial 5 = .ok (.aload_n 0, 1) := by decide +kernel
theorem dX11_trial_6 : decode cX11_trial 6 = .ok (.iload_n 1, 1) := by decide +kernel
theorem dX11_trial_7 : decode cX11_trial 7 = .ok (.iconst 0, 1) := by decide +kernel
theorem dX11_trial_8 : decode cX11_trial 8 = .ok (.bipush 100, 2) := by decide +kernel
theorem dX11_trial_10 : decode cX11_trial 10 = .ok (.invokestatic 84, 3) := by decide +kernel
theorem dX11_trial_13 : decode cX11_trial 13 = .ok (.ifCond .ne 7, 3) := by decide +kernel
theorem dX11_trial_16 : decode cX11_trial 16 = .ok (.iconst 1, 1) := by decide +kernel
theorem dX11_trial_17 : decode cX11_trial 17 = .ok (.goto 4, 3) := by decide +kernel
theorem dX11_trial_20 : decode cX11_trial 20 = .ok (.iconst 0, 1) := by decide +kernel
theorem dX11_trial_21 : decode cX11_trial 21 = .ok (.iconst 1, 1) := by decide +kernel
theorem dX11_trial_22 : decode cX11_trial 22 = .ok (.invokevirtual 266, 3) := by decide +kernel
theorem dX11_trial_25 : decode cX11_trial 25 = .ok (.ifCond .eq 5, 3) := by decide +kernel
theorem dX11_trial_28 : decode cX11_trial 28 = .ok (.iconst 0, 1) := by decide +kernel
theorem dX11_trial_29 : decode cX11_trial 29 = .ok (.ireturn, 1) := by decide +kernel
theorem dX11_trial_30 : decode cX11_trial 30 = .ok (.aload_n 0, 1) := by decide +kernel
theorem dX11_trial_31 : decode cX11_trial 31 = .ok (.invokevirtual 384, 3) := by decide +kernel
theorem dX11_trial_34 : decode cX11_trial 34 = .ok (.aload_n 0, 1) := by decide +kernel
theorem dX11_trial_35 : decode cX11_trial 35 = .ok (.iload_n 1, 1) := by decide +kernel
theorem dX11_trial_36 : decode cX11_trial 36 = .ok (.iconst 0, 1) := by decide +kernel
theorem dX11_trial_37 : decode cX11_trial 37 = .ok (.invokevirtual 380, 3) := by decide +kernel
theorem dX11_trial_40 : decode cX11_trial 40 = .ok (.istore_n 3, 1) := by decide +kernel
theorem dX11_trial_41 : decode cX11_trial 41 = .ok (.iload_n 2, 1) := by decide +kernel
theorem dX11_trial_42 : decode cX11_trial 42 = .ok (.ifCond .eq 10, 3) := by decide +kernel
theorem dX11_trial_45 : decode cX11_trial 45 = .ok (.aload_n 0, 1) := by decide +kernel
theorem dX11_trial_46 : decode cX11_trial 46 = .ok (.invokevirtual 390, 3) := by decide +kernel
theorem dX11_trial_49 : decode cX11_trial 49 = .ok (.goto 4, 3) := by decide +kernel
theorem dX11_trial_52 : decode cX11_trial 52 = .ok (.iload_n 3, 1) := by decide +kernel
theorem dX11_trial_53 : decode cX11_trial 53 = .ok (.istore 4, 2) := by decide +kernel
theorem dX11_trial_55 : decode cX11_trial 55 = .ok (.aload_n 0, 1) := by decide +kernel
theorem dX11_trial_56 : decode cX11_trial 56 = .ok (.invokevirtual 387, 3) := by decide +kernel
theorem dX11_trial_59 : decode cX11_trial 59 = .ok (.iload 4, 2) := by decide +kernel
theorem dX11_trial_61 : decode cX11_trial 61 = .ok (.ireturn, 1) := by decide +kernel
theorem dX11_span_0 : decode cX11_span 0 = .ok (.aload_n 0, 1) := by decide +kernel
theorem dX11_span_1 : decode cX11_span 1 = .ok (.iconst 0, 1) := by decide +kernel
theorem dX11_span_2 : decode cX11_span 2 = .ok (.putfield 3, 3) := by decide +kernel
theorem dX11_span_5 : decode cX11_span 5 = .ok (.aload_n 0, 1) := by decide +kernel
theorem dX11_span_6 : decode cX11_span 6 = .ok (.iload_n 1, 1) := by decide +kernel
theorem dX11_span_7 : decode cX11_span 7 = .ok (.iconst 0, 1) := by decide +kernel
theorem dX11_span_8 : decode cX11_span 8 = .ok (.bipush 100, 2) := by decide +kernel
theorem dX11_span_10 : decode cX11_span 10 = .ok (.invokestatic 84, 3) := by decide +kernel
theorem dX11_span_13 : decode cX11_span 13 = .ok (.ifCond .ne 7, 3) := by decide +kernel
theorem dX11_span_16 : decode cX11_span 16 = .ok (.iconst 1, 1) := by decide +kernel
theorem dX11_span_17 : decode cX11_span 17 = .ok (.goto 4, 3) := by decide +kernel
theorem dX11_span_20 : decode cX11_span 20 = .ok (.iconst 0, 1) := by decide +kernel
theorem dX11_span_21 : decode cX11_span 21 = .ok (.iconst 1, 1) := by decide +kernel
theorem dX11_span_22 : decode cX11_span 22 = .ok (.invokevirtual 266, 3) := by decide +kernel
theorem dX11_span_25 : decode cX11_span 25 = .ok (.ifCond .eq 5, 3) := by decide +kernel
theorem dX11_span_28 : decode cX11_span 28 = .ok (.iconst 0, 1) := by decide +kernel
theorem dX11_span_29 : decode cX11_span 29 = .ok (.ireturn, 1) := by decide +kernel
theorem dX11_span_30 : decode cX11_span 30 = .ok (.aload_n 0, 1) := by decide +kernel
theorem dX11_span_31 : decode cX11_span 31 = .ok (.invokevirtual 384, 3) := by decide +kernel
theorem dX11_span_34 : decode cX11_span 34 = .ok (.iconst (-1), 1) := by decide +kernel
theorem dX11_span_35 : decode cX11_span 35 = .ok (.istore_n 3, 1) := by decide +kernel
theorem dX11_span_36 : decode cX11_span 36 = .ok (.iconst 1, 1) := by decide +kernel
theorem dX11_span_37 : decode cX11_span 37 = .ok (.istore 4, 2) := by decide +kernel
theorem dX11_span_39 : decode cX11_span 39 = .ok (.iload 4, 2) := by decide +kernel
theorem dX11_span_41 : decode cX11_span 41 = .ok (.bipush 6, 2) := by decide +kernel
theorem dX11_span_43 : decode cX11_span 43 = .ok (.if_icmp .gt 59, 3) := by decide +kernel
theorem dX11_span_46 : decode cX11_span 46 = .ok (.aload_n 0, 1) := by decide +kernel
theorem dX11_span_47 : decode cX11_span 47 = .ok (.getfield 13, 3) := by decide +kernel
theorem dX11_span_50 : decode cX11_span 50 = .ok (.bipush 13, 2) := by decide +kernel
theorem dX11_span_52 : decode cX11_span 52 = .ok (.iload 4, 2) := by decide +kernel
theorem dX11_span_54 : decode cX11_span 54 = .ok (.iastore, 1) := by decide +kernel
theorem dX11_span_55 : decode cX11_span 55 = .ok (.aload_n 0, 1) := by decide +kernel
theorem dX11_span_56 : decode cX11_span 56 = .ok (.iload_n 1, 1) := by decide +kernel
theorem dX11_span_57 : decode cX11_span 57 = .ok (.iconst 0, 1) := by decide +kernel
theorem dX11_span_58 : decode cX11_span 58 = .ok (.invokevirtual 380, 3) := by decide +kernel
theorem dX11_span_61 : decode cX11_span 61 = .ok (.istore 5, 2) := by decide +kernel
theorem dX11_span_63 : decode cX11_span 63 = .ok (.aload_n 0, 1) := by decide +kernel
theorem dX11_span_64 : decode cX11_span 64 = .ok (.invokevirtual 387, 3) := by decide +kernel
theorem dX11_span_67 : decode cX11_span 67 = .ok (.iload_n 3, 1) := by decide +kernel
theorem dX11_span_68 : decode cX11_span 68 = .ok (.ifCond .ge 8, 3) := by decide +kernel
theorem dX11_span_71 : decode cX11_span 71 = .ok (.iload 5, 2) := by decide +kernel
theorem dX11_span_73 : decode cX11_span 73 = .ok (.goto 22, 3) := by decide +kernel
theorem dX11_span_76 : decode cX11_span 76 = .ok (.iload_n 2, 1) := by decide +kernel
theorem dX11_span_77 : decode cX11_span 77 = .ok (.ifCond .eq 12, 3) := by decide +kernel
theorem dX11_span_80 : decode cX11_span 80 = .ok (.iload_n 3, 1) := by decide +kernel
theorem dX11_span_81 : decode cX11_span 81 = .ok (.iload 5, 2) := by decide +kernel
theorem dX11_span_83 : decode cX11_span 83 = .ok (.invokestatic 281, 3) := by decide +kernel
theorem dX11_span_86 : decode cX11_span 86 = .ok (.goto 9, 3) := by decide +kernel
theorem dX11_span_89 : decode cX11_span 89 = .ok (.iload_n 3, 1) := by decide +kernel
theorem dX11_span_90 : decode cX11_span 90 = .ok (.iload 5, 2) := by decide +kernel
theorem dX11_span_92 : decode cX11_span 92 = .ok (.invokestatic 345, 3) := by decide +kernel
theorem dX11_span_95 : decode cX11_span 95 = .ok (.istore_n 3, 1) := by decide +kernel
theorem dX11_span_96 : decode cX11_span 96 = .ok (.iinc 4 1, 3) := by decide +kernel
theorem dX11_span_99 : decode cX11_span 99 = .ok (.goto (-60), 3) := by decide +kernel
theorem dX11_span_102 : decode cX11_span 102 = .ok (.iload_n 3, 1) := by decide +kernel
theorem dX11_span_103 : decode cX11_span 103 = .ok (.ireturn, 1) := by decide +kernel
theorem dX11_ofLog_0 : decode cX11_ofLog 0 = .ok (.aload_n 0, 1) := by decide +kernel
theorem dX11_ofLog_1 : decode cX11_ofLog 1 = .ok (.getfield 13, 3) := by decide +kernel
theorem dX11_ofLog_4 : decode cX11_ofLog 4 = .ok (.bipush 92, 2) := by decide +kernel
theorem dX11_ofLog_6 : decode cX11_ofLog 6 = .ok (.iconst 4, 1) := by decide +kernel
theorem dX11_ofLog_7 : decode cX11_ofLog 7 = .ok (.iload_n 1, 1) := by decide +kernel
theorem dX11_ofLog_8 : decode cX11_ofLog 8 = .ok (.imul, 1) := by decide +kernel
theorem dX11_ofLog_9 : decode cX11_ofLog 9 = .ok (.iadd, 1) := by decide +kernel
theorem dX11_ofLog_10 : decode cX11_ofLog 10 = .ok (.iload_n 2, 1) := by decide +kernel
theorem dX11_ofLog_11 : decode cX11_ofLog 11 = .ok (.iadd, 1) := by decide +kernel
theorem dX11_ofLog_12 : decode cX11_ofLog 12 = .ok (.iaload, 1) := by decide +kernel
theorem dX11_ofLog_13 : decode cX11_ofLog 13 = .ok (.ireturn, 1) := by decide +kernel
theorem dX11_led_0 : decode cX11_led 0 = .ok (.aload_n 0, 1) := by decide +kernel
theorem dX11_led_1 : decode cX11_led 1 = .ok (.iconst 0, 1) := by decide +kernel
theorem dX11_led_2 : decode cX11_led 2 = .ok (.putfield 3, 3) := by decide +kernel
theorem dX11_led_5 : decode cX11_led 5 = .ok (.aload_n 0, 1) := by decide +kernel
theorem dX11_led_6 : decode cX11_led 6 = .ok (.iload_n 1, 1) := by decide +kernel
theorem dX11_led_7 : decode cX11_led 7 = .ok (.invokestatic 293, 3) := by decide +kernel
theorem dX11_led_10 : decode cX11_led 10 = .ok (.iconst 1, 1) := by decide +kernel
theorem dX11_led_11 : decode cX11_led 11 = .ok (.invokevirtual 266, 3) := by decide +kernel
theorem dX11_led_14 : decode cX11_led 14 = .ok (.ifCond .eq 5, 3) := by decide +kernel
theorem dX11_led_17 : decode cX11_led 17 = .ok (.iconst 0, 1) := by decide +kernel
theorem dX11_led_18 : decode cX11_led 18 = .ok (.ireturn, 1) := by decide +kernel
theorem dX11_led_19 : decode cX11_led 19 = .ok (.iconst 0, 1) := by decide +kernel
theorem dX11_led_20 : decode cX11_led 20 = .ok (.istore_n 3, 1) := by decide +kernel
theorem dX11_led_21 : decode cX11_led 21 = .ok (.iconst (-1), 1) := by decide +kernel
theorem dX11_led_22 : decode cX11_led 22 = .ok (.istore 4, 2) := by decide +kernel
theorem dX11_led_24 : decode cX11_led 24 = .ok (.aload_n 0, 1) := by decide +kernel
theorem dX11_led_25 : decode cX11_led 25 = .ok (.getfield 13, 3) := by decide +kernel
theorem dX11_led_28 : decode cX11_led 28 = .ok (.bipush 12, 2) := by decide +kernel
theorem dX11_led_30 : decode cX11_led 30 = .ok (.iaload, 1) := by decide +kernel
theorem dX11_led_31 : decode cX11_led 31 = .ok (.iconst 1, 1) := by decide +kernel
theorem dX11_led_32 : decode cX11_led 32 = .ok (.isub, 1) := by decide +kernel
theorem dX11_led_33 : decode cX11_led 33 = .ok (.istore 5, 2) := by decide +kernel
theorem dX11_led_35 : decode cX11_led 35 = .ok (.iload 5, 2) := by decide +kernel
theorem dX11_led_37 : decode cX11_led 37 = .ok (.ifCond .lt 35, 3) := by decide +kernel
theorem dX11_led_40 : decode cX11_led 40 = .ok (.aload_n 0, 1) := by decide +kernel
theorem dX11_led_41 : decode cX11_led 41 = .ok (.iload 5, 2) := by decide +kernel
theorem dX11_led_43 : decode cX11_led 43 = .ok (.iconst 3, 1) := by decide +kernel
theorem dX11_led_44 : decode cX11_led 44 = .ok (.invokevirtual 452, 3) := by decide +kernel
theorem dX11_led_47 : decode cX11_led 47 = .ok (.iload_n 1, 1) := by decide +kernel
theorem dX11_led_48 : decode cX11_led 48 = .ok (.if_icmp .eq 6, 3) := by decide +kernel
theorem dX11_led_51 : decode cX11_led 51 = .ok (.goto 15, 3) := by decide +kernel
theorem dX11_led_54 : decode cX11_led 54 = .ok (.iinc 3 1, 3) := by decide +kernel
theorem dX11_led_57 : decode cX11_led 57 = .ok (.aload_n 0, 1) := by decide +kernel
theorem dX11_led_58 : decode cX11_led 58 = .ok (.iload 5, 2) := by decide +kernel
theorem dX11_led_60 : decode cX11_led 60 = .ok (.iconst 0, 1) := by decide +kernel
theorem dX11_led_61 : decode cX11_led 61 = .ok (.invokevirtual 452, 3) := by decide +kernel
theorem dX11_led_64 : decode cX11_led 64 = .ok (.istore 4, 2) := by decide +kernel
theorem dX11_led_66 : decode cX11_led 66 = .ok (.iinc 5 (-1), 3) := by decide +kernel
theorem dX11_led_69 : decode cX11_led 69 = .ok (.goto (-34), 3) := by decide +kernel
theorem dX11_led_72 : decode cX11_led 72 = .ok (.iload_n 2, 1) := by decide +kernel
theorem dX11_led_73 : decode cX11_led 73 = .ok (.ifCond .eq 8, 3) := by decide +kernel
theorem dX11_led_76 : decode cX11_led 76 = .ok (.iload 4, 2) := by decide +kernel
theorem dX11_led_78 : decode cX11_led 78 = .ok (.goto 4, 3) := by decide +kernel
theorem dX11_led_81 : decode cX11_led 81 = .ok (.iload_n 3, 1) := by decide +kernel
theorem dX11_led_82 : decode cX11_led 82 = .ok (.ireturn, 1) := by decide +kernel
theorem dX11_log_0 : decode cX11_log 0 = .ok (.aload_n 0, 1) := by decide +kernel
theorem dX11_log_1 : decode cX11_log 1 = .ok (.iconst 0, 1) := by decide +kernel
theorem dX11_log_2 : decode cX11_log 2 = .ok (.putfield 3, 3) := by decide +kernel
theorem dX11_log_5 : decode cX11_log 5 = .ok (.aload_n 0, 1) := by decide +kernel
theorem dX11_log_6 : decode cX11_log 6 = .ok (.iload_n 2, 1) := by decide +kernel
theorem dX11_log_7 : decode cX11_log 7 = .ok (.iconst 0, 1) := by decide +kernel
theorem dX11_log_8 : decode cX11_log 8 = .ok (.iconst 3, 1) := by decide +kernel
theorem dX11_log_9 : decode cX11_log 9 = .ok (.invokestatic 84, 3) := by decide +kernel
theorem dX11_log_12 : decode cX11_log 12 = .ok (.ifCond .ne 7, 3) := by decide +kernel
theorem dX11_log_15 : decode cX11_log 15 = .ok (.iconst 1, 1) := by decide +kernel
theorem dX11_log_16 : decode cX11_log 16 = .ok (.goto 4, 3) := by decide +kernel
theorem dX11_log_19 : decode cX11_log 19 = .ok (.iconst 0, 1) := by decide +kernel
theorem dX11_log_20 : decode cX11_log 20 = .ok (.iconst 1, 1) := by decide +kernel
theorem dX11_log_21 : decode cX11_log 21 = .ok (.invokevirtual 266, 3) := by decide +kernel
theorem dX11_log_24 : decode cX11_log 24 = .ok (.ifCond .eq 5, 3) := by decide +kernel
theorem dX11_log_27 : decode cX11_log 27 = .ok (.iconst 0, 1) := by decide +kernel
theorem dX11_log_28 : decode cX11_log 28 = .ok (.ireturn, 1) := by decide +kernel
theorem dX11_log_29 : decode cX11_log 29 = .ok (.iload_n 1, 1) := by decide +kernel
theorem dX11_log_30 : decode cX11_log 30 = .ok (.iconst 0, 1) := by decide +kernel
theorem dX11_log_31 : decode cX11_log 31 = .ok (.aload_n 0, 1) := by decide +kernel
theorem dX11_log_32 : decode cX11_log 32 = .ok (.getfield 13, 3) := by decide +kernel
theorem dX11_log_35 : decode cX11_log 35 = .ok (.bipush 12, 2) := by decide +kernel
theorem dX11_log_37 : decode cX11_log 37 = .ok (.iaload, 1) := by decide +kernel
theorem dX11_log_38 : decode cX11_log 38 = .ok (.iconst 1, 1) := by decide +kernel
theorem dX11_log_39 : decode cX11_log 39 = .ok (.isub, 1) := by decide +kernel
theorem dX11_log_40 : decode cX11_log 40 = .ok (.invokestatic 84, 3) := by decide +kernel
theorem dX11_log_43 : decode cX11_log 43 = .ok (.ifCond .eq 12, 3) := by decide +kernel
theorem dX11_log_46 : decode cX11_log 46 = .ok (.aload_n 0, 1) := by decide +kernel
theorem dX11_log_47 : decode cX11_log 47 = .ok (.iload_n 1, 1) := by decide +kernel
theorem dX11_log_48 : decode cX11_log 48 = .ok (.iload_n 2, 1) := by decide +kernel
theorem dX11_log_49 : decode cX11_log 49 = .ok (.invokevirtual 452, 3) := by decide +kernel
theorem dX11_log_52 : decode cX11_log 52 = .ok (.goto 4, 3) := by decide +kernel
theorem dX11_log_55 : decode cX11_log 55 = .ok (.iconst (-1), 1) := by decide +kernel
theorem dX11_log_56 : decode cX11_log 56 = .ok (.ireturn, 1) := by decide +kernel
theorem dX11_seed_0 : decode cX11_seed 0 = .ok (.aload_n 0, 1) := by decide +kernel
theorem dX11_seed_1 : decode cX11_seed 1 = .ok (.iconst 0, 1) := by decide +kernel
theorem dX11_seed_2 : decode cX11_seed 2 = .ok (.putfield 3, 3) := by decide +kernel
theorem dX11_seed_5 : decode cX11_seed 5 = .ok (.aload_n 0, 1) := by decide +kernel
theorem dX11_seed_6 : decode cX11_seed 6 = .ok (.getfield 13, 3) := by decide +kernel
theorem dX11_seed_9 : decode cX11_seed 9 = .ok (.bipush 13, 2) := by decide +kernel
theorem dX11_seed_11 : decode cX11_seed 11 = .ok (.iaload, 1) := by decide +kernel
theorem dX11_seed_12 : decode cX11_seed 12 = .ok (.istore_n 2, 1) := by decide +kernel
theorem dX11_seed_13 : decode cX11_seed 13 = .ok (.aload_n 0, 1) := by decide +kernel
theorem dX11_seed_14 : decode cX11_seed 14 = .ok (.getfield 13, 3) := by decide +kernel
theorem dX11_seed_17 : decode cX11_seed 17 = .ok (.bipush 13, 2) := by decide +kernel
theorem dX11_seed_19 : decode cX11_seed 19 = .ok (.iload_n 1, 1) := by decide +kernel
theorem dX11_seed_20 : decode cX11_seed 20 = .ok (.iastore, 1) := by decide +kernel
theorem dX11_seed_21 : decode cX11_seed 21 = .ok (.iload_n 2, 1) := by decide +kernel
theorem dX11_seed_22 : decode cX11_seed 22 = .ok (.ireturn, 1) := by decide +kernel
theorem dX11_count_0 : decode cX11_count 0 = .ok (.aload_n 0, 1) := by decide +kernel
theorem dX11_count_1 : decode cX11_count 1 = .ok (.iconst 0, 1) := by decide +kernel
theorem dX11_count_2 : decode cX11_count 2 = .ok (.putfield 3, 3) := by decide +kernel
theorem dX11_count_5 : decode cX11_count 5 = .ok (.iload_n 1, 1) := by decide +kernel
theorem dX11_count_6 : decode cX11_count 6 = .ok (.tableswitch 132 3 15 #[66, 132, 132, 132, 132, 132, 89, 99, 132, 109, 114, 119, 127], 66) := by decide +kernel
theorem dX11_count_72 : decode cX11_count 72 = .ok (.aload_n 0, 1) := by decide +kernel
theorem dX11_count_73 : decode cX11_count 73 = .ok (.getfield 13, 3) := by decide +kernel
theorem dX11_count_76 : decode cX11_count 76 = .ok (.iconst 3, 1) := by decide +kernel
theorem dX11_count_77 : decode cX11_count 77 = .ok (.iaload, 1) := by decide +kernel
theorem dX11_count_78 : decode cX11_count 78 = .ok (.iconst 1, 1) := by decide +kernel
theorem dX11_count_79 : decode cX11_count 79 = .ok (.if_icmp .ne 14, 3) := by decide +kernel
theorem dX11_count_82 : decode cX11_count 82 = .ok (.aload_n 0, 1) := by decide +kernel
theorem dX11_count_83 : decode cX11_count 83 = .ok (.getfield 13, 3) := by decide +kernel
theorem dX11_count_86 : decode cX11_count 86 = .ok (.sipush 332, 3) := by decide +kernel
theorem dX11_count_89 : decode cX11_count 89 = .ok (.iaload, 1) := by decide +kernel
theorem dX11_count_90 : decode cX11_count 90 = .ok (.goto 4, 3) := by decide +kernel
theorem dX11_count_93 : decode cX11_count 93 = .ok (.iconst (-1), 1) := by decide +kernel
theorem dX11_count_94 : decode cX11_count 94 = .ok (.ireturn, 1) := by decide +kernel
theorem dX11_count_95 : decode cX11_count 95 = .ok (.aload_n 0, 1) := by decide +kernel
theorem dX11_count_96 : decode cX11_count 96 = .ok (.getfield 13, 3) := by decide +kernel
theorem dX11_count_99 : decode cX11_count 99 = .ok (.bipush 9, 2) := by decide +kernel
theorem dX11_count_101 : decode cX11_count 101 = .ok (.iaload, 1) := by decide +kernel
theorem dX11_count_102 : decode cX11_count 102 = .ok (.iconst 5, 1) := by decide +kernel
theorem dX11_count_103 : decode cX11_count 103 = .ok (.iadd, 1) := by decide +kernel
theorem dX11_count_104 : decode cX11_count 104 = .ok (.ireturn, 1) := by decide +kernel
theorem dX11_count_105 : decode cX11_count 105 = .ok (.aload_n 0, 1) := by decide +kernel
theorem dX11_count_106 : decode cX11_count 106 = .ok (.getfield 13, 3) := by decide +kernel
theorem dX11_count_109 : decode cX11_count 109 = .ok (.bipush 10, 2) := by decide +kernel
theorem dX11_count_111 : decode cX11_count 111 = .ok (.iaload, 1) := by decide +kernel
theorem dX11_count_112 : decode cX11_count 112 = .ok (.iconst 3, 1) := by decide +kernel
theorem dX11_count_113 : decode cX11_count 113 = .ok (.iadd, 1) := by decide +kernel
theorem dX11_count_114 : decode cX11_count 114 = .ok (.ireturn, 1) := by decide +kernel
theorem dX11_count_115 : decode cX11_count 115 = .ok (.aload_n 0, 1) := by decide +kernel
theorem dX11_count_116 : decode cX11_count 116 = .ok (.invokevirtual 368, 3) := by decide +kernel
theorem dX11_count_119 : decode cX11_count 119 = .ok (.ireturn, 1) := by decide +kernel
theorem dX11_count_120 : decode cX11_count 120 = .ok (.aload_n 0, 1) := by decide +kernel
theorem dX11_count_121 : decode cX11_count 121 = .ok (.invokevirtual 390, 3) := by decide +kernel
theorem dX11_count_124 : decode cX11_count 124 = .ok (.ireturn, 1) := by decide +kernel
theorem dX11_count_125 : decode cX11_count 125 = .ok (.aload_n 0, 1) := by decide +kernel
theorem dX11_count_126 : decode cX11_count 126 = .ok (.getfield 13, 3) := by decide +kernel
theorem dX11_count_129 : decode cX11_count 129 = .ok (.bipush 12, 2) := by decide +kernel
theorem dX11_count_131 : decode cX11_count 131 = .ok (.iaload, 1) := by decide +kernel
theorem dX11_count_132 : decode cX11_count 132 = .ok (.ireturn, 1) := by decide +kernel
theorem dX11_count_133 : decode cX11_count 133 = .ok (.aload_n 0, 1) := by decide +kernel
theorem dX11_count_134 : decode cX11_count 134 = .ok (.getfield 64, 3) := by decide +kernel
theorem dX11_count_137 : decode cX11_count 137 = .ok (.ireturn, 1) := by decide +kernel
theorem dX11_count_138 : decode cX11_count 138 = .ok (.iload_n 1, 1) := by decide +kernel
theorem dX11_count_139 : decode cX11_count 139 = .ok (.iconst 0, 1) := by decide +kernel
theorem dX11_count_140 : decode cX11_count 140 = .ok (.bipush 11, 2) := by decide +kernel
theorem dX11_count_142 : decode cX11_count 142 = .ok (.invokestatic 84, 3) := by decide +kernel
theorem dX11_count_145 : decode cX11_count 145 = .ok (.ifCond .eq 12, 3) := by decide +kernel
theorem dX11_count_148 : decode cX11_count 148 = .ok (.aload_n 0, 1) := by decide +kernel
theorem dX11_count_149 : decode cX11_count 149 = .ok (.getfield 13, 3) := by decide +kernel
theorem dX11_count_152 : decode cX11_count 152 = .ok (.iload_n 1, 1) := by decide +kernel
theorem dX11_count_153 : decode cX11_count 153 = .ok (.iaload, 1) := by decide +kernel
theorem dX11_count_154 : decode cX11_count 154 = .ok (.goto 4, 3) := by decide +kernel
theorem dX11_count_157 : decode cX11_count 157 = .ok (.iconst (-1), 1) := by decide +kernel
theorem dX11_count_158 : decode cX11_count 158 = .ok (.ireturn, 1) := by decide +kernel
