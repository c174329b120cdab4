theorem dX10_set_37 : decode cX10_set 37 = .ok (.istore_n 3, 1) := by decide +kernel
theorem dX10_set_38 : decode cX10_set 38 = .ok (.iload_n 1, 1) := by decide +kernel
theorem dX10_set_39 : decode cX10_set 39 = .ok (.ifCond .ne 11, 3) := by decide +kernel
theorem dX10_set_42 : decode cX10_set 42 = .ok (.aload_n 0, 1) := by decide +kernel
theorem dX10_set_43 : decode cX10_set 43 = .ok (.iload_n 2, 1) := by decide +kernel
theorem dX10_set_44 : decode cX10_set 44 = .ok (.putfield 61, 3) := by decide +kernel
theorem dX10_set_47 : decode cX10_set 47 = .ok (.goto 8, 3) := by decide +kernel
theorem dX10_set_50 : decode cX10_set 50 = .ok (.aload_n 0, 1) := by decide +kernel
theorem dX10_set_51 : decode cX10_set 51 = .ok (.iload_n 2, 1) := by decide +kernel
theorem dX10_set_52 : decode cX10_set 52 = .ok (.putfield 64, 3) := by decide +kernel
theorem dX10_set_55 : decode cX10_set 55 = .ok (.aload_n 0, 1) := by decide +kernel
theorem dX10_set_56 : decode cX10_set 56 = .ok (.iconst 0, 1) := by decide +kernel
theorem dX10_set_57 : decode cX10_set 57 = .ok (.putfield 74, 3) := by decide +kernel
theorem dX10_set_60 : decode cX10_set 60 = .ok (.iload_n 3, 1) := by decide +kernel
theorem dX10_set_61 : decode cX10_set 61 = .ok (.ireturn, 1) := by decide +kernel
theorem dX10_told_0 : decode cX10_told 0 = .ok (.aload_n 0, 1) := by decide +kernel
theorem dX10_told_1 : decode cX10_told 1 = .ok (.iload_n 1, 1) := by decide +kernel
theorem dX10_told_2 : decode cX10_told 2 = .ok (.invokevirtual 93, 3) := by decide +kernel
theorem dX10_told_5 : decode cX10_told 5 = .ok (.ifCond .ne 5, 3) := by decide +kernel
theorem dX10_told_8 : decode cX10_told 8 = .ok (.iconst (-1), 1) := by decide +kernel
theorem dX10_told_9 : decode cX10_told 9 = .ok (.ireturn, 1) := by decide +kernel
theorem dX10_told_10 : decode cX10_told 10 = .ok (.iload_n 2, 1) := by decide +kernel
theorem dX10_told_11 : decode cX10_told 11 = .ok (.tableswitch 46 0 2 #[25, 32, 39], 25) := by decide +kernel
theorem dX10_told_36 : decode cX10_told 36 = .ok (.aload_n 0, 1) := by decide +kernel
theorem dX10_told_37 : decode cX10_told 37 = .ok (.getfield 37, 3) := by decide +kernel
theorem dX10_told_40 : decode cX10_told 40 = .ok (.iload_n 1, 1) := by decide +kernel
theorem dX10_told_41 : decode cX10_told 41 = .ok (.iaload, 1) := by decide +kernel
theorem dX10_told_42 : decode cX10_told 42 = .ok (.ireturn, 1) := by decide +kernel
theorem dX10_told_43 : decode cX10_told 43 = .ok (.aload_n 0, 1) := by decide +kernel
theorem dX10_told_44 : decode cX10_told 44 = .ok (.getfield 41, 3) := by decide +kernel
theorem dX10_told_47 : decode cX10_told 47 = .ok (.iload_n 1, 1) := by decide +kernel
theorem dX10_told_48 : decode cX10_told 48 = .ok (.iaload, 1) := by decide +kernel
theorem dX10_told_49 : decode cX10_told 49 = .ok (.ireturn, 1) := by decide +kernel
theorem dX10_told_50 : decode cX10_told 50 = .ok (.aload_n 0, 1) := by decide +kernel
theorem dX10_told_51 : decode cX10_told 51 = .ok (.getfield 47, 3) := by decide +kernel
theorem dX10_told_54 : decode cX10_told 54 = .ok (.iload_n 1, 1) := by decide +kernel
theorem dX10_told_55 : decode cX10_told 55 = .ok (.iaload, 1) := by decide +kernel
theorem dX10_told_56 : decode cX10_told 56 = .ok (.ireturn, 1) := by decide +kernel
theorem dX10_told_57 : decode cX10_told 57 = .ok (.iconst (-1), 1) := by decide +kernel
theorem dX10_told_58 : decode cX10_told 58 = .ok (.ireturn, 1) := by decide +kernel
theorem dX10_answer_0 : decode cX10_answer 0 = .ok (.aload_n 0, 1) := by decide +kernel
theorem dX10_answer_1 : decode cX10_answer 1 = .ok (.iload_n 1, 1) := by decide +kernel
theorem dX10_answer_2 : decode cX10_answer 2 = .ok (.invokevirtual 93, 3) := by decide +kernel
theorem dX10_answer_5 : decode cX10_answer 5 = .ok (.ifCond .ne 13, 3) := by decide +kernel
theorem dX10_answer_8 : decode cX10_answer 8 = .ok (.new 96, 3) := by decide +kernel
theorem dX10_answer_11 : decode cX10_answer 11 = .ok (.dup, 1) := by decide +kernel
theorem dX10_answer_12 : decode cX10_answer 12 = .ok (.ldc 98, 2) := by decide +kernel
theorem dX10_answer_14 : decode cX10_answer 14 = .ok (.invokespecial 100, 3) := by decide +kernel
theorem dX10_answer_17 : decode cX10_answer 17 = .ok (.athrow, 1) := by decide +kernel
theorem dX10_answer_18 : decode cX10_answer 18 = .ok (.aload_n 0, 1) := by decide +kernel
theorem dX10_answer_19 : decode cX10_answer 19 = .ok (.getfield 44, 3) := by decide +kernel
theorem dX10_answer_22 : decode cX10_answer 22 = .ok (.iload_n 1, 1) := by decide +kernel
theorem dX10_answer_23 : decode cX10_answer 23 = .ok (.iaload, 1) := by decide +kernel
theorem dX10_answer_24 : decode cX10_answer 24 = .ok (.ireturn, 1) := by decide +kernel
theorem dX10_cost_0 : decode cX10_cost 0 = .ok (.iload_n 1, 1) := by decide +kernel
theorem dX10_cost_1 : decode cX10_cost 1 = .ok (.invokestatic 103, 3) := by decide +kernel
theorem dX10_cost_4 : decode cX10_cost 4 = .ok (.ifCond .eq 25, 3) := by decide +kernel
theorem dX10_cost_7 : decode cX10_cost 7 = .ok (.aload_n 0, 1) := by decide +kernel
theorem dX10_cost_8 : decode cX10_cost 8 = .ok (.iload_n 2, 1) := by decide +kernel
theorem dX10_cost_9 : decode cX10_cost 9 = .ok (.invokevirtual 93, 3) := by decide +kernel
theorem dX10_cost_12 : decode cX10_cost 12 = .ok (.ifCond .eq 17, 3) := by decide +kernel
theorem dX10_cost_15 : decode cX10_cost 15 = .ok (.aload_n 0, 1) := by decide +kernel
theorem dX10_cost_16 : decode cX10_cost 16 = .ok (.getfield 33, 3) := by decide +kernel
theorem dX10_cost_19 : decode cX10_cost 19 = .ok (.iload_n 1, 1) := by decide +kernel
theorem dX10_cost_20 : decode cX10_cost 20 = .ok (.aaload, 1) := by decide +kernel
theorem dX10_cost_21 : decode cX10_cost 21 = .ok (.getfield 106, 3) := by decide +kernel
theorem dX10_cost_24 : decode cX10_cost 24 = .ok (.iload_n 2, 1) := by decide +kernel
theorem dX10_cost_25 : decode cX10_cost 25 = .ok (.iaload, 1) := by decide +kernel
theorem dX10_cost_26 : decode cX10_cost 26 = .ok (.goto 4, 3) := by decide +kernel
theorem dX10_cost_29 : decode cX10_cost 29 = .ok (.iconst (-1), 1) := by decide +kernel
theorem dX10_cost_30 : decode cX10_cost 30 = .ok (.ireturn, 1) := by decide +kernel
theorem dX10_key_0 : decode cX10_key 0 = .ok (.iload_n 1, 1) := by decide +kernel
theorem dX10_key_1 : decode cX10_key 1 = .ok (.invokestatic 103, 3) := by decide +kernel
theorem dX10_key_4 : decode cX10_key 4 = .ok (.ifCond .eq 31, 3) := by decide +kernel
theorem dX10_key_7 : decode cX10_key 7 = .ok (.iload_n 2, 1) := by decide +kernel
theorem dX10_key_8 : decode cX10_key 8 = .ok (.ifCond .lt 27, 3) := by decide +kernel
theorem dX10_key_11 : decode cX10_key 11 = .ok (.iload_n 2, 1) := by decide +kernel
theorem dX10_key_12 : decode cX10_key 12 = .ok (.aload_n 0, 1) := by decide +kernel
theorem dX10_key_13 : decode cX10_key 13 = .ok (.getfield 10, 3) := by decide +kernel
theorem dX10_key_16 : decode cX10_key 16 = .ok (.getfield 109, 3) := by decide +kernel
theorem dX10_key_19 : decode cX10_key 19 = .ok (.if_icmp .ge 16, 3) := by decide +kernel
theorem dX10_key_22 : decode cX10_key 22 = .ok (.aload_n 0, 1) := by decide +kernel
theorem dX10_key_23 : decode cX10_key 23 = .ok (.getfield 33, 3) := by decide +kernel
theorem dX10_key_26 : decode cX10_key 26 = .ok (.iload_n 1, 1) := by decide +kernel
theorem dX10_key_27 : decode cX10_key 27 = .ok (.aaload, 1) := by decide +kernel
theorem dX10_key_28 : decode cX10_key 28 = .ok (.iload_n 2, 1) := by decide +kernel
theorem dX10_key_29 : decode cX10_key 29 = .ok (.invokevirtual 112, 3) := by decide +kernel
theorem dX10_key_32 : decode cX10_key 32 = .ok (.goto 4, 3) := by decide +kernel
theorem dX10_key_35 : decode cX10_key 35 = .ok (.iconst (-1), 1) := by decide +kernel
theorem dX10_key_36 : decode cX10_key 36 = .ok (.ireturn, 1) := by decide +kernel
theorem dX10_sum_0 : decode cX10_sum 0 = .ok (.iload_n 1, 1) := by decide +kernel
theorem dX10_sum_1 : decode cX10_sum 1 = .ok (.invokestatic 103, 3) := by decide +kernel
theorem dX10_sum_4 : decode cX10_sum 4 = .ok (.ifCond .ne 5, 3) := by decide +kernel
theorem dX10_sum_7 : decode cX10_sum 7 = .ok (.iconst (-1), 1) := by decide +kernel
theorem dX10_sum_8 : decode cX10_sum 8 = .ok (.ireturn, 1) := by decide +kernel
theorem dX10_sum_9 : decode cX10_sum 9 = .ok (.aload_n 0, 1) := by decide +kernel
theorem dX10_sum_10 : decode cX10_sum 10 = .ok (.getfield 33, 3) := by decide +kernel
theorem dX10_sum_13 : decode cX10_sum 13 = .ok (.iload_n 1, 1) := by decide +kernel
theorem dX10_sum_14 : decode cX10_sum 14 = .ok (.aaload, 1) := by decide +kernel
theorem dX10_sum_15 : decode cX10_sum 15 = .ok (.astore_n 3, 1) := by decide +kernel
theorem dX10_sum_16 : decode cX10_sum 16 = .ok (.iload_n 2, 1) := by decide +kernel
theorem dX10_sum_17 : decode cX10_sum 17 = .ok (.tableswitch 82 0 5 #[39, 45, 50, 55, 60, 77], 39) := by decide +kernel
theorem dX10_sum_56 : decode cX10_sum 56 = .ok (.aload_n 3, 1) := by decide +kernel
theorem dX10_sum_57 : decode cX10_sum 57 = .ok (.iconst 0, 1) := by decide +kernel
theorem dX10_sum_58 : decode cX10_sum 58 = .ok (.invokevirtual 115, 3) := by decide +kernel
theorem dX10_sum_61 : decode cX10_sum 61 = .ok (.ireturn, 1) := by decide +kernel
theorem dX10_sum_62 : decode cX10_sum 62 = .ok (.aload_n 3, 1) := by decide +kernel
theorem dX10_sum_63 : decode cX10_sum 63 = .ok (.invokevirtual 118, 3) := by decide +kernel
theorem dX10_sum_66 : decode cX10_sum 66 = .ok (.ireturn, 1) := by decide +kernel
theorem dX10_sum_67 : decode cX10_sum 67 = .ok (.aload_n 3, 1) := by decide +kernel
theorem dX10_sum_68 : decode cX10_sum 68 = .ok (.invokevirtual 122, 3) := by decide +kernel
theorem dX10_sum_71 : decode cX10_sum 71 = .ok (.ireturn, 1) := by decide +kernel
theorem dX10_sum_72 : decode cX10_sum 72 = .ok (.aload_n 3, 1) := by decide +kernel
theorem dX10_sum_73 : decode cX10_sum 73 = .ok (.invokevirtual 125, 3) := by decide +kernel
theorem dX10_sum_76 : decode cX10_sum 76 = .ok (.ireturn, 1) := by decide +kernel
theorem dX10_sum_77 : decode cX10_sum 77 = .ok (.aload_n 0, 1) := by decide +kernel
theorem dX10_sum_78 : decode cX10_sum 78 = .ok (.invokevirtual 128, 3) := by decide +kernel
theorem dX10_sum_81 : decode cX10_sum 81 = .ok (.iload_n 1, 1) := by decide +kernel
theorem dX10_sum_82 : decode cX10_sum 82 = .ok (.invokestatic 131, 3) := by decide +kernel
theorem dX10_sum_85 : decode cX10_sum 85 = .ok (.ifCond .eq 7, 3) := by decide +kernel
theorem dX10_sum_88 : decode cX10_sum 88 = .ok (.iconst 1, 1) := by decide +kernel
theorem dX10_sum_89 : decode cX10_sum 89 = .ok (.goto 4, 3) := by decide +kernel
theorem dX10_sum_92 : decode cX10_sum 92 = .ok (.iconst 0, 1) := by decide +kernel
theorem dX10_sum_93 : decode cX10_sum 93 = .ok (.ireturn, 1) := by decide +kernel
theorem dX10_sum_94 : decode cX10_sum 94 = .ok (.aload_n 3, 1) := by decide +kernel
theorem dX10_sum_95 : decode cX10_sum 95 = .ok (.invokevirtual 135, 3) := by decide +kernel
theorem dX10_sum_98 : decode cX10_sum 98 = .ok (.ireturn, 1) := by decide +kernel
theorem dX10_sum_99 : decode cX10_sum 99 = .ok (.iconst (-1), 1) := by decide +kernel
theorem dX10_sum_100 : decode cX10_sum 100 = .ok (.ireturn, 1) := by decide +kernel
theorem dX10_best_0 : decode cX10_best 0 = .ok (.iconst 0, 1) := by decide +kernel
theorem dX10_best_1 : decode cX10_best 1 = .ok (.istore_n 3, 1) := by decide +kernel
theorem dX10_best_2 : decode cX10_best 2 = .ok (.iconst 0, 1) := by decide +kernel
theorem dX10_best_3 : decode cX10_best 3 = .ok (.istore 4, 2) := by decide +kernel
theorem dX10_best_5 : decode cX10_best 5 = .ok (.iload 4, 2) := by decide +kernel
theorem dX10_best_7 : decode cX10_best 7 = .ok (.bipush 6, 2) := by decide +kernel
theorem dX10_best_9 : decode cX10_best 9 = .ok (.if_icmp .ge 31, 3) := by decide +kernel
theorem dX10_best_12 : decode cX10_best 12 = .ok (.aload_n 0, 1) := by decide +kernel
theorem dX10_best_13 : decode cX10_best 13 = .ok (.getfield 33, 3) := by decide +kernel
theorem dX10_best_16 : decode cX10_best 16 = .ok (.iload 4, 2) := by decide +kernel
theorem dX10_best_18 : decode cX10_best 18 = .ok (.aaload, 1) := by decide +kernel
theorem dX10_best_19 : decode cX10_best 19 = .ok (.iload_n 1, 1) := by decide +kernel
theorem dX10_best_20 : decode cX10_best 20 = .ok (.iload_n 2, 1) := by decide +kernel
theorem dX10_best_21 : decode cX10_best 21 = .ok (.invokevirtual 138, 3) := by decide +kernel
theorem dX10_best_24 : decode cX10_best 24 = .ok (.ifCond .eq 10, 3) := by decide +kernel
theorem dX10_best_27 : decode cX10_best 27 = .ok (.iload_n 3, 1) := by decide +kernel
theorem dX10_best_28 : decode cX10_best 28 = .ok (.iconst 1, 1) := by decide +kernel
theorem dX10_best_29 : decode cX10_best 29 = .ok (.iload 4, 2) := by decide +kernel
theorem dX10_best_31 : decode cX10_best 31 = .ok (.ishl, 1) := by decide +kernel
theorem dX10_best_32 : decode cX10_best 32 = .ok (.ior, 1) := by decide +kernel
theorem dX10_best_33 : decode cX10_best 33 = .ok (.istore_n 3, 1) := by decide +kernel
theorem dX10_best_34 : decode cX10_best 34 = .ok (.iinc 4 1, 3) := by decide +kernel
theorem dX10_best_37 : decode cX10_best 37 = .ok (.goto (-32), 3) := by decide +kernel
theorem dX10_best_40 : decode cX10_best 40 = .ok (.aload_n 0, 1) := by decide +kernel
theorem dX10_best_41 : decode cX10_best 41 = .ok (.iconst 0, 1) := by decide +kernel
theorem dX10_best_42 : decode cX10_best 42 = .ok (.aload_n 0, 1) := by decide +kernel
theorem dX10_best_43 : decode cX10_best 43 = .ok (.invokevirtual 128, 3) := by decide +kernel
theorem dX10_best_46 : decode cX10_best 46 = .ok (.iload_n 3, 1) := by decide +kernel
theorem dX10_best_47 : decode cX10_best 47 = .ok (.iand, 1) := by decide +kernel
theorem dX10_best_48 : decode cX10_best 48 = .ok (.invokevirtual 141, 3) := by decide +kernel
theorem dX10_best_51 : decode cX10_best 51 = .ok (.ireturn, 1) := by decide +kernel
theorem dX10_drift_0 : decode cX10_drift 0 = .ok (.iload_n 1, 1) := by decide +kernel
theorem dX10_drift_1 : decode cX10_drift 1 = .ok (.invokestatic 103, 3) := by decide +kernel
theorem dX10_drift_4 : decode cX10_drift 4 = .ok (.ifCond .eq 25, 3) := by decide +kernel
theorem dX10_drift_7 : decode cX10_drift 7 = .ok (.iload_n 2, 1) := by decide +kernel
theorem dX10_drift_8 : decode cX10_drift 8 = .ok (.iconst 1, 1) := by decide +kernel
theorem dX10_drift_9 : decode cX10_drift 9 = .ok (.if_icmp .lt 20, 3) := by decide +kernel
theorem dX10_drift_12 : decode cX10_drift 12 = .ok (.iload_n 2, 1) := by decide +kernel
theorem dX10_drift_13 : decode cX10_drift 13 = .ok (.aload_n 0, 1) := by decide +kernel
theorem dX10_drift_14 : decode cX10_drift 14 = .ok (.getfield 50, 3) := by decide +kernel
theorem dX10_drift_17 : decode cX10_drift 17 = .ok (.if_icmp .gt 12, 3) := by decide +kernel
theorem dX10_drift_20 : decode cX10_drift 20 = .ok (.iload_n 3, 1) := by decide +kernel
theorem dX10_drift_21 : decode cX10_drift 21 = .ok (.ifCond .lt 8, 3) := by decide +kernel
theorem dX10_drift_24 : decode cX10_drift 24 = .ok (.iload_n 3, 1) := by decide +kernel
theorem dX10_drift_25 : decode cX10_drift 25 = .ok (.iconst 1, 1) := by decide +kernel
theorem dX10_drift_26 : decode cX10_drift 26 = .ok (.if_icmp .le 5, 3) := by decide +kernel
theorem dX10_drift_29 : decode cX10_drift 29 = .ok (.iconst (-1), 1) := by decide +kernel
theorem dX10_drift_30 : decode cX10_drift 30 = .ok (.ireturn, 1) := by decide +kernel
theorem dX10_drift_31 : decode cX10_drift 31 = .ok (.aload_n 0, 1) := by decide +kernel
theorem dX10_drift_32 : decode cX10_drift 32 = .ok (.getfield 50, 3) := by decide +kernel
theorem dX10_drift_35 : decode cX10_drift 35 = .ok (.iload_n 2, 1) := by decide +kernel
theorem dX10_drift_36 : decode cX10_drift 36 = .ok (.isub, 1) := by decide +kernel
theorem dX10_drift_37 : decode cX10_drift 37 = .ok (.istore 4, 2) := by decide +kernel
theorem dX10_drift_39 : decode cX10_drift 39 = .ok (.aload_n 0, 1) := by decide +kernel
theorem dX10_drift_40 : decode cX10_drift 40 = .ok (.iload 4, 2) := by decide +kernel
theorem dX10_drift_42 : decode cX10_drift 42 = .ok (.aload_n 0, 1) := by decide +kernel
theorem dX10_drift_43 : decode cX10_drift 43 = .ok (.invokevirtual 128, 3) := by decide +kernel
theorem dX10_drift_46 : decode cX10_drift 46 = .ok (.invokevirtual 141, 3) := by decide +kernel
theorem dX10_drift_49 : decode cX10_drift 49 = .ok (.istore 5, 2) := by decide +kernel
theorem dX10_drift_51 : decode cX10_drift 51 = .ok (.iload 5, 2) := by decide +kernel
theorem dX10_drift_53 : decode cX10_drift 53 = .ok (.iconst (-1), 1) := by decide +kernel
theorem dX10_drift_54 : decode cX10_drift 54 = .ok (.if_icmp .eq 7, 3) := by decide +kernel
theorem dX10_drift_57 : decode cX10_drift 57 = .ok (.iload_n 3, 1) := by decide +kernel
theorem dX10_drift_58 : decode cX10_drift 58 = .ok (.ifCond .ne 6, 3) := by decide +kernel
theorem dX10_drift_61 : decode cX10_drift 61 = .ok (.iload 5, 2) := by decide +kernel
theorem dX10_drift_63 : decode cX10_drift 63 = .ok (.ireturn, 1) := by decide +kernel
theorem dX10_drift_64 : decode cX10_drift 64 = .ok (.aload_n 0, 1) := by decide +kernel
theorem dX10_drift_65 : decode cX10_drift 65 = .ok (.getfield 33, 3) := by decide +kernel
theorem dX10_drift_68 : decode cX10_drift 68 = .ok (.iload_n 1, 1) := by decide +kernel
theorem dX10_drift_69 : decode cX10_drift 69 = .ok (.aaload, 1) := by decide +kernel
theorem dX10_drift_70 : decode cX10_drift 70 = .ok (.iload 4, 2) := by decide +kernel
theorem dX10_drift_72 : decode cX10_drift 72 = .ok (.invokevirtual 115, 3) := by decide +kernel
theorem dX10_drift_75 : decode cX10_drift 75 = .ok (.istore 6, 2) := by decide +kernel
theorem dX10_drift_77 : decode cX10_drift 77 = .ok (.iload 6, 2) := by decide +kernel
theorem dX10_drift_79 : decode cX10_drift 79 = .ok (.aload_n 0, 1) := by decide +kernel
theorem dX10_drift_80 : decode cX10_drift 80 = .ok (.getfield 33, 3) := by decide +kernel
theorem dX10_drift_83 : decode cX10_drift 83 = .ok (.iload 5, 2) := by decide +kernel
theorem dX10_drift_85 : decode cX10_drift 85 = .ok (.aaload, 1) := by decide +kernel
theorem dX10_drift_86 : decode cX10_drift 86 = .ok (.iload 4, 2) := by decide +kernel
theorem dX10_drift_88 : decode cX10_drift 88 = .ok (.invokevirtual 115, 3) := by decide +kernel
theorem dX10_drift_91 : decode cX10_drift 91 = .ok (.isub, 1) := by decide +kernel
theorem dX10_drift_92 : decode cX10_drift 92 = .ok (.istore 7, 2) := by decide +kernel
theorem dX10_drift_94 : decode cX10_drift 94 = .ok (.iload 6, 2) := by decide +kernel
theorem dX10_drift_96 : decode cX10_drift 96 = .ok (.ifCond .ne 7, 3) := by decide +kernel
theorem dX10_drift_99 : decode cX10_drift 99 = .ok (.iconst 0, 1) := by decide +kernel
theorem dX10_drift_100 : decode cX10_drift 100 = .ok (.goto 11, 3) := by decide +kernel
theorem dX10_drift_103 : decode cX10_drift 103 = .ok (.iload 7, 2) := by decide +kernel
theorem dX10_drift_105 : decode cX10_drift 105 = .ok (.bipush 100, 2) := by decide +kernel
theorem dX10_drift_107 : decode cX10_drift 107 = .ok (.imul, 1) := by decide +kernel
theorem dX10_drift_108 : decode cX10_drift 108 = .ok (.iload 6, 2) := by decide +kernel
theorem dX10_drift_110 : decode cX10_drift 110 = .ok (.idiv, 1) := by decide +kernel
theorem dX10_drift_111 : decode cX10_drift 111 = .ok (.ireturn, 1) := by decide +kernel
theorem dX10_stages_0 : decode cX10_stages 0 = .ok (.aload_n 0, 1) := by decide +kernel
theorem dX10_stages_1 : decode cX10_stages 1 = .ok (.invokevirtual 128, 3) := by decide +kernel
theorem dX10_stages_4 : decode cX10_stages 4 = .ok (.ifCond .ne 5, 3) := by decide +kernel
theorem dX10_stages_7 : decode cX10_stages 7 = .ok (.iconst (-1), 1) := by decide +kernel
theorem dX10_stages_8 : decode cX10_stages 8 = .ok (.ireturn, 1) := by decide +kernel
theorem dX10_stages_9 : decode cX10_stages 9 = .ok (.aload_n 0, 1) := by decide +kernel
theorem dX10_stages_10 : decode cX10_stages 10 = .ok (.invokevirtual 145, 3) := by decide +kernel
theorem dX10_stages_13 : decode cX10_stages 13 = .ok (.aload_n 0, 1) := by decide +kernel
theorem dX10_stages_14 : decode cX10_stages 14 = .ok (.getfield 70, 3) := by decide +kernel
theorem dX10_stages_17 : decode cX10_stages 17 = .ok (.invokevirtual 148, 3) := by decide +kernel
theorem dX10_stages_20 : decode cX10_stages 20 = .ok (.ireturn, 1) := by decide +kernel
theorem dX10_stage_0 : decode cX10_stage 0 = .ok (.aload_n 0, 1) := by decide +kernel
theorem dX10_stage_1 : decode cX10_stage 1 = .ok (.iload_n 1, 1) := by decide +kernel
theorem dX10_stage_2 : decode cX10_stage 2 = .ok (.invokevirtual 93, 3) := by decide +kernel
theorem dX10_stage_5 : decode cX10_stage 5 = .ok (.ifCond .eq 10, 3) := by decide +kernel
theorem dX10_stage_8 : decode cX10_stage 8 = .ok (.aload_n 0, 1) := by decide +kernel
theorem dX10_stage_9 : decode cX10_stage 9 = .ok (.invokevirtual 128, 3) := by decide +kernel
theorem dX10_stage_12 : decode cX10_stage 12 = .ok (.ifCond .ne 5, 3) := by decide +kernel
theorem dX10_stage_15 : decode cX10_stage 15 = .ok (.iconst (-1), 1) := by decide +kernel
theorem dX10_stage_16 : decode cX10_stage 16 = .ok (.ireturn, 1) := by decide +kernel
theorem dX10_stage_17 : decode cX10_stage 17 = .ok (.aload_n 0, 1) := by decide +kernel
theorem dX10_stage_18 : decode cX10_stage 18 = .ok (.invokevirtual 145, 3) := by decide +kernel
theorem dX10_stage_21 : decode cX10_stage 21 = .ok (.aload_n 0, 1) := by decide +kernel
theorem dX10_stage_22 : decode cX10_stage 22 = .ok (.getfield 70, 3) := by decide +kernel
theorem dX10_stage_25 : decode cX10_stage 25 = .ok (.getfield 151, 3) := by decide +kernel
theorem dX10_stage_28 : decode cX10_stage 28 = .ok (.iload_n 1, 1) := by decide +kernel
theorem dX10_stage_29 : decode cX10_stage 29 = .ok (.iaload, 1) := by decide +kernel
theorem dX10_stage_30 : decode cX10_stage 30 = .ok (.ireturn, 1) := by decide +kernel
theorem dX10_count_0 : decode cX10_count 0 = .ok (.iload_n 1, 1) := by decide +kernel
theorem dX10_count_1 : decode cX10_count 1 = .ok (.tableswitch 102 0 4 #[35, 40, 45, 50, 62], 35) := by decide +kernel
theorem dX10_count_36 : decode cX10_count 36 = .ok (.aload_n 0, 1) := by decide +kernel
theorem dX10_count_37 : decode cX10_count 37 = .ok (.getfield 50, 3) := by decide +kernel
theorem dX10_count_40 : decode cX10_count 40 = .ok (.ireturn, 1) := by decide +kernel
theorem dX10_count_41 : decode cX10_count 41 = .ok (.aload_n 0, 1) := by decide +kernel
theorem dX10_count_42 : decode cX10_count 42 = .ok (.getfield 61, 3) := by decide +kernel
theorem dX10_count_45 : decode cX10_count 45 = .ok (.ireturn, 1) := by decide +kernel
theorem dX10_count_46 : decode cX10_count 46 = .ok (.aload_n 0, 1) := by decide +kernel
theorem dX10_count_47 : decode cX10_count 47 = .ok (.getfield 64, 3) := by decide +kernel
theorem dX10_count_50 : decode cX10_count 50 = .ok (.ireturn, 1) := by decide +kernel
theorem dX10_count_51 : decode cX10_count 51 = .ok (.aload_n 0, 1) := by decide +kernel
theorem dX10_count_52 : decode cX10_count 52 = .ok (.invokevirtual 145, 3) := by decide +kernel
theorem dX10_count_55 : decode cX10_count 55 = .ok (.aload_n 0, 1) := by decide +kernel
theorem dX10_count_56 : decode cX10_count 56 = .ok (.getfield 70, 3) := by decide +kernel
theorem dX10_count_59 : decode cX10_count 59 = .ok (.invokevirtual 154, 3) := by decide +kernel
theorem dX10_count_62 : decode cX10_count 62 = .ok (.ireturn, 1) := by decide +kernel
theorem dX10_count_63 : decode cX10_count 63 = .ok (.aload_n 0, 1) := by decide +kernel
theorem dX10_count_64 : decode cX10_count 64 = .ok (.getfield 54, 3) := by decide +kernel
theorem dX10_count_67 : decode cX10_count 67 = .ok (.ifCond .eq 7, 3) := by decide +kernel
theorem dX10_count_70 : decode cX10_count 70 = .ok (.iconst 2, 1) := by decide +kernel
theorem dX10_count_71 : decode cX10_count 71 = .ok (.goto 4, 3) := by decide +kernel
theorem dX10_count_74 : decode cX10_count 74 = .ok (.iconst 0, 1) := by decide +kernel
theorem dX10_count_75 : decode cX10_count 75 = .ok (.aload_n 0, 1) := by decide +kernel
theorem dX10_count_76 : decode cX10_count 76 = .ok (.getfield 58, 3) := by decide +kernel
theorem dX10_count_79 : decode cX10_count 79 = .ok (.ifCond .eq 7, 3) := by decide +kernel
theorem dX10_count_82 : decode cX10_count 82 = .ok (.iconst 4, 1) := by decide +kernel
theorem dX10_count_83 : decode cX10_count 83 = .ok (.goto 4, 3) := by decide +kernel
theorem dX10_count_86 : decode cX10_count 86 = .ok (.iconst 0, 1) := by decide +kernel
theorem dX10_count_87 : decode cX10_count 87 = .ok (.iadd, 1) := by decide +kernel
theorem dX10_count_88 : decode cX10_count 88 = .ok (.aload_n 0, 1) := by decide +kernel
theorem dX10_count_89 : decode cX10_count 89 = .ok (.invokevirtual 157, 3) := by decide +kernel
theorem dX10_count_92 : decode cX10_count 92 = .ok (.ifCond .eq 8, 3) := by decide +kernel
theorem dX10_count_95 : decode cX10_count 95 = .ok (.bipush 8, 2) := by decide +kernel
theorem dX10_count_97 : decode cX10_count 97 = .ok (.goto 4, 3) := by decide +kernel
theorem dX10_count_100 : decode cX10_count 100 = .ok (.iconst 0, 1) := by decide +kernel
theorem dX10_count_101 : decode cX10_count 101 = .ok (.iadd, 1) := by decide +kernel
theorem dX10_count_102 : decode cX10_count 102 = .ok (.ireturn, 1) := by decide +kernel
theorem dX10_count_103 : decode cX10_count 103 = .ok (.iconst (-1), 1) := by decide +kernel
theorem dX10_count_104 : decode cX10_count 104 = .ok (.ireturn, 1) := by decide +kernel
theorem dX10_isKey_0 : decode cX10_isKey 0 = .ok (.iload_n 0, 1) := by decide +kernel
theorem dX10_isKey_1 : decode cX10_isKey 1 = .ok (.ifCond .lt 13, 3) := by decide +kernel
theorem dX10_isKey_4 : decode cX10_isKey 4 = .ok (.iload_n 0, 1) := by decide +kernel
theorem dX10_isKey_5 : decode cX10_isKey 5 = .ok (.bipush 64, 2) := by decide +kernel
theorem dX10_isKey_7 : decode cX10_isKey 7 = .ok (.if_icmp .ge 7, 3) := by decide +kernel
theorem dX10_isKey_10 : decode cX10_isKey 10 = .ok (.iconst 1, 1) := by decide +kernel
theorem dX10_isKey_11 : decode cX10_isKey 11 = .ok (.goto 4, 3) := by decide +kernel
theorem dX10_isKey_14 : decode cX10_isKey 14 = .ok (.iconst 0, 1) := by decide +kernel
theorem dX10_isKey_15 : decode cX10_isKey 15 = .ok (.ireturn, 1) := by decide +kernel
theorem dX10_isShelf_0 : decode cX10_isShelf 0 = .ok (.iload_n 0, 1) := by decide +kernel
theorem dX10_isShelf_1 : decode cX10_isShelf 1 = .ok (.ifCond .lt 13, 3) := by decide +kernel
theorem dX10_isShelf_4 : decode cX10_isShelf 4 = .ok (.iload_n 0, 1) := by decide +kernel
theorem dX10_isShelf_5 : decode cX10_isShelf 5 = .ok (.bipush 6, 2) := by decide +kernel
theorem dX10_isShelf_7 : decode cX10_isShelf 7 = .ok (.if_icmp .ge 7, 3) := by decide +kernel
theorem dX10_isShelf_10 : decode cX10_isShelf 10 = .ok (.iconst 1, 1) := by decide +kernel
theorem dX10_isShelf_11 : decode cX10_isShelf 11 = .ok (.goto 4, 3) := by decide +kernel
theorem dX10_isShelf_14 : decode cX10_isShelf 14 = .ok (.iconst 0, 1) := by decide +kernel
theorem dX10_isShelf_15 : decode cX10_isShelf 15 = .ok (.ireturn, 1) := by decide +kernel
theorem dX10_isIn_0 : decode cX10_isIn 0 = .ok (.iload_n 0, 1) := by decide +kernel
theorem dX10_isIn_1 : decode cX10_isIn 1 = .ok (.iload_n 1, 1) := by decide +kernel
theorem dX10_isIn_2 : decode cX10_isIn 2 = .ok (.ishr, 1) := by decide +kernel
theorem dX10_isIn_3 : decode cX10_isIn 3 = .ok (.iconst 1, 1) := by decide +kernel
theorem dX10_isIn_4 : decode cX10_isIn 4 = .ok (.iand, 1) := by decide +kernel
theorem dX10_isIn_5 : decode cX10_isIn 5 = .ok (.iconst 1, 1) := by decide +kernel
theorem dX10_isIn_6 : decode cX10_isIn 6 = .ok (.if_icmp .ne 7, 3) := by decide +kernel
theorem dX10_isIn_9 : decode cX10_isIn 9 = .ok (.iconst 1, 1) := by decide +kernel
theorem dX10_isIn_10 : decode cX10_isIn 10 = .ok (.goto 4, 3) := by decide +kernel
theorem dX10_isIn_13 : decode cX10_isIn 13 = .ok (.iconst 0, 1) := by decide +kernel
theorem dX10_isIn_14 : decode cX10_isIn 14 = .ok (.ireturn, 1) := by decide +kernel
theorem dX10_isCall_0 : decode cX10_isCall 0 = .ok (.iload_n 1, 1) := by decide +kernel
theorem dX10_isCall_1 : decode cX10_isCall 1 = .ok (.ifCond .lt 15, 3) := by decide +kernel
theorem dX10_isCall_4 : decode cX10_isCall 4 = .ok (.iload_n 1, 1) := by decide +kernel
theorem dX10_isCall_5 : decode cX10_isCall 5 = .ok (.aload_n 0, 1) := by decide +kernel
theorem dX10_isCall_6 : decode cX10_isCall 6 = .ok (.getfield 50, 3) := by decide +kernel
theorem dX10_isCall_9 : decode cX10_isCall 9 = .ok (.if_icmp .ge 7, 3) := by decide +kernel
theorem dX10_isCall_12 : decode cX10_isCall 12 = .ok (.iconst 1, 1) := by decide +kernel
theorem dX10_isCall_13 : decode cX10_isCall 13 = .ok (.goto 4, 3) := by decide +kernel
theorem dX10_isCall_16 : decode cX10_isCall 16 = .ok (.iconst 0, 1) := by decide +kernel
theorem dX10_isCall_17 : decode cX10_isCall 17 = .ok (.ireturn, 1) := by decide +kernel
theorem dX10_drawnAfter_0 : decode cX10_drawnAfter 0 = .ok (.iload_n 0, 1) := by decide +kernel
theorem dX10_drawnAfter_1 : decode cX10_drawnAfter 1 = .ok (.ldc 161, 2) := by decide +kernel
theorem dX10_drawnAfter_3 : decode cX10_drawnAfter 3 = .ok (.imul, 1) := by decide +kernel
theorem dX10_drawnAfter_4 : decode cX10_drawnAfter 4 = .ok (.sipush 12345, 3) := by decide +kernel
theorem dX10_drawnAfter_7 : decode cX10_drawnAfter 7 = .ok (.iadd, 1) := by decide +kernel
theorem dX10_drawnAfter_8 : decode cX10_drawnAfter 8 = .ok (.ireturn, 1) := by decide +kernel
theorem dX10_lay_0 : decode cX10_lay 0 = .ok (.aload_n 0, 1) := by decide +kernel
theorem dX10_lay_1 : decode cX10_lay 1 = .ok (.getfield 50, 3) := by decide +kernel
theorem dX10_lay_4 : decode cX10_lay 4 = .ok (.sipush 200, 3) := by decide +kernel
theorem dX10_lay_7 : decode cX10_lay 7 = .ok (.if_icmp .lt 4, 3) := by decide +kernel
theorem dX10_lay_10 : decode cX10_lay 10 = .ok (.return_, 1) := by decide +kernel
theorem dX10_lay_11 : decode cX10_lay 11 = .ok (.aload_n 0, 1) := by decide +kernel
theorem dX10_lay_12 : decode cX10_lay 12 = .ok (.getfield 37, 3) := by decide +kernel
theorem dX10_lay_15 : decode cX10_lay 15 = .ok (.aload_n 0, 1) := by decide +kernel
theorem dX10_lay_16 : decode cX10_lay 16 = .ok (.getfield 50, 3) := by decide +kernel
theorem dX10_lay_19 : decode cX10_lay 19 = .ok (.iload_n 1, 1) := by decide +kernel
theorem dX10_lay_20 : decode cX10_lay 20 = .ok (.iastore, 1) := by decide +kernel
theorem dX10_lay_21 : decode cX10_lay 21 = .ok (.aload_n 0, 1) := by decide +kernel
theorem dX10_lay_22 : decode cX10_lay 22 = .ok (.getfield 41, 3) := by decide +kernel
theorem dX10_lay_25 : decode cX10_lay 25 = .ok (.aload_n 0, 1) := by decide +kernel
theorem dX10_lay_26 : decode cX10_lay 26 = .ok (.getfield 50, 3) := by decide +kernel
theorem dX10_lay_29 : decode cX10_lay 29 = .ok (.iload_n 2, 1) := by decide +kernel
theorem dX10_lay_30 : decode cX10_lay 30 = .ok (.iastore, 1) := by decide +kernel
theorem dX10_lay_31 : decode cX10_lay 31 = .ok (.aload_n 0, 1) := by decide +kernel
theorem dX10_lay_32 : decode cX10_lay 32 = .ok (.getfield 44, 3) := by decide +kernel
theorem dX10_lay_35 : decode cX10_lay 35 = .ok (.aload_n 0, 1) := by decide +kernel
theorem dX10_lay_36 : decode cX10_lay 36 = .ok (.getfield 50, 3) := by decide +kernel
theorem dX10_lay_39 : decode cX10_lay 39 = .ok (.aload_n 0, 1) := by decide +kernel
theorem dX10_lay_40 : decode cX10_lay 40 = .ok (.getfield 10, 3) := by decide +kernel
theorem dX10_lay_43 : decode cX10_lay 43 = .ok (.iload_n 1, 1) := by decide +kernel
theorem dX10_lay_44 : decode cX10_lay 44 = .ok (.iload_n 2, 1) := by decide +kernel
theorem dX10_lay_45 : decode cX10_lay 45 = .ok (.invokevirtual 162, 3) := by decide +kernel
theorem dX10_lay_48 : decode cX10_lay 48 = .ok (.iastore, 1) := by decide +kernel
theorem dX10_lay_49 : decode cX10_lay 49 = .ok (.aload_n 0, 1) := by decide +kernel
theorem dX10_lay_50 : decode cX10_lay 50 = .ok (.getfield 33, 3) := by decide +kernel
theorem dX10_lay_53 : decode cX10_lay 53 = .ok (.astore_n 3, 1) := by decide +kernel
theorem dX10_lay_54 : decode cX10_lay 54 = .ok (.aload_n 3, 1) := by decide +kernel
theorem dX10_lay_55 : decode cX10_lay 55 = .ok (.arraylength, 1) := by decide +kernel
theorem dX10_lay_56 : decode cX10_lay 56 = .ok (.istore 4, 2) := by decide +kernel
theorem dX10_lay_58 : decode cX10_lay 58 = .ok (.iconst 0, 1) := by decide +kernel
theorem dX10_lay_59 : decode cX10_lay 59 = .ok (.istore 5, 2) := by decide +kernel
theorem dX10_lay_61 : decode cX10_lay 61 = .ok (.iload 5, 2) := by decide +kernel
theorem dX10_lay_63 : decode cX10_lay 63 = .ok (.iload 4, 2) := by decide +kernel
theorem dX10_lay_65 : decode cX10_lay 65 = .ok (.if_icmp .ge 22, 3) := by decide +kernel
theorem dX10_lay_68 : decode cX10_lay 68 = .ok (.aload_n 3, 1) := by decide +kernel
theorem dX10_lay_69 : decode cX10_lay 69 = .ok (.iload 5, 2) := by decide +kernel
theorem dX10_lay_71 : decode cX10_lay 71 = .ok (.aaload, 1) := by decide +kernel
theorem dX10_lay_72 : decode cX10_lay 72 = .ok (.astore 6, 2) := by decide +kernel
theorem dX10_lay_74 : decode cX10_lay 74 = .ok (.aload 6, 2) := by decide +kernel
theorem dX10_lay_76 : decode cX10_lay 76 = .ok (.iload_n 1, 1) := by decide +kernel
theorem dX10_lay_77 : decode cX10_lay 77 = .ok (.iload_n 2, 1) := by decide +kernel
theorem dX10_lay_78 : decode cX10_lay 78 = .ok (.invokevirtual 165, 3) := by decide +kernel
theorem dX10_lay_81 : decode cX10_lay 81 = .ok (.iinc 5 1, 3) := by decide +kernel
theorem dX10_lay_84 : decode cX10_lay 84 = .ok (.goto (-23), 3) := by decide +kernel
theorem dX10_lay_87 : decode cX10_lay 87 = .ok (.aload_n 0, 1) := by decide +kernel
theorem dX10_lay_88 : decode cX10_lay 88 = .ok (.getfield 47, 3) := by decide +kernel
theorem dX10_lay_91 : decode cX10_lay 91 = .ok (.aload_n 0, 1) := by decide +kernel
theorem dX10_lay_92 : decode cX10_lay 92 = .ok (.getfield 50, 3) := by decide +kernel
theorem dX10_lay_95 : decode cX10_lay 95 = .ok (.aload_n 0, 1) := by decide +kernel
theorem dX10_lay_96 : decode cX10_lay 96 = .ok (.getfield 10, 3) := by decide +kernel
theorem dX10_lay_99 : decode cX10_lay 99 = .ok (.getfield 109, 3) := by decide +kernel
theorem dX10_lay_102 : decode cX10_lay 102 = .ok (.iastore, 1) := by decide +kernel
theorem dX10_lay_103 : decode cX10_lay 103 = .ok (.aload_n 0, 1) := by decide +kernel
theorem dX10_lay_104 : decode cX10_lay 104 = .ok (.dup, 1) := by decide +kernel
theorem dX10_lay_105 : decode cX10_lay 105 = .ok (.getfield 50, 3) := by decide +kernel
theorem dX10_lay_108 : decode cX10_lay 108 = .ok (.iconst 1, 1) := by decide +kernel
theorem dX10_lay_109 : decode cX10_lay 109 = .ok (.iadd, 1) := by decide +kernel
theorem dX10_lay_110 : decode cX10_lay 110 = .ok (.putfield 50, 3) := by decide +kernel
theorem dX10_lay_113 : decode cX10_lay 113 = .ok (.aload_n 0, 1) := by decide +kernel
theorem dX10_lay_114 : decode cX10_lay 114 = .ok (.iconst 0, 1) := by decide +kernel
theorem dX10_lay_115 : decode cX10_lay 115 = .ok (.putfield 74, 3) := by decide +kernel
theorem dX10_lay_118 : decode cX10_lay 118 = .ok (.return_, 1) := by decide +kernel
theorem dX10_layAnew_0 : decode cX10_layAnew 0 = .ok (.aload_n 1, 1) := by decide +kernel
theorem dX10_layAnew_1 : decode cX10_layAnew 1 = .ok (.invokevirtual 168, 3) := by decide +kernel
theorem dX10_layAnew_4 : decode cX10_layAnew 4 = .ok (.iconst 0, 1) := by decide +kernel
theorem dX10_layAnew_5 : decode cX10_layAnew 5 = .ok (.istore_n 2, 1) := by decide +kernel
theorem dX10_layAnew_6 : decode cX10_layAnew 6 = .ok (.iload_n 2, 1) := by decide +kernel
theorem dX10_layAnew_7 : decode cX10_layAnew 7 = .ok (.aload_n 0, 1) := by decide +kernel
theorem dX10_layAnew_8 : decode cX10_layAnew 8 = .ok (.getfield 50, 3) := by decide +kernel
theorem dX10_layAnew_11 : decode cX10_layAnew 11 = .ok (.if_icmp .ge 25, 3) := by decide +kernel
theorem dX10_layAnew_14 : decode cX10_layAnew 14 = .ok (.aload_n 1, 1) := by decide +kernel
theorem dX10_layAnew_15 : decode cX10_layAnew 15 = .ok (.aload_n 0, 1) := by decide +kernel
theorem dX10_layAnew_16 : decode cX10_layAnew 16 = .ok (.getfield 37, 3) := by decide +kernel
theorem dX10_layAnew_19 : decode cX10_layAnew 19 = .ok (.iload_n 2, 1) := by decide +kernel
theorem dX10_layAnew_20 : decode cX10_layAnew 20 = .ok (.iaload, 1) := by decide +kernel
theorem dX10_layAnew_21 : decode cX10_layAnew 21 = .ok (.aload_n 0, 1) := by decide +kernel
theorem dX10_layAnew_22 : decode cX10_layAnew 22 = .ok (.getfield 41, 3) := by decide +kernel
theorem dX10_layAnew_25 : decode cX10_layAnew 25 = .ok (.iload_n 2, 1) := by decide +kernel
theorem dX10_layAnew_26 : decode cX10_layAnew 26 = .ok (.iaload, 1) := by decide +kernel
theorem dX10_layAnew_27 : decode cX10_layAnew 27 = .ok (.invokevirtual 165, 3) := by decide +kernel
theorem dX10_layAnew_30 : decode cX10_layAnew 30 = .ok (.iinc 2 1, 3) := by decide +kernel
theorem dX10_layAnew_33 : decode cX10_layAnew 33 = .ok (.goto (-27), 3) := by decide +kernel
theorem dX10_layAnew_36 : decode cX10_layAnew 36 = .ok (.return_, 1) := by decide +kernel
theorem dX10_asksFirst_0 : decode cX10_asksFirst 0 = .ok (.iconst 0, 1) := by decide +kernel
theorem dX10_asksFirst_1 : decode cX10_asksFirst 1 = .ok (.istore_n 1, 1) := by decide +kernel
theorem dX10_asksFirst_2 : decode cX10_asksFirst 2 = .ok (.iload_n 1, 1) := by decide +kernel
theorem dX10_asksFirst_3 : decode cX10_asksFirst 3 = .ok (.aload_n 0, 1) := by decide +kernel
theorem dX10_asksFirst_4 : decode cX10_asksFirst 4 = .ok (.getfield 50, 3) := by decide +kernel
theorem dX10_asksFirst_7 : decode cX10_asksFirst 7 = .ok (.if_icmp .ge 22, 3) := by decide +kernel
theorem dX10_asksFirst_10 : decode cX10_asksFirst 10 = .ok (.aload_n 0, 1) := by decide +kernel
theorem dX10_asksFirst_11 : decode cX10_asksFirst 11 = .ok (.getfield 37, 3) := by decide +kernel
theorem dX10_asksFirst_14 : decode cX10_asksFirst 14 = .ok (.iload_n 1, 1) := by decide +kernel
theorem dX10_asksFirst_15 : decode cX10_asksFirst 15 = .ok (.iaload, 1) := by decide +kernel
theorem dX10_asksFirst_16 : decode cX10_asksFirst 16 = .ok (.bipush 6, 2) := by decide +kernel
theorem dX10_asksFirst_18 : decode cX10_asksFirst 18 = .ok (.if_icmp .ne 5, 3) := by decide +kernel
theorem dX10_asksFirst_21 : decode cX10_asksFirst 21 = .ok (.iconst 1, 1) := by decide +kernel
theorem dX10_asksFirst_22 : decode cX10_asksFirst 22 = .ok (.ireturn, 1) := by decide +kernel
theorem dX10_asksFirst_23 : decode cX10_asksFirst 23 = .ok (.iinc 1 1, 3) := by decide +kernel
theorem dX10_asksFirst_26 : decode cX10_asksFirst 26 = .ok (.goto (-24), 3) := by decide +kernel
theorem dX10_asksFirst_29 : decode cX10_asksFirst 29 = .ok (.iconst 0, 1) := by decide +kernel
theorem dX10_asksFirst_30 : decode cX10_asksFirst 30 = .ok (.ireturn, 1) := by decide +kernel
theorem dX10_offered_0 : decode cX10_offered 0 = .ok (.bipush 63, 2) := by decide +kernel
theorem dX10_offered_2 : decode cX10_offered 2 = .ok (.aload_n 0, 1) := by decide +kernel
theorem dX10_offered_3 : decode cX10_offered 3 = .ok (.getfield 54, 3) := by decide +kernel
theorem dX10_offered_6 : decode cX10_offered 6 = .ok (.ifCond .eq 8, 3) := by decide +kernel
theorem dX10_offered_9 : decode cX10_offered 9 = .ok (.bipush 42, 2) := by decide +kernel
theorem dX10_offered_11 : decode cX10_offered 11 = .ok (.goto 5, 3) := by decide +kernel
theorem dX10_offered_14 : decode cX10_offered 14 = .ok (.bipush 63, 2) := by decide +kernel
theorem dX10_offered_16 : decode cX10_offered 16 = .ok (.iand, 1) := by decide +kernel
theorem dX10_offered_17 : decode cX10_offered 17 = .ok (.aload_n 0, 1) := by decide +kernel
theorem dX10_offered_18 : decode cX10_offered 18 = .ok (.getfield 58, 3) := by decide +kernel
theorem dX10_offered_21 : decode cX10_offered 21 = .ok (.ifCond .eq 7, 3) := by decide +kernel
theorem dX10_offered_24 : decode cX10_offered 24 = .ok (.iconst 1, 1) := by decide +kernel
theorem dX10_offered_25 : decode cX10_offered 25 = .ok (.goto 5, 3) := by decide +kernel
theorem dX10_offered_28 : decode cX10_offered 28 = .ok (.bipush 63, 2) := by decide +kernel
theorem dX10_offered_30 : decode cX10_offered 30 = .ok (.iand, 1) := by decide +kernel
theorem dX10_offered_31 : decode cX10_offered 31 = .ok (.aload_n 0, 1) := by decide +kernel
theorem dX10_offered_32 : decode cX10_offered 32 = .ok (.invokevirtual 157, 3) := by decide +kernel
theorem dX10_offered_35 : decode cX10_offered 35 = .ok (.ifCond .eq 7, 3) := by decide +kernel
theorem dX10_offered_38 : decode cX10_offered 38 = .ok (.iconst 1, 1) := by decide +kernel
theorem dX10_offered_39 : decode cX10_offered 39 = .ok (.goto 5, 3) := by decide +kernel
theorem dX10_offered_42 : decode cX10_offered 42 = .ok (.bipush 63, 2) := by decide +kernel
theorem dX10_offered_44 : decode cX10_offered 44 = .ok (.iand, 1) := by decide +kernel
theorem dX10_offered_45 : decode cX10_offered 45 = .ok (.ireturn, 1) := by decide +kernel
theorem dX10_cheapestSince_0 : decode cX10_cheapestSince 0 = .ok (.iconst (-1), 1) := by decide +kernel
theorem dX10_cheapestSince_1 : decode cX10_cheapestSince 1 = .ok (.istore_n 3, 1) := by decide +kernel
theorem dX10_cheapestSince_2 : decode cX10_cheapestSince 2 = .ok (.iconst 0, 1) := by decide +kernel
theorem dX10_cheapestSince_3 : decode cX10_cheapestSince 3 = .ok (.istore 4, 2) := by decide +kernel
theorem dX10_cheapestSince_5 : decode cX10_cheapestSince 5 = .ok (.iconst 0, 1) := by decide +kernel
theorem dX10_cheapestSince_6 : decode cX10_cheapestSince 6 = .ok (.istore 5, 2) := by decide +kernel
theorem dX10_cheapestSince_8 : decode cX10_cheapestSince 8 = .ok (.iload 5, 2) := by decide +kernel
theorem dX10_cheapestSince_10 : decode cX10_cheapestSince 10 = .ok (.bipush 6, 2) := by decide +kernel
theorem dX10_cheapestSince_12 : decode cX10_cheapestSince 12 = .ok (.if_icmp .ge 50, 3) := by decide +kernel
theorem dX10_cheapestSince_15 : decode cX10_cheapestSince 15 = .ok (.iload_n 2, 1) := by decide +kernel
theorem dX10_cheapestSince_16 : decode cX10_cheapestSince 16 = .ok (.iload 5, 2) := by decide +kernel
theorem dX10_cheapestSince_18 : decode cX10_cheapestSince 18 = .ok (.invokestatic 131, 3) := by decide +kernel
theorem dX10_cheapestSince_21 : decode cX10_cheapestSince 21 = .ok (.ifCond .eq 35, 3) := by decide +kernel
theorem dX10_cheapestSince_24 : decode cX10_cheapestSince 24 = .ok (.aload_n 0, 1) := by decide +kernel
theorem dX10_cheapestSince_25 : decode cX10_cheapestSince 25 = .ok (.getfield 33, 3) := by decide +kernel
theorem dX10_cheapestSince_28 : decode cX10_cheapestSince 28 = .ok (.iload 5, 2) := by decide +kernel
theorem dX10_cheapestSince_30 : decode cX10_cheapestSince 30 = .ok (.aaload, 1) := by decide +kernel
theorem dX10_cheapestSince_31 : decode cX10_cheapestSince 31 = .ok (.iload_n 1, 1) := by decide +kernel
theorem dX10_cheapestSince_32 : decode cX10_cheapestSince 32 = .ok (.invokevirtual 115, 3) := by decide +kernel
theorem dX10_cheapestSince_35 : decode cX10_cheapestSince 35 = .ok (.istore 6, 2) := by decide +kernel
theorem dX10_cheapestSince_37 : decode cX10_cheapestSince 37 = .ok (.iload_n 3, 1) := by decide +kernel
theorem dX10_cheapestSince_38 : decode cX10_cheapestSince 38 = .ok (.iconst (-1), 1) := by decide +kernel
theorem dX10_cheapestSince_39 : decode cX10_cheapestSince 39 = .ok (.if_icmp .eq 10, 3) := by decide +kernel
theorem dX10_cheapestSince_42 : decode cX10_cheapestSince 42 = .ok (.iload 6, 2) := by decide +kernel
theorem dX10_cheapestSince_44 : decode cX10_cheapestSince 44 = .ok (.iload 4, 2) := by decide +kernel
theorem dX10_cheapestSince_46 : decode cX10_cheapestSince 46 = .ok (.if_icmp .ge 10, 3) := by decide +kernel
theorem dX10_cheapestSince_49 : decode cX10_cheapestSince 49 = .ok (.iload 5, 2) := by decide +kernel
theorem dX10_cheapestSince_51 : decode cX10_cheapestSince 51 = .ok (.istore_n 3, 1) := by decide +kernel
theorem dX10_cheapestSince_52 : decode cX10_cheapestSince 52 = .ok (.iload 6, 2) := by decide +kernel
theorem dX10_cheapestSince_54 : decode cX10_cheapestSince 54 = .ok (.istore 4, 2) := by decide +kernel
theorem dX10_cheapestSince_56 : decode cX10_cheapestSince 56 = .ok (.iinc 5 1, 3) := by decide +kernel
theorem dX10_cheapestSince_59 : decode cX10_cheapestSince 59 = .ok (.goto (-51), 3) := by decide +kernel
theorem dX10_cheapestSince_62 : decode cX10_cheapestSince 62 = .ok (.iload_n 3, 1) := by decide +kernel
theorem dX10_cheapestSince_63 : decode cX10_cheapestSince 63 = .ok (.ireturn, 1) := by decide +kernel
theorem dX10_makePlan_0 : decode cX10_makePlan 0 = .ok (.aload_n 0, 1) := by decide +kernel
theorem dX10_makePlan_1 : decode cX10_makePlan 1 = .ok (.getfield 74, 3) := by decide +kernel
theorem dX10_makePlan_4 : decode cX10_makePlan 4 = .ok (.ifCond .ne 57, 3) := by decide +kernel
theorem dX10_makePlan_7 : decode cX10_makePlan 7 = .ok (.aload_n 0, 1) := by decide +kernel
theorem dX10_makePlan_8 : decode cX10_makePlan 8 = .ok (.getfield 70, 3) := by decide +kernel
theorem dX10_makePlan_11 : decode cX10_makePlan 11 = .ok (.aload_n 0, 1) := by decide +kernel
theorem dX10_makePlan_12 : decode cX10_makePlan 12 = .ok (.invokevirtual 128, 3) := by decide +kernel
theorem dX10_makePlan_15 : decode cX10_makePlan 15 = .ok (.aload_n 0, 1) := by decide +kernel
theorem dX10_makePlan_16 : decode cX10_makePlan 16 = .ok (.getfield 50, 3) := by decide +kernel
theorem dX10_makePlan_19 : decode cX10_makePlan 19 = .ok (.aload_n 0, 1) := by decide +kernel
theorem dX10_makePlan_20 : decode cX10_makePlan 20 = .ok (.getfield 61, 3) := by decide +kernel
theorem dX10_makePlan_23 : decode cX10_makePlan 23 = .ok (.aload_n 0, 1) := by decide +kernel
theorem dX10_makePlan_24 : decode cX10_makePlan 24 = .ok (.getfield 64, 3) := by decide +kernel
theorem dX10_makePlan_27 : decode cX10_makePlan 27 = .ok (.invokevirtual 171, 3) := by decide +kernel
theorem dX10_makePlan_30 : decode cX10_makePlan 30 = .ok (.aload_n 0, 1) := by decide +kernel
theorem dX10_makePlan_31 : decode cX10_makePlan 31 = .ok (.getfield 70, 3) := by decide +kernel
theorem dX10_makePlan_34 : decode cX10_makePlan 34 = .ok (.aload_n 0, 1) := by decide +kernel
theorem dX10_makePlan_35 : decode cX10_makePlan 35 = .ok (.getfield 33, 3) := by decide +kernel
theorem dX10_makePlan_38 : decode cX10_makePlan 38 = .ok (.aload_n 0, 1) := by decide +kernel
theorem dX10_makePlan_39 : decode cX10_makePlan 39 = .ok (.getfield 47, 3) := by decide +kernel
theorem dX10_makePlan_42 : decode cX10_makePlan 42 = .ok (.invokevirtual 175, 3) := by decide +kernel
theorem dX10_makePlan_45 : decode cX10_makePlan 45 = .ok (.aload_n 0, 1) := by decide +kernel
theorem dX10_makePlan_46 : decode cX10_makePlan 46 = .ok (.getfield 70, 3) := by decide +kernel
theorem dX10_makePlan_49 : decode cX10_makePlan 49 = .ok (.aload_n 0, 1) := by decide +kernel
theorem dX10_makePlan_50 : decode cX10_makePlan 50 = .ok (.getfield 47, 3) := by decide +kernel
theorem dX10_makePlan_53 : decode cX10_makePlan 53 = .ok (.invokevirtual 179, 3) := by decide +kernel
theorem dX10_makePlan_56 : decode cX10_makePlan 56 = .ok (.aload_n 0, 1) := by decide +kernel
theorem dX10_makePlan_57 : decode cX10_makePlan 57 = .ok (.iconst 1, 1) := by decide +kernel
theorem dX10_makePlan_58 : decode cX10_makePlan 58 = .ok (.putfield 74, 3) := by decide +kernel
theorem dX10_makePlan_61 : decode cX10_makePlan 61 = .ok (.return_, 1) := by decide +kernel
theorem dX11_init_0 : decode cX11_init 0 = .ok (.aload_n 0, 1) := by decide +kernel
theorem dX11_init_1 : decode cX11_init 1 = .ok (.invokespecial 1, 3) := by decide +kernel
theorem dX11_init_4 : decode cX11_init 4 = .ok (.aload_n 0, 1) := by decide +kernel
theorem dX11_init_5 : decode cX11_init 5 = .ok (.sipush 200, 3) := by decide +kernel
theorem dX11_init_8 : decode cX11_init 8 = .ok (.newarray .int, 2) := by decide +kernel
theorem dX11_init_10 : decode cX11_init 10 = .ok (.putfield 9, 3) := by decide +kernel
theorem dX11_init_13 : decode cX11_init 13 = .ok (.aload_n 0, 1) := by decide +kernel
theorem dX11_init_14 : decode cX11_init 14 = .ok (.sipush 200, 3) := by decide +kernel
theorem dX11_init_17 : decode cX11_init 17 = .ok (.newarray .int, 2) := by decide +kernel
theorem dX11_init_19 : decode cX11_init 19 = .ok (.putfield 13, 3) := by decide +kernel
theorem dX11_init_22 : decode cX11_init 22 = .ok (.aload_n 0, 1) := by decide +kernel
theorem dX11_init_23 : decode cX11_init 23 = .ok (.bipush 10, 2) := by decide +kernel
theorem dX11_init_25 : decode cX11_init 25 = .ok (.putfield 16, 3) := by decide +kernel
theorem dX11_init_28 : decode cX11_init 28 = .ok (.aload_n 0, 1) := by decide +kernel
theorem dX11_init_29 : decode cX11_init 29 = .ok (.iconst 2, 1) := by decide +kernel
theorem dX11_init_30 : decode cX11_init 30 = .ok (.putfield 20, 3) := by decide +kernel
theorem dX11_init_33 : decode cX11_init 33 = .ok (.aload_n 0, 1) := by decide +kernel
theorem dX11_init_34 : decode cX11_init 34 = .ok (.sipush 200, 3) := by decide +kernel
theorem dX11_init_37 : decode cX11_init 37 = .ok (.newarray .int, 2) := by decide +kernel
theorem dX11_init_39 : decode cX11_init 39 = .ok (.putfield 23, 3) := by decide +kernel
theorem dX11_init_42 : decode cX11_init 42 = .ok (.aload_n 0, 1) := by decide +kernel
theorem dX11_init_43 : decode cX11_init 43 = .ok (.sipush 200, 3) := by decide +kernel
theorem dX11_init_46 : decode cX11_init 46 = .ok (.newarray .int, 2) := by decide +kernel
theorem dX11_init_48 : decode cX11_init 48 = .ok (.putfield 26, 3) := by decide +kernel
theorem dX11_init_51 : decode cX11_init 51 = .ok (.aload_n 0, 1) := by decide +kernel
theorem dX11_init_52 : decode cX11_init 52 = .ok (.sipush 1200, 3) := by decide +kernel
theorem dX11_init_55 : decode cX11_init 55 = .ok (.newarray .int, 2) := by decide +kernel
theorem dX11_init_57 : decode cX11_init 57 = .ok (.putfield 29, 3) := by decide +kernel
theorem dX11_init_60 : decode cX11_init 60 = .ok (.aload_n 0, 1) := by decide +kernel
theorem dX11_init_61 : decode cX11_init 61 = .ok (.bipush 6, 2) := by decide +kernel
theorem dX11_init_63 : decode cX11_init 63 = .ok (.newarray .int, 2) := by decide +kernel
theorem dX11_init_65 : decode cX11_init 65 = .ok (.putfield 32, 3) := by decide +kernel
theorem dX11_init_68 : decode cX11_init 68 = .ok (.aload_n 0, 1) := by decide +kernel
theorem dX11_init_69 : decode cX11_init 69 = .ok (.bipush 6, 2) := by decide +kernel
theorem dX11_init_71 : decode cX11_init 71 = .ok (.newarray .int, 2) := by decide +kernel
theorem dX11_init_73 : decode cX11_init 73 = .ok (.putfield 35, 3) := by decide +kernel
theorem dX11_init_76 : decode cX11_init 76 = .ok (.aload_n 0, 1) := by decide +kernel
theorem dX11_init_77 : decode cX11_init 77 = .ok (.sipush 200, 3) := by decide +kernel
theorem dX11_init_80 : decode cX11_init 80 = .ok (.newarray .int, 2) := by decide +kernel
theorem dX11_init_82 : decode cX11_init 82 = .ok (.putfield 38, 3) := by decide +kernel
theorem dX11_init_85 : decode cX11_init 85 = .ok (.aload_n 0, 1) := by decide +kernel
theorem dX11_init_86 : decode cX11_init 86 = .ok (.sipush 200, 3) := by decide +kernel
theorem dX11_init_89 : decode cX11_init 89 = .ok (.newarray .int, 2) := by decide +kernel
theorem dX11_init_91 : decode cX11_init 91 = .ok (.putfield 41, 3) := by decide +kernel
theorem dX11_init_94 : decode cX11_init 94 = .ok (.aload_n 0, 1) := by decide +kernel
theorem dX11_init_95 : decode cX11_init 95 = .ok (.sipush 200, 3) := by decide +kernel
theorem dX11_init_98 : decode cX11_init 98 = .ok (.newarray .int, 2) := by decide +kernel
theorem dX11_init_100 : decode cX11_init 100 = .ok (.putfield 44, 3) := by decide +kernel
theorem dX11_init_103 : decode cX11_init 103 = .ok (.aload_n 0, 1) := by decide +kernel
theorem dX11_init_104 : decode cX11_init 104 = .ok (.bipush 6, 2) := by decide +kernel
theorem dX11_init_106 : decode cX11_init 106 = .ok (.newarray .int, 2) := by decide +kernel
theorem dX11_init_108 : decode cX11_init 108 = .ok (.putfield 47, 3) := by decide +kernel
theorem dX11_init_111 : decode cX11_init 111 = .ok (.aload_n 0, 1) := by decide +kernel
theorem dX11_init_112 : decode cX11_init 112 = .ok (.sipush 200, 3) := by decide +kernel
theorem dX11_init_115 : decode cX11_init 115 = .ok (.newarray .int, 2) := by decide +kernel
theorem dX11_init_117 : decode cX11_init 117 = .ok (.putfield 50, 3) := by decide +kernel
theorem dX11_init_120 : decode cX11_init 120 = .ok (.aload_n 0, 1) := by decide +kernel
theorem dX11_init_121 : decode cX11_init 121 = .ok (.sipush 200, 3) := by decide +kernel
theorem dX11_init_124 : decode cX11_init 124 = .ok (.newarray .int, 2) := by decide +kernel
theorem dX11_init_126 : decode cX11_init 126 = .ok (.putfield 53, 3) := by decide +kernel
theorem dX11_init_129 : decode cX11_init 129 = .ok (.aload_n 0, 1) := by decide +kernel
theorem dX11_init_130 : decode cX11_init 130 = .ok (.bipush 64, 2) := by decide +kernel
theorem dX11_init_132 : decode cX11_init 132 = .ok (.newarray .int, 2) := by decide +kernel
theorem dX11_init_134 : decode cX11_init 134 = .ok (.putfield 56, 3) := by decide +kernel
theorem dX11_init_137 : decode cX11_init 137 = .ok (.aload_n 0, 1) := by decide +kernel
theorem dX11_init_138 : decode cX11_init 138 = .ok (.bipush 64, 2) := by decide +kernel
theorem dX11_init_140 : decode cX11_init 140 = .ok (.newarray .int, 2) := by decide +kernel
theorem dX11_init_142 : decode cX11_init 142 = .ok (.putfield 59, 3) := by decide +kernel
theorem dX11_init_145 : decode cX11_init 145 = .ok (.aload_n 0, 1) := by decide +kernel
theorem dX11_init_146 : decode cX11_init 146 = .ok (.sipush 1206, 3) := by decide +kernel
theorem dX11_init_149 : decode cX11_init 149 = .ok (.newarray .int, 2) := by decide +kernel
theorem dX11_init_151 : decode cX11_init 151 = .ok (.putfield 62, 3) := by decide +kernel
theorem dX11_init_154 : decode cX11_init 154 = .ok (.aload_n 0, 1) := by decide +kernel
theorem dX11_init_155 : decode cX11_init 155 = .ok (.sipush 1206, 3) := by decide +kernel
theorem dX11_init_158 : decode cX11_init 158 = .ok (.newarray .int, 2) := by decide +kernel
theorem dX11_init_160 : decode cX11_init 160 = .ok (.putfield 65, 3) := by decide +kernel
theorem dX11_init_163 : decode cX11_init 163 = .ok (.aload_n 0, 1) := by decide +kernel
theorem dX11_init_164 : decode cX11_init 164 = .ok (.sipush 200, 3) := by decide +kernel
theorem dX11_init_167 : decode cX11_init 167 = .ok (.newarray .int, 2) := by decide +kernel
theorem dX11_init_169 : decode cX11_init 169 = .ok (.putfield 68, 3) := by decide +kernel
theorem dX11_init_172 : decode cX11_init 172 = .ok (.return_, 1) := by decide +kernel
theorem dX11_thrown_0 : decode cX11_thrown 0 = .ok (.aload_n 0, 1) := by decide +kernel
theorem dX11_thrown_1 : decode cX11_thrown 1 = .ok (.getfield 71, 3) := by decide +kernel
theorem dX11_thrown_4 : decode cX11_thrown 4 = .ok (.ireturn, 1) := by decide +kernel
theorem dX11_in_0 : decode cX11_in 0 = .ok (.iload_n 0, 1) := by decide +kernel
theorem dX11_in_1 : decode cX11_in 1 = .ok (.iload_n 1, 1) := by decide +kernel
theorem dX11_in_2 : decode cX11_in 2 = .ok (.if_icmp .lt 12, 3) := by decide +kernel
theorem dX11_in_5 : decode cX11_in 5 = .ok (.iload_n 0, 1) := by decide +kernel
theorem dX11_in_6 : decode cX11_in 6 = .ok (.iload_n 2, 1) := by decide +kernel
theorem dX11_in_7 : decode cX11_in 7 = .ok (.if_icmp .gt 7, 3) := by decide +kernel
theorem dX11_in_10 : decode cX11_in 10 = .ok (.iconst 1, 1) := by decide +kernel
theorem dX11_in_11 : decode cX11_in 11 = .ok (.goto 4, 3) := by decide +kernel
theorem dX11_in_14 : decode cX11_in 14 = .ok (.iconst 0, 1) := by decide +kernel
theorem dX11_in_15 : decode cX11_in 15 = .ok (.ireturn, 1) := by decide +kernel
theorem dX11_add_0 : decode cX11_add 0 = .ok (.aload_n 0, 1) := by decide +kernel
theorem dX11_add_1 : decode cX11_add 1 = .ok (.getfield 9, 3) := by decide +kernel
theorem dX11_add_4 : decode cX11_add 4 = .ok (.aload_n 0, 1) := by decide +kernel
theorem dX11_add_5 : decode cX11_add 5 = .ok (.getfield 74, 3) := by decide +kernel
theorem dX11_add_8 : decode cX11_add 8 = .ok (.iload_n 1, 1) := by decide +kernel
theorem dX11_add_9 : decode cX11_add 9 = .ok (.iastore, 1) := by decide +kernel
theorem dX11_add_10 : decode cX11_add 10 = .ok (.aload_n 0, 1) := by decide +kernel
theorem dX11_add_11 : decode cX11_add 11 = .ok (.getfield 13, 3) := by decide +kernel
theorem dX11_add_14 : decode cX11_add 14 = .ok (.aload_n 0, 1) := by decide +kernel
theorem dX11_add_15 : decode cX11_add 15 = .ok (.getfield 74, 3) := by decide +kernel
theorem dX11_add_18 : decode cX11_add 18 = .ok (.iload_n 2, 1) := by decide +kernel
theorem dX11_add_19 : decode cX11_add 19 = .ok (.iastore, 1) := by decide +kernel
theorem dX11_add_20 : decode cX11_add 20 = .ok (.aload_n 0, 1) := by decide +kernel
theorem dX11_add_21 : decode cX11_add 21 = .ok (.dup, 1) := by decide +kernel
theorem dX11_add_22 : decode cX11_add 22 = .ok (.getfield 74, 3) := by decide +kernel
theorem dX11_add_25 : decode cX11_add 25 = .ok (.iconst 1, 1) := by decide +kernel
theorem dX11_add_26 : decode cX11_add 26 = .ok (.iadd, 1) := by decide +kernel
theorem dX11_add_27 : decode cX11_add 27 = .ok (.putfield 74, 3) := by decide +kernel
theorem dX11_add_30 : decode cX11_add 30 = .ok (.aload_n 0, 1) := by decide +kernel
theorem dX11_add_31 : decode cX11_add 31 = .ok (.iconst 0, 1) := by decide +kernel
theorem dX11_add_32 : decode cX11_add 32 = .ok (.putfield 77, 3) := by decide +kernel
theorem dX11_add_35 : decode cX11_add 35 = .ok (.return_, 1) := by decide +kernel
theorem dX11_call_0 : decode cX11_call 0 = .ok (.aload_n 0, 1) := by decide +kernel
theorem dX11_call_1 : decode cX11_call 1 = .ok (.iconst 0, 1) := by decide +kernel
theorem dX11_call_2 : decode cX11_call 2 = .ok (.putfield 71, 3) := by decide +kernel
theorem dX11_call_5 : decode cX11_call 5 = .ok (.iload_n 1, 1) := by decide +kernel
theorem dX11_call_6 : decode cX11_call 6 = .ok (.iconst 0, 1) := by decide +kernel
theorem dX11_call_7 : decode cX11_call 7 = .ok (.bipush 7, 2) := by decide +kernel
theorem dX11_call_9 : decode cX11_call 9 = .ok (.invokestatic 81, 3) := by decide +kernel
theorem dX11_call_12 : decode cX11_call 12 = .ok (.ifCond .eq 23, 3) := by decide +kernel
theorem dX11_call_15 : decode cX11_call 15 = .ok (.iload_n 2, 1) := by decide +kernel
theorem dX11_call_16 : decode cX11_call 16 = .ok (.iconst 0, 1) := by decide +kernel
theorem dX11_call_17 : decode cX11_call 17 = .ok (.bipush 63, 2) := by decide +kernel
theorem dX11_call_19 : decode cX11_call 19 = .ok (.invokestatic 81, 3) := by decide +kernel
theorem dX11_call_22 : decode cX11_call 22 = .ok (.ifCond .eq 13, 3) := by decide +kernel
theorem dX11_call_25 : decode cX11_call 25 = .ok (.aload_n 0, 1) := by decide +kernel
theorem dX11_call_26 : decode cX11_call 26 = .ok (.getfield 74, 3) := by decide +kernel
theorem dX11_call_29 : decode cX11_call 29 = .ok (.sipush 200, 3) := by decide +kernel
theorem dX11_call_32 : decode cX11_call 32 = .ok (.if_icmp .ne 5, 3) := by decide +kernel
theorem dX11_call_35 : decode cX11_call 35 = .ok (.iconst (-1), 1) := by decide +kernel
theorem dX11_call_36 : decode cX11_call 36 = .ok (.ireturn, 1) := by decide +kernel
theorem dX11_call_37 : decode cX11_call 37 = .ok (.aload_n 0, 1) := by decide +kernel
theorem dX11_call_38 : decode cX11_call 38 = .ok (.iload_n 1, 1) := by decide +kernel
theorem dX11_call_39 : decode cX11_call 39 = .ok (.iload_n 2, 1) := by decide +kernel
theorem dX11_call_40 : decode cX11_call 40 = .ok (.invokevirtual 85, 3) := by decide +kernel
theorem dX11_call_43 : decode cX11_call 43 = .ok (.aload_n 0, 1) := by decide +kernel
theorem dX11_call_44 : decode cX11_call 44 = .ok (.getfield 74, 3) := by decide +kernel
theorem dX11_call_47 : decode cX11_call 47 = .ok (.iconst 1, 1) := by decide +kernel
theorem dX11_call_48 : decode cX11_call 48 = .ok (.isub, 1) := by decide +kernel
theorem dX11_call_49 : decode cX11_call 49 = .ok (.ireturn, 1) := by decide +kernel
theorem dX11_draw_0 : decode cX11_draw 0 = .ok (.aload_n 0, 1) := by decide +kernel
theorem dX11_draw_1 : decode cX11_draw 1 = .ok (.iconst 0, 1) := by decide +kernel
theorem dX11_draw_2 : decode cX11_draw 2 = .ok (.putfield 71, 3) := by decide +kernel
theorem dX11_draw_5 : decode cX11_draw 5 = .ok (.iload_n 2, 1) := by decide +kernel
theorem dX11_draw_6 : decode cX11_draw 6 = .ok (.iconst 0, 1) := by decide +kernel
theorem dX11_draw_7 : decode cX11_draw 7 = .ok (.bipush 100, 2) := by decide +kernel
theorem dX11_draw_9 : decode cX11_draw 9 = .ok (.invokestatic 81, 3) := by decide +kernel
theorem dX11_draw_12 : decode cX11_draw 12 = .ok (.ifCond .eq 37, 3) := by decide +kernel
theorem dX11_draw_15 : decode cX11_draw 15 = .ok (.iload_n 3, 1) := by decide +kernel
theorem dX11_draw_16 : decode cX11_draw 16 = .ok (.iconst 1, 1) := by decide +kernel
theorem dX11_draw_17 : decode cX11_draw 17 = .ok (.bipush 64, 2) := by decide +kernel
theorem dX11_draw_19 : decode cX11_draw 19 = .ok (.invokestatic 81, 3) := by decide +kernel
theorem dX11_draw_22 : decode cX11_draw 22 = .ok (.ifCond .eq 27, 3) := by decide +kernel
theorem dX11_draw_25 : decode cX11_draw 25 = .ok (.iload 4, 2) := by decide +kernel
theorem dX11_draw_27 : decode cX11_draw 27 = .ok (.iconst 0, 1) := by decide +kernel
theorem dX11_draw_28 : decode cX11_draw 28 = .ok (.sipush 255, 3) := by decide +kernel
theorem dX11_draw_31 : decode cX11_draw 31 = .ok (.invokestatic 81, 3) := by decide +kernel
theorem dX11_draw_34 : decode cX11_draw 34 = .ok (.ifCond .eq 15, 3) := by decide +kernel
theorem dX11_draw_37 : decode cX11_draw 37 = .ok (.aload_n 0, 1) := by decide +kernel
theorem dX11_draw_38 : decode cX11_draw 38 = .ok (.getfield 74, 3) := by decide +kernel
theorem dX11_draw_41 : decode cX11_draw 41 = .ok (.iload_n 2, 1) := by decide +kernel
theorem dX11_draw_42 : decode cX11_draw 42 = .ok (.iadd, 1) := by decide +kernel
theorem dX11_draw_43 : decode cX11_draw 43 = .ok (.sipush 200, 3) := by decide +kernel
theorem dX11_draw_46 : decode cX11_draw 46 = .ok (.if_icmp .le 5, 3) := by decide +kernel
theorem dX11_draw_49 : decode cX11_draw 49 = .ok (.iconst (-1), 1) := by decide +kernel
theorem dX11_draw_50 : decode cX11_draw 50 = .ok (.ireturn, 1) := by decide +kernel
theorem dX11_draw_51 : decode cX11_draw 51 = .ok (.iload_n 1, 1) := by decide +kernel
theorem dX11_draw_52 : decode cX11_draw 52 = .ok (.istore 5, 2) := by decide +kernel
theorem dX11_draw_54 : decode cX11_draw 54 = .ok (.iconst 0, 1) := by decide +kernel
theorem dX11_draw_55 : decode cX11_draw 55 = .ok (.istore 6, 2) := by decide +kernel
theorem dX11_draw_57 : decode cX11_draw 57 = .ok (.iload 6, 2) := by decide +kernel
theorem dX11_draw_59 : decode cX11_draw 59 = .ok (.iload_n 2, 1) := by decide +kernel
theorem dX11_draw_60 : decode cX11_draw 60 = .ok (.if_icmp .ge 68, 3) := by decide +kernel
theorem dX11_draw_63 : decode cX11_draw 63 = .ok (.iload 5, 2) := by decide +kernel
theorem dX11_draw_65 : decode cX11_draw 65 = .ok (.ldc 89, 2) := by decide +kernel
theorem dX11_draw_67 : decode cX11_draw 67 = .ok (.imul, 1) := by decide +kernel
theorem dX11_draw_68 : decode cX11_draw 68 = .ok (.sipush 12345, 3) := by decide +kernel
theorem dX11_draw_71 : decode cX11_draw 71 = .ok (.iadd, 1) := by decide +kernel
theorem dX11_draw_72 : decode cX11_draw 72 = .ok (.istore 5, 2) := by decide +kernel
theorem dX11_draw_74 : decode cX11_draw 74 = .ok (.iload 5, 2) := by decide +kernel
theorem dX11_draw_76 : decode cX11_draw 76 = .ok (.bipush 16, 2) := by decide +kernel
theorem dX11_draw_78 : decode cX11_draw 78 = .ok (.iushr, 1) := by decide +kernel
theorem dX11_draw_79 : decode cX11_draw 79 = .ok (.bipush 8, 2) := by decide +kernel
theorem dX11_draw_81 : decode cX11_draw 81 = .ok (.irem, 1) := by decide +kernel
theorem dX11_draw_82 : decode cX11_draw 82 = .ok (.istore 7, 2) := by decide +kernel
theorem dX11_draw_84 : decode cX11_draw 84 = .ok (.iload 5, 2) := by decide +kernel
theorem dX11_draw_86 : decode cX11_draw 86 = .ok (.ldc 89, 2) := by decide +kernel
theorem dX11_draw_88 : decode cX11_draw 88 = .ok (.imul, 1) := by decide +kernel
theorem dX11_draw_89 : decode cX11_draw 89 = .ok (.sipush 12345, 3) := by decide +kernel
theorem dX11_draw_92 : decode cX11_draw 92 = .ok (.iadd, 1) := by decide +kernel
theorem dX11_draw_93 : decode cX11_draw 93 = .ok (.istore 5, 2) := by decide +kernel
theorem dX11_draw_95 : decode cX11_draw 95 = .ok (.aload_n 0, 1) := by decide +kernel
theorem dX11_draw_96 : decode cX11_draw 96 = .ok (.iload 4, 2) := by decide +kernel
theorem dX11_draw_98 : decode cX11_draw 98 = .ok (.iload 7, 2) := by decide +kernel
theorem dX11_draw_100 : decode cX11_draw 100 = .ok (.ishr, 1) := by decide +kernel
theorem dX11_draw_101 : decode cX11_draw 101 = .ok (.iconst 1, 1) := by decide +kernel
theorem dX11_draw_102 : decode cX11_draw 102 = .ok (.iand, 1) := by decide +kernel
theorem dX11_draw_103 : decode cX11_draw 103 = .ok (.ifCond .ne 7, 3) := by decide +kernel
theorem dX11_draw_106 : decode cX11_draw 106 = .ok (.iconst 0, 1) := by decide +kernel
theorem dX11_draw_107 : decode cX11_draw 107 = .ok (.goto 5, 3) := by decide +kernel
theorem dX11_draw_110 : decode cX11_draw 110 = .ok (.iload 7, 2) := by decide +kernel
theorem dX11_draw_112 : decode cX11_draw 112 = .ok (.iload 5, 2) := by decide +kernel
theorem dX11_draw_114 : decode cX11_draw 114 = .ok (.bipush 16, 2) := by decide +kernel
theorem dX11_draw_116 : decode cX11_draw 116 = .ok (.iushr, 1) := by decide +kernel
theorem dX11_draw_117 : decode cX11_draw 117 = .ok (.iload_n 3, 1) := by decide +kernel
theorem dX11_draw_118 : decode cX11_draw 118 = .ok (.irem, 1) := by decide +kernel
theorem dX11_draw_119 : decode cX11_draw 119 = .ok (.invokevirtual 85, 3) := by decide +kernel
theorem dX11_draw_122 : decode cX11_draw 122 = .ok (.iinc 6 1, 3) := by decide +kernel
theorem dX11_draw_125 : decode cX11_draw 125 = .ok (.goto (-68), 3) := by decide +kernel
theorem dX11_draw_128 : decode cX11_draw 128 = .ok (.aload_n 0, 1) := by decide +kernel
theorem dX11_draw_129 : decode cX11_draw 129 = .ok (.getfield 74, 3) := by decide +kernel
theorem dX11_draw_132 : decode cX11_draw 132 = .ok (.ireturn, 1) := by decide +kernel
theorem dX11_drop_0 : decode cX11_drop 0 = .ok (.aload_n 0, 1) := by decide +kernel
theorem dX11_drop_1 : decode cX11_drop 1 = .ok (.iconst 0, 1) := by decide +kernel
theorem dX11_drop_2 : decode cX11_drop 2 = .ok (.putfield 71, 3) := by decide +kernel
theorem dX11_drop_5 : decode cX11_drop 5 = .ok (.iload_n 1, 1) := by decide +kernel
theorem dX11_drop_6 : decode cX11_drop 6 = .ok (.iconst 0, 1) := by decide +kernel
theorem dX11_drop_7 : decode cX11_drop 7 = .ok (.aload_n 0, 1) := by decide +kernel
theorem dX11_drop_8 : decode cX11_drop 8 = .ok (.getfield 74, 3) := by decide +kernel
theorem dX11_drop_11 : decode cX11_drop 11 = .ok (.invokestatic 81, 3) := by decide +kernel
theorem dX11_drop_14 : decode cX11_drop 14 = .ok (.ifCond .ne 5, 3) := by decide +kernel
theorem dX11_drop_17 : decode cX11_drop 17 = .ok (.iconst (-1), 1) := by decide +kernel
theorem dX11_drop_18 : decode cX11_drop 18 = .ok (.ireturn, 1) := by decide +kernel
theorem dX11_drop_19 : decode cX11_drop 19 = .ok (.aload_n 0, 1) := by decide +kernel
theorem dX11_drop_20 : decode cX11_drop 20 = .ok (.dup, 1) := by decide +kernel
theorem dX11_drop_21 : decode cX11_drop 21 = .ok (.getfield 74, 3) := by decide +kernel
theorem dX11_drop_24 : decode cX11_drop 24 = .ok (.iload_n 1, 1) := by decide +kernel
theorem dX11_drop_25 : decode cX11_drop 25 = .ok (.isub, 1) := by decide +kernel
theorem dX11_drop_26 : decode cX11_drop 26 = .ok (.putfield 74, 3) := by decide +kernel
theorem dX11_drop_29 : decode cX11_drop 29 = .ok (.aload_n 0, 1) := by decide +kernel
theorem dX11_drop_30 : decode cX11_drop 30 = .ok (.iconst 0, 1) := by decide +kernel
theorem dX11_drop_31 : decode cX11_drop 31 = .ok (.putfield 77, 3) := by decide +kernel
theorem dX11_drop_34 : decode cX11_drop 34 = .ok (.aload_n 0, 1) := by decide +kernel
theorem dX11_drop_35 : decode cX11_drop 35 = .ok (.getfield 74, 3) := by decide +kernel
theorem dX11_drop_38 : decode cX11_drop 38 = .ok (.ireturn, 1) := by decide +kernel
theorem dX11_law_0 : decode cX11_law 0 = .ok (.aload_n 0, 1) := by decide +kernel
theorem dX11_law_1 : decode cX11_law 1 = .ok (.iconst 0, 1) := by decide +kernel
theorem dX11_law_2 : decode cX11_law 2 = .ok (.putfield 71, 3) := by decide +kernel
theorem dX11_law_5 : decode cX11_law 5 = .ok (.iload_n 1, 1) := by decide +kernel
theorem dX11_law_6 : decode cX11_law 6 = .ok (.iconst 1, 1) := by decide +kernel
theorem dX11_law_7 : decode cX11_law 7 = .ok (.iconst 2, 1) := by decide +kernel
theorem dX11_law_8 : decode cX11_law 8 = .ok (.invokestatic 81, 3) := by decide +kernel
theorem dX11_law_11 : decode cX11_law 11 = .ok (.ifCond .ne 5, 3) := by decide +kernel
theorem dX11_law_14 : decode cX11_law 14 = .ok (.iconst 0, 1) := by decide +kernel
theorem dX11_law_15 : decode cX11_law 15 = .ok (.ireturn, 1) := by decide +kernel
theorem dX11_law_16 : decode cX11_law 16 = .ok (.iload_n 1, 1) := by decide +kernel
theorem dX11_law_17 : decode cX11_law 17 = .ok (.iconst 1, 1) := by decide +kernel
theorem dX11_law_18 : decode cX11_law 18 = .ok (.if_icmp .ne 11, 3) := by decide +kernel
theorem dX11_law_21 : decode cX11_law 21 = .ok (.aload_n 0, 1) := by decide +kernel
theorem dX11_law_22 : decode cX11_law 22 = .ok (.iload_n 2, 1) := by decide +kernel
theorem dX11_law_23 : decode cX11_law 23 = .ok (.putfield 90, 3) := by decide +kernel
theorem dX11_law_26 : decode cX11_law 26 = .ok (.goto 8, 3) := by decide +kernel
theorem dX11_law_29 : decode cX11_law 29 = .ok (.aload_n 0, 1) := by decide +kernel
theorem dX11_law_30 : decode cX11_law 30 = .ok (.iload_n 2, 1) := by decide +kernel
theorem dX11_law_31 : decode cX11_law 31 = .ok (.putfield 93, 3) := by decide +kernel
theorem dX11_law_34 : decode cX11_law 34 = .ok (.iconst 1, 1) := by decide +kernel
theorem dX11_law_35 : decode cX11_law 35 = .ok (.ireturn, 1) := by decide +kernel
theorem dX11_set_0 : decode cX11_set 0 = .ok (.aload_n 0, 1) := by decide +kernel
theorem dX11_set_1 : decode cX11_set 1 = .ok (.iconst 0, 1) := by decide +kernel
theorem dX11_set_2 : decode cX11_set 2 = .ok (.putfield 71, 3) := by decide +kernel
theorem dX11_set_5 : decode cX11_set 5 = .ok (.iload_n 1, 1) := by decide +kernel
theorem dX11_set_6 : decode cX11_set 6 = .ok (.iconst 0, 1) := by decide +kernel
theorem dX11_set_7 : decode cX11_set 7 = .ok (.iconst 1, 1) := by decide +kernel
theorem dX11_set_8 : decode cX11_set 8 = .ok (.invokestatic 81, 3) := by decide +kernel
theorem dX11_set_11 : decode cX11_set 11 = .ok (.ifCond .eq 14, 3) := by decide +kernel
theorem dX11_set_14 : decode cX11_set 14 = .ok (.iload_n 2, 1) := by decide +kernel
theorem dX11_set_15 : decode cX11_set 15 = .ok (.iconst 0, 1) := by decide +kernel
theorem dX11_set_16 : decode cX11_set 16 = .ok (.sipush 1000, 3) := by decide +kernel
theorem dX11_set_19 : decode cX11_set 19 = .ok (.invokestatic 81, 3) := by decide +kernel
theorem dX11_set_22 : decode cX11_set 22 = .ok (.ifCond .ne 5, 3) := by decide +kernel
theorem dX11_set_25 : decode cX11_set 25 = .ok (.iconst (-1), 1) := by decide +kernel
theorem dX11_set_26 : decode cX11_set 26 = .ok (.ireturn, 1) := by decide +kernel
theorem dX11_set_27 : decode cX11_set 27 = .ok (.iload_n 1, 1) := by decide +kernel
theorem dX11_set_28 : decode cX11_set 28 = .ok (.ifCond .ne 10, 3) := by decide +kernel
theorem dX11_set_31 : decode cX11_set 31 = .ok (.aload_n 0, 1) := by decide +kernel
theorem dX11_set_32 : decode cX11_set 32 = .ok (.getfield 16, 3) := by decide +kernel
theorem dX11_set_35 : decode cX11_set 35 = .ok (.goto 7, 3) := by decide +kernel
theorem dX11_set_38 : decode cX11_set 38 = .ok (.aload_n 0, 1) := by decide +kernel
theorem dX11_set_39 : decode cX11_set 39 = .ok (.getfield 20, 3) := by decide +kernel
theorem dX11_set_42 : decode cX11_set 42 = .ok (.istore_n 3, 1) := by decide +kernel
theorem dX11_set_43 : decode cX11_set 43 = .ok (.iload_n 1, 1) := by decide +kernel
theorem dX11_set_44 : decode cX11_set 44 = .ok (.ifCond .ne 11, 3) := by decide +kernel
theorem dX11_set_47 : decode cX11_set 47 = .ok (.aload_n 0, 1) := by decide +kernel
theorem dX11_set_48 : decode cX11_set 48 = .ok (.iload_n 2, 1) := by decide +kernel
theorem dX11_set_49 : decode cX11_set 49 = .ok (.putfield 16, 3) := by decide +kernel
theorem dX11_set_52 : decode cX11_set 52 = .ok (.goto 8, 3) := by decide +kernel
theorem dX11_set_55 : decode cX11_set 55 = .ok (.aload_n 0, 1) := by decide +kernel
theorem dX11_set_56 : decode cX11_set 56 = .ok (.iload_n 2, 1) := by decide +kernel
theorem dX11_set_57 : decode cX11_set 57 = .ok (.putfield 20, 3) := by decide +kernel
theorem dX11_set_60 : decode cX11_set 60 = .ok (.iload_n 3, 1) := by decide +kernel
theorem dX11_set_61 : decode cX11_set 61 = .ok (.ireturn, 1) := by decide +kernel
theorem dX11_nextKey_0 : decode cX11_nextKey 0 = .ok (.iload_n 1, 1) := by decide +kernel
theorem dX11_nextKey_1 : decode cX11_nextKey 1 = .ok (.istore_n 2, 1) := by decide +kernel
theorem dX11_nextKey_2 : decode cX11_nextKey 2 = .ok (.iload_n 2, 1) := by decide +kernel
theorem dX11_nextKey_3 : decode cX11_nextKey 3 = .ok (.bipush 64, 2) := by decide +kernel
theorem dX11_nextKey_5 : decode cX11_nextKey 5 = .ok (.if_icmp .ge 20, 3) := by decide +kernel
theorem dX11_nextKey_8 : decode cX11_nextKey 8 = .ok (.aload_n 0, 1) := by decide +kernel
theorem dX11_nextKey_9 : decode cX11_nextKey 9 = .ok (.getfield 59, 3) := by decide +kernel
theorem dX11_nextKey_12 : decode cX11_nextKey 12 = .ok (.iload_n 2, 1) := by decide +kernel
theorem dX11_nextKey_13 : decode cX11_nextKey 13 = .ok (.iaload, 1) := by decide +kernel
theorem dX11_nextKey_14 : decode cX11_nextKey 14 = .ok (.ifCond .le 5, 3) := by decide +kernel
theorem dX11_nextKey_17 : decode cX11_nextKey 17 = .ok (.iload_n 2, 1) := by decide +kernel
theorem dX11_nextKey_18 : decode cX11_nextKey 18 = .ok (.ireturn, 1) := by decide +kernel
theorem dX11_nextKey_19 : decode cX11_nextKey 19 = .ok (.iinc 2 1, 3) := by decide +kernel
theorem dX11_nextKey_22 : decode cX11_nextKey 22 = .ok (.goto (-20), 3) := by decide +kernel
theorem dX11_nextKey_25 : decode cX11_nextKey 25 = .ok (.iconst (-1), 1) := by decide +kernel
theorem dX11_nextKey_26 : decode cX11_nextKey 26 = .ok (.ireturn, 1) := by decide +kernel
theorem dX11_placeIn_0 : decode cX11_placeIn 0 = .ok (.iconst 0, 1) := by decide +kernel
theorem dX11_placeIn_1 : decode cX11_placeIn 1 = .ok (.istore_n 3, 1) := by decide +kernel
theorem dX11_placeIn_2 : decode cX11_placeIn 2 = .ok (.iload_n 3, 1) := by decide +kernel
theorem dX11_placeIn_3 : decode cX11_placeIn 3 = .ok (.iload_n 1, 1) := by decide +kernel
theorem dX11_placeIn_4 : decode cX11_placeIn 4 = .ok (.if_icmp .ge 18, 3) := by decide +kernel
theorem dX11_placeIn_7 : decode cX11_placeIn 7 = .ok (.aload_n 0, 1) := by decide +kernel
theorem dX11_placeIn_8 : decode cX11_placeIn 8 = .ok (.iload_n 3, 1) := by decide +kernel
theorem dX11_placeIn_9 : decode cX11_placeIn 9 = .ok (.iaload, 1) := by decide +kernel
theorem dX11_placeIn_10 : decode cX11_placeIn 10 = .ok (.iload_n 2, 1) := by decide +kernel
theorem dX11_placeIn_11 : decode cX11_placeIn 11 = .ok (.if_icmp .ne 5, 3) := by decide +kernel
theorem dX11_placeIn_14 : decode cX11_placeIn 14 = .ok (.iload_n 3, 1) := by decide +kernel
theorem dX11_placeIn_15 : decode cX11_placeIn 15 = .ok (.ireturn, 1) := by decide +kernel
theorem dX11_placeIn_16 : decode cX11_placeIn 16 = .ok (.iinc 3 1, 3) := by decide +kernel
theorem dX11_placeIn_19 : decode cX11_placeIn 19 = .ok (.goto (-17), 3) := by decide +kernel
theorem dX11_placeIn_22 : decode cX11_placeIn 22 = .ok (.iconst (-1), 1) := by decide +kernel
theorem dX11_placeIn_23 : decode cX11_placeIn 23 = .ok (.ireturn, 1) := by decide +kernel
theorem dX11_takeOut_0 : decode cX11_takeOut 0 = .ok (.iload_n 2, 1) := by decide +kernel
theorem dX11_takeOut_1 : decode cX11_takeOut 1 = .ok (.istore_n 3, 1) := by decide +kernel
theorem dX11_takeOut_2 : decode cX11_takeOut 2 = .ok (.iload_n 3, 1) := by decide +kernel
theorem dX11_takeOut_3 : decode cX11_takeOut 3 = .ok (.iload_n 1, 1) := by decide +kernel
theorem dX11_takeOut_4 : decode cX11_takeOut 4 = .ok (.iconst 1, 1) := by decide +kernel
theorem dX11_takeOut_5 : decode cX11_takeOut 5 = .ok (.isub, 1) := by decide +kernel
theorem dX11_takeOut_6 : decode cX11_takeOut 6 = .ok (.if_icmp .ge 17, 3) := by decide +kernel
theorem dX11_takeOut_9 : decode cX11_takeOut 9 = .ok (.aload_n 0, 1) := by decide +kernel
theorem dX11_takeOut_10 : decode cX11_takeOut 10 = .ok (.iload_n 3, 1) := by decide +kernel
theorem dX11_takeOut_11 : decode cX11_takeOut 11 = .ok (.aload_n 0, 1) := by decide +kernel
theorem dX11_takeOut_12 : decode cX11_takeOut 12 = .ok (.iload_n 3, 1) := by decide +kernel
theorem dX11_takeOut_13 : decode cX11_takeOut 13 = .ok (.iconst 1, 1) := by decide +kernel
theorem dX11_takeOut_14 : decode cX11_takeOut 14 = .ok (.iadd, 1) := by decide +kernel
theorem dX11_takeOut_15 : decode cX11_takeOut 15 = .ok (.iaload, 1) := by decide +kernel
theorem dX11_takeOut_16 : decode cX11_takeOut 16 = .ok (.iastore, 1) := by decide +kernel
theorem dX11_takeOut_17 : decode cX11_takeOut 17 = .ok (.iinc 3 1, 3) := by decide +kernel
theorem dX11_takeOut_20 : decode cX11_takeOut 20 = .ok (.goto (-18), 3) := by decide +kernel
theorem dX11_takeOut_23 : decode cX11_takeOut 23 = .ok (.return_, 1) := by decide +kernel
theorem dX11_grow_0 : decode cX11_grow 0 = .ok (.aload_n 0, 1) := by decide +kernel
theorem dX11_grow_1 : decode cX11_grow 1 = .ok (.getfield 96, 3) := by decide +kernel
theorem dX11_grow_4 : decode cX11_grow 4 = .ok (.aload_n 0, 1) := by decide +kernel
theorem dX11_grow_5 : decode cX11_grow 5 = .ok (.getfield 47, 3) := by decide +kernel
theorem dX11_grow_8 : decode cX11_grow 8 = .ok (.iload_n 1, 1) := by decide +kernel
theorem dX11_grow_9 : decode cX11_grow 9 = .ok (.iaload, 1) := by decide +kernel
theorem dX11_grow_10 : decode cX11_grow 10 = .ok (.if_icmp .ge 5, 3) := by decide +kernel
theorem dX11_grow_13 : decode cX11_grow 13 = .ok (.iconst 0, 1) := by decide +kernel
theorem dX11_grow_14 : decode cX11_grow 14 = .ok (.ireturn, 1) := by decide +kernel
theorem dX11_grow_15 : decode cX11_grow 15 = .ok (.aload_n 0, 1) := by decide +kernel
theorem dX11_grow_16 : decode cX11_grow 16 = .ok (.getfield 47, 3) := by decide +kernel
theorem dX11_grow_19 : decode cX11_grow 19 = .ok (.iload_n 1, 1) := by decide +kernel
theorem dX11_grow_20 : decode cX11_grow 20 = .ok (.dup2, 1) := by decide +kernel
theorem dX11_grow_21 : decode cX11_grow 21 = .ok (.iaload, 1) := by decide +kernel
theorem dX11_grow_22 : decode cX11_grow 22 = .ok (.iconst 2, 1) := by decide +kernel
theorem dX11_grow_23 : decode cX11_grow 23 = .ok (.imul, 1) := by decide +kernel
theorem dX11_grow_24 : decode cX11_grow 24 = .ok (.iastore, 1) := by decide +kernel
theorem dX11_grow_25 : decode cX11_grow 25 = .ok (.aload_n 0, 1) := by decide +kernel
theorem dX11_grow_26 : decode cX11_grow 26 = .ok (.getfield 96, 3) := by decide +kernel
theorem dX11_grow_29 : decode cX11_grow 29 = .ok (.ireturn, 1) := by decide +kernel
theorem dX11_find_0 : decode cX11_find 0 = .ok (.aload_n 1, 1) := by decide +kernel
theorem dX11_find_1 : decode cX11_find 1 = .ok (.aload_n 0, 1) := by decide +kernel
theorem dX11_find_2 : decode cX11_find 2 = .ok (.getfield 96, 3) := by decide +kernel
theorem dX11_find_5 : decode cX11_find 5 = .ok (.iload_n 2, 1) := by decide +kernel
theorem dX11_find_6 : decode cX11_find 6 = .ok (.invokestatic 99, 3) := by decide +kernel
theorem dX11_find_9 : decode cX11_find 9 = .ok (.istore_n 3, 1) := by decide +kernel
theorem dX11_find_10 : decode cX11_find 10 = .ok (.iload_n 3, 1) := by decide +kernel
theorem dX11_find_11 : decode cX11_find 11 = .ok (.iconst (-1), 1) := by decide +kernel
theorem dX11_find_12 : decode cX11_find 12 = .ok (.if_icmp .ne 10, 3) := by decide +kernel
theorem dX11_find_15 : decode cX11_find 15 = .ok (.aload_n 0, 1) := by decide +kernel
theorem dX11_find_16 : decode cX11_find 16 = .ok (.getfield 96, 3) := by decide +kernel
theorem dX11_find_19 : decode cX11_find 19 = .ok (.goto 6, 3) := by decide +kernel
theorem dX11_find_22 : decode cX11_find 22 = .ok (.iload_n 3, 1) := by decide +kernel
theorem dX11_find_23 : decode cX11_find 23 = .ok (.iconst 1, 1) := by decide +kernel
theorem dX11_find_24 : decode cX11_find 24 = .ok (.iadd, 1) := by decide +kernel
theorem dX11_find_25 : decode cX11_find 25 = .ok (.ireturn, 1) := by decide +kernel
theorem dX11_onRow_0 : decode cX11_onRow 0 = .ok (.aload_n 0, 1) := by decide +kernel
theorem dX11_onRow_1 : decode cX11_onRow 1 = .ok (.getfield 38, 3) := by decide +kernel
theorem dX11_onRow_4 : decode cX11_onRow 4 = .ok (.aload_n 0, 1) := by decide +kernel
theorem dX11_onRow_5 : decode cX11_onRow 5 = .ok (.getfield 96, 3) := by decide +kernel
theorem dX11_onRow_8 : decode cX11_onRow 8 = .ok (.iload_n 2, 1) := by decide +kernel
theorem dX11_onRow_9 : decode cX11_onRow 9 = .ok (.invokestatic 99, 3) := by decide +kernel
theorem dX11_onRow_12 : decode cX11_onRow 12 = .ok (.istore_n 3, 1) := by decide +kernel
theorem dX11_onRow_13 : decode cX11_onRow 13 = .ok (.iload_n 1, 1) := by decide +kernel
theorem dX11_onRow_14 : decode cX11_onRow 14 = .ok (.tableswitch 103 0 6 #[42, 64, 74, 103, 103, 103, 101], 42) := by decide +kernel
theorem dX11_onRow_56 : decode cX11_onRow 56 = .ok (.aload_n 0, 1) := by decide +kernel
theorem dX11_onRow_57 : decode cX11_onRow 57 = .ok (.iconst 0, 1) := by decide +kernel
theorem dX11_onRow_58 : decode cX11_onRow 58 = .ok (.invokevirtual 103, 3) := by decide +kernel
theorem dX11_onRow_61 : decode cX11_onRow 61 = .ok (.iconst 1, 1) := by decide +kernel
theorem dX11_onRow_62 : decode cX11_onRow 62 = .ok (.iadd, 1) := by decide +kernel
theorem dX11_onRow_63 : decode cX11_onRow 63 = .ok (.istore 4, 2) := by decide +kernel
theorem dX11_onRow_65 : decode cX11_onRow 65 = .ok (.aload_n 0, 1) := by decide +kernel
theorem dX11_onRow_66 : decode cX11_onRow 66 = .ok (.getfield 38, 3) := by decide +kernel
theorem dX11_onRow_69 : decode cX11_onRow 69 = .ok (.aload_n 0, 1) := by decide +kernel
theorem dX11_onRow_70 : decode cX11_onRow 70 = .ok (.getfield 96, 3) := by decide +kernel
theorem dX11_onRow_73 : decode cX11_onRow 73 = .ok (.iload_n 2, 1) := by decide +kernel
theorem dX11_onRow_74 : decode cX11_onRow 74 = .ok (.iastore, 1) := by decide +kernel
theorem dX11_onRow_75 : decode cX11_onRow 75 = .ok (.iload 4, 2) := by decide +kernel
theorem dX11_onRow_77 : decode cX11_onRow 77 = .ok (.ireturn, 1) := by decide +kernel
theorem dX11_onRow_78 : decode cX11_onRow 78 = .ok (.aload_n 0, 1) := by decide +kernel
theorem dX11_onRow_79 : decode cX11_onRow 79 = .ok (.aload_n 0, 1) := by decide +kernel
theorem dX11_onRow_80 : decode cX11_onRow 80 = .ok (.getfield 38, 3) := by decide +kernel
theorem dX11_onRow_83 : decode cX11_onRow 83 = .ok (.iload_n 2, 1) := by decide +kernel
theorem dX11_onRow_84 : decode cX11_onRow 84 = .ok (.invokevirtual 107, 3) := by decide +kernel
theorem dX11_onRow_87 : decode cX11_onRow 87 = .ok (.ireturn, 1) := by decide +kernel
theorem dX11_onRow_88 : decode cX11_onRow 88 = .ok (.iload_n 3, 1) := by decide +kernel
theorem dX11_onRow_89 : decode cX11_onRow 89 = .ok (.iconst (-1), 1) := by decide +kernel
theorem dX11_onRow_90 : decode cX11_onRow 90 = .ok (.if_icmp .ne 8, 3) := by decide +kernel
theorem dX11_onRow_93 : decode cX11_onRow 93 = .ok (.aload_n 0, 1) := by decide +kernel
theorem dX11_onRow_94 : decode cX11_onRow 94 = .ok (.getfield 96, 3) := by decide +kernel
theorem dX11_onRow_97 : decode cX11_onRow 97 = .ok (.ireturn, 1) := by decide +kernel
theorem dX11_onRow_98 : decode cX11_onRow 98 = .ok (.aload_n 0, 1) := by decide +kernel
theorem dX11_onRow_99 : decode cX11_onRow 99 = .ok (.getfield 38, 3) := by decide +kernel
theorem dX11_onRow_102 : decode cX11_onRow 102 = .ok (.aload_n 0, 1) := by decide +kernel
theorem dX11_onRow_103 : decode cX11_onRow 103 = .ok (.getfield 96, 3) := by decide +kernel
theorem dX11_onRow_106 : decode cX11_onRow 106 = .ok (.iload_n 3, 1) := by decide +kernel
theorem dX11_onRow_107 : decode cX11_onRow 107 = .ok (.invokestatic 111, 3) := by decide +kernel
theorem dX11_onRow_110 : decode cX11_onRow 110 = .ok (.aload_n 0, 1) := by decide +kernel
theorem dX11_onRow_111 : decode cX11_onRow 111 = .ok (.getfield 96, 3) := by decide +kernel
theorem dX11_onRow_114 : decode cX11_onRow 114 = .ok (.ireturn, 1) := by decide +kernel
theorem dX11_onRow_115 : decode cX11_onRow 115 = .ok (.iconst 1, 1) := by decide +kernel
theorem dX11_onRow_116 : decode cX11_onRow 116 = .ok (.ireturn, 1) := by decide +kernel
theorem dX11_onRow_117 : decode cX11_onRow 117 = .ok (.aload_n 0, 1) := by decide +kernel
theorem dX11_onRow_118 : decode cX11_onRow 118 = .ok (.getfield 96, 3) := by decide +kernel
theorem dX11_onRow_121 : decode cX11_onRow 121 = .ok (.ireturn, 1) := by decide +kernel
theorem dX11_halving_0 : decode cX11_halving 0 = .ok (.iconst 0, 1) := by decide +kernel
theorem dX11_halving_1 : decode cX11_halving 1 = .ok (.istore_n 2, 1) := by decide +kernel
theorem dX11_halving_2 : decode cX11_halving 2 = .ok (.aload_n 0, 1) := by decide +kernel
theorem dX11_halving_3 : decode cX11_halving 3 = .ok (.getfield 96, 3) := by decide +kernel
theorem dX11_halving_6 : decode cX11_halving 6 = .ok (.istore_n 3, 1) := by decide +kernel
theorem dX11_halving_7 : decode cX11_halving 7 = .ok (.iconst 0, 1) := by decide +kernel
theorem dX11_halving_8 : decode cX11_halving 8 = .ok (.istore 4, 2) := by decide +kernel
theorem dX11_halving_10 : decode cX11_halving 10 = .ok (.iload_n 2, 1) := by decide +kernel
theorem dX11_halving_11 : decode cX11_halving 11 = .ok (.iload_n 3, 1) := by decide +kernel
theorem dX11_halving_12 : decode cX11_halving 12 = .ok (.if_icmp .ge 38, 3) := by decide +kernel
theorem dX11_halving_15 : decode cX11_halving 15 = .ok (.iload_n 2, 1) := by decide +kernel
theorem dX11_halving_16 : decode cX11_halving 16 = .ok (.iload_n 3, 1) := by decide +kernel
theorem dX11_halving_17 : decode cX11_halving 17 = .ok (.iadd, 1) := by decide +kernel
theorem dX11_halving_18 : decode cX11_halving 18 = .ok (.iconst 2, 1) := by decide +kernel
theorem dX11_halving_19 : decode cX11_halving 19 = .ok (.idiv, 1) := by decide +kernel
theorem dX11_halving_20 : decode cX11_halving 20 = .ok (.istore 5, 2) := by decide +kernel
theorem dX11_halving_22 : decode cX11_halving 22 = .ok (.iinc 4 1, 3) := by decide +kernel
theorem dX11_halving_25 : decode cX11_halving 25 = .ok (.aload_n 0, 1) := by decide +kernel
theorem dX11_halving_26 : decode cX11_halving 26 = .ok (.getfield 41, 3) := by decide +kernel
theorem dX11_halving_29 : decode cX11_halving 29 = .ok (.iload 5, 2) := by decide +kernel
theorem dX11_halving_31 : decode cX11_halving 31 = .ok (.iaload, 1) := by decide +kernel
theorem dX11_halving_32 : decode cX11_halving 32 = .ok (.iload_n 1, 1) := by decide +kernel
theorem dX11_halving_33 : decode cX11_halving 33 = .ok (.if_icmp .ge 11, 3) := by decide +kernel
theorem dX11_halving_36 : decode cX11_halving 36 = .ok (.iload 5, 2) := by decide +kernel
theorem dX11_halving_38 : decode cX11_halving 38 = .ok (.iconst 1, 1) := by decide +kernel
theorem dX11_halving_39 : decode cX11_halving 39 = .ok (.iadd, 1) := by decide +kernel
theorem dX11_halving_40 : decode cX11_halving 40 = .ok (.istore_n 2, 1) := by decide +kernel
theorem dX11_halving_41 : decode cX11_halving 41 = .ok (.goto 6, 3) := by decide +kernel
theorem dX11_halving_44 : decode cX11_halving 44 = .ok (.iload 5, 2) := by decide +kernel
theorem dX11_halving_46 : decode cX11_halving 46 = .ok (.istore_n 3, 1) := by decide +kernel
theorem dX11_halving_47 : decode cX11_halving 47 = .ok (.goto (-37), 3) := by decide +kernel
theorem dX11_halving_50 : decode cX11_halving 50 = .ok (.aload_n 0, 1) := by decide +kernel
theorem dX11_halving_51 : decode cX11_halving 51 = .ok (.iload_n 2, 1) := by decide +kernel
theorem dX11_halving_52 : decode cX11_halving 52 = .ok (.putfield 115, 3) := by decide +kernel
theorem dX11_halving_55 : decode cX11_halving 55 = .ok (.iload 4, 2) := by decide +kernel
theorem dX11_halving_57 : decode cX11_halving 57 = .ok (.ireturn, 1) := by decide +kernel
theorem dX11_onSorted_0 : decode cX11_onSorted 0 = .ok (.iconst 0, 1) := by decide +kernel
theorem dX11_onSorted_1 : decode cX11_onSorted 1 = .ok (.istore_n 3, 1) := by decide +kernel
theorem dX11_onSorted_2 : decode cX11_onSorted 2 = .ok (.iload_n 1, 1) := by decide +kernel
theorem dX11_onSorted_3 : decode cX11_onSorted 3 = .ok (.tableswitch 211 0 6 #[41, 114, 139, 202, 207, 114, 209], 41) := by decide +kernel
theorem dX11_onSorted_44 : decode cX11_onSorted 44 = .ok (.aload_n 0, 1) := by decide +kernel
theorem dX11_onSorted_45 : decode cX11_onSorted 45 = .ok (.iconst 1, 1) := by decide +kernel
theorem dX11_onSorted_46 : decode cX11_onSorted 46 = .ok (.invokevirtual 103, 3) := by decide +kernel
theorem dX11_onSorted_49 : decode cX11_onSorted 49 = .ok (.aload_n 0, 1) := by decide +kernel
theorem dX11_onSorted_50 : decode cX11_onSorted 50 = .ok (.iload_n 2, 1) := by decide +kernel
theorem dX11_onSorted_51 : decode cX11_onSorted 51 = .ok (.invokevirtual 118, 3) := by decide +kernel
theorem dX11_onSorted_54 : decode cX11_onSorted 54 = .ok (.iadd, 1) := by decide +kernel
theorem dX11_onSorted_55 : decode cX11_onSorted 55 = .ok (.istore_n 3, 1) := by decide +kernel
theorem dX11_onSorted_56 : decode cX11_onSorted 56 = .ok (.aload_n 0, 1) := by decide +kernel
theorem dX11_onSorted_57 : decode cX11_onSorted 57 = .ok (.getfield 96, 3) := by decide +kernel
theorem dX11_onSorted_60 : decode cX11_onSorted 60 = .ok (.istore 4, 2) := by decide +kernel
theorem dX11_onSorted_62 : decode cX11_onSorted 62 = .ok (.iload 4, 2) := by decide +kernel
theorem dX11_onSorted_64 : decode cX11_onSorted 64 = .ok (.aload_n 0, 1) := by decide +kernel
theorem dX11_onSorted_65 : decode cX11_onSorted 65 = .ok (.getfield 115, 3) := by decide +kernel
theorem dX11_onSorted_68 : decode cX11_onSorted 68 = .ok (.if_icmp .le 25, 3) := by decide +kernel
theorem dX11_onSorted_71 : decode cX11_onSorted 71 = .ok (.aload_n 0, 1) := by decide +kernel
theorem dX11_onSorted_72 : decode cX11_onSorted 72 = .ok (.getfield 41, 3) := by decide +kernel
theorem dX11_onSorted_75 : decode cX11_onSorted 75 = .ok (.iload 4, 2) := by decide +kernel
theorem dX11_onSorted_77 : decode cX11_onSorted 77 = .ok (.aload_n 0, 1) := by decide +kernel
theorem dX11_onSorted_78 : decode cX11_onSorted 78 = .ok (.getfield 41, 3) := by decide +kernel
theorem dX11_onSorted_81 : decode cX11_onSorted 81 = .ok (.iload 4, 2) := by decide +kernel
theorem dX11_onSorted_83 : decode cX11_onSorted 83 = .ok (.iconst 1, 1) := by decide +kernel
theorem dX11_onSorted_84 : decode cX11_onSorted 84 = .ok (.isub, 1) := by decide +kernel
theorem dX11_onSorted_85 : decode cX11_onSorted 85 = .ok (.iaload, 1) := by decide +kernel
theorem dX11_onSorted_86 : decode cX11_onSorted 86 = .ok (.iastore, 1) := by decide +kernel
theorem dX11_onSorted_87 : decode cX11_onSorted 87 = .ok (.iinc 4 (-1), 3) := by decide +kernel
theorem dX11_onSorted_90 : decode cX11_onSorted 90 = .ok (.goto (-28), 3) := by decide +kernel
theorem dX11_onSorted_93 : decode cX11_onSorted 93 = .ok (.aload_n 0, 1) := by decide +kernel
theorem dX11_onSorted_94 : decode cX11_onSorted 94 = .ok (.getfield 41, 3) := by decide +kernel
theorem dX11_onSorted_97 : decode cX11_onSorted 97 = .ok (.aload_n 0, 1) := by decide +kernel
theorem dX11_onSorted_98 : decode cX11_onSorted 98 = .ok (.getfield 115, 3) := by decide +kernel
theorem dX11_onSorted_101 : decode cX11_onSorted 101 = .ok (.iload_n 2, 1) := by decide +kernel
theorem dX11_onSorted_102 : decode cX11_onSorted 102 = .ok (.iastore, 1) := by decide +kernel
theorem dX11_onSorted_103 : decode cX11_onSorted 103 = .ok (.iload_n 3, 1) := by decide +kernel
theorem dX11_onSorted_104 : decode cX11_onSorted 104 = .ok (.aload_n 0, 1) := by decide +kernel
theorem dX11_onSorted_105 : decode cX11_onSorted 105 = .ok (.getfield 96, 3) := by decide +kernel
theorem dX11_onSorted_108 : decode cX11_onSorted 108 = .ok (.iadd, 1) := by decide +kernel
theorem dX11_onSorted_109 : decode cX11_onSorted 109 = .ok (.aload_n 0, 1) := by decide +kernel
theorem dX11_onSorted_110 : decode cX11_onSorted 110 = .ok (.getfield 115, 3) := by decide +kernel
theorem dX11_onSorted_113 : decode cX11_onSorted 113 = .ok (.isub, 1) := by decide +kernel
theorem dX11_onSorted_114 : decode cX11_onSorted 114 = .ok (.iconst 1, 1) := by decide +kernel
theorem dX11_onSorted_115 : decode cX11_onSorted 115 = .ok (.iadd, 1) := by decide +kernel
theorem dX11_onSorted_116 : decode cX11_onSorted 116 = .ok (.ireturn, 1) := by decide +kernel
theorem dX11_onSorted_117 : decode cX11_onSorted 117 = .ok (.aload_n 0, 1) := by decide +kernel
theorem dX11_onSorted_118 : decode cX11_onSorted 118 = .ok (.iload_n 2, 1) := by decide +kernel
theorem dX11_onSorted_119 : decode cX11_onSorted 119 = .ok (.invokevirtual 118, 3) := by decide +kernel
theorem dX11_onSorted_122 : decode cX11_onSorted 122 = .ok (.istore_n 3, 1) := by decide +kernel
theorem dX11_onSorted_123 : decode cX11_onSorted 123 = .ok (.aload_n 0, 1) := by decide +kernel
theorem dX11_onSorted_124 : decode cX11_onSorted 124 = .ok (.getfield 115, 3) := by decide +kernel
theorem dX11_onSorted_127 : decode cX11_onSorted 127 = .ok (.aload_n 0, 1) := by decide +kernel
theorem dX11_onSorted_128 : decode cX11_onSorted 128 = .ok (.getfield 96, 3) := by decide +kernel
theorem dX11_onSorted_131 : decode cX11_onSorted 131 = .ok (.if_icmp .ge 9, 3) := by decide +kernel
theorem dX11_onSorted_134 : decode cX11_onSorted 134 = .ok (.iload_n 3, 1) := by decide +kernel
theorem dX11_onSorted_135 : decode cX11_onSorted 135 = .ok (.iconst 1, 1) := by decide +kernel
theorem dX11_onSorted_136 : decode cX11_onSorted 136 = .ok (.iadd, 1) := by decide +kernel
theorem dX11_onSorted_137 : decode cX11_onSorted 137 = .ok (.goto 4, 3) := by decide +kernel
theorem dX11_onSorted_140 : decode cX11_onSorted 140 = .ok (.iload_n 3, 1) := by decide +kernel
theorem dX11_onSorted_141 : decode cX11_onSorted 141 = .ok (.ireturn, 1) := by decide +kernel
theorem dX11_onSorted_142 : decode cX11_onSorted 142 = .ok (.aload_n 0, 1) := by decide +kernel
theorem dX11_onSorted_143 : decode cX11_onSorted 143 = .ok (.iload_n 2, 1) := by decide +kernel
theorem dX11_onSorted_144 : decode cX11_onSorted 144 = .ok (.invokevirtual 118, 3) := by decide +kernel
theorem dX11_onSorted_147 : decode cX11_onSorted 147 = .ok (.istore_n 3, 1) := by decide +kernel
theorem dX11_onSorted_148 : decode cX11_onSorted 148 = .ok (.aload_n 0, 1) := by decide +kernel
theorem dX11_onSorted_149 : decode cX11_onSorted 149 = .ok (.getfield 115, 3) := by decide +kernel
theorem dX11_onSorted_152 : decode cX11_onSorted 152 = .ok (.aload_n 0, 1) := by decide +kernel
theorem dX11_onSorted_153 : decode cX11_onSorted 153 = .ok (.getfield 96, 3) := by decide +kernel
theorem dX11_onSorted_156 : decode cX11_onSorted 156 = .ok (.if_icmp .ne 5, 3) := by decide +kernel
theorem dX11_onSorted_159 : decode cX11_onSorted 159 = .ok (.iload_n 3, 1) := by decide +kernel
theorem dX11_onSorted_160 : decode cX11_onSorted 160 = .ok (.ireturn, 1) := by decide +kernel
theorem dX11_onSorted_161 : decode cX11_onSorted 161 = .ok (.aload_n 0, 1) := by decide +kernel
theorem dX11_onSorted_162 : decode cX11_onSorted 162 = .ok (.getfield 41, 3) := by decide +kernel
theorem dX11_onSorted_165 : decode cX11_onSorted 165 = .ok (.aload_n 0, 1) := by decide +kernel
theorem dX11_onSorted_166 : decode cX11_onSorted 166 = .ok (.getfield 115, 3) := by decide +kernel
theorem dX11_onSorted_169 : decode cX11_onSorted 169 = .ok (.iaload, 1) := by decide +kernel
theorem dX11_onSorted_170 : decode cX11_onSorted 170 = .ok (.iload_n 2, 1) := by decide +kernel
theorem dX11_onSorted_171 : decode cX11_onSorted 171 = .ok (.if_icmp .eq 7, 3) := by decide +kernel
theorem dX11_onSorted_174 : decode cX11_onSorted 174 = .ok (.iload_n 3, 1) := by decide +kernel
theorem dX11_onSorted_175 : decode cX11_onSorted 175 = .ok (.iconst 1, 1) := by decide +kernel
theorem dX11_onSorted_176 : decode cX11_onSorted 176 = .ok (.iadd, 1) := by decide +kernel
theorem dX11_onSorted_177 : decode cX11_onSorted 177 = .ok (.ireturn, 1) := by decide +kernel
theorem dX11_onSorted_178 : decode cX11_onSorted 178 = .ok (.aload_n 0, 1) := by decide +kernel
theorem dX11_onSorted_179 : decode cX11_onSorted 179 = .ok (.getfield 41, 3) := by decide +kernel
theorem dX11_onSorted_182 : decode cX11_onSorted 182 = .ok (.aload_n 0, 1) := by decide +kernel
theorem dX11_onSorted_183 : decode cX11_onSorted 183 = .ok (.getfield 96, 3) := by decide +kernel
theorem dX11_onSorted_186 : decode cX11_onSorted 186 = .ok (.aload_n 0, 1) := by decide +kernel
theorem dX11_onSorted_187 : decode cX11_onSorted 187 = .ok (.getfield 115, 3) := by decide +kernel
theorem dX11_onSorted_190 : decode cX11_onSorted 190 = .ok (.invokestatic 111, 3) := by decide +kernel
theorem dX11_onSorted_193 : decode cX11_onSorted 193 = .ok (.iload_n 3, 1) := by decide +kernel
theorem dX11_onSorted_194 : decode cX11_onSorted 194 = .ok (.aload_n 0, 1) := by decide +kernel
theorem dX11_onSorted_195 : decode cX11_onSorted 195 = .ok (.getfield 96, 3) := by decide +kernel
theorem dX11_onSorted_198 : decode cX11_onSorted 198 = .ok (.iadd, 1) := by decide +kernel
theorem dX11_onSorted_199 : decode cX11_onSorted 199 = .ok (.aload_n 0, 1) := by decide +kernel
theorem dX11_onSorted_200 : decode cX11_onSorted 200 = .ok (.getfield 115, 3) := by decide +kernel
theorem dX11_onSorted_203 : decode cX11_onSorted 203 = .ok (.isub, 1) := by decide +kernel
theorem dX11_onSorted_204 : decode cX11_onSorted 204 = .ok (.ireturn, 1) := by decide +kernel
theorem dX11_onSorted_205 : decode cX11_onSorted 205 = .ok (.aload_n 0, 1) := by decide +kernel
theorem dX11_onSorted_206 : decode cX11_onSorted 206 = .ok (.getfield 96, 3) := by decide +kernel
theorem dX11_onSorted_209 : decode cX11_onSorted 209 = .ok (.ireturn, 1) := by decide +kernel
theorem dX11_onSorted_210 : decode cX11_onSorted 210 = .ok (.iconst 1, 1) := by decide +kernel
theorem dX11_onSorted_211 : decode cX11_onSorted 211 = .ok (.ireturn, 1) := by decide +kernel
theorem dX11_onSorted_212 : decode cX11_onSorted 212 = .ok (.iconst 0, 1) := by decide +kernel
theorem dX11_onSorted_213 : decode cX11_onSorted 213 = .ok (.ireturn, 1) := by decide +kernel
theorem dX11_onSorted_214 : decode cX11_onSorted 214 = .ok (.aload_n 0, 1) := by decide +kernel
theorem dX11_onSorted_215 : decode cX11_onSorted 215 = .ok (.iload_n 2, 1) := by decide +kernel
theorem dX11_onSorted_216 : decode cX11_onSorted 216 = .ok (.invokevirtual 118, 3) := by decide +kernel
theorem dX11_onSorted_219 : decode cX11_onSorted 219 = .ok (.aload_n 0, 1) := by decide +kernel
theorem dX11_onSorted_220 : decode cX11_onSorted 220 = .ok (.iload_n 2, 1) := by decide +kernel
theorem dX11_onSorted_221 : decode cX11_onSorted 221 = .ok (.iconst 1, 1) := by decide +kernel
theorem dX11_onSorted_222 : decode cX11_onSorted 222 = .ok (.iadd, 1) := by decide +kernel
theorem dX11_onSorted_223 : decode cX11_onSorted 223 = .ok (.invokevirtual 118, 3) := by decide +kernel
theorem dX11_onSorted_226 : decode cX11_onSorted 226 = .ok (.iadd, 1) := by decide +kernel
theorem dX11_onSorted_227 : decode cX11_onSorted 227 = .ok (.ireturn, 1) := by decide +kernel
theorem dX11_aheadIn_0 : decode cX11_aheadIn 0 = .ok (.iconst (-1), 1) := by decide +kernel
theorem dX11_aheadIn_1 : decode cX11_aheadIn 1 = .ok (.istore_n 2, 1) := by decide +kernel
theorem dX11_aheadIn_2 : decode cX11_aheadIn 2 = .ok (.iconst 0, 1) := by decide +kernel
theorem dX11_aheadIn_3 : decode cX11_aheadIn 3 = .ok (.istore_n 3, 1) := by decide +kernel
theorem dX11_aheadIn_4 : decode cX11_aheadIn 4 = .ok (.iload_n 3, 1) := by decide +kernel
theorem dX11_aheadIn_5 : decode cX11_aheadIn 5 = .ok (.aload_n 0, 1) := by decide +kernel
theorem dX11_aheadIn_6 : decode cX11_aheadIn 6 = .ok (.getfield 96, 3) := by decide +kernel
theorem dX11_aheadIn_9 : decode cX11_aheadIn 9 = .ok (.if_icmp .ge 41, 3) := by decide +kernel
theorem dX11_aheadIn_12 : decode cX11_aheadIn 12 = .ok (.aload_n 0, 1) := by decide +kernel
theorem dX11_aheadIn_13 : decode cX11_aheadIn 13 = .ok (.getfield 50, 3) := by decide +kernel
theorem dX11_aheadIn_16 : decode cX11_aheadIn 16 = .ok (.iload_n 3, 1) := by decide +kernel
theorem dX11_aheadIn_17 : decode cX11_aheadIn 17 = .ok (.iaload, 1) := by decide +kernel
theorem dX11_aheadIn_18 : decode cX11_aheadIn 18 = .ok (.iload_n 1, 1) := by decide +kernel
theorem dX11_aheadIn_19 : decode cX11_aheadIn 19 = .ok (.if_icmp .ne 25, 3) := by decide +kernel
theorem dX11_aheadIn_22 : decode cX11_aheadIn 22 = .ok (.iload_n 2, 1) := by decide +kernel
theorem dX11_aheadIn_23 : decode cX11_aheadIn 23 = .ok (.iconst (-1), 1) := by decide +kernel
theorem dX11_aheadIn_24 : decode cX11_aheadIn 24 = .ok (.if_icmp .eq 18, 3) := by decide +kernel
theorem dX11_aheadIn_27 : decode cX11_aheadIn 27 = .ok (.aload_n 0, 1) := by decide +kernel
theorem dX11_aheadIn_28 : decode cX11_aheadIn 28 = .ok (.getfield 53, 3) := by decide +kernel
theorem dX11_aheadIn_31 : decode cX11_aheadIn 31 = .ok (.iload_n 3, 1) := by decide +kernel
theorem dX11_aheadIn_32 : decode cX11_aheadIn 32 = .ok (.iaload, 1) := by decide +kernel
theorem dX11_aheadIn_33 : decode cX11_aheadIn 33 = .ok (.aload_n 0, 1) := by decide +kernel
theorem dX11_aheadIn_34 : decode cX11_aheadIn 34 = .ok (.getfield 53, 3) := by decide +kernel
theorem dX11_aheadIn_37 : decode cX11_aheadIn 37 = .ok (.iload_n 2, 1) := by decide +kernel
theorem dX11_aheadIn_38 : decode cX11_aheadIn 38 = .ok (.iaload, 1) := by decide +kernel
theorem dX11_aheadIn_39 : decode cX11_aheadIn 39 = .ok (.if_icmp .le 5, 3) := by decide +kernel
theorem dX11_aheadIn_42 : decode cX11_aheadIn 42 = .ok (.iload_n 3, 1) := by decide +kernel
theorem dX11_aheadIn_43 : decode cX11_aheadIn 43 = .ok (.istore_n 2, 1) := by decide +kernel
theorem dX11_aheadIn_44 : decode cX11_aheadIn 44 = .ok (.iinc 3 1, 3) := by decide +kernel
theorem dX11_aheadIn_47 : decode cX11_aheadIn 47 = .ok (.goto (-43), 3) := by decide +kernel
theorem dX11_aheadIn_50 : decode cX11_aheadIn 50 = .ok (.iload_n 2, 1) := by decide +kernel
theorem dX11_aheadIn_51 : decode cX11_aheadIn 51 = .ok (.iconst (-1), 1) := by decide +kernel
theorem dX11_aheadIn_52 : decode cX11_aheadIn 52 = .ok (.if_icmp .ne 5, 3) := by decide +kernel
theorem dX11_aheadIn_55 : decode cX11_aheadIn 55 = .ok (.iconst (-1), 1) := by decide +kernel
theorem dX11_aheadIn_56 : decode cX11_aheadIn 56 = .ok (.ireturn, 1) := by decide +kernel
theorem dX11_aheadIn_57 : decode cX11_aheadIn 57 = .ok (.iconst 0, 1) := by decide +kernel
theorem dX11_aheadIn_58 : decode cX11_aheadIn 58 = .ok (.istore_n 3, 1) := by decide +kernel
theorem dX11_aheadIn_59 : decode cX11_aheadIn 59 = .ok (.iconst 0, 1) := by decide +kernel
theorem dX11_aheadIn_60 : decode cX11_aheadIn 60 = .ok (.istore 4, 2) := by decide +kernel
theorem dX11_aheadIn_62 : decode cX11_aheadIn 62 = .ok (.iload 4, 2) := by decide +kernel
theorem dX11_aheadIn_64 : decode cX11_aheadIn 64 = .ok (.aload_n 0, 1) := by decide +kernel
theorem dX11_aheadIn_65 : decode cX11_aheadIn 65 = .ok (.getfield 96, 3) := by decide +kernel
theorem dX11_aheadIn_68 : decode cX11_aheadIn 68 = .ok (.if_icmp .ge 49, 3) := by decide +kernel
theorem dX11_aheadIn_71 : decode cX11_aheadIn 71 = .ok (.aload_n 0, 1) := by decide +kernel
theorem dX11_aheadIn_72 : decode cX11_aheadIn 72 = .ok (.getfield 50, 3) := by decide +kernel
theorem dX11_aheadIn_75 : decode cX11_aheadIn 75 = .ok (.iload 4, 2) := by decide +kernel
theorem dX11_aheadIn_77 : decode cX11_aheadIn 77 = .ok (.iaload, 1) := by decide +kernel
theorem dX11_aheadIn_78 : decode cX11_aheadIn 78 = .ok (.aload_n 0, 1) := by decide +kernel
theorem dX11_aheadIn_79 : decode cX11_aheadIn 79 = .ok (.getfield 121, 3) := by decide +kernel
theorem dX11_aheadIn_82 : decode cX11_aheadIn 82 = .ok (.irem, 1) := by decide +kernel
theorem dX11_aheadIn_83 : decode cX11_aheadIn 83 = .ok (.iload_n 1, 1) := by decide +kernel
theorem dX11_aheadIn_84 : decode cX11_aheadIn 84 = .ok (.aload_n 0, 1) := by decide +kernel
theorem dX11_aheadIn_85 : decode cX11_aheadIn 85 = .ok (.getfield 121, 3) := by decide +kernel
theorem dX11_aheadIn_88 : decode cX11_aheadIn 88 = .ok (.irem, 1) := by decide +kernel
theorem dX11_aheadIn_89 : decode cX11_aheadIn 89 = .ok (.if_icmp .ne 22, 3) := by decide +kernel
theorem dX11_aheadIn_92 : decode cX11_aheadIn 92 = .ok (.aload_n 0, 1) := by decide +kernel
theorem dX11_aheadIn_93 : decode cX11_aheadIn 93 = .ok (.getfield 53, 3) := by decide +kernel
theorem dX11_aheadIn_96 : decode cX11_aheadIn 96 = .ok (.iload 4, 2) := by decide +kernel
theorem dX11_aheadIn_98 : decode cX11_aheadIn 98 = .ok (.iaload, 1) := by decide +kernel
theorem dX11_aheadIn_99 : decode cX11_aheadIn 99 = .ok (.aload_n 0, 1) := by decide +kernel
theorem dX11_aheadIn_100 : decode cX11_aheadIn 100 = .ok (.getfield 53, 3) := by decide +kernel
theorem dX11_aheadIn_103 : decode cX11_aheadIn 103 = .ok (.iload_n 2, 1) := by decide +kernel
theorem dX11_aheadIn_104 : decode cX11_aheadIn 104 = .ok (.iaload, 1) := by decide +kernel
theorem dX11_aheadIn_105 : decode cX11_aheadIn 105 = .ok (.if_icmp .le 6, 3) := by decide +kernel
theorem dX11_aheadIn_108 : decode cX11_aheadIn 108 = .ok (.iinc 3 1, 3) := by decide +kernel
theorem dX11_aheadIn_111 : decode cX11_aheadIn 111 = .ok (.iinc 4 1, 3) := by decide +kernel
theorem dX11_aheadIn_114 : decode cX11_aheadIn 114 = .ok (.goto (-52), 3) := by decide +kernel
theorem dX11_aheadIn_117 : decode cX11_aheadIn 117 = .ok (.iload_n 3, 1) := by decide +kernel
theorem dX11_aheadIn_118 : decode cX11_aheadIn 118 = .ok (.ireturn, 1) := by decide +kernel
theorem dX11_lengthOf_0 : decode cX11_lengthOf 0 = .ok (.iconst 0, 1) := by decide +kernel
theorem dX11_lengthOf_1 : decode cX11_lengthOf 1 = .ok (.istore_n 2, 1) := by decide +kernel
theorem dX11_lengthOf_2 : decode cX11_lengthOf 2 = .ok (.iconst 0, 1) := by decide +kernel
theorem dX11_lengthOf_3 : decode cX11_lengthOf 3 = .ok (.istore_n 3, 1) := by decide +kernel
theorem dX11_lengthOf_4 : decode cX11_lengthOf 4 = .ok (.iload_n 3, 1) := by decide +kernel
theorem dX11_lengthOf_5 : decode cX11_lengthOf 5 = .ok (.aload_n 0, 1) := by decide +kernel
theorem dX11_lengthOf_6 : decode cX11_lengthOf 6 = .ok (.getfield 96, 3) := by decide +kernel
theorem dX11_lengthOf_9 : decode cX11_lengthOf 9 = .ok (.if_icmp .ge 27, 3) := by decide +kernel
theorem dX11_lengthOf_12 : decode cX11_lengthOf 12 = .ok (.aload_n 0, 1) := by decide +kernel
theorem dX11_lengthOf_13 : decode cX11_lengthOf 13 = .ok (.getfield 50, 3) := by decide +kernel
theorem dX11_lengthOf_16 : decode cX11_lengthOf 16 = .ok (.iload_n 3, 1) := by decide +kernel
theorem dX11_lengthOf_17 : decode cX11_lengthOf 17 = .ok (.iaload, 1) := by decide +kernel
theorem dX11_lengthOf_18 : decode cX11_lengthOf 18 = .ok (.aload_n 0, 1) := by decide +kernel
theorem dX11_lengthOf_19 : decode cX11_lengthOf 19 = .ok (.getfield 121, 3) := by decide +kernel
theorem dX11_lengthOf_22 : decode cX11_lengthOf 22 = .ok (.irem, 1) := by decide +kernel
theorem dX11_lengthOf_23 : decode cX11_lengthOf 23 = .ok (.iload_n 1, 1) := by decide +kernel
theorem dX11_lengthOf_24 : decode cX11_lengthOf 24 = .ok (.if_icmp .ne 6, 3) := by decide +kernel
theorem dX11_lengthOf_27 : decode cX11_lengthOf 27 = .ok (.iinc 2 1, 3) := by decide +kernel
theorem dX11_lengthOf_30 : decode cX11_lengthOf 30 = .ok (.iinc 3 1, 3) := by decide +kernel
theorem dX11_lengthOf_33 : decode cX11_lengthOf 33 = .ok (.goto (-29), 3) := by decide +kernel
theorem dX11_lengthOf_36 : decode cX11_lengthOf 36 = .ok (.iload_n 2, 1) := by decide +kernel
theorem dX11_lengthOf_37 : decode cX11_lengthOf 37 = .ok (.ireturn, 1) := by decide +kernel
theorem dX11_thingAt_0 : decode cX11_thingAt 0 = .ok (.iconst 0, 1) := by decide +kernel
theorem dX11_thingAt_1 : decode cX11_thingAt 1 = .ok (.istore 4, 2) := by decide +kernel
theorem dX11_thingAt_3 : decode cX11_thingAt 3 = .ok (.iload 4, 2) := by decide +kernel
theorem dX11_thingAt_5 : decode cX11_thingAt 5 = .ok (.iload_n 3, 1) := by decide +kernel
theorem dX11_thingAt_6 : decode cX11_thingAt 6 = .ok (.if_icmp .ge 91, 3) := by decide +kernel
theorem dX11_thingAt_9 : decode cX11_thingAt 9 = .ok (.aload_n 0, 1) := by decide +kernel
theorem dX11_thingAt_10 : decode cX11_thingAt 10 = .ok (.getfield 50, 3) := by decide +kernel
theorem dX11_thingAt_13 : decode cX11_thingAt 13 = .ok (.iload 4, 2) := by decide +kernel
theorem dX11_thingAt_15 : decode cX11_thingAt 15 = .ok (.iaload, 1) := by decide +kernel
theorem dX11_thingAt_16 : decode cX11_thingAt 16 = .ok (.aload_n 0, 1) := by decide +kernel
theorem dX11_thingAt_17 : decode cX11_thingAt 17 = .ok (.getfield 121, 3) := by decide +kernel
theorem dX11_thingAt_20 : decode cX11_thingAt 20 = .ok (.irem, 1) := by decide +kernel
theorem dX11_thingAt_21 : decode cX11_thingAt 21 = .ok (.iload_n 1, 1) := by decide +kernel
theorem dX11_thingAt_22 : decode cX11_thingAt 22 = .ok (.if_icmp .eq 6, 3) := by decide +kernel
theorem dX11_thingAt_25 : decode cX11_thingAt 25 = .ok (.goto 66, 3) := by decide +kernel
theorem dX11_thingAt_28 : decode cX11_thingAt 28 = .ok (.iconst 0, 1) := by decide +kernel
theorem dX11_thingAt_29 : decode cX11_thingAt 29 = .ok (.istore 5, 2) := by decide +kernel
theorem dX11_thingAt_31 : decode cX11_thingAt 31 = .ok (.iconst 0, 1) := by decide +kernel
theorem dX11_thingAt_32 : decode cX11_thingAt 32 = .ok (.istore 6, 2) := by decide +kernel
theorem dX11_thingAt_34 : decode cX11_thingAt 34 = .ok (.iload 6, 2) := by decide +kernel
theorem dX11_thingAt_36 : decode cX11_thingAt 36 = .ok (.iload_n 3, 1) := by decide +kernel
theorem dX11_thingAt_37 : decode cX11_thingAt 37 = .ok (.if_icmp .ge 45, 3) := by decide +kernel
theorem dX11_thingAt_40 : decode cX11_thingAt 40 = .ok (.aload_n 0, 1) := by decide +kernel
theorem dX11_thingAt_41 : decode cX11_thingAt 41 = .ok (.getfield 50, 3) := by decide +kernel
theorem dX11_thingAt_44 : decode cX11_thingAt 44 = .ok (.iload 6, 2) := by decide +kernel
theorem dX11_thingAt_46 : decode cX11_thingAt 46 = .ok (.iaload, 1) := by decide +kernel
theorem dX11_thingAt_47 : decode cX11_thingAt 47 = .ok (.aload_n 0, 1) := by decide +kernel
theorem dX11_thingAt_48 : decode cX11_thingAt 48 = .ok (.getfield 121, 3) := by decide +kernel
theorem dX11_thingAt_51 : decode cX11_thingAt 51 = .ok (.irem, 1) := by decide +kernel
theorem dX11_thingAt_52 : decode cX11_thingAt 52 = .ok (.iload_n 1, 1) := by decide +kernel
theorem dX11_thingAt_53 : decode cX11_thingAt 53 = .ok (.if_icmp .ne 23, 3) := by decide +kernel
theorem dX11_thingAt_56 : decode cX11_thingAt 56 = .ok (.aload_n 0, 1) := by decide +kernel
theorem dX11_thingAt_57 : decode cX11_thingAt 57 = .ok (.getfield 53, 3) := by decide +kernel
theorem dX11_thingAt_60 : decode cX11_thingAt 60 = .ok (.iload 6, 2) := by decide +kernel
theorem dX11_thingAt_62 : decode cX11_thingAt 62 = .ok (.iaload, 1) := by decide +kernel
theorem dX11_thingAt_63 : decode cX11_thingAt 63 = .ok (.aload_n 0, 1) := by decide +kernel
theorem dX11_thingAt_64 : decode cX11_thingAt 64 = .ok (.getfield 53, 3) := by decide +kernel
theorem dX11_thingAt_67 : decode cX11_thingAt 67 = .ok (.iload 4, 2) := by decide +kernel
theorem dX11_thingAt_69 : decode cX11_thingAt 69 = .ok (.iaload, 1) := by decide +kernel
theorem dX11_thingAt_70 : decode cX11_thingAt 70 = .ok (.if_icmp .le 6, 3) := by decide +kernel
theorem dX11_thingAt_73 : decode cX11_thingAt 73 = .ok (.iinc 5 1, 3) := by decide +kernel
theorem dX11_thingAt_76 : decode cX11_thingAt 76 = .ok (.iinc 6 1, 3) := by decide +kernel
theorem dX11_thingAt_79 : decode cX11_thingAt 79 = .ok (.goto (-45), 3) := by decide +kernel
theorem dX11_thingAt_82 : decode cX11_thingAt 82 = .ok (.iload 5, 2) := by decide +kernel
theorem dX11_thingAt_84 : decode cX11_thingAt 84 = .ok (.iload_n 2, 1) := by decide +kernel
theorem dX11_thingAt_85 : decode cX11_thingAt 85 = .ok (.if_icmp .ne 6, 3) := by decide +kernel
theorem dX11_thingAt_88 : decode cX11_thingAt 88 = .ok (.iload 4, 2) := by decide +kernel
theorem dX11_thingAt_90 : decode cX11_thingAt 90 = .ok (.ireturn, 1) := by decide +kernel
theorem dX11_thingAt_91 : decode cX11_thingAt 91 = .ok (.iinc 4 1, 3) := by decide +kernel
theorem dX11_thingAt_94 : decode cX11_thingAt 94 = .ok (.goto (-91), 3) := by decide +kernel
theorem dX11_thingAt_97 : decode cX11_thingAt 97 = .ok (.iconst (-1), 1) := by decide +kernel
theorem dX11_thingAt_98 : decode cX11_thingAt 98 = .ok (.ireturn, 1) := by decide +kernel
theorem dX11_rehash_0 : decode cX11_rehash 0 = .ok (.iconst 0, 1) := by decide +kernel
theorem dX11_rehash_1 : decode cX11_rehash 1 = .ok (.istore_n 1, 1) := by decide +kernel
theorem dX11_rehash_2 : decode cX11_rehash 2 = .ok (.iconst 0, 1) := by decide +kernel
theorem dX11_rehash_3 : decode cX11_rehash 3 = .ok (.istore_n 2, 1) := by decide +kernel
theorem dX11_rehash_4 : decode cX11_rehash 4 = .ok (.iload_n 2, 1) := by decide +kernel
theorem dX11_rehash_5 : decode cX11_rehash 5 = .ok (.aload_n 0, 1) := by decide +kernel
theorem dX11_rehash_6 : decode cX11_rehash 6 = .ok (.getfield 121, 3) := by decide +kernel
theorem dX11_rehash_9 : decode cX11_rehash 9 = .ok (.if_icmp .ge 50, 3) := by decide +kernel
theorem dX11_rehash_12 : decode cX11_rehash 12 = .ok (.aload_n 0, 1) := by decide +kernel
theorem dX11_rehash_13 : decode cX11_rehash 13 = .ok (.iload_n 2, 1) := by decide +kernel
theorem dX11_rehash_14 : decode cX11_rehash 14 = .ok (.invokevirtual 124, 3) := by decide +kernel
theorem dX11_rehash_17 : decode cX11_rehash 17 = .ok (.istore_n 3, 1) := by decide +kernel
theorem dX11_rehash_18 : decode cX11_rehash 18 = .ok (.iconst 0, 1) := by decide +kernel
theorem dX11_rehash_19 : decode cX11_rehash 19 = .ok (.istore 4, 2) := by decide +kernel
theorem dX11_rehash_21 : decode cX11_rehash 21 = .ok (.iload 4, 2) := by decide +kernel
theorem dX11_rehash_23 : decode cX11_rehash 23 = .ok (.iload_n 3, 1) := by decide +kernel
theorem dX11_rehash_24 : decode cX11_rehash 24 = .ok (.if_icmp .ge 29, 3) := by decide +kernel
theorem dX11_rehash_27 : decode cX11_rehash 27 = .ok (.aload_n 0, 1) := by decide +kernel
theorem dX11_rehash_28 : decode cX11_rehash 28 = .ok (.getfield 68, 3) := by decide +kernel
theorem dX11_rehash_31 : decode cX11_rehash 31 = .ok (.iload_n 1, 1) := by decide +kernel
theorem dX11_rehash_32 : decode cX11_rehash 32 = .ok (.aload_n 0, 1) := by decide +kernel
theorem dX11_rehash_33 : decode cX11_rehash 33 = .ok (.iload_n 2, 1) := by decide +kernel
theorem dX11_rehash_34 : decode cX11_rehash 34 = .ok (.iload 4, 2) := by decide +kernel
theorem dX11_rehash_36 : decode cX11_rehash 36 = .ok (.aload_n 0, 1) := by decide +kernel
theorem dX11_rehash_37 : decode cX11_rehash 37 = .ok (.getfield 96, 3) := by decide +kernel
theorem dX11_rehash_40 : decode cX11_rehash 40 = .ok (.invokevirtual 127, 3) := by decide +kernel
theorem dX11_rehash_43 : decode cX11_rehash 43 = .ok (.iastore, 1) := by decide +kernel
theorem dX11_rehash_44 : decode cX11_rehash 44 = .ok (.iinc 1 1, 3) := by decide +kernel
theorem dX11_rehash_47 : decode cX11_rehash 47 = .ok (.iinc 4 1, 3) := by decide +kernel
theorem dX11_rehash_50 : decode cX11_rehash 50 = .ok (.goto (-29), 3) := by decide +kernel
theorem dX11_rehash_53 : decode cX11_rehash 53 = .ok (.iinc 2 1, 3) := by decide +kernel
theorem dX11_rehash_56 : decode cX11_rehash 56 = .ok (.goto (-52), 3) := by decide +kernel
theorem dX11_rehash_59 : decode cX11_rehash 59 = .ok (.aload_n 0, 1) := by decide +kernel
theorem dX11_rehash_60 : decode cX11_rehash 60 = .ok (.dup, 1) := by decide +kernel
theorem dX11_rehash_61 : decode cX11_rehash 61 = .ok (.getfield 121, 3) := by decide +kernel
theorem dX11_rehash_64 : decode cX11_rehash 64 = .ok (.iconst 2, 1) := by decide +kernel
theorem dX11_rehash_65 : decode cX11_rehash 65 = .ok (.imul, 1) := by decide +kernel
theorem dX11_rehash_66 : decode cX11_rehash 66 = .ok (.putfield 121, 3) := by decide +kernel
theorem dX11_rehash_69 : decode cX11_rehash 69 = .ok (.iconst 0, 1) := by decide +kernel
theorem dX11_rehash_70 : decode cX11_rehash 70 = .ok (.istore_n 2, 1) := by decide +kernel
theorem dX11_rehash_71 : decode cX11_rehash 71 = .ok (.iload_n 2, 1) := by decide +kernel
theorem dX11_rehash_72 : decode cX11_rehash 72 = .ok (.iload_n 1, 1) := by decide +kernel
theorem dX11_rehash_73 : decode cX11_rehash 73 = .ok (.if_icmp .ge 34, 3) := by decide +kernel
theorem dX11_rehash_76 : decode cX11_rehash 76 = .ok (.aload_n 0, 1) := by decide +kernel
theorem dX11_rehash_77 : decode cX11_rehash 77 = .ok (.dup, 1) := by decide +kernel
theorem dX11_rehash_78 : decode cX11_rehash 78 = .ok (.getfield 131, 3) := by decide +kernel
theorem dX11_rehash_81 : decode cX11_rehash 81 = .ok (.iconst 1, 1) := by decide +kernel
theorem dX11_rehash_82 : decode cX11_rehash 82 = .ok (.iadd, 1) := by decide +kernel
theorem dX11_rehash_83 : decode cX11_rehash 83 = .ok (.putfield 131, 3) := by decide +kernel
theorem dX11_rehash_86 : decode cX11_rehash 86 = .ok (.aload_n 0, 1) := by decide +kernel
theorem dX11_rehash_87 : decode cX11_rehash 87 = .ok (.getfield 53, 3) := by decide +kernel
theorem dX11_rehash_90 : decode cX11_rehash 90 = .ok (.aload_n 0, 1) := by decide +kernel
theorem dX11_rehash_91 : decode cX11_rehash 91 = .ok (.getfield 68, 3) := by decide +kernel
theorem dX11_rehash_94 : decode cX11_rehash 94 = .ok (.iload_n 2, 1) := by decide +kernel
theorem dX11_rehash_95 : decode cX11_rehash 95 = .ok (.iaload, 1) := by decide +kernel
theorem dX11_rehash_96 : decode cX11_rehash 96 = .ok (.aload_n 0, 1) := by decide +kernel
theorem dX11_rehash_97 : decode cX11_rehash 97 = .ok (.getfield 131, 3) := by decide +kernel
theorem dX11_rehash_100 : decode cX11_rehash 100 = .ok (.iastore, 1) := by decide +kernel
theorem dX11_rehash_101 : decode cX11_rehash 101 = .ok (.iinc 2 1, 3) := by decide +kernel
theorem dX11_rehash_104 : decode cX11_rehash 104 = .ok (.goto (-33), 3) := by decide +kernel
theorem dX11_rehash_107 : decode cX11_rehash 107 = .ok (.return_, 1) := by decide +kernel
theorem dX11_onHash_0 : decode cX11_onHash 0 = .ok (.aload_n 0, 1) := by decide +kernel
theorem dX11_onHash_1 : decode cX11_onHash 1 = .ok (.iload_n 2, 1) := by decide +kernel
theorem dX11_onHash_2 : decode cX11_onHash 2 = .ok (.invokevirtual 134, 3) := by decide +kernel
theorem dX11_onHash_5 : decode cX11_onHash 5 = .ok (.istore_n 3, 1) := by decide +kernel
theorem dX11_onHash_6 : decode cX11_onHash 6 = .ok (.iload_n 3, 1) := by decide +kernel
theorem dX11_onHash_7 : decode cX11_onHash 7 = .ok (.iconst (-1), 1) := by decide +kernel
theorem dX11_onHash_8 : decode cX11_onHash 8 = .ok (.if_icmp .ne 18, 3) := by decide +kernel
theorem dX11_onHash_11 : decode cX11_onHash 11 = .ok (.iconst 1, 1) := by decide +kernel
theorem dX11_onHash_12 : decode cX11_onHash 12 = .ok (.aload_n 0, 1) := by decide +kernel
theorem dX11_onHash_13 : decode cX11_onHash 13 = .ok (.iload_n 2, 1) := by decide +kernel
theorem dX11_onHash_14 : decode cX11_onHash 14 = .ok (.aload_n 0, 1) := by decide +kernel
theorem dX11_onHash_15 : decode cX11_onHash 15 = .ok (.getfield 121, 3) := by decide +kernel
theorem dX11_onHash_18 : decode cX11_onHash 18 = .ok (.irem, 1) := by decide +kernel
theorem dX11_onHash_19 : decode cX11_onHash 19 = .ok (.invokevirtual 124, 3) := by decide +kernel
theorem dX11_onHash_22 : decode cX11_onHash 22 = .ok (.iadd, 1) := by decide +kernel
theorem dX11_onHash_23 : decode cX11_onHash 23 = .ok (.goto 6, 3) := by decide +kernel
theorem dX11_onHash_26 : decode cX11_onHash 26 = .ok (.iload_n 3, 1) := by decide +kernel
theorem dX11_onHash_27 : decode cX11_onHash 27 = .ok (.iconst 2, 1) := by decide +kernel
theorem dX11_onHash_28 : decode cX11_onHash 28 = .ok (.iadd, 1) := by decide +kernel
theorem dX11_onHash_29 : decode cX11_onHash 29 = .ok (.istore 4, 2) := by decide +kernel
theorem dX11_onHash_31 : decode cX11_onHash 31 = .ok (.iload_n 1, 1) := by decide +kernel
theorem dX11_onHash_32 : decode cX11_onHash 32 = .ok (.tableswitch 185 0 7 #[48, 113, 116, 185, 185, 185, 170, 172], 48) := by decide +kernel
theorem dX11_onHash_80 : decode cX11_onHash 80 = .ok (.iconst 1, 1) := by decide +kernel
theorem dX11_onHash_81 : decode cX11_onHash 81 = .ok (.istore 5, 2) := by decide +kernel
theorem dX11_onHash_83 : decode cX11_onHash 83 = .ok (.aload_n 0, 1) := by decide +kernel
theorem dX11_onHash_84 : decode cX11_onHash 84 = .ok (.getfield 96, 3) := by decide +kernel
theorem dX11_onHash_87 : decode cX11_onHash 87 = .ok (.iconst 2, 1) := by decide +kernel
theorem dX11_onHash_88 : decode cX11_onHash 88 = .ok (.aload_n 0, 1) := by decide +kernel
theorem dX11_onHash_89 : decode cX11_onHash 89 = .ok (.getfield 121, 3) := by decide +kernel
theorem dX11_onHash_92 : decode cX11_onHash 92 = .ok (.imul, 1) := by decide +kernel
theorem dX11_onHash_93 : decode cX11_onHash 93 = .ok (.if_icmp .ne 16, 3) := by decide +kernel
theorem dX11_onHash_96 : decode cX11_onHash 96 = .ok (.aload_n 0, 1) := by decide +kernel
theorem dX11_onHash_97 : decode cX11_onHash 97 = .ok (.invokevirtual 137, 3) := by decide +kernel
theorem dX11_onHash_100 : decode cX11_onHash 100 = .ok (.iload 5, 2) := by decide +kernel
theorem dX11_onHash_102 : decode cX11_onHash 102 = .ok (.aload_n 0, 1) := by decide +kernel
theorem dX11_onHash_103 : decode cX11_onHash 103 = .ok (.getfield 96, 3) := by decide +kernel
theorem dX11_onHash_106 : decode cX11_onHash 106 = .ok (.iadd, 1) := by decide +kernel
theorem dX11_onHash_107 : decode cX11_onHash 107 = .ok (.istore 5, 2) := by decide +kernel
theorem dX11_onHash_109 : decode cX11_onHash 109 = .ok (.aload_n 0, 1) := by decide +kernel
theorem dX11_onHash_110 : decode cX11_onHash 110 = .ok (.dup, 1) := by decide +kernel
theorem dX11_onHash_111 : decode cX11_onHash 111 = .ok (.getfield 131, 3) := by decide +kernel
theorem dX11_onHash_114 : decode cX11_onHash 114 = .ok (.iconst 1, 1) := by decide +kernel
theorem dX11_onHash_115 : decode cX11_onHash 115 = .ok (.iadd, 1) := by decide +kernel
theorem dX11_onHash_116 : decode cX11_onHash 116 = .ok (.putfield 131, 3) := by decide +kernel
theorem dX11_onHash_119 : decode cX11_onHash 119 = .ok (.aload_n 0, 1) := by decide +kernel
theorem dX11_onHash_120 : decode cX11_onHash 120 = .ok (.getfield 50, 3) := by decide +kernel
theorem dX11_onHash_123 : decode cX11_onHash 123 = .ok (.aload_n 0, 1) := by decide +kernel
theorem dX11_onHash_124 : decode cX11_onHash 124 = .ok (.getfield 96, 3) := by decide +kernel
theorem dX11_onHash_127 : decode cX11_onHash 127 = .ok (.iload_n 2, 1) := by decide +kernel
theorem dX11_onHash_128 : decode cX11_onHash 128 = .ok (.iastore, 1) := by decide +kernel
theorem dX11_onHash_129 : decode cX11_onHash 129 = .ok (.aload_n 0, 1) := by decide +kernel
theorem dX11_onHash_130 : decode cX11_onHash 130 = .ok (.getfield 53, 3) := by decide +kernel
theorem dX11_onHash_133 : decode cX11_onHash 133 = .ok (.aload_n 0, 1) := by decide +kernel
theorem dX11_onHash_134 : decode cX11_onHash 134 = .ok (.getfield 96, 3) := by decide +kernel
theorem dX11_onHash_137 : decode cX11_onHash 137 = .ok (.aload_n 0, 1) := by decide +kernel
theorem dX11_onHash_138 : decode cX11_onHash 138 = .ok (.getfield 131, 3) := by decide +kernel
theorem dX11_onHash_141 : decode cX11_onHash 141 = .ok (.iastore, 1) := by decide +kernel
theorem dX11_onHash_142 : decode cX11_onHash 142 = .ok (.iload 5, 2) := by decide +kernel
theorem dX11_onHash_144 : decode cX11_onHash 144 = .ok (.ireturn, 1) := by decide +kernel
theorem dX11_onHash_145 : decode cX11_onHash 145 = .ok (.iload 4, 2) := by decide +kernel
theorem dX11_onHash_147 : decode cX11_onHash 147 = .ok (.ireturn, 1) := by decide +kernel
theorem dX11_onHash_148 : decode cX11_onHash 148 = .ok (.iload_n 3, 1) := by decide +kernel
theorem dX11_onHash_149 : decode cX11_onHash 149 = .ok (.iconst (-1), 1) := by decide +kernel
theorem dX11_onHash_150 : decode cX11_onHash 150 = .ok (.if_icmp .ne 6, 3) := by decide +kernel
theorem dX11_onHash_153 : decode cX11_onHash 153 = .ok (.iload 4, 2) := by decide +kernel
theorem dX11_onHash_155 : decode cX11_onHash 155 = .ok (.ireturn, 1) := by decide +kernel
theorem dX11_onHash_156 : decode cX11_onHash 156 = .ok (.aload_n 0, 1) := by decide +kernel
theorem dX11_onHash_157 : decode cX11_onHash 157 = .ok (.iload_n 2, 1) := by decide +kernel
theorem dX11_onHash_158 : decode cX11_onHash 158 = .ok (.aload_n 0, 1) := by decide +kernel
theorem dX11_onHash_159 : decode cX11_onHash 159 = .ok (.getfield 121, 3) := by decide +kernel
theorem dX11_onHash_162 : decode cX11_onHash 162 = .ok (.irem, 1) := by decide +kernel
theorem dX11_onHash_163 : decode cX11_onHash 163 = .ok (.iload_n 3, 1) := by decide +kernel
theorem dX11_onHash_164 : decode cX11_onHash 164 = .ok (.aload_n 0, 1) := by decide +kernel
theorem dX11_onHash_165 : decode cX11_onHash 165 = .ok (.getfield 96, 3) := by decide +kernel
theorem dX11_onHash_168 : decode cX11_onHash 168 = .ok (.invokevirtual 127, 3) := by decide +kernel
theorem dX11_onHash_171 : decode cX11_onHash 171 = .ok (.istore 5, 2) := by decide +kernel
theorem dX11_onHash_173 : decode cX11_onHash 173 = .ok (.aload_n 0, 1) := by decide +kernel
theorem dX11_onHash_174 : decode cX11_onHash 174 = .ok (.getfield 50, 3) := by decide +kernel
theorem dX11_onHash_177 : decode cX11_onHash 177 = .ok (.aload_n 0, 1) := by decide +kernel
theorem dX11_onHash_178 : decode cX11_onHash 178 = .ok (.getfield 96, 3) := by decide +kernel
theorem dX11_onHash_181 : decode cX11_onHash 181 = .ok (.iload 5, 2) := by decide +kernel
theorem dX11_onHash_183 : decode cX11_onHash 183 = .ok (.invokestatic 111, 3) := by decide +kernel
theorem dX11_onHash_186 : decode cX11_onHash 186 = .ok (.aload_n 0, 1) := by decide +kernel
theorem dX11_onHash_187 : decode cX11_onHash 187 = .ok (.getfield 53, 3) := by decide +kernel
theorem dX11_onHash_190 : decode cX11_onHash 190 = .ok (.aload_n 0, 1) := by decide +kernel
theorem dX11_onHash_191 : decode cX11_onHash 191 = .ok (.getfield 96, 3) := by decide +kernel
theorem dX11_onHash_194 : decode cX11_onHash 194 = .ok (.iload 5, 2) := by decide +kernel
theorem dX11_onHash_196 : decode cX11_onHash 196 = .ok (.invokestatic 111, 3) := by decide +kernel
theorem dX11_onHash_199 : decode cX11_onHash 199 = .ok (.iload 4, 2) := by decide +kernel
theorem dX11_onHash_201 : decode cX11_onHash 201 = .ok (.ireturn, 1) := by decide +kernel
theorem dX11_onHash_202 : decode cX11_onHash 202 = .ok (.iconst 0, 1) := by decide +kernel
theorem dX11_onHash_203 : decode cX11_onHash 203 = .ok (.ireturn, 1) := by decide +kernel
theorem dX11_onHash_204 : decode cX11_onHash 204 = .ok (.iconst 1, 1) := by decide +kernel
theorem dX11_onHash_205 : decode cX11_onHash 205 = .ok (.aload_n 0, 1) := by decide +kernel
theorem dX11_onHash_206 : decode cX11_onHash 206 = .ok (.iload_n 2, 1) := by decide +kernel
theorem dX11_onHash_207 : decode cX11_onHash 207 = .ok (.aload_n 0, 1) := by decide +kernel
theorem dX11_onHash_208 : decode cX11_onHash 208 = .ok (.getfield 121, 3) := by decide +kernel
theorem dX11_onHash_211 : decode cX11_onHash 211 = .ok (.irem, 1) := by decide +kernel
theorem dX11_onHash_212 : decode cX11_onHash 212 = .ok (.invokevirtual 124, 3) := by decide +kernel
theorem dX11_onHash_215 : decode cX11_onHash 215 = .ok (.iadd, 1) := by decide +kernel
theorem dX11_onHash_216 : decode cX11_onHash 216 = .ok (.ireturn, 1) := by decide +kernel
theorem dX11_onHash_217 : decode cX11_onHash 217 = .ok (.aload_n 0, 1) := by decide +kernel
theorem dX11_onHash_218 : decode cX11_onHash 218 = .ok (.getfield 121, 3) := by decide +kernel
theorem dX11_onHash_221 : decode cX11_onHash 221 = .ok (.aload_n 0, 1) := by decide +kernel
theorem dX11_onHash_222 : decode cX11_onHash 222 = .ok (.getfield 96, 3) := by decide +kernel
theorem dX11_onHash_225 : decode cX11_onHash 225 = .ok (.iadd, 1) := by decide +kernel
theorem dX11_onHash_226 : decode cX11_onHash 226 = .ok (.ireturn, 1) := by decide +kernel
theorem dX11_topOf_0 : decode cX11_topOf 0 = .ok (.iconst (-1), 1) := by decide +kernel
theorem dX11_topOf_1 : decode cX11_topOf 1 = .ok (.istore_n 3, 1) := by decide +kernel
theorem dX11_topOf_2 : decode cX11_topOf 2 = .ok (.iload_n 1, 1) := by decide +kernel
theorem dX11_topOf_3 : decode cX11_topOf 3 = .ok (.iconst 1, 1) := by decide +kernel
theorem dX11_topOf_4 : decode cX11_topOf 4 = .ok (.iadd, 1) := by decide +kernel
theorem dX11_topOf_5 : decode cX11_topOf 5 = .ok (.istore 4, 2) := by decide +kernel
theorem dX11_topOf_7 : decode cX11_topOf 7 = .ok (.iload 4, 2) := by decide +kernel
theorem dX11_topOf_9 : decode cX11_topOf 9 = .ok (.iload_n 2, 1) := by decide +kernel
theorem dX11_topOf_10 : decode cX11_topOf 10 = .ok (.if_icmp .ge 43, 3) := by decide +kernel
theorem dX11_topOf_13 : decode cX11_topOf 13 = .ok (.aload_n 0, 1) := by decide +kernel
theorem dX11_topOf_14 : decode cX11_topOf 14 = .ok (.getfield 56, 3) := by decide +kernel
theorem dX11_topOf_17 : decode cX11_topOf 17 = .ok (.iload 4, 2) := by decide +kernel
theorem dX11_topOf_19 : decode cX11_topOf 19 = .ok (.iaload, 1) := by decide +kernel
theorem dX11_topOf_20 : decode cX11_topOf 20 = .ok (.ifCond .le 27, 3) := by decide +kernel
theorem dX11_topOf_23 : decode cX11_topOf 23 = .ok (.iload_n 3, 1) := by decide +kernel
theorem dX11_topOf_24 : decode cX11_topOf 24 = .ok (.iconst (-1), 1) := by decide +kernel
theorem dX11_topOf_25 : decode cX11_topOf 25 = .ok (.if_icmp .eq 19, 3) := by decide +kernel
theorem dX11_topOf_28 : decode cX11_topOf 28 = .ok (.aload_n 0, 1) := by decide +kernel
theorem dX11_topOf_29 : decode cX11_topOf 29 = .ok (.getfield 56, 3) := by decide +kernel
theorem dX11_topOf_32 : decode cX11_topOf 32 = .ok (.iload 4, 2) := by decide +kernel
theorem dX11_topOf_34 : decode cX11_topOf 34 = .ok (.iaload, 1) := by decide +kernel
theorem dX11_topOf_35 : decode cX11_topOf 35 = .ok (.aload_n 0, 1) := by decide +kernel
theorem dX11_topOf_36 : decode cX11_topOf 36 = .ok (.getfield 56, 3) := by decide +kernel
theorem dX11_topOf_39 : decode cX11_topOf 39 = .ok (.iload_n 3, 1) := by decide +kernel
theorem dX11_topOf_40 : decode cX11_topOf 40 = .ok (.iaload, 1) := by decide +kernel
theorem dX11_topOf_41 : decode cX11_topOf 41 = .ok (.if_icmp .ge 6, 3) := by decide +kernel
theorem dX11_topOf_44 : decode cX11_topOf 44 = .ok (.iload 4, 2) := by decide +kernel
theorem dX11_topOf_46 : decode cX11_topOf 46 = .ok (.istore_n 3, 1) := by decide +kernel
theorem dX11_topOf_47 : decode cX11_topOf 47 = .ok (.iinc 4 1, 3) := by decide +kernel
theorem dX11_topOf_50 : decode cX11_topOf 50 = .ok (.goto (-43), 3) := by decide +kernel
theorem dX11_topOf_53 : decode cX11_topOf 53 = .ok (.iload_n 3, 1) := by decide +kernel
theorem dX11_topOf_54 : decode cX11_topOf 54 = .ok (.ireturn, 1) := by decide +kernel
theorem dX11_wayTo_0 : decode cX11_wayTo 0 = .ok (.aload_n 0, 1) := by decide +kernel
theorem dX11_wayTo_1 : decode cX11_wayTo 1 = .ok (.iconst (-1), 1) := by decide +kernel
theorem dX11_wayTo_2 : decode cX11_wayTo 2 = .ok (.putfield 140, 3) := by decide +kernel
theorem dX11_wayTo_5 : decode cX11_wayTo 5 = .ok (.aload_n 0, 1) := by decide +kernel
theorem dX11_wayTo_6 : decode cX11_wayTo 6 = .ok (.bipush 64, 2) := by decide +kernel
theorem dX11_wayTo_8 : decode cX11_wayTo 8 = .ok (.putfield 143, 3) := by decide +kernel
theorem dX11_wayTo_11 : decode cX11_wayTo 11 = .ok (.iconst 0, 1) := by decide +kernel
theorem dX11_wayTo_12 : decode cX11_wayTo 12 = .ok (.istore_n 2, 1) := by decide +kernel
theorem dX11_wayTo_13 : decode cX11_wayTo 13 = .ok (.aload_n 0, 1) := by decide +kernel
theorem dX11_wayTo_14 : decode cX11_wayTo 14 = .ok (.aload_n 0, 1) := by decide +kernel
theorem dX11_wayTo_15 : decode cX11_wayTo 15 = .ok (.getfield 140, 3) := by decide +kernel
theorem dX11_wayTo_18 : decode cX11_wayTo 18 = .ok (.aload_n 0, 1) := by decide +kernel
theorem dX11_wayTo_19 : decode cX11_wayTo 19 = .ok (.getfield 143, 3) := by decide +kernel
theorem dX11_wayTo_22 : decode cX11_wayTo 22 = .ok (.invokevirtual 146, 3) := by decide +kernel
theorem dX11_wayTo_25 : decode cX11_wayTo 25 = .ok (.istore_n 3, 1) := by decide +kernel
theorem dX11_wayTo_26 : decode cX11_wayTo 26 = .ok (.iload_n 3, 1) := by decide +kernel
theorem dX11_wayTo_27 : decode cX11_wayTo 27 = .ok (.iconst (-1), 1) := by decide +kernel
theorem dX11_wayTo_28 : decode cX11_wayTo 28 = .ok (.if_icmp .eq 47, 3) := by decide +kernel
theorem dX11_wayTo_31 : decode cX11_wayTo 31 = .ok (.iinc 2 1, 3) := by decide +kernel
theorem dX11_wayTo_34 : decode cX11_wayTo 34 = .ok (.iload_n 3, 1) := by decide +kernel
theorem dX11_wayTo_35 : decode cX11_wayTo 35 = .ok (.iload_n 1, 1) := by decide +kernel
theorem dX11_wayTo_36 : decode cX11_wayTo 36 = .ok (.if_icmp .ne 5, 3) := by decide +kernel
theorem dX11_wayTo_39 : decode cX11_wayTo 39 = .ok (.iload_n 2, 1) := by decide +kernel
theorem dX11_wayTo_40 : decode cX11_wayTo 40 = .ok (.ireturn, 1) := by decide +kernel
theorem dX11_wayTo_41 : decode cX11_wayTo 41 = .ok (.iload_n 1, 1) := by decide +kernel
theorem dX11_wayTo_42 : decode cX11_wayTo 42 = .ok (.iload_n 3, 1) := by decide +kernel
theorem dX11_wayTo_43 : decode cX11_wayTo 43 = .ok (.if_icmp .ge 11, 3) := by decide +kernel
theorem dX11_wayTo_46 : decode cX11_wayTo 46 = .ok (.aload_n 0, 1) := by decide +kernel
theorem dX11_wayTo_47 : decode cX11_wayTo 47 = .ok (.iload_n 3, 1) := by decide +kernel
theorem dX11_wayTo_48 : decode cX11_wayTo 48 = .ok (.putfield 143, 3) := by decide +kernel
theorem dX11_wayTo_51 : decode cX11_wayTo 51 = .ok (.goto 8, 3) := by decide +kernel
theorem dX11_wayTo_54 : decode cX11_wayTo 54 = .ok (.aload_n 0, 1) := by decide +kernel
theorem dX11_wayTo_55 : decode cX11_wayTo 55 = .ok (.iload_n 3, 1) := by decide +kernel
theorem dX11_wayTo_56 : decode cX11_wayTo 56 = .ok (.putfield 140, 3) := by decide +kernel
theorem dX11_wayTo_59 : decode cX11_wayTo 59 = .ok (.aload_n 0, 1) := by decide +kernel
theorem dX11_wayTo_60 : decode cX11_wayTo 60 = .ok (.aload_n 0, 1) := by decide +kernel
theorem dX11_wayTo_61 : decode cX11_wayTo 61 = .ok (.getfield 140, 3) := by decide +kernel
theorem dX11_wayTo_64 : decode cX11_wayTo 64 = .ok (.aload_n 0, 1) := by decide +kernel
theorem dX11_wayTo_65 : decode cX11_wayTo 65 = .ok (.getfield 143, 3) := by decide +kernel
theorem dX11_wayTo_68 : decode cX11_wayTo 68 = .ok (.invokevirtual 146, 3) := by decide +kernel
theorem dX11_wayTo_71 : decode cX11_wayTo 71 = .ok (.istore_n 3, 1) := by decide +kernel
theorem dX11_wayTo_72 : decode cX11_wayTo 72 = .ok (.goto (-46), 3) := by decide +kernel
theorem dX11_wayTo_75 : decode cX11_wayTo 75 = .ok (.iload_n 2, 1) := by decide +kernel
theorem dX11_wayTo_76 : decode cX11_wayTo 76 = .ok (.ireturn, 1) := by decide +kernel
theorem dX11_nodes_0 : decode cX11_nodes 0 = .ok (.iconst 0, 1) := by decide +kernel
theorem dX11_nodes_1 : decode cX11_nodes 1 = .ok (.istore_n 1, 1) := by decide +kernel
theorem dX11_nodes_2 : decode cX11_nodes 2 = .ok (.iconst 0, 1) := by decide +kernel
theorem dX11_nodes_3 : decode cX11_nodes 3 = .ok (.istore_n 2, 1) := by decide +kernel
theorem dX11_nodes_4 : decode cX11_nodes 4 = .ok (.iload_n 2, 1) := by decide +kernel
theorem dX11_nodes_5 : decode cX11_nodes 5 = .ok (.bipush 64, 2) := by decide +kernel
theorem dX11_nodes_7 : decode cX11_nodes 7 = .ok (.if_icmp .ge 21, 3) := by decide +kernel
theorem dX11_nodes_10 : decode cX11_nodes 10 = .ok (.aload_n 0, 1) := by decide +kernel
theorem dX11_nodes_11 : decode cX11_nodes 11 = .ok (.getfield 56, 3) := by decide +kernel
theorem dX11_nodes_14 : decode cX11_nodes 14 = .ok (.iload_n 2, 1) := by decide +kernel
theorem dX11_nodes_15 : decode cX11_nodes 15 = .ok (.iaload, 1) := by decide +kernel
theorem dX11_nodes_16 : decode cX11_nodes 16 = .ok (.ifCond .le 6, 3) := by decide +kernel
theorem dX11_nodes_19 : decode cX11_nodes 19 = .ok (.iinc 1 1, 3) := by decide +kernel
theorem dX11_nodes_22 : decode cX11_nodes 22 = .ok (.iinc 2 1, 3) := by decide +kernel
theorem dX11_nodes_25 : decode cX11_nodes 25 = .ok (.goto (-21), 3) := by decide +kernel
theorem dX11_nodes_28 : decode cX11_nodes 28 = .ok (.iload_n 1, 1) := by decide +kernel
theorem dX11_nodes_29 : decode cX11_nodes 29 = .ok (.ireturn, 1) := by decide +kernel
theorem dX11_takeNode_0 : decode cX11_takeNode 0 = .ok (.aload_n 0, 1) := by decide +kernel
theorem dX11_takeNode_1 : decode cX11_takeNode 1 = .ok (.aload_n 0, 1) := by decide +kernel
theorem dX11_takeNode_2 : decode cX11_takeNode 2 = .ok (.getfield 140, 3) := by decide +kernel
theorem dX11_takeNode_5 : decode cX11_takeNode 5 = .ok (.iload_n 1, 1) := by decide +kernel
theorem dX11_takeNode_6 : decode cX11_takeNode 6 = .ok (.invokevirtual 146, 3) := by decide +kernel
theorem dX11_takeNode_9 : decode cX11_takeNode 9 = .ok (.istore_n 2, 1) := by decide +kernel
theorem dX11_takeNode_10 : decode cX11_takeNode 10 = .ok (.aload_n 0, 1) := by decide +kernel
theorem dX11_takeNode_11 : decode cX11_takeNode 11 = .ok (.iload_n 1, 1) := by decide +kernel
theorem dX11_takeNode_12 : decode cX11_takeNode 12 = .ok (.aload_n 0, 1) := by decide +kernel
theorem dX11_takeNode_13 : decode cX11_takeNode 13 = .ok (.getfield 143, 3) := by decide +kernel
theorem dX11_takeNode_16 : decode cX11_takeNode 16 = .ok (.invokevirtual 146, 3) := by decide +kernel
theorem dX11_takeNode_19 : decode cX11_takeNode 19 = .ok (.istore_n 3, 1) := by decide +kernel
theorem dX11_takeNode_20 : decode cX11_takeNode 20 = .ok (.iconst 0, 1) := by decide +kernel
theorem dX11_takeNode_21 : decode cX11_takeNode 21 = .ok (.istore 4, 2) := by decide +kernel
theorem dX11_takeNode_23 : decode cX11_takeNode 23 = .ok (.iload_n 2, 1) := by decide +kernel
theorem dX11_takeNode_24 : decode cX11_takeNode 24 = .ok (.iconst (-1), 1) := by decide +kernel
theorem dX11_takeNode_25 : decode cX11_takeNode 25 = .ok (.if_icmp .eq 76, 3) := by decide +kernel
theorem dX11_takeNode_28 : decode cX11_takeNode 28 = .ok (.iload_n 3, 1) := by decide +kernel
theorem dX11_takeNode_29 : decode cX11_takeNode 29 = .ok (.iconst (-1), 1) := by decide +kernel
theorem dX11_takeNode_30 : decode cX11_takeNode 30 = .ok (.if_icmp .eq 71, 3) := by decide +kernel
theorem dX11_takeNode_33 : decode cX11_takeNode 33 = .ok (.iload_n 1, 1) := by decide +kernel
theorem dX11_takeNode_34 : decode cX11_takeNode 34 = .ok (.iconst 1, 1) := by decide +kernel
theorem dX11_takeNode_35 : decode cX11_takeNode 35 = .ok (.iadd, 1) := by decide +kernel
theorem dX11_takeNode_36 : decode cX11_takeNode 36 = .ok (.istore 5, 2) := by decide +kernel
theorem dX11_takeNode_38 : decode cX11_takeNode 38 = .ok (.aload_n 0, 1) := by decide +kernel
theorem dX11_takeNode_39 : decode cX11_takeNode 39 = .ok (.getfield 56, 3) := by decide +kernel
theorem dX11_takeNode_42 : decode cX11_takeNode 42 = .ok (.iload 5, 2) := by decide +kernel
theorem dX11_takeNode_44 : decode cX11_takeNode 44 = .ok (.iaload, 1) := by decide +kernel
theorem dX11_takeNode_45 : decode cX11_takeNode 45 = .ok (.ifCond .ne 9, 3) := by decide +kernel
theorem dX11_takeNode_48 : decode cX11_takeNode 48 = .ok (.iinc 5 1, 3) := by decide +kernel
theorem dX11_takeNode_51 : decode cX11_takeNode 51 = .ok (.goto (-13), 3) := by decide +kernel
theorem dX11_takeNode_54 : decode cX11_takeNode 54 = .ok (.aload_n 0, 1) := by decide +kernel
theorem dX11_takeNode_55 : decode cX11_takeNode 55 = .ok (.getfield 143, 3) := by decide +kernel
theorem dX11_takeNode_58 : decode cX11_takeNode 58 = .ok (.istore 6, 2) := by decide +kernel
theorem dX11_takeNode_60 : decode cX11_takeNode 60 = .ok (.iload_n 3, 1) := by decide +kernel
theorem dX11_takeNode_61 : decode cX11_takeNode 61 = .ok (.istore 7, 2) := by decide +kernel
theorem dX11_takeNode_63 : decode cX11_takeNode 63 = .ok (.iload 7, 2) := by decide +kernel
theorem dX11_takeNode_65 : decode cX11_takeNode 65 = .ok (.iconst (-1), 1) := by decide +kernel
theorem dX11_takeNode_66 : decode cX11_takeNode 66 = .ok (.if_icmp .eq 22, 3) := by decide +kernel
theorem dX11_takeNode_69 : decode cX11_takeNode 69 = .ok (.iinc 4 1, 3) := by decide +kernel
theorem dX11_takeNode_72 : decode cX11_takeNode 72 = .ok (.iload 7, 2) := by decide +kernel
theorem dX11_takeNode_74 : decode cX11_takeNode 74 = .ok (.istore 6, 2) := by decide +kernel
theorem dX11_takeNode_76 : decode cX11_takeNode 76 = .ok (.aload_n 0, 1) := by decide +kernel
theorem dX11_takeNode_77 : decode cX11_takeNode 77 = .ok (.iload_n 1, 1) := by decide +kernel
theorem dX11_takeNode_78 : decode cX11_takeNode 78 = .ok (.iload 6, 2) := by decide +kernel
theorem dX11_takeNode_80 : decode cX11_takeNode 80 = .ok (.invokevirtual 146, 3) := by decide +kernel
theorem dX11_takeNode_83 : decode cX11_takeNode 83 = .ok (.istore 7, 2) := by decide +kernel
theorem dX11_takeNode_85 : decode cX11_takeNode 85 = .ok (.goto (-22), 3) := by decide +kernel
theorem dX11_takeNode_88 : decode cX11_takeNode 88 = .ok (.aload_n 0, 1) := by decide +kernel
theorem dX11_takeNode_89 : decode cX11_takeNode 89 = .ok (.getfield 56, 3) := by decide +kernel
theorem dX11_takeNode_92 : decode cX11_takeNode 92 = .ok (.iload 5, 2) := by decide +kernel
theorem dX11_takeNode_94 : decode cX11_takeNode 94 = .ok (.aload_n 0, 1) := by decide +kernel
theorem dX11_takeNode_95 : decode cX11_takeNode 95 = .ok (.getfield 56, 3) := by decide +kernel
theorem dX11_takeNode_98 : decode cX11_takeNode 98 = .ok (.iload_n 1, 1) := by decide +kernel
theorem dX11_takeNode_99 : decode cX11_takeNode 99 = .ok (.iaload, 1) := by decide +kernel
theorem dX11_takeNode_100 : decode cX11_takeNode 100 = .ok (.iastore, 1) := by decide +kernel
theorem dX11_takeNode_101 : decode cX11_takeNode 101 = .ok (.aload_n 0, 1) := by decide +kernel
theorem dX11_takeNode_102 : decode cX11_takeNode 102 = .ok (.getfield 56, 3) := by decide +kernel
theorem dX11_takeNode_105 : decode cX11_takeNode 105 = .ok (.iload_n 1, 1) := by decide +kernel
theorem dX11_takeNode_106 : decode cX11_takeNode 106 = .ok (.iconst 0, 1) := by decide +kernel
theorem dX11_takeNode_107 : decode cX11_takeNode 107 = .ok (.iastore, 1) := by decide +kernel
theorem dX11_takeNode_108 : decode cX11_takeNode 108 = .ok (.iload 4, 2) := by decide +kernel
theorem dX11_takeNode_110 : decode cX11_takeNode 110 = .ok (.ireturn, 1) := by decide +kernel
theorem dX11_leftMost_0 : decode cX11_leftMost 0 = .ok (.iconst 0, 1) := by decide +kernel
theorem dX11_leftMost_1 : decode cX11_leftMost 1 = .ok (.istore_n 1, 1) := by decide +kernel
theorem dX11_leftMost_2 : decode cX11_leftMost 2 = .ok (.aload_n 0, 1) := by decide +kernel
theorem dX11_leftMost_3 : decode cX11_leftMost 3 = .ok (.iconst (-1), 1) := by decide +kernel
theorem dX11_leftMost_4 : decode cX11_leftMost 4 = .ok (.bipush 64, 2) := by decide +kernel
theorem dX11_leftMost_6 : decode cX11_leftMost 6 = .ok (.invokevirtual 146, 3) := by decide +kernel
theorem dX11_leftMost_9 : decode cX11_leftMost 9 = .ok (.istore_n 2, 1) := by decide +kernel
theorem dX11_leftMost_10 : decode cX11_leftMost 10 = .ok (.iload_n 2, 1) := by decide +kernel
theorem dX11_leftMost_11 : decode cX11_leftMost 11 = .ok (.iconst (-1), 1) := by decide +kernel
theorem dX11_leftMost_12 : decode cX11_leftMost 12 = .ok (.if_icmp .eq 16, 3) := by decide +kernel
theorem dX11_leftMost_15 : decode cX11_leftMost 15 = .ok (.iinc 1 1, 3) := by decide +kernel
theorem dX11_leftMost_18 : decode cX11_leftMost 18 = .ok (.aload_n 0, 1) := by decide +kernel
theorem dX11_leftMost_19 : decode cX11_leftMost 19 = .ok (.iconst (-1), 1) := by decide +kernel
theorem dX11_leftMost_20 : decode cX11_leftMost 20 = .ok (.iload_n 2, 1) := by decide +kernel
theorem dX11_leftMost_21 : decode cX11_leftMost 21 = .ok (.invokevirtual 146, 3) := by decide +kernel
theorem dX11_leftMost_24 : decode cX11_leftMost 24 = .ok (.istore_n 2, 1) := by decide +kernel
theorem dX11_leftMost_25 : decode cX11_leftMost 25 = .ok (.goto (-15), 3) := by decide +kernel
theorem dX11_leftMost_28 : decode cX11_leftMost 28 = .ok (.iload_n 1, 1) := by decide +kernel
theorem dX11_leftMost_29 : decode cX11_leftMost 29 = .ok (.ireturn, 1) := by decide +kernel
theorem dX11_onTree_0 : decode cX11_onTree 0 = .ok (.iload_n 1, 1) := by decide +kernel
theorem dX11_onTree_1 : decode cX11_onTree 1 = .ok (.tableswitch 132 0 7 #[47, 88, 94, 122, 127, 88, 132, 88], 47) := by decide +kernel
theorem dX11_onTree_48 : decode cX11_onTree 48 = .ok (.aload_n 0, 1) := by decide +kernel
theorem dX11_onTree_49 : decode cX11_onTree 49 = .ok (.iload_n 2, 1) := by decide +kernel
theorem dX11_onTree_50 : decode cX11_onTree 50 = .ok (.invokevirtual 150, 3) := by decide +kernel
theorem dX11_onTree_53 : decode cX11_onTree 53 = .ok (.istore_n 3, 1) := by decide +kernel
theorem dX11_onTree_54 : decode cX11_onTree 54 = .ok (.aload_n 0, 1) := by decide +kernel
theorem dX11_onTree_55 : decode cX11_onTree 55 = .ok (.getfield 56, 3) := by decide +kernel
theorem dX11_onTree_58 : decode cX11_onTree 58 = .ok (.iload_n 2, 1) := by decide +kernel
theorem dX11_onTree_59 : decode cX11_onTree 59 = .ok (.iaload, 1) := by decide +kernel
theorem dX11_onTree_60 : decode cX11_onTree 60 = .ok (.ifCond .le 5, 3) := by decide +kernel
theorem dX11_onTree_63 : decode cX11_onTree 63 = .ok (.iload_n 3, 1) := by decide +kernel
theorem dX11_onTree_64 : decode cX11_onTree 64 = .ok (.ireturn, 1) := by decide +kernel
theorem dX11_onTree_65 : decode cX11_onTree 65 = .ok (.aload_n 0, 1) := by decide +kernel
theorem dX11_onTree_66 : decode cX11_onTree 66 = .ok (.dup, 1) := by decide +kernel
theorem dX11_onTree_67 : decode cX11_onTree 67 = .ok (.getfield 153, 3) := by decide +kernel
theorem dX11_onTree_70 : decode cX11_onTree 70 = .ok (.iconst 1, 1) := by decide +kernel
theorem dX11_onTree_71 : decode cX11_onTree 71 = .ok (.iadd, 1) := by decide +kernel
theorem dX11_onTree_72 : decode cX11_onTree 72 = .ok (.putfield 153, 3) := by decide +kernel
theorem dX11_onTree_75 : decode cX11_onTree 75 = .ok (.aload_n 0, 1) := by decide +kernel
theorem dX11_onTree_76 : decode cX11_onTree 76 = .ok (.getfield 56, 3) := by decide +kernel
theorem dX11_onTree_79 : decode cX11_onTree 79 = .ok (.iload_n 2, 1) := by decide +kernel
theorem dX11_onTree_80 : decode cX11_onTree 80 = .ok (.aload_n 0, 1) := by decide +kernel
theorem dX11_onTree_81 : decode cX11_onTree 81 = .ok (.getfield 153, 3) := by decide +kernel
theorem dX11_onTree_84 : decode cX11_onTree 84 = .ok (.iastore, 1) := by decide +kernel
theorem dX11_onTree_85 : decode cX11_onTree 85 = .ok (.iload_n 3, 1) := by decide +kernel
theorem dX11_onTree_86 : decode cX11_onTree 86 = .ok (.iconst 1, 1) := by decide +kernel
theorem dX11_onTree_87 : decode cX11_onTree 87 = .ok (.iadd, 1) := by decide +kernel
theorem dX11_onTree_88 : decode cX11_onTree 88 = .ok (.ireturn, 1) := by decide +kernel
theorem dX11_onTree_89 : decode cX11_onTree 89 = .ok (.aload_n 0, 1) := by decide +kernel
theorem dX11_onTree_90 : decode cX11_onTree 90 = .ok (.iload_n 2, 1) := by decide +kernel
theorem dX11_onTree_91 : decode cX11_onTree 91 = .ok (.invokevirtual 150, 3) := by decide +kernel
theorem dX11_onTree_94 : decode cX11_onTree 94 = .ok (.ireturn, 1) := by decide +kernel
theorem dX11_onTree_95 : decode cX11_onTree 95 = .ok (.aload_n 0, 1) := by decide +kernel
theorem dX11_onTree_96 : decode cX11_onTree 96 = .ok (.iload_n 2, 1) := by decide +kernel
theorem dX11_onTree_97 : decode cX11_onTree 97 = .ok (.invokevirtual 150, 3) := by decide +kernel
theorem dX11_onTree_100 : decode cX11_onTree 100 = .ok (.istore_n 3, 1) := by decide +kernel
theorem dX11_onTree_101 : decode cX11_onTree 101 = .ok (.aload_n 0, 1) := by decide +kernel
theorem dX11_onTree_102 : decode cX11_onTree 102 = .ok (.getfield 59, 3) := by decide +kernel
theorem dX11_onTree_105 : decode cX11_onTree 105 = .ok (.iload_n 2, 1) := by decide +kernel
theorem dX11_onTree_106 : decode cX11_onTree 106 = .ok (.iaload, 1) := by decide +kernel
theorem dX11_onTree_107 : decode cX11_onTree 107 = .ok (.iconst 1, 1) := by decide +kernel
theorem dX11_onTree_108 : decode cX11_onTree 108 = .ok (.if_icmp .ne 13, 3) := by decide +kernel
theorem dX11_onTree_111 : decode cX11_onTree 111 = .ok (.iload_n 3, 1) := by decide +kernel
theorem dX11_onTree_112 : decode cX11_onTree 112 = .ok (.aload_n 0, 1) := by decide +kernel
theorem dX11_onTree_113 : decode cX11_onTree 113 = .ok (.iload_n 2, 1) := by decide +kernel
theorem dX11_onTree_114 : decode cX11_onTree 114 = .ok (.invokevirtual 156, 3) := by decide +kernel
theorem dX11_onTree_117 : decode cX11_onTree 117 = .ok (.iadd, 1) := by decide +kernel
theorem dX11_onTree_118 : decode cX11_onTree 118 = .ok (.goto 4, 3) := by decide +kernel
theorem dX11_onTree_121 : decode cX11_onTree 121 = .ok (.iload_n 3, 1) := by decide +kernel
theorem dX11_onTree_122 : decode cX11_onTree 122 = .ok (.ireturn, 1) := by decide +kernel
theorem dX11_onTree_123 : decode cX11_onTree 123 = .ok (.aload_n 0, 1) := by decide +kernel
theorem dX11_onTree_124 : decode cX11_onTree 124 = .ok (.invokevirtual 159, 3) := by decide +kernel
theorem dX11_onTree_127 : decode cX11_onTree 127 = .ok (.ireturn, 1) := by decide +kernel
theorem dX11_onTree_128 : decode cX11_onTree 128 = .ok (.aload_n 0, 1) := by decide +kernel
theorem dX11_onTree_129 : decode cX11_onTree 129 = .ok (.invokevirtual 163, 3) := by decide +kernel
theorem dX11_onTree_132 : decode cX11_onTree 132 = .ok (.ireturn, 1) := by decide +kernel
theorem dX11_onTree_133 : decode cX11_onTree 133 = .ok (.iconst 0, 1) := by decide +kernel
theorem dX11_onTree_134 : decode cX11_onTree 134 = .ok (.ireturn, 1) := by decide +kernel
theorem dX11_up_0 : decode cX11_up 0 = .ok (.iload_n 1, 1) := by decide +kernel
theorem dX11_up_1 : decode cX11_up 1 = .ok (.istore_n 2, 1) := by decide +kernel
theorem dX11_up_2 : decode cX11_up 2 = .ok (.iconst 0, 1) := by decide +kernel
theorem dX11_up_3 : decode cX11_up 3 = .ok (.istore_n 3, 1) := by decide +kernel
theorem dX11_up_4 : decode cX11_up 4 = .ok (.iload_n 2, 1) := by decide +kernel
theorem dX11_up_5 : decode cX11_up 5 = .ok (.ifCond .le 68, 3) := by decide +kernel
theorem dX11_up_8 : decode cX11_up 8 = .ok (.aload_n 0, 1) := by decide +kernel
theorem dX11_up_9 : decode cX11_up 9 = .ok (.getfield 44, 3) := by decide +kernel
theorem dX11_up_12 : decode cX11_up 12 = .ok (.iload_n 2, 1) := by decide +kernel
theorem dX11_up_13 : decode cX11_up 13 = .ok (.iconst 1, 1) := by decide +kernel
theorem dX11_up_14 : decode cX11_up 14 = .ok (.isub, 1) := by decide +kernel
theorem dX11_up_15 : decode cX11_up 15 = .ok (.iconst 2, 1) := by decide +kernel
theorem dX11_up_16 : decode cX11_up 16 = .ok (.idiv, 1) := by decide +kernel
theorem dX11_up_17 : decode cX11_up 17 = .ok (.iaload, 1) := by decide +kernel
theorem dX11_up_18 : decode cX11_up 18 = .ok (.aload_n 0, 1) := by decide +kernel
theorem dX11_up_19 : decode cX11_up 19 = .ok (.getfield 44, 3) := by decide +kernel
theorem dX11_up_22 : decode cX11_up 22 = .ok (.iload_n 2, 1) := by decide +kernel
theorem dX11_up_23 : decode cX11_up 23 = .ok (.iaload, 1) := by decide +kernel
theorem dX11_up_24 : decode cX11_up 24 = .ok (.if_icmp .le 49, 3) := by decide +kernel
theorem dX11_up_27 : decode cX11_up 27 = .ok (.iload_n 2, 1) := by decide +kernel
theorem dX11_up_28 : decode cX11_up 28 = .ok (.iconst 1, 1) := by decide +kernel
theorem dX11_up_29 : decode cX11_up 29 = .ok (.isub, 1) := by decide +kernel
theorem dX11_up_30 : decode cX11_up 30 = .ok (.iconst 2, 1) := by decide +kernel
theorem dX11_up_31 : decode cX11_up 31 = .ok (.idiv, 1) := by decide +kernel
theorem dX11_up_32 : decode cX11_up 32 = .ok (.istore 4, 2) := by decide +kernel
theorem dX11_up_34 : decode cX11_up 34 = .ok (.aload_n 0, 1) := by decide +kernel
theorem dX11_up_35 : decode cX11_up 35 = .ok (.getfield 44, 3) := by decide +kernel
theorem dX11_up_38 : decode cX11_up 38 = .ok (.iload_n 2, 1) := by decide +kernel
theorem dX11_up_39 : decode cX11_up 39 = .ok (.iaload, 1) := by decide +kernel
theorem dX11_up_40 : decode cX11_up 40 = .ok (.istore 5, 2) := by decide +kernel
theorem dX11_up_42 : decode cX11_up 42 = .ok (.aload_n 0, 1) := by decide +kernel
theorem dX11_up_43 : decode cX11_up 43 = .ok (.getfield 44, 3) := by decide +kernel
theorem dX11_up_46 : decode cX11_up 46 = .ok (.iload_n 2, 1) := by decide +kernel
theorem dX11_up_47 : decode cX11_up 47 = .ok (.aload_n 0, 1) := by decide +kernel
theorem dX11_up_48 : decode cX11_up 48 = .ok (.getfield 44, 3) := by decide +kernel
theorem dX11_up_51 : decode cX11_up 51 = .ok (.iload 4, 2) := by decide +kernel
theorem dX11_up_53 : decode cX11_up 53 = .ok (.iaload, 1) := by decide +kernel
theorem dX11_up_54 : decode cX11_up 54 = .ok (.iastore, 1) := by decide +kernel
theorem dX11_up_55 : decode cX11_up 55 = .ok (.aload_n 0, 1) := by decide +kernel
theorem dX11_up_56 : decode cX11_up 56 = .ok (.getfield 44, 3) := by decide +kernel
theorem dX11_up_59 : decode cX11_up 59 = .ok (.iload 4, 2) := by decide +kernel
theorem dX11_up_61 : decode cX11_up 61 = .ok (.iload 5, 2) := by decide +kernel
theorem dX11_up_63 : decode cX11_up 63 = .ok (.iastore, 1) := by decide +kernel
theorem dX11_up_64 : decode cX11_up 64 = .ok (.iload 4, 2) := by decide +kernel
theorem dX11_up_66 : decode cX11_up 66 = .ok (.istore_n 2, 1) := by decide +kernel
theorem dX11_up_67 : decode cX11_up 67 = .ok (.iinc 3 1, 3) := by decide +kernel
theorem dX11_up_70 : decode cX11_up 70 = .ok (.goto (-66), 3) := by decide +kernel
theorem dX11_up_73 : decode cX11_up 73 = .ok (.iload_n 3, 1) := by decide +kernel
theorem dX11_up_74 : decode cX11_up 74 = .ok (.ireturn, 1) := by decide +kernel
theorem dX11_down_0 : decode cX11_down 0 = .ok (.iload_n 1, 1) := by decide +kernel
theorem dX11_down_1 : decode cX11_down 1 = .ok (.istore_n 3, 1) := by decide +kernel
theorem dX11_down_2 : decode cX11_down 2 = .ok (.iconst 0, 1) := by decide +kernel
theorem dX11_down_3 : decode cX11_down 3 = .ok (.istore 4, 2) := by decide +kernel
theorem dX11_down_5 : decode cX11_down 5 = .ok (.iconst 2, 1) := by decide +kernel
theorem dX11_down_6 : decode cX11_down 6 = .ok (.iload_n 3, 1) := by decide +kernel
theorem dX11_down_7 : decode cX11_down 7 = .ok (.imul, 1) := by decide +kernel
theorem dX11_down_8 : decode cX11_down 8 = .ok (.iconst 1, 1) := by decide +kernel
theorem dX11_down_9 : decode cX11_down 9 = .ok (.iadd, 1) := by decide +kernel
theorem dX11_down_10 : decode cX11_down 10 = .ok (.istore 5, 2) := by decide +kernel
theorem dX11_down_12 : decode cX11_down 12 = .ok (.iload 5, 2) := by decide +kernel
theorem dX11_down_14 : decode cX11_down 14 = .ok (.iload_n 2, 1) := by decide +kernel
theorem dX11_down_15 : decode cX11_down 15 = .ok (.if_icmp .lt 6, 3) := by decide +kernel
theorem dX11_down_18 : decode cX11_down 18 = .ok (.iload 4, 2) := by decide +kernel
theorem dX11_down_20 : decode cX11_down 20 = .ok (.ireturn, 1) := by decide +kernel
theorem dX11_down_21 : decode cX11_down 21 = .ok (.iload 5, 2) := by decide +kernel
theorem dX11_down_23 : decode cX11_down 23 = .ok (.iconst 1, 1) := by decide +kernel
theorem dX11_down_24 : decode cX11_down 24 = .ok (.iadd, 1) := by decide +kernel
theorem dX11_down_25 : decode cX11_down 25 = .ok (.iload_n 2, 1) := by decide +kernel
theorem dX11_down_26 : decode cX11_down 26 = .ok (.if_icmp .ge 25, 3) := by decide +kernel
theorem dX11_down_29 : decode cX11_down 29 = .ok (.aload_n 0, 1) := by decide +kernel
theorem dX11_down_30 : decode cX11_down 30 = .ok (.getfield 44, 3) := by decide +kernel
theorem dX11_down_33 : decode cX11_down 33 = .ok (.iload 5, 2) := by decide +kernel
theorem dX11_down_35 : decode cX11_down 35 = .ok (.iconst 1, 1) := by decide +kernel
theorem dX11_down_36 : decode cX11_down 36 = .ok (.iadd, 1) := by decide +kernel
theorem dX11_down_37 : decode cX11_down 37 = .ok (.iaload, 1) := by decide +kernel
theorem dX11_down_38 : decode cX11_down 38 = .ok (.aload_n 0, 1) := by decide +kernel
theorem dX11_down_39 : decode cX11_down 39 = .ok (.getfield 44, 3) := by decide +kernel
theorem dX11_down_42 : decode cX11_down 42 = .ok (.iload 5, 2) := by decide +kernel
theorem dX11_down_44 : decode cX11_down 44 = .ok (.iaload, 1) := by decide +kernel
theorem dX11_down_45 : decode cX11_down 45 = .ok (.if_icmp .ge 6, 3) := by decide +kernel
theorem dX11_down_48 : decode cX11_down 48 = .ok (.iinc 5 1, 3) := by decide +kernel
theorem dX11_down_51 : decode cX11_down 51 = .ok (.aload_n 0, 1) := by decide +kernel
theorem dX11_down_52 : decode cX11_down 52 = .ok (.getfield 44, 3) := by decide +kernel
theorem dX11_down_55 : decode cX11_down 55 = .ok (.iload 5, 2) := by decide +kernel
theorem dX11_down_57 : decode cX11_down 57 = .ok (.iaload, 1) := by decide +kernel
theorem dX11_down_58 : decode cX11_down 58 = .ok (.aload_n 0, 1) := by decide +kernel
theorem dX11_down_59 : decode cX11_down 59 = .ok (.getfield 44, 3) := by decide +kernel
theorem dX11_down_62 : decode cX11_down 62 = .ok (.iload_n 3, 1) := by decide +kernel
theorem dX11_down_63 : decode cX11_down 63 = .ok (.iaload, 1) := by decide +kernel
theorem dX11_down_64 : decode cX11_down 64 = .ok (.if_icmp .lt 6, 3) := by decide +kernel
theorem dX11_down_67 : decode cX11_down 67 = .ok (.iload 4, 2) := by decide +kernel
theorem dX11_down_69 : decode cX11_down 69 = .ok (.ireturn, 1) := by decide +kernel
theorem dX11_down_70 : decode cX11_down 70 = .ok (.aload_n 0, 1) := by decide +kernel
theorem dX11_down_71 : decode cX11_down 71 = .ok (.getfield 44, 3) := by decide +kernel
theorem dX11_down_74 : decode cX11_down 74 = .ok (.iload_n 3, 1) := by decide +kernel
theorem dX11_down_75 : decode cX11_down 75 = .ok (.iaload, 1) := by decide +kernel
theorem dX11_down_76 : decode cX11_down 76 = .ok (.istore 6, 2) := by decide +kernel
theorem dX11_down_78 : decode cX11_down 78 = .ok (.aload_n 0, 1) := by decide +kernel
theorem dX11_down_79 : decode cX11_down 79 = .ok (.getfield 44, 3) := by decide +kernel
theorem dX11_down_82 : decode cX11_down 82 = .ok (.iload_n 3, 1) := by decide +kernel
theorem dX11_down_83 : decode cX11_down 83 = .ok (.aload_n 0, 1) := by decide +kernel
theorem dX11_down_84 : decode cX11_down 84 = .ok (.getfield 44, 3) := by decide +kernel
theorem dX11_down_87 : decode cX11_down 87 = .ok (.iload 5, 2) := by decide +kernel
theorem dX11_down_89 : decode cX11_down 89 = .ok (.iaload, 1) := by decide +kernel
theorem dX11_down_90 : decode cX11_down 90 = .ok (.iastore, 1) := by decide +kernel
theorem dX11_down_91 : decode cX11_down 91 = .ok (.aload_n 0, 1) := by decide +kernel
theorem dX11_down_92 : decode cX11_down 92 = .ok (.getfield 44, 3) := by decide +kernel
theorem dX11_down_95 : decode cX11_down 95 = .ok (.iload 5, 2) := by decide +kernel
theorem dX11_down_97 : decode cX11_down 97 = .ok (.iload 6, 2) := by decide +kernel
theorem dX11_down_99 : decode cX11_down 99 = .ok (.iastore, 1) := by decide +kernel
theorem dX11_down_100 : decode cX11_down 100 = .ok (.iload 5, 2) := by decide +kernel
theorem dX11_down_102 : decode cX11_down 102 = .ok (.istore_n 3, 1) := by decide +kernel
theorem dX11_down_103 : decode cX11_down 103 = .ok (.iinc 4 1, 3) := by decide +kernel
theorem dX11_down_106 : decode cX11_down 106 = .ok (.goto (-101), 3) := by decide +kernel
theorem dX11_onHeap_0 : decode cX11_onHeap 0 = .ok (.iload_n 1, 1) := by decide +kernel
theorem dX11_onHeap_1 : decode cX11_onHeap 1 = .ok (.tableswitch 180 0 6 #[43, 72, 82, 180, 176, 180, 178], 43) := by decide +kernel
theorem dX11_onHeap_44 : decode cX11_onHeap 44 = .ok (.aload_n 0, 1) := by decide +kernel
theorem dX11_onHeap_45 : decode cX11_onHeap 45 = .ok (.iconst 4, 1) := by decide +kernel
theorem dX11_onHeap_46 : decode cX11_onHeap 46 = .ok (.invokevirtual 103, 3) := by decide +kernel
theorem dX11_onHeap_49 : decode cX11_onHeap 49 = .ok (.iconst 1, 1) := by decide +kernel
theorem dX11_onHeap_50 : decode cX11_onHeap 50 = .ok (.iadd, 1) := by decide +kernel
theorem dX11_onHeap_51 : decode cX11_onHeap 51 = .ok (.istore_n 3, 1) := by decide +kernel
theorem dX11_onHeap_52 : decode cX11_onHeap 52 = .ok (.aload_n 0, 1) := by decide +kernel
theorem dX11_onHeap_53 : decode cX11_onHeap 53 = .ok (.getfield 44, 3) := by decide +kernel
theorem dX11_onHeap_56 : decode cX11_onHeap 56 = .ok (.aload_n 0, 1) := by decide +kernel
theorem dX11_onHeap_57 : decode cX11_onHeap 57 = .ok (.getfield 96, 3) := by decide +kernel
theorem dX11_onHeap_60 : decode cX11_onHeap 60 = .ok (.iload_n 2, 1) := by decide +kernel
theorem dX11_onHeap_61 : decode cX11_onHeap 61 = .ok (.iastore, 1) := by decide +kernel
theorem dX11_onHeap_62 : decode cX11_onHeap 62 = .ok (.iload_n 3, 1) := by decide +kernel
theorem dX11_onHeap_63 : decode cX11_onHeap 63 = .ok (.aload_n 0, 1) := by decide +kernel
theorem dX11_onHeap_64 : decode cX11_onHeap 64 = .ok (.aload_n 0, 1) := by decide +kernel
theorem dX11_onHeap_65 : decode cX11_onHeap 65 = .ok (.getfield 96, 3) := by decide +kernel
theorem dX11_onHeap_68 : decode cX11_onHeap 68 = .ok (.invokevirtual 166, 3) := by decide +kernel
theorem dX11_onHeap_71 : decode cX11_onHeap 71 = .ok (.iadd, 1) := by decide +kernel
theorem dX11_onHeap_72 : decode cX11_onHeap 72 = .ok (.ireturn, 1) := by decide +kernel
theorem dX11_onHeap_73 : decode cX11_onHeap 73 = .ok (.aload_n 0, 1) := by decide +kernel
theorem dX11_onHeap_74 : decode cX11_onHeap 74 = .ok (.aload_n 0, 1) := by decide +kernel
theorem dX11_onHeap_75 : decode cX11_onHeap 75 = .ok (.getfield 44, 3) := by decide +kernel
theorem dX11_onHeap_78 : decode cX11_onHeap 78 = .ok (.iload_n 2, 1) := by decide +kernel
theorem dX11_onHeap_79 : decode cX11_onHeap 79 = .ok (.invokevirtual 107, 3) := by decide +kernel
theorem dX11_onHeap_82 : decode cX11_onHeap 82 = .ok (.ireturn, 1) := by decide +kernel
theorem dX11_onHeap_83 : decode cX11_onHeap 83 = .ok (.aload_n 0, 1) := by decide +kernel
theorem dX11_onHeap_84 : decode cX11_onHeap 84 = .ok (.aload_n 0, 1) := by decide +kernel
theorem dX11_onHeap_85 : decode cX11_onHeap 85 = .ok (.getfield 44, 3) := by decide +kernel
theorem dX11_onHeap_88 : decode cX11_onHeap 88 = .ok (.iload_n 2, 1) := by decide +kernel
theorem dX11_onHeap_89 : decode cX11_onHeap 89 = .ok (.invokevirtual 107, 3) := by decide +kernel
theorem dX11_onHeap_92 : decode cX11_onHeap 92 = .ok (.istore_n 3, 1) := by decide +kernel
theorem dX11_onHeap_93 : decode cX11_onHeap 93 = .ok (.aload_n 0, 1) := by decide +kernel
theorem dX11_onHeap_94 : decode cX11_onHeap 94 = .ok (.getfield 44, 3) := by decide +kernel
theorem dX11_onHeap_97 : decode cX11_onHeap 97 = .ok (.aload_n 0, 1) := by decide +kernel
theorem dX11_onHeap_98 : decode cX11_onHeap 98 = .ok (.getfield 96, 3) := by decide +kernel
theorem dX11_onHeap_101 : decode cX11_onHeap 101 = .ok (.iload_n 2, 1) := by decide +kernel
theorem dX11_onHeap_102 : decode cX11_onHeap 102 = .ok (.invokestatic 99, 3) := by decide +kernel
theorem dX11_onHeap_105 : decode cX11_onHeap 105 = .ok (.istore 4, 2) := by decide +kernel
theorem dX11_onHeap_107 : decode cX11_onHeap 107 = .ok (.iload 4, 2) := by decide +kernel
theorem dX11_onHeap_109 : decode cX11_onHeap 109 = .ok (.iconst (-1), 1) := by decide +kernel
theorem dX11_onHeap_110 : decode cX11_onHeap 110 = .ok (.if_icmp .eq 14, 3) := by decide +kernel
theorem dX11_onHeap_113 : decode cX11_onHeap 113 = .ok (.iload 4, 2) := by decide +kernel
theorem dX11_onHeap_115 : decode cX11_onHeap 115 = .ok (.aload_n 0, 1) := by decide +kernel
theorem dX11_onHeap_116 : decode cX11_onHeap 116 = .ok (.getfield 96, 3) := by decide +kernel
theorem dX11_onHeap_119 : decode cX11_onHeap 119 = .ok (.iconst 1, 1) := by decide +kernel
theorem dX11_onHeap_120 : decode cX11_onHeap 120 = .ok (.isub, 1) := by decide +kernel
theorem dX11_onHeap_121 : decode cX11_onHeap 121 = .ok (.if_icmp .ne 5, 3) := by decide +kernel
theorem dX11_onHeap_124 : decode cX11_onHeap 124 = .ok (.iload_n 3, 1) := by decide +kernel
theorem dX11_onHeap_125 : decode cX11_onHeap 125 = .ok (.ireturn, 1) := by decide +kernel
theorem dX11_onHeap_126 : decode cX11_onHeap 126 = .ok (.aload_n 0, 1) := by decide +kernel
theorem dX11_onHeap_127 : decode cX11_onHeap 127 = .ok (.getfield 44, 3) := by decide +kernel
theorem dX11_onHeap_130 : decode cX11_onHeap 130 = .ok (.iload 4, 2) := by decide +kernel
theorem dX11_onHeap_132 : decode cX11_onHeap 132 = .ok (.aload_n 0, 1) := by decide +kernel
theorem dX11_onHeap_133 : decode cX11_onHeap 133 = .ok (.getfield 44, 3) := by decide +kernel
theorem dX11_onHeap_136 : decode cX11_onHeap 136 = .ok (.aload_n 0, 1) := by decide +kernel
theorem dX11_onHeap_137 : decode cX11_onHeap 137 = .ok (.getfield 96, 3) := by decide +kernel
theorem dX11_onHeap_140 : decode cX11_onHeap 140 = .ok (.iconst 1, 1) := by decide +kernel
theorem dX11_onHeap_141 : decode cX11_onHeap 141 = .ok (.isub, 1) := by decide +kernel
theorem dX11_onHeap_142 : decode cX11_onHeap 142 = .ok (.iaload, 1) := by decide +kernel
theorem dX11_onHeap_143 : decode cX11_onHeap 143 = .ok (.iastore, 1) := by decide +kernel
theorem dX11_onHeap_144 : decode cX11_onHeap 144 = .ok (.aload_n 0, 1) := by decide +kernel
theorem dX11_onHeap_145 : decode cX11_onHeap 145 = .ok (.iload 4, 2) := by decide +kernel
theorem dX11_onHeap_147 : decode cX11_onHeap 147 = .ok (.invokevirtual 166, 3) := by decide +kernel
theorem dX11_onHeap_150 : decode cX11_onHeap 150 = .ok (.istore 5, 2) := by decide +kernel
theorem dX11_onHeap_152 : decode cX11_onHeap 152 = .ok (.iload_n 3, 1) := by decide +kernel
theorem dX11_onHeap_153 : decode cX11_onHeap 153 = .ok (.iload 5, 2) := by decide +kernel
theorem dX11_onHeap_155 : decode cX11_onHeap 155 = .ok (.ifCond .le 8, 3) := by decide +kernel
theorem dX11_onHeap_158 : decode cX11_onHeap 158 = .ok (.iload 5, 2) := by decide +kernel
theorem dX11_onHeap_160 : decode cX11_onHeap 160 = .ok (.goto 15, 3) := by decide +kernel
theorem dX11_onHeap_163 : decode cX11_onHeap 163 = .ok (.aload_n 0, 1) := by decide +kernel
theorem dX11_onHeap_164 : decode cX11_onHeap 164 = .ok (.iload 4, 2) := by decide +kernel
theorem dX11_onHeap_166 : decode cX11_onHeap 166 = .ok (.aload_n 0, 1) := by decide +kernel
theorem dX11_onHeap_167 : decode cX11_onHeap 167 = .ok (.getfield 96, 3) := by decide +kernel
theorem dX11_onHeap_170 : decode cX11_onHeap 170 = .ok (.iconst 1, 1) := by decide +kernel
theorem dX11_onHeap_171 : decode cX11_onHeap 171 = .ok (.isub, 1) := by decide +kernel
theorem dX11_onHeap_172 : decode cX11_onHeap 172 = .ok (.invokevirtual 169, 3) := by decide +kernel
theorem dX11_onHeap_175 : decode cX11_onHeap 175 = .ok (.iadd, 1) := by decide +kernel
theorem dX11_onHeap_176 : decode cX11_onHeap 176 = .ok (.ireturn, 1) := by decide +kernel
theorem dX11_onHeap_177 : decode cX11_onHeap 177 = .ok (.iconst 1, 1) := by decide +kernel
theorem dX11_onHeap_178 : decode cX11_onHeap 178 = .ok (.ireturn, 1) := by decide +kernel
theorem dX11_onHeap_179 : decode cX11_onHeap 179 = .ok (.iconst 0, 1) := by decide +kernel
theorem dX11_onHeap_180 : decode cX11_onHeap 180 = .ok (.ireturn, 1) := by decide +kernel
theorem dX11_onHeap_181 : decode cX11_onHeap 181 = .ok (.aload_n 0, 1) := by decide +kernel
theorem dX11_onHeap_182 : decode cX11_onHeap 182 = .ok (.getfield 96, 3) := by decide +kernel
theorem dX11_onHeap_185 : decode cX11_onHeap 185 = .ok (.ireturn, 1) := by decide +kernel
theorem dX11_onBits_0 : decode cX11_onBits 0 = .ok (.iload_n 1, 1) := by decide +kernel
theorem dX11_onBits_1 : decode cX11_onBits 1 = .ok (.iconst 5, 1) := by decide +kernel
theorem dX11_onBits_2 : decode cX11_onBits 2 = .ok (.if_icmp .ne 7, 3) := by decide +kernel
theorem dX11_onBits_5 : decode cX11_onBits 5 = .ok (.iload_n 2, 1) := by decide +kernel
theorem dX11_onBits_6 : decode cX11_onBits 6 = .ok (.goto 4, 3) := by decide +kernel
theorem dX11_onBits_9 : decode cX11_onBits 9 = .ok (.iconst 0, 1) := by decide +kernel
theorem dX11_onBits_10 : decode cX11_onBits 10 = .ok (.istore_n 3, 1) := by decide +kernel
theorem dX11_onBits_11 : decode cX11_onBits 11 = .ok (.iload_n 1, 1) := by decide +kernel
theorem dX11_onBits_12 : decode cX11_onBits 12 = .ok (.tableswitch 62 3 6 #[32, 35, 35, 60], 32) := by decide +kernel
theorem dX11_onBits_44 : decode cX11_onBits 44 = .ok (.bipush 64, 2) := by decide +kernel
theorem dX11_onBits_46 : decode cX11_onBits 46 = .ok (.ireturn, 1) := by decide +kernel
theorem dX11_onBits_47 : decode cX11_onBits 47 = .ok (.aload_n 0, 1) := by decide +kernel
theorem dX11_onBits_48 : decode cX11_onBits 48 = .ok (.iload_n 3, 1) := by decide +kernel
theorem dX11_onBits_49 : decode cX11_onBits 49 = .ok (.invokevirtual 172, 3) := by decide +kernel
theorem dX11_onBits_52 : decode cX11_onBits 52 = .ok (.istore 4, 2) := by decide +kernel
theorem dX11_onBits_54 : decode cX11_onBits 54 = .ok (.iload 4, 2) := by decide +kernel
theorem dX11_onBits_56 : decode cX11_onBits 56 = .ok (.iconst (-1), 1) := by decide +kernel
theorem dX11_onBits_57 : decode cX11_onBits 57 = .ok (.if_icmp .ne 8, 3) := by decide +kernel
theorem dX11_onBits_60 : decode cX11_onBits 60 = .ok (.bipush 63, 2) := by decide +kernel
theorem dX11_onBits_62 : decode cX11_onBits 62 = .ok (.goto 5, 3) := by decide +kernel
theorem dX11_onBits_65 : decode cX11_onBits 65 = .ok (.iload 4, 2) := by decide +kernel
theorem dX11_onBits_67 : decode cX11_onBits 67 = .ok (.iload_n 3, 1) := by decide +kernel
theorem dX11_onBits_68 : decode cX11_onBits 68 = .ok (.isub, 1) := by decide +kernel
theorem dX11_onBits_69 : decode cX11_onBits 69 = .ok (.iconst 1, 1) := by decide +kernel
theorem dX11_onBits_70 : decode cX11_onBits 70 = .ok (.iadd, 1) := by decide +kernel
theorem dX11_onBits_71 : decode cX11_onBits 71 = .ok (.ireturn, 1) := by decide +kernel
theorem dX11_onBits_72 : decode cX11_onBits 72 = .ok (.iconst 0, 1) := by decide +kernel
theorem dX11_onBits_73 : decode cX11_onBits 73 = .ok (.ireturn, 1) := by decide +kernel
theorem dX11_onBits_74 : decode cX11_onBits 74 = .ok (.iconst 1, 1) := by decide +kernel
theorem dX11_onBits_75 : decode cX11_onBits 75 = .ok (.ireturn, 1) := by decide +kernel
theorem dX11_roomOf_0 : decode cX11_roomOf 0 = .ok (.iload_n 1, 1) := by decide +kernel
theorem dX11_roomOf_1 : decode cX11_roomOf 1 = .ok (.tableswitch 53 2 5 #[31, 43, 53, 50], 31) := by decide +kernel
theorem dX11_roomOf_32 : decode cX11_roomOf 32 = .ok (.aload_n 0, 1) := by decide +kernel
theorem dX11_roomOf_33 : decode cX11_roomOf 33 = .ok (.getfield 121, 3) := by decide +kernel
theorem dX11_roomOf_36 : decode cX11_roomOf 36 = .ok (.iconst 2, 1) := by decide +kernel
theorem dX11_roomOf_37 : decode cX11_roomOf 37 = .ok (.aload_n 0, 1) := by decide +kernel
theorem dX11_roomOf_38 : decode cX11_roomOf 38 = .ok (.getfield 96, 3) := by decide +kernel
theorem dX11_roomOf_41 : decode cX11_roomOf 41 = .ok (.imul, 1) := by decide +kernel
theorem dX11_roomOf_42 : decode cX11_roomOf 42 = .ok (.iadd, 1) := by decide +kernel
theorem dX11_roomOf_43 : decode cX11_roomOf 43 = .ok (.ireturn, 1) := by decide +kernel
theorem dX11_roomOf_44 : decode cX11_roomOf 44 = .ok (.iconst 4, 1) := by decide +kernel
theorem dX11_roomOf_45 : decode cX11_roomOf 45 = .ok (.aload_n 0, 1) := by decide +kernel
theorem dX11_roomOf_46 : decode cX11_roomOf 46 = .ok (.invokevirtual 159, 3) := by decide +kernel
theorem dX11_roomOf_49 : decode cX11_roomOf 49 = .ok (.imul, 1) := by decide +kernel
theorem dX11_roomOf_50 : decode cX11_roomOf 50 = .ok (.ireturn, 1) := by decide +kernel
theorem dX11_roomOf_51 : decode cX11_roomOf 51 = .ok (.bipush 64, 2) := by decide +kernel
