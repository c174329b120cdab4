theorem dX0_init_0 : decode cX0_init 0 = .ok (.aload_n 0, 1) := by decide +kernel
theorem dX0_init_1 : decode cX0_init 1 = .ok (.invokespecial 3, 3) := by decide +kernel
theorem dX0_init_4 : decode cX0_init 4 = .ok (.return_, 1) := by decide +kernel
theorem dX0_room_0 : decode cX0_room 0 = .ok (.bipush 64, 2) := by decide +kernel
theorem dX0_room_2 : decode cX0_room 2 = .ok (.ireturn, 1) := by decide +kernel
theorem dX0_step_0 : decode cX0_step 0 = .ok (.iload_n 1, 1) := by decide +kernel
theorem dX0_step_1 : decode cX0_step 1 = .ok (.tableswitch 92 0 6 #[43, 92, 55, 75, 78, 84, 90], 43) := by decide +kernel
theorem dX0_step_44 : decode cX0_step 44 = .ok (.aload_n 0, 1) := by decide +kernel
theorem dX0_step_45 : decode cX0_step 45 = .ok (.getfield 9, 3) := by decide +kernel
theorem dX0_step_48 : decode cX0_step 48 = .ok (.iload_n 2, 1) := by decide +kernel
theorem dX0_step_49 : decode cX0_step 49 = .ok (.dup2, 1) := by decide +kernel
theorem dX0_step_50 : decode cX0_step 50 = .ok (.iaload, 1) := by decide +kernel
theorem dX0_step_51 : decode cX0_step 51 = .ok (.iconst 1, 1) := by decide +kernel
theorem dX0_step_52 : decode cX0_step 52 = .ok (.iadd, 1) := by decide +kernel
theorem dX0_step_53 : decode cX0_step 53 = .ok (.iastore, 1) := by decide +kernel
theorem dX0_step_54 : decode cX0_step 54 = .ok (.iconst 1, 1) := by decide +kernel
theorem dX0_step_55 : decode cX0_step 55 = .ok (.ireturn, 1) := by decide +kernel
theorem dX0_step_56 : decode cX0_step 56 = .ok (.aload_n 0, 1) := by decide +kernel
theorem dX0_step_57 : decode cX0_step 57 = .ok (.getfield 9, 3) := by decide +kernel
theorem dX0_step_60 : decode cX0_step 60 = .ok (.iload_n 2, 1) := by decide +kernel
theorem dX0_step_61 : decode cX0_step 61 = .ok (.aload_n 0, 1) := by decide +kernel
theorem dX0_step_62 : decode cX0_step 62 = .ok (.getfield 9, 3) := by decide +kernel
theorem dX0_step_65 : decode cX0_step 65 = .ok (.iload_n 2, 1) := by decide +kernel
theorem dX0_step_66 : decode cX0_step 66 = .ok (.iaload, 1) := by decide +kernel
theorem dX0_step_67 : decode cX0_step 67 = .ok (.iconst 1, 1) := by decide +kernel
theorem dX0_step_68 : decode cX0_step 68 = .ok (.isub, 1) := by decide +kernel
theorem dX0_step_69 : decode cX0_step 69 = .ok (.iconst 0, 1) := by decide +kernel
theorem dX0_step_70 : decode cX0_step 70 = .ok (.invokestatic 15, 3) := by decide +kernel
theorem dX0_step_73 : decode cX0_step 73 = .ok (.iastore, 1) := by decide +kernel
theorem dX0_step_74 : decode cX0_step 74 = .ok (.iconst 1, 1) := by decide +kernel
theorem dX0_step_75 : decode cX0_step 75 = .ok (.ireturn, 1) := by decide +kernel
theorem dX0_step_76 : decode cX0_step 76 = .ok (.bipush 64, 2) := by decide +kernel
theorem dX0_step_78 : decode cX0_step 78 = .ok (.ireturn, 1) := by decide +kernel
theorem dX0_step_79 : decode cX0_step 79 = .ok (.aload_n 0, 1) := by decide +kernel
theorem dX0_step_80 : decode cX0_step 80 = .ok (.iconst 0, 1) := by decide +kernel
theorem dX0_step_81 : decode cX0_step 81 = .ok (.invokevirtual 21, 3) := by decide +kernel
theorem dX0_step_84 : decode cX0_step 84 = .ok (.ireturn, 1) := by decide +kernel
theorem dX0_step_85 : decode cX0_step 85 = .ok (.aload_n 0, 1) := by decide +kernel
theorem dX0_step_86 : decode cX0_step 86 = .ok (.iload_n 2, 1) := by decide +kernel
theorem dX0_step_87 : decode cX0_step 87 = .ok (.invokevirtual 21, 3) := by decide +kernel
theorem dX0_step_90 : decode cX0_step 90 = .ok (.ireturn, 1) := by decide +kernel
theorem dX0_step_91 : decode cX0_step 91 = .ok (.iconst 0, 1) := by decide +kernel
theorem dX0_step_92 : decode cX0_step 92 = .ok (.ireturn, 1) := by decide +kernel
theorem dX0_step_93 : decode cX0_step 93 = .ok (.iconst 1, 1) := by decide +kernel
theorem dX0_step_94 : decode cX0_step 94 = .ok (.ireturn, 1) := by decide +kernel
theorem dX0_lookFrom_0 : decode cX0_lookFrom 0 = .ok (.iload_n 1, 1) := by decide +kernel
theorem dX0_lookFrom_1 : decode cX0_lookFrom 1 = .ok (.istore_n 2, 1) := by decide +kernel
theorem dX0_lookFrom_2 : decode cX0_lookFrom 2 = .ok (.iload_n 2, 1) := by decide +kernel
theorem dX0_lookFrom_3 : decode cX0_lookFrom 3 = .ok (.bipush 63, 2) := by decide +kernel
theorem dX0_lookFrom_5 : decode cX0_lookFrom 5 = .ok (.if_icmp .ge 18, 3) := by decide +kernel
theorem dX0_lookFrom_8 : decode cX0_lookFrom 8 = .ok (.aload_n 0, 1) := by decide +kernel
theorem dX0_lookFrom_9 : decode cX0_lookFrom 9 = .ok (.getfield 9, 3) := by decide +kernel
theorem dX0_lookFrom_12 : decode cX0_lookFrom 12 = .ok (.iload_n 2, 1) := by decide +kernel
theorem dX0_lookFrom_13 : decode cX0_lookFrom 13 = .ok (.iaload, 1) := by decide +kernel
theorem dX0_lookFrom_14 : decode cX0_lookFrom 14 = .ok (.ifCond .ne 9, 3) := by decide +kernel
theorem dX0_lookFrom_17 : decode cX0_lookFrom 17 = .ok (.iinc 2 1, 3) := by decide +kernel
theorem dX0_lookFrom_20 : decode cX0_lookFrom 20 = .ok (.goto (-18), 3) := by decide +kernel
theorem dX0_lookFrom_23 : decode cX0_lookFrom 23 = .ok (.iload_n 2, 1) := by decide +kernel
theorem dX0_lookFrom_24 : decode cX0_lookFrom 24 = .ok (.iload_n 1, 1) := by decide +kernel
theorem dX0_lookFrom_25 : decode cX0_lookFrom 25 = .ok (.isub, 1) := by decide +kernel
theorem dX0_lookFrom_26 : decode cX0_lookFrom 26 = .ok (.iconst 1, 1) := by decide +kernel
theorem dX0_lookFrom_27 : decode cX0_lookFrom 27 = .ok (.iadd, 1) := by decide +kernel
theorem dX0_lookFrom_28 : decode cX0_lookFrom 28 = .ok (.ireturn, 1) := by decide +kernel
theorem dX1_init_0 : decode cX1_init 0 = .ok (.aload_n 0, 1) := by decide +kernel
theorem dX1_init_1 : decode cX1_init 1 = .ok (.invokespecial 3, 3) := by decide +kernel
theorem dX1_init_4 : decode cX1_init 4 = .ok (.aload_n 0, 1) := by decide +kernel
theorem dX1_init_5 : decode cX1_init 5 = .ok (.bipush 64, 2) := by decide +kernel
theorem dX1_init_7 : decode cX1_init 7 = .ok (.newarray .int, 2) := by decide +kernel
theorem dX1_init_9 : decode cX1_init 9 = .ok (.putfield 9, 3) := by decide +kernel
theorem dX1_init_12 : decode cX1_init 12 = .ok (.return_, 1) := by decide +kernel
theorem dX1_keyAt_0 : decode cX1_keyAt 0 = .ok (.iconst 0, 1) := by decide +kernel
theorem dX1_keyAt_1 : decode cX1_keyAt 1 = .ok (.istore_n 2, 1) := by decide +kernel
theorem dX1_keyAt_2 : decode cX1_keyAt 2 = .ok (.iconst 0, 1) := by decide +kernel
theorem dX1_keyAt_3 : decode cX1_keyAt 3 = .ok (.istore_n 3, 1) := by decide +kernel
theorem dX1_keyAt_4 : decode cX1_keyAt 4 = .ok (.iload_n 3, 1) := by decide +kernel
theorem dX1_keyAt_5 : decode cX1_keyAt 5 = .ok (.bipush 64, 2) := by decide +kernel
theorem dX1_keyAt_7 : decode cX1_keyAt 7 = .ok (.if_icmp .ge 29, 3) := by decide +kernel
theorem dX1_keyAt_10 : decode cX1_keyAt 10 = .ok (.iload_n 2, 1) := by decide +kernel
theorem dX1_keyAt_11 : decode cX1_keyAt 11 = .ok (.aload_n 0, 1) := by decide +kernel
theorem dX1_keyAt_12 : decode cX1_keyAt 12 = .ok (.getfield 9, 3) := by decide +kernel
theorem dX1_keyAt_15 : decode cX1_keyAt 15 = .ok (.iload_n 3, 1) := by decide +kernel
theorem dX1_keyAt_16 : decode cX1_keyAt 16 = .ok (.iaload, 1) := by decide +kernel
theorem dX1_keyAt_17 : decode cX1_keyAt 17 = .ok (.iadd, 1) := by decide +kernel
theorem dX1_keyAt_18 : decode cX1_keyAt 18 = .ok (.istore_n 2, 1) := by decide +kernel
theorem dX1_keyAt_19 : decode cX1_keyAt 19 = .ok (.iload_n 1, 1) := by decide +kernel
theorem dX1_keyAt_20 : decode cX1_keyAt 20 = .ok (.ifCond .lt 10, 3) := by decide +kernel
theorem dX1_keyAt_23 : decode cX1_keyAt 23 = .ok (.iload_n 1, 1) := by decide +kernel
theorem dX1_keyAt_24 : decode cX1_keyAt 24 = .ok (.iload_n 2, 1) := by decide +kernel
theorem dX1_keyAt_25 : decode cX1_keyAt 25 = .ok (.if_icmp .ge 5, 3) := by decide +kernel
theorem dX1_keyAt_28 : decode cX1_keyAt 28 = .ok (.iload_n 3, 1) := by decide +kernel
theorem dX1_keyAt_29 : decode cX1_keyAt 29 = .ok (.ireturn, 1) := by decide +kernel
theorem dX1_keyAt_30 : decode cX1_keyAt 30 = .ok (.iinc 3 1, 3) := by decide +kernel
theorem dX1_keyAt_33 : decode cX1_keyAt 33 = .ok (.goto (-29), 3) := by decide +kernel
theorem dX1_keyAt_36 : decode cX1_keyAt 36 = .ok (.iconst (-1), 1) := by decide +kernel
theorem dX1_keyAt_37 : decode cX1_keyAt 37 = .ok (.ireturn, 1) := by decide +kernel
theorem dX1_clear_0 : decode cX1_clear 0 = .ok (.aload_n 0, 1) := by decide +kernel
theorem dX1_clear_1 : decode cX1_clear 1 = .ok (.getfield 9, 3) := by decide +kernel
theorem dX1_clear_4 : decode cX1_clear 4 = .ok (.iconst 0, 1) := by decide +kernel
theorem dX1_clear_5 : decode cX1_clear 5 = .ok (.invokestatic 15, 3) := by decide +kernel
theorem dX1_clear_8 : decode cX1_clear 8 = .ok (.return_, 1) := by decide +kernel
theorem dX2_init_0 : decode cX2_init 0 = .ok (.aload_n 0, 1) := by decide +kernel
theorem dX2_init_1 : decode cX2_init 1 = .ok (.bipush 8, 2) := by decide +kernel
theorem dX2_init_3 : decode cX2_init 3 = .ok (.invokespecial 3, 3) := by decide +kernel
theorem dX2_init_6 : decode cX2_init 6 = .ok (.aload_n 0, 1) := by decide +kernel
theorem dX2_init_7 : decode cX2_init 7 = .ok (.sipush 200, 3) := by decide +kernel
theorem dX2_init_10 : decode cX2_init 10 = .ok (.newarray .int, 2) := by decide +kernel
theorem dX2_init_12 : decode cX2_init 12 = .ok (.putfield 9, 3) := by decide +kernel
theorem dX2_init_15 : decode cX2_init 15 = .ok (.return_, 1) := by decide +kernel
theorem dX2_room_0 : decode cX2_room 0 = .ok (.aload_n 0, 1) := by decide +kernel
theorem dX2_room_1 : decode cX2_room 1 = .ok (.getfield 15, 3) := by decide +kernel
theorem dX2_room_4 : decode cX2_room 4 = .ok (.iconst 2, 1) := by decide +kernel
theorem dX2_room_5 : decode cX2_room 5 = .ok (.aload_n 0, 1) := by decide +kernel
theorem dX2_room_6 : decode cX2_room 6 = .ok (.getfield 19, 3) := by decide +kernel
theorem dX2_room_9 : decode cX2_room 9 = .ok (.imul, 1) := by decide +kernel
theorem dX2_room_10 : decode cX2_room 10 = .ok (.iadd, 1) := by decide +kernel
theorem dX2_room_11 : decode cX2_room 11 = .ok (.ireturn, 1) := by decide +kernel
theorem dX2_step_0 : decode cX2_step 0 = .ok (.iload_n 1, 1) := by decide +kernel
theorem dX2_step_1 : decode cX2_step 1 = .ok (.tableswitch 96 0 7 #[47, 58, 64, 96, 96, 96, 70, 72], 47) := by decide +kernel
theorem dX2_step_48 : decode cX2_step 48 = .ok (.aload_n 0, 1) := by decide +kernel
theorem dX2_step_49 : decode cX2_step 49 = .ok (.invokevirtual 22, 3) := by decide +kernel
theorem dX2_step_52 : decode cX2_step 52 = .ok (.aload_n 0, 1) := by decide +kernel
theorem dX2_step_53 : decode cX2_step 53 = .ok (.iload_n 2, 1) := by decide +kernel
theorem dX2_step_54 : decode cX2_step 54 = .ok (.invokevirtual 26, 3) := by decide +kernel
theorem dX2_step_57 : decode cX2_step 57 = .ok (.iadd, 1) := by decide +kernel
theorem dX2_step_58 : decode cX2_step 58 = .ok (.ireturn, 1) := by decide +kernel
theorem dX2_step_59 : decode cX2_step 59 = .ok (.aload_n 0, 1) := by decide +kernel
theorem dX2_step_60 : decode cX2_step 60 = .ok (.iload_n 2, 1) := by decide +kernel
theorem dX2_step_61 : decode cX2_step 61 = .ok (.invokevirtual 30, 3) := by decide +kernel
theorem dX2_step_64 : decode cX2_step 64 = .ok (.ireturn, 1) := by decide +kernel
theorem dX2_step_65 : decode cX2_step 65 = .ok (.aload_n 0, 1) := by decide +kernel
theorem dX2_step_66 : decode cX2_step 66 = .ok (.iload_n 2, 1) := by decide +kernel
theorem dX2_step_67 : decode cX2_step 67 = .ok (.invokevirtual 33, 3) := by decide +kernel
theorem dX2_step_70 : decode cX2_step 70 = .ok (.ireturn, 1) := by decide +kernel
theorem dX2_step_71 : decode cX2_step 71 = .ok (.iconst 0, 1) := by decide +kernel
theorem dX2_step_72 : decode cX2_step 72 = .ok (.ireturn, 1) := by decide +kernel
theorem dX2_step_73 : decode cX2_step 73 = .ok (.iconst 1, 1) := by decide +kernel
theorem dX2_step_74 : decode cX2_step 74 = .ok (.aload_n 0, 1) := by decide +kernel
theorem dX2_step_75 : decode cX2_step 75 = .ok (.aload_n 0, 1) := by decide +kernel
theorem dX2_step_76 : decode cX2_step 76 = .ok (.iload_n 2, 1) := by decide +kernel
theorem dX2_step_77 : decode cX2_step 77 = .ok (.invokevirtual 36, 3) := by decide +kernel
theorem dX2_step_80 : decode cX2_step 80 = .ok (.iconst 1, 1) := by decide +kernel
theorem dX2_step_81 : decode cX2_step 81 = .ok (.iadd, 1) := by decide +kernel
theorem dX2_step_82 : decode cX2_step 82 = .ok (.invokevirtual 39, 3) := by decide +kernel
theorem dX2_step_85 : decode cX2_step 85 = .ok (.iadd, 1) := by decide +kernel
theorem dX2_step_86 : decode cX2_step 86 = .ok (.aload_n 0, 1) := by decide +kernel
theorem dX2_step_87 : decode cX2_step 87 = .ok (.aload_n 0, 1) := by decide +kernel
theorem dX2_step_88 : decode cX2_step 88 = .ok (.iload_n 2, 1) := by decide +kernel
theorem dX2_step_89 : decode cX2_step 89 = .ok (.invokevirtual 36, 3) := by decide +kernel
theorem dX2_step_92 : decode cX2_step 92 = .ok (.invokevirtual 39, 3) := by decide +kernel
theorem dX2_step_95 : decode cX2_step 95 = .ok (.isub, 1) := by decide +kernel
theorem dX2_step_96 : decode cX2_step 96 = .ok (.ireturn, 1) := by decide +kernel
theorem dX2_step_97 : decode cX2_step 97 = .ok (.aload_n 0, 1) := by decide +kernel
theorem dX2_step_98 : decode cX2_step 98 = .ok (.getfield 15, 3) := by decide +kernel
theorem dX2_step_101 : decode cX2_step 101 = .ok (.aload_n 0, 1) := by decide +kernel
theorem dX2_step_102 : decode cX2_step 102 = .ok (.getfield 19, 3) := by decide +kernel
theorem dX2_step_105 : decode cX2_step 105 = .ok (.iadd, 1) := by decide +kernel
theorem dX2_step_106 : decode cX2_step 106 = .ok (.ireturn, 1) := by decide +kernel
theorem dX2_chainOf_0 : decode cX2_chainOf 0 = .ok (.iload_n 1, 1) := by decide +kernel
theorem dX2_chainOf_1 : decode cX2_chainOf 1 = .ok (.aload_n 0, 1) := by decide +kernel
theorem dX2_chainOf_2 : decode cX2_chainOf 2 = .ok (.getfield 15, 3) := by decide +kernel
theorem dX2_chainOf_5 : decode cX2_chainOf 5 = .ok (.iconst 1, 1) := by decide +kernel
theorem dX2_chainOf_6 : decode cX2_chainOf 6 = .ok (.isub, 1) := by decide +kernel
theorem dX2_chainOf_7 : decode cX2_chainOf 7 = .ok (.iand, 1) := by decide +kernel
theorem dX2_chainOf_8 : decode cX2_chainOf 8 = .ok (.ireturn, 1) := by decide +kernel
theorem dX2_headOfChain_0 : decode cX2_headOfChain 0 = .ok (.iconst 0, 1) := by decide +kernel
theorem dX2_headOfChain_1 : decode cX2_headOfChain 1 = .ok (.istore_n 2, 1) := by decide +kernel
theorem dX2_headOfChain_2 : decode cX2_headOfChain 2 = .ok (.iload_n 2, 1) := by decide +kernel
theorem dX2_headOfChain_3 : decode cX2_headOfChain 3 = .ok (.aload_n 0, 1) := by decide +kernel
theorem dX2_headOfChain_4 : decode cX2_headOfChain 4 = .ok (.getfield 19, 3) := by decide +kernel
theorem dX2_headOfChain_7 : decode cX2_headOfChain 7 = .ok (.if_icmp .ge 23, 3) := by decide +kernel
theorem dX2_headOfChain_10 : decode cX2_headOfChain 10 = .ok (.aload_n 0, 1) := by decide +kernel
theorem dX2_headOfChain_11 : decode cX2_headOfChain 11 = .ok (.aload_n 0, 1) := by decide +kernel
theorem dX2_headOfChain_12 : decode cX2_headOfChain 12 = .ok (.getfield 42, 3) := by decide +kernel
theorem dX2_headOfChain_15 : decode cX2_headOfChain 15 = .ok (.iload_n 2, 1) := by decide +kernel
theorem dX2_headOfChain_16 : decode cX2_headOfChain 16 = .ok (.iaload, 1) := by decide +kernel
theorem dX2_headOfChain_17 : decode cX2_headOfChain 17 = .ok (.invokevirtual 36, 3) := by decide +kernel
theorem dX2_headOfChain_20 : decode cX2_headOfChain 20 = .ok (.iload_n 1, 1) := by decide +kernel
theorem dX2_headOfChain_21 : decode cX2_headOfChain 21 = .ok (.if_icmp .ge 9, 3) := by decide +kernel
theorem dX2_headOfChain_24 : decode cX2_headOfChain 24 = .ok (.iinc 2 1, 3) := by decide +kernel
theorem dX2_headOfChain_27 : decode cX2_headOfChain 27 = .ok (.goto (-25), 3) := by decide +kernel
theorem dX2_headOfChain_30 : decode cX2_headOfChain 30 = .ok (.iload_n 2, 1) := by decide +kernel
theorem dX2_headOfChain_31 : decode cX2_headOfChain 31 = .ok (.ireturn, 1) := by decide +kernel
theorem dX2_seek_0 : decode cX2_seek 0 = .ok (.aload_n 0, 1) := by decide +kernel
theorem dX2_seek_1 : decode cX2_seek 1 = .ok (.iload_n 1, 1) := by decide +kernel
theorem dX2_seek_2 : decode cX2_seek 2 = .ok (.invokevirtual 36, 3) := by decide +kernel
theorem dX2_seek_5 : decode cX2_seek 5 = .ok (.istore_n 2, 1) := by decide +kernel
theorem dX2_seek_6 : decode cX2_seek 6 = .ok (.aload_n 0, 1) := by decide +kernel
theorem dX2_seek_7 : decode cX2_seek 7 = .ok (.iload_n 1, 1) := by decide +kernel
theorem dX2_seek_8 : decode cX2_seek 8 = .ok (.invokevirtual 45, 3) := by decide +kernel
theorem dX2_seek_11 : decode cX2_seek 11 = .ok (.istore_n 3, 1) := by decide +kernel
theorem dX2_seek_12 : decode cX2_seek 12 = .ok (.iload_n 3, 1) := by decide +kernel
theorem dX2_seek_13 : decode cX2_seek 13 = .ok (.iconst (-1), 1) := by decide +kernel
theorem dX2_seek_14 : decode cX2_seek 14 = .ok (.if_icmp .ne 13, 3) := by decide +kernel
theorem dX2_seek_17 : decode cX2_seek 17 = .ok (.aload_n 0, 1) := by decide +kernel
theorem dX2_seek_18 : decode cX2_seek 18 = .ok (.iload_n 2, 1) := by decide +kernel
theorem dX2_seek_19 : decode cX2_seek 19 = .ok (.iconst 1, 1) := by decide +kernel
theorem dX2_seek_20 : decode cX2_seek 20 = .ok (.iadd, 1) := by decide +kernel
theorem dX2_seek_21 : decode cX2_seek 21 = .ok (.invokevirtual 39, 3) := by decide +kernel
theorem dX2_seek_24 : decode cX2_seek 24 = .ok (.goto 6, 3) := by decide +kernel
theorem dX2_seek_27 : decode cX2_seek 27 = .ok (.iload_n 3, 1) := by decide +kernel
theorem dX2_seek_28 : decode cX2_seek 28 = .ok (.iconst 1, 1) := by decide +kernel
theorem dX2_seek_29 : decode cX2_seek 29 = .ok (.iadd, 1) := by decide +kernel
theorem dX2_seek_30 : decode cX2_seek 30 = .ok (.istore 4, 2) := by decide +kernel
theorem dX2_seek_32 : decode cX2_seek 32 = .ok (.iconst 1, 1) := by decide +kernel
theorem dX2_seek_33 : decode cX2_seek 33 = .ok (.iload 4, 2) := by decide +kernel
theorem dX2_seek_35 : decode cX2_seek 35 = .ok (.iadd, 1) := by decide +kernel
theorem dX2_seek_36 : decode cX2_seek 36 = .ok (.aload_n 0, 1) := by decide +kernel
theorem dX2_seek_37 : decode cX2_seek 37 = .ok (.iload_n 2, 1) := by decide +kernel
theorem dX2_seek_38 : decode cX2_seek 38 = .ok (.invokevirtual 39, 3) := by decide +kernel
theorem dX2_seek_41 : decode cX2_seek 41 = .ok (.isub, 1) := by decide +kernel
theorem dX2_seek_42 : decode cX2_seek 42 = .ok (.ireturn, 1) := by decide +kernel
theorem dX2_strike_0 : decode cX2_strike 0 = .ok (.aload_n 0, 1) := by decide +kernel
theorem dX2_strike_1 : decode cX2_strike 1 = .ok (.iload_n 1, 1) := by decide +kernel
theorem dX2_strike_2 : decode cX2_strike 2 = .ok (.invokevirtual 30, 3) := by decide +kernel
theorem dX2_strike_5 : decode cX2_strike 5 = .ok (.istore_n 2, 1) := by decide +kernel
theorem dX2_strike_6 : decode cX2_strike 6 = .ok (.aload_n 0, 1) := by decide +kernel
theorem dX2_strike_7 : decode cX2_strike 7 = .ok (.aload_n 0, 1) := by decide +kernel
theorem dX2_strike_8 : decode cX2_strike 8 = .ok (.iload_n 1, 1) := by decide +kernel
theorem dX2_strike_9 : decode cX2_strike 9 = .ok (.invokevirtual 45, 3) := by decide +kernel
theorem dX2_strike_12 : decode cX2_strike 12 = .ok (.invokevirtual 48, 3) := by decide +kernel
theorem dX2_strike_15 : decode cX2_strike 15 = .ok (.iload_n 2, 1) := by decide +kernel
theorem dX2_strike_16 : decode cX2_strike 16 = .ok (.ireturn, 1) := by decide +kernel
theorem dX2_putAtHead_0 : decode cX2_putAtHead 0 = .ok (.aload_n 0, 1) := by decide +kernel
theorem dX2_putAtHead_1 : decode cX2_putAtHead 1 = .ok (.aload_n 0, 1) := by decide +kernel
theorem dX2_putAtHead_2 : decode cX2_putAtHead 2 = .ok (.aload_n 0, 1) := by decide +kernel
theorem dX2_putAtHead_3 : decode cX2_putAtHead 3 = .ok (.iload_n 1, 1) := by decide +kernel
theorem dX2_putAtHead_4 : decode cX2_putAtHead 4 = .ok (.invokevirtual 36, 3) := by decide +kernel
theorem dX2_putAtHead_7 : decode cX2_putAtHead 7 = .ok (.invokevirtual 39, 3) := by decide +kernel
theorem dX2_putAtHead_10 : decode cX2_putAtHead 10 = .ok (.iload_n 1, 1) := by decide +kernel
theorem dX2_putAtHead_11 : decode cX2_putAtHead 11 = .ok (.invokevirtual 51, 3) := by decide +kernel
theorem dX2_putAtHead_14 : decode cX2_putAtHead 14 = .ok (.iconst 1, 1) := by decide +kernel
theorem dX2_putAtHead_15 : decode cX2_putAtHead 15 = .ok (.ireturn, 1) := by decide +kernel
theorem dX2_spreadIfFull_0 : decode cX2_spreadIfFull 0 = .ok (.aload_n 0, 1) := by decide +kernel
theorem dX2_spreadIfFull_1 : decode cX2_spreadIfFull 1 = .ok (.getfield 19, 3) := by decide +kernel
theorem dX2_spreadIfFull_4 : decode cX2_spreadIfFull 4 = .ok (.iconst 2, 1) := by decide +kernel
theorem dX2_spreadIfFull_5 : decode cX2_spreadIfFull 5 = .ok (.aload_n 0, 1) := by decide +kernel
theorem dX2_spreadIfFull_6 : decode cX2_spreadIfFull 6 = .ok (.getfield 15, 3) := by decide +kernel
theorem dX2_spreadIfFull_9 : decode cX2_spreadIfFull 9 = .ok (.imul, 1) := by decide +kernel
theorem dX2_spreadIfFull_10 : decode cX2_spreadIfFull 10 = .ok (.if_icmp .eq 5, 3) := by decide +kernel
theorem dX2_spreadIfFull_13 : decode cX2_spreadIfFull 13 = .ok (.iconst 0, 1) := by decide +kernel
theorem dX2_spreadIfFull_14 : decode cX2_spreadIfFull 14 = .ok (.ireturn, 1) := by decide +kernel
theorem dX2_spreadIfFull_15 : decode cX2_spreadIfFull 15 = .ok (.aload_n 0, 1) := by decide +kernel
theorem dX2_spreadIfFull_16 : decode cX2_spreadIfFull 16 = .ok (.getfield 19, 3) := by decide +kernel
theorem dX2_spreadIfFull_19 : decode cX2_spreadIfFull 19 = .ok (.istore_n 1, 1) := by decide +kernel
theorem dX2_spreadIfFull_20 : decode cX2_spreadIfFull 20 = .ok (.aload_n 0, 1) := by decide +kernel
theorem dX2_spreadIfFull_21 : decode cX2_spreadIfFull 21 = .ok (.getfield 42, 3) := by decide +kernel
theorem dX2_spreadIfFull_24 : decode cX2_spreadIfFull 24 = .ok (.iconst 0, 1) := by decide +kernel
theorem dX2_spreadIfFull_25 : decode cX2_spreadIfFull 25 = .ok (.aload_n 0, 1) := by decide +kernel
theorem dX2_spreadIfFull_26 : decode cX2_spreadIfFull 26 = .ok (.getfield 9, 3) := by decide +kernel
theorem dX2_spreadIfFull_29 : decode cX2_spreadIfFull 29 = .ok (.iconst 0, 1) := by decide +kernel
theorem dX2_spreadIfFull_30 : decode cX2_spreadIfFull 30 = .ok (.iload_n 1, 1) := by decide +kernel
theorem dX2_spreadIfFull_31 : decode cX2_spreadIfFull 31 = .ok (.invokestatic 55, 3) := by decide +kernel
theorem dX2_spreadIfFull_34 : decode cX2_spreadIfFull 34 = .ok (.aload_n 0, 1) := by decide +kernel
theorem dX2_spreadIfFull_35 : decode cX2_spreadIfFull 35 = .ok (.dup, 1) := by decide +kernel
theorem dX2_spreadIfFull_36 : decode cX2_spreadIfFull 36 = .ok (.getfield 15, 3) := by decide +kernel
theorem dX2_spreadIfFull_39 : decode cX2_spreadIfFull 39 = .ok (.iconst 2, 1) := by decide +kernel
theorem dX2_spreadIfFull_40 : decode cX2_spreadIfFull 40 = .ok (.imul, 1) := by decide +kernel
theorem dX2_spreadIfFull_41 : decode cX2_spreadIfFull 41 = .ok (.putfield 15, 3) := by decide +kernel
theorem dX2_spreadIfFull_44 : decode cX2_spreadIfFull 44 = .ok (.aload_n 0, 1) := by decide +kernel
theorem dX2_spreadIfFull_45 : decode cX2_spreadIfFull 45 = .ok (.iconst 0, 1) := by decide +kernel
theorem dX2_spreadIfFull_46 : decode cX2_spreadIfFull 46 = .ok (.putfield 19, 3) := by decide +kernel
theorem dX2_spreadIfFull_49 : decode cX2_spreadIfFull 49 = .ok (.iconst 0, 1) := by decide +kernel
theorem dX2_spreadIfFull_50 : decode cX2_spreadIfFull 50 = .ok (.istore_n 2, 1) := by decide +kernel
theorem dX2_spreadIfFull_51 : decode cX2_spreadIfFull 51 = .ok (.iload_n 2, 1) := by decide +kernel
theorem dX2_spreadIfFull_52 : decode cX2_spreadIfFull 52 = .ok (.iload_n 1, 1) := by decide +kernel
theorem dX2_spreadIfFull_53 : decode cX2_spreadIfFull 53 = .ok (.if_icmp .ge 20, 3) := by decide +kernel
theorem dX2_spreadIfFull_56 : decode cX2_spreadIfFull 56 = .ok (.aload_n 0, 1) := by decide +kernel
theorem dX2_spreadIfFull_57 : decode cX2_spreadIfFull 57 = .ok (.aload_n 0, 1) := by decide +kernel
theorem dX2_spreadIfFull_58 : decode cX2_spreadIfFull 58 = .ok (.getfield 9, 3) := by decide +kernel
theorem dX2_spreadIfFull_61 : decode cX2_spreadIfFull 61 = .ok (.iload_n 2, 1) := by decide +kernel
theorem dX2_spreadIfFull_62 : decode cX2_spreadIfFull 62 = .ok (.iaload, 1) := by decide +kernel
theorem dX2_spreadIfFull_63 : decode cX2_spreadIfFull 63 = .ok (.invokevirtual 26, 3) := by decide +kernel
theorem dX2_spreadIfFull_66 : decode cX2_spreadIfFull 66 = .ok (.pop, 1) := by decide +kernel
theorem dX2_spreadIfFull_67 : decode cX2_spreadIfFull 67 = .ok (.iinc 2 1, 3) := by decide +kernel
theorem dX2_spreadIfFull_70 : decode cX2_spreadIfFull 70 = .ok (.goto (-19), 3) := by decide +kernel
theorem dX2_spreadIfFull_73 : decode cX2_spreadIfFull 73 = .ok (.iload_n 1, 1) := by decide +kernel
theorem dX2_spreadIfFull_74 : decode cX2_spreadIfFull 74 = .ok (.ireturn, 1) := by decide +kernel
theorem dX3_init_0 : decode cX3_init 0 = .ok (.aload_n 0, 1) := by decide +kernel
theorem dX3_init_1 : decode cX3_init 1 = .ok (.iconst 4, 1) := by decide +kernel
theorem dX3_init_2 : decode cX3_init 2 = .ok (.invokespecial 3, 3) := by decide +kernel
theorem dX3_init_5 : decode cX3_init 5 = .ok (.return_, 1) := by decide +kernel
theorem dX3_step_0 : decode cX3_step 0 = .ok (.iload_n 1, 1) := by decide +kernel
theorem dX3_step_1 : decode cX3_step 1 = .ok (.tableswitch 80 0 6 #[43, 60, 70, 80, 76, 80, 78], 43) := by decide +kernel
theorem dX3_step_44 : decode cX3_step 44 = .ok (.aload_n 0, 1) := by decide +kernel
theorem dX3_step_45 : decode cX3_step 45 = .ok (.iload_n 2, 1) := by decide +kernel
theorem dX3_step_46 : decode cX3_step 46 = .ok (.invokevirtual 9, 3) := by decide +kernel
theorem dX3_step_49 : decode cX3_step 49 = .ok (.aload_n 0, 1) := by decide +kernel
theorem dX3_step_50 : decode cX3_step 50 = .ok (.aload_n 0, 1) := by decide +kernel
theorem dX3_step_51 : decode cX3_step 51 = .ok (.getfield 15, 3) := by decide +kernel
theorem dX3_step_54 : decode cX3_step 54 = .ok (.iconst 1, 1) := by decide +kernel
theorem dX3_step_55 : decode cX3_step 55 = .ok (.isub, 1) := by decide +kernel
theorem dX3_step_56 : decode cX3_step 56 = .ok (.invokevirtual 19, 3) := by decide +kernel
theorem dX3_step_59 : decode cX3_step 59 = .ok (.iadd, 1) := by decide +kernel
theorem dX3_step_60 : decode cX3_step 60 = .ok (.ireturn, 1) := by decide +kernel
theorem dX3_step_61 : decode cX3_step 61 = .ok (.aload_n 0, 1) := by decide +kernel
theorem dX3_step_62 : decode cX3_step 62 = .ok (.aload_n 0, 1) := by decide +kernel
theorem dX3_step_63 : decode cX3_step 63 = .ok (.iload_n 2, 1) := by decide +kernel
theorem dX3_step_64 : decode cX3_step 64 = .ok (.invokevirtual 22, 3) := by decide +kernel
theorem dX3_step_67 : decode cX3_step 67 = .ok (.invokevirtual 25, 3) := by decide +kernel
theorem dX3_step_70 : decode cX3_step 70 = .ok (.ireturn, 1) := by decide +kernel
theorem dX3_step_71 : decode cX3_step 71 = .ok (.aload_n 0, 1) := by decide +kernel
theorem dX3_step_72 : decode cX3_step 72 = .ok (.iload_n 2, 1) := by decide +kernel
theorem dX3_step_73 : decode cX3_step 73 = .ok (.invokevirtual 28, 3) := by decide +kernel
theorem dX3_step_76 : decode cX3_step 76 = .ok (.ireturn, 1) := by decide +kernel
theorem dX3_step_77 : decode cX3_step 77 = .ok (.iconst 1, 1) := by decide +kernel
theorem dX3_step_78 : decode cX3_step 78 = .ok (.ireturn, 1) := by decide +kernel
theorem dX3_step_79 : decode cX3_step 79 = .ok (.iconst 0, 1) := by decide +kernel
theorem dX3_step_80 : decode cX3_step 80 = .ok (.ireturn, 1) := by decide +kernel
theorem dX3_step_81 : decode cX3_step 81 = .ok (.aload_n 0, 1) := by decide +kernel
theorem dX3_step_82 : decode cX3_step 82 = .ok (.getfield 15, 3) := by decide +kernel
theorem dX3_step_85 : decode cX3_step 85 = .ok (.ireturn, 1) := by decide +kernel
theorem dX3_strike_0 : decode cX3_strike 0 = .ok (.aload_n 0, 1) := by decide +kernel
theorem dX3_strike_1 : decode cX3_strike 1 = .ok (.iload_n 1, 1) := by decide +kernel
theorem dX3_strike_2 : decode cX3_strike 2 = .ok (.invokevirtual 22, 3) := by decide +kernel
theorem dX3_strike_5 : decode cX3_strike 5 = .ok (.istore_n 2, 1) := by decide +kernel
theorem dX3_strike_6 : decode cX3_strike 6 = .ok (.aload_n 0, 1) := by decide +kernel
theorem dX3_strike_7 : decode cX3_strike 7 = .ok (.iload_n 2, 1) := by decide +kernel
theorem dX3_strike_8 : decode cX3_strike 8 = .ok (.invokevirtual 25, 3) := by decide +kernel
theorem dX3_strike_11 : decode cX3_strike 11 = .ok (.istore_n 3, 1) := by decide +kernel
theorem dX3_strike_12 : decode cX3_strike 12 = .ok (.iload_n 2, 1) := by decide +kernel
theorem dX3_strike_13 : decode cX3_strike 13 = .ok (.iconst (-1), 1) := by decide +kernel
theorem dX3_strike_14 : decode cX3_strike 14 = .ok (.if_icmp .ne 5, 3) := by decide +kernel
theorem dX3_strike_17 : decode cX3_strike 17 = .ok (.iload_n 3, 1) := by decide +kernel
theorem dX3_strike_18 : decode cX3_strike 18 = .ok (.ireturn, 1) := by decide +kernel
theorem dX3_strike_19 : decode cX3_strike 19 = .ok (.aload_n 0, 1) := by decide +kernel
theorem dX3_strike_20 : decode cX3_strike 20 = .ok (.dup, 1) := by decide +kernel
theorem dX3_strike_21 : decode cX3_strike 21 = .ok (.getfield 15, 3) := by decide +kernel
theorem dX3_strike_24 : decode cX3_strike 24 = .ok (.iconst 1, 1) := by decide +kernel
theorem dX3_strike_25 : decode cX3_strike 25 = .ok (.isub, 1) := by decide +kernel
theorem dX3_strike_26 : decode cX3_strike 26 = .ok (.putfield 15, 3) := by decide +kernel
theorem dX3_strike_29 : decode cX3_strike 29 = .ok (.iload_n 2, 1) := by decide +kernel
theorem dX3_strike_30 : decode cX3_strike 30 = .ok (.aload_n 0, 1) := by decide +kernel
theorem dX3_strike_31 : decode cX3_strike 31 = .ok (.getfield 15, 3) := by decide +kernel
theorem dX3_strike_34 : decode cX3_strike 34 = .ok (.if_icmp .ne 5, 3) := by decide +kernel
theorem dX3_strike_37 : decode cX3_strike 37 = .ok (.iload_n 3, 1) := by decide +kernel
theorem dX3_strike_38 : decode cX3_strike 38 = .ok (.ireturn, 1) := by decide +kernel
theorem dX3_strike_39 : decode cX3_strike 39 = .ok (.aload_n 0, 1) := by decide +kernel
theorem dX3_strike_40 : decode cX3_strike 40 = .ok (.getfield 31, 3) := by decide +kernel
theorem dX3_strike_43 : decode cX3_strike 43 = .ok (.iload_n 2, 1) := by decide +kernel
theorem dX3_strike_44 : decode cX3_strike 44 = .ok (.aload_n 0, 1) := by decide +kernel
theorem dX3_strike_45 : decode cX3_strike 45 = .ok (.getfield 31, 3) := by decide +kernel
theorem dX3_strike_48 : decode cX3_strike 48 = .ok (.aload_n 0, 1) := by decide +kernel
theorem dX3_strike_49 : decode cX3_strike 49 = .ok (.getfield 15, 3) := by decide +kernel
theorem dX3_strike_52 : decode cX3_strike 52 = .ok (.iaload, 1) := by decide +kernel
theorem dX3_strike_53 : decode cX3_strike 53 = .ok (.iastore, 1) := by decide +kernel
theorem dX3_strike_54 : decode cX3_strike 54 = .ok (.aload_n 0, 1) := by decide +kernel
theorem dX3_strike_55 : decode cX3_strike 55 = .ok (.iload_n 2, 1) := by decide +kernel
theorem dX3_strike_56 : decode cX3_strike 56 = .ok (.invokevirtual 19, 3) := by decide +kernel
theorem dX3_strike_59 : decode cX3_strike 59 = .ok (.istore 4, 2) := by decide +kernel
theorem dX3_strike_61 : decode cX3_strike 61 = .ok (.iload_n 3, 1) := by decide +kernel
theorem dX3_strike_62 : decode cX3_strike 62 = .ok (.iload 4, 2) := by decide +kernel
theorem dX3_strike_64 : decode cX3_strike 64 = .ok (.ifCond .le 8, 3) := by decide +kernel
theorem dX3_strike_67 : decode cX3_strike 67 = .ok (.iload 4, 2) := by decide +kernel
theorem dX3_strike_69 : decode cX3_strike 69 = .ok (.goto 8, 3) := by decide +kernel
theorem dX3_strike_72 : decode cX3_strike 72 = .ok (.aload_n 0, 1) := by decide +kernel
theorem dX3_strike_73 : decode cX3_strike 73 = .ok (.iload_n 2, 1) := by decide +kernel
theorem dX3_strike_74 : decode cX3_strike 74 = .ok (.invokevirtual 35, 3) := by decide +kernel
theorem dX3_strike_77 : decode cX3_strike 77 = .ok (.iadd, 1) := by decide +kernel
theorem dX3_strike_78 : decode cX3_strike 78 = .ok (.ireturn, 1) := by decide +kernel
theorem dX3_rise_0 : decode cX3_rise 0 = .ok (.iload_n 1, 1) := by decide +kernel
theorem dX3_rise_1 : decode cX3_rise 1 = .ok (.istore_n 2, 1) := by decide +kernel
theorem dX3_rise_2 : decode cX3_rise 2 = .ok (.iconst 0, 1) := by decide +kernel
theorem dX3_rise_3 : decode cX3_rise 3 = .ok (.istore_n 3, 1) := by decide +kernel
theorem dX3_rise_4 : decode cX3_rise 4 = .ok (.iload_n 2, 1) := by decide +kernel
theorem dX3_rise_5 : decode cX3_rise 5 = .ok (.ifCond .le 45, 3) := by decide +kernel
theorem dX3_rise_8 : decode cX3_rise 8 = .ok (.aload_n 0, 1) := by decide +kernel
theorem dX3_rise_9 : decode cX3_rise 9 = .ok (.getfield 31, 3) := by decide +kernel
theorem dX3_rise_12 : decode cX3_rise 12 = .ok (.iload_n 2, 1) := by decide +kernel
theorem dX3_rise_13 : decode cX3_rise 13 = .ok (.iconst 1, 1) := by decide +kernel
theorem dX3_rise_14 : decode cX3_rise 14 = .ok (.isub, 1) := by decide +kernel
theorem dX3_rise_15 : decode cX3_rise 15 = .ok (.iconst 2, 1) := by decide +kernel
theorem dX3_rise_16 : decode cX3_rise 16 = .ok (.idiv, 1) := by decide +kernel
theorem dX3_rise_17 : decode cX3_rise 17 = .ok (.iaload, 1) := by decide +kernel
theorem dX3_rise_18 : decode cX3_rise 18 = .ok (.aload_n 0, 1) := by decide +kernel
theorem dX3_rise_19 : decode cX3_rise 19 = .ok (.getfield 31, 3) := by decide +kernel
theorem dX3_rise_22 : decode cX3_rise 22 = .ok (.iload_n 2, 1) := by decide +kernel
theorem dX3_rise_23 : decode cX3_rise 23 = .ok (.iaload, 1) := by decide +kernel
theorem dX3_rise_24 : decode cX3_rise 24 = .ok (.if_icmp .le 26, 3) := by decide +kernel
theorem dX3_rise_27 : decode cX3_rise 27 = .ok (.iload_n 2, 1) := by decide +kernel
theorem dX3_rise_28 : decode cX3_rise 28 = .ok (.iconst 1, 1) := by decide +kernel
theorem dX3_rise_29 : decode cX3_rise 29 = .ok (.isub, 1) := by decide +kernel
theorem dX3_rise_30 : decode cX3_rise 30 = .ok (.iconst 2, 1) := by decide +kernel
theorem dX3_rise_31 : decode cX3_rise 31 = .ok (.idiv, 1) := by decide +kernel
theorem dX3_rise_32 : decode cX3_rise 32 = .ok (.istore 4, 2) := by decide +kernel
theorem dX3_rise_34 : decode cX3_rise 34 = .ok (.aload_n 0, 1) := by decide +kernel
theorem dX3_rise_35 : decode cX3_rise 35 = .ok (.iload_n 2, 1) := by decide +kernel
theorem dX3_rise_36 : decode cX3_rise 36 = .ok (.iload 4, 2) := by decide +kernel
theorem dX3_rise_38 : decode cX3_rise 38 = .ok (.invokevirtual 38, 3) := by decide +kernel
theorem dX3_rise_41 : decode cX3_rise 41 = .ok (.iload 4, 2) := by decide +kernel
theorem dX3_rise_43 : decode cX3_rise 43 = .ok (.istore_n 2, 1) := by decide +kernel
theorem dX3_rise_44 : decode cX3_rise 44 = .ok (.iinc 3 1, 3) := by decide +kernel
theorem dX3_rise_47 : decode cX3_rise 47 = .ok (.goto (-43), 3) := by decide +kernel
theorem dX3_rise_50 : decode cX3_rise 50 = .ok (.iload_n 3, 1) := by decide +kernel
theorem dX3_rise_51 : decode cX3_rise 51 = .ok (.ireturn, 1) := by decide +kernel
theorem dX3_sink_0 : decode cX3_sink 0 = .ok (.iload_n 1, 1) := by decide +kernel
theorem dX3_sink_1 : decode cX3_sink 1 = .ok (.istore_n 2, 1) := by decide +kernel
theorem dX3_sink_2 : decode cX3_sink 2 = .ok (.aload_n 0, 1) := by decide +kernel
theorem dX3_sink_3 : decode cX3_sink 3 = .ok (.iload_n 2, 1) := by decide +kernel
theorem dX3_sink_4 : decode cX3_sink 4 = .ok (.invokevirtual 42, 3) := by decide +kernel
theorem dX3_sink_7 : decode cX3_sink 7 = .ok (.istore_n 3, 1) := by decide +kernel
theorem dX3_sink_8 : decode cX3_sink 8 = .ok (.iconst 0, 1) := by decide +kernel
theorem dX3_sink_9 : decode cX3_sink 9 = .ok (.istore 4, 2) := by decide +kernel
theorem dX3_sink_11 : decode cX3_sink 11 = .ok (.iload 4, 2) := by decide +kernel
theorem dX3_sink_13 : decode cX3_sink 13 = .ok (.aload_n 0, 1) := by decide +kernel
theorem dX3_sink_14 : decode cX3_sink 14 = .ok (.getfield 15, 3) := by decide +kernel
theorem dX3_sink_17 : decode cX3_sink 17 = .ok (.if_icmp .ge 43, 3) := by decide +kernel
theorem dX3_sink_20 : decode cX3_sink 20 = .ok (.iload_n 3, 1) := by decide +kernel
theorem dX3_sink_21 : decode cX3_sink 21 = .ok (.iconst (-1), 1) := by decide +kernel
theorem dX3_sink_22 : decode cX3_sink 22 = .ok (.if_icmp .eq 38, 3) := by decide +kernel
theorem dX3_sink_25 : decode cX3_sink 25 = .ok (.aload_n 0, 1) := by decide +kernel
theorem dX3_sink_26 : decode cX3_sink 26 = .ok (.getfield 31, 3) := by decide +kernel
theorem dX3_sink_29 : decode cX3_sink 29 = .ok (.iload_n 3, 1) := by decide +kernel
theorem dX3_sink_30 : decode cX3_sink 30 = .ok (.iaload, 1) := by decide +kernel
theorem dX3_sink_31 : decode cX3_sink 31 = .ok (.aload_n 0, 1) := by decide +kernel
theorem dX3_sink_32 : decode cX3_sink 32 = .ok (.getfield 31, 3) := by decide +kernel
theorem dX3_sink_35 : decode cX3_sink 35 = .ok (.iload_n 2, 1) := by decide +kernel
theorem dX3_sink_36 : decode cX3_sink 36 = .ok (.iaload, 1) := by decide +kernel
theorem dX3_sink_37 : decode cX3_sink 37 = .ok (.if_icmp .ge 23, 3) := by decide +kernel
theorem dX3_sink_40 : decode cX3_sink 40 = .ok (.aload_n 0, 1) := by decide +kernel
theorem dX3_sink_41 : decode cX3_sink 41 = .ok (.iload_n 2, 1) := by decide +kernel
theorem dX3_sink_42 : decode cX3_sink 42 = .ok (.iload_n 3, 1) := by decide +kernel
theorem dX3_sink_43 : decode cX3_sink 43 = .ok (.invokevirtual 38, 3) := by decide +kernel
theorem dX3_sink_46 : decode cX3_sink 46 = .ok (.iload_n 3, 1) := by decide +kernel
theorem dX3_sink_47 : decode cX3_sink 47 = .ok (.istore_n 2, 1) := by decide +kernel
theorem dX3_sink_48 : decode cX3_sink 48 = .ok (.aload_n 0, 1) := by decide +kernel
theorem dX3_sink_49 : decode cX3_sink 49 = .ok (.iload_n 2, 1) := by decide +kernel
theorem dX3_sink_50 : decode cX3_sink 50 = .ok (.invokevirtual 42, 3) := by decide +kernel
theorem dX3_sink_53 : decode cX3_sink 53 = .ok (.istore_n 3, 1) := by decide +kernel
theorem dX3_sink_54 : decode cX3_sink 54 = .ok (.iinc 4 1, 3) := by decide +kernel
theorem dX3_sink_57 : decode cX3_sink 57 = .ok (.goto (-46), 3) := by decide +kernel
theorem dX3_sink_60 : decode cX3_sink 60 = .ok (.iload 4, 2) := by decide +kernel
theorem dX3_sink_62 : decode cX3_sink 62 = .ok (.ireturn, 1) := by decide +kernel
theorem dX3_lesserChild_0 : decode cX3_lesserChild 0 = .ok (.iconst 2, 1) := by decide +kernel
theorem dX3_lesserChild_1 : decode cX3_lesserChild 1 = .ok (.iload_n 1, 1) := by decide +kernel
theorem dX3_lesserChild_2 : decode cX3_lesserChild 2 = .ok (.imul, 1) := by decide +kernel
theorem dX3_lesserChild_3 : decode cX3_lesserChild 3 = .ok (.iconst 1, 1) := by decide +kernel
theorem dX3_lesserChild_4 : decode cX3_lesserChild 4 = .ok (.iadd, 1) := by decide +kernel
theorem dX3_lesserChild_5 : decode cX3_lesserChild 5 = .ok (.istore_n 2, 1) := by decide +kernel
theorem dX3_lesserChild_6 : decode cX3_lesserChild 6 = .ok (.iload_n 2, 1) := by decide +kernel
theorem dX3_lesserChild_7 : decode cX3_lesserChild 7 = .ok (.iconst 1, 1) := by decide +kernel
theorem dX3_lesserChild_8 : decode cX3_lesserChild 8 = .ok (.iadd, 1) := by decide +kernel
theorem dX3_lesserChild_9 : decode cX3_lesserChild 9 = .ok (.istore_n 3, 1) := by decide +kernel
theorem dX3_lesserChild_10 : decode cX3_lesserChild 10 = .ok (.iload_n 2, 1) := by decide +kernel
theorem dX3_lesserChild_11 : decode cX3_lesserChild 11 = .ok (.aload_n 0, 1) := by decide +kernel
theorem dX3_lesserChild_12 : decode cX3_lesserChild 12 = .ok (.getfield 15, 3) := by decide +kernel
theorem dX3_lesserChild_15 : decode cX3_lesserChild 15 = .ok (.if_icmp .lt 5, 3) := by decide +kernel
theorem dX3_lesserChild_18 : decode cX3_lesserChild 18 = .ok (.iconst (-1), 1) := by decide +kernel
theorem dX3_lesserChild_19 : decode cX3_lesserChild 19 = .ok (.ireturn, 1) := by decide +kernel
theorem dX3_lesserChild_20 : decode cX3_lesserChild 20 = .ok (.iload_n 3, 1) := by decide +kernel
theorem dX3_lesserChild_21 : decode cX3_lesserChild 21 = .ok (.aload_n 0, 1) := by decide +kernel
theorem dX3_lesserChild_22 : decode cX3_lesserChild 22 = .ok (.getfield 15, 3) := by decide +kernel
theorem dX3_lesserChild_25 : decode cX3_lesserChild 25 = .ok (.if_icmp .ge 22, 3) := by decide +kernel
theorem dX3_lesserChild_28 : decode cX3_lesserChild 28 = .ok (.aload_n 0, 1) := by decide +kernel
theorem dX3_lesserChild_29 : decode cX3_lesserChild 29 = .ok (.getfield 31, 3) := by decide +kernel
theorem dX3_lesserChild_32 : decode cX3_lesserChild 32 = .ok (.iload_n 3, 1) := by decide +kernel
theorem dX3_lesserChild_33 : decode cX3_lesserChild 33 = .ok (.iaload, 1) := by decide +kernel
theorem dX3_lesserChild_34 : decode cX3_lesserChild 34 = .ok (.aload_n 0, 1) := by decide +kernel
theorem dX3_lesserChild_35 : decode cX3_lesserChild 35 = .ok (.getfield 31, 3) := by decide +kernel
theorem dX3_lesserChild_38 : decode cX3_lesserChild 38 = .ok (.iload_n 2, 1) := by decide +kernel
theorem dX3_lesserChild_39 : decode cX3_lesserChild 39 = .ok (.iaload, 1) := by decide +kernel
theorem dX3_lesserChild_40 : decode cX3_lesserChild 40 = .ok (.if_icmp .ge 7, 3) := by decide +kernel
theorem dX3_lesserChild_43 : decode cX3_lesserChild 43 = .ok (.iload_n 3, 1) := by decide +kernel
theorem dX3_lesserChild_44 : decode cX3_lesserChild 44 = .ok (.goto 4, 3) := by decide +kernel
theorem dX3_lesserChild_47 : decode cX3_lesserChild 47 = .ok (.iload_n 2, 1) := by decide +kernel
theorem dX3_lesserChild_48 : decode cX3_lesserChild 48 = .ok (.ireturn, 1) := by decide +kernel
theorem dX3_swap_0 : decode cX3_swap 0 = .ok (.aload_n 0, 1) := by decide +kernel
theorem dX3_swap_1 : decode cX3_swap 1 = .ok (.getfield 31, 3) := by decide +kernel
theorem dX3_swap_4 : decode cX3_swap 4 = .ok (.iload_n 1, 1) := by decide +kernel
theorem dX3_swap_5 : decode cX3_swap 5 = .ok (.iaload, 1) := by decide +kernel
theorem dX3_swap_6 : decode cX3_swap 6 = .ok (.istore_n 3, 1) := by decide +kernel
theorem dX3_swap_7 : decode cX3_swap 7 = .ok (.aload_n 0, 1) := by decide +kernel
theorem dX3_swap_8 : decode cX3_swap 8 = .ok (.getfield 31, 3) := by decide +kernel
theorem dX3_swap_11 : decode cX3_swap 11 = .ok (.iload_n 1, 1) := by decide +kernel
theorem dX3_swap_12 : decode cX3_swap 12 = .ok (.aload_n 0, 1) := by decide +kernel
theorem dX3_swap_13 : decode cX3_swap 13 = .ok (.getfield 31, 3) := by decide +kernel
theorem dX3_swap_16 : decode cX3_swap 16 = .ok (.iload_n 2, 1) := by decide +kernel
theorem dX3_swap_17 : decode cX3_swap 17 = .ok (.iaload, 1) := by decide +kernel
theorem dX3_swap_18 : decode cX3_swap 18 = .ok (.iastore, 1) := by decide +kernel
theorem dX3_swap_19 : decode cX3_swap 19 = .ok (.aload_n 0, 1) := by decide +kernel
theorem dX3_swap_20 : decode cX3_swap 20 = .ok (.getfield 31, 3) := by decide +kernel
theorem dX3_swap_23 : decode cX3_swap 23 = .ok (.iload_n 2, 1) := by decide +kernel
theorem dX3_swap_24 : decode cX3_swap 24 = .ok (.iload_n 3, 1) := by decide +kernel
theorem dX3_swap_25 : decode cX3_swap 25 = .ok (.iastore, 1) := by decide +kernel
theorem dX3_swap_26 : decode cX3_swap 26 = .ok (.return_, 1) := by decide +kernel
theorem dX4_init_0 : decode cX4_init 0 = .ok (.aload_n 0, 1) := by decide +kernel
theorem dX4_init_1 : decode cX4_init 1 = .ok (.invokespecial 3, 3) := by decide +kernel
theorem dX4_init_4 : decode cX4_init 4 = .ok (.aload_n 0, 1) := by decide +kernel
theorem dX4_init_5 : decode cX4_init 5 = .ok (.sipush 200, 3) := by decide +kernel
theorem dX4_init_8 : decode cX4_init 8 = .ok (.newarray .int, 2) := by decide +kernel
theorem dX4_init_10 : decode cX4_init 10 = .ok (.putfield 9, 3) := by decide +kernel
theorem dX4_init_13 : decode cX4_init 13 = .ok (.aload_n 0, 1) := by decide +kernel
theorem dX4_init_14 : decode cX4_init 14 = .ok (.iconst 0, 1) := by decide +kernel
theorem dX4_init_15 : decode cX4_init 15 = .ok (.putfield 15, 3) := by decide +kernel
theorem dX4_init_18 : decode cX4_init 18 = .ok (.aload_n 0, 1) := by decide +kernel
theorem dX4_init_19 : decode cX4_init 19 = .ok (.iload_n 1, 1) := by decide +kernel
theorem dX4_init_20 : decode cX4_init 20 = .ok (.putfield 19, 3) := by decide +kernel
theorem dX4_init_23 : decode cX4_init 23 = .ok (.aload_n 0, 1) := by decide +kernel
theorem dX4_init_24 : decode cX4_init 24 = .ok (.iload_n 1, 1) := by decide +kernel
theorem dX4_init_25 : decode cX4_init 25 = .ok (.putfield 22, 3) := by decide +kernel
theorem dX4_init_28 : decode cX4_init 28 = .ok (.return_, 1) := by decide +kernel
theorem dX4_room_0 : decode cX4_room 0 = .ok (.aload_n 0, 1) := by decide +kernel
theorem dX4_room_1 : decode cX4_room 1 = .ok (.getfield 22, 3) := by decide +kernel
theorem dX4_room_4 : decode cX4_room 4 = .ok (.ireturn, 1) := by decide +kernel
theorem dX4_keyAt_0 : decode cX4_keyAt 0 = .ok (.iload_n 1, 1) := by decide +kernel
theorem dX4_keyAt_1 : decode cX4_keyAt 1 = .ok (.ifCond .lt 20, 3) := by decide +kernel
theorem dX4_keyAt_4 : decode cX4_keyAt 4 = .ok (.iload_n 1, 1) := by decide +kernel
theorem dX4_keyAt_5 : decode cX4_keyAt 5 = .ok (.aload_n 0, 1) := by decide +kernel
theorem dX4_keyAt_6 : decode cX4_keyAt 6 = .ok (.getfield 15, 3) := by decide +kernel
theorem dX4_keyAt_9 : decode cX4_keyAt 9 = .ok (.if_icmp .ge 12, 3) := by decide +kernel
theorem dX4_keyAt_12 : decode cX4_keyAt 12 = .ok (.aload_n 0, 1) := by decide +kernel
theorem dX4_keyAt_13 : decode cX4_keyAt 13 = .ok (.getfield 9, 3) := by decide +kernel
theorem dX4_keyAt_16 : decode cX4_keyAt 16 = .ok (.iload_n 1, 1) := by decide +kernel
theorem dX4_keyAt_17 : decode cX4_keyAt 17 = .ok (.iaload, 1) := by decide +kernel
theorem dX4_keyAt_18 : decode cX4_keyAt 18 = .ok (.goto 4, 3) := by decide +kernel
theorem dX4_keyAt_21 : decode cX4_keyAt 21 = .ok (.iconst (-1), 1) := by decide +kernel
theorem dX4_keyAt_22 : decode cX4_keyAt 22 = .ok (.ireturn, 1) := by decide +kernel
theorem dX4_clear_0 : decode cX4_clear 0 = .ok (.aload_n 0, 1) := by decide +kernel
theorem dX4_clear_1 : decode cX4_clear 1 = .ok (.aload_n 0, 1) := by decide +kernel
theorem dX4_clear_2 : decode cX4_clear 2 = .ok (.getfield 19, 3) := by decide +kernel
theorem dX4_clear_5 : decode cX4_clear 5 = .ok (.putfield 22, 3) := by decide +kernel
theorem dX4_clear_8 : decode cX4_clear 8 = .ok (.aload_n 0, 1) := by decide +kernel
theorem dX4_clear_9 : decode cX4_clear 9 = .ok (.iconst 0, 1) := by decide +kernel
theorem dX4_clear_10 : decode cX4_clear 10 = .ok (.putfield 15, 3) := by decide +kernel
theorem dX4_clear_13 : decode cX4_clear 13 = .ok (.return_, 1) := by decide +kernel
theorem dX4_growIfFull_0 : decode cX4_growIfFull 0 = .ok (.aload_n 0, 1) := by decide +kernel
theorem dX4_growIfFull_1 : decode cX4_growIfFull 1 = .ok (.getfield 15, 3) := by decide +kernel
theorem dX4_growIfFull_4 : decode cX4_growIfFull 4 = .ok (.aload_n 0, 1) := by decide +kernel
theorem dX4_growIfFull_5 : decode cX4_growIfFull 5 = .ok (.getfield 22, 3) := by decide +kernel
theorem dX4_growIfFull_8 : decode cX4_growIfFull 8 = .ok (.if_icmp .eq 5, 3) := by decide +kernel
theorem dX4_growIfFull_11 : decode cX4_growIfFull 11 = .ok (.iconst 0, 1) := by decide +kernel
theorem dX4_growIfFull_12 : decode cX4_growIfFull 12 = .ok (.ireturn, 1) := by decide +kernel
theorem dX4_growIfFull_13 : decode cX4_growIfFull 13 = .ok (.aload_n 0, 1) := by decide +kernel
theorem dX4_growIfFull_14 : decode cX4_growIfFull 14 = .ok (.dup, 1) := by decide +kernel
theorem dX4_growIfFull_15 : decode cX4_growIfFull 15 = .ok (.getfield 22, 3) := by decide +kernel
theorem dX4_growIfFull_18 : decode cX4_growIfFull 18 = .ok (.iconst 2, 1) := by decide +kernel
theorem dX4_growIfFull_19 : decode cX4_growIfFull 19 = .ok (.imul, 1) := by decide +kernel
theorem dX4_growIfFull_20 : decode cX4_growIfFull 20 = .ok (.putfield 22, 3) := by decide +kernel
theorem dX4_growIfFull_23 : decode cX4_growIfFull 23 = .ok (.aload_n 0, 1) := by decide +kernel
theorem dX4_growIfFull_24 : decode cX4_growIfFull 24 = .ok (.getfield 15, 3) := by decide +kernel
theorem dX4_growIfFull_27 : decode cX4_growIfFull 27 = .ok (.ireturn, 1) := by decide +kernel
theorem dX4_placeOf_0 : decode cX4_placeOf 0 = .ok (.iconst 0, 1) := by decide +kernel
theorem dX4_placeOf_1 : decode cX4_placeOf 1 = .ok (.istore_n 2, 1) := by decide +kernel
theorem dX4_placeOf_2 : decode cX4_placeOf 2 = .ok (.iload_n 2, 1) := by decide +kernel
theorem dX4_placeOf_3 : decode cX4_placeOf 3 = .ok (.aload_n 0, 1) := by decide +kernel
theorem dX4_placeOf_4 : decode cX4_placeOf 4 = .ok (.getfield 15, 3) := by decide +kernel
theorem dX4_placeOf_7 : decode cX4_placeOf 7 = .ok (.if_icmp .ge 21, 3) := by decide +kernel
theorem dX4_placeOf_10 : decode cX4_placeOf 10 = .ok (.aload_n 0, 1) := by decide +kernel
theorem dX4_placeOf_11 : decode cX4_placeOf 11 = .ok (.getfield 9, 3) := by decide +kernel
theorem dX4_placeOf_14 : decode cX4_placeOf 14 = .ok (.iload_n 2, 1) := by decide +kernel
theorem dX4_placeOf_15 : decode cX4_placeOf 15 = .ok (.iaload, 1) := by decide +kernel
theorem dX4_placeOf_16 : decode cX4_placeOf 16 = .ok (.iload_n 1, 1) := by decide +kernel
theorem dX4_placeOf_17 : decode cX4_placeOf 17 = .ok (.if_icmp .ne 5, 3) := by decide +kernel
theorem dX4_placeOf_20 : decode cX4_placeOf 20 = .ok (.iload_n 2, 1) := by decide +kernel
theorem dX4_placeOf_21 : decode cX4_placeOf 21 = .ok (.ireturn, 1) := by decide +kernel
theorem dX4_placeOf_22 : decode cX4_placeOf 22 = .ok (.iinc 2 1, 3) := by decide +kernel
theorem dX4_placeOf_25 : decode cX4_placeOf 25 = .ok (.goto (-23), 3) := by decide +kernel
theorem dX4_placeOf_28 : decode cX4_placeOf 28 = .ok (.iconst (-1), 1) := by decide +kernel
theorem dX4_placeOf_29 : decode cX4_placeOf 29 = .ok (.ireturn, 1) := by decide +kernel
theorem dX4_stepsTo_0 : decode cX4_stepsTo 0 = .ok (.iload_n 1, 1) := by decide +kernel
theorem dX4_stepsTo_1 : decode cX4_stepsTo 1 = .ok (.iconst (-1), 1) := by decide +kernel
theorem dX4_stepsTo_2 : decode cX4_stepsTo 2 = .ok (.if_icmp .ne 10, 3) := by decide +kernel
theorem dX4_stepsTo_5 : decode cX4_stepsTo 5 = .ok (.aload_n 0, 1) := by decide +kernel
theorem dX4_stepsTo_6 : decode cX4_stepsTo 6 = .ok (.getfield 15, 3) := by decide +kernel
theorem dX4_stepsTo_9 : decode cX4_stepsTo 9 = .ok (.goto 6, 3) := by decide +kernel
theorem dX4_stepsTo_12 : decode cX4_stepsTo 12 = .ok (.iload_n 1, 1) := by decide +kernel
theorem dX4_stepsTo_13 : decode cX4_stepsTo 13 = .ok (.iconst 1, 1) := by decide +kernel
theorem dX4_stepsTo_14 : decode cX4_stepsTo 14 = .ok (.iadd, 1) := by decide +kernel
theorem dX4_stepsTo_15 : decode cX4_stepsTo 15 = .ok (.ireturn, 1) := by decide +kernel
theorem dX4_insert_0 : decode cX4_insert 0 = .ok (.iload_n 1, 1) := by decide +kernel
theorem dX4_insert_1 : decode cX4_insert 1 = .ok (.ifCond .lt 59, 3) := by decide +kernel
theorem dX4_insert_4 : decode cX4_insert 4 = .ok (.iload_n 1, 1) := by decide +kernel
theorem dX4_insert_5 : decode cX4_insert 5 = .ok (.aload_n 0, 1) := by decide +kernel
theorem dX4_insert_6 : decode cX4_insert 6 = .ok (.getfield 15, 3) := by decide +kernel
theorem dX4_insert_9 : decode cX4_insert 9 = .ok (.if_icmp .gt 51, 3) := by decide +kernel
theorem dX4_insert_12 : decode cX4_insert 12 = .ok (.aload_n 0, 1) := by decide +kernel
theorem dX4_insert_13 : decode cX4_insert 13 = .ok (.getfield 15, 3) := by decide +kernel
theorem dX4_insert_16 : decode cX4_insert 16 = .ok (.sipush 200, 3) := by decide +kernel
theorem dX4_insert_19 : decode cX4_insert 19 = .ok (.if_icmp .ge 41, 3) := by decide +kernel
theorem dX4_insert_22 : decode cX4_insert 22 = .ok (.aload_n 0, 1) := by decide +kernel
theorem dX4_insert_23 : decode cX4_insert 23 = .ok (.getfield 9, 3) := by decide +kernel
theorem dX4_insert_26 : decode cX4_insert 26 = .ok (.iload_n 1, 1) := by decide +kernel
theorem dX4_insert_27 : decode cX4_insert 27 = .ok (.aload_n 0, 1) := by decide +kernel
theorem dX4_insert_28 : decode cX4_insert 28 = .ok (.getfield 9, 3) := by decide +kernel
theorem dX4_insert_31 : decode cX4_insert 31 = .ok (.iload_n 1, 1) := by decide +kernel
theorem dX4_insert_32 : decode cX4_insert 32 = .ok (.iconst 1, 1) := by decide +kernel
theorem dX4_insert_33 : decode cX4_insert 33 = .ok (.iadd, 1) := by decide +kernel
theorem dX4_insert_34 : decode cX4_insert 34 = .ok (.aload_n 0, 1) := by decide +kernel
theorem dX4_insert_35 : decode cX4_insert 35 = .ok (.getfield 15, 3) := by decide +kernel
theorem dX4_insert_38 : decode cX4_insert 38 = .ok (.iload_n 1, 1) := by decide +kernel
theorem dX4_insert_39 : decode cX4_insert 39 = .ok (.isub, 1) := by decide +kernel
theorem dX4_insert_40 : decode cX4_insert 40 = .ok (.invokestatic 25, 3) := by decide +kernel
theorem dX4_insert_43 : decode cX4_insert 43 = .ok (.aload_n 0, 1) := by decide +kernel
theorem dX4_insert_44 : decode cX4_insert 44 = .ok (.getfield 9, 3) := by decide +kernel
theorem dX4_insert_47 : decode cX4_insert 47 = .ok (.iload_n 1, 1) := by decide +kernel
theorem dX4_insert_48 : decode cX4_insert 48 = .ok (.iload_n 2, 1) := by decide +kernel
theorem dX4_insert_49 : decode cX4_insert 49 = .ok (.iastore, 1) := by decide +kernel
theorem dX4_insert_50 : decode cX4_insert 50 = .ok (.aload_n 0, 1) := by decide +kernel
theorem dX4_insert_51 : decode cX4_insert 51 = .ok (.dup, 1) := by decide +kernel
theorem dX4_insert_52 : decode cX4_insert 52 = .ok (.getfield 15, 3) := by decide +kernel
theorem dX4_insert_55 : decode cX4_insert 55 = .ok (.iconst 1, 1) := by decide +kernel
theorem dX4_insert_56 : decode cX4_insert 56 = .ok (.iadd, 1) := by decide +kernel
theorem dX4_insert_57 : decode cX4_insert 57 = .ok (.putfield 15, 3) := by decide +kernel
theorem dX4_insert_60 : decode cX4_insert 60 = .ok (.return_, 1) := by decide +kernel
theorem dX4_append_0 : decode cX4_append 0 = .ok (.aload_n 0, 1) := by decide +kernel
theorem dX4_append_1 : decode cX4_append 1 = .ok (.invokevirtual 31, 3) := by decide +kernel
theorem dX4_append_4 : decode cX4_append 4 = .ok (.istore_n 2, 1) := by decide +kernel
theorem dX4_append_5 : decode cX4_append 5 = .ok (.aload_n 0, 1) := by decide +kernel
theorem dX4_append_6 : decode cX4_append 6 = .ok (.aload_n 0, 1) := by decide +kernel
theorem dX4_append_7 : decode cX4_append 7 = .ok (.getfield 15, 3) := by decide +kernel
theorem dX4_append_10 : decode cX4_append 10 = .ok (.iload_n 1, 1) := by decide +kernel
theorem dX4_append_11 : decode cX4_append 11 = .ok (.invokevirtual 35, 3) := by decide +kernel
theorem dX4_append_14 : decode cX4_append 14 = .ok (.iload_n 2, 1) := by decide +kernel
theorem dX4_append_15 : decode cX4_append 15 = .ok (.iconst 1, 1) := by decide +kernel
theorem dX4_append_16 : decode cX4_append 16 = .ok (.iadd, 1) := by decide +kernel
theorem dX4_append_17 : decode cX4_append 17 = .ok (.ireturn, 1) := by decide +kernel
theorem dX4_remove_0 : decode cX4_remove 0 = .ok (.iload_n 1, 1) := by decide +kernel
theorem dX4_remove_1 : decode cX4_remove 1 = .ok (.ifCond .lt 44, 3) := by decide +kernel
theorem dX4_remove_4 : decode cX4_remove 4 = .ok (.iload_n 1, 1) := by decide +kernel
theorem dX4_remove_5 : decode cX4_remove 5 = .ok (.aload_n 0, 1) := by decide +kernel
theorem dX4_remove_6 : decode cX4_remove 6 = .ok (.getfield 15, 3) := by decide +kernel
theorem dX4_remove_9 : decode cX4_remove 9 = .ok (.if_icmp .ge 36, 3) := by decide +kernel
theorem dX4_remove_12 : decode cX4_remove 12 = .ok (.aload_n 0, 1) := by decide +kernel
theorem dX4_remove_13 : decode cX4_remove 13 = .ok (.getfield 9, 3) := by decide +kernel
theorem dX4_remove_16 : decode cX4_remove 16 = .ok (.iload_n 1, 1) := by decide +kernel
theorem dX4_remove_17 : decode cX4_remove 17 = .ok (.iconst 1, 1) := by decide +kernel
theorem dX4_remove_18 : decode cX4_remove 18 = .ok (.iadd, 1) := by decide +kernel
theorem dX4_remove_19 : decode cX4_remove 19 = .ok (.aload_n 0, 1) := by decide +kernel
theorem dX4_remove_20 : decode cX4_remove 20 = .ok (.getfield 9, 3) := by decide +kernel
theorem dX4_remove_23 : decode cX4_remove 23 = .ok (.iload_n 1, 1) := by decide +kernel
theorem dX4_remove_24 : decode cX4_remove 24 = .ok (.aload_n 0, 1) := by decide +kernel
theorem dX4_remove_25 : decode cX4_remove 25 = .ok (.getfield 15, 3) := by decide +kernel
theorem dX4_remove_28 : decode cX4_remove 28 = .ok (.iload_n 1, 1) := by decide +kernel
theorem dX4_remove_29 : decode cX4_remove 29 = .ok (.isub, 1) := by decide +kernel
theorem dX4_remove_30 : decode cX4_remove 30 = .ok (.iconst 1, 1) := by decide +kernel
theorem dX4_remove_31 : decode cX4_remove 31 = .ok (.isub, 1) := by decide +kernel
theorem dX4_remove_32 : decode cX4_remove 32 = .ok (.invokestatic 25, 3) := by decide +kernel
theorem dX4_remove_35 : decode cX4_remove 35 = .ok (.aload_n 0, 1) := by decide +kernel
theorem dX4_remove_36 : decode cX4_remove 36 = .ok (.dup, 1) := by decide +kernel
theorem dX4_remove_37 : decode cX4_remove 37 = .ok (.getfield 15, 3) := by decide +kernel
theorem dX4_remove_40 : decode cX4_remove 40 = .ok (.iconst 1, 1) := by decide +kernel
theorem dX4_remove_41 : decode cX4_remove 41 = .ok (.isub, 1) := by decide +kernel
theorem dX4_remove_42 : decode cX4_remove 42 = .ok (.putfield 15, 3) := by decide +kernel
theorem dX4_remove_45 : decode cX4_remove 45 = .ok (.return_, 1) := by decide +kernel
theorem dX5_init_0 : decode cX5_init 0 = .ok (.aload_n 0, 1) := by decide +kernel
theorem dX5_init_1 : decode cX5_init 1 = .ok (.invokespecial 3, 3) := by decide +kernel
theorem dX5_init_4 : decode cX5_init 4 = .ok (.aload_n 0, 1) := by decide +kernel
theorem dX5_init_5 : decode cX5_init 5 = .ok (.sipush 200, 3) := by decide +kernel
theorem dX5_init_8 : decode cX5_init 8 = .ok (.newarray .int, 2) := by decide +kernel
theorem dX5_init_10 : decode cX5_init 10 = .ok (.putfield 9, 3) := by decide +kernel
theorem dX5_init_13 : decode cX5_init 13 = .ok (.aload_n 0, 1) := by decide +kernel
theorem dX5_init_14 : decode cX5_init 14 = .ok (.bipush 6, 2) := by decide +kernel
theorem dX5_init_16 : decode cX5_init 16 = .ok (.sipush 200, 3) := by decide +kernel
theorem dX5_init_19 : decode cX5_init 19 = .ok (.multianewarray 15 2, 4) := by decide +kernel
theorem dX5_init_23 : decode cX5_init 23 = .ok (.putfield 17, 3) := by decide +kernel
theorem dX5_init_26 : decode cX5_init 26 = .ok (.aload_n 0, 1) := by decide +kernel
theorem dX5_init_27 : decode cX5_init 27 = .ok (.iconst 0, 1) := by decide +kernel
theorem dX5_init_28 : decode cX5_init 28 = .ok (.putfield 20, 3) := by decide +kernel
theorem dX5_init_31 : decode cX5_init 31 = .ok (.aload_n 0, 1) := by decide +kernel
theorem dX5_init_32 : decode cX5_init 32 = .ok (.iconst 0, 1) := by decide +kernel
theorem dX5_init_33 : decode cX5_init 33 = .ok (.putfield 24, 3) := by decide +kernel
theorem dX5_init_36 : decode cX5_init 36 = .ok (.aload_n 0, 1) := by decide +kernel
theorem dX5_init_37 : decode cX5_init 37 = .ok (.iconst 0, 1) := by decide +kernel
theorem dX5_init_38 : decode cX5_init 38 = .ok (.putfield 27, 3) := by decide +kernel
theorem dX5_init_41 : decode cX5_init 41 = .ok (.aload_n 0, 1) := by decide +kernel
theorem dX5_init_42 : decode cX5_init 42 = .ok (.iconst 0, 1) := by decide +kernel
theorem dX5_init_43 : decode cX5_init 43 = .ok (.putfield 30, 3) := by decide +kernel
theorem dX5_init_46 : decode cX5_init 46 = .ok (.aload_n 0, 1) := by decide +kernel
theorem dX5_init_47 : decode cX5_init 47 = .ok (.iconst 0, 1) := by decide +kernel
theorem dX5_init_48 : decode cX5_init 48 = .ok (.putfield 33, 3) := by decide +kernel
theorem dX5_init_51 : decode cX5_init 51 = .ok (.return_, 1) := by decide +kernel
theorem dX5_open_0 : decode cX5_open 0 = .ok (.aload_n 0, 1) := by decide +kernel
theorem dX5_open_1 : decode cX5_open 1 = .ok (.iload_n 1, 1) := by decide +kernel
theorem dX5_open_2 : decode cX5_open 2 = .ok (.putfield 20, 3) := by decide +kernel
theorem dX5_open_5 : decode cX5_open 5 = .ok (.aload_n 0, 1) := by decide +kernel
theorem dX5_open_6 : decode cX5_open 6 = .ok (.iload_n 2, 1) := by decide +kernel
theorem dX5_open_7 : decode cX5_open 7 = .ok (.putfield 24, 3) := by decide +kernel
theorem dX5_open_10 : decode cX5_open 10 = .ok (.aload_n 0, 1) := by decide +kernel
theorem dX5_open_11 : decode cX5_open 11 = .ok (.iload_n 3, 1) := by decide +kernel
theorem dX5_open_12 : decode cX5_open 12 = .ok (.putfield 27, 3) := by decide +kernel
theorem dX5_open_15 : decode cX5_open 15 = .ok (.aload_n 0, 1) := by decide +kernel
theorem dX5_open_16 : decode cX5_open 16 = .ok (.iload 4, 2) := by decide +kernel
theorem dX5_open_18 : decode cX5_open 18 = .ok (.putfield 30, 3) := by decide +kernel
theorem dX5_open_21 : decode cX5_open 21 = .ok (.return_, 1) := by decide +kernel
theorem dX5_leastSum_0 : decode cX5_leastSum 0 = .ok (.aload_n 0, 1) := by decide +kernel
theorem dX5_leastSum_1 : decode cX5_leastSum 1 = .ok (.getfield 33, 3) := by decide +kernel
theorem dX5_leastSum_4 : decode cX5_leastSum 4 = .ok (.sipush 256, 3) := by decide +kernel
theorem dX5_leastSum_7 : decode cX5_leastSum 7 = .ok (.idiv, 1) := by decide +kernel
theorem dX5_leastSum_8 : decode cX5_leastSum 8 = .ok (.ireturn, 1) := by decide +kernel
theorem dX5_moves_0 : decode cX5_moves 0 = .ok (.aload_n 0, 1) := by decide +kernel
theorem dX5_moves_1 : decode cX5_moves 1 = .ok (.getfield 33, 3) := by decide +kernel
theorem dX5_moves_4 : decode cX5_moves 4 = .ok (.sipush 256, 3) := by decide +kernel
theorem dX5_moves_7 : decode cX5_moves 7 = .ok (.irem, 1) := by decide +kernel
theorem dX5_moves_8 : decode cX5_moves 8 = .ok (.ireturn, 1) := by decide +kernel
theorem dX5_weigh_0 : decode cX5_weigh 0 = .ok (.aload_n 0, 1) := by decide +kernel
theorem dX5_weigh_1 : decode cX5_weigh 1 = .ok (.getfield 24, 3) := by decide +kernel
theorem dX5_weigh_4 : decode cX5_weigh 4 = .ok (.iconst 1, 1) := by decide +kernel
theorem dX5_weigh_5 : decode cX5_weigh 5 = .ok (.isub, 1) := by decide +kernel
theorem dX5_weigh_6 : decode cX5_weigh 6 = .ok (.istore_n 3, 1) := by decide +kernel
theorem dX5_weigh_7 : decode cX5_weigh 7 = .ok (.iload_n 3, 1) := by decide +kernel
theorem dX5_weigh_8 : decode cX5_weigh 8 = .ok (.ifCond .lt 85, 3) := by decide +kernel
theorem dX5_weigh_11 : decode cX5_weigh 11 = .ok (.iconst 0, 1) := by decide +kernel
theorem dX5_weigh_12 : decode cX5_weigh 12 = .ok (.istore 4, 2) := by decide +kernel
theorem dX5_weigh_14 : decode cX5_weigh 14 = .ok (.iload 4, 2) := by decide +kernel
theorem dX5_weigh_16 : decode cX5_weigh 16 = .ok (.bipush 6, 2) := by decide +kernel
theorem dX5_weigh_18 : decode cX5_weigh 18 = .ok (.if_icmp .ge 69, 3) := by decide +kernel
theorem dX5_weigh_21 : decode cX5_weigh 21 = .ok (.aload_n 0, 1) := by decide +kernel
theorem dX5_weigh_22 : decode cX5_weigh 22 = .ok (.getfield 17, 3) := by decide +kernel
theorem dX5_weigh_25 : decode cX5_weigh 25 = .ok (.iload 4, 2) := by decide +kernel
theorem dX5_weigh_27 : decode cX5_weigh 27 = .ok (.aaload, 1) := by decide +kernel
theorem dX5_weigh_28 : decode cX5_weigh 28 = .ok (.iload_n 3, 1) := by decide +kernel
theorem dX5_weigh_29 : decode cX5_weigh 29 = .ok (.aload_n 1, 1) := by decide +kernel
theorem dX5_weigh_30 : decode cX5_weigh 30 = .ok (.iload 4, 2) := by decide +kernel
theorem dX5_weigh_32 : decode cX5_weigh 32 = .ok (.aaload, 1) := by decide +kernel
theorem dX5_weigh_33 : decode cX5_weigh 33 = .ok (.getfield 36, 3) := by decide +kernel
theorem dX5_weigh_36 : decode cX5_weigh 36 = .ok (.iload_n 3, 1) := by decide +kernel
theorem dX5_weigh_37 : decode cX5_weigh 37 = .ok (.iaload, 1) := by decide +kernel
theorem dX5_weigh_38 : decode cX5_weigh 38 = .ok (.sipush 256, 3) := by decide +kernel
theorem dX5_weigh_41 : decode cX5_weigh 41 = .ok (.imul, 1) := by decide +kernel
theorem dX5_weigh_42 : decode cX5_weigh 42 = .ok (.iastore, 1) := by decide +kernel
theorem dX5_weigh_43 : decode cX5_weigh 43 = .ok (.aload_n 0, 1) := by decide +kernel
theorem dX5_weigh_44 : decode cX5_weigh 44 = .ok (.iload 4, 2) := by decide +kernel
theorem dX5_weigh_46 : decode cX5_weigh 46 = .ok (.iload_n 3, 1) := by decide +kernel
theorem dX5_weigh_47 : decode cX5_weigh 47 = .ok (.aload_n 2, 1) := by decide +kernel
theorem dX5_weigh_48 : decode cX5_weigh 48 = .ok (.invokevirtual 41, 3) := by decide +kernel
theorem dX5_weigh_51 : decode cX5_weigh 51 = .ok (.istore 5, 2) := by decide +kernel
theorem dX5_weigh_53 : decode cX5_weigh 53 = .ok (.iload 5, 2) := by decide +kernel
theorem dX5_weigh_55 : decode cX5_weigh 55 = .ok (.iconst (-1), 1) := by decide +kernel
theorem dX5_weigh_56 : decode cX5_weigh 56 = .ok (.if_icmp .eq 25, 3) := by decide +kernel
theorem dX5_weigh_59 : decode cX5_weigh 59 = .ok (.aload_n 0, 1) := by decide +kernel
theorem dX5_weigh_60 : decode cX5_weigh 60 = .ok (.getfield 17, 3) := by decide +kernel
theorem dX5_weigh_63 : decode cX5_weigh 63 = .ok (.iload 4, 2) := by decide +kernel
theorem dX5_weigh_65 : decode cX5_weigh 65 = .ok (.aaload, 1) := by decide +kernel
theorem dX5_weigh_66 : decode cX5_weigh 66 = .ok (.iload_n 3, 1) := by decide +kernel
theorem dX5_weigh_67 : decode cX5_weigh 67 = .ok (.dup2, 1) := by decide +kernel
theorem dX5_weigh_68 : decode cX5_weigh 68 = .ok (.iaload, 1) := by decide +kernel
theorem dX5_weigh_69 : decode cX5_weigh 69 = .ok (.aload_n 0, 1) := by decide +kernel
theorem dX5_weigh_70 : decode cX5_weigh 70 = .ok (.iload 4, 2) := by decide +kernel
theorem dX5_weigh_72 : decode cX5_weigh 72 = .ok (.iload_n 3, 1) := by decide +kernel
theorem dX5_weigh_73 : decode cX5_weigh 73 = .ok (.iload 5, 2) := by decide +kernel
theorem dX5_weigh_75 : decode cX5_weigh 75 = .ok (.aload_n 2, 1) := by decide +kernel
theorem dX5_weigh_76 : decode cX5_weigh 76 = .ok (.invokevirtual 45, 3) := by decide +kernel
theorem dX5_weigh_79 : decode cX5_weigh 79 = .ok (.iadd, 1) := by decide +kernel
theorem dX5_weigh_80 : decode cX5_weigh 80 = .ok (.iastore, 1) := by decide +kernel
theorem dX5_weigh_81 : decode cX5_weigh 81 = .ok (.iinc 4 1, 3) := by decide +kernel
theorem dX5_weigh_84 : decode cX5_weigh 84 = .ok (.goto (-70), 3) := by decide +kernel
theorem dX5_weigh_87 : decode cX5_weigh 87 = .ok (.iinc 3 (-1), 3) := by decide +kernel
theorem dX5_weigh_90 : decode cX5_weigh 90 = .ok (.goto (-83), 3) := by decide +kernel
theorem dX5_weigh_93 : decode cX5_weigh 93 = .ok (.return_, 1) := by decide +kernel
theorem dX5_choose_0 : decode cX5_choose 0 = .ok (.aload_n 0, 1) := by decide +kernel
theorem dX5_choose_1 : decode cX5_choose 1 = .ok (.invokevirtual 49, 3) := by decide +kernel
theorem dX5_choose_4 : decode cX5_choose 4 = .ok (.istore_n 2, 1) := by decide +kernel
theorem dX5_choose_5 : decode cX5_choose 5 = .ok (.aload_n 0, 1) := by decide +kernel
theorem dX5_choose_6 : decode cX5_choose 6 = .ok (.iload_n 2, 1) := by decide +kernel
theorem dX5_choose_7 : decode cX5_choose 7 = .ok (.iconst (-1), 1) := by decide +kernel
theorem dX5_choose_8 : decode cX5_choose 8 = .ok (.if_icmp .ne 7, 3) := by decide +kernel
theorem dX5_choose_11 : decode cX5_choose 11 = .ok (.iconst 0, 1) := by decide +kernel
theorem dX5_choose_12 : decode cX5_choose 12 = .ok (.goto 11, 3) := by decide +kernel
theorem dX5_choose_15 : decode cX5_choose 15 = .ok (.aload_n 0, 1) := by decide +kernel
theorem dX5_choose_16 : decode cX5_choose 16 = .ok (.getfield 17, 3) := by decide +kernel
theorem dX5_choose_19 : decode cX5_choose 19 = .ok (.iload_n 2, 1) := by decide +kernel
theorem dX5_choose_20 : decode cX5_choose 20 = .ok (.aaload, 1) := by decide +kernel
theorem dX5_choose_21 : decode cX5_choose 21 = .ok (.iconst 0, 1) := by decide +kernel
theorem dX5_choose_22 : decode cX5_choose 22 = .ok (.iaload, 1) := by decide +kernel
theorem dX5_choose_23 : decode cX5_choose 23 = .ok (.putfield 33, 3) := by decide +kernel
theorem dX5_choose_26 : decode cX5_choose 26 = .ok (.iconst 0, 1) := by decide +kernel
theorem dX5_choose_27 : decode cX5_choose 27 = .ok (.istore_n 3, 1) := by decide +kernel
theorem dX5_choose_28 : decode cX5_choose 28 = .ok (.iload_n 3, 1) := by decide +kernel
theorem dX5_choose_29 : decode cX5_choose 29 = .ok (.aload_n 0, 1) := by decide +kernel
theorem dX5_choose_30 : decode cX5_choose 30 = .ok (.getfield 24, 3) := by decide +kernel
theorem dX5_choose_33 : decode cX5_choose 33 = .ok (.if_icmp .ge 29, 3) := by decide +kernel
theorem dX5_choose_36 : decode cX5_choose 36 = .ok (.iload_n 2, 1) := by decide +kernel
theorem dX5_choose_37 : decode cX5_choose 37 = .ok (.iconst (-1), 1) := by decide +kernel
theorem dX5_choose_38 : decode cX5_choose 38 = .ok (.if_icmp .eq 24, 3) := by decide +kernel
theorem dX5_choose_41 : decode cX5_choose 41 = .ok (.aload_n 0, 1) := by decide +kernel
theorem dX5_choose_42 : decode cX5_choose 42 = .ok (.getfield 9, 3) := by decide +kernel
theorem dX5_choose_45 : decode cX5_choose 45 = .ok (.iload_n 3, 1) := by decide +kernel
theorem dX5_choose_46 : decode cX5_choose 46 = .ok (.iload_n 2, 1) := by decide +kernel
theorem dX5_choose_47 : decode cX5_choose 47 = .ok (.iastore, 1) := by decide +kernel
theorem dX5_choose_48 : decode cX5_choose 48 = .ok (.aload_n 0, 1) := by decide +kernel
theorem dX5_choose_49 : decode cX5_choose 49 = .ok (.iload_n 2, 1) := by decide +kernel
theorem dX5_choose_50 : decode cX5_choose 50 = .ok (.iload_n 3, 1) := by decide +kernel
theorem dX5_choose_51 : decode cX5_choose 51 = .ok (.aload_n 1, 1) := by decide +kernel
theorem dX5_choose_52 : decode cX5_choose 52 = .ok (.invokevirtual 41, 3) := by decide +kernel
theorem dX5_choose_55 : decode cX5_choose 55 = .ok (.istore_n 2, 1) := by decide +kernel
theorem dX5_choose_56 : decode cX5_choose 56 = .ok (.iinc 3 1, 3) := by decide +kernel
theorem dX5_choose_59 : decode cX5_choose 59 = .ok (.goto (-31), 3) := by decide +kernel
theorem dX5_choose_62 : decode cX5_choose 62 = .ok (.return_, 1) := by decide +kernel
theorem dX5_lightestAtFirst_0 : decode cX5_lightestAtFirst 0 = .ok (.iconst (-1), 1) := by decide +kernel
theorem dX5_lightestAtFirst_1 : decode cX5_lightestAtFirst 1 = .ok (.istore_n 1, 1) := by decide +kernel
theorem dX5_lightestAtFirst_2 : decode cX5_lightestAtFirst 2 = .ok (.iconst 0, 1) := by decide +kernel
theorem dX5_lightestAtFirst_3 : decode cX5_lightestAtFirst 3 = .ok (.istore_n 2, 1) := by decide +kernel
theorem dX5_lightestAtFirst_4 : decode cX5_lightestAtFirst 4 = .ok (.iload_n 2, 1) := by decide +kernel
theorem dX5_lightestAtFirst_5 : decode cX5_lightestAtFirst 5 = .ok (.bipush 6, 2) := by decide +kernel
theorem dX5_lightestAtFirst_7 : decode cX5_lightestAtFirst 7 = .ok (.if_icmp .ge 53, 3) := by decide +kernel
theorem dX5_lightestAtFirst_10 : decode cX5_lightestAtFirst 10 = .ok (.aload_n 0, 1) := by decide +kernel
theorem dX5_lightestAtFirst_11 : decode cX5_lightestAtFirst 11 = .ok (.getfield 24, 3) := by decide +kernel
theorem dX5_lightestAtFirst_14 : decode cX5_lightestAtFirst 14 = .ok (.ifCond .le 46, 3) := by decide +kernel
theorem dX5_lightestAtFirst_17 : decode cX5_lightestAtFirst 17 = .ok (.aload_n 0, 1) := by decide +kernel
theorem dX5_lightestAtFirst_18 : decode cX5_lightestAtFirst 18 = .ok (.getfield 20, 3) := by decide +kernel
theorem dX5_lightestAtFirst_21 : decode cX5_lightestAtFirst 21 = .ok (.iload_n 2, 1) := by decide +kernel
theorem dX5_lightestAtFirst_22 : decode cX5_lightestAtFirst 22 = .ok (.invokestatic 53, 3) := by decide +kernel
theorem dX5_lightestAtFirst_25 : decode cX5_lightestAtFirst 25 = .ok (.ifCond .eq 29, 3) := by decide +kernel
theorem dX5_lightestAtFirst_28 : decode cX5_lightestAtFirst 28 = .ok (.iload_n 1, 1) := by decide +kernel
theorem dX5_lightestAtFirst_29 : decode cX5_lightestAtFirst 29 = .ok (.iconst (-1), 1) := by decide +kernel
theorem dX5_lightestAtFirst_30 : decode cX5_lightestAtFirst 30 = .ok (.if_icmp .eq 22, 3) := by decide +kernel
theorem dX5_lightestAtFirst_33 : decode cX5_lightestAtFirst 33 = .ok (.aload_n 0, 1) := by decide +kernel
theorem dX5_lightestAtFirst_34 : decode cX5_lightestAtFirst 34 = .ok (.getfield 17, 3) := by decide +kernel
theorem dX5_lightestAtFirst_37 : decode cX5_lightestAtFirst 37 = .ok (.iload_n 2, 1) := by decide +kernel
theorem dX5_lightestAtFirst_38 : decode cX5_lightestAtFirst 38 = .ok (.aaload, 1) := by decide +kernel
theorem dX5_lightestAtFirst_39 : decode cX5_lightestAtFirst 39 = .ok (.iconst 0, 1) := by decide +kernel
theorem dX5_lightestAtFirst_40 : decode cX5_lightestAtFirst 40 = .ok (.iaload, 1) := by decide +kernel
theorem dX5_lightestAtFirst_41 : decode cX5_lightestAtFirst 41 = .ok (.aload_n 0, 1) := by decide +kernel
theorem dX5_lightestAtFirst_42 : decode cX5_lightestAtFirst 42 = .ok (.getfield 17, 3) := by decide +kernel
theorem dX5_lightestAtFirst_45 : decode cX5_lightestAtFirst 45 = .ok (.iload_n 1, 1) := by decide +kernel
theorem dX5_lightestAtFirst_46 : decode cX5_lightestAtFirst 46 = .ok (.aaload, 1) := by decide +kernel
theorem dX5_lightestAtFirst_47 : decode cX5_lightestAtFirst 47 = .ok (.iconst 0, 1) := by decide +kernel
theorem dX5_lightestAtFirst_48 : decode cX5_lightestAtFirst 48 = .ok (.iaload, 1) := by decide +kernel
theorem dX5_lightestAtFirst_49 : decode cX5_lightestAtFirst 49 = .ok (.if_icmp .ge 5, 3) := by decide +kernel
theorem dX5_lightestAtFirst_52 : decode cX5_lightestAtFirst 52 = .ok (.iload_n 2, 1) := by decide +kernel
theorem dX5_lightestAtFirst_53 : decode cX5_lightestAtFirst 53 = .ok (.istore_n 1, 1) := by decide +kernel
theorem dX5_lightestAtFirst_54 : decode cX5_lightestAtFirst 54 = .ok (.iinc 2 1, 3) := by decide +kernel
theorem dX5_lightestAtFirst_57 : decode cX5_lightestAtFirst 57 = .ok (.goto (-53), 3) := by decide +kernel
theorem dX5_lightestAtFirst_60 : decode cX5_lightestAtFirst 60 = .ok (.iload_n 1, 1) := by decide +kernel
theorem dX5_lightestAtFirst_61 : decode cX5_lightestAtFirst 61 = .ok (.ireturn, 1) := by decide +kernel
theorem dX5_nextOf_0 : decode cX5_nextOf 0 = .ok (.iconst (-1), 1) := by decide +kernel
theorem dX5_nextOf_1 : decode cX5_nextOf 1 = .ok (.istore 4, 2) := by decide +kernel
theorem dX5_nextOf_3 : decode cX5_nextOf 3 = .ok (.iconst 0, 1) := by decide +kernel
theorem dX5_nextOf_4 : decode cX5_nextOf 4 = .ok (.istore 5, 2) := by decide +kernel
theorem dX5_nextOf_6 : decode cX5_nextOf 6 = .ok (.iconst 0, 1) := by decide +kernel
theorem dX5_nextOf_7 : decode cX5_nextOf 7 = .ok (.istore 6, 2) := by decide +kernel
theorem dX5_nextOf_9 : decode cX5_nextOf 9 = .ok (.iload 6, 2) := by decide +kernel
theorem dX5_nextOf_11 : decode cX5_nextOf 11 = .ok (.bipush 6, 2) := by decide +kernel
theorem dX5_nextOf_13 : decode cX5_nextOf 13 = .ok (.if_icmp .ge 63, 3) := by decide +kernel
theorem dX5_nextOf_16 : decode cX5_nextOf 16 = .ok (.iload_n 2, 1) := by decide +kernel
theorem dX5_nextOf_17 : decode cX5_nextOf 17 = .ok (.iconst 1, 1) := by decide +kernel
theorem dX5_nextOf_18 : decode cX5_nextOf 18 = .ok (.iadd, 1) := by decide +kernel
theorem dX5_nextOf_19 : decode cX5_nextOf 19 = .ok (.aload_n 0, 1) := by decide +kernel
theorem dX5_nextOf_20 : decode cX5_nextOf 20 = .ok (.getfield 24, 3) := by decide +kernel
theorem dX5_nextOf_23 : decode cX5_nextOf 23 = .ok (.if_icmp .ge 53, 3) := by decide +kernel
theorem dX5_nextOf_26 : decode cX5_nextOf 26 = .ok (.aload_n 0, 1) := by decide +kernel
theorem dX5_nextOf_27 : decode cX5_nextOf 27 = .ok (.getfield 20, 3) := by decide +kernel
theorem dX5_nextOf_30 : decode cX5_nextOf 30 = .ok (.iload 6, 2) := by decide +kernel
theorem dX5_nextOf_32 : decode cX5_nextOf 32 = .ok (.invokestatic 53, 3) := by decide +kernel
theorem dX5_nextOf_35 : decode cX5_nextOf 35 = .ok (.ifCond .eq 35, 3) := by decide +kernel
theorem dX5_nextOf_38 : decode cX5_nextOf 38 = .ok (.aload_n 0, 1) := by decide +kernel
theorem dX5_nextOf_39 : decode cX5_nextOf 39 = .ok (.iload_n 1, 1) := by decide +kernel
theorem dX5_nextOf_40 : decode cX5_nextOf 40 = .ok (.iload_n 2, 1) := by decide +kernel
theorem dX5_nextOf_41 : decode cX5_nextOf 41 = .ok (.iload 6, 2) := by decide +kernel
theorem dX5_nextOf_43 : decode cX5_nextOf 43 = .ok (.aload_n 3, 1) := by decide +kernel
theorem dX5_nextOf_44 : decode cX5_nextOf 44 = .ok (.invokevirtual 45, 3) := by decide +kernel
theorem dX5_nextOf_47 : decode cX5_nextOf 47 = .ok (.istore 7, 2) := by decide +kernel
theorem dX5_nextOf_49 : decode cX5_nextOf 49 = .ok (.iload 4, 2) := by decide +kernel
theorem dX5_nextOf_51 : decode cX5_nextOf 51 = .ok (.iconst (-1), 1) := by decide +kernel
theorem dX5_nextOf_52 : decode cX5_nextOf 52 = .ok (.if_icmp .eq 10, 3) := by decide +kernel
theorem dX5_nextOf_55 : decode cX5_nextOf 55 = .ok (.iload 7, 2) := by decide +kernel
theorem dX5_nextOf_57 : decode cX5_nextOf 57 = .ok (.iload 5, 2) := by decide +kernel
theorem dX5_nextOf_59 : decode cX5_nextOf 59 = .ok (.if_icmp .ge 11, 3) := by decide +kernel
theorem dX5_nextOf_62 : decode cX5_nextOf 62 = .ok (.iload 6, 2) := by decide +kernel
theorem dX5_nextOf_64 : decode cX5_nextOf 64 = .ok (.istore 4, 2) := by decide +kernel
theorem dX5_nextOf_66 : decode cX5_nextOf 66 = .ok (.iload 7, 2) := by decide +kernel
theorem dX5_nextOf_68 : decode cX5_nextOf 68 = .ok (.istore 5, 2) := by decide +kernel
theorem dX5_nextOf_70 : decode cX5_nextOf 70 = .ok (.iinc 6 1, 3) := by decide +kernel
theorem dX5_nextOf_73 : decode cX5_nextOf 73 = .ok (.goto (-64), 3) := by decide +kernel
theorem dX5_nextOf_76 : decode cX5_nextOf 76 = .ok (.iload 4, 2) := by decide +kernel
theorem dX5_nextOf_78 : decode cX5_nextOf 78 = .ok (.ireturn, 1) := by decide +kernel
theorem dX5_weightOver_0 : decode cX5_weightOver 0 = .ok (.iload_n 1, 1) := by decide +kernel
theorem dX5_weightOver_1 : decode cX5_weightOver 1 = .ok (.iload_n 3, 1) := by decide +kernel
theorem dX5_weightOver_2 : decode cX5_weightOver 2 = .ok (.if_icmp .ne 7, 3) := by decide +kernel
theorem dX5_weightOver_5 : decode cX5_weightOver 5 = .ok (.iconst 0, 1) := by decide +kernel
theorem dX5_weightOver_6 : decode cX5_weightOver 6 = .ok (.goto 23, 3) := by decide +kernel
theorem dX5_weightOver_9 : decode cX5_weightOver 9 = .ok (.aload_n 0, 1) := by decide +kernel
theorem dX5_weightOver_10 : decode cX5_weightOver 10 = .ok (.getfield 27, 3) := by decide +kernel
theorem dX5_weightOver_13 : decode cX5_weightOver 13 = .ok (.aload_n 0, 1) := by decide +kernel
theorem dX5_weightOver_14 : decode cX5_weightOver 14 = .ok (.getfield 30, 3) := by decide +kernel
theorem dX5_weightOver_17 : decode cX5_weightOver 17 = .ok (.aload 4, 2) := by decide +kernel
theorem dX5_weightOver_19 : decode cX5_weightOver 19 = .ok (.iload_n 2, 1) := by decide +kernel
theorem dX5_weightOver_20 : decode cX5_weightOver 20 = .ok (.iaload, 1) := by decide +kernel
theorem dX5_weightOver_21 : decode cX5_weightOver 21 = .ok (.imul, 1) := by decide +kernel
theorem dX5_weightOver_22 : decode cX5_weightOver 22 = .ok (.iadd, 1) := by decide +kernel
theorem dX5_weightOver_23 : decode cX5_weightOver 23 = .ok (.sipush 256, 3) := by decide +kernel
theorem dX5_weightOver_26 : decode cX5_weightOver 26 = .ok (.imul, 1) := by decide +kernel
theorem dX5_weightOver_27 : decode cX5_weightOver 27 = .ok (.iconst 1, 1) := by decide +kernel
theorem dX5_weightOver_28 : decode cX5_weightOver 28 = .ok (.iadd, 1) := by decide +kernel
theorem dX5_weightOver_29 : decode cX5_weightOver 29 = .ok (.istore 5, 2) := by decide +kernel
theorem dX5_weightOver_31 : decode cX5_weightOver 31 = .ok (.iload 5, 2) := by decide +kernel
theorem dX5_weightOver_33 : decode cX5_weightOver 33 = .ok (.aload_n 0, 1) := by decide +kernel
theorem dX5_weightOver_34 : decode cX5_weightOver 34 = .ok (.getfield 17, 3) := by decide +kernel
theorem dX5_weightOver_37 : decode cX5_weightOver 37 = .ok (.iload_n 3, 1) := by decide +kernel
theorem dX5_weightOver_38 : decode cX5_weightOver 38 = .ok (.aaload, 1) := by decide +kernel
theorem dX5_weightOver_39 : decode cX5_weightOver 39 = .ok (.iload_n 2, 1) := by decide +kernel
theorem dX5_weightOver_40 : decode cX5_weightOver 40 = .ok (.iconst 1, 1) := by decide +kernel
theorem dX5_weightOver_41 : decode cX5_weightOver 41 = .ok (.iadd, 1) := by decide +kernel
theorem dX5_weightOver_42 : decode cX5_weightOver 42 = .ok (.iaload, 1) := by decide +kernel
theorem dX5_weightOver_43 : decode cX5_weightOver 43 = .ok (.iadd, 1) := by decide +kernel
theorem dX5_weightOver_44 : decode cX5_weightOver 44 = .ok (.ireturn, 1) := by decide +kernel
theorem dX6_init_0 : decode cX6_init 0 = .ok (.aload_n 0, 1) := by decide +kernel
theorem dX6_init_1 : decode cX6_init 1 = .ok (.iconst 4, 1) := by decide +kernel
theorem dX6_init_2 : decode cX6_init 2 = .ok (.invokespecial 3, 3) := by decide +kernel
theorem dX6_init_5 : decode cX6_init 5 = .ok (.return_, 1) := by decide +kernel
theorem dX6_step_0 : decode cX6_step 0 = .ok (.iload_n 1, 1) := by decide +kernel
theorem dX6_step_1 : decode cX6_step 1 = .ok (.tableswitch 67 0 6 #[43, 49, 59, 67, 67, 67, 65], 43) := by decide +kernel
theorem dX6_step_44 : decode cX6_step 44 = .ok (.aload_n 0, 1) := by decide +kernel
theorem dX6_step_45 : decode cX6_step 45 = .ok (.iload_n 2, 1) := by decide +kernel
theorem dX6_step_46 : decode cX6_step 46 = .ok (.invokevirtual 9, 3) := by decide +kernel
theorem dX6_step_49 : decode cX6_step 49 = .ok (.ireturn, 1) := by decide +kernel
theorem dX6_step_50 : decode cX6_step 50 = .ok (.aload_n 0, 1) := by decide +kernel
theorem dX6_step_51 : decode cX6_step 51 = .ok (.aload_n 0, 1) := by decide +kernel
theorem dX6_step_52 : decode cX6_step 52 = .ok (.iload_n 2, 1) := by decide +kernel
theorem dX6_step_53 : decode cX6_step 53 = .ok (.invokevirtual 15, 3) := by decide +kernel
theorem dX6_step_56 : decode cX6_step 56 = .ok (.invokevirtual 18, 3) := by decide +kernel
theorem dX6_step_59 : decode cX6_step 59 = .ok (.ireturn, 1) := by decide +kernel
theorem dX6_step_60 : decode cX6_step 60 = .ok (.aload_n 0, 1) := by decide +kernel
theorem dX6_step_61 : decode cX6_step 61 = .ok (.iload_n 2, 1) := by decide +kernel
theorem dX6_step_62 : decode cX6_step 62 = .ok (.invokevirtual 21, 3) := by decide +kernel
theorem dX6_step_65 : decode cX6_step 65 = .ok (.ireturn, 1) := by decide +kernel
theorem dX6_step_66 : decode cX6_step 66 = .ok (.iconst 1, 1) := by decide +kernel
theorem dX6_step_67 : decode cX6_step 67 = .ok (.ireturn, 1) := by decide +kernel
theorem dX6_step_68 : decode cX6_step 68 = .ok (.aload_n 0, 1) := by decide +kernel
theorem dX6_step_69 : decode cX6_step 69 = .ok (.getfield 24, 3) := by decide +kernel
theorem dX6_step_72 : decode cX6_step 72 = .ok (.ireturn, 1) := by decide +kernel
theorem dX6_strike_0 : decode cX6_strike 0 = .ok (.aload_n 0, 1) := by decide +kernel
theorem dX6_strike_1 : decode cX6_strike 1 = .ok (.iload_n 1, 1) := by decide +kernel
theorem dX6_strike_2 : decode cX6_strike 2 = .ok (.invokevirtual 15, 3) := by decide +kernel
theorem dX6_strike_5 : decode cX6_strike 5 = .ok (.istore_n 2, 1) := by decide +kernel
theorem dX6_strike_6 : decode cX6_strike 6 = .ok (.aload_n 0, 1) := by decide +kernel
theorem dX6_strike_7 : decode cX6_strike 7 = .ok (.iload_n 2, 1) := by decide +kernel
theorem dX6_strike_8 : decode cX6_strike 8 = .ok (.invokevirtual 18, 3) := by decide +kernel
theorem dX6_strike_11 : decode cX6_strike 11 = .ok (.istore_n 3, 1) := by decide +kernel
theorem dX6_strike_12 : decode cX6_strike 12 = .ok (.iload_n 2, 1) := by decide +kernel
theorem dX6_strike_13 : decode cX6_strike 13 = .ok (.iconst (-1), 1) := by decide +kernel
theorem dX6_strike_14 : decode cX6_strike 14 = .ok (.if_icmp .ne 5, 3) := by decide +kernel
theorem dX6_strike_17 : decode cX6_strike 17 = .ok (.iload_n 3, 1) := by decide +kernel
theorem dX6_strike_18 : decode cX6_strike 18 = .ok (.ireturn, 1) := by decide +kernel
theorem dX6_strike_19 : decode cX6_strike 19 = .ok (.aload_n 0, 1) := by decide +kernel
theorem dX6_strike_20 : decode cX6_strike 20 = .ok (.iload_n 2, 1) := by decide +kernel
theorem dX6_strike_21 : decode cX6_strike 21 = .ok (.invokevirtual 28, 3) := by decide +kernel
theorem dX6_strike_24 : decode cX6_strike 24 = .ok (.iload_n 3, 1) := by decide +kernel
theorem dX6_strike_25 : decode cX6_strike 25 = .ok (.aload_n 0, 1) := by decide +kernel
theorem dX6_strike_26 : decode cX6_strike 26 = .ok (.getfield 24, 3) := by decide +kernel
theorem dX6_strike_29 : decode cX6_strike 29 = .ok (.iadd, 1) := by decide +kernel
theorem dX6_strike_30 : decode cX6_strike 30 = .ok (.iload_n 2, 1) := by decide +kernel
theorem dX6_strike_31 : decode cX6_strike 31 = .ok (.isub, 1) := by decide +kernel
theorem dX6_strike_32 : decode cX6_strike 32 = .ok (.ireturn, 1) := by decide +kernel
theorem dX6_answerTo_0 : decode cX6_answerTo 0 = .ok (.iload_n 1, 1) := by decide +kernel
theorem dX6_answerTo_1 : decode cX6_answerTo 1 = .ok (.tableswitch 93 0 7 #[47, 54, 54, 93, 69, 75, 81, 87], 47) := by decide +kernel
theorem dX6_answerTo_48 : decode cX6_answerTo 48 = .ok (.aload_n 0, 1) := by decide +kernel
theorem dX6_answerTo_49 : decode cX6_answerTo 49 = .ok (.getfield 24, 3) := by decide +kernel
theorem dX6_answerTo_52 : decode cX6_answerTo 52 = .ok (.iconst 1, 1) := by decide +kernel
theorem dX6_answerTo_53 : decode cX6_answerTo 53 = .ok (.iadd, 1) := by decide +kernel
theorem dX6_answerTo_54 : decode cX6_answerTo 54 = .ok (.ireturn, 1) := by decide +kernel
theorem dX6_answerTo_55 : decode cX6_answerTo 55 = .ok (.aload_n 0, 1) := by decide +kernel
theorem dX6_answerTo_56 : decode cX6_answerTo 56 = .ok (.iload_n 2, 1) := by decide +kernel
theorem dX6_answerTo_57 : decode cX6_answerTo 57 = .ok (.invokevirtual 15, 3) := by decide +kernel
theorem dX6_answerTo_60 : decode cX6_answerTo 60 = .ok (.iconst (-1), 1) := by decide +kernel
theorem dX6_answerTo_61 : decode cX6_answerTo 61 = .ok (.if_icmp .ne 7, 3) := by decide +kernel
theorem dX6_answerTo_64 : decode cX6_answerTo 64 = .ok (.iconst 0, 1) := by decide +kernel
theorem dX6_answerTo_65 : decode cX6_answerTo 65 = .ok (.goto 4, 3) := by decide +kernel
theorem dX6_answerTo_68 : decode cX6_answerTo 68 = .ok (.iconst 1, 1) := by decide +kernel
theorem dX6_answerTo_69 : decode cX6_answerTo 69 = .ok (.ireturn, 1) := by decide +kernel
theorem dX6_answerTo_70 : decode cX6_answerTo 70 = .ok (.aload_n 0, 1) := by decide +kernel
theorem dX6_answerTo_71 : decode cX6_answerTo 71 = .ok (.iconst 0, 1) := by decide +kernel
theorem dX6_answerTo_72 : decode cX6_answerTo 72 = .ok (.invokevirtual 31, 3) := by decide +kernel
theorem dX6_answerTo_75 : decode cX6_answerTo 75 = .ok (.ireturn, 1) := by decide +kernel
theorem dX6_answerTo_76 : decode cX6_answerTo 76 = .ok (.aload_n 0, 1) := by decide +kernel
theorem dX6_answerTo_77 : decode cX6_answerTo 77 = .ok (.iload_n 2, 1) := by decide +kernel
theorem dX6_answerTo_78 : decode cX6_answerTo 78 = .ok (.invokevirtual 31, 3) := by decide +kernel
theorem dX6_answerTo_81 : decode cX6_answerTo 81 = .ok (.ireturn, 1) := by decide +kernel
theorem dX6_answerTo_82 : decode cX6_answerTo 82 = .ok (.aload_n 0, 1) := by decide +kernel
theorem dX6_answerTo_83 : decode cX6_answerTo 83 = .ok (.iconst 0, 1) := by decide +kernel
theorem dX6_answerTo_84 : decode cX6_answerTo 84 = .ok (.invokevirtual 34, 3) := by decide +kernel
theorem dX6_answerTo_87 : decode cX6_answerTo 87 = .ok (.ireturn, 1) := by decide +kernel
theorem dX6_answerTo_88 : decode cX6_answerTo 88 = .ok (.aload_n 0, 1) := by decide +kernel
theorem dX6_answerTo_89 : decode cX6_answerTo 89 = .ok (.iload_n 2, 1) := by decide +kernel
theorem dX6_answerTo_90 : decode cX6_answerTo 90 = .ok (.invokevirtual 37, 3) := by decide +kernel
theorem dX6_answerTo_93 : decode cX6_answerTo 93 = .ok (.ireturn, 1) := by decide +kernel
theorem dX6_answerTo_94 : decode cX6_answerTo 94 = .ok (.aload_n 0, 1) := by decide +kernel
theorem dX6_answerTo_95 : decode cX6_answerTo 95 = .ok (.getfield 24, 3) := by decide +kernel
theorem dX6_answerTo_98 : decode cX6_answerTo 98 = .ok (.ireturn, 1) := by decide +kernel
theorem dX6_leastFrom_0 : decode cX6_leastFrom 0 = .ok (.iconst (-1), 1) := by decide +kernel
theorem dX6_leastFrom_1 : decode cX6_leastFrom 1 = .ok (.istore_n 2, 1) := by decide +kernel
theorem dX6_leastFrom_2 : decode cX6_leastFrom 2 = .ok (.iconst 0, 1) := by decide +kernel
theorem dX6_leastFrom_3 : decode cX6_leastFrom 3 = .ok (.istore_n 3, 1) := by decide +kernel
theorem dX6_leastFrom_4 : decode cX6_leastFrom 4 = .ok (.iload_n 3, 1) := by decide +kernel
theorem dX6_leastFrom_5 : decode cX6_leastFrom 5 = .ok (.aload_n 0, 1) := by decide +kernel
theorem dX6_leastFrom_6 : decode cX6_leastFrom 6 = .ok (.getfield 24, 3) := by decide +kernel
theorem dX6_leastFrom_9 : decode cX6_leastFrom 9 = .ok (.if_icmp .ge 41, 3) := by decide +kernel
theorem dX6_leastFrom_12 : decode cX6_leastFrom 12 = .ok (.aload_n 0, 1) := by decide +kernel
theorem dX6_leastFrom_13 : decode cX6_leastFrom 13 = .ok (.getfield 40, 3) := by decide +kernel
theorem dX6_leastFrom_16 : decode cX6_leastFrom 16 = .ok (.iload_n 3, 1) := by decide +kernel
theorem dX6_leastFrom_17 : decode cX6_leastFrom 17 = .ok (.iaload, 1) := by decide +kernel
theorem dX6_leastFrom_18 : decode cX6_leastFrom 18 = .ok (.iload_n 1, 1) := by decide +kernel
theorem dX6_leastFrom_19 : decode cX6_leastFrom 19 = .ok (.if_icmp .lt 25, 3) := by decide +kernel
theorem dX6_leastFrom_22 : decode cX6_leastFrom 22 = .ok (.iload_n 2, 1) := by decide +kernel
theorem dX6_leastFrom_23 : decode cX6_leastFrom 23 = .ok (.iconst (-1), 1) := by decide +kernel
theorem dX6_leastFrom_24 : decode cX6_leastFrom 24 = .ok (.if_icmp .eq 13, 3) := by decide +kernel
theorem dX6_leastFrom_27 : decode cX6_leastFrom 27 = .ok (.aload_n 0, 1) := by decide +kernel
theorem dX6_leastFrom_28 : decode cX6_leastFrom 28 = .ok (.getfield 40, 3) := by decide +kernel
theorem dX6_leastFrom_31 : decode cX6_leastFrom 31 = .ok (.iload_n 3, 1) := by decide +kernel
theorem dX6_leastFrom_32 : decode cX6_leastFrom 32 = .ok (.iaload, 1) := by decide +kernel
theorem dX6_leastFrom_33 : decode cX6_leastFrom 33 = .ok (.iload_n 2, 1) := by decide +kernel
theorem dX6_leastFrom_34 : decode cX6_leastFrom 34 = .ok (.if_icmp .ge 10, 3) := by decide +kernel
theorem dX6_leastFrom_37 : decode cX6_leastFrom 37 = .ok (.aload_n 0, 1) := by decide +kernel
theorem dX6_leastFrom_38 : decode cX6_leastFrom 38 = .ok (.getfield 40, 3) := by decide +kernel
theorem dX6_leastFrom_41 : decode cX6_leastFrom 41 = .ok (.iload_n 3, 1) := by decide +kernel
theorem dX6_leastFrom_42 : decode cX6_leastFrom 42 = .ok (.iaload, 1) := by decide +kernel
theorem dX6_leastFrom_43 : decode cX6_leastFrom 43 = .ok (.istore_n 2, 1) := by decide +kernel
theorem dX6_leastFrom_44 : decode cX6_leastFrom 44 = .ok (.iinc 3 1, 3) := by decide +kernel
theorem dX6_leastFrom_47 : decode cX6_leastFrom 47 = .ok (.goto (-43), 3) := by decide +kernel
theorem dX6_leastFrom_50 : decode cX6_leastFrom 50 = .ok (.iload_n 2, 1) := by decide +kernel
theorem dX6_leastFrom_51 : decode cX6_leastFrom 51 = .ok (.ireturn, 1) := by decide +kernel
theorem dX6_howMany_0 : decode cX6_howMany 0 = .ok (.iconst 0, 1) := by decide +kernel
theorem dX6_howMany_1 : decode cX6_howMany 1 = .ok (.istore_n 2, 1) := by decide +kernel
theorem dX6_howMany_2 : decode cX6_howMany 2 = .ok (.iconst 0, 1) := by decide +kernel
theorem dX6_howMany_3 : decode cX6_howMany 3 = .ok (.istore_n 3, 1) := by decide +kernel
theorem dX6_howMany_4 : decode cX6_howMany 4 = .ok (.iload_n 3, 1) := by decide +kernel
theorem dX6_howMany_5 : decode cX6_howMany 5 = .ok (.aload_n 0, 1) := by decide +kernel
theorem dX6_howMany_6 : decode cX6_howMany 6 = .ok (.getfield 24, 3) := by decide +kernel
theorem dX6_howMany_9 : decode cX6_howMany 9 = .ok (.if_icmp .ge 22, 3) := by decide +kernel
theorem dX6_howMany_12 : decode cX6_howMany 12 = .ok (.aload_n 0, 1) := by decide +kernel
theorem dX6_howMany_13 : decode cX6_howMany 13 = .ok (.getfield 40, 3) := by decide +kernel
theorem dX6_howMany_16 : decode cX6_howMany 16 = .ok (.iload_n 3, 1) := by decide +kernel
theorem dX6_howMany_17 : decode cX6_howMany 17 = .ok (.iaload, 1) := by decide +kernel
theorem dX6_howMany_18 : decode cX6_howMany 18 = .ok (.iload_n 1, 1) := by decide +kernel
theorem dX6_howMany_19 : decode cX6_howMany 19 = .ok (.if_icmp .ne 6, 3) := by decide +kernel
theorem dX6_howMany_22 : decode cX6_howMany 22 = .ok (.iinc 2 1, 3) := by decide +kernel
theorem dX6_howMany_25 : decode cX6_howMany 25 = .ok (.iinc 3 1, 3) := by decide +kernel
theorem dX6_howMany_28 : decode cX6_howMany 28 = .ok (.goto (-24), 3) := by decide +kernel
theorem dX6_howMany_31 : decode cX6_howMany 31 = .ok (.iload_n 2, 1) := by decide +kernel
theorem dX6_howMany_32 : decode cX6_howMany 32 = .ok (.ireturn, 1) := by decide +kernel
theorem dX7_init_0 : decode cX7_init 0 = .ok (.aload_n 0, 1) := by decide +kernel
theorem dX7_init_1 : decode cX7_init 1 = .ok (.invokespecial 3, 3) := by decide +kernel
theorem dX7_init_4 : decode cX7_init 4 = .ok (.aload_n 0, 1) := by decide +kernel
theorem dX7_init_5 : decode cX7_init 5 = .ok (.sipush 200, 3) := by decide +kernel
theorem dX7_init_8 : decode cX7_init 8 = .ok (.newarray .int, 2) := by decide +kernel
theorem dX7_init_10 : decode cX7_init 10 = .ok (.putfield 9, 3) := by decide +kernel
theorem dX7_init_13 : decode cX7_init 13 = .ok (.aload_n 0, 1) := by decide +kernel
theorem dX7_init_14 : decode cX7_init 14 = .ok (.sipush 200, 3) := by decide +kernel
theorem dX7_init_17 : decode cX7_init 17 = .ok (.newarray .int, 2) := by decide +kernel
theorem dX7_init_19 : decode cX7_init 19 = .ok (.putfield 15, 3) := by decide +kernel
theorem dX7_init_22 : decode cX7_init 22 = .ok (.aload_n 0, 1) := by decide +kernel
theorem dX7_init_23 : decode cX7_init 23 = .ok (.iconst 0, 1) := by decide +kernel
theorem dX7_init_24 : decode cX7_init 24 = .ok (.putfield 18, 3) := by decide +kernel
theorem dX7_init_27 : decode cX7_init 27 = .ok (.return_, 1) := by decide +kernel
theorem dX7_take_0 : decode cX7_take 0 = .ok (.aload_n 0, 1) := by decide +kernel
theorem dX7_take_1 : decode cX7_take 1 = .ok (.getfield 18, 3) := by decide +kernel
theorem dX7_take_4 : decode cX7_take 4 = .ok (.sipush 200, 3) := by decide +kernel
theorem dX7_take_7 : decode cX7_take 7 = .ok (.if_icmp .ge 41, 3) := by decide +kernel
theorem dX7_take_10 : decode cX7_take 10 = .ok (.aload_n 0, 1) := by decide +kernel
theorem dX7_take_11 : decode cX7_take 11 = .ok (.getfield 9, 3) := by decide +kernel
theorem dX7_take_14 : decode cX7_take 14 = .ok (.aload_n 0, 1) := by decide +kernel
theorem dX7_take_15 : decode cX7_take 15 = .ok (.getfield 18, 3) := by decide +kernel
theorem dX7_take_18 : decode cX7_take 18 = .ok (.aload_n 0, 1) := by decide +kernel
theorem dX7_take_19 : decode cX7_take 19 = .ok (.iload_n 1, 1) := by decide +kernel
theorem dX7_take_20 : decode cX7_take 20 = .ok (.iload_n 2, 1) := by decide +kernel
theorem dX7_take_21 : decode cX7_take 21 = .ok (.invokevirtual 22, 3) := by decide +kernel
theorem dX7_take_24 : decode cX7_take 24 = .ok (.iastore, 1) := by decide +kernel
theorem dX7_take_25 : decode cX7_take 25 = .ok (.aload_n 0, 1) := by decide +kernel
theorem dX7_take_26 : decode cX7_take 26 = .ok (.getfield 15, 3) := by decide +kernel
theorem dX7_take_29 : decode cX7_take 29 = .ok (.aload_n 0, 1) := by decide +kernel
theorem dX7_take_30 : decode cX7_take 30 = .ok (.getfield 18, 3) := by decide +kernel
theorem dX7_take_33 : decode cX7_take 33 = .ok (.aload_n 0, 1) := by decide +kernel
theorem dX7_take_34 : decode cX7_take 34 = .ok (.invokevirtual 26, 3) := by decide +kernel
theorem dX7_take_37 : decode cX7_take 37 = .ok (.iastore, 1) := by decide +kernel
theorem dX7_take_38 : decode cX7_take 38 = .ok (.aload_n 0, 1) := by decide +kernel
theorem dX7_take_39 : decode cX7_take 39 = .ok (.dup, 1) := by decide +kernel
theorem dX7_take_40 : decode cX7_take 40 = .ok (.getfield 18, 3) := by decide +kernel
theorem dX7_take_43 : decode cX7_take 43 = .ok (.iconst 1, 1) := by decide +kernel
theorem dX7_take_44 : decode cX7_take 44 = .ok (.iadd, 1) := by decide +kernel
theorem dX7_take_45 : decode cX7_take 45 = .ok (.putfield 18, 3) := by decide +kernel
theorem dX7_take_48 : decode cX7_take 48 = .ok (.return_, 1) := by decide +kernel
theorem dX7_restart_0 : decode cX7_restart 0 = .ok (.aload_n 0, 1) := by decide +kernel
theorem dX7_restart_1 : decode cX7_restart 1 = .ok (.iconst 0, 1) := by decide +kernel
theorem dX7_restart_2 : decode cX7_restart 2 = .ok (.putfield 18, 3) := by decide +kernel
theorem dX7_restart_5 : decode cX7_restart 5 = .ok (.aload_n 0, 1) := by decide +kernel
theorem dX7_restart_6 : decode cX7_restart 6 = .ok (.invokevirtual 30, 3) := by decide +kernel
theorem dX7_restart_9 : decode cX7_restart 9 = .ok (.return_, 1) := by decide +kernel
theorem dX7_stepsSince_0 : decode cX7_stepsSince 0 = .ok (.iconst 0, 1) := by decide +kernel
theorem dX7_stepsSince_1 : decode cX7_stepsSince 1 = .ok (.istore_n 2, 1) := by decide +kernel
theorem dX7_stepsSince_2 : decode cX7_stepsSince 2 = .ok (.iload_n 1, 1) := by decide +kernel
theorem dX7_stepsSince_3 : decode cX7_stepsSince 3 = .ok (.iconst 0, 1) := by decide +kernel
theorem dX7_stepsSince_4 : decode cX7_stepsSince 4 = .ok (.invokestatic 33, 3) := by decide +kernel
theorem dX7_stepsSince_7 : decode cX7_stepsSince 7 = .ok (.istore_n 3, 1) := by decide +kernel
theorem dX7_stepsSince_8 : decode cX7_stepsSince 8 = .ok (.iload_n 3, 1) := by decide +kernel
theorem dX7_stepsSince_9 : decode cX7_stepsSince 9 = .ok (.aload_n 0, 1) := by decide +kernel
theorem dX7_stepsSince_10 : decode cX7_stepsSince 10 = .ok (.getfield 18, 3) := by decide +kernel
theorem dX7_stepsSince_13 : decode cX7_stepsSince 13 = .ok (.if_icmp .ge 18, 3) := by decide +kernel
theorem dX7_stepsSince_16 : decode cX7_stepsSince 16 = .ok (.iload_n 2, 1) := by decide +kernel
theorem dX7_stepsSince_17 : decode cX7_stepsSince 17 = .ok (.aload_n 0, 1) := by decide +kernel
theorem dX7_stepsSince_18 : decode cX7_stepsSince 18 = .ok (.getfield 9, 3) := by decide +kernel
theorem dX7_stepsSince_21 : decode cX7_stepsSince 21 = .ok (.iload_n 3, 1) := by decide +kernel
theorem dX7_stepsSince_22 : decode cX7_stepsSince 22 = .ok (.iaload, 1) := by decide +kernel
theorem dX7_stepsSince_23 : decode cX7_stepsSince 23 = .ok (.iadd, 1) := by decide +kernel
theorem dX7_stepsSince_24 : decode cX7_stepsSince 24 = .ok (.istore_n 2, 1) := by decide +kernel
theorem dX7_stepsSince_25 : decode cX7_stepsSince 25 = .ok (.iinc 3 1, 3) := by decide +kernel
theorem dX7_stepsSince_28 : decode cX7_stepsSince 28 = .ok (.goto (-20), 3) := by decide +kernel
theorem dX7_stepsSince_31 : decode cX7_stepsSince 31 = .ok (.iload_n 2, 1) := by decide +kernel
theorem dX7_stepsSince_32 : decode cX7_stepsSince 32 = .ok (.ireturn, 1) := by decide +kernel
theorem dX7_worstCall_0 : decode cX7_worstCall 0 = .ok (.iconst (-1), 1) := by decide +kernel
theorem dX7_worstCall_1 : decode cX7_worstCall 1 = .ok (.istore_n 1, 1) := by decide +kernel
theorem dX7_worstCall_2 : decode cX7_worstCall 2 = .ok (.iconst 0, 1) := by decide +kernel
theorem dX7_worstCall_3 : decode cX7_worstCall 3 = .ok (.istore_n 2, 1) := by decide +kernel
theorem dX7_worstCall_4 : decode cX7_worstCall 4 = .ok (.iload_n 2, 1) := by decide +kernel
theorem dX7_worstCall_5 : decode cX7_worstCall 5 = .ok (.aload_n 0, 1) := by decide +kernel
theorem dX7_worstCall_6 : decode cX7_worstCall 6 = .ok (.getfield 18, 3) := by decide +kernel
theorem dX7_worstCall_9 : decode cX7_worstCall 9 = .ok (.if_icmp .ge 31, 3) := by decide +kernel
theorem dX7_worstCall_12 : decode cX7_worstCall 12 = .ok (.iload_n 1, 1) := by decide +kernel
theorem dX7_worstCall_13 : decode cX7_worstCall 13 = .ok (.iconst (-1), 1) := by decide +kernel
theorem dX7_worstCall_14 : decode cX7_worstCall 14 = .ok (.if_icmp .eq 18, 3) := by decide +kernel
theorem dX7_worstCall_17 : decode cX7_worstCall 17 = .ok (.aload_n 0, 1) := by decide +kernel
theorem dX7_worstCall_18 : decode cX7_worstCall 18 = .ok (.getfield 9, 3) := by decide +kernel
theorem dX7_worstCall_21 : decode cX7_worstCall 21 = .ok (.iload_n 2, 1) := by decide +kernel
theorem dX7_worstCall_22 : decode cX7_worstCall 22 = .ok (.iaload, 1) := by decide +kernel
theorem dX7_worstCall_23 : decode cX7_worstCall 23 = .ok (.aload_n 0, 1) := by decide +kernel
theorem dX7_worstCall_24 : decode cX7_worstCall 24 = .ok (.getfield 9, 3) := by decide +kernel
theorem dX7_worstCall_27 : decode cX7_worstCall 27 = .ok (.iload_n 1, 1) := by decide +kernel
theorem dX7_worstCall_28 : decode cX7_worstCall 28 = .ok (.iaload, 1) := by decide +kernel
theorem dX7_worstCall_29 : decode cX7_worstCall 29 = .ok (.if_icmp .le 5, 3) := by decide +kernel
theorem dX7_worstCall_32 : decode cX7_worstCall 32 = .ok (.iload_n 2, 1) := by decide +kernel
theorem dX7_worstCall_33 : decode cX7_worstCall 33 = .ok (.istore_n 1, 1) := by decide +kernel
theorem dX7_worstCall_34 : decode cX7_worstCall 34 = .ok (.iinc 2 1, 3) := by decide +kernel
theorem dX7_worstCall_37 : decode cX7_worstCall 37 = .ok (.goto (-33), 3) := by decide +kernel
theorem dX7_worstCall_40 : decode cX7_worstCall 40 = .ok (.iload_n 1, 1) := by decide +kernel
theorem dX7_worstCall_41 : decode cX7_worstCall 41 = .ok (.ireturn, 1) := by decide +kernel
theorem dX7_worstSteps_0 : decode cX7_worstSteps 0 = .ok (.aload_n 0, 1) := by decide +kernel
theorem dX7_worstSteps_1 : decode cX7_worstSteps 1 = .ok (.invokevirtual 38, 3) := by decide +kernel
theorem dX7_worstSteps_4 : decode cX7_worstSteps 4 = .ok (.istore_n 1, 1) := by decide +kernel
theorem dX7_worstSteps_5 : decode cX7_worstSteps 5 = .ok (.iload_n 1, 1) := by decide +kernel
theorem dX7_worstSteps_6 : decode cX7_worstSteps 6 = .ok (.iconst (-1), 1) := by decide +kernel
theorem dX7_worstSteps_7 : decode cX7_worstSteps 7 = .ok (.if_icmp .ne 7, 3) := by decide +kernel
theorem dX7_worstSteps_10 : decode cX7_worstSteps 10 = .ok (.iconst 0, 1) := by decide +kernel
theorem dX7_worstSteps_11 : decode cX7_worstSteps 11 = .ok (.goto 9, 3) := by decide +kernel
theorem dX7_worstSteps_14 : decode cX7_worstSteps 14 = .ok (.aload_n 0, 1) := by decide +kernel
theorem dX7_worstSteps_15 : decode cX7_worstSteps 15 = .ok (.getfield 9, 3) := by decide +kernel
theorem dX7_worstSteps_18 : decode cX7_worstSteps 18 = .ok (.iload_n 1, 1) := by decide +kernel
theorem dX7_worstSteps_19 : decode cX7_worstSteps 19 = .ok (.iaload, 1) := by decide +kernel
theorem dX7_worstSteps_20 : decode cX7_worstSteps 20 = .ok (.ireturn, 1) := by decide +kernel
theorem dX7_greatestRoom_0 : decode cX7_greatestRoom 0 = .ok (.iconst 0, 1) := by decide +kernel
theorem dX7_greatestRoom_1 : decode cX7_greatestRoom 1 = .ok (.istore_n 1, 1) := by decide +kernel
theorem dX7_greatestRoom_2 : decode cX7_greatestRoom 2 = .ok (.iconst 0, 1) := by decide +kernel
theorem dX7_greatestRoom_3 : decode cX7_greatestRoom 3 = .ok (.istore_n 2, 1) := by decide +kernel
theorem dX7_greatestRoom_4 : decode cX7_greatestRoom 4 = .ok (.iload_n 2, 1) := by decide +kernel
theorem dX7_greatestRoom_5 : decode cX7_greatestRoom 5 = .ok (.aload_n 0, 1) := by decide +kernel
theorem dX7_greatestRoom_6 : decode cX7_greatestRoom 6 = .ok (.getfield 18, 3) := by decide +kernel
theorem dX7_greatestRoom_9 : decode cX7_greatestRoom 9 = .ok (.if_icmp .ge 20, 3) := by decide +kernel
theorem dX7_greatestRoom_12 : decode cX7_greatestRoom 12 = .ok (.iload_n 1, 1) := by decide +kernel
theorem dX7_greatestRoom_13 : decode cX7_greatestRoom 13 = .ok (.aload_n 0, 1) := by decide +kernel
theorem dX7_greatestRoom_14 : decode cX7_greatestRoom 14 = .ok (.getfield 15, 3) := by decide +kernel
theorem dX7_greatestRoom_17 : decode cX7_greatestRoom 17 = .ok (.iload_n 2, 1) := by decide +kernel
theorem dX7_greatestRoom_18 : decode cX7_greatestRoom 18 = .ok (.iaload, 1) := by decide +kernel
theorem dX7_greatestRoom_19 : decode cX7_greatestRoom 19 = .ok (.invokestatic 33, 3) := by decide +kernel
theorem dX7_greatestRoom_22 : decode cX7_greatestRoom 22 = .ok (.istore_n 1, 1) := by decide +kernel
theorem dX7_greatestRoom_23 : decode cX7_greatestRoom 23 = .ok (.iinc 2 1, 3) := by decide +kernel
theorem dX7_greatestRoom_26 : decode cX7_greatestRoom 26 = .ok (.goto (-22), 3) := by decide +kernel
theorem dX7_greatestRoom_29 : decode cX7_greatestRoom 29 = .ok (.iload_n 1, 1) := by decide +kernel
theorem dX7_greatestRoom_30 : decode cX7_greatestRoom 30 = .ok (.ireturn, 1) := by decide +kernel
theorem dX7_isWithin_0 : decode cX7_isWithin 0 = .ok (.aload_n 0, 1) := by decide +kernel
theorem dX7_isWithin_1 : decode cX7_isWithin 1 = .ok (.getfield 18, 3) := by decide +kernel
theorem dX7_isWithin_4 : decode cX7_isWithin 4 = .ok (.ifCond .eq 11, 3) := by decide +kernel
theorem dX7_isWithin_7 : decode cX7_isWithin 7 = .ok (.aload_n 0, 1) := by decide +kernel
theorem dX7_isWithin_8 : decode cX7_isWithin 8 = .ok (.invokevirtual 41, 3) := by decide +kernel
theorem dX7_isWithin_11 : decode cX7_isWithin 11 = .ok (.iload_n 1, 1) := by decide +kernel
theorem dX7_isWithin_12 : decode cX7_isWithin 12 = .ok (.if_icmp .gt 15, 3) := by decide +kernel
theorem dX7_isWithin_15 : decode cX7_isWithin 15 = .ok (.aload_n 0, 1) := by decide +kernel
theorem dX7_isWithin_16 : decode cX7_isWithin 16 = .ok (.invokevirtual 44, 3) := by decide +kernel
theorem dX7_isWithin_19 : decode cX7_isWithin 19 = .ok (.iload_n 2, 1) := by decide +kernel
theorem dX7_isWithin_20 : decode cX7_isWithin 20 = .ok (.if_icmp .gt 7, 3) := by decide +kernel
theorem dX7_isWithin_23 : decode cX7_isWithin 23 = .ok (.iconst 1, 1) := by decide +kernel
theorem dX7_isWithin_24 : decode cX7_isWithin 24 = .ok (.goto 4, 3) := by decide +kernel
theorem dX7_isWithin_27 : decode cX7_isWithin 27 = .ok (.iconst 0, 1) := by decide +kernel
theorem dX7_isWithin_28 : decode cX7_isWithin 28 = .ok (.ireturn, 1) := by decide +kernel
theorem dX8_init_0 : decode cX8_init 0 = .ok (.aload_n 0, 1) := by decide +kernel
theorem dX8_init_1 : decode cX8_init 1 = .ok (.iconst 4, 1) := by decide +kernel
theorem dX8_init_2 : decode cX8_init 2 = .ok (.invokespecial 3, 3) := by decide +kernel
theorem dX8_init_5 : decode cX8_init 5 = .ok (.aload_n 0, 1) := by decide +kernel
theorem dX8_init_6 : decode cX8_init 6 = .ok (.iconst 0, 1) := by decide +kernel
theorem dX8_init_7 : decode cX8_init 7 = .ok (.putfield 9, 3) := by decide +kernel
theorem dX8_init_10 : decode cX8_init 10 = .ok (.return_, 1) := by decide +kernel
theorem dX8_step_0 : decode cX8_step 0 = .ok (.iload_n 1, 1) := by decide +kernel
theorem dX8_step_1 : decode cX8_step 1 = .ok (.tableswitch 79 0 7 #[47, 53, 63, 79, 69, 53, 71, 73], 47) := by decide +kernel
theorem dX8_step_48 : decode cX8_step 48 = .ok (.aload_n 0, 1) := by decide +kernel
theorem dX8_step_49 : decode cX8_step 49 = .ok (.iload_n 2, 1) := by decide +kernel
theorem dX8_step_50 : decode cX8_step 50 = .ok (.invokevirtual 15, 3) := by decide +kernel
theorem dX8_step_53 : decode cX8_step 53 = .ok (.ireturn, 1) := by decide +kernel
theorem dX8_step_54 : decode cX8_step 54 = .ok (.aload_n 0, 1) := by decide +kernel
theorem dX8_step_55 : decode cX8_step 55 = .ok (.aload_n 0, 1) := by decide +kernel
theorem dX8_step_56 : decode cX8_step 56 = .ok (.iload_n 2, 1) := by decide +kernel
theorem dX8_step_57 : decode cX8_step 57 = .ok (.invokevirtual 19, 3) := by decide +kernel
theorem dX8_step_60 : decode cX8_step 60 = .ok (.invokevirtual 22, 3) := by decide +kernel
theorem dX8_step_63 : decode cX8_step 63 = .ok (.ireturn, 1) := by decide +kernel
theorem dX8_step_64 : decode cX8_step 64 = .ok (.aload_n 0, 1) := by decide +kernel
theorem dX8_step_65 : decode cX8_step 65 = .ok (.iload_n 2, 1) := by decide +kernel
theorem dX8_step_66 : decode cX8_step 66 = .ok (.invokevirtual 25, 3) := by decide +kernel
theorem dX8_step_69 : decode cX8_step 69 = .ok (.ireturn, 1) := by decide +kernel
theorem dX8_step_70 : decode cX8_step 70 = .ok (.iconst 1, 1) := by decide +kernel
theorem dX8_step_71 : decode cX8_step 71 = .ok (.ireturn, 1) := by decide +kernel
theorem dX8_step_72 : decode cX8_step 72 = .ok (.iconst 0, 1) := by decide +kernel
theorem dX8_step_73 : decode cX8_step 73 = .ok (.ireturn, 1) := by decide +kernel
theorem dX8_step_74 : decode cX8_step 74 = .ok (.aload_n 0, 1) := by decide +kernel
theorem dX8_step_75 : decode cX8_step 75 = .ok (.iload_n 2, 1) := by decide +kernel
theorem dX8_step_76 : decode cX8_step 76 = .ok (.invokevirtual 28, 3) := by decide +kernel
theorem dX8_step_79 : decode cX8_step 79 = .ok (.ireturn, 1) := by decide +kernel
theorem dX8_step_80 : decode cX8_step 80 = .ok (.aload_n 0, 1) := by decide +kernel
theorem dX8_step_81 : decode cX8_step 81 = .ok (.getfield 31, 3) := by decide +kernel
theorem dX8_step_84 : decode cX8_step 84 = .ok (.ireturn, 1) := by decide +kernel
theorem dX8_halve_0 : decode cX8_halve 0 = .ok (.iconst 0, 1) := by decide +kernel
theorem dX8_halve_1 : decode cX8_halve 1 = .ok (.istore_n 2, 1) := by decide +kernel
theorem dX8_halve_2 : decode cX8_halve 2 = .ok (.aload_n 0, 1) := by decide +kernel
theorem dX8_halve_3 : decode cX8_halve 3 = .ok (.getfield 31, 3) := by decide +kernel
theorem dX8_halve_6 : decode cX8_halve 6 = .ok (.istore_n 3, 1) := by decide +kernel
theorem dX8_halve_7 : decode cX8_halve 7 = .ok (.aload_n 0, 1) := by decide +kernel
theorem dX8_halve_8 : decode cX8_halve 8 = .ok (.iconst 0, 1) := by decide +kernel
theorem dX8_halve_9 : decode cX8_halve 9 = .ok (.putfield 9, 3) := by decide +kernel
theorem dX8_halve_12 : decode cX8_halve 12 = .ok (.iload_n 2, 1) := by decide +kernel
theorem dX8_halve_13 : decode cX8_halve 13 = .ok (.iload_n 3, 1) := by decide +kernel
theorem dX8_halve_14 : decode cX8_halve 14 = .ok (.if_icmp .ge 45, 3) := by decide +kernel
theorem dX8_halve_17 : decode cX8_halve 17 = .ok (.iload_n 2, 1) := by decide +kernel
theorem dX8_halve_18 : decode cX8_halve 18 = .ok (.iload_n 3, 1) := by decide +kernel
theorem dX8_halve_19 : decode cX8_halve 19 = .ok (.iadd, 1) := by decide +kernel
theorem dX8_halve_20 : decode cX8_halve 20 = .ok (.iconst 2, 1) := by decide +kernel
theorem dX8_halve_21 : decode cX8_halve 21 = .ok (.idiv, 1) := by decide +kernel
theorem dX8_halve_22 : decode cX8_halve 22 = .ok (.istore 4, 2) := by decide +kernel
theorem dX8_halve_24 : decode cX8_halve 24 = .ok (.aload_n 0, 1) := by decide +kernel
theorem dX8_halve_25 : decode cX8_halve 25 = .ok (.dup, 1) := by decide +kernel
theorem dX8_halve_26 : decode cX8_halve 26 = .ok (.getfield 9, 3) := by decide +kernel
theorem dX8_halve_29 : decode cX8_halve 29 = .ok (.iconst 1, 1) := by decide +kernel
theorem dX8_halve_30 : decode cX8_halve 30 = .ok (.iadd, 1) := by decide +kernel
theorem dX8_halve_31 : decode cX8_halve 31 = .ok (.putfield 9, 3) := by decide +kernel
theorem dX8_halve_34 : decode cX8_halve 34 = .ok (.aload_n 0, 1) := by decide +kernel
theorem dX8_halve_35 : decode cX8_halve 35 = .ok (.getfield 34, 3) := by decide +kernel
theorem dX8_halve_38 : decode cX8_halve 38 = .ok (.iload 4, 2) := by decide +kernel
theorem dX8_halve_40 : decode cX8_halve 40 = .ok (.iaload, 1) := by decide +kernel
theorem dX8_halve_41 : decode cX8_halve 41 = .ok (.iload_n 1, 1) := by decide +kernel
theorem dX8_halve_42 : decode cX8_halve 42 = .ok (.if_icmp .ge 11, 3) := by decide +kernel
theorem dX8_halve_45 : decode cX8_halve 45 = .ok (.iload 4, 2) := by decide +kernel
theorem dX8_halve_47 : decode cX8_halve 47 = .ok (.iconst 1, 1) := by decide +kernel
theorem dX8_halve_48 : decode cX8_halve 48 = .ok (.iadd, 1) := by decide +kernel
theorem dX8_halve_49 : decode cX8_halve 49 = .ok (.istore_n 2, 1) := by decide +kernel
theorem dX8_halve_50 : decode cX8_halve 50 = .ok (.goto 6, 3) := by decide +kernel
theorem dX8_halve_53 : decode cX8_halve 53 = .ok (.iload 4, 2) := by decide +kernel
theorem dX8_halve_55 : decode cX8_halve 55 = .ok (.istore_n 3, 1) := by decide +kernel
theorem dX8_halve_56 : decode cX8_halve 56 = .ok (.goto (-44), 3) := by decide +kernel
theorem dX8_halve_59 : decode cX8_halve 59 = .ok (.iload_n 2, 1) := by decide +kernel
theorem dX8_halve_60 : decode cX8_halve 60 = .ok (.ireturn, 1) := by decide +kernel
theorem dX8_putInOrder_0 : decode cX8_putInOrder 0 = .ok (.aload_n 0, 1) := by decide +kernel
theorem dX8_putInOrder_1 : decode cX8_putInOrder 1 = .ok (.invokevirtual 38, 3) := by decide +kernel
theorem dX8_putInOrder_4 : decode cX8_putInOrder 4 = .ok (.istore_n 2, 1) := by decide +kernel
theorem dX8_putInOrder_5 : decode cX8_putInOrder 5 = .ok (.aload_n 0, 1) := by decide +kernel
theorem dX8_putInOrder_6 : decode cX8_putInOrder 6 = .ok (.iload_n 1, 1) := by decide +kernel
theorem dX8_putInOrder_7 : decode cX8_putInOrder 7 = .ok (.invokevirtual 19, 3) := by decide +kernel
theorem dX8_putInOrder_10 : decode cX8_putInOrder 10 = .ok (.istore_n 3, 1) := by decide +kernel
theorem dX8_putInOrder_11 : decode cX8_putInOrder 11 = .ok (.aload_n 0, 1) := by decide +kernel
theorem dX8_putInOrder_12 : decode cX8_putInOrder 12 = .ok (.getfield 31, 3) := by decide +kernel
theorem dX8_putInOrder_15 : decode cX8_putInOrder 15 = .ok (.iload_n 3, 1) := by decide +kernel
theorem dX8_putInOrder_16 : decode cX8_putInOrder 16 = .ok (.isub, 1) := by decide +kernel
theorem dX8_putInOrder_17 : decode cX8_putInOrder 17 = .ok (.istore 4, 2) := by decide +kernel
theorem dX8_putInOrder_19 : decode cX8_putInOrder 19 = .ok (.aload_n 0, 1) := by decide +kernel
theorem dX8_putInOrder_20 : decode cX8_putInOrder 20 = .ok (.iload_n 3, 1) := by decide +kernel
theorem dX8_putInOrder_21 : decode cX8_putInOrder 21 = .ok (.iload_n 1, 1) := by decide +kernel
theorem dX8_putInOrder_22 : decode cX8_putInOrder 22 = .ok (.invokevirtual 42, 3) := by decide +kernel
theorem dX8_putInOrder_25 : decode cX8_putInOrder 25 = .ok (.iload_n 2, 1) := by decide +kernel
theorem dX8_putInOrder_26 : decode cX8_putInOrder 26 = .ok (.aload_n 0, 1) := by decide +kernel
theorem dX8_putInOrder_27 : decode cX8_putInOrder 27 = .ok (.getfield 9, 3) := by decide +kernel
theorem dX8_putInOrder_30 : decode cX8_putInOrder 30 = .ok (.iadd, 1) := by decide +kernel
theorem dX8_putInOrder_31 : decode cX8_putInOrder 31 = .ok (.iload 4, 2) := by decide +kernel
theorem dX8_putInOrder_33 : decode cX8_putInOrder 33 = .ok (.iadd, 1) := by decide +kernel
theorem dX8_putInOrder_34 : decode cX8_putInOrder 34 = .ok (.iconst 1, 1) := by decide +kernel
theorem dX8_putInOrder_35 : decode cX8_putInOrder 35 = .ok (.iadd, 1) := by decide +kernel
theorem dX8_putInOrder_36 : decode cX8_putInOrder 36 = .ok (.ireturn, 1) := by decide +kernel
theorem dX8_askedAt_0 : decode cX8_askedAt 0 = .ok (.aload_n 0, 1) := by decide +kernel
theorem dX8_askedAt_1 : decode cX8_askedAt 1 = .ok (.getfield 9, 3) := by decide +kernel
theorem dX8_askedAt_4 : decode cX8_askedAt 4 = .ok (.iload_n 1, 1) := by decide +kernel
theorem dX8_askedAt_5 : decode cX8_askedAt 5 = .ok (.aload_n 0, 1) := by decide +kernel
theorem dX8_askedAt_6 : decode cX8_askedAt 6 = .ok (.getfield 31, 3) := by decide +kernel
theorem dX8_askedAt_9 : decode cX8_askedAt 9 = .ok (.if_icmp .ge 7, 3) := by decide +kernel
theorem dX8_askedAt_12 : decode cX8_askedAt 12 = .ok (.iconst 1, 1) := by decide +kernel
theorem dX8_askedAt_13 : decode cX8_askedAt 13 = .ok (.goto 4, 3) := by decide +kernel
theorem dX8_askedAt_16 : decode cX8_askedAt 16 = .ok (.iconst 0, 1) := by decide +kernel
theorem dX8_askedAt_17 : decode cX8_askedAt 17 = .ok (.iadd, 1) := by decide +kernel
theorem dX8_askedAt_18 : decode cX8_askedAt 18 = .ok (.ireturn, 1) := by decide +kernel
theorem dX8_strike_0 : decode cX8_strike 0 = .ok (.aload_n 0, 1) := by decide +kernel
theorem dX8_strike_1 : decode cX8_strike 1 = .ok (.iload_n 1, 1) := by decide +kernel
theorem dX8_strike_2 : decode cX8_strike 2 = .ok (.invokevirtual 19, 3) := by decide +kernel
theorem dX8_strike_5 : decode cX8_strike 5 = .ok (.istore_n 2, 1) := by decide +kernel
theorem dX8_strike_6 : decode cX8_strike 6 = .ok (.aload_n 0, 1) := by decide +kernel
theorem dX8_strike_7 : decode cX8_strike 7 = .ok (.iload_n 2, 1) := by decide +kernel
theorem dX8_strike_8 : decode cX8_strike 8 = .ok (.invokevirtual 22, 3) := by decide +kernel
theorem dX8_strike_11 : decode cX8_strike 11 = .ok (.istore_n 3, 1) := by decide +kernel
theorem dX8_strike_12 : decode cX8_strike 12 = .ok (.aload_n 0, 1) := by decide +kernel
theorem dX8_strike_13 : decode cX8_strike 13 = .ok (.iload_n 2, 1) := by decide +kernel
theorem dX8_strike_14 : decode cX8_strike 14 = .ok (.invokevirtual 46, 3) := by decide +kernel
theorem dX8_strike_17 : decode cX8_strike 17 = .ok (.iload_n 1, 1) := by decide +kernel
theorem dX8_strike_18 : decode cX8_strike 18 = .ok (.if_icmp .eq 5, 3) := by decide +kernel
theorem dX8_strike_21 : decode cX8_strike 21 = .ok (.iload_n 3, 1) := by decide +kernel
theorem dX8_strike_22 : decode cX8_strike 22 = .ok (.ireturn, 1) := by decide +kernel
theorem dX8_strike_23 : decode cX8_strike 23 = .ok (.aload_n 0, 1) := by decide +kernel
theorem dX8_strike_24 : decode cX8_strike 24 = .ok (.iload_n 2, 1) := by decide +kernel
theorem dX8_strike_25 : decode cX8_strike 25 = .ok (.invokevirtual 49, 3) := by decide +kernel
theorem dX8_strike_28 : decode cX8_strike 28 = .ok (.iload_n 3, 1) := by decide +kernel
theorem dX8_strike_29 : decode cX8_strike 29 = .ok (.aload_n 0, 1) := by decide +kernel
theorem dX8_strike_30 : decode cX8_strike 30 = .ok (.getfield 31, 3) := by decide +kernel
theorem dX8_strike_33 : decode cX8_strike 33 = .ok (.iadd, 1) := by decide +kernel
theorem dX8_strike_34 : decode cX8_strike 34 = .ok (.iload_n 2, 1) := by decide +kernel
theorem dX8_strike_35 : decode cX8_strike 35 = .ok (.isub, 1) := by decide +kernel
theorem dX8_strike_36 : decode cX8_strike 36 = .ok (.ireturn, 1) := by decide +kernel
theorem dX8_seekBothEnds_0 : decode cX8_seekBothEnds 0 = .ok (.aload_n 0, 1) := by decide +kernel
theorem dX8_seekBothEnds_1 : decode cX8_seekBothEnds 1 = .ok (.iload_n 1, 1) := by decide +kernel
theorem dX8_seekBothEnds_2 : decode cX8_seekBothEnds 2 = .ok (.invokevirtual 19, 3) := by decide +kernel
theorem dX8_seekBothEnds_5 : decode cX8_seekBothEnds 5 = .ok (.pop, 1) := by decide +kernel
theorem dX8_seekBothEnds_6 : decode cX8_seekBothEnds 6 = .ok (.aload_n 0, 1) := by decide +kernel
theorem dX8_seekBothEnds_7 : decode cX8_seekBothEnds 7 = .ok (.getfield 9, 3) := by decide +kernel
theorem dX8_seekBothEnds_10 : decode cX8_seekBothEnds 10 = .ok (.istore_n 2, 1) := by decide +kernel
theorem dX8_seekBothEnds_11 : decode cX8_seekBothEnds 11 = .ok (.aload_n 0, 1) := by decide +kernel
theorem dX8_seekBothEnds_12 : decode cX8_seekBothEnds 12 = .ok (.iload_n 1, 1) := by decide +kernel
theorem dX8_seekBothEnds_13 : decode cX8_seekBothEnds 13 = .ok (.iconst 1, 1) := by decide +kernel
theorem dX8_seekBothEnds_14 : decode cX8_seekBothEnds 14 = .ok (.iadd, 1) := by decide +kernel
theorem dX8_seekBothEnds_15 : decode cX8_seekBothEnds 15 = .ok (.invokevirtual 19, 3) := by decide +kernel
theorem dX8_seekBothEnds_18 : decode cX8_seekBothEnds 18 = .ok (.pop, 1) := by decide +kernel
theorem dX8_seekBothEnds_19 : decode cX8_seekBothEnds 19 = .ok (.iload_n 2, 1) := by decide +kernel
theorem dX8_seekBothEnds_20 : decode cX8_seekBothEnds 20 = .ok (.aload_n 0, 1) := by decide +kernel
theorem dX8_seekBothEnds_21 : decode cX8_seekBothEnds 21 = .ok (.getfield 9, 3) := by decide +kernel
theorem dX8_seekBothEnds_24 : decode cX8_seekBothEnds 24 = .ok (.iadd, 1) := by decide +kernel
theorem dX8_seekBothEnds_25 : decode cX8_seekBothEnds 25 = .ok (.ireturn, 1) := by decide +kernel
theorem dX9_init_0 : decode cX9_init 0 = .ok (.aload_n 0, 1) := by decide +kernel
theorem dX9_init_1 : decode cX9_init 1 = .ok (.invokespecial 3, 3) := by decide +kernel
theorem dX9_init_4 : decode cX9_init 4 = .ok (.aload_n 0, 1) := by decide +kernel
theorem dX9_init_5 : decode cX9_init 5 = .ok (.bipush 64, 2) := by decide +kernel
theorem dX9_init_7 : decode cX9_init 7 = .ok (.newarray .int, 2) := by decide +kernel
theorem dX9_init_9 : decode cX9_init 9 = .ok (.putfield 9, 3) := by decide +kernel
theorem dX9_init_12 : decode cX9_init 12 = .ok (.aload_n 0, 1) := by decide +kernel
theorem dX9_init_13 : decode cX9_init 13 = .ok (.bipush 64, 2) := by decide +kernel
theorem dX9_init_15 : decode cX9_init 15 = .ok (.newarray .int, 2) := by decide +kernel
theorem dX9_init_17 : decode cX9_init 17 = .ok (.putfield 15, 3) := by decide +kernel
theorem dX9_init_20 : decode cX9_init 20 = .ok (.aload_n 0, 1) := by decide +kernel
theorem dX9_init_21 : decode cX9_init 21 = .ok (.iconst (-1), 1) := by decide +kernel
theorem dX9_init_22 : decode cX9_init 22 = .ok (.putfield 18, 3) := by decide +kernel
theorem dX9_init_25 : decode cX9_init 25 = .ok (.aload_n 0, 1) := by decide +kernel
theorem dX9_init_26 : decode cX9_init 26 = .ok (.iconst 0, 1) := by decide +kernel
theorem dX9_init_27 : decode cX9_init 27 = .ok (.putfield 22, 3) := by decide +kernel
theorem dX9_init_30 : decode cX9_init 30 = .ok (.aload_n 0, 1) := by decide +kernel
theorem dX9_init_31 : decode cX9_init 31 = .ok (.iconst (-1), 1) := by decide +kernel
theorem dX9_init_32 : decode cX9_init 32 = .ok (.putfield 25, 3) := by decide +kernel
theorem dX9_init_35 : decode cX9_init 35 = .ok (.return_, 1) := by decide +kernel
theorem dX9_room_0 : decode cX9_room 0 = .ok (.iconst 4, 1) := by decide +kernel
theorem dX9_room_1 : decode cX9_room 1 = .ok (.aload_n 0, 1) := by decide +kernel
theorem dX9_room_2 : decode cX9_room 2 = .ok (.getfield 22, 3) := by decide +kernel
theorem dX9_room_5 : decode cX9_room 5 = .ok (.imul, 1) := by decide +kernel
theorem dX9_room_6 : decode cX9_room 6 = .ok (.ireturn, 1) := by decide +kernel
theorem dX9_clear_0 : decode cX9_clear 0 = .ok (.aload_n 0, 1) := by decide +kernel
theorem dX9_clear_1 : decode cX9_clear 1 = .ok (.invokespecial 28, 3) := by decide +kernel
theorem dX9_clear_4 : decode cX9_clear 4 = .ok (.aload_n 0, 1) := by decide +kernel
theorem dX9_clear_5 : decode cX9_clear 5 = .ok (.iconst (-1), 1) := by decide +kernel
theorem dX9_clear_6 : decode cX9_clear 6 = .ok (.putfield 18, 3) := by decide +kernel
theorem dX9_clear_9 : decode cX9_clear 9 = .ok (.aload_n 0, 1) := by decide +kernel
theorem dX9_clear_10 : decode cX9_clear 10 = .ok (.iconst 0, 1) := by decide +kernel
theorem dX9_clear_11 : decode cX9_clear 11 = .ok (.putfield 22, 3) := by decide +kernel
theorem dX9_clear_14 : decode cX9_clear 14 = .ok (.return_, 1) := by decide +kernel
theorem dX9_step_0 : decode cX9_step 0 = .ok (.iload_n 1, 1) := by decide +kernel
theorem dX9_step_1 : decode cX9_step 1 = .ok (.tableswitch 72 0 7 #[47, 53, 59, 72, 65, 53, 70, 53], 47) := by decide +kernel
theorem dX9_step_48 : decode cX9_step 48 = .ok (.aload_n 0, 1) := by decide +kernel
theorem dX9_step_49 : decode cX9_step 49 = .ok (.iload_n 2, 1) := by decide +kernel
theorem dX9_step_50 : decode cX9_step 50 = .ok (.invokevirtual 31, 3) := by decide +kernel
theorem dX9_step_53 : decode cX9_step 53 = .ok (.ireturn, 1) := by decide +kernel
theorem dX9_step_54 : decode cX9_step 54 = .ok (.aload_n 0, 1) := by decide +kernel
theorem dX9_step_55 : decode cX9_step 55 = .ok (.iload_n 2, 1) := by decide +kernel
theorem dX9_step_56 : decode cX9_step 56 = .ok (.invokevirtual 35, 3) := by decide +kernel
theorem dX9_step_59 : decode cX9_step 59 = .ok (.ireturn, 1) := by decide +kernel
theorem dX9_step_60 : decode cX9_step 60 = .ok (.aload_n 0, 1) := by decide +kernel
theorem dX9_step_61 : decode cX9_step 61 = .ok (.iload_n 2, 1) := by decide +kernel
theorem dX9_step_62 : decode cX9_step 62 = .ok (.invokevirtual 38, 3) := by decide +kernel
theorem dX9_step_65 : decode cX9_step 65 = .ok (.ireturn, 1) := by decide +kernel
theorem dX9_step_66 : decode cX9_step 66 = .ok (.aload_n 0, 1) := by decide +kernel
theorem dX9_step_67 : decode cX9_step 67 = .ok (.invokevirtual 41, 3) := by decide +kernel
theorem dX9_step_70 : decode cX9_step 70 = .ok (.ireturn, 1) := by decide +kernel
theorem dX9_step_71 : decode cX9_step 71 = .ok (.iconst 0, 1) := by decide +kernel
theorem dX9_step_72 : decode cX9_step 72 = .ok (.ireturn, 1) := by decide +kernel
theorem dX9_step_73 : decode cX9_step 73 = .ok (.aload_n 0, 1) := by decide +kernel
theorem dX9_step_74 : decode cX9_step 74 = .ok (.getfield 22, 3) := by decide +kernel
theorem dX9_step_77 : decode cX9_step 77 = .ok (.ireturn, 1) := by decide +kernel
theorem dX9_seek_0 : decode cX9_seek 0 = .ok (.aload_n 0, 1) := by decide +kernel
theorem dX9_seek_1 : decode cX9_seek 1 = .ok (.getfield 18, 3) := by decide +kernel
theorem dX9_seek_4 : decode cX9_seek 4 = .ok (.istore_n 2, 1) := by decide +kernel
theorem dX9_seek_5 : decode cX9_seek 5 = .ok (.iconst 0, 1) := by decide +kernel
theorem dX9_seek_6 : decode cX9_seek 6 = .ok (.istore_n 3, 1) := by decide +kernel
theorem dX9_seek_7 : decode cX9_seek 7 = .ok (.aload_n 0, 1) := by decide +kernel
theorem dX9_seek_8 : decode cX9_seek 8 = .ok (.iconst (-1), 1) := by decide +kernel
theorem dX9_seek_9 : decode cX9_seek 9 = .ok (.putfield 25, 3) := by decide +kernel
theorem dX9_seek_12 : decode cX9_seek 12 = .ok (.iload_n 2, 1) := by decide +kernel
theorem dX9_seek_13 : decode cX9_seek 13 = .ok (.invokestatic 45, 3) := by decide +kernel
theorem dX9_seek_16 : decode cX9_seek 16 = .ok (.ifCond .eq 46, 3) := by decide +kernel
theorem dX9_seek_19 : decode cX9_seek 19 = .ok (.iload_n 2, 1) := by decide +kernel
theorem dX9_seek_20 : decode cX9_seek 20 = .ok (.iload_n 1, 1) := by decide +kernel
theorem dX9_seek_21 : decode cX9_seek 21 = .ok (.if_icmp .eq 41, 3) := by decide +kernel
theorem dX9_seek_24 : decode cX9_seek 24 = .ok (.iload_n 3, 1) := by decide +kernel
theorem dX9_seek_25 : decode cX9_seek 25 = .ok (.bipush 64, 2) := by decide +kernel
theorem dX9_seek_27 : decode cX9_seek 27 = .ok (.if_icmp .ge 35, 3) := by decide +kernel
theorem dX9_seek_30 : decode cX9_seek 30 = .ok (.iinc 3 1, 3) := by decide +kernel
theorem dX9_seek_33 : decode cX9_seek 33 = .ok (.aload_n 0, 1) := by decide +kernel
theorem dX9_seek_34 : decode cX9_seek 34 = .ok (.iload_n 2, 1) := by decide +kernel
theorem dX9_seek_35 : decode cX9_seek 35 = .ok (.putfield 25, 3) := by decide +kernel
theorem dX9_seek_38 : decode cX9_seek 38 = .ok (.iload_n 1, 1) := by decide +kernel
theorem dX9_seek_39 : decode cX9_seek 39 = .ok (.iload_n 2, 1) := by decide +kernel
theorem dX9_seek_40 : decode cX9_seek 40 = .ok (.if_icmp .ge 12, 3) := by decide +kernel
theorem dX9_seek_43 : decode cX9_seek 43 = .ok (.aload_n 0, 1) := by decide +kernel
theorem dX9_seek_44 : decode cX9_seek 44 = .ok (.getfield 9, 3) := by decide +kernel
theorem dX9_seek_47 : decode cX9_seek 47 = .ok (.iload_n 2, 1) := by decide +kernel
theorem dX9_seek_48 : decode cX9_seek 48 = .ok (.iaload, 1) := by decide +kernel
theorem dX9_seek_49 : decode cX9_seek 49 = .ok (.goto 9, 3) := by decide +kernel
theorem dX9_seek_52 : decode cX9_seek 52 = .ok (.aload_n 0, 1) := by decide +kernel
theorem dX9_seek_53 : decode cX9_seek 53 = .ok (.getfield 15, 3) := by decide +kernel
theorem dX9_seek_56 : decode cX9_seek 56 = .ok (.iload_n 2, 1) := by decide +kernel
theorem dX9_seek_57 : decode cX9_seek 57 = .ok (.iaload, 1) := by decide +kernel
theorem dX9_seek_58 : decode cX9_seek 58 = .ok (.istore_n 2, 1) := by decide +kernel
theorem dX9_seek_59 : decode cX9_seek 59 = .ok (.goto (-47), 3) := by decide +kernel
theorem dX9_seek_62 : decode cX9_seek 62 = .ok (.iload_n 2, 1) := by decide +kernel
theorem dX9_seek_63 : decode cX9_seek 63 = .ok (.iload_n 1, 1) := by decide +kernel
theorem dX9_seek_64 : decode cX9_seek 64 = .ok (.if_icmp .ne 9, 3) := by decide +kernel
theorem dX9_seek_67 : decode cX9_seek 67 = .ok (.iload_n 3, 1) := by decide +kernel
theorem dX9_seek_68 : decode cX9_seek 68 = .ok (.iconst 1, 1) := by decide +kernel
theorem dX9_seek_69 : decode cX9_seek 69 = .ok (.iadd, 1) := by decide +kernel
theorem dX9_seek_70 : decode cX9_seek 70 = .ok (.goto 4, 3) := by decide +kernel
theorem dX9_seek_73 : decode cX9_seek 73 = .ok (.iload_n 3, 1) := by decide +kernel
theorem dX9_seek_74 : decode cX9_seek 74 = .ok (.ireturn, 1) := by decide +kernel
theorem dX9_seekLeast_0 : decode cX9_seekLeast 0 = .ok (.aload_n 0, 1) := by decide +kernel
theorem dX9_seekLeast_1 : decode cX9_seekLeast 1 = .ok (.getfield 18, 3) := by decide +kernel
theorem dX9_seekLeast_4 : decode cX9_seekLeast 4 = .ok (.istore_n 1, 1) := by decide +kernel
theorem dX9_seekLeast_5 : decode cX9_seekLeast 5 = .ok (.iconst 0, 1) := by decide +kernel
theorem dX9_seekLeast_6 : decode cX9_seekLeast 6 = .ok (.istore_n 2, 1) := by decide +kernel
theorem dX9_seekLeast_7 : decode cX9_seekLeast 7 = .ok (.iload_n 1, 1) := by decide +kernel
theorem dX9_seekLeast_8 : decode cX9_seekLeast 8 = .ok (.invokestatic 45, 3) := by decide +kernel
theorem dX9_seekLeast_11 : decode cX9_seekLeast 11 = .ok (.ifCond .eq 22, 3) := by decide +kernel
theorem dX9_seekLeast_14 : decode cX9_seekLeast 14 = .ok (.iload_n 2, 1) := by decide +kernel
theorem dX9_seekLeast_15 : decode cX9_seekLeast 15 = .ok (.bipush 64, 2) := by decide +kernel
theorem dX9_seekLeast_17 : decode cX9_seekLeast 17 = .ok (.if_icmp .ge 16, 3) := by decide +kernel
theorem dX9_seekLeast_20 : decode cX9_seekLeast 20 = .ok (.iinc 2 1, 3) := by decide +kernel
theorem dX9_seekLeast_23 : decode cX9_seekLeast 23 = .ok (.aload_n 0, 1) := by decide +kernel
theorem dX9_seekLeast_24 : decode cX9_seekLeast 24 = .ok (.getfield 9, 3) := by decide +kernel
theorem dX9_seekLeast_27 : decode cX9_seekLeast 27 = .ok (.iload_n 1, 1) := by decide +kernel
theorem dX9_seekLeast_28 : decode cX9_seekLeast 28 = .ok (.iaload, 1) := by decide +kernel
theorem dX9_seekLeast_29 : decode cX9_seekLeast 29 = .ok (.istore_n 1, 1) := by decide +kernel
theorem dX9_seekLeast_30 : decode cX9_seekLeast 30 = .ok (.goto (-23), 3) := by decide +kernel
theorem dX9_seekLeast_33 : decode cX9_seekLeast 33 = .ok (.iload_n 2, 1) := by decide +kernel
theorem dX9_seekLeast_34 : decode cX9_seekLeast 34 = .ok (.ireturn, 1) := by decide +kernel
theorem dX9_putNode_0 : decode cX9_putNode 0 = .ok (.aload_n 0, 1) := by decide +kernel
theorem dX9_putNode_1 : decode cX9_putNode 1 = .ok (.iload_n 1, 1) := by decide +kernel
theorem dX9_putNode_2 : decode cX9_putNode 2 = .ok (.invokevirtual 35, 3) := by decide +kernel
theorem dX9_putNode_5 : decode cX9_putNode 5 = .ok (.istore_n 2, 1) := by decide +kernel
theorem dX9_putNode_6 : decode cX9_putNode 6 = .ok (.aload_n 0, 1) := by decide +kernel
theorem dX9_putNode_7 : decode cX9_putNode 7 = .ok (.getfield 49, 3) := by decide +kernel
theorem dX9_putNode_10 : decode cX9_putNode 10 = .ok (.iload_n 1, 1) := by decide +kernel
theorem dX9_putNode_11 : decode cX9_putNode 11 = .ok (.dup2, 1) := by decide +kernel
theorem dX9_putNode_12 : decode cX9_putNode 12 = .ok (.iaload, 1) := by decide +kernel
theorem dX9_putNode_13 : decode cX9_putNode 13 = .ok (.iconst 1, 1) := by decide +kernel
theorem dX9_putNode_14 : decode cX9_putNode 14 = .ok (.iadd, 1) := by decide +kernel
theorem dX9_putNode_15 : decode cX9_putNode 15 = .ok (.iastore, 1) := by decide +kernel
theorem dX9_putNode_16 : decode cX9_putNode 16 = .ok (.aload_n 0, 1) := by decide +kernel
theorem dX9_putNode_17 : decode cX9_putNode 17 = .ok (.getfield 49, 3) := by decide +kernel
theorem dX9_putNode_20 : decode cX9_putNode 20 = .ok (.iload_n 1, 1) := by decide +kernel
theorem dX9_putNode_21 : decode cX9_putNode 21 = .ok (.iaload, 1) := by decide +kernel
theorem dX9_putNode_22 : decode cX9_putNode 22 = .ok (.iconst 1, 1) := by decide +kernel
theorem dX9_putNode_23 : decode cX9_putNode 23 = .ok (.if_icmp .le 5, 3) := by decide +kernel
theorem dX9_putNode_26 : decode cX9_putNode 26 = .ok (.iload_n 2, 1) := by decide +kernel
theorem dX9_putNode_27 : decode cX9_putNode 27 = .ok (.ireturn, 1) := by decide +kernel
theorem dX9_putNode_28 : decode cX9_putNode 28 = .ok (.aload_n 0, 1) := by decide +kernel
theorem dX9_putNode_29 : decode cX9_putNode 29 = .ok (.getfield 9, 3) := by decide +kernel
theorem dX9_putNode_32 : decode cX9_putNode 32 = .ok (.iload_n 1, 1) := by decide +kernel
theorem dX9_putNode_33 : decode cX9_putNode 33 = .ok (.iconst (-1), 1) := by decide +kernel
theorem dX9_putNode_34 : decode cX9_putNode 34 = .ok (.iastore, 1) := by decide +kernel
theorem dX9_putNode_35 : decode cX9_putNode 35 = .ok (.aload_n 0, 1) := by decide +kernel
theorem dX9_putNode_36 : decode cX9_putNode 36 = .ok (.getfield 15, 3) := by decide +kernel
theorem dX9_putNode_39 : decode cX9_putNode 39 = .ok (.iload_n 1, 1) := by decide +kernel
theorem dX9_putNode_40 : decode cX9_putNode 40 = .ok (.iconst (-1), 1) := by decide +kernel
theorem dX9_putNode_41 : decode cX9_putNode 41 = .ok (.iastore, 1) := by decide +kernel
theorem dX9_putNode_42 : decode cX9_putNode 42 = .ok (.aload_n 0, 1) := by decide +kernel
theorem dX9_putNode_43 : decode cX9_putNode 43 = .ok (.iload_n 1, 1) := by decide +kernel
theorem dX9_putNode_44 : decode cX9_putNode 44 = .ok (.iload_n 1, 1) := by decide +kernel
theorem dX9_putNode_45 : decode cX9_putNode 45 = .ok (.invokevirtual 52, 3) := by decide +kernel
theorem dX9_putNode_48 : decode cX9_putNode 48 = .ok (.aload_n 0, 1) := by decide +kernel
theorem dX9_putNode_49 : decode cX9_putNode 49 = .ok (.dup, 1) := by decide +kernel
theorem dX9_putNode_50 : decode cX9_putNode 50 = .ok (.getfield 22, 3) := by decide +kernel
theorem dX9_putNode_53 : decode cX9_putNode 53 = .ok (.iconst 1, 1) := by decide +kernel
theorem dX9_putNode_54 : decode cX9_putNode 54 = .ok (.iadd, 1) := by decide +kernel
theorem dX9_putNode_55 : decode cX9_putNode 55 = .ok (.putfield 22, 3) := by decide +kernel
theorem dX9_putNode_58 : decode cX9_putNode 58 = .ok (.iload_n 2, 1) := by decide +kernel
theorem dX9_putNode_59 : decode cX9_putNode 59 = .ok (.iconst 1, 1) := by decide +kernel
theorem dX9_putNode_60 : decode cX9_putNode 60 = .ok (.iadd, 1) := by decide +kernel
theorem dX9_putNode_61 : decode cX9_putNode 61 = .ok (.ireturn, 1) := by decide +kernel
theorem dX9_strike_0 : decode cX9_strike 0 = .ok (.aload_n 0, 1) := by decide +kernel
theorem dX9_strike_1 : decode cX9_strike 1 = .ok (.iload_n 1, 1) := by decide +kernel
theorem dX9_strike_2 : decode cX9_strike 2 = .ok (.invokevirtual 35, 3) := by decide +kernel
theorem dX9_strike_5 : decode cX9_strike 5 = .ok (.istore_n 2, 1) := by decide +kernel
theorem dX9_strike_6 : decode cX9_strike 6 = .ok (.aload_n 0, 1) := by decide +kernel
theorem dX9_strike_7 : decode cX9_strike 7 = .ok (.getfield 49, 3) := by decide +kernel
theorem dX9_strike_10 : decode cX9_strike 10 = .ok (.iload_n 1, 1) := by decide +kernel
theorem dX9_strike_11 : decode cX9_strike 11 = .ok (.iaload, 1) := by decide +kernel
theorem dX9_strike_12 : decode cX9_strike 12 = .ok (.ifCond .ne 5, 3) := by decide +kernel
theorem dX9_strike_15 : decode cX9_strike 15 = .ok (.iload_n 2, 1) := by decide +kernel
theorem dX9_strike_16 : decode cX9_strike 16 = .ok (.ireturn, 1) := by decide +kernel
theorem dX9_strike_17 : decode cX9_strike 17 = .ok (.aload_n 0, 1) := by decide +kernel
theorem dX9_strike_18 : decode cX9_strike 18 = .ok (.getfield 49, 3) := by decide +kernel
theorem dX9_strike_21 : decode cX9_strike 21 = .ok (.iload_n 1, 1) := by decide +kernel
theorem dX9_strike_22 : decode cX9_strike 22 = .ok (.dup2, 1) := by decide +kernel
theorem dX9_strike_23 : decode cX9_strike 23 = .ok (.iaload, 1) := by decide +kernel
theorem dX9_strike_24 : decode cX9_strike 24 = .ok (.iconst 1, 1) := by decide +kernel
theorem dX9_strike_25 : decode cX9_strike 25 = .ok (.isub, 1) := by decide +kernel
theorem dX9_strike_26 : decode cX9_strike 26 = .ok (.iastore, 1) := by decide +kernel
theorem dX9_strike_27 : decode cX9_strike 27 = .ok (.aload_n 0, 1) := by decide +kernel
theorem dX9_strike_28 : decode cX9_strike 28 = .ok (.getfield 49, 3) := by decide +kernel
theorem dX9_strike_31 : decode cX9_strike 31 = .ok (.iload_n 1, 1) := by decide +kernel
theorem dX9_strike_32 : decode cX9_strike 32 = .ok (.iaload, 1) := by decide +kernel
theorem dX9_strike_33 : decode cX9_strike 33 = .ok (.ifCond .le 7, 3) := by decide +kernel
theorem dX9_strike_36 : decode cX9_strike 36 = .ok (.iload_n 2, 1) := by decide +kernel
theorem dX9_strike_37 : decode cX9_strike 37 = .ok (.goto 10, 3) := by decide +kernel
theorem dX9_strike_40 : decode cX9_strike 40 = .ok (.iload_n 2, 1) := by decide +kernel
theorem dX9_strike_41 : decode cX9_strike 41 = .ok (.aload_n 0, 1) := by decide +kernel
theorem dX9_strike_42 : decode cX9_strike 42 = .ok (.iload_n 1, 1) := by decide +kernel
theorem dX9_strike_43 : decode cX9_strike 43 = .ok (.invokevirtual 56, 3) := by decide +kernel
theorem dX9_strike_46 : decode cX9_strike 46 = .ok (.iadd, 1) := by decide +kernel
theorem dX9_strike_47 : decode cX9_strike 47 = .ok (.ireturn, 1) := by decide +kernel
theorem dX9_takeOut_0 : decode cX9_takeOut 0 = .ok (.aload_n 0, 1) := by decide +kernel
theorem dX9_takeOut_1 : decode cX9_takeOut 1 = .ok (.dup, 1) := by decide +kernel
theorem dX9_takeOut_2 : decode cX9_takeOut 2 = .ok (.getfield 22, 3) := by decide +kernel
theorem dX9_takeOut_5 : decode cX9_takeOut 5 = .ok (.iconst 1, 1) := by decide +kernel
theorem dX9_takeOut_6 : decode cX9_takeOut 6 = .ok (.isub, 1) := by decide +kernel
theorem dX9_takeOut_7 : decode cX9_takeOut 7 = .ok (.putfield 22, 3) := by decide +kernel
theorem dX9_takeOut_10 : decode cX9_takeOut 10 = .ok (.aload_n 0, 1) := by decide +kernel
theorem dX9_takeOut_11 : decode cX9_takeOut 11 = .ok (.getfield 9, 3) := by decide +kernel
theorem dX9_takeOut_14 : decode cX9_takeOut 14 = .ok (.iload_n 1, 1) := by decide +kernel
theorem dX9_takeOut_15 : decode cX9_takeOut 15 = .ok (.iaload, 1) := by decide +kernel
theorem dX9_takeOut_16 : decode cX9_takeOut 16 = .ok (.iconst (-1), 1) := by decide +kernel
theorem dX9_takeOut_17 : decode cX9_takeOut 17 = .ok (.if_icmp .eq 13, 3) := by decide +kernel
theorem dX9_takeOut_20 : decode cX9_takeOut 20 = .ok (.aload_n 0, 1) := by decide +kernel
theorem dX9_takeOut_21 : decode cX9_takeOut 21 = .ok (.getfield 15, 3) := by decide +kernel
theorem dX9_takeOut_24 : decode cX9_takeOut 24 = .ok (.iload_n 1, 1) := by decide +kernel
theorem dX9_takeOut_25 : decode cX9_takeOut 25 = .ok (.iaload, 1) := by decide +kernel
theorem dX9_takeOut_26 : decode cX9_takeOut 26 = .ok (.iconst (-1), 1) := by decide +kernel
theorem dX9_takeOut_27 : decode cX9_takeOut 27 = .ok (.if_icmp .ne 35, 3) := by decide +kernel
theorem dX9_takeOut_30 : decode cX9_takeOut 30 = .ok (.aload_n 0, 1) := by decide +kernel
theorem dX9_takeOut_31 : decode cX9_takeOut 31 = .ok (.aload_n 0, 1) := by decide +kernel
theorem dX9_takeOut_32 : decode cX9_takeOut 32 = .ok (.getfield 9, 3) := by decide +kernel
theorem dX9_takeOut_35 : decode cX9_takeOut 35 = .ok (.iload_n 1, 1) := by decide +kernel
theorem dX9_takeOut_36 : decode cX9_takeOut 36 = .ok (.iaload, 1) := by decide +kernel
theorem dX9_takeOut_37 : decode cX9_takeOut 37 = .ok (.iconst (-1), 1) := by decide +kernel
theorem dX9_takeOut_38 : decode cX9_takeOut 38 = .ok (.if_icmp .ne 12, 3) := by decide +kernel
theorem dX9_takeOut_41 : decode cX9_takeOut 41 = .ok (.aload_n 0, 1) := by decide +kernel
theorem dX9_takeOut_42 : decode cX9_takeOut 42 = .ok (.getfield 15, 3) := by decide +kernel
theorem dX9_takeOut_45 : decode cX9_takeOut 45 = .ok (.iload_n 1, 1) := by decide +kernel
theorem dX9_takeOut_46 : decode cX9_takeOut 46 = .ok (.iaload, 1) := by decide +kernel
theorem dX9_takeOut_47 : decode cX9_takeOut 47 = .ok (.goto 9, 3) := by decide +kernel
theorem dX9_takeOut_50 : decode cX9_takeOut 50 = .ok (.aload_n 0, 1) := by decide +kernel
theorem dX9_takeOut_51 : decode cX9_takeOut 51 = .ok (.getfield 9, 3) := by decide +kernel
theorem dX9_takeOut_54 : decode cX9_takeOut 54 = .ok (.iload_n 1, 1) := by decide +kernel
theorem dX9_takeOut_55 : decode cX9_takeOut 55 = .ok (.iaload, 1) := by decide +kernel
theorem dX9_takeOut_56 : decode cX9_takeOut 56 = .ok (.iload_n 1, 1) := by decide +kernel
theorem dX9_takeOut_57 : decode cX9_takeOut 57 = .ok (.invokevirtual 52, 3) := by decide +kernel
theorem dX9_takeOut_60 : decode cX9_takeOut 60 = .ok (.iconst 0, 1) := by decide +kernel
theorem dX9_takeOut_61 : decode cX9_takeOut 61 = .ok (.ireturn, 1) := by decide +kernel
theorem dX9_takeOut_62 : decode cX9_takeOut 62 = .ok (.iload_n 1, 1) := by decide +kernel
theorem dX9_takeOut_63 : decode cX9_takeOut 63 = .ok (.istore_n 2, 1) := by decide +kernel
theorem dX9_takeOut_64 : decode cX9_takeOut 64 = .ok (.aload_n 0, 1) := by decide +kernel
theorem dX9_takeOut_65 : decode cX9_takeOut 65 = .ok (.getfield 15, 3) := by decide +kernel
theorem dX9_takeOut_68 : decode cX9_takeOut 68 = .ok (.iload_n 1, 1) := by decide +kernel
theorem dX9_takeOut_69 : decode cX9_takeOut 69 = .ok (.iaload, 1) := by decide +kernel
theorem dX9_takeOut_70 : decode cX9_takeOut 70 = .ok (.istore_n 3, 1) := by decide +kernel
theorem dX9_takeOut_71 : decode cX9_takeOut 71 = .ok (.iconst 1, 1) := by decide +kernel
theorem dX9_takeOut_72 : decode cX9_takeOut 72 = .ok (.istore 4, 2) := by decide +kernel
theorem dX9_takeOut_74 : decode cX9_takeOut 74 = .ok (.iload 4, 2) := by decide +kernel
theorem dX9_takeOut_76 : decode cX9_takeOut 76 = .ok (.bipush 64, 2) := by decide +kernel
theorem dX9_takeOut_78 : decode cX9_takeOut 78 = .ok (.if_icmp .ge 28, 3) := by decide +kernel
theorem dX9_takeOut_81 : decode cX9_takeOut 81 = .ok (.aload_n 0, 1) := by decide +kernel
theorem dX9_takeOut_82 : decode cX9_takeOut 82 = .ok (.getfield 9, 3) := by decide +kernel
theorem dX9_takeOut_85 : decode cX9_takeOut 85 = .ok (.iload_n 3, 1) := by decide +kernel
theorem dX9_takeOut_86 : decode cX9_takeOut 86 = .ok (.iaload, 1) := by decide +kernel
theorem dX9_takeOut_87 : decode cX9_takeOut 87 = .ok (.iconst (-1), 1) := by decide +kernel
theorem dX9_takeOut_88 : decode cX9_takeOut 88 = .ok (.if_icmp .eq 18, 3) := by decide +kernel
theorem dX9_takeOut_91 : decode cX9_takeOut 91 = .ok (.iload_n 3, 1) := by decide +kernel
theorem dX9_takeOut_92 : decode cX9_takeOut 92 = .ok (.istore_n 2, 1) := by decide +kernel
theorem dX9_takeOut_93 : decode cX9_takeOut 93 = .ok (.aload_n 0, 1) := by decide +kernel
theorem dX9_takeOut_94 : decode cX9_takeOut 94 = .ok (.getfield 9, 3) := by decide +kernel
theorem dX9_takeOut_97 : decode cX9_takeOut 97 = .ok (.iload_n 3, 1) := by decide +kernel
theorem dX9_takeOut_98 : decode cX9_takeOut 98 = .ok (.iaload, 1) := by decide +kernel
theorem dX9_takeOut_99 : decode cX9_takeOut 99 = .ok (.istore_n 3, 1) := by decide +kernel
theorem dX9_takeOut_100 : decode cX9_takeOut 100 = .ok (.iinc 4 1, 3) := by decide +kernel
theorem dX9_takeOut_103 : decode cX9_takeOut 103 = .ok (.goto (-29), 3) := by decide +kernel
theorem dX9_takeOut_106 : decode cX9_takeOut 106 = .ok (.iload_n 2, 1) := by decide +kernel
theorem dX9_takeOut_107 : decode cX9_takeOut 107 = .ok (.iload_n 1, 1) := by decide +kernel
theorem dX9_takeOut_108 : decode cX9_takeOut 108 = .ok (.if_icmp .eq 27, 3) := by decide +kernel
theorem dX9_takeOut_111 : decode cX9_takeOut 111 = .ok (.aload_n 0, 1) := by decide +kernel
theorem dX9_takeOut_112 : decode cX9_takeOut 112 = .ok (.getfield 9, 3) := by decide +kernel
theorem dX9_takeOut_115 : decode cX9_takeOut 115 = .ok (.iload_n 2, 1) := by decide +kernel
theorem dX9_takeOut_116 : decode cX9_takeOut 116 = .ok (.aload_n 0, 1) := by decide +kernel
theorem dX9_takeOut_117 : decode cX9_takeOut 117 = .ok (.getfield 15, 3) := by decide +kernel
theorem dX9_takeOut_120 : decode cX9_takeOut 120 = .ok (.iload_n 3, 1) := by decide +kernel
theorem dX9_takeOut_121 : decode cX9_takeOut 121 = .ok (.iaload, 1) := by decide +kernel
theorem dX9_takeOut_122 : decode cX9_takeOut 122 = .ok (.iastore, 1) := by decide +kernel
theorem dX9_takeOut_123 : decode cX9_takeOut 123 = .ok (.aload_n 0, 1) := by decide +kernel
theorem dX9_takeOut_124 : decode cX9_takeOut 124 = .ok (.getfield 15, 3) := by decide +kernel
theorem dX9_takeOut_127 : decode cX9_takeOut 127 = .ok (.iload_n 3, 1) := by decide +kernel
theorem dX9_takeOut_128 : decode cX9_takeOut 128 = .ok (.aload_n 0, 1) := by decide +kernel
theorem dX9_takeOut_129 : decode cX9_takeOut 129 = .ok (.getfield 15, 3) := by decide +kernel
theorem dX9_takeOut_132 : decode cX9_takeOut 132 = .ok (.iload_n 1, 1) := by decide +kernel
theorem dX9_takeOut_133 : decode cX9_takeOut 133 = .ok (.iaload, 1) := by decide +kernel
theorem dX9_takeOut_134 : decode cX9_takeOut 134 = .ok (.iastore, 1) := by decide +kernel
theorem dX9_takeOut_135 : decode cX9_takeOut 135 = .ok (.aload_n 0, 1) := by decide +kernel
theorem dX9_takeOut_136 : decode cX9_takeOut 136 = .ok (.getfield 9, 3) := by decide +kernel
theorem dX9_takeOut_139 : decode cX9_takeOut 139 = .ok (.iload_n 3, 1) := by decide +kernel
theorem dX9_takeOut_140 : decode cX9_takeOut 140 = .ok (.aload_n 0, 1) := by decide +kernel
theorem dX9_takeOut_141 : decode cX9_takeOut 141 = .ok (.getfield 9, 3) := by decide +kernel
theorem dX9_takeOut_144 : decode cX9_takeOut 144 = .ok (.iload_n 1, 1) := by decide +kernel
theorem dX9_takeOut_145 : decode cX9_takeOut 145 = .ok (.iaload, 1) := by decide +kernel
theorem dX9_takeOut_146 : decode cX9_takeOut 146 = .ok (.iastore, 1) := by decide +kernel
theorem dX9_takeOut_147 : decode cX9_takeOut 147 = .ok (.aload_n 0, 1) := by decide +kernel
theorem dX9_takeOut_148 : decode cX9_takeOut 148 = .ok (.iload_n 3, 1) := by decide +kernel
theorem dX9_takeOut_149 : decode cX9_takeOut 149 = .ok (.iload_n 1, 1) := by decide +kernel
theorem dX9_takeOut_150 : decode cX9_takeOut 150 = .ok (.invokevirtual 52, 3) := by decide +kernel
theorem dX9_takeOut_153 : decode cX9_takeOut 153 = .ok (.iload 4, 2) := by decide +kernel
theorem dX9_takeOut_155 : decode cX9_takeOut 155 = .ok (.ireturn, 1) := by decide +kernel
theorem dX9_hang_0 : decode cX9_hang 0 = .ok (.aload_n 0, 1) := by decide +kernel
theorem dX9_hang_1 : decode cX9_hang 1 = .ok (.getfield 25, 3) := by decide +kernel
theorem dX9_hang_4 : decode cX9_hang 4 = .ok (.iconst (-1), 1) := by decide +kernel
theorem dX9_hang_5 : decode cX9_hang 5 = .ok (.if_icmp .ne 11, 3) := by decide +kernel
theorem dX9_hang_8 : decode cX9_hang 8 = .ok (.aload_n 0, 1) := by decide +kernel
theorem dX9_hang_9 : decode cX9_hang 9 = .ok (.iload_n 1, 1) := by decide +kernel
theorem dX9_hang_10 : decode cX9_hang 10 = .ok (.putfield 18, 3) := by decide +kernel
theorem dX9_hang_13 : decode cX9_hang 13 = .ok (.goto 34, 3) := by decide +kernel
theorem dX9_hang_16 : decode cX9_hang 16 = .ok (.iload_n 2, 1) := by decide +kernel
theorem dX9_hang_17 : decode cX9_hang 17 = .ok (.aload_n 0, 1) := by decide +kernel
theorem dX9_hang_18 : decode cX9_hang 18 = .ok (.getfield 25, 3) := by decide +kernel
theorem dX9_hang_21 : decode cX9_hang 21 = .ok (.if_icmp .ge 16, 3) := by decide +kernel
theorem dX9_hang_24 : decode cX9_hang 24 = .ok (.aload_n 0, 1) := by decide +kernel
theorem dX9_hang_25 : decode cX9_hang 25 = .ok (.getfield 9, 3) := by decide +kernel
theorem dX9_hang_28 : decode cX9_hang 28 = .ok (.aload_n 0, 1) := by decide +kernel
theorem dX9_hang_29 : decode cX9_hang 29 = .ok (.getfield 25, 3) := by decide +kernel
theorem dX9_hang_32 : decode cX9_hang 32 = .ok (.iload_n 1, 1) := by decide +kernel
theorem dX9_hang_33 : decode cX9_hang 33 = .ok (.iastore, 1) := by decide +kernel
theorem dX9_hang_34 : decode cX9_hang 34 = .ok (.goto 13, 3) := by decide +kernel
theorem dX9_hang_37 : decode cX9_hang 37 = .ok (.aload_n 0, 1) := by decide +kernel
theorem dX9_hang_38 : decode cX9_hang 38 = .ok (.getfield 15, 3) := by decide +kernel
theorem dX9_hang_41 : decode cX9_hang 41 = .ok (.aload_n 0, 1) := by decide +kernel
theorem dX9_hang_42 : decode cX9_hang 42 = .ok (.getfield 25, 3) := by decide +kernel
theorem dX9_hang_45 : decode cX9_hang 45 = .ok (.iload_n 1, 1) := by decide +kernel
theorem dX9_hang_46 : decode cX9_hang 46 = .ok (.iastore, 1) := by decide +kernel
theorem dX9_hang_47 : decode cX9_hang 47 = .ok (.return_, 1) := by decide +kernel
theorem dX10_init_0 : decode cX10_init 0 = .ok (.aload_n 0, 1) := by decide +kernel
theorem dX10_init_1 : decode cX10_init 1 = .ok (.invokespecial 1, 3) := by decide +kernel
theorem dX10_init_4 : decode cX10_init 4 = .ok (.aload_n 0, 1) := by decide +kernel
theorem dX10_init_5 : decode cX10_init 5 = .ok (.new 7, 3) := by decide +kernel
theorem dX10_init_8 : decode cX10_init 8 = .ok (.dup, 1) := by decide +kernel
theorem dX10_init_9 : decode cX10_init 9 = .ok (.invokespecial 9, 3) := by decide +kernel
theorem dX10_init_12 : decode cX10_init 12 = .ok (.putfield 10, 3) := by decide +kernel
theorem dX10_init_15 : decode cX10_init 15 = .ok (.aload_n 0, 1) := by decide +kernel
theorem dX10_init_16 : decode cX10_init 16 = .ok (.bipush 6, 2) := by decide +kernel
theorem dX10_init_18 : decode cX10_init 18 = .ok (.anewarray 16, 3) := by decide +kernel
theorem dX10_init_21 : decode cX10_init 21 = .ok (.dup, 1) := by decide +kernel
theorem dX10_init_22 : decode cX10_init 22 = .ok (.iconst 0, 1) := by decide +kernel
theorem dX10_init_23 : decode cX10_init 23 = .ok (.aload_n 0, 1) := by decide +kernel
theorem dX10_init_24 : decode cX10_init 24 = .ok (.getfield 10, 3) := by decide +kernel
theorem dX10_init_27 : decode cX10_init 27 = .ok (.aastore, 1) := by decide +kernel
theorem dX10_init_28 : decode cX10_init 28 = .ok (.dup, 1) := by decide +kernel
theorem dX10_init_29 : decode cX10_init 29 = .ok (.iconst 1, 1) := by decide +kernel
theorem dX10_init_30 : decode cX10_init 30 = .ok (.new 18, 3) := by decide +kernel
theorem dX10_init_33 : decode cX10_init 33 = .ok (.dup, 1) := by decide +kernel
theorem dX10_init_34 : decode cX10_init 34 = .ok (.invokespecial 20, 3) := by decide +kernel
theorem dX10_init_37 : decode cX10_init 37 = .ok (.aastore, 1) := by decide +kernel
theorem dX10_init_38 : decode cX10_init 38 = .ok (.dup, 1) := by decide +kernel
theorem dX10_init_39 : decode cX10_init 39 = .ok (.iconst 2, 1) := by decide +kernel
theorem dX10_init_40 : decode cX10_init 40 = .ok (.new 21, 3) := by decide +kernel
theorem dX10_init_43 : decode cX10_init 43 = .ok (.dup, 1) := by decide +kernel
theorem dX10_init_44 : decode cX10_init 44 = .ok (.invokespecial 23, 3) := by decide +kernel
theorem dX10_init_47 : decode cX10_init 47 = .ok (.aastore, 1) := by decide +kernel
theorem dX10_init_48 : decode cX10_init 48 = .ok (.dup, 1) := by decide +kernel
theorem dX10_init_49 : decode cX10_init 49 = .ok (.iconst 3, 1) := by decide +kernel
theorem dX10_init_50 : decode cX10_init 50 = .ok (.new 24, 3) := by decide +kernel
theorem dX10_init_53 : decode cX10_init 53 = .ok (.dup, 1) := by decide +kernel
theorem dX10_init_54 : decode cX10_init 54 = .ok (.invokespecial 26, 3) := by decide +kernel
theorem dX10_init_57 : decode cX10_init 57 = .ok (.aastore, 1) := by decide +kernel
theorem dX10_init_58 : decode cX10_init 58 = .ok (.dup, 1) := by decide +kernel
theorem dX10_init_59 : decode cX10_init 59 = .ok (.iconst 4, 1) := by decide +kernel
theorem dX10_init_60 : decode cX10_init 60 = .ok (.new 27, 3) := by decide +kernel
theorem dX10_init_63 : decode cX10_init 63 = .ok (.dup, 1) := by decide +kernel
theorem dX10_init_64 : decode cX10_init 64 = .ok (.invokespecial 29, 3) := by decide +kernel
theorem dX10_init_67 : decode cX10_init 67 = .ok (.aastore, 1) := by decide +kernel
theorem dX10_init_68 : decode cX10_init 68 = .ok (.dup, 1) := by decide +kernel
theorem dX10_init_69 : decode cX10_init 69 = .ok (.iconst 5, 1) := by decide +kernel
theorem dX10_init_70 : decode cX10_init 70 = .ok (.new 30, 3) := by decide +kernel
theorem dX10_init_73 : decode cX10_init 73 = .ok (.dup, 1) := by decide +kernel
theorem dX10_init_74 : decode cX10_init 74 = .ok (.invokespecial 32, 3) := by decide +kernel
theorem dX10_init_77 : decode cX10_init 77 = .ok (.aastore, 1) := by decide +kernel
theorem dX10_init_78 : decode cX10_init 78 = .ok (.putfield 33, 3) := by decide +kernel
theorem dX10_init_81 : decode cX10_init 81 = .ok (.aload_n 0, 1) := by decide +kernel
theorem dX10_init_82 : decode cX10_init 82 = .ok (.sipush 200, 3) := by decide +kernel
theorem dX10_init_85 : decode cX10_init 85 = .ok (.newarray .int, 2) := by decide +kernel
theorem dX10_init_87 : decode cX10_init 87 = .ok (.putfield 37, 3) := by decide +kernel
theorem dX10_init_90 : decode cX10_init 90 = .ok (.aload_n 0, 1) := by decide +kernel
theorem dX10_init_91 : decode cX10_init 91 = .ok (.sipush 200, 3) := by decide +kernel
theorem dX10_init_94 : decode cX10_init 94 = .ok (.newarray .int, 2) := by decide +kernel
theorem dX10_init_96 : decode cX10_init 96 = .ok (.putfield 41, 3) := by decide +kernel
theorem dX10_init_99 : decode cX10_init 99 = .ok (.aload_n 0, 1) := by decide +kernel
theorem dX10_init_100 : decode cX10_init 100 = .ok (.sipush 200, 3) := by decide +kernel
theorem dX10_init_103 : decode cX10_init 103 = .ok (.newarray .int, 2) := by decide +kernel
theorem dX10_init_105 : decode cX10_init 105 = .ok (.putfield 44, 3) := by decide +kernel
theorem dX10_init_108 : decode cX10_init 108 = .ok (.aload_n 0, 1) := by decide +kernel
theorem dX10_init_109 : decode cX10_init 109 = .ok (.sipush 200, 3) := by decide +kernel
theorem dX10_init_112 : decode cX10_init 112 = .ok (.newarray .int, 2) := by decide +kernel
theorem dX10_init_114 : decode cX10_init 114 = .ok (.putfield 47, 3) := by decide +kernel
theorem dX10_init_117 : decode cX10_init 117 = .ok (.aload_n 0, 1) := by decide +kernel
theorem dX10_init_118 : decode cX10_init 118 = .ok (.iconst 0, 1) := by decide +kernel
theorem dX10_init_119 : decode cX10_init 119 = .ok (.putfield 50, 3) := by decide +kernel
theorem dX10_init_122 : decode cX10_init 122 = .ok (.aload_n 0, 1) := by decide +kernel
theorem dX10_init_123 : decode cX10_init 123 = .ok (.iconst 0, 1) := by decide +kernel
theorem dX10_init_124 : decode cX10_init 124 = .ok (.putfield 54, 3) := by decide +kernel
theorem dX10_init_127 : decode cX10_init 127 = .ok (.aload_n 0, 1) := by decide +kernel
theorem dX10_init_128 : decode cX10_init 128 = .ok (.iconst 0, 1) := by decide +kernel
theorem dX10_init_129 : decode cX10_init 129 = .ok (.putfield 58, 3) := by decide +kernel
theorem dX10_init_132 : decode cX10_init 132 = .ok (.aload_n 0, 1) := by decide +kernel
theorem dX10_init_133 : decode cX10_init 133 = .ok (.bipush 10, 2) := by decide +kernel
theorem dX10_init_135 : decode cX10_init 135 = .ok (.putfield 61, 3) := by decide +kernel
theorem dX10_init_138 : decode cX10_init 138 = .ok (.aload_n 0, 1) := by decide +kernel
theorem dX10_init_139 : decode cX10_init 139 = .ok (.iconst 2, 1) := by decide +kernel
theorem dX10_init_140 : decode cX10_init 140 = .ok (.putfield 64, 3) := by decide +kernel
theorem dX10_init_143 : decode cX10_init 143 = .ok (.aload_n 0, 1) := by decide +kernel
theorem dX10_init_144 : decode cX10_init 144 = .ok (.new 67, 3) := by decide +kernel
theorem dX10_init_147 : decode cX10_init 147 = .ok (.dup, 1) := by decide +kernel
theorem dX10_init_148 : decode cX10_init 148 = .ok (.invokespecial 69, 3) := by decide +kernel
theorem dX10_init_151 : decode cX10_init 151 = .ok (.putfield 70, 3) := by decide +kernel
theorem dX10_init_154 : decode cX10_init 154 = .ok (.aload_n 0, 1) := by decide +kernel
theorem dX10_init_155 : decode cX10_init 155 = .ok (.iconst 0, 1) := by decide +kernel
theorem dX10_init_156 : decode cX10_init 156 = .ok (.putfield 74, 3) := by decide +kernel
theorem dX10_init_159 : decode cX10_init 159 = .ok (.return_, 1) := by decide +kernel
theorem dX10_call_0 : decode cX10_call 0 = .ok (.iload_n 1, 1) := by decide +kernel
theorem dX10_call_1 : decode cX10_call 1 = .ok (.ifCond .lt 26, 3) := by decide +kernel
theorem dX10_call_4 : decode cX10_call 4 = .ok (.iload_n 1, 1) := by decide +kernel
theorem dX10_call_5 : decode cX10_call 5 = .ok (.bipush 8, 2) := by decide +kernel
theorem dX10_call_7 : decode cX10_call 7 = .ok (.if_icmp .ge 20, 3) := by decide +kernel
theorem dX10_call_10 : decode cX10_call 10 = .ok (.iload_n 2, 1) := by decide +kernel
theorem dX10_call_11 : decode cX10_call 11 = .ok (.invokestatic 77, 3) := by decide +kernel
theorem dX10_call_14 : decode cX10_call 14 = .ok (.ifCond .eq 13, 3) := by decide +kernel
theorem dX10_call_17 : decode cX10_call 17 = .ok (.aload_n 0, 1) := by decide +kernel
theorem dX10_call_18 : decode cX10_call 18 = .ok (.getfield 50, 3) := by decide +kernel
theorem dX10_call_21 : decode cX10_call 21 = .ok (.sipush 200, 3) := by decide +kernel
theorem dX10_call_24 : decode cX10_call 24 = .ok (.if_icmp .lt 5, 3) := by decide +kernel
theorem dX10_call_27 : decode cX10_call 27 = .ok (.iconst (-1), 1) := by decide +kernel
theorem dX10_call_28 : decode cX10_call 28 = .ok (.ireturn, 1) := by decide +kernel
theorem dX10_call_29 : decode cX10_call 29 = .ok (.aload_n 0, 1) := by decide +kernel
theorem dX10_call_30 : decode cX10_call 30 = .ok (.iload_n 1, 1) := by decide +kernel
theorem dX10_call_31 : decode cX10_call 31 = .ok (.iload_n 2, 1) := by decide +kernel
theorem dX10_call_32 : decode cX10_call 32 = .ok (.invokevirtual 81, 3) := by decide +kernel
theorem dX10_call_35 : decode cX10_call 35 = .ok (.aload_n 0, 1) := by decide +kernel
theorem dX10_call_36 : decode cX10_call 36 = .ok (.getfield 50, 3) := by decide +kernel
theorem dX10_call_39 : decode cX10_call 39 = .ok (.iconst 1, 1) := by decide +kernel
theorem dX10_call_40 : decode cX10_call 40 = .ok (.isub, 1) := by decide +kernel
theorem dX10_call_41 : decode cX10_call 41 = .ok (.ireturn, 1) := by decide +kernel
theorem dX10_draw_0 : decode cX10_draw 0 = .ok (.iload_n 2, 1) := by decide +kernel
theorem dX10_draw_1 : decode cX10_draw 1 = .ok (.ifCond .lt 45, 3) := by decide +kernel
theorem dX10_draw_4 : decode cX10_draw 4 = .ok (.iload_n 2, 1) := by decide +kernel
theorem dX10_draw_5 : decode cX10_draw 5 = .ok (.bipush 100, 2) := by decide +kernel
theorem dX10_draw_7 : decode cX10_draw 7 = .ok (.if_icmp .gt 39, 3) := by decide +kernel
theorem dX10_draw_10 : decode cX10_draw 10 = .ok (.iload_n 3, 1) := by decide +kernel
theorem dX10_draw_11 : decode cX10_draw 11 = .ok (.iconst 1, 1) := by decide +kernel
theorem dX10_draw_12 : decode cX10_draw 12 = .ok (.if_icmp .lt 34, 3) := by decide +kernel
theorem dX10_draw_15 : decode cX10_draw 15 = .ok (.iload_n 3, 1) := by decide +kernel
theorem dX10_draw_16 : decode cX10_draw 16 = .ok (.bipush 64, 2) := by decide +kernel
theorem dX10_draw_18 : decode cX10_draw 18 = .ok (.if_icmp .gt 28, 3) := by decide +kernel
theorem dX10_draw_21 : decode cX10_draw 21 = .ok (.iload 4, 2) := by decide +kernel
theorem dX10_draw_23 : decode cX10_draw 23 = .ok (.ifCond .lt 23, 3) := by decide +kernel
theorem dX10_draw_26 : decode cX10_draw 26 = .ok (.iload 4, 2) := by decide +kernel
theorem dX10_draw_28 : decode cX10_draw 28 = .ok (.sipush 255, 3) := by decide +kernel
theorem dX10_draw_31 : decode cX10_draw 31 = .ok (.if_icmp .gt 15, 3) := by decide +kernel
theorem dX10_draw_34 : decode cX10_draw 34 = .ok (.iload_n 2, 1) := by decide +kernel
theorem dX10_draw_35 : decode cX10_draw 35 = .ok (.sipush 200, 3) := by decide +kernel
theorem dX10_draw_38 : decode cX10_draw 38 = .ok (.aload_n 0, 1) := by decide +kernel
theorem dX10_draw_39 : decode cX10_draw 39 = .ok (.getfield 50, 3) := by decide +kernel
theorem dX10_draw_42 : decode cX10_draw 42 = .ok (.isub, 1) := by decide +kernel
theorem dX10_draw_43 : decode cX10_draw 43 = .ok (.if_icmp .le 5, 3) := by decide +kernel
theorem dX10_draw_46 : decode cX10_draw 46 = .ok (.iconst (-1), 1) := by decide +kernel
theorem dX10_draw_47 : decode cX10_draw 47 = .ok (.ireturn, 1) := by decide +kernel
theorem dX10_draw_48 : decode cX10_draw 48 = .ok (.iload_n 1, 1) := by decide +kernel
theorem dX10_draw_49 : decode cX10_draw 49 = .ok (.istore 5, 2) := by decide +kernel
theorem dX10_draw_51 : decode cX10_draw 51 = .ok (.iconst 0, 1) := by decide +kernel
theorem dX10_draw_52 : decode cX10_draw 52 = .ok (.istore 6, 2) := by decide +kernel
theorem dX10_draw_54 : decode cX10_draw 54 = .ok (.iload 6, 2) := by decide +kernel
theorem dX10_draw_56 : decode cX10_draw 56 = .ok (.iload_n 2, 1) := by decide +kernel
theorem dX10_draw_57 : decode cX10_draw 57 = .ok (.if_icmp .ge 61, 3) := by decide +kernel
theorem dX10_draw_60 : decode cX10_draw 60 = .ok (.iload 5, 2) := by decide +kernel
theorem dX10_draw_62 : decode cX10_draw 62 = .ok (.invokestatic 85, 3) := by decide +kernel
theorem dX10_draw_65 : decode cX10_draw 65 = .ok (.istore 5, 2) := by decide +kernel
theorem dX10_draw_67 : decode cX10_draw 67 = .ok (.iload 5, 2) := by decide +kernel
theorem dX10_draw_69 : decode cX10_draw 69 = .ok (.bipush 16, 2) := by decide +kernel
theorem dX10_draw_71 : decode cX10_draw 71 = .ok (.iushr, 1) := by decide +kernel
theorem dX10_draw_72 : decode cX10_draw 72 = .ok (.bipush 8, 2) := by decide +kernel
theorem dX10_draw_74 : decode cX10_draw 74 = .ok (.irem, 1) := by decide +kernel
theorem dX10_draw_75 : decode cX10_draw 75 = .ok (.istore 7, 2) := by decide +kernel
theorem dX10_draw_77 : decode cX10_draw 77 = .ok (.iload 5, 2) := by decide +kernel
theorem dX10_draw_79 : decode cX10_draw 79 = .ok (.invokestatic 85, 3) := by decide +kernel
theorem dX10_draw_82 : decode cX10_draw 82 = .ok (.istore 5, 2) := by decide +kernel
theorem dX10_draw_84 : decode cX10_draw 84 = .ok (.aload_n 0, 1) := by decide +kernel
theorem dX10_draw_85 : decode cX10_draw 85 = .ok (.iload 4, 2) := by decide +kernel
theorem dX10_draw_87 : decode cX10_draw 87 = .ok (.iload 7, 2) := by decide +kernel
theorem dX10_draw_89 : decode cX10_draw 89 = .ok (.ishr, 1) := by decide +kernel
theorem dX10_draw_90 : decode cX10_draw 90 = .ok (.iconst 1, 1) := by decide +kernel
theorem dX10_draw_91 : decode cX10_draw 91 = .ok (.iand, 1) := by decide +kernel
theorem dX10_draw_92 : decode cX10_draw 92 = .ok (.iconst 1, 1) := by decide +kernel
theorem dX10_draw_93 : decode cX10_draw 93 = .ok (.if_icmp .ne 8, 3) := by decide +kernel
theorem dX10_draw_96 : decode cX10_draw 96 = .ok (.iload 7, 2) := by decide +kernel
theorem dX10_draw_98 : decode cX10_draw 98 = .ok (.goto 4, 3) := by decide +kernel
theorem dX10_draw_101 : decode cX10_draw 101 = .ok (.iconst 0, 1) := by decide +kernel
theorem dX10_draw_102 : decode cX10_draw 102 = .ok (.iload 5, 2) := by decide +kernel
theorem dX10_draw_104 : decode cX10_draw 104 = .ok (.bipush 16, 2) := by decide +kernel
theorem dX10_draw_106 : decode cX10_draw 106 = .ok (.iushr, 1) := by decide +kernel
theorem dX10_draw_107 : decode cX10_draw 107 = .ok (.iload_n 3, 1) := by decide +kernel
theorem dX10_draw_108 : decode cX10_draw 108 = .ok (.irem, 1) := by decide +kernel
theorem dX10_draw_109 : decode cX10_draw 109 = .ok (.invokevirtual 81, 3) := by decide +kernel
theorem dX10_draw_112 : decode cX10_draw 112 = .ok (.iinc 6 1, 3) := by decide +kernel
theorem dX10_draw_115 : decode cX10_draw 115 = .ok (.goto (-61), 3) := by decide +kernel
theorem dX10_draw_118 : decode cX10_draw 118 = .ok (.aload_n 0, 1) := by decide +kernel
theorem dX10_draw_119 : decode cX10_draw 119 = .ok (.getfield 50, 3) := by decide +kernel
theorem dX10_draw_122 : decode cX10_draw 122 = .ok (.ireturn, 1) := by decide +kernel
theorem dX10_drop_0 : decode cX10_drop 0 = .ok (.iload_n 1, 1) := by decide +kernel
theorem dX10_drop_1 : decode cX10_drop 1 = .ok (.ifCond .lt 11, 3) := by decide +kernel
theorem dX10_drop_4 : decode cX10_drop 4 = .ok (.iload_n 1, 1) := by decide +kernel
theorem dX10_drop_5 : decode cX10_drop 5 = .ok (.aload_n 0, 1) := by decide +kernel
theorem dX10_drop_6 : decode cX10_drop 6 = .ok (.getfield 50, 3) := by decide +kernel
theorem dX10_drop_9 : decode cX10_drop 9 = .ok (.if_icmp .le 5, 3) := by decide +kernel
theorem dX10_drop_12 : decode cX10_drop 12 = .ok (.iconst (-1), 1) := by decide +kernel
theorem dX10_drop_13 : decode cX10_drop 13 = .ok (.ireturn, 1) := by decide +kernel
theorem dX10_drop_14 : decode cX10_drop 14 = .ok (.iload_n 1, 1) := by decide +kernel
theorem dX10_drop_15 : decode cX10_drop 15 = .ok (.ifCond .le 53, 3) := by decide +kernel
theorem dX10_drop_18 : decode cX10_drop 18 = .ok (.aload_n 0, 1) := by decide +kernel
theorem dX10_drop_19 : decode cX10_drop 19 = .ok (.dup, 1) := by decide +kernel
theorem dX10_drop_20 : decode cX10_drop 20 = .ok (.getfield 50, 3) := by decide +kernel
theorem dX10_drop_23 : decode cX10_drop 23 = .ok (.iload_n 1, 1) := by decide +kernel
theorem dX10_drop_24 : decode cX10_drop 24 = .ok (.isub, 1) := by decide +kernel
theorem dX10_drop_25 : decode cX10_drop 25 = .ok (.putfield 50, 3) := by decide +kernel
theorem dX10_drop_28 : decode cX10_drop 28 = .ok (.aload_n 0, 1) := by decide +kernel
theorem dX10_drop_29 : decode cX10_drop 29 = .ok (.iconst 0, 1) := by decide +kernel
theorem dX10_drop_30 : decode cX10_drop 30 = .ok (.putfield 74, 3) := by decide +kernel
theorem dX10_drop_33 : decode cX10_drop 33 = .ok (.aload_n 0, 1) := by decide +kernel
theorem dX10_drop_34 : decode cX10_drop 34 = .ok (.getfield 33, 3) := by decide +kernel
theorem dX10_drop_37 : decode cX10_drop 37 = .ok (.astore_n 2, 1) := by decide +kernel
theorem dX10_drop_38 : decode cX10_drop 38 = .ok (.aload_n 2, 1) := by decide +kernel
theorem dX10_drop_39 : decode cX10_drop 39 = .ok (.arraylength, 1) := by decide +kernel
theorem dX10_drop_40 : decode cX10_drop 40 = .ok (.istore_n 3, 1) := by decide +kernel
theorem dX10_drop_41 : decode cX10_drop 41 = .ok (.iconst 0, 1) := by decide +kernel
theorem dX10_drop_42 : decode cX10_drop 42 = .ok (.istore 4, 2) := by decide +kernel
theorem dX10_drop_44 : decode cX10_drop 44 = .ok (.iload 4, 2) := by decide +kernel
theorem dX10_drop_46 : decode cX10_drop 46 = .ok (.iload_n 3, 1) := by decide +kernel
theorem dX10_drop_47 : decode cX10_drop 47 = .ok (.if_icmp .ge 21, 3) := by decide +kernel
theorem dX10_drop_50 : decode cX10_drop 50 = .ok (.aload_n 2, 1) := by decide +kernel
theorem dX10_drop_51 : decode cX10_drop 51 = .ok (.iload 4, 2) := by decide +kernel
theorem dX10_drop_53 : decode cX10_drop 53 = .ok (.aaload, 1) := by decide +kernel
theorem dX10_drop_54 : decode cX10_drop 54 = .ok (.astore 5, 2) := by decide +kernel
theorem dX10_drop_56 : decode cX10_drop 56 = .ok (.aload_n 0, 1) := by decide +kernel
theorem dX10_drop_57 : decode cX10_drop 57 = .ok (.aload 5, 2) := by decide +kernel
theorem dX10_drop_59 : decode cX10_drop 59 = .ok (.invokevirtual 89, 3) := by decide +kernel
theorem dX10_drop_62 : decode cX10_drop 62 = .ok (.iinc 4 1, 3) := by decide +kernel
theorem dX10_drop_65 : decode cX10_drop 65 = .ok (.goto (-21), 3) := by decide +kernel
theorem dX10_drop_68 : decode cX10_drop 68 = .ok (.aload_n 0, 1) := by decide +kernel
theorem dX10_drop_69 : decode cX10_drop 69 = .ok (.getfield 50, 3) := by decide +kernel
theorem dX10_drop_72 : decode cX10_drop 72 = .ok (.ireturn, 1) := by decide +kernel
theorem dX10_law_0 : decode cX10_law 0 = .ok (.iload_n 1, 1) := by decide +kernel
theorem dX10_law_1 : decode cX10_law 1 = .ok (.iconst 1, 1) := by decide +kernel
theorem dX10_law_2 : decode cX10_law 2 = .ok (.if_icmp .eq 10, 3) := by decide +kernel
theorem dX10_law_5 : decode cX10_law 5 = .ok (.iload_n 1, 1) := by decide +kernel
theorem dX10_law_6 : decode cX10_law 6 = .ok (.iconst 2, 1) := by decide +kernel
theorem dX10_law_7 : decode cX10_law 7 = .ok (.if_icmp .eq 5, 3) := by decide +kernel
theorem dX10_law_10 : decode cX10_law 10 = .ok (.iconst 0, 1) := by decide +kernel
theorem dX10_law_11 : decode cX10_law 11 = .ok (.ireturn, 1) := by decide +kernel
theorem dX10_law_12 : decode cX10_law 12 = .ok (.iload_n 1, 1) := by decide +kernel
theorem dX10_law_13 : decode cX10_law 13 = .ok (.iconst 1, 1) := by decide +kernel
theorem dX10_law_14 : decode cX10_law 14 = .ok (.if_icmp .ne 11, 3) := by decide +kernel
theorem dX10_law_17 : decode cX10_law 17 = .ok (.aload_n 0, 1) := by decide +kernel
theorem dX10_law_18 : decode cX10_law 18 = .ok (.iload_n 2, 1) := by decide +kernel
theorem dX10_law_19 : decode cX10_law 19 = .ok (.putfield 54, 3) := by decide +kernel
theorem dX10_law_22 : decode cX10_law 22 = .ok (.goto 8, 3) := by decide +kernel
theorem dX10_law_25 : decode cX10_law 25 = .ok (.aload_n 0, 1) := by decide +kernel
theorem dX10_law_26 : decode cX10_law 26 = .ok (.iload_n 2, 1) := by decide +kernel
theorem dX10_law_27 : decode cX10_law 27 = .ok (.putfield 58, 3) := by decide +kernel
theorem dX10_law_30 : decode cX10_law 30 = .ok (.aload_n 0, 1) := by decide +kernel
theorem dX10_law_31 : decode cX10_law 31 = .ok (.iconst 0, 1) := by decide +kernel
theorem dX10_law_32 : decode cX10_law 32 = .ok (.putfield 74, 3) := by decide +kernel
theorem dX10_law_35 : decode cX10_law 35 = .ok (.iconst 1, 1) := by decide +kernel
theorem dX10_law_36 : decode cX10_law 36 = .ok (.ireturn, 1) := by decide +kernel
theorem dX10_set_0 : decode cX10_set 0 = .ok (.iload_n 1, 1) := by decide +kernel
theorem dX10_set_1 : decode cX10_set 1 = .ok (.ifCond .lt 19, 3) := by decide +kernel
theorem dX10_set_4 : decode cX10_set 4 = .ok (.iload_n 1, 1) := by decide +kernel
theorem dX10_set_5 : decode cX10_set 5 = .ok (.iconst 1, 1) := by decide +kernel
theorem dX10_set_6 : decode cX10_set 6 = .ok (.if_icmp .gt 14, 3) := by decide +kernel
theorem dX10_set_9 : decode cX10_set 9 = .ok (.iload_n 2, 1) := by decide +kernel
theorem dX10_set_10 : decode cX10_set 10 = .ok (.ifCond .lt 10, 3) := by decide +kernel
theorem dX10_set_13 : decode cX10_set 13 = .ok (.iload_n 2, 1) := by decide +kernel
theorem dX10_set_14 : decode cX10_set 14 = .ok (.sipush 1000, 3) := by decide +kernel
theorem dX10_set_17 : decode cX10_set 17 = .ok (.if_icmp .le 5, 3) := by decide +kernel
theorem dX10_set_20 : decode cX10_set 20 = .ok (.iconst (-1), 1) := by decide +kernel
theorem dX10_set_21 : decode cX10_set 21 = .ok (.ireturn, 1) := by decide +kernel
theorem dX10_set_22 : decode cX10_set 22 = .ok (.iload_n 1, 1) := by decide +kernel
theorem dX10_set_23 : decode cX10_set 23 = .ok (.ifCond .ne 10, 3) := by decide +kernel
theorem dX10_set_26 : decode cX10_set 26 = .ok (.aload_n 0, 1) := by decide +kernel
theorem dX10_set_27 : decode cX10_set 27 = .ok (.getfield 61, 3) := by decide +kernel
theorem dX10_set_30 : decode cX10_set 30 = .ok (.goto 7, 3) := by decide +kernel
theorem dX10_set_33 : decode cX10_set 33 = .ok (.aload_n 0, 1) := by decide +kernel
theorem dX10_set_34 : decode cX10_set 34 = .ok (.getfield 64, 3) := by decide +kernel
