theorem dX0_init_0 : decode cX0_init 0 = .ok (.aload_n 0, 1) := by decide +kernel
theorem dX0_init_1 : decode cX0_init 1 = .ok (.invokespecial 3, 3) := by decide +kernel
theorem dX0_init_4 : decode cX0_init 4 = .ok (.aload_n 0, 1) := by decide +kernel
theorem dX0_init_5 : decode cX0_init 5 = .ok (.iconst 4, 1) := by decide +kernel
theorem dX0_init_6 : decode cX0_init 6 = .ok (.newarray .int, 2) := by decide +kernel
theorem dX0_init_8 : decode cX0_init 8 = .ok (.putfield 9, 3) := by decide +kernel
theorem dX0_init_11 : decode cX0_init 11 = .ok (.aload_n 0, 1) := by decide +kernel
theorem dX0_init_12 : decode cX0_init 12 = .ok (.iconst 4, 1) := by decide +kernel
theorem dX0_init_13 : decode cX0_init 13 = .ok (.newarray .int, 2) := by decide +kernel
theorem dX0_init_15 : decode cX0_init 15 = .ok (.putfield 15, 3) := by decide +kernel
theorem dX0_init_18 : decode cX0_init 18 = .ok (.aload_n 0, 1) := by decide +kernel
theorem dX0_init_19 : decode cX0_init 19 = .ok (.sipush 301, 3) := by decide +kernel
theorem dX0_init_22 : decode cX0_init 22 = .ok (.newarray .int, 2) := by decide +kernel
theorem dX0_init_24 : decode cX0_init 24 = .ok (.putfield 18, 3) := by decide +kernel
theorem dX0_init_27 : decode cX0_init 27 = .ok (.aload_n 0, 1) := by decide +kernel
theorem dX0_init_28 : decode cX0_init 28 = .ok (.sipush 301, 3) := by decide +kernel
theorem dX0_init_31 : decode cX0_init 31 = .ok (.newarray .int, 2) := by decide +kernel
theorem dX0_init_33 : decode cX0_init 33 = .ok (.putfield 21, 3) := by decide +kernel
theorem dX0_init_36 : decode cX0_init 36 = .ok (.aload_n 0, 1) := by decide +kernel
theorem dX0_init_37 : decode cX0_init 37 = .ok (.iconst 0, 1) := by decide +kernel
theorem dX0_init_38 : decode cX0_init 38 = .ok (.putfield 24, 3) := by decide +kernel
theorem dX0_init_41 : decode cX0_init 41 = .ok (.aload_n 0, 1) := by decide +kernel
theorem dX0_init_42 : decode cX0_init 42 = .ok (.iconst 0, 1) := by decide +kernel
theorem dX0_init_43 : decode cX0_init 43 = .ok (.putfield 28, 3) := by decide +kernel
theorem dX0_init_46 : decode cX0_init 46 = .ok (.aload_n 0, 1) := by decide +kernel
theorem dX0_init_47 : decode cX0_init 47 = .ok (.aload_n 1, 1) := by decide +kernel
theorem dX0_init_48 : decode cX0_init 48 = .ok (.putfield 31, 3) := by decide +kernel
theorem dX0_init_51 : decode cX0_init 51 = .ok (.aload_n 0, 1) := by decide +kernel
theorem dX0_init_52 : decode cX0_init 52 = .ok (.new 35, 3) := by decide +kernel
theorem dX0_init_55 : decode cX0_init 55 = .ok (.dup, 1) := by decide +kernel
theorem dX0_init_56 : decode cX0_init 56 = .ok (.aload_n 1, 1) := by decide +kernel
theorem dX0_init_57 : decode cX0_init 57 = .ok (.getfield 37, 3) := by decide +kernel
theorem dX0_init_60 : decode cX0_init 60 = .ok (.aload_n 1, 1) := by decide +kernel
theorem dX0_init_61 : decode cX0_init 61 = .ok (.getfield 43, 3) := by decide +kernel
theorem dX0_init_64 : decode cX0_init 64 = .ok (.aload_n 1, 1) := by decide +kernel
theorem dX0_init_65 : decode cX0_init 65 = .ok (.getfield 47, 3) := by decide +kernel
theorem dX0_init_68 : decode cX0_init 68 = .ok (.invokespecial 51, 3) := by decide +kernel
theorem dX0_init_71 : decode cX0_init 71 = .ok (.putfield 54, 3) := by decide +kernel
theorem dX0_init_74 : decode cX0_init 74 = .ok (.return_, 1) := by decide +kernel
theorem dX0_start_0 : decode cX0_start 0 = .ok (.aload_n 0, 1) := by decide +kernel
theorem dX0_start_1 : decode cX0_start 1 = .ok (.getfield 54, 3) := by decide +kernel
theorem dX0_start_4 : decode cX0_start 4 = .ok (.aload_n 0, 1) := by decide +kernel
theorem dX0_start_5 : decode cX0_start 5 = .ok (.getfield 31, 3) := by decide +kernel
theorem dX0_start_8 : decode cX0_start 8 = .ok (.getfield 55, 3) := by decide +kernel
theorem dX0_start_11 : decode cX0_start 11 = .ok (.invokevirtual 58, 3) := by decide +kernel
theorem dX0_start_14 : decode cX0_start 14 = .ok (.return_, 1) := by decide +kernel
theorem dX0_tally_0 : decode cX0_tally 0 = .ok (.aload_n 0, 1) := by decide +kernel
theorem dX0_tally_1 : decode cX0_tally 1 = .ok (.getfield 9, 3) := by decide +kernel
theorem dX0_tally_4 : decode cX0_tally 4 = .ok (.iconst 0, 1) := by decide +kernel
theorem dX0_tally_5 : decode cX0_tally 5 = .ok (.invokestatic 62, 3) := by decide +kernel
theorem dX0_tally_8 : decode cX0_tally 8 = .ok (.iconst 0, 1) := by decide +kernel
theorem dX0_tally_9 : decode cX0_tally 9 = .ok (.istore_n 2, 1) := by decide +kernel
theorem dX0_tally_10 : decode cX0_tally 10 = .ok (.iload_n 2, 1) := by decide +kernel
theorem dX0_tally_11 : decode cX0_tally 11 = .ok (.iload_n 1, 1) := by decide +kernel
theorem dX0_tally_12 : decode cX0_tally 12 = .ok (.if_icmp .ge 44, 3) := by decide +kernel
theorem dX0_tally_15 : decode cX0_tally 15 = .ok (.aload_n 0, 1) := by decide +kernel
theorem dX0_tally_16 : decode cX0_tally 16 = .ok (.getfield 54, 3) := by decide +kernel
theorem dX0_tally_19 : decode cX0_tally 19 = .ok (.iconst 1, 1) := by decide +kernel
theorem dX0_tally_20 : decode cX0_tally 20 = .ok (.invokevirtual 68, 3) := by decide +kernel
theorem dX0_tally_23 : decode cX0_tally 23 = .ok (.istore_n 3, 1) := by decide +kernel
theorem dX0_tally_24 : decode cX0_tally 24 = .ok (.iload_n 3, 1) := by decide +kernel
theorem dX0_tally_25 : decode cX0_tally 25 = .ok (.iconst (-1), 1) := by decide +kernel
theorem dX0_tally_26 : decode cX0_tally 26 = .ok (.if_icmp .eq 24, 3) := by decide +kernel
theorem dX0_tally_29 : decode cX0_tally 29 = .ok (.aload_n 0, 1) := by decide +kernel
theorem dX0_tally_30 : decode cX0_tally 30 = .ok (.getfield 9, 3) := by decide +kernel
theorem dX0_tally_33 : decode cX0_tally 33 = .ok (.aload_n 0, 1) := by decide +kernel
theorem dX0_tally_34 : decode cX0_tally 34 = .ok (.getfield 31, 3) := by decide +kernel
theorem dX0_tally_37 : decode cX0_tally 37 = .ok (.getfield 37, 3) := by decide +kernel
theorem dX0_tally_40 : decode cX0_tally 40 = .ok (.getfield 72, 3) := by decide +kernel
theorem dX0_tally_43 : decode cX0_tally 43 = .ok (.iload_n 3, 1) := by decide +kernel
theorem dX0_tally_44 : decode cX0_tally 44 = .ok (.iaload, 1) := by decide +kernel
theorem dX0_tally_45 : decode cX0_tally 45 = .ok (.dup2, 1) := by decide +kernel
theorem dX0_tally_46 : decode cX0_tally 46 = .ok (.iaload, 1) := by decide +kernel
theorem dX0_tally_47 : decode cX0_tally 47 = .ok (.iconst 1, 1) := by decide +kernel
theorem dX0_tally_48 : decode cX0_tally 48 = .ok (.iadd, 1) := by decide +kernel
theorem dX0_tally_49 : decode cX0_tally 49 = .ok (.iastore, 1) := by decide +kernel
theorem dX0_tally_50 : decode cX0_tally 50 = .ok (.iinc 2 1, 3) := by decide +kernel
theorem dX0_tally_53 : decode cX0_tally 53 = .ok (.goto (-43), 3) := by decide +kernel
theorem dX0_tally_56 : decode cX0_tally 56 = .ok (.return_, 1) := by decide +kernel
theorem dX0_worthFor_0 : decode cX0_worthFor 0 = .ok (.iconst 0, 1) := by decide +kernel
theorem dX0_worthFor_1 : decode cX0_worthFor 1 = .ok (.istore_n 2, 1) := by decide +kernel
theorem dX0_worthFor_2 : decode cX0_worthFor 2 = .ok (.iconst 0, 1) := by decide +kernel
theorem dX0_worthFor_3 : decode cX0_worthFor 3 = .ok (.istore_n 3, 1) := by decide +kernel
theorem dX0_worthFor_4 : decode cX0_worthFor 4 = .ok (.iload_n 3, 1) := by decide +kernel
theorem dX0_worthFor_5 : decode cX0_worthFor 5 = .ok (.iconst 4, 1) := by decide +kernel
theorem dX0_worthFor_6 : decode cX0_worthFor 6 = .ok (.if_icmp .ge 35, 3) := by decide +kernel
theorem dX0_worthFor_9 : decode cX0_worthFor 9 = .ok (.iload_n 2, 1) := by decide +kernel
theorem dX0_worthFor_10 : decode cX0_worthFor 10 = .ok (.aload_n 0, 1) := by decide +kernel
theorem dX0_worthFor_11 : decode cX0_worthFor 11 = .ok (.getfield 9, 3) := by decide +kernel
theorem dX0_worthFor_14 : decode cX0_worthFor 14 = .ok (.iload_n 3, 1) := by decide +kernel
theorem dX0_worthFor_15 : decode cX0_worthFor 15 = .ok (.iaload, 1) := by decide +kernel
theorem dX0_worthFor_16 : decode cX0_worthFor 16 = .ok (.aload_n 0, 1) := by decide +kernel
theorem dX0_worthFor_17 : decode cX0_worthFor 17 = .ok (.getfield 31, 3) := by decide +kernel
theorem dX0_worthFor_20 : decode cX0_worthFor 20 = .ok (.getfield 37, 3) := by decide +kernel
theorem dX0_worthFor_23 : decode cX0_worthFor 23 = .ok (.getfield 77, 3) := by decide +kernel
theorem dX0_worthFor_26 : decode cX0_worthFor 26 = .ok (.iload_n 3, 1) := by decide +kernel
theorem dX0_worthFor_27 : decode cX0_worthFor 27 = .ok (.iconst 4, 1) := by decide +kernel
theorem dX0_worthFor_28 : decode cX0_worthFor 28 = .ok (.imul, 1) := by decide +kernel
theorem dX0_worthFor_29 : decode cX0_worthFor 29 = .ok (.iload_n 1, 1) := by decide +kernel
theorem dX0_worthFor_30 : decode cX0_worthFor 30 = .ok (.iadd, 1) := by decide +kernel
theorem dX0_worthFor_31 : decode cX0_worthFor 31 = .ok (.iaload, 1) := by decide +kernel
theorem dX0_worthFor_32 : decode cX0_worthFor 32 = .ok (.imul, 1) := by decide +kernel
theorem dX0_worthFor_33 : decode cX0_worthFor 33 = .ok (.iadd, 1) := by decide +kernel
theorem dX0_worthFor_34 : decode cX0_worthFor 34 = .ok (.istore_n 2, 1) := by decide +kernel
theorem dX0_worthFor_35 : decode cX0_worthFor 35 = .ok (.iinc 3 1, 3) := by decide +kernel
theorem dX0_worthFor_38 : decode cX0_worthFor 38 = .ok (.goto (-34), 3) := by decide +kernel
theorem dX0_worthFor_41 : decode cX0_worthFor 41 = .ok (.iload_n 2, 1) := by decide +kernel
theorem dX0_worthFor_42 : decode cX0_worthFor 42 = .ok (.ireturn, 1) := by decide +kernel
theorem dX0_goRound_0 : decode cX0_goRound 0 = .ok (.aload_n 0, 1) := by decide +kernel
theorem dX0_goRound_1 : decode cX0_goRound 1 = .ok (.invokevirtual 80, 3) := by decide +kernel
theorem dX0_goRound_4 : decode cX0_goRound 4 = .ok (.aload_n 0, 1) := by decide +kernel
theorem dX0_goRound_5 : decode cX0_goRound 5 = .ok (.getfield 18, 3) := by decide +kernel
theorem dX0_goRound_8 : decode cX0_goRound 8 = .ok (.iconst 0, 1) := by decide +kernel
theorem dX0_goRound_9 : decode cX0_goRound 9 = .ok (.aload_n 0, 1) := by decide +kernel
theorem dX0_goRound_10 : decode cX0_goRound 10 = .ok (.getfield 54, 3) := by decide +kernel
theorem dX0_goRound_13 : decode cX0_goRound 13 = .ok (.invokevirtual 83, 3) := by decide +kernel
theorem dX0_goRound_16 : decode cX0_goRound 16 = .ok (.iastore, 1) := by decide +kernel
theorem dX0_goRound_17 : decode cX0_goRound 17 = .ok (.iconst 1, 1) := by decide +kernel
theorem dX0_goRound_18 : decode cX0_goRound 18 = .ok (.istore_n 1, 1) := by decide +kernel
theorem dX0_goRound_19 : decode cX0_goRound 19 = .ok (.iload_n 1, 1) := by decide +kernel
theorem dX0_goRound_20 : decode cX0_goRound 20 = .ok (.sipush 300, 3) := by decide +kernel
theorem dX0_goRound_23 : decode cX0_goRound 23 = .ok (.if_icmp .gt 76, 3) := by decide +kernel
theorem dX0_goRound_26 : decode cX0_goRound 26 = .ok (.aload_n 0, 1) := by decide +kernel
theorem dX0_goRound_27 : decode cX0_goRound 27 = .ok (.getfield 21, 3) := by decide +kernel
theorem dX0_goRound_30 : decode cX0_goRound 30 = .ok (.iload_n 1, 1) := by decide +kernel
theorem dX0_goRound_31 : decode cX0_goRound 31 = .ok (.aload_n 0, 1) := by decide +kernel
theorem dX0_goRound_32 : decode cX0_goRound 32 = .ok (.getfield 54, 3) := by decide +kernel
theorem dX0_goRound_35 : decode cX0_goRound 35 = .ok (.iconst 1, 1) := by decide +kernel
theorem dX0_goRound_36 : decode cX0_goRound 36 = .ok (.invokevirtual 68, 3) := by decide +kernel
theorem dX0_goRound_39 : decode cX0_goRound 39 = .ok (.iastore, 1) := by decide +kernel
theorem dX0_goRound_40 : decode cX0_goRound 40 = .ok (.aload_n 0, 1) := by decide +kernel
theorem dX0_goRound_41 : decode cX0_goRound 41 = .ok (.getfield 18, 3) := by decide +kernel
theorem dX0_goRound_44 : decode cX0_goRound 44 = .ok (.iload_n 1, 1) := by decide +kernel
theorem dX0_goRound_45 : decode cX0_goRound 45 = .ok (.aload_n 0, 1) := by decide +kernel
theorem dX0_goRound_46 : decode cX0_goRound 46 = .ok (.getfield 54, 3) := by decide +kernel
theorem dX0_goRound_49 : decode cX0_goRound 49 = .ok (.invokevirtual 83, 3) := by decide +kernel
theorem dX0_goRound_52 : decode cX0_goRound 52 = .ok (.iastore, 1) := by decide +kernel
theorem dX0_goRound_53 : decode cX0_goRound 53 = .ok (.iconst 0, 1) := by decide +kernel
theorem dX0_goRound_54 : decode cX0_goRound 54 = .ok (.istore_n 2, 1) := by decide +kernel
theorem dX0_goRound_55 : decode cX0_goRound 55 = .ok (.iload_n 2, 1) := by decide +kernel
theorem dX0_goRound_56 : decode cX0_goRound 56 = .ok (.iload_n 1, 1) := by decide +kernel
theorem dX0_goRound_57 : decode cX0_goRound 57 = .ok (.if_icmp .ge 36, 3) := by decide +kernel
theorem dX0_goRound_60 : decode cX0_goRound 60 = .ok (.aload_n 0, 1) := by decide +kernel
theorem dX0_goRound_61 : decode cX0_goRound 61 = .ok (.getfield 18, 3) := by decide +kernel
theorem dX0_goRound_64 : decode cX0_goRound 64 = .ok (.iload_n 2, 1) := by decide +kernel
theorem dX0_goRound_65 : decode cX0_goRound 65 = .ok (.iaload, 1) := by decide +kernel
theorem dX0_goRound_66 : decode cX0_goRound 66 = .ok (.aload_n 0, 1) := by decide +kernel
theorem dX0_goRound_67 : decode cX0_goRound 67 = .ok (.getfield 18, 3) := by decide +kernel
theorem dX0_goRound_70 : decode cX0_goRound 70 = .ok (.iload_n 1, 1) := by decide +kernel
theorem dX0_goRound_71 : decode cX0_goRound 71 = .ok (.iaload, 1) := by decide +kernel
theorem dX0_goRound_72 : decode cX0_goRound 72 = .ok (.if_icmp .ne 15, 3) := by decide +kernel
theorem dX0_goRound_75 : decode cX0_goRound 75 = .ok (.aload_n 0, 1) := by decide +kernel
theorem dX0_goRound_76 : decode cX0_goRound 76 = .ok (.iload_n 2, 1) := by decide +kernel
theorem dX0_goRound_77 : decode cX0_goRound 77 = .ok (.putfield 24, 3) := by decide +kernel
theorem dX0_goRound_80 : decode cX0_goRound 80 = .ok (.aload_n 0, 1) := by decide +kernel
theorem dX0_goRound_81 : decode cX0_goRound 81 = .ok (.iload_n 1, 1) := by decide +kernel
theorem dX0_goRound_82 : decode cX0_goRound 82 = .ok (.putfield 28, 3) := by decide +kernel
theorem dX0_goRound_85 : decode cX0_goRound 85 = .ok (.iconst 1, 1) := by decide +kernel
theorem dX0_goRound_86 : decode cX0_goRound 86 = .ok (.ireturn, 1) := by decide +kernel
theorem dX0_goRound_87 : decode cX0_goRound 87 = .ok (.iinc 2 1, 3) := by decide +kernel
theorem dX0_goRound_90 : decode cX0_goRound 90 = .ok (.goto (-35), 3) := by decide +kernel
theorem dX0_goRound_93 : decode cX0_goRound 93 = .ok (.iinc 1 1, 3) := by decide +kernel
theorem dX0_goRound_96 : decode cX0_goRound 96 = .ok (.goto (-77), 3) := by decide +kernel
theorem dX0_goRound_99 : decode cX0_goRound 99 = .ok (.iconst 0, 1) := by decide +kernel
theorem dX0_goRound_100 : decode cX0_goRound 100 = .ok (.ireturn, 1) := by decide +kernel
theorem dX0_whoGoesRound_0 : decode cX0_whoGoesRound 0 = .ok (.iconst 0, 1) := by decide +kernel
theorem dX0_whoGoesRound_1 : decode cX0_whoGoesRound 1 = .ok (.istore_n 1, 1) := by decide +kernel
theorem dX0_whoGoesRound_2 : decode cX0_whoGoesRound 2 = .ok (.aload_n 0, 1) := by decide +kernel
theorem dX0_whoGoesRound_3 : decode cX0_whoGoesRound 3 = .ok (.getfield 24, 3) := by decide +kernel
theorem dX0_whoGoesRound_6 : decode cX0_whoGoesRound 6 = .ok (.iconst 1, 1) := by decide +kernel
theorem dX0_whoGoesRound_7 : decode cX0_whoGoesRound 7 = .ok (.iadd, 1) := by decide +kernel
theorem dX0_whoGoesRound_8 : decode cX0_whoGoesRound 8 = .ok (.istore_n 2, 1) := by decide +kernel
theorem dX0_whoGoesRound_9 : decode cX0_whoGoesRound 9 = .ok (.iload_n 2, 1) := by decide +kernel
theorem dX0_whoGoesRound_10 : decode cX0_whoGoesRound 10 = .ok (.aload_n 0, 1) := by decide +kernel
theorem dX0_whoGoesRound_11 : decode cX0_whoGoesRound 11 = .ok (.getfield 28, 3) := by decide +kernel
theorem dX0_whoGoesRound_14 : decode cX0_whoGoesRound 14 = .ok (.if_icmp .gt 30, 3) := by decide +kernel
theorem dX0_whoGoesRound_17 : decode cX0_whoGoesRound 17 = .ok (.aload_n 0, 1) := by decide +kernel
theorem dX0_whoGoesRound_18 : decode cX0_whoGoesRound 18 = .ok (.getfield 21, 3) := by decide +kernel
theorem dX0_whoGoesRound_21 : decode cX0_whoGoesRound 21 = .ok (.iload_n 2, 1) := by decide +kernel
theorem dX0_whoGoesRound_22 : decode cX0_whoGoesRound 22 = .ok (.iaload, 1) := by decide +kernel
theorem dX0_whoGoesRound_23 : decode cX0_whoGoesRound 23 = .ok (.iconst (-1), 1) := by decide +kernel
theorem dX0_whoGoesRound_24 : decode cX0_whoGoesRound 24 = .ok (.if_icmp .eq 14, 3) := by decide +kernel
theorem dX0_whoGoesRound_27 : decode cX0_whoGoesRound 27 = .ok (.iload_n 1, 1) := by decide +kernel
theorem dX0_whoGoesRound_28 : decode cX0_whoGoesRound 28 = .ok (.iconst 1, 1) := by decide +kernel
theorem dX0_whoGoesRound_29 : decode cX0_whoGoesRound 29 = .ok (.aload_n 0, 1) := by decide +kernel
theorem dX0_whoGoesRound_30 : decode cX0_whoGoesRound 30 = .ok (.getfield 21, 3) := by decide +kernel
theorem dX0_whoGoesRound_33 : decode cX0_whoGoesRound 33 = .ok (.iload_n 2, 1) := by decide +kernel
theorem dX0_whoGoesRound_34 : decode cX0_whoGoesRound 34 = .ok (.iaload, 1) := by decide +kernel
theorem dX0_whoGoesRound_35 : decode cX0_whoGoesRound 35 = .ok (.ishl, 1) := by decide +kernel
theorem dX0_whoGoesRound_36 : decode cX0_whoGoesRound 36 = .ok (.ior, 1) := by decide +kernel
theorem dX0_whoGoesRound_37 : decode cX0_whoGoesRound 37 = .ok (.istore_n 1, 1) := by decide +kernel
theorem dX0_whoGoesRound_38 : decode cX0_whoGoesRound 38 = .ok (.iinc 2 1, 3) := by decide +kernel
theorem dX0_whoGoesRound_41 : decode cX0_whoGoesRound 41 = .ok (.goto (-32), 3) := by decide +kernel
theorem dX0_whoGoesRound_44 : decode cX0_whoGoesRound 44 = .ok (.iload_n 1, 1) := by decide +kernel
theorem dX0_whoGoesRound_45 : decode cX0_whoGoesRound 45 = .ok (.ireturn, 1) := by decide +kernel
theorem dX0_noteWithout_0 : decode cX0_noteWithout 0 = .ok (.iconst 0, 1) := by decide +kernel
theorem dX0_noteWithout_1 : decode cX0_noteWithout 1 = .ok (.istore_n 1, 1) := by decide +kernel
theorem dX0_noteWithout_2 : decode cX0_noteWithout 2 = .ok (.iload_n 1, 1) := by decide +kernel
theorem dX0_noteWithout_3 : decode cX0_noteWithout 3 = .ok (.iconst 4, 1) := by decide +kernel
theorem dX0_noteWithout_4 : decode cX0_noteWithout 4 = .ok (.if_icmp .ge 20, 3) := by decide +kernel
theorem dX0_noteWithout_7 : decode cX0_noteWithout 7 = .ok (.aload_n 0, 1) := by decide +kernel
theorem dX0_noteWithout_8 : decode cX0_noteWithout 8 = .ok (.getfield 15, 3) := by decide +kernel
theorem dX0_noteWithout_11 : decode cX0_noteWithout 11 = .ok (.iload_n 1, 1) := by decide +kernel
theorem dX0_noteWithout_12 : decode cX0_noteWithout 12 = .ok (.aload_n 0, 1) := by decide +kernel
theorem dX0_noteWithout_13 : decode cX0_noteWithout 13 = .ok (.iload_n 1, 1) := by decide +kernel
theorem dX0_noteWithout_14 : decode cX0_noteWithout 14 = .ok (.invokevirtual 87, 3) := by decide +kernel
theorem dX0_noteWithout_17 : decode cX0_noteWithout 17 = .ok (.iastore, 1) := by decide +kernel
theorem dX0_noteWithout_18 : decode cX0_noteWithout 18 = .ok (.iinc 1 1, 3) := by decide +kernel
theorem dX0_noteWithout_21 : decode cX0_noteWithout 21 = .ok (.goto (-19), 3) := by decide +kernel
theorem dX0_noteWithout_24 : decode cX0_noteWithout 24 = .ok (.return_, 1) := by decide +kernel
theorem dX0_moreFor_0 : decode cX0_moreFor 0 = .ok (.aload_n 0, 1) := by decide +kernel
theorem dX0_moreFor_1 : decode cX0_moreFor 1 = .ok (.getfield 31, 3) := by decide +kernel
theorem dX0_moreFor_4 : decode cX0_moreFor 4 = .ok (.getfield 37, 3) := by decide +kernel
theorem dX0_moreFor_7 : decode cX0_moreFor 7 = .ok (.getfield 72, 3) := by decide +kernel
theorem dX0_moreFor_10 : decode cX0_moreFor 10 = .ok (.iload_n 1, 1) := by decide +kernel
theorem dX0_moreFor_11 : decode cX0_moreFor 11 = .ok (.iaload, 1) := by decide +kernel
theorem dX0_moreFor_12 : decode cX0_moreFor 12 = .ok (.istore_n 2, 1) := by decide +kernel
theorem dX0_moreFor_13 : decode cX0_moreFor 13 = .ok (.aload_n 0, 1) := by decide +kernel
theorem dX0_moreFor_14 : decode cX0_moreFor 14 = .ok (.iload_n 2, 1) := by decide +kernel
theorem dX0_moreFor_15 : decode cX0_moreFor 15 = .ok (.invokevirtual 87, 3) := by decide +kernel
theorem dX0_moreFor_18 : decode cX0_moreFor 18 = .ok (.aload_n 0, 1) := by decide +kernel
theorem dX0_moreFor_19 : decode cX0_moreFor 19 = .ok (.getfield 15, 3) := by decide +kernel
theorem dX0_moreFor_22 : decode cX0_moreFor 22 = .ok (.iload_n 2, 1) := by decide +kernel
theorem dX0_moreFor_23 : decode cX0_moreFor 23 = .ok (.iaload, 1) := by decide +kernel
theorem dX0_moreFor_24 : decode cX0_moreFor 24 = .ok (.isub, 1) := by decide +kernel
theorem dX0_moreFor_25 : decode cX0_moreFor 25 = .ok (.ireturn, 1) := by decide +kernel
theorem dX1_init_0 : decode cX1_init 0 = .ok (.aload_n 0, 1) := by decide +kernel
theorem dX1_init_1 : decode cX1_init 1 = .ok (.invokespecial 3, 3) := by decide +kernel
theorem dX1_init_4 : decode cX1_init 4 = .ok (.aload_n 0, 1) := by decide +kernel
theorem dX1_init_5 : decode cX1_init 5 = .ok (.iconst 0, 1) := by decide +kernel
theorem dX1_init_6 : decode cX1_init 6 = .ok (.putfield 9, 3) := by decide +kernel
theorem dX1_init_9 : decode cX1_init 9 = .ok (.aload_n 0, 1) := by decide +kernel
theorem dX1_init_10 : decode cX1_init 10 = .ok (.bipush 10, 2) := by decide +kernel
theorem dX1_init_12 : decode cX1_init 12 = .ok (.newarray .int, 2) := by decide +kernel
theorem dX1_init_14 : decode cX1_init 14 = .ok (.putfield 15, 3) := by decide +kernel
theorem dX1_init_17 : decode cX1_init 17 = .ok (.aload_n 0, 1) := by decide +kernel
theorem dX1_init_18 : decode cX1_init 18 = .ok (.bipush 10, 2) := by decide +kernel
theorem dX1_init_20 : decode cX1_init 20 = .ok (.newarray .int, 2) := by decide +kernel
theorem dX1_init_22 : decode cX1_init 22 = .ok (.putfield 19, 3) := by decide +kernel
theorem dX1_init_25 : decode cX1_init 25 = .ok (.aload_n 0, 1) := by decide +kernel
theorem dX1_init_26 : decode cX1_init 26 = .ok (.bipush 10, 2) := by decide +kernel
theorem dX1_init_28 : decode cX1_init 28 = .ok (.newarray .int, 2) := by decide +kernel
theorem dX1_init_30 : decode cX1_init 30 = .ok (.putfield 22, 3) := by decide +kernel
theorem dX1_init_33 : decode cX1_init 33 = .ok (.aload_n 0, 1) := by decide +kernel
theorem dX1_init_34 : decode cX1_init 34 = .ok (.bipush 10, 2) := by decide +kernel
theorem dX1_init_36 : decode cX1_init 36 = .ok (.newarray .int, 2) := by decide +kernel
theorem dX1_init_38 : decode cX1_init 38 = .ok (.putfield 25, 3) := by decide +kernel
theorem dX1_init_41 : decode cX1_init 41 = .ok (.aload_n 0, 1) := by decide +kernel
theorem dX1_init_42 : decode cX1_init 42 = .ok (.iconst 0, 1) := by decide +kernel
theorem dX1_init_43 : decode cX1_init 43 = .ok (.putfield 28, 3) := by decide +kernel
theorem dX1_init_46 : decode cX1_init 46 = .ok (.aload_n 0, 1) := by decide +kernel
theorem dX1_init_47 : decode cX1_init 47 = .ok (.bipush 100, 2) := by decide +kernel
theorem dX1_init_49 : decode cX1_init 49 = .ok (.newarray .int, 2) := by decide +kernel
theorem dX1_init_51 : decode cX1_init 51 = .ok (.putfield 31, 3) := by decide +kernel
theorem dX1_init_54 : decode cX1_init 54 = .ok (.aload_n 0, 1) := by decide +kernel
theorem dX1_init_55 : decode cX1_init 55 = .ok (.bipush 16, 2) := by decide +kernel
theorem dX1_init_57 : decode cX1_init 57 = .ok (.newarray .int, 2) := by decide +kernel
theorem dX1_init_59 : decode cX1_init 59 = .ok (.putfield 34, 3) := by decide +kernel
theorem dX1_init_62 : decode cX1_init 62 = .ok (.aload_n 0, 1) := by decide +kernel
theorem dX1_init_63 : decode cX1_init 63 = .ok (.iconst 1, 1) := by decide +kernel
theorem dX1_init_64 : decode cX1_init 64 = .ok (.putfield 37, 3) := by decide +kernel
theorem dX1_init_67 : decode cX1_init 67 = .ok (.return_, 1) := by decide +kernel
theorem dX1_takeFrom_0 : decode cX1_takeFrom 0 = .ok (.aload_n 0, 1) := by decide +kernel
theorem dX1_takeFrom_1 : decode cX1_takeFrom 1 = .ok (.aload_n 1, 1) := by decide +kernel
theorem dX1_takeFrom_2 : decode cX1_takeFrom 2 = .ok (.getfield 9, 3) := by decide +kernel
theorem dX1_takeFrom_5 : decode cX1_takeFrom 5 = .ok (.putfield 9, 3) := by decide +kernel
theorem dX1_takeFrom_8 : decode cX1_takeFrom 8 = .ok (.aload_n 0, 1) := by decide +kernel
theorem dX1_takeFrom_9 : decode cX1_takeFrom 9 = .ok (.aload_n 1, 1) := by decide +kernel
theorem dX1_takeFrom_10 : decode cX1_takeFrom 10 = .ok (.getfield 28, 3) := by decide +kernel
theorem dX1_takeFrom_13 : decode cX1_takeFrom 13 = .ok (.putfield 28, 3) := by decide +kernel
theorem dX1_takeFrom_16 : decode cX1_takeFrom 16 = .ok (.aload_n 0, 1) := by decide +kernel
theorem dX1_takeFrom_17 : decode cX1_takeFrom 17 = .ok (.aload_n 1, 1) := by decide +kernel
theorem dX1_takeFrom_18 : decode cX1_takeFrom 18 = .ok (.getfield 37, 3) := by decide +kernel
theorem dX1_takeFrom_21 : decode cX1_takeFrom 21 = .ok (.putfield 37, 3) := by decide +kernel
theorem dX1_takeFrom_24 : decode cX1_takeFrom 24 = .ok (.aload_n 1, 1) := by decide +kernel
theorem dX1_takeFrom_25 : decode cX1_takeFrom 25 = .ok (.getfield 15, 3) := by decide +kernel
theorem dX1_takeFrom_28 : decode cX1_takeFrom 28 = .ok (.iconst 0, 1) := by decide +kernel
theorem dX1_takeFrom_29 : decode cX1_takeFrom 29 = .ok (.aload_n 0, 1) := by decide +kernel
theorem dX1_takeFrom_30 : decode cX1_takeFrom 30 = .ok (.getfield 15, 3) := by decide +kernel
theorem dX1_takeFrom_33 : decode cX1_takeFrom 33 = .ok (.iconst 0, 1) := by decide +kernel
theorem dX1_takeFrom_34 : decode cX1_takeFrom 34 = .ok (.bipush 10, 2) := by decide +kernel
theorem dX1_takeFrom_36 : decode cX1_takeFrom 36 = .ok (.invokestatic 40, 3) := by decide +kernel
theorem dX1_takeFrom_39 : decode cX1_takeFrom 39 = .ok (.aload_n 1, 1) := by decide +kernel
theorem dX1_takeFrom_40 : decode cX1_takeFrom 40 = .ok (.getfield 19, 3) := by decide +kernel
theorem dX1_takeFrom_43 : decode cX1_takeFrom 43 = .ok (.iconst 0, 1) := by decide +kernel
theorem dX1_takeFrom_44 : decode cX1_takeFrom 44 = .ok (.aload_n 0, 1) := by decide +kernel
theorem dX1_takeFrom_45 : decode cX1_takeFrom 45 = .ok (.getfield 19, 3) := by decide +kernel
theorem dX1_takeFrom_48 : decode cX1_takeFrom 48 = .ok (.iconst 0, 1) := by decide +kernel
theorem dX1_takeFrom_49 : decode cX1_takeFrom 49 = .ok (.bipush 10, 2) := by decide +kernel
theorem dX1_takeFrom_51 : decode cX1_takeFrom 51 = .ok (.invokestatic 40, 3) := by decide +kernel
theorem dX1_takeFrom_54 : decode cX1_takeFrom 54 = .ok (.aload_n 1, 1) := by decide +kernel
theorem dX1_takeFrom_55 : decode cX1_takeFrom 55 = .ok (.getfield 22, 3) := by decide +kernel
theorem dX1_takeFrom_58 : decode cX1_takeFrom 58 = .ok (.iconst 0, 1) := by decide +kernel
theorem dX1_takeFrom_59 : decode cX1_takeFrom 59 = .ok (.aload_n 0, 1) := by decide +kernel
theorem dX1_takeFrom_60 : decode cX1_takeFrom 60 = .ok (.getfield 22, 3) := by decide +kernel
theorem dX1_takeFrom_63 : decode cX1_takeFrom 63 = .ok (.iconst 0, 1) := by decide +kernel
theorem dX1_takeFrom_64 : decode cX1_takeFrom 64 = .ok (.bipush 10, 2) := by decide +kernel
theorem dX1_takeFrom_66 : decode cX1_takeFrom 66 = .ok (.invokestatic 40, 3) := by decide +kernel
theorem dX1_takeFrom_69 : decode cX1_takeFrom 69 = .ok (.aload_n 1, 1) := by decide +kernel
theorem dX1_takeFrom_70 : decode cX1_takeFrom 70 = .ok (.getfield 25, 3) := by decide +kernel
theorem dX1_takeFrom_73 : decode cX1_takeFrom 73 = .ok (.iconst 0, 1) := by decide +kernel
theorem dX1_takeFrom_74 : decode cX1_takeFrom 74 = .ok (.aload_n 0, 1) := by decide +kernel
theorem dX1_takeFrom_75 : decode cX1_takeFrom 75 = .ok (.getfield 25, 3) := by decide +kernel
theorem dX1_takeFrom_78 : decode cX1_takeFrom 78 = .ok (.iconst 0, 1) := by decide +kernel
theorem dX1_takeFrom_79 : decode cX1_takeFrom 79 = .ok (.bipush 10, 2) := by decide +kernel
theorem dX1_takeFrom_81 : decode cX1_takeFrom 81 = .ok (.invokestatic 40, 3) := by decide +kernel
theorem dX1_takeFrom_84 : decode cX1_takeFrom 84 = .ok (.aload_n 1, 1) := by decide +kernel
theorem dX1_takeFrom_85 : decode cX1_takeFrom 85 = .ok (.getfield 31, 3) := by decide +kernel
theorem dX1_takeFrom_88 : decode cX1_takeFrom 88 = .ok (.iconst 0, 1) := by decide +kernel
theorem dX1_takeFrom_89 : decode cX1_takeFrom 89 = .ok (.aload_n 0, 1) := by decide +kernel
theorem dX1_takeFrom_90 : decode cX1_takeFrom 90 = .ok (.getfield 31, 3) := by decide +kernel
theorem dX1_takeFrom_93 : decode cX1_takeFrom 93 = .ok (.iconst 0, 1) := by decide +kernel
theorem dX1_takeFrom_94 : decode cX1_takeFrom 94 = .ok (.bipush 100, 2) := by decide +kernel
theorem dX1_takeFrom_96 : decode cX1_takeFrom 96 = .ok (.invokestatic 40, 3) := by decide +kernel
theorem dX1_takeFrom_99 : decode cX1_takeFrom 99 = .ok (.aload_n 1, 1) := by decide +kernel
theorem dX1_takeFrom_100 : decode cX1_takeFrom 100 = .ok (.getfield 34, 3) := by decide +kernel
theorem dX1_takeFrom_103 : decode cX1_takeFrom 103 = .ok (.iconst 0, 1) := by decide +kernel
theorem dX1_takeFrom_104 : decode cX1_takeFrom 104 = .ok (.aload_n 0, 1) := by decide +kernel
theorem dX1_takeFrom_105 : decode cX1_takeFrom 105 = .ok (.getfield 34, 3) := by decide +kernel
theorem dX1_takeFrom_108 : decode cX1_takeFrom 108 = .ok (.iconst 0, 1) := by decide +kernel
theorem dX1_takeFrom_109 : decode cX1_takeFrom 109 = .ok (.bipush 16, 2) := by decide +kernel
theorem dX1_takeFrom_111 : decode cX1_takeFrom 111 = .ok (.invokestatic 40, 3) := by decide +kernel
theorem dX1_takeFrom_114 : decode cX1_takeFrom 114 = .ok (.return_, 1) := by decide +kernel
theorem dX1_join_0 : decode cX1_join 0 = .ok (.aload_n 0, 1) := by decide +kernel
theorem dX1_join_1 : decode cX1_join 1 = .ok (.getfield 9, 3) := by decide +kernel
theorem dX1_join_4 : decode cX1_join 4 = .ok (.istore 4, 2) := by decide +kernel
theorem dX1_join_6 : decode cX1_join 6 = .ok (.iload 4, 2) := by decide +kernel
theorem dX1_join_8 : decode cX1_join 8 = .ok (.bipush 10, 2) := by decide +kernel
theorem dX1_join_10 : decode cX1_join 10 = .ok (.if_icmp .lt 5, 3) := by decide +kernel
theorem dX1_join_13 : decode cX1_join 13 = .ok (.iconst (-1), 1) := by decide +kernel
theorem dX1_join_14 : decode cX1_join 14 = .ok (.ireturn, 1) := by decide +kernel
theorem dX1_join_15 : decode cX1_join 15 = .ok (.aload_n 0, 1) := by decide +kernel
theorem dX1_join_16 : decode cX1_join 16 = .ok (.getfield 15, 3) := by decide +kernel
theorem dX1_join_19 : decode cX1_join 19 = .ok (.iload 4, 2) := by decide +kernel
theorem dX1_join_21 : decode cX1_join 21 = .ok (.iload_n 1, 1) := by decide +kernel
theorem dX1_join_22 : decode cX1_join 22 = .ok (.iastore, 1) := by decide +kernel
theorem dX1_join_23 : decode cX1_join 23 = .ok (.aload_n 0, 1) := by decide +kernel
theorem dX1_join_24 : decode cX1_join 24 = .ok (.getfield 19, 3) := by decide +kernel
theorem dX1_join_27 : decode cX1_join 27 = .ok (.iload 4, 2) := by decide +kernel
theorem dX1_join_29 : decode cX1_join 29 = .ok (.iload_n 2, 1) := by decide +kernel
theorem dX1_join_30 : decode cX1_join 30 = .ok (.iastore, 1) := by decide +kernel
theorem dX1_join_31 : decode cX1_join 31 = .ok (.aload_n 0, 1) := by decide +kernel
theorem dX1_join_32 : decode cX1_join 32 = .ok (.getfield 22, 3) := by decide +kernel
theorem dX1_join_35 : decode cX1_join 35 = .ok (.iload 4, 2) := by decide +kernel
theorem dX1_join_37 : decode cX1_join 37 = .ok (.iload_n 3, 1) := by decide +kernel
theorem dX1_join_38 : decode cX1_join 38 = .ok (.iastore, 1) := by decide +kernel
theorem dX1_join_39 : decode cX1_join 39 = .ok (.aload_n 0, 1) := by decide +kernel
theorem dX1_join_40 : decode cX1_join 40 = .ok (.iload 4, 2) := by decide +kernel
theorem dX1_join_42 : decode cX1_join 42 = .ok (.iconst 1, 1) := by decide +kernel
theorem dX1_join_43 : decode cX1_join 43 = .ok (.iadd, 1) := by decide +kernel
theorem dX1_join_44 : decode cX1_join 44 = .ok (.putfield 9, 3) := by decide +kernel
theorem dX1_join_47 : decode cX1_join 47 = .ok (.iload 4, 2) := by decide +kernel
theorem dX1_join_49 : decode cX1_join 49 = .ok (.ireturn, 1) := by decide +kernel
theorem dX1_trait_0 : decode cX1_trait 0 = .ok (.iload_n 1, 1) := by decide +kernel
theorem dX1_trait_1 : decode cX1_trait 1 = .ok (.tableswitch 42 0 2 #[27, 32, 37], 27) := by decide +kernel
theorem dX1_trait_28 : decode cX1_trait 28 = .ok (.aload_n 0, 1) := by decide +kernel
theorem dX1_trait_29 : decode cX1_trait 29 = .ok (.getfield 15, 3) := by decide +kernel
theorem dX1_trait_32 : decode cX1_trait 32 = .ok (.areturn, 1) := by decide +kernel
theorem dX1_trait_33 : decode cX1_trait 33 = .ok (.aload_n 0, 1) := by decide +kernel
theorem dX1_trait_34 : decode cX1_trait 34 = .ok (.getfield 19, 3) := by decide +kernel
theorem dX1_trait_37 : decode cX1_trait 37 = .ok (.areturn, 1) := by decide +kernel
theorem dX1_trait_38 : decode cX1_trait 38 = .ok (.aload_n 0, 1) := by decide +kernel
theorem dX1_trait_39 : decode cX1_trait 39 = .ok (.getfield 22, 3) := by decide +kernel
theorem dX1_trait_42 : decode cX1_trait 42 = .ok (.areturn, 1) := by decide +kernel
theorem dX1_trait_43 : decode cX1_trait 43 = .ok (.aload_n 0, 1) := by decide +kernel
theorem dX1_trait_44 : decode cX1_trait 44 = .ok (.getfield 25, 3) := by decide +kernel
theorem dX1_trait_47 : decode cX1_trait 47 = .ok (.areturn, 1) := by decide +kernel
theorem dX1_alive_0 : decode cX1_alive 0 = .ok (.iconst 1, 1) := by decide +kernel
theorem dX1_alive_1 : decode cX1_alive 1 = .ok (.aload_n 0, 1) := by decide +kernel
theorem dX1_alive_2 : decode cX1_alive 2 = .ok (.getfield 9, 3) := by decide +kernel
theorem dX1_alive_5 : decode cX1_alive 5 = .ok (.ishl, 1) := by decide +kernel
theorem dX1_alive_6 : decode cX1_alive 6 = .ok (.iconst 1, 1) := by decide +kernel
theorem dX1_alive_7 : decode cX1_alive 7 = .ok (.isub, 1) := by decide +kernel
theorem dX1_alive_8 : decode cX1_alive 8 = .ok (.aload_n 0, 1) := by decide +kernel
theorem dX1_alive_9 : decode cX1_alive 9 = .ok (.getfield 28, 3) := by decide +kernel
theorem dX1_alive_12 : decode cX1_alive 12 = .ok (.iconst (-1), 1) := by decide +kernel
theorem dX1_alive_13 : decode cX1_alive 13 = .ok (.ixor, 1) := by decide +kernel
theorem dX1_alive_14 : decode cX1_alive 14 = .ok (.iand, 1) := by decide +kernel
theorem dX1_alive_15 : decode cX1_alive 15 = .ok (.ireturn, 1) := by decide +kernel
theorem dX1_isAlive_0 : decode cX1_isAlive 0 = .ok (.aload_n 0, 1) := by decide +kernel
theorem dX1_isAlive_1 : decode cX1_isAlive 1 = .ok (.invokevirtual 46, 3) := by decide +kernel
theorem dX1_isAlive_4 : decode cX1_isAlive 4 = .ok (.iload_n 1, 1) := by decide +kernel
theorem dX1_isAlive_5 : decode cX1_isAlive 5 = .ok (.invokestatic 50, 3) := by decide +kernel
theorem dX1_isAlive_8 : decode cX1_isAlive 8 = .ok (.ireturn, 1) := by decide +kernel
theorem dX1_ofSort_0 : decode cX1_ofSort 0 = .ok (.iconst 0, 1) := by decide +kernel
theorem dX1_ofSort_1 : decode cX1_ofSort 1 = .ok (.istore_n 2, 1) := by decide +kernel
theorem dX1_ofSort_2 : decode cX1_ofSort 2 = .ok (.iconst 0, 1) := by decide +kernel
theorem dX1_ofSort_3 : decode cX1_ofSort 3 = .ok (.istore_n 3, 1) := by decide +kernel
theorem dX1_ofSort_4 : decode cX1_ofSort 4 = .ok (.iload_n 3, 1) := by decide +kernel
theorem dX1_ofSort_5 : decode cX1_ofSort 5 = .ok (.aload_n 0, 1) := by decide +kernel
theorem dX1_ofSort_6 : decode cX1_ofSort 6 = .ok (.getfield 9, 3) := by decide +kernel
theorem dX1_ofSort_9 : decode cX1_ofSort 9 = .ok (.if_icmp .ge 25, 3) := by decide +kernel
theorem dX1_ofSort_12 : decode cX1_ofSort 12 = .ok (.aload_n 0, 1) := by decide +kernel
theorem dX1_ofSort_13 : decode cX1_ofSort 13 = .ok (.getfield 22, 3) := by decide +kernel
theorem dX1_ofSort_16 : decode cX1_ofSort 16 = .ok (.iload_n 3, 1) := by decide +kernel
theorem dX1_ofSort_17 : decode cX1_ofSort 17 = .ok (.iaload, 1) := by decide +kernel
theorem dX1_ofSort_18 : decode cX1_ofSort 18 = .ok (.iload_n 1, 1) := by decide +kernel
theorem dX1_ofSort_19 : decode cX1_ofSort 19 = .ok (.if_icmp .ne 9, 3) := by decide +kernel
theorem dX1_ofSort_22 : decode cX1_ofSort 22 = .ok (.iload_n 2, 1) := by decide +kernel
theorem dX1_ofSort_23 : decode cX1_ofSort 23 = .ok (.iconst 1, 1) := by decide +kernel
theorem dX1_ofSort_24 : decode cX1_ofSort 24 = .ok (.iload_n 3, 1) := by decide +kernel
theorem dX1_ofSort_25 : decode cX1_ofSort 25 = .ok (.ishl, 1) := by decide +kernel
theorem dX1_ofSort_26 : decode cX1_ofSort 26 = .ok (.ior, 1) := by decide +kernel
theorem dX1_ofSort_27 : decode cX1_ofSort 27 = .ok (.istore_n 2, 1) := by decide +kernel
theorem dX1_ofSort_28 : decode cX1_ofSort 28 = .ok (.iinc 3 1, 3) := by decide +kernel
theorem dX1_ofSort_31 : decode cX1_ofSort 31 = .ok (.goto (-27), 3) := by decide +kernel
theorem dX1_ofSort_34 : decode cX1_ofSort 34 = .ok (.iload_n 2, 1) := by decide +kernel
theorem dX1_ofSort_35 : decode cX1_ofSort 35 = .ok (.ireturn, 1) := by decide +kernel
theorem dX1_likedByOthers_0 : decode cX1_likedByOthers 0 = .ok (.iconst 0, 1) := by decide +kernel
theorem dX1_likedByOthers_1 : decode cX1_likedByOthers 1 = .ok (.istore_n 2, 1) := by decide +kernel
theorem dX1_likedByOthers_2 : decode cX1_likedByOthers 2 = .ok (.iconst 0, 1) := by decide +kernel
theorem dX1_likedByOthers_3 : decode cX1_likedByOthers 3 = .ok (.istore_n 3, 1) := by decide +kernel
theorem dX1_likedByOthers_4 : decode cX1_likedByOthers 4 = .ok (.iload_n 3, 1) := by decide +kernel
theorem dX1_likedByOthers_5 : decode cX1_likedByOthers 5 = .ok (.aload_n 0, 1) := by decide +kernel
theorem dX1_likedByOthers_6 : decode cX1_likedByOthers 6 = .ok (.getfield 9, 3) := by decide +kernel
theorem dX1_likedByOthers_9 : decode cX1_likedByOthers 9 = .ok (.if_icmp .ge 36, 3) := by decide +kernel
theorem dX1_likedByOthers_12 : decode cX1_likedByOthers 12 = .ok (.iload_n 3, 1) := by decide +kernel
theorem dX1_likedByOthers_13 : decode cX1_likedByOthers 13 = .ok (.iload_n 1, 1) := by decide +kernel
theorem dX1_likedByOthers_14 : decode cX1_likedByOthers 14 = .ok (.if_icmp .eq 25, 3) := by decide +kernel
theorem dX1_likedByOthers_17 : decode cX1_likedByOthers 17 = .ok (.aload_n 0, 1) := by decide +kernel
theorem dX1_likedByOthers_18 : decode cX1_likedByOthers 18 = .ok (.iload_n 3, 1) := by decide +kernel
theorem dX1_likedByOthers_19 : decode cX1_likedByOthers 19 = .ok (.invokevirtual 54, 3) := by decide +kernel
theorem dX1_likedByOthers_22 : decode cX1_likedByOthers 22 = .ok (.ifCond .eq 17, 3) := by decide +kernel
theorem dX1_likedByOthers_25 : decode cX1_likedByOthers 25 = .ok (.iload_n 2, 1) := by decide +kernel
theorem dX1_likedByOthers_26 : decode cX1_likedByOthers 26 = .ok (.aload_n 0, 1) := by decide +kernel
theorem dX1_likedByOthers_27 : decode cX1_likedByOthers 27 = .ok (.getfield 31, 3) := by decide +kernel
theorem dX1_likedByOthers_30 : decode cX1_likedByOthers 30 = .ok (.iload_n 3, 1) := by decide +kernel
theorem dX1_likedByOthers_31 : decode cX1_likedByOthers 31 = .ok (.bipush 10, 2) := by decide +kernel
theorem dX1_likedByOthers_33 : decode cX1_likedByOthers 33 = .ok (.imul, 1) := by decide +kernel
theorem dX1_likedByOthers_34 : decode cX1_likedByOthers 34 = .ok (.iload_n 1, 1) := by decide +kernel
theorem dX1_likedByOthers_35 : decode cX1_likedByOthers 35 = .ok (.iadd, 1) := by decide +kernel
theorem dX1_likedByOthers_36 : decode cX1_likedByOthers 36 = .ok (.iaload, 1) := by decide +kernel
theorem dX1_likedByOthers_37 : decode cX1_likedByOthers 37 = .ok (.iadd, 1) := by decide +kernel
theorem dX1_likedByOthers_38 : decode cX1_likedByOthers 38 = .ok (.istore_n 2, 1) := by decide +kernel
theorem dX1_likedByOthers_39 : decode cX1_likedByOthers 39 = .ok (.iinc 3 1, 3) := by decide +kernel
theorem dX1_likedByOthers_42 : decode cX1_likedByOthers 42 = .ok (.goto (-38), 3) := by decide +kernel
theorem dX1_likedByOthers_45 : decode cX1_likedByOthers 45 = .ok (.iload_n 2, 1) := by decide +kernel
theorem dX1_likedByOthers_46 : decode cX1_likedByOthers 46 = .ok (.ireturn, 1) := by decide +kernel
theorem dX1_worthOf_0 : decode cX1_worthOf 0 = .ok (.aload_n 0, 1) := by decide +kernel
theorem dX1_worthOf_1 : decode cX1_worthOf 1 = .ok (.getfield 34, 3) := by decide +kernel
theorem dX1_worthOf_4 : decode cX1_worthOf 4 = .ok (.aload_n 0, 1) := by decide +kernel
theorem dX1_worthOf_5 : decode cX1_worthOf 5 = .ok (.getfield 22, 3) := by decide +kernel
theorem dX1_worthOf_8 : decode cX1_worthOf 8 = .ok (.iload_n 1, 1) := by decide +kernel
theorem dX1_worthOf_9 : decode cX1_worthOf 9 = .ok (.iaload, 1) := by decide +kernel
theorem dX1_worthOf_10 : decode cX1_worthOf 10 = .ok (.iconst 4, 1) := by decide +kernel
theorem dX1_worthOf_11 : decode cX1_worthOf 11 = .ok (.imul, 1) := by decide +kernel
theorem dX1_worthOf_12 : decode cX1_worthOf 12 = .ok (.iload_n 2, 1) := by decide +kernel
theorem dX1_worthOf_13 : decode cX1_worthOf 13 = .ok (.iadd, 1) := by decide +kernel
theorem dX1_worthOf_14 : decode cX1_worthOf 14 = .ok (.iaload, 1) := by decide +kernel
theorem dX1_worthOf_15 : decode cX1_worthOf 15 = .ok (.ireturn, 1) := by decide +kernel
theorem dX1_grow_0 : decode cX1_grow 0 = .ok (.iconst 0, 1) := by decide +kernel
theorem dX1_grow_1 : decode cX1_grow 1 = .ok (.istore_n 1, 1) := by decide +kernel
theorem dX1_grow_2 : decode cX1_grow 2 = .ok (.iload_n 1, 1) := by decide +kernel
theorem dX1_grow_3 : decode cX1_grow 3 = .ok (.aload_n 0, 1) := by decide +kernel
theorem dX1_grow_4 : decode cX1_grow 4 = .ok (.getfield 9, 3) := by decide +kernel
theorem dX1_grow_7 : decode cX1_grow 7 = .ok (.if_icmp .ge 38, 3) := by decide +kernel
theorem dX1_grow_10 : decode cX1_grow 10 = .ok (.aload_n 0, 1) := by decide +kernel
theorem dX1_grow_11 : decode cX1_grow 11 = .ok (.iload_n 1, 1) := by decide +kernel
theorem dX1_grow_12 : decode cX1_grow 12 = .ok (.invokevirtual 54, 3) := by decide +kernel
theorem dX1_grow_15 : decode cX1_grow 15 = .ok (.ifCond .eq 24, 3) := by decide +kernel
theorem dX1_grow_18 : decode cX1_grow 18 = .ok (.aload_n 0, 1) := by decide +kernel
theorem dX1_grow_19 : decode cX1_grow 19 = .ok (.getfield 19, 3) := by decide +kernel
theorem dX1_grow_22 : decode cX1_grow 22 = .ok (.iload_n 1, 1) := by decide +kernel
theorem dX1_grow_23 : decode cX1_grow 23 = .ok (.iaload, 1) := by decide +kernel
theorem dX1_grow_24 : decode cX1_grow 24 = .ok (.bipush 99, 2) := by decide +kernel
theorem dX1_grow_26 : decode cX1_grow 26 = .ok (.if_icmp .ge 13, 3) := by decide +kernel
theorem dX1_grow_29 : decode cX1_grow 29 = .ok (.aload_n 0, 1) := by decide +kernel
theorem dX1_grow_30 : decode cX1_grow 30 = .ok (.getfield 19, 3) := by decide +kernel
theorem dX1_grow_33 : decode cX1_grow 33 = .ok (.iload_n 1, 1) := by decide +kernel
theorem dX1_grow_34 : decode cX1_grow 34 = .ok (.dup2, 1) := by decide +kernel
theorem dX1_grow_35 : decode cX1_grow 35 = .ok (.iaload, 1) := by decide +kernel
theorem dX1_grow_36 : decode cX1_grow 36 = .ok (.iconst 1, 1) := by decide +kernel
theorem dX1_grow_37 : decode cX1_grow 37 = .ok (.iadd, 1) := by decide +kernel
theorem dX1_grow_38 : decode cX1_grow 38 = .ok (.iastore, 1) := by decide +kernel
theorem dX1_grow_39 : decode cX1_grow 39 = .ok (.iinc 1 1, 3) := by decide +kernel
theorem dX1_grow_42 : decode cX1_grow 42 = .ok (.goto (-40), 3) := by decide +kernel
theorem dX1_grow_45 : decode cX1_grow 45 = .ok (.return_, 1) := by decide +kernel
theorem dX1_drawLots_0 : decode cX1_drawLots 0 = .ok (.iconst 0, 1) := by decide +kernel
theorem dX1_drawLots_1 : decode cX1_drawLots 1 = .ok (.istore_n 2, 1) := by decide +kernel
theorem dX1_drawLots_2 : decode cX1_drawLots 2 = .ok (.iload_n 2, 1) := by decide +kernel
theorem dX1_drawLots_3 : decode cX1_drawLots 3 = .ok (.aload_n 0, 1) := by decide +kernel
theorem dX1_drawLots_4 : decode cX1_drawLots 4 = .ok (.getfield 9, 3) := by decide +kernel
theorem dX1_drawLots_7 : decode cX1_drawLots 7 = .ok (.if_icmp .ge 82, 3) := by decide +kernel
theorem dX1_drawLots_10 : decode cX1_drawLots 10 = .ok (.aload_n 0, 1) := by decide +kernel
theorem dX1_drawLots_11 : decode cX1_drawLots 11 = .ok (.iload_n 2, 1) := by decide +kernel
theorem dX1_drawLots_12 : decode cX1_drawLots 12 = .ok (.invokevirtual 54, 3) := by decide +kernel
theorem dX1_drawLots_15 : decode cX1_drawLots 15 = .ok (.ifCond .eq 68, 3) := by decide +kernel
theorem dX1_drawLots_18 : decode cX1_drawLots 18 = .ok (.aload_n 0, 1) := by decide +kernel
theorem dX1_drawLots_19 : decode cX1_drawLots 19 = .ok (.aload_n 0, 1) := by decide +kernel
theorem dX1_drawLots_20 : decode cX1_drawLots 20 = .ok (.getfield 37, 3) := by decide +kernel
theorem dX1_drawLots_23 : decode cX1_drawLots 23 = .ok (.ldc 58, 2) := by decide +kernel
theorem dX1_drawLots_25 : decode cX1_drawLots 25 = .ok (.imul, 1) := by decide +kernel
theorem dX1_drawLots_26 : decode cX1_drawLots 26 = .ok (.sipush 12345, 3) := by decide +kernel
theorem dX1_drawLots_29 : decode cX1_drawLots 29 = .ok (.iadd, 1) := by decide +kernel
theorem dX1_drawLots_30 : decode cX1_drawLots 30 = .ok (.putfield 37, 3) := by decide +kernel
theorem dX1_drawLots_33 : decode cX1_drawLots 33 = .ok (.aload_n 0, 1) := by decide +kernel
theorem dX1_drawLots_34 : decode cX1_drawLots 34 = .ok (.getfield 37, 3) := by decide +kernel
theorem dX1_drawLots_37 : decode cX1_drawLots 37 = .ok (.bipush 8, 2) := by decide +kernel
theorem dX1_drawLots_39 : decode cX1_drawLots 39 = .ok (.iushr, 1) := by decide +kernel
theorem dX1_drawLots_40 : decode cX1_drawLots 40 = .ok (.sipush 1000, 3) := by decide +kernel
theorem dX1_drawLots_43 : decode cX1_drawLots 43 = .ok (.irem, 1) := by decide +kernel
theorem dX1_drawLots_44 : decode cX1_drawLots 44 = .ok (.istore_n 3, 1) := by decide +kernel
theorem dX1_drawLots_45 : decode cX1_drawLots 45 = .ok (.aload_n 0, 1) := by decide +kernel
theorem dX1_drawLots_46 : decode cX1_drawLots 46 = .ok (.getfield 19, 3) := by decide +kernel
theorem dX1_drawLots_49 : decode cX1_drawLots 49 = .ok (.iload_n 2, 1) := by decide +kernel
theorem dX1_drawLots_50 : decode cX1_drawLots 50 = .ok (.iaload, 1) := by decide +kernel
theorem dX1_drawLots_51 : decode cX1_drawLots 51 = .ok (.bipush 40, 2) := by decide +kernel
theorem dX1_drawLots_53 : decode cX1_drawLots 53 = .ok (.if_icmp .le 30, 3) := by decide +kernel
theorem dX1_drawLots_56 : decode cX1_drawLots 56 = .ok (.iload_n 3, 1) := by decide +kernel
theorem dX1_drawLots_57 : decode cX1_drawLots 57 = .ok (.iload_n 1, 1) := by decide +kernel
theorem dX1_drawLots_58 : decode cX1_drawLots 58 = .ok (.aload_n 0, 1) := by decide +kernel
theorem dX1_drawLots_59 : decode cX1_drawLots 59 = .ok (.getfield 19, 3) := by decide +kernel
theorem dX1_drawLots_62 : decode cX1_drawLots 62 = .ok (.iload_n 2, 1) := by decide +kernel
theorem dX1_drawLots_63 : decode cX1_drawLots 63 = .ok (.iaload, 1) := by decide +kernel
theorem dX1_drawLots_64 : decode cX1_drawLots 64 = .ok (.bipush 40, 2) := by decide +kernel
theorem dX1_drawLots_66 : decode cX1_drawLots 66 = .ok (.isub, 1) := by decide +kernel
theorem dX1_drawLots_67 : decode cX1_drawLots 67 = .ok (.imul, 1) := by decide +kernel
theorem dX1_drawLots_68 : decode cX1_drawLots 68 = .ok (.if_icmp .ge 15, 3) := by decide +kernel
theorem dX1_drawLots_71 : decode cX1_drawLots 71 = .ok (.aload_n 0, 1) := by decide +kernel
theorem dX1_drawLots_72 : decode cX1_drawLots 72 = .ok (.dup, 1) := by decide +kernel
theorem dX1_drawLots_73 : decode cX1_drawLots 73 = .ok (.getfield 28, 3) := by decide +kernel
theorem dX1_drawLots_76 : decode cX1_drawLots 76 = .ok (.iconst 1, 1) := by decide +kernel
theorem dX1_drawLots_77 : decode cX1_drawLots 77 = .ok (.iload_n 2, 1) := by decide +kernel
theorem dX1_drawLots_78 : decode cX1_drawLots 78 = .ok (.ishl, 1) := by decide +kernel
theorem dX1_drawLots_79 : decode cX1_drawLots 79 = .ok (.ior, 1) := by decide +kernel
theorem dX1_drawLots_80 : decode cX1_drawLots 80 = .ok (.putfield 28, 3) := by decide +kernel
theorem dX1_drawLots_83 : decode cX1_drawLots 83 = .ok (.iinc 2 1, 3) := by decide +kernel
theorem dX1_drawLots_86 : decode cX1_drawLots 86 = .ok (.goto (-84), 3) := by decide +kernel
theorem dX1_drawLots_89 : decode cX1_drawLots 89 = .ok (.return_, 1) := by decide +kernel
theorem dX2_init_0 : decode cX2_init 0 = .ok (.aload_n 0, 1) := by decide +kernel
theorem dX2_init_1 : decode cX2_init 1 = .ok (.invokespecial 1, 3) := by decide +kernel
theorem dX2_init_4 : decode cX2_init 4 = .ok (.aload_n 0, 1) := by decide +kernel
theorem dX2_init_5 : decode cX2_init 5 = .ok (.new 7, 3) := by decide +kernel
theorem dX2_init_8 : decode cX2_init 8 = .ok (.dup, 1) := by decide +kernel
theorem dX2_init_9 : decode cX2_init 9 = .ok (.invokespecial 9, 3) := by decide +kernel
theorem dX2_init_12 : decode cX2_init 12 = .ok (.putfield 10, 3) := by decide +kernel
theorem dX2_init_15 : decode cX2_init 15 = .ok (.aload_n 0, 1) := by decide +kernel
theorem dX2_init_16 : decode cX2_init 16 = .ok (.new 16, 3) := by decide +kernel
theorem dX2_init_19 : decode cX2_init 19 = .ok (.dup, 1) := by decide +kernel
theorem dX2_init_20 : decode cX2_init 20 = .ok (.invokespecial 18, 3) := by decide +kernel
theorem dX2_init_23 : decode cX2_init 23 = .ok (.putfield 19, 3) := by decide +kernel
theorem dX2_init_26 : decode cX2_init 26 = .ok (.aload_n 0, 1) := by decide +kernel
theorem dX2_init_27 : decode cX2_init 27 = .ok (.new 23, 3) := by decide +kernel
theorem dX2_init_30 : decode cX2_init 30 = .ok (.dup, 1) := by decide +kernel
theorem dX2_init_31 : decode cX2_init 31 = .ok (.aload_n 0, 1) := by decide +kernel
theorem dX2_init_32 : decode cX2_init 32 = .ok (.getfield 10, 3) := by decide +kernel
theorem dX2_init_35 : decode cX2_init 35 = .ok (.aload_n 0, 1) := by decide +kernel
theorem dX2_init_36 : decode cX2_init 36 = .ok (.getfield 19, 3) := by decide +kernel
theorem dX2_init_39 : decode cX2_init 39 = .ok (.aconst_null, 1) := by decide +kernel
theorem dX2_init_40 : decode cX2_init 40 = .ok (.invokespecial 25, 3) := by decide +kernel
theorem dX2_init_43 : decode cX2_init 43 = .ok (.putfield 28, 3) := by decide +kernel
theorem dX2_init_46 : decode cX2_init 46 = .ok (.aload_n 0, 1) := by decide +kernel
theorem dX2_init_47 : decode cX2_init 47 = .ok (.new 23, 3) := by decide +kernel
theorem dX2_init_50 : decode cX2_init 50 = .ok (.dup, 1) := by decide +kernel
theorem dX2_init_51 : decode cX2_init 51 = .ok (.aload_n 0, 1) := by decide +kernel
theorem dX2_init_52 : decode cX2_init 52 = .ok (.getfield 10, 3) := by decide +kernel
theorem dX2_init_55 : decode cX2_init 55 = .ok (.aload_n 0, 1) := by decide +kernel
theorem dX2_init_56 : decode cX2_init 56 = .ok (.getfield 19, 3) := by decide +kernel
theorem dX2_init_59 : decode cX2_init 59 = .ok (.aload_n 0, 1) := by decide +kernel
theorem dX2_init_60 : decode cX2_init 60 = .ok (.getfield 28, 3) := by decide +kernel
theorem dX2_init_63 : decode cX2_init 63 = .ok (.invokespecial 25, 3) := by decide +kernel
theorem dX2_init_66 : decode cX2_init 66 = .ok (.putfield 32, 3) := by decide +kernel
theorem dX2_init_69 : decode cX2_init 69 = .ok (.return_, 1) := by decide +kernel
theorem dX2_takeFrom_0 : decode cX2_takeFrom 0 = .ok (.aload_n 0, 1) := by decide +kernel
theorem dX2_takeFrom_1 : decode cX2_takeFrom 1 = .ok (.getfield 10, 3) := by decide +kernel
theorem dX2_takeFrom_4 : decode cX2_takeFrom 4 = .ok (.aload_n 1, 1) := by decide +kernel
theorem dX2_takeFrom_5 : decode cX2_takeFrom 5 = .ok (.getfield 10, 3) := by decide +kernel
theorem dX2_takeFrom_8 : decode cX2_takeFrom 8 = .ok (.invokevirtual 35, 3) := by decide +kernel
theorem dX2_takeFrom_11 : decode cX2_takeFrom 11 = .ok (.aload_n 0, 1) := by decide +kernel
theorem dX2_takeFrom_12 : decode cX2_takeFrom 12 = .ok (.getfield 19, 3) := by decide +kernel
theorem dX2_takeFrom_15 : decode cX2_takeFrom 15 = .ok (.aload_n 1, 1) := by decide +kernel
theorem dX2_takeFrom_16 : decode cX2_takeFrom 16 = .ok (.getfield 19, 3) := by decide +kernel
theorem dX2_takeFrom_19 : decode cX2_takeFrom 19 = .ok (.invokevirtual 39, 3) := by decide +kernel
theorem dX2_takeFrom_22 : decode cX2_takeFrom 22 = .ok (.aload_n 0, 1) := by decide +kernel
theorem dX2_takeFrom_23 : decode cX2_takeFrom 23 = .ok (.getfield 32, 3) := by decide +kernel
theorem dX2_takeFrom_26 : decode cX2_takeFrom 26 = .ok (.aload_n 1, 1) := by decide +kernel
theorem dX2_takeFrom_27 : decode cX2_takeFrom 27 = .ok (.getfield 32, 3) := by decide +kernel
theorem dX2_takeFrom_30 : decode cX2_takeFrom 30 = .ok (.invokevirtual 42, 3) := by decide +kernel
theorem dX2_takeFrom_33 : decode cX2_takeFrom 33 = .ok (.return_, 1) := by decide +kernel
theorem dX3_init_0 : decode cX3_init 0 = .ok (.aload_n 0, 1) := by decide +kernel
theorem dX3_init_1 : decode cX3_init 1 = .ok (.invokespecial 3, 3) := by decide +kernel
theorem dX3_init_4 : decode cX3_init 4 = .ok (.aload_n 0, 1) := by decide +kernel
theorem dX3_init_5 : decode cX3_init 5 = .ok (.bipush 80, 2) := by decide +kernel
theorem dX3_init_7 : decode cX3_init 7 = .ok (.newarray .int, 2) := by decide +kernel
theorem dX3_init_9 : decode cX3_init 9 = .ok (.putfield 9, 3) := by decide +kernel
theorem dX3_init_12 : decode cX3_init 12 = .ok (.aload_n 0, 1) := by decide +kernel
theorem dX3_init_13 : decode cX3_init 13 = .ok (.bipush 80, 2) := by decide +kernel
theorem dX3_init_15 : decode cX3_init 15 = .ok (.newarray .int, 2) := by decide +kernel
theorem dX3_init_17 : decode cX3_init 17 = .ok (.putfield 15, 3) := by decide +kernel
theorem dX3_init_20 : decode cX3_init 20 = .ok (.aload_n 0, 1) := by decide +kernel
theorem dX3_init_21 : decode cX3_init 21 = .ok (.iconst 0, 1) := by decide +kernel
theorem dX3_init_22 : decode cX3_init 22 = .ok (.putfield 18, 3) := by decide +kernel
theorem dX3_init_25 : decode cX3_init 25 = .ok (.return_, 1) := by decide +kernel
theorem dX3_isThere_0 : decode cX3_isThere 0 = .ok (.aload_n 0, 1) := by decide +kernel
theorem dX3_isThere_1 : decode cX3_isThere 1 = .ok (.getfield 18, 3) := by decide +kernel
theorem dX3_isThere_4 : decode cX3_isThere 4 = .ok (.ifCond .le 7, 3) := by decide +kernel
theorem dX3_isThere_7 : decode cX3_isThere 7 = .ok (.iconst 1, 1) := by decide +kernel
theorem dX3_isThere_8 : decode cX3_isThere 8 = .ok (.goto 4, 3) := by decide +kernel
theorem dX3_isThere_11 : decode cX3_isThere 11 = .ok (.iconst 0, 1) := by decide +kernel
theorem dX3_isThere_12 : decode cX3_isThere 12 = .ok (.ireturn, 1) := by decide +kernel
theorem dX3_takeFrom_0 : decode cX3_takeFrom 0 = .ok (.aload_n 0, 1) := by decide +kernel
theorem dX3_takeFrom_1 : decode cX3_takeFrom 1 = .ok (.aload_n 1, 1) := by decide +kernel
theorem dX3_takeFrom_2 : decode cX3_takeFrom 2 = .ok (.getfield 18, 3) := by decide +kernel
theorem dX3_takeFrom_5 : decode cX3_takeFrom 5 = .ok (.putfield 18, 3) := by decide +kernel
theorem dX3_takeFrom_8 : decode cX3_takeFrom 8 = .ok (.aload_n 1, 1) := by decide +kernel
theorem dX3_takeFrom_9 : decode cX3_takeFrom 9 = .ok (.getfield 9, 3) := by decide +kernel
theorem dX3_takeFrom_12 : decode cX3_takeFrom 12 = .ok (.iconst 0, 1) := by decide +kernel
theorem dX3_takeFrom_13 : decode cX3_takeFrom 13 = .ok (.aload_n 0, 1) := by decide +kernel
theorem dX3_takeFrom_14 : decode cX3_takeFrom 14 = .ok (.getfield 9, 3) := by decide +kernel
theorem dX3_takeFrom_17 : decode cX3_takeFrom 17 = .ok (.iconst 0, 1) := by decide +kernel
theorem dX3_takeFrom_18 : decode cX3_takeFrom 18 = .ok (.bipush 80, 2) := by decide +kernel
theorem dX3_takeFrom_20 : decode cX3_takeFrom 20 = .ok (.invokestatic 22, 3) := by decide +kernel
theorem dX3_takeFrom_23 : decode cX3_takeFrom 23 = .ok (.return_, 1) := by decide +kernel
theorem dX3_putNumber_0 : decode cX3_putNumber 0 = .ok (.aload_n 0, 1) := by decide +kernel
theorem dX3_putNumber_1 : decode cX3_putNumber 1 = .ok (.getfield 18, 3) := by decide +kernel
theorem dX3_putNumber_4 : decode cX3_putNumber 4 = .ok (.bipush 80, 2) := by decide +kernel
theorem dX3_putNumber_6 : decode cX3_putNumber 6 = .ok (.if_icmp .ge 23, 3) := by decide +kernel
theorem dX3_putNumber_9 : decode cX3_putNumber 9 = .ok (.aload_n 0, 1) := by decide +kernel
theorem dX3_putNumber_10 : decode cX3_putNumber 10 = .ok (.getfield 9, 3) := by decide +kernel
theorem dX3_putNumber_13 : decode cX3_putNumber 13 = .ok (.aload_n 0, 1) := by decide +kernel
theorem dX3_putNumber_14 : decode cX3_putNumber 14 = .ok (.getfield 18, 3) := by decide +kernel
theorem dX3_putNumber_17 : decode cX3_putNumber 17 = .ok (.iload_n 1, 1) := by decide +kernel
theorem dX3_putNumber_18 : decode cX3_putNumber 18 = .ok (.iastore, 1) := by decide +kernel
theorem dX3_putNumber_19 : decode cX3_putNumber 19 = .ok (.aload_n 0, 1) := by decide +kernel
theorem dX3_putNumber_20 : decode cX3_putNumber 20 = .ok (.dup, 1) := by decide +kernel
theorem dX3_putNumber_21 : decode cX3_putNumber 21 = .ok (.getfield 18, 3) := by decide +kernel
theorem dX3_putNumber_24 : decode cX3_putNumber 24 = .ok (.iconst 1, 1) := by decide +kernel
theorem dX3_putNumber_25 : decode cX3_putNumber 25 = .ok (.iadd, 1) := by decide +kernel
theorem dX3_putNumber_26 : decode cX3_putNumber 26 = .ok (.putfield 18, 3) := by decide +kernel
theorem dX3_putNumber_29 : decode cX3_putNumber 29 = .ok (.return_, 1) := by decide +kernel
theorem dX3_putSign_0 : decode cX3_putSign 0 = .ok (.aload_n 0, 1) := by decide +kernel
theorem dX3_putSign_1 : decode cX3_putSign 1 = .ok (.iconst (-1), 1) := by decide +kernel
theorem dX3_putSign_2 : decode cX3_putSign 2 = .ok (.iload_n 1, 1) := by decide +kernel
theorem dX3_putSign_3 : decode cX3_putSign 3 = .ok (.isub, 1) := by decide +kernel
theorem dX3_putSign_4 : decode cX3_putSign 4 = .ok (.invokevirtual 28, 3) := by decide +kernel
theorem dX3_putSign_7 : decode cX3_putSign 7 = .ok (.return_, 1) := by decide +kernel
theorem dX3_work_0 : decode cX3_work 0 = .ok (.iconst 0, 1) := by decide +kernel
theorem dX3_work_1 : decode cX3_work 1 = .ok (.istore 4, 2) := by decide +kernel
theorem dX3_work_3 : decode cX3_work 3 = .ok (.iconst 0, 1) := by decide +kernel
theorem dX3_work_4 : decode cX3_work 4 = .ok (.istore 5, 2) := by decide +kernel
theorem dX3_work_6 : decode cX3_work 6 = .ok (.iload 5, 2) := by decide +kernel
theorem dX3_work_8 : decode cX3_work 8 = .ok (.aload_n 0, 1) := by decide +kernel
theorem dX3_work_9 : decode cX3_work 9 = .ok (.getfield 18, 3) := by decide +kernel
theorem dX3_work_12 : decode cX3_work 12 = .ok (.if_icmp .ge 223, 3) := by decide +kernel
theorem dX3_work_15 : decode cX3_work 15 = .ok (.aload_n 0, 1) := by decide +kernel
theorem dX3_work_16 : decode cX3_work 16 = .ok (.getfield 9, 3) := by decide +kernel
theorem dX3_work_19 : decode cX3_work 19 = .ok (.iload 5, 2) := by decide +kernel
theorem dX3_work_21 : decode cX3_work 21 = .ok (.iaload, 1) := by decide +kernel
theorem dX3_work_22 : decode cX3_work 22 = .ok (.ifCond .ge 16, 3) := by decide +kernel
theorem dX3_work_25 : decode cX3_work 25 = .ok (.iconst (-1), 1) := by decide +kernel
theorem dX3_work_26 : decode cX3_work 26 = .ok (.aload_n 0, 1) := by decide +kernel
theorem dX3_work_27 : decode cX3_work 27 = .ok (.getfield 9, 3) := by decide +kernel
theorem dX3_work_30 : decode cX3_work 30 = .ok (.iload 5, 2) := by decide +kernel
theorem dX3_work_32 : decode cX3_work 32 = .ok (.iaload, 1) := by decide +kernel
theorem dX3_work_33 : decode cX3_work 33 = .ok (.isub, 1) := by decide +kernel
theorem dX3_work_34 : decode cX3_work 34 = .ok (.i2c, 1) := by decide +kernel
theorem dX3_work_35 : decode cX3_work 35 = .ok (.goto 5, 3) := by decide +kernel
theorem dX3_work_38 : decode cX3_work 38 = .ok (.bipush 48, 2) := by decide +kernel
theorem dX3_work_40 : decode cX3_work 40 = .ok (.istore 6, 2) := by decide +kernel
theorem dX3_work_42 : decode cX3_work 42 = .ok (.iload 6, 2) := by decide +kernel
theorem dX3_work_44 : decode cX3_work 44 = .ok (.bipush 97, 2) := by decide +kernel
theorem dX3_work_46 : decode cX3_work 46 = .ok (.if_icmp .lt 14, 3) := by decide +kernel
theorem dX3_work_49 : decode cX3_work 49 = .ok (.iload 6, 2) := by decide +kernel
theorem dX3_work_51 : decode cX3_work 51 = .ok (.bipush 122, 2) := by decide +kernel
theorem dX3_work_53 : decode cX3_work 53 = .ok (.if_icmp .gt 7, 3) := by decide +kernel
theorem dX3_work_56 : decode cX3_work 56 = .ok (.iconst 1, 1) := by decide +kernel
theorem dX3_work_57 : decode cX3_work 57 = .ok (.goto 4, 3) := by decide +kernel
theorem dX3_work_60 : decode cX3_work 60 = .ok (.iconst 0, 1) := by decide +kernel
theorem dX3_work_61 : decode cX3_work 61 = .ok (.istore 7, 2) := by decide +kernel
theorem dX3_work_63 : decode cX3_work 63 = .ok (.iload 6, 2) := by decide +kernel
theorem dX3_work_65 : decode cX3_work 65 = .ok (.bipush 48, 2) := by decide +kernel
theorem dX3_work_67 : decode cX3_work 67 = .ok (.if_icmp .eq 8, 3) := by decide +kernel
theorem dX3_work_70 : decode cX3_work 70 = .ok (.iload 7, 2) := by decide +kernel
theorem dX3_work_72 : decode cX3_work 72 = .ok (.ifCond .eq 46, 3) := by decide +kernel
theorem dX3_work_75 : decode cX3_work 75 = .ok (.iload 4, 2) := by decide +kernel
theorem dX3_work_77 : decode cX3_work 77 = .ok (.bipush 80, 2) := by decide +kernel
theorem dX3_work_79 : decode cX3_work 79 = .ok (.if_icmp .ge 150, 3) := by decide +kernel
theorem dX3_work_82 : decode cX3_work 82 = .ok (.aload_n 0, 1) := by decide +kernel
theorem dX3_work_83 : decode cX3_work 83 = .ok (.getfield 15, 3) := by decide +kernel
theorem dX3_work_86 : decode cX3_work 86 = .ok (.iload 4, 2) := by decide +kernel
theorem dX3_work_88 : decode cX3_work 88 = .ok (.iload 7, 2) := by decide +kernel
theorem dX3_work_90 : decode cX3_work 90 = .ok (.ifCond .eq 14, 3) := by decide +kernel
theorem dX3_work_93 : decode cX3_work 93 = .ok (.aload_n 1, 1) := by decide +kernel
theorem dX3_work_94 : decode cX3_work 94 = .ok (.iload 6, 2) := by decide +kernel
theorem dX3_work_96 : decode cX3_work 96 = .ok (.iload_n 2, 1) := by decide +kernel
theorem dX3_work_97 : decode cX3_work 97 = .ok (.iload_n 3, 1) := by decide +kernel
theorem dX3_work_98 : decode cX3_work 98 = .ok (.invokevirtual 32, 3) := by decide +kernel
theorem dX3_work_101 : decode cX3_work 101 = .ok (.goto 10, 3) := by decide +kernel
theorem dX3_work_104 : decode cX3_work 104 = .ok (.aload_n 0, 1) := by decide +kernel
theorem dX3_work_105 : decode cX3_work 105 = .ok (.getfield 9, 3) := by decide +kernel
theorem dX3_work_108 : decode cX3_work 108 = .ok (.iload 5, 2) := by decide +kernel
theorem dX3_work_110 : decode cX3_work 110 = .ok (.iaload, 1) := by decide +kernel
theorem dX3_work_111 : decode cX3_work 111 = .ok (.iastore, 1) := by decide +kernel
theorem dX3_work_112 : decode cX3_work 112 = .ok (.iinc 4 1, 3) := by decide +kernel
theorem dX3_work_115 : decode cX3_work 115 = .ok (.goto 114, 3) := by decide +kernel
theorem dX3_work_118 : decode cX3_work 118 = .ok (.iload 6, 2) := by decide +kernel
theorem dX3_work_120 : decode cX3_work 120 = .ok (.bipush 33, 2) := by decide +kernel
theorem dX3_work_122 : decode cX3_work 122 = .ok (.if_icmp .eq 10, 3) := by decide +kernel
theorem dX3_work_125 : decode cX3_work 125 = .ok (.iload 6, 2) := by decide +kernel
theorem dX3_work_127 : decode cX3_work 127 = .ok (.bipush 126, 2) := by decide +kernel
theorem dX3_work_129 : decode cX3_work 129 = .ok (.if_icmp .ne 61, 3) := by decide +kernel
theorem dX3_work_132 : decode cX3_work 132 = .ok (.iload 4, 2) := by decide +kernel
theorem dX3_work_134 : decode cX3_work 134 = .ok (.iconst 1, 1) := by decide +kernel
theorem dX3_work_135 : decode cX3_work 135 = .ok (.if_icmp .lt 94, 3) := by decide +kernel
theorem dX3_work_138 : decode cX3_work 138 = .ok (.aload_n 0, 1) := by decide +kernel
theorem dX3_work_139 : decode cX3_work 139 = .ok (.getfield 15, 3) := by decide +kernel
theorem dX3_work_142 : decode cX3_work 142 = .ok (.iload 4, 2) := by decide +kernel
theorem dX3_work_144 : decode cX3_work 144 = .ok (.iconst 1, 1) := by decide +kernel
theorem dX3_work_145 : decode cX3_work 145 = .ok (.isub, 1) := by decide +kernel
theorem dX3_work_146 : decode cX3_work 146 = .ok (.iload 6, 2) := by decide +kernel
theorem dX3_work_148 : decode cX3_work 148 = .ok (.bipush 126, 2) := by decide +kernel
theorem dX3_work_150 : decode cX3_work 150 = .ok (.if_icmp .ne 16, 3) := by decide +kernel
theorem dX3_work_153 : decode cX3_work 153 = .ok (.aload_n 0, 1) := by decide +kernel
theorem dX3_work_154 : decode cX3_work 154 = .ok (.getfield 15, 3) := by decide +kernel
theorem dX3_work_157 : decode cX3_work 157 = .ok (.iload 4, 2) := by decide +kernel
theorem dX3_work_159 : decode cX3_work 159 = .ok (.iconst 1, 1) := by decide +kernel
theorem dX3_work_160 : decode cX3_work 160 = .ok (.isub, 1) := by decide +kernel
theorem dX3_work_161 : decode cX3_work 161 = .ok (.iaload, 1) := by decide +kernel
theorem dX3_work_162 : decode cX3_work 162 = .ok (.ineg, 1) := by decide +kernel
theorem dX3_work_163 : decode cX3_work 163 = .ok (.goto 23, 3) := by decide +kernel
theorem dX3_work_166 : decode cX3_work 166 = .ok (.aload_n 0, 1) := by decide +kernel
theorem dX3_work_167 : decode cX3_work 167 = .ok (.getfield 15, 3) := by decide +kernel
theorem dX3_work_170 : decode cX3_work 170 = .ok (.iload 4, 2) := by decide +kernel
theorem dX3_work_172 : decode cX3_work 172 = .ok (.iconst 1, 1) := by decide +kernel
theorem dX3_work_173 : decode cX3_work 173 = .ok (.isub, 1) := by decide +kernel
theorem dX3_work_174 : decode cX3_work 174 = .ok (.iaload, 1) := by decide +kernel
theorem dX3_work_175 : decode cX3_work 175 = .ok (.ifCond .ne 7, 3) := by decide +kernel
theorem dX3_work_178 : decode cX3_work 178 = .ok (.iconst 1, 1) := by decide +kernel
theorem dX3_work_179 : decode cX3_work 179 = .ok (.goto 4, 3) := by decide +kernel
theorem dX3_work_182 : decode cX3_work 182 = .ok (.iconst 0, 1) := by decide +kernel
theorem dX3_work_183 : decode cX3_work 183 = .ok (.invokestatic 38, 3) := by decide +kernel
theorem dX3_work_186 : decode cX3_work 186 = .ok (.iastore, 1) := by decide +kernel
theorem dX3_work_187 : decode cX3_work 187 = .ok (.goto 42, 3) := by decide +kernel
theorem dX3_work_190 : decode cX3_work 190 = .ok (.iload 4, 2) := by decide +kernel
theorem dX3_work_192 : decode cX3_work 192 = .ok (.iconst 2, 1) := by decide +kernel
theorem dX3_work_193 : decode cX3_work 193 = .ok (.if_icmp .lt 36, 3) := by decide +kernel
theorem dX3_work_196 : decode cX3_work 196 = .ok (.iinc 4 (-1), 3) := by decide +kernel
theorem dX3_work_199 : decode cX3_work 199 = .ok (.aload_n 0, 1) := by decide +kernel
theorem dX3_work_200 : decode cX3_work 200 = .ok (.getfield 15, 3) := by decide +kernel
theorem dX3_work_203 : decode cX3_work 203 = .ok (.iload 4, 2) := by decide +kernel
theorem dX3_work_205 : decode cX3_work 205 = .ok (.iconst 1, 1) := by decide +kernel
theorem dX3_work_206 : decode cX3_work 206 = .ok (.isub, 1) := by decide +kernel
theorem dX3_work_207 : decode cX3_work 207 = .ok (.iload 6, 2) := by decide +kernel
theorem dX3_work_209 : decode cX3_work 209 = .ok (.aload_n 0, 1) := by decide +kernel
theorem dX3_work_210 : decode cX3_work 210 = .ok (.getfield 15, 3) := by decide +kernel
theorem dX3_work_213 : decode cX3_work 213 = .ok (.iload 4, 2) := by decide +kernel
theorem dX3_work_215 : decode cX3_work 215 = .ok (.iconst 1, 1) := by decide +kernel
theorem dX3_work_216 : decode cX3_work 216 = .ok (.isub, 1) := by decide +kernel
theorem dX3_work_217 : decode cX3_work 217 = .ok (.iaload, 1) := by decide +kernel
theorem dX3_work_218 : decode cX3_work 218 = .ok (.aload_n 0, 1) := by decide +kernel
theorem dX3_work_219 : decode cX3_work 219 = .ok (.getfield 15, 3) := by decide +kernel
theorem dX3_work_222 : decode cX3_work 222 = .ok (.iload 4, 2) := by decide +kernel
theorem dX3_work_224 : decode cX3_work 224 = .ok (.iaload, 1) := by decide +kernel
theorem dX3_work_225 : decode cX3_work 225 = .ok (.invokestatic 42, 3) := by decide +kernel
theorem dX3_work_228 : decode cX3_work 228 = .ok (.iastore, 1) := by decide +kernel
theorem dX3_work_229 : decode cX3_work 229 = .ok (.iinc 5 1, 3) := by decide +kernel
theorem dX3_work_232 : decode cX3_work 232 = .ok (.goto (-226), 3) := by decide +kernel
theorem dX3_work_235 : decode cX3_work 235 = .ok (.aload_n 0, 1) := by decide +kernel
theorem dX3_work_236 : decode cX3_work 236 = .ok (.getfield 15, 3) := by decide +kernel
theorem dX3_work_239 : decode cX3_work 239 = .ok (.iconst 0, 1) := by decide +kernel
theorem dX3_work_240 : decode cX3_work 240 = .ok (.iaload, 1) := by decide +kernel
theorem dX3_work_241 : decode cX3_work 241 = .ok (.ireturn, 1) := by decide +kernel
theorem dX3_truth_0 : decode cX3_truth 0 = .ok (.iload_n 0, 1) := by decide +kernel
theorem dX3_truth_1 : decode cX3_truth 1 = .ok (.ifCond .eq 7, 3) := by decide +kernel
theorem dX3_truth_4 : decode cX3_truth 4 = .ok (.iconst 1, 1) := by decide +kernel
theorem dX3_truth_5 : decode cX3_truth 5 = .ok (.goto 4, 3) := by decide +kernel
theorem dX3_truth_8 : decode cX3_truth 8 = .ok (.iconst 0, 1) := by decide +kernel
theorem dX3_truth_9 : decode cX3_truth 9 = .ok (.ireturn, 1) := by decide +kernel
theorem dX3_join_0 : decode cX3_join 0 = .ok (.iload_n 0, 1) := by decide +kernel
theorem dX3_join_1 : decode cX3_join 1 = .ok (.lookupswitch 183 #[(38, 100), (42, 167), (43, 159), (45, 163), (47, 171), (60, 117), (61, 131), (62, 145), (124, 83)], 83) := by decide +kernel
theorem dX3_join_84 : decode cX3_join 84 = .ok (.iload_n 1, 1) := by decide +kernel
theorem dX3_join_85 : decode cX3_join 85 = .ok (.ifCond .ne 7, 3) := by decide +kernel
theorem dX3_join_88 : decode cX3_join 88 = .ok (.iload_n 2, 1) := by decide +kernel
theorem dX3_join_89 : decode cX3_join 89 = .ok (.ifCond .eq 7, 3) := by decide +kernel
theorem dX3_join_92 : decode cX3_join 92 = .ok (.iconst 1, 1) := by decide +kernel
theorem dX3_join_93 : decode cX3_join 93 = .ok (.goto 4, 3) := by decide +kernel
theorem dX3_join_96 : decode cX3_join 96 = .ok (.iconst 0, 1) := by decide +kernel
theorem dX3_join_97 : decode cX3_join 97 = .ok (.invokestatic 38, 3) := by decide +kernel
theorem dX3_join_100 : decode cX3_join 100 = .ok (.ireturn, 1) := by decide +kernel
theorem dX3_join_101 : decode cX3_join 101 = .ok (.iload_n 1, 1) := by decide +kernel
theorem dX3_join_102 : decode cX3_join 102 = .ok (.ifCond .eq 11, 3) := by decide +kernel
theorem dX3_join_105 : decode cX3_join 105 = .ok (.iload_n 2, 1) := by decide +kernel
theorem dX3_join_106 : decode cX3_join 106 = .ok (.ifCond .eq 7, 3) := by decide +kernel
theorem dX3_join_109 : decode cX3_join 109 = .ok (.iconst 1, 1) := by decide +kernel
theorem dX3_join_110 : decode cX3_join 110 = .ok (.goto 4, 3) := by decide +kernel
theorem dX3_join_113 : decode cX3_join 113 = .ok (.iconst 0, 1) := by decide +kernel
theorem dX3_join_114 : decode cX3_join 114 = .ok (.invokestatic 38, 3) := by decide +kernel
theorem dX3_join_117 : decode cX3_join 117 = .ok (.ireturn, 1) := by decide +kernel
theorem dX3_join_118 : decode cX3_join 118 = .ok (.iload_n 1, 1) := by decide +kernel
theorem dX3_join_119 : decode cX3_join 119 = .ok (.iload_n 2, 1) := by decide +kernel
theorem dX3_join_120 : decode cX3_join 120 = .ok (.if_icmp .ge 7, 3) := by decide +kernel
theorem dX3_join_123 : decode cX3_join 123 = .ok (.iconst 1, 1) := by decide +kernel
theorem dX3_join_124 : decode cX3_join 124 = .ok (.goto 4, 3) := by decide +kernel
theorem dX3_join_127 : decode cX3_join 127 = .ok (.iconst 0, 1) := by decide +kernel
theorem dX3_join_128 : decode cX3_join 128 = .ok (.invokestatic 38, 3) := by decide +kernel
theorem dX3_join_131 : decode cX3_join 131 = .ok (.ireturn, 1) := by decide +kernel
theorem dX3_join_132 : decode cX3_join 132 = .ok (.iload_n 1, 1) := by decide +kernel
theorem dX3_join_133 : decode cX3_join 133 = .ok (.iload_n 2, 1) := by decide +kernel
theorem dX3_join_134 : decode cX3_join 134 = .ok (.if_icmp .ne 7, 3) := by decide +kernel
theorem dX3_join_137 : decode cX3_join 137 = .ok (.iconst 1, 1) := by decide +kernel
theorem dX3_join_138 : decode cX3_join 138 = .ok (.goto 4, 3) := by decide +kernel
theorem dX3_join_141 : decode cX3_join 141 = .ok (.iconst 0, 1) := by decide +kernel
theorem dX3_join_142 : decode cX3_join 142 = .ok (.invokestatic 38, 3) := by decide +kernel
theorem dX3_join_145 : decode cX3_join 145 = .ok (.ireturn, 1) := by decide +kernel
theorem dX3_join_146 : decode cX3_join 146 = .ok (.iload_n 1, 1) := by decide +kernel
theorem dX3_join_147 : decode cX3_join 147 = .ok (.iload_n 2, 1) := by decide +kernel
theorem dX3_join_148 : decode cX3_join 148 = .ok (.if_icmp .le 7, 3) := by decide +kernel
theorem dX3_join_151 : decode cX3_join 151 = .ok (.iconst 1, 1) := by decide +kernel
theorem dX3_join_152 : decode cX3_join 152 = .ok (.goto 4, 3) := by decide +kernel
theorem dX3_join_155 : decode cX3_join 155 = .ok (.iconst 0, 1) := by decide +kernel
theorem dX3_join_156 : decode cX3_join 156 = .ok (.invokestatic 38, 3) := by decide +kernel
theorem dX3_join_159 : decode cX3_join 159 = .ok (.ireturn, 1) := by decide +kernel
theorem dX3_join_160 : decode cX3_join 160 = .ok (.iload_n 1, 1) := by decide +kernel
theorem dX3_join_161 : decode cX3_join 161 = .ok (.iload_n 2, 1) := by decide +kernel
theorem dX3_join_162 : decode cX3_join 162 = .ok (.iadd, 1) := by decide +kernel
theorem dX3_join_163 : decode cX3_join 163 = .ok (.ireturn, 1) := by decide +kernel
theorem dX3_join_164 : decode cX3_join 164 = .ok (.iload_n 1, 1) := by decide +kernel
theorem dX3_join_165 : decode cX3_join 165 = .ok (.iload_n 2, 1) := by decide +kernel
theorem dX3_join_166 : decode cX3_join 166 = .ok (.isub, 1) := by decide +kernel
theorem dX3_join_167 : decode cX3_join 167 = .ok (.ireturn, 1) := by decide +kernel
theorem dX3_join_168 : decode cX3_join 168 = .ok (.iload_n 1, 1) := by decide +kernel
theorem dX3_join_169 : decode cX3_join 169 = .ok (.iload_n 2, 1) := by decide +kernel
theorem dX3_join_170 : decode cX3_join 170 = .ok (.imul, 1) := by decide +kernel
theorem dX3_join_171 : decode cX3_join 171 = .ok (.ireturn, 1) := by decide +kernel
theorem dX3_join_172 : decode cX3_join 172 = .ok (.iload_n 2, 1) := by decide +kernel
theorem dX3_join_173 : decode cX3_join 173 = .ok (.ifCond .ne 7, 3) := by decide +kernel
theorem dX3_join_176 : decode cX3_join 176 = .ok (.iconst 0, 1) := by decide +kernel
theorem dX3_join_177 : decode cX3_join 177 = .ok (.goto 6, 3) := by decide +kernel
theorem dX3_join_180 : decode cX3_join 180 = .ok (.iload_n 1, 1) := by decide +kernel
theorem dX3_join_181 : decode cX3_join 181 = .ok (.iload_n 2, 1) := by decide +kernel
theorem dX3_join_182 : decode cX3_join 182 = .ok (.idiv, 1) := by decide +kernel
theorem dX3_join_183 : decode cX3_join 183 = .ok (.ireturn, 1) := by decide +kernel
theorem dX3_join_184 : decode cX3_join 184 = .ok (.iload_n 2, 1) := by decide +kernel
theorem dX3_join_185 : decode cX3_join 185 = .ok (.ifCond .ne 7, 3) := by decide +kernel
theorem dX3_join_188 : decode cX3_join 188 = .ok (.iconst 0, 1) := by decide +kernel
theorem dX3_join_189 : decode cX3_join 189 = .ok (.goto 6, 3) := by decide +kernel
theorem dX3_join_192 : decode cX3_join 192 = .ok (.iload_n 1, 1) := by decide +kernel
theorem dX3_join_193 : decode cX3_join 193 = .ok (.iload_n 2, 1) := by decide +kernel
theorem dX3_join_194 : decode cX3_join 194 = .ok (.irem, 1) := by decide +kernel
theorem dX3_join_195 : decode cX3_join 195 = .ok (.ireturn, 1) := by decide +kernel
theorem dX4_init_0 : decode cX4_init 0 = .ok (.aload_n 0, 1) := by decide +kernel
theorem dX4_init_1 : decode cX4_init 1 = .ok (.invokespecial 3, 3) := by decide +kernel
theorem dX4_init_4 : decode cX4_init 4 = .ok (.aload_n 0, 1) := by decide +kernel
theorem dX4_init_5 : decode cX4_init 5 = .ok (.bipush 6, 2) := by decide +kernel
theorem dX4_init_7 : decode cX4_init 7 = .ok (.newarray .int, 2) := by decide +kernel
theorem dX4_init_9 : decode cX4_init 9 = .ok (.dup, 1) := by decide +kernel
theorem dX4_init_10 : decode cX4_init 10 = .ok (.iconst 0, 1) := by decide +kernel
theorem dX4_init_11 : decode cX4_init 11 = .ok (.iconst 2, 1) := by decide +kernel
theorem dX4_init_12 : decode cX4_init 12 = .ok (.iastore, 1) := by decide +kernel
theorem dX4_init_13 : decode cX4_init 13 = .ok (.dup, 1) := by decide +kernel
theorem dX4_init_14 : decode cX4_init 14 = .ok (.iconst 1, 1) := by decide +kernel
theorem dX4_init_15 : decode cX4_init 15 = .ok (.bipush 7, 2) := by decide +kernel
theorem dX4_init_17 : decode cX4_init 17 = .ok (.iastore, 1) := by decide +kernel
theorem dX4_init_18 : decode cX4_init 18 = .ok (.dup, 1) := by decide +kernel
theorem dX4_init_19 : decode cX4_init 19 = .ok (.iconst 2, 1) := by decide +kernel
theorem dX4_init_20 : decode cX4_init 20 = .ok (.iconst 0, 1) := by decide +kernel
theorem dX4_init_21 : decode cX4_init 21 = .ok (.iastore, 1) := by decide +kernel
theorem dX4_init_22 : decode cX4_init 22 = .ok (.dup, 1) := by decide +kernel
theorem dX4_init_23 : decode cX4_init 23 = .ok (.iconst 3, 1) := by decide +kernel
theorem dX4_init_24 : decode cX4_init 24 = .ok (.iconst 0, 1) := by decide +kernel
theorem dX4_init_25 : decode cX4_init 25 = .ok (.iastore, 1) := by decide +kernel
theorem dX4_init_26 : decode cX4_init 26 = .ok (.dup, 1) := by decide +kernel
theorem dX4_init_27 : decode cX4_init 27 = .ok (.iconst 4, 1) := by decide +kernel
theorem dX4_init_28 : decode cX4_init 28 = .ok (.iconst 0, 1) := by decide +kernel
theorem dX4_init_29 : decode cX4_init 29 = .ok (.iastore, 1) := by decide +kernel
theorem dX4_init_30 : decode cX4_init 30 = .ok (.dup, 1) := by decide +kernel
theorem dX4_init_31 : decode cX4_init 31 = .ok (.iconst 5, 1) := by decide +kernel
theorem dX4_init_32 : decode cX4_init 32 = .ok (.iconst 2, 1) := by decide +kernel
theorem dX4_init_33 : decode cX4_init 33 = .ok (.iastore, 1) := by decide +kernel
theorem dX4_init_34 : decode cX4_init 34 = .ok (.putfield 9, 3) := by decide +kernel
theorem dX4_init_37 : decode cX4_init 37 = .ok (.aload_n 0, 1) := by decide +kernel
theorem dX4_init_38 : decode cX4_init 38 = .ok (.iconst 4, 1) := by decide +kernel
theorem dX4_init_39 : decode cX4_init 39 = .ok (.newarray .int, 2) := by decide +kernel
theorem dX4_init_41 : decode cX4_init 41 = .ok (.dup, 1) := by decide +kernel
theorem dX4_init_42 : decode cX4_init 42 = .ok (.iconst 0, 1) := by decide +kernel
theorem dX4_init_43 : decode cX4_init 43 = .ok (.iconst (-1), 1) := by decide +kernel
theorem dX4_init_44 : decode cX4_init 44 = .ok (.iastore, 1) := by decide +kernel
theorem dX4_init_45 : decode cX4_init 45 = .ok (.dup, 1) := by decide +kernel
theorem dX4_init_46 : decode cX4_init 46 = .ok (.iconst 1, 1) := by decide +kernel
theorem dX4_init_47 : decode cX4_init 47 = .ok (.iconst (-1), 1) := by decide +kernel
theorem dX4_init_48 : decode cX4_init 48 = .ok (.iastore, 1) := by decide +kernel
theorem dX4_init_49 : decode cX4_init 49 = .ok (.dup, 1) := by decide +kernel
theorem dX4_init_50 : decode cX4_init 50 = .ok (.iconst 2, 1) := by decide +kernel
theorem dX4_init_51 : decode cX4_init 51 = .ok (.iconst (-1), 1) := by decide +kernel
theorem dX4_init_52 : decode cX4_init 52 = .ok (.iastore, 1) := by decide +kernel
theorem dX4_init_53 : decode cX4_init 53 = .ok (.dup, 1) := by decide +kernel
theorem dX4_init_54 : decode cX4_init 54 = .ok (.iconst 3, 1) := by decide +kernel
theorem dX4_init_55 : decode cX4_init 55 = .ok (.iconst (-1), 1) := by decide +kernel
theorem dX4_init_56 : decode cX4_init 56 = .ok (.iastore, 1) := by decide +kernel
theorem dX4_init_57 : decode cX4_init 57 = .ok (.putfield 15, 3) := by decide +kernel
theorem dX4_init_60 : decode cX4_init 60 = .ok (.aload_n 0, 1) := by decide +kernel
theorem dX4_init_61 : decode cX4_init 61 = .ok (.bipush 10, 2) := by decide +kernel
theorem dX4_init_63 : decode cX4_init 63 = .ok (.newarray .int, 2) := by decide +kernel
theorem dX4_init_65 : decode cX4_init 65 = .ok (.putfield 18, 3) := by decide +kernel
theorem dX4_init_68 : decode cX4_init 68 = .ok (.aload_n 0, 1) := by decide +kernel
theorem dX4_init_69 : decode cX4_init 69 = .ok (.iconst (-1), 1) := by decide +kernel
theorem dX4_init_70 : decode cX4_init 70 = .ok (.putfield 21, 3) := by decide +kernel
theorem dX4_init_73 : decode cX4_init 73 = .ok (.aload_n 0, 1) := by decide +kernel
theorem dX4_init_74 : decode cX4_init 74 = .ok (.iconst 0, 1) := by decide +kernel
theorem dX4_init_75 : decode cX4_init 75 = .ok (.putfield 25, 3) := by decide +kernel
theorem dX4_init_78 : decode cX4_init 78 = .ok (.aload_n 0, 1) := by decide +kernel
theorem dX4_init_79 : decode cX4_init 79 = .ok (.iconst (-1), 1) := by decide +kernel
theorem dX4_init_80 : decode cX4_init 80 = .ok (.putfield 28, 3) := by decide +kernel
theorem dX4_init_83 : decode cX4_init 83 = .ok (.aload_n 0, 1) := by decide +kernel
theorem dX4_init_84 : decode cX4_init 84 = .ok (.iconst (-1), 1) := by decide +kernel
theorem dX4_init_85 : decode cX4_init 85 = .ok (.putfield 31, 3) := by decide +kernel
theorem dX4_init_88 : decode cX4_init 88 = .ok (.aload_n 0, 1) := by decide +kernel
theorem dX4_init_89 : decode cX4_init 89 = .ok (.aload_n 1, 1) := by decide +kernel
theorem dX4_init_90 : decode cX4_init 90 = .ok (.putfield 34, 3) := by decide +kernel
theorem dX4_init_93 : decode cX4_init 93 = .ok (.aload_n 0, 1) := by decide +kernel
theorem dX4_init_94 : decode cX4_init 94 = .ok (.aload_n 2, 1) := by decide +kernel
theorem dX4_init_95 : decode cX4_init 95 = .ok (.putfield 38, 3) := by decide +kernel
theorem dX4_init_98 : decode cX4_init 98 = .ok (.aload_n 0, 1) := by decide +kernel
theorem dX4_init_99 : decode cX4_init 99 = .ok (.aload_n 3, 1) := by decide +kernel
theorem dX4_init_100 : decode cX4_init 100 = .ok (.putfield 42, 3) := by decide +kernel
theorem dX4_init_103 : decode cX4_init 103 = .ok (.return_, 1) := by decide +kernel
theorem dX4_takeFrom_0 : decode cX4_takeFrom 0 = .ok (.aload_n 0, 1) := by decide +kernel
theorem dX4_takeFrom_1 : decode cX4_takeFrom 1 = .ok (.aload_n 1, 1) := by decide +kernel
theorem dX4_takeFrom_2 : decode cX4_takeFrom 2 = .ok (.getfield 21, 3) := by decide +kernel
theorem dX4_takeFrom_5 : decode cX4_takeFrom 5 = .ok (.putfield 21, 3) := by decide +kernel
theorem dX4_takeFrom_8 : decode cX4_takeFrom 8 = .ok (.aload_n 0, 1) := by decide +kernel
theorem dX4_takeFrom_9 : decode cX4_takeFrom 9 = .ok (.aload_n 1, 1) := by decide +kernel
theorem dX4_takeFrom_10 : decode cX4_takeFrom 10 = .ok (.getfield 25, 3) := by decide +kernel
theorem dX4_takeFrom_13 : decode cX4_takeFrom 13 = .ok (.putfield 25, 3) := by decide +kernel
theorem dX4_takeFrom_16 : decode cX4_takeFrom 16 = .ok (.aload_n 1, 1) := by decide +kernel
theorem dX4_takeFrom_17 : decode cX4_takeFrom 17 = .ok (.getfield 9, 3) := by decide +kernel
theorem dX4_takeFrom_20 : decode cX4_takeFrom 20 = .ok (.iconst 0, 1) := by decide +kernel
theorem dX4_takeFrom_21 : decode cX4_takeFrom 21 = .ok (.aload_n 0, 1) := by decide +kernel
theorem dX4_takeFrom_22 : decode cX4_takeFrom 22 = .ok (.getfield 9, 3) := by decide +kernel
theorem dX4_takeFrom_25 : decode cX4_takeFrom 25 = .ok (.iconst 0, 1) := by decide +kernel
theorem dX4_takeFrom_26 : decode cX4_takeFrom 26 = .ok (.bipush 6, 2) := by decide +kernel
theorem dX4_takeFrom_28 : decode cX4_takeFrom 28 = .ok (.invokestatic 46, 3) := by decide +kernel
theorem dX4_takeFrom_31 : decode cX4_takeFrom 31 = .ok (.aload_n 1, 1) := by decide +kernel
theorem dX4_takeFrom_32 : decode cX4_takeFrom 32 = .ok (.getfield 15, 3) := by decide +kernel
theorem dX4_takeFrom_35 : decode cX4_takeFrom 35 = .ok (.iconst 0, 1) := by decide +kernel
theorem dX4_takeFrom_36 : decode cX4_takeFrom 36 = .ok (.aload_n 0, 1) := by decide +kernel
theorem dX4_takeFrom_37 : decode cX4_takeFrom 37 = .ok (.getfield 15, 3) := by decide +kernel
theorem dX4_takeFrom_40 : decode cX4_takeFrom 40 = .ok (.iconst 0, 1) := by decide +kernel
theorem dX4_takeFrom_41 : decode cX4_takeFrom 41 = .ok (.iconst 4, 1) := by decide +kernel
theorem dX4_takeFrom_42 : decode cX4_takeFrom 42 = .ok (.invokestatic 46, 3) := by decide +kernel
theorem dX4_takeFrom_45 : decode cX4_takeFrom 45 = .ok (.aload_n 1, 1) := by decide +kernel
theorem dX4_takeFrom_46 : decode cX4_takeFrom 46 = .ok (.getfield 18, 3) := by decide +kernel
theorem dX4_takeFrom_49 : decode cX4_takeFrom 49 = .ok (.iconst 0, 1) := by decide +kernel
theorem dX4_takeFrom_50 : decode cX4_takeFrom 50 = .ok (.aload_n 0, 1) := by decide +kernel
theorem dX4_takeFrom_51 : decode cX4_takeFrom 51 = .ok (.getfield 18, 3) := by decide +kernel
theorem dX4_takeFrom_54 : decode cX4_takeFrom 54 = .ok (.iconst 0, 1) := by decide +kernel
theorem dX4_takeFrom_55 : decode cX4_takeFrom 55 = .ok (.bipush 10, 2) := by decide +kernel
theorem dX4_takeFrom_57 : decode cX4_takeFrom 57 = .ok (.invokestatic 46, 3) := by decide +kernel
theorem dX4_takeFrom_60 : decode cX4_takeFrom 60 = .ok (.aload_n 0, 1) := by decide +kernel
theorem dX4_takeFrom_61 : decode cX4_takeFrom 61 = .ok (.iconst (-1), 1) := by decide +kernel
theorem dX4_takeFrom_62 : decode cX4_takeFrom 62 = .ok (.iconst (-1), 1) := by decide +kernel
theorem dX4_takeFrom_63 : decode cX4_takeFrom 63 = .ok (.invokevirtual 52, 3) := by decide +kernel
theorem dX4_takeFrom_66 : decode cX4_takeFrom 66 = .ok (.return_, 1) := by decide +kernel
theorem dX4_keepWord_0 : decode cX4_keepWord 0 = .ok (.aload_n 0, 1) := by decide +kernel
theorem dX4_keepWord_1 : decode cX4_keepWord 1 = .ok (.iload_n 1, 1) := by decide +kernel
theorem dX4_keepWord_2 : decode cX4_keepWord 2 = .ok (.putfield 28, 3) := by decide +kernel
theorem dX4_keepWord_5 : decode cX4_keepWord 5 = .ok (.aload_n 0, 1) := by decide +kernel
theorem dX4_keepWord_6 : decode cX4_keepWord 6 = .ok (.iload_n 2, 1) := by decide +kernel
theorem dX4_keepWord_7 : decode cX4_keepWord 7 = .ok (.putfield 31, 3) := by decide +kernel
theorem dX4_keepWord_10 : decode cX4_keepWord 10 = .ok (.return_, 1) := by decide +kernel
theorem dX4_giveRule_0 : decode cX4_giveRule 0 = .ok (.aload_n 0, 1) := by decide +kernel
theorem dX4_giveRule_1 : decode cX4_giveRule 1 = .ok (.getfield 9, 3) := by decide +kernel
theorem dX4_giveRule_4 : decode cX4_giveRule 4 = .ok (.iload_n 1, 1) := by decide +kernel
theorem dX4_giveRule_5 : decode cX4_giveRule 5 = .ok (.iload_n 2, 1) := by decide +kernel
theorem dX4_giveRule_6 : decode cX4_giveRule 6 = .ok (.iastore, 1) := by decide +kernel
theorem dX4_giveRule_7 : decode cX4_giveRule 7 = .ok (.iload_n 1, 1) := by decide +kernel
theorem dX4_giveRule_8 : decode cX4_giveRule 8 = .ok (.ifCond .ne 13, 3) := by decide +kernel
theorem dX4_giveRule_11 : decode cX4_giveRule 11 = .ok (.aload_n 0, 1) := by decide +kernel
theorem dX4_giveRule_12 : decode cX4_giveRule 12 = .ok (.getfield 15, 3) := by decide +kernel
theorem dX4_giveRule_15 : decode cX4_giveRule 15 = .ok (.iload_n 2, 1) := by decide +kernel
theorem dX4_giveRule_16 : decode cX4_giveRule 16 = .ok (.iconst 4, 1) := by decide +kernel
theorem dX4_giveRule_17 : decode cX4_giveRule 17 = .ok (.iconst (-1), 1) := by decide +kernel
theorem dX4_giveRule_18 : decode cX4_giveRule 18 = .ok (.invokestatic 56, 3) := by decide +kernel
theorem dX4_giveRule_21 : decode cX4_giveRule 21 = .ok (.return_, 1) := by decide +kernel
theorem dX4_placeOf_0 : decode cX4_placeOf 0 = .ok (.iconst 0, 1) := by decide +kernel
theorem dX4_placeOf_1 : decode cX4_placeOf 1 = .ok (.istore_n 2, 1) := by decide +kernel
theorem dX4_placeOf_2 : decode cX4_placeOf 2 = .ok (.iload_n 2, 1) := by decide +kernel
theorem dX4_placeOf_3 : decode cX4_placeOf 3 = .ok (.aload_n 0, 1) := by decide +kernel
theorem dX4_placeOf_4 : decode cX4_placeOf 4 = .ok (.getfield 9, 3) := by decide +kernel
theorem dX4_placeOf_7 : decode cX4_placeOf 7 = .ok (.iconst 0, 1) := by decide +kernel
theorem dX4_placeOf_8 : decode cX4_placeOf 8 = .ok (.iaload, 1) := by decide +kernel
theorem dX4_placeOf_9 : decode cX4_placeOf 9 = .ok (.if_icmp .ge 21, 3) := by decide +kernel
theorem dX4_placeOf_12 : decode cX4_placeOf 12 = .ok (.aload_n 0, 1) := by decide +kernel
theorem dX4_placeOf_13 : decode cX4_placeOf 13 = .ok (.getfield 15, 3) := by decide +kernel
theorem dX4_placeOf_16 : decode cX4_placeOf 16 = .ok (.iload_n 2, 1) := by decide +kernel
theorem dX4_placeOf_17 : decode cX4_placeOf 17 = .ok (.iaload, 1) := by decide +kernel
theorem dX4_placeOf_18 : decode cX4_placeOf 18 = .ok (.iload_n 1, 1) := by decide +kernel
theorem dX4_placeOf_19 : decode cX4_placeOf 19 = .ok (.if_icmp .ne 5, 3) := by decide +kernel
theorem dX4_placeOf_22 : decode cX4_placeOf 22 = .ok (.iload_n 2, 1) := by decide +kernel
theorem dX4_placeOf_23 : decode cX4_placeOf 23 = .ok (.ireturn, 1) := by decide +kernel
theorem dX4_placeOf_24 : decode cX4_placeOf 24 = .ok (.iinc 2 1, 3) := by decide +kernel
theorem dX4_placeOf_27 : decode cX4_placeOf 27 = .ok (.goto (-25), 3) := by decide +kernel
theorem dX4_placeOf_30 : decode cX4_placeOf 30 = .ok (.iconst (-1), 1) := by decide +kernel
theorem dX4_placeOf_31 : decode cX4_placeOf 31 = .ok (.ireturn, 1) := by decide +kernel
theorem dX4_named_0 : decode cX4_named 0 = .ok (.iconst 0, 1) := by decide +kernel
theorem dX4_named_1 : decode cX4_named 1 = .ok (.istore_n 1, 1) := by decide +kernel
theorem dX4_named_2 : decode cX4_named 2 = .ok (.iconst 0, 1) := by decide +kernel
theorem dX4_named_3 : decode cX4_named 3 = .ok (.istore_n 2, 1) := by decide +kernel
theorem dX4_named_4 : decode cX4_named 4 = .ok (.iload_n 2, 1) := by decide +kernel
theorem dX4_named_5 : decode cX4_named 5 = .ok (.aload_n 0, 1) := by decide +kernel
theorem dX4_named_6 : decode cX4_named 6 = .ok (.getfield 9, 3) := by decide +kernel
theorem dX4_named_9 : decode cX4_named 9 = .ok (.iconst 0, 1) := by decide +kernel
theorem dX4_named_10 : decode cX4_named 10 = .ok (.iaload, 1) := by decide +kernel
theorem dX4_named_11 : decode cX4_named 11 = .ok (.if_icmp .ge 30, 3) := by decide +kernel
theorem dX4_named_14 : decode cX4_named 14 = .ok (.aload_n 0, 1) := by decide +kernel
theorem dX4_named_15 : decode cX4_named 15 = .ok (.getfield 15, 3) := by decide +kernel
theorem dX4_named_18 : decode cX4_named 18 = .ok (.iload_n 2, 1) := by decide +kernel
theorem dX4_named_19 : decode cX4_named 19 = .ok (.iaload, 1) := by decide +kernel
theorem dX4_named_20 : decode cX4_named 20 = .ok (.iconst (-1), 1) := by decide +kernel
theorem dX4_named_21 : decode cX4_named 21 = .ok (.if_icmp .eq 14, 3) := by decide +kernel
theorem dX4_named_24 : decode cX4_named 24 = .ok (.iload_n 1, 1) := by decide +kernel
theorem dX4_named_25 : decode cX4_named 25 = .ok (.iconst 1, 1) := by decide +kernel
theorem dX4_named_26 : decode cX4_named 26 = .ok (.aload_n 0, 1) := by decide +kernel
theorem dX4_named_27 : decode cX4_named 27 = .ok (.getfield 15, 3) := by decide +kernel
theorem dX4_named_30 : decode cX4_named 30 = .ok (.iload_n 2, 1) := by decide +kernel
theorem dX4_named_31 : decode cX4_named 31 = .ok (.iaload, 1) := by decide +kernel
theorem dX4_named_32 : decode cX4_named 32 = .ok (.ishl, 1) := by decide +kernel
theorem dX4_named_33 : decode cX4_named 33 = .ok (.ior, 1) := by decide +kernel
theorem dX4_named_34 : decode cX4_named 34 = .ok (.istore_n 1, 1) := by decide +kernel
theorem dX4_named_35 : decode cX4_named 35 = .ok (.iinc 2 1, 3) := by decide +kernel
theorem dX4_named_38 : decode cX4_named 38 = .ok (.goto (-34), 3) := by decide +kernel
theorem dX4_named_41 : decode cX4_named 41 = .ok (.iload_n 1, 1) := by decide +kernel
theorem dX4_named_42 : decode cX4_named 42 = .ok (.ireturn, 1) := by decide +kernel
theorem dX4_firstNamed_0 : decode cX4_firstNamed 0 = .ok (.iconst 0, 1) := by decide +kernel
theorem dX4_firstNamed_1 : decode cX4_firstNamed 1 = .ok (.istore_n 1, 1) := by decide +kernel
theorem dX4_firstNamed_2 : decode cX4_firstNamed 2 = .ok (.iload_n 1, 1) := by decide +kernel
theorem dX4_firstNamed_3 : decode cX4_firstNamed 3 = .ok (.aload_n 0, 1) := by decide +kernel
theorem dX4_firstNamed_4 : decode cX4_firstNamed 4 = .ok (.getfield 9, 3) := by decide +kernel
theorem dX4_firstNamed_7 : decode cX4_firstNamed 7 = .ok (.iconst 0, 1) := by decide +kernel
theorem dX4_firstNamed_8 : decode cX4_firstNamed 8 = .ok (.iaload, 1) := by decide +kernel
theorem dX4_firstNamed_9 : decode cX4_firstNamed 9 = .ok (.if_icmp .ge 26, 3) := by decide +kernel
theorem dX4_firstNamed_12 : decode cX4_firstNamed 12 = .ok (.aload_n 0, 1) := by decide +kernel
theorem dX4_firstNamed_13 : decode cX4_firstNamed 13 = .ok (.getfield 15, 3) := by decide +kernel
theorem dX4_firstNamed_16 : decode cX4_firstNamed 16 = .ok (.iload_n 1, 1) := by decide +kernel
theorem dX4_firstNamed_17 : decode cX4_firstNamed 17 = .ok (.iaload, 1) := by decide +kernel
theorem dX4_firstNamed_18 : decode cX4_firstNamed 18 = .ok (.iconst (-1), 1) := by decide +kernel
theorem dX4_firstNamed_19 : decode cX4_firstNamed 19 = .ok (.if_icmp .eq 10, 3) := by decide +kernel
theorem dX4_firstNamed_22 : decode cX4_firstNamed 22 = .ok (.aload_n 0, 1) := by decide +kernel
theorem dX4_firstNamed_23 : decode cX4_firstNamed 23 = .ok (.getfield 15, 3) := by decide +kernel
theorem dX4_firstNamed_26 : decode cX4_firstNamed 26 = .ok (.iload_n 1, 1) := by decide +kernel
theorem dX4_firstNamed_27 : decode cX4_firstNamed 27 = .ok (.iaload, 1) := by decide +kernel
theorem dX4_firstNamed_28 : decode cX4_firstNamed 28 = .ok (.ireturn, 1) := by decide +kernel
theorem dX4_firstNamed_29 : decode cX4_firstNamed 29 = .ok (.iinc 1 1, 3) := by decide +kernel
theorem dX4_firstNamed_32 : decode cX4_firstNamed 32 = .ok (.goto (-30), 3) := by decide +kernel
theorem dX4_firstNamed_35 : decode cX4_firstNamed 35 = .ok (.iconst (-1), 1) := by decide +kernel
theorem dX4_firstNamed_36 : decode cX4_firstNamed 36 = .ok (.ireturn, 1) := by decide +kernel
theorem dX4_ruledByAll_0 : decode cX4_ruledByAll 0 = .ok (.iconst 0, 1) := by decide +kernel
theorem dX4_ruledByAll_1 : decode cX4_ruledByAll 1 = .ok (.istore_n 1, 1) := by decide +kernel
theorem dX4_ruledByAll_2 : decode cX4_ruledByAll 2 = .ok (.iconst 0, 1) := by decide +kernel
theorem dX4_ruledByAll_3 : decode cX4_ruledByAll 3 = .ok (.istore_n 2, 1) := by decide +kernel
theorem dX4_ruledByAll_4 : decode cX4_ruledByAll 4 = .ok (.iload_n 2, 1) := by decide +kernel
theorem dX4_ruledByAll_5 : decode cX4_ruledByAll 5 = .ok (.aload_n 0, 1) := by decide +kernel
theorem dX4_ruledByAll_6 : decode cX4_ruledByAll 6 = .ok (.getfield 34, 3) := by decide +kernel
theorem dX4_ruledByAll_9 : decode cX4_ruledByAll 9 = .ok (.getfield 62, 3) := by decide +kernel
theorem dX4_ruledByAll_12 : decode cX4_ruledByAll 12 = .ok (.if_icmp .ge 18, 3) := by decide +kernel
theorem dX4_ruledByAll_15 : decode cX4_ruledByAll 15 = .ok (.iload_n 1, 1) := by decide +kernel
theorem dX4_ruledByAll_16 : decode cX4_ruledByAll 16 = .ok (.aload_n 0, 1) := by decide +kernel
theorem dX4_ruledByAll_17 : decode cX4_ruledByAll 17 = .ok (.getfield 18, 3) := by decide +kernel
theorem dX4_ruledByAll_20 : decode cX4_ruledByAll 20 = .ok (.iload_n 2, 1) := by decide +kernel
theorem dX4_ruledByAll_21 : decode cX4_ruledByAll 21 = .ok (.iaload, 1) := by decide +kernel
theorem dX4_ruledByAll_22 : decode cX4_ruledByAll 22 = .ok (.iadd, 1) := by decide +kernel
theorem dX4_ruledByAll_23 : decode cX4_ruledByAll 23 = .ok (.istore_n 1, 1) := by decide +kernel
theorem dX4_ruledByAll_24 : decode cX4_ruledByAll 24 = .ok (.iinc 2 1, 3) := by decide +kernel
theorem dX4_ruledByAll_27 : decode cX4_ruledByAll 27 = .ok (.goto (-23), 3) := by decide +kernel
theorem dX4_ruledByAll_30 : decode cX4_ruledByAll 30 = .ok (.iload_n 1, 1) := by decide +kernel
theorem dX4_ruledByAll_31 : decode cX4_ruledByAll 31 = .ok (.ireturn, 1) := by decide +kernel
theorem dX4_code_0 : decode cX4_code 0 = .ok (.aload_n 0, 1) := by decide +kernel
theorem dX4_code_1 : decode cX4_code 1 = .ok (.getfield 21, 3) := by decide +kernel
theorem dX4_code_4 : decode cX4_code 4 = .ok (.iconst 1, 1) := by decide +kernel
theorem dX4_code_5 : decode cX4_code 5 = .ok (.iadd, 1) := by decide +kernel
theorem dX4_code_6 : decode cX4_code 6 = .ok (.istore_n 1, 1) := by decide +kernel
theorem dX4_code_7 : decode cX4_code 7 = .ok (.iconst 0, 1) := by decide +kernel
theorem dX4_code_8 : decode cX4_code 8 = .ok (.istore_n 2, 1) := by decide +kernel
theorem dX4_code_9 : decode cX4_code 9 = .ok (.iload_n 2, 1) := by decide +kernel
theorem dX4_code_10 : decode cX4_code 10 = .ok (.iconst 4, 1) := by decide +kernel
theorem dX4_code_11 : decode cX4_code 11 = .ok (.if_icmp .ge 23, 3) := by decide +kernel
theorem dX4_code_14 : decode cX4_code 14 = .ok (.iload_n 1, 1) := by decide +kernel
theorem dX4_code_15 : decode cX4_code 15 = .ok (.bipush 11, 2) := by decide +kernel
theorem dX4_code_17 : decode cX4_code 17 = .ok (.imul, 1) := by decide +kernel
theorem dX4_code_18 : decode cX4_code 18 = .ok (.aload_n 0, 1) := by decide +kernel
theorem dX4_code_19 : decode cX4_code 19 = .ok (.getfield 15, 3) := by decide +kernel
theorem dX4_code_22 : decode cX4_code 22 = .ok (.iload_n 2, 1) := by decide +kernel
theorem dX4_code_23 : decode cX4_code 23 = .ok (.iaload, 1) := by decide +kernel
theorem dX4_code_24 : decode cX4_code 24 = .ok (.iadd, 1) := by decide +kernel
theorem dX4_code_25 : decode cX4_code 25 = .ok (.iconst 1, 1) := by decide +kernel
theorem dX4_code_26 : decode cX4_code 26 = .ok (.iadd, 1) := by decide +kernel
theorem dX4_code_27 : decode cX4_code 27 = .ok (.istore_n 1, 1) := by decide +kernel
theorem dX4_code_28 : decode cX4_code 28 = .ok (.iinc 2 1, 3) := by decide +kernel
theorem dX4_code_31 : decode cX4_code 31 = .ok (.goto (-22), 3) := by decide +kernel
theorem dX4_code_34 : decode cX4_code 34 = .ok (.iload_n 1, 1) := by decide +kernel
theorem dX4_code_35 : decode cX4_code 35 = .ok (.ireturn, 1) := by decide +kernel
theorem dX4_allowed_0 : decode cX4_allowed 0 = .ok (.aload_n 0, 1) := by decide +kernel
theorem dX4_allowed_1 : decode cX4_allowed 1 = .ok (.getfield 34, 3) := by decide +kernel
theorem dX4_allowed_4 : decode cX4_allowed 4 = .ok (.invokevirtual 67, 3) := by decide +kernel
theorem dX4_allowed_7 : decode cX4_allowed 7 = .ok (.aload_n 0, 1) := by decide +kernel
theorem dX4_allowed_8 : decode cX4_allowed 8 = .ok (.invokevirtual 71, 3) := by decide +kernel
theorem dX4_allowed_11 : decode cX4_allowed 11 = .ok (.iconst (-1), 1) := by decide +kernel
theorem dX4_allowed_12 : decode cX4_allowed 12 = .ok (.ixor, 1) := by decide +kernel
theorem dX4_allowed_13 : decode cX4_allowed 13 = .ok (.iand, 1) := by decide +kernel
theorem dX4_allowed_14 : decode cX4_allowed 14 = .ok (.iconst 1, 1) := by decide +kernel
theorem dX4_allowed_15 : decode cX4_allowed 15 = .ok (.iload_n 1, 1) := by decide +kernel
theorem dX4_allowed_16 : decode cX4_allowed 16 = .ok (.ishl, 1) := by decide +kernel
theorem dX4_allowed_17 : decode cX4_allowed 17 = .ok (.iconst (-1), 1) := by decide +kernel
theorem dX4_allowed_18 : decode cX4_allowed 18 = .ok (.ixor, 1) := by decide +kernel
theorem dX4_allowed_19 : decode cX4_allowed 19 = .ok (.iand, 1) := by decide +kernel
theorem dX4_allowed_20 : decode cX4_allowed 20 = .ok (.istore_n 2, 1) := by decide +kernel
theorem dX4_allowed_21 : decode cX4_allowed 21 = .ok (.aload_n 0, 1) := by decide +kernel
theorem dX4_allowed_22 : decode cX4_allowed 22 = .ok (.getfield 9, 3) := by decide +kernel
theorem dX4_allowed_25 : decode cX4_allowed 25 = .ok (.iconst 3, 1) := by decide +kernel
theorem dX4_allowed_26 : decode cX4_allowed 26 = .ok (.iaload, 1) := by decide +kernel
theorem dX4_allowed_27 : decode cX4_allowed 27 = .ok (.ifCond .ne 17, 3) := by decide +kernel
theorem dX4_allowed_30 : decode cX4_allowed 30 = .ok (.iload_n 2, 1) := by decide +kernel
theorem dX4_allowed_31 : decode cX4_allowed 31 = .ok (.aload_n 0, 1) := by decide +kernel
theorem dX4_allowed_32 : decode cX4_allowed 32 = .ok (.getfield 34, 3) := by decide +kernel
theorem dX4_allowed_35 : decode cX4_allowed 35 = .ok (.getfield 74, 3) := by decide +kernel
theorem dX4_allowed_38 : decode cX4_allowed 38 = .ok (.iload_n 1, 1) := by decide +kernel
theorem dX4_allowed_39 : decode cX4_allowed 39 = .ok (.iaload, 1) := by decide +kernel
theorem dX4_allowed_40 : decode cX4_allowed 40 = .ok (.iconst (-1), 1) := by decide +kernel
theorem dX4_allowed_41 : decode cX4_allowed 41 = .ok (.ixor, 1) := by decide +kernel
theorem dX4_allowed_42 : decode cX4_allowed 42 = .ok (.iand, 1) := by decide +kernel
theorem dX4_allowed_43 : decode cX4_allowed 43 = .ok (.istore_n 2, 1) := by decide +kernel
theorem dX4_allowed_44 : decode cX4_allowed 44 = .ok (.aload_n 0, 1) := by decide +kernel
theorem dX4_allowed_45 : decode cX4_allowed 45 = .ok (.getfield 21, 3) := by decide +kernel
theorem dX4_allowed_48 : decode cX4_allowed 48 = .ok (.iconst (-1), 1) := by decide +kernel
theorem dX4_allowed_49 : decode cX4_allowed 49 = .ok (.if_icmp .eq 14, 3) := by decide +kernel
theorem dX4_allowed_52 : decode cX4_allowed 52 = .ok (.iload_n 2, 1) := by decide +kernel
theorem dX4_allowed_53 : decode cX4_allowed 53 = .ok (.iconst 1, 1) := by decide +kernel
theorem dX4_allowed_54 : decode cX4_allowed 54 = .ok (.aload_n 0, 1) := by decide +kernel
theorem dX4_allowed_55 : decode cX4_allowed 55 = .ok (.getfield 21, 3) := by decide +kernel
theorem dX4_allowed_58 : decode cX4_allowed 58 = .ok (.ishl, 1) := by decide +kernel
theorem dX4_allowed_59 : decode cX4_allowed 59 = .ok (.iconst (-1), 1) := by decide +kernel
theorem dX4_allowed_60 : decode cX4_allowed 60 = .ok (.ixor, 1) := by decide +kernel
theorem dX4_allowed_61 : decode cX4_allowed 61 = .ok (.iand, 1) := by decide +kernel
theorem dX4_allowed_62 : decode cX4_allowed 62 = .ok (.istore_n 2, 1) := by decide +kernel
theorem dX4_allowed_63 : decode cX4_allowed 63 = .ok (.aload_n 0, 1) := by decide +kernel
theorem dX4_allowed_64 : decode cX4_allowed 64 = .ok (.getfield 21, 3) := by decide +kernel
theorem dX4_allowed_67 : decode cX4_allowed 67 = .ok (.iload_n 1, 1) := by decide +kernel
theorem dX4_allowed_68 : decode cX4_allowed 68 = .ok (.if_icmp .ne 27, 3) := by decide +kernel
theorem dX4_allowed_71 : decode cX4_allowed 71 = .ok (.aload_n 0, 1) := by decide +kernel
theorem dX4_allowed_72 : decode cX4_allowed 72 = .ok (.getfield 9, 3) := by decide +kernel
theorem dX4_allowed_75 : decode cX4_allowed 75 = .ok (.iconst 2, 1) := by decide +kernel
theorem dX4_allowed_76 : decode cX4_allowed 76 = .ok (.iaload, 1) := by decide +kernel
theorem dX4_allowed_77 : decode cX4_allowed 77 = .ok (.iconst 1, 1) := by decide +kernel
theorem dX4_allowed_78 : decode cX4_allowed 78 = .ok (.if_icmp .ne 17, 3) := by decide +kernel
theorem dX4_allowed_81 : decode cX4_allowed 81 = .ok (.aload_n 0, 1) := by decide +kernel
theorem dX4_allowed_82 : decode cX4_allowed 82 = .ok (.iload_n 1, 1) := by decide +kernel
theorem dX4_allowed_83 : decode cX4_allowed 83 = .ok (.invokevirtual 77, 3) := by decide +kernel
theorem dX4_allowed_86 : decode cX4_allowed 86 = .ok (.ifCond .ge 9, 3) := by decide +kernel
theorem dX4_allowed_89 : decode cX4_allowed 89 = .ok (.iload_n 2, 1) := by decide +kernel
theorem dX4_allowed_90 : decode cX4_allowed 90 = .ok (.iconst 1, 1) := by decide +kernel
theorem dX4_allowed_91 : decode cX4_allowed 91 = .ok (.iload_n 1, 1) := by decide +kernel
theorem dX4_allowed_92 : decode cX4_allowed 92 = .ok (.ishl, 1) := by decide +kernel
theorem dX4_allowed_93 : decode cX4_allowed 93 = .ok (.ior, 1) := by decide +kernel
theorem dX4_allowed_94 : decode cX4_allowed 94 = .ok (.istore_n 2, 1) := by decide +kernel
theorem dX4_allowed_95 : decode cX4_allowed 95 = .ok (.iload_n 2, 1) := by decide +kernel
theorem dX4_allowed_96 : decode cX4_allowed 96 = .ok (.ireturn, 1) := by decide +kernel
theorem dX4_choice_0 : decode cX4_choice 0 = .ok (.aload_n 0, 1) := by decide +kernel
theorem dX4_choice_1 : decode cX4_choice 1 = .ok (.iload_n 1, 1) := by decide +kernel
theorem dX4_choice_2 : decode cX4_choice 2 = .ok (.invokevirtual 81, 3) := by decide +kernel
theorem dX4_choice_5 : decode cX4_choice 5 = .ok (.istore_n 3, 1) := by decide +kernel
theorem dX4_choice_6 : decode cX4_choice 6 = .ok (.iload_n 1, 1) := by decide +kernel
theorem dX4_choice_7 : decode cX4_choice 7 = .ok (.aload_n 0, 1) := by decide +kernel
theorem dX4_choice_8 : decode cX4_choice 8 = .ok (.getfield 28, 3) := by decide +kernel
theorem dX4_choice_11 : decode cX4_choice 11 = .ok (.if_icmp .ne 10, 3) := by decide +kernel
theorem dX4_choice_14 : decode cX4_choice 14 = .ok (.aload_n 0, 1) := by decide +kernel
theorem dX4_choice_15 : decode cX4_choice 15 = .ok (.getfield 31, 3) := by decide +kernel
theorem dX4_choice_18 : decode cX4_choice 18 = .ok (.goto 19, 3) := by decide +kernel
theorem dX4_choice_21 : decode cX4_choice 21 = .ok (.iload_n 1, 1) := by decide +kernel
theorem dX4_choice_22 : decode cX4_choice 22 = .ok (.aload_n 0, 1) := by decide +kernel
theorem dX4_choice_23 : decode cX4_choice 23 = .ok (.getfield 31, 3) := by decide +kernel
theorem dX4_choice_26 : decode cX4_choice 26 = .ok (.if_icmp .ne 10, 3) := by decide +kernel
theorem dX4_choice_29 : decode cX4_choice 29 = .ok (.aload_n 0, 1) := by decide +kernel
theorem dX4_choice_30 : decode cX4_choice 30 = .ok (.getfield 28, 3) := by decide +kernel
theorem dX4_choice_33 : decode cX4_choice 33 = .ok (.goto 4, 3) := by decide +kernel
theorem dX4_choice_36 : decode cX4_choice 36 = .ok (.iconst (-1), 1) := by decide +kernel
theorem dX4_choice_37 : decode cX4_choice 37 = .ok (.istore 4, 2) := by decide +kernel
theorem dX4_choice_39 : decode cX4_choice 39 = .ok (.iload_n 3, 1) := by decide +kernel
theorem dX4_choice_40 : decode cX4_choice 40 = .ok (.iload 4, 2) := by decide +kernel
theorem dX4_choice_42 : decode cX4_choice 42 = .ok (.invokestatic 84, 3) := by decide +kernel
theorem dX4_choice_45 : decode cX4_choice 45 = .ok (.ifCond .eq 6, 3) := by decide +kernel
theorem dX4_choice_48 : decode cX4_choice 48 = .ok (.iload 4, 2) := by decide +kernel
theorem dX4_choice_50 : decode cX4_choice 50 = .ok (.ireturn, 1) := by decide +kernel
theorem dX4_choice_51 : decode cX4_choice 51 = .ok (.aload_n 0, 1) := by decide +kernel
theorem dX4_choice_52 : decode cX4_choice 52 = .ok (.iload_n 1, 1) := by decide +kernel
theorem dX4_choice_53 : decode cX4_choice 53 = .ok (.iload_n 2, 1) := by decide +kernel
theorem dX4_choice_54 : decode cX4_choice 54 = .ok (.invokevirtual 88, 3) := by decide +kernel
theorem dX4_choice_57 : decode cX4_choice 57 = .ok (.istore 5, 2) := by decide +kernel
theorem dX4_choice_59 : decode cX4_choice 59 = .ok (.iload 5, 2) := by decide +kernel
theorem dX4_choice_61 : decode cX4_choice 61 = .ok (.iconst 4, 1) := by decide +kernel
theorem dX4_choice_62 : decode cX4_choice 62 = .ok (.if_icmp .ne 35, 3) := by decide +kernel
theorem dX4_choice_65 : decode cX4_choice 65 = .ok (.iload_n 3, 1) := by decide +kernel
theorem dX4_choice_66 : decode cX4_choice 66 = .ok (.aload_n 0, 1) := by decide +kernel
theorem dX4_choice_67 : decode cX4_choice 67 = .ok (.getfield 34, 3) := by decide +kernel
theorem dX4_choice_70 : decode cX4_choice 70 = .ok (.aload_n 0, 1) := by decide +kernel
theorem dX4_choice_71 : decode cX4_choice 71 = .ok (.getfield 34, 3) := by decide +kernel
theorem dX4_choice_74 : decode cX4_choice 74 = .ok (.getfield 92, 3) := by decide +kernel
theorem dX4_choice_77 : decode cX4_choice 77 = .ok (.iload_n 1, 1) := by decide +kernel
theorem dX4_choice_78 : decode cX4_choice 78 = .ok (.iaload, 1) := by decide +kernel
theorem dX4_choice_79 : decode cX4_choice 79 = .ok (.invokevirtual 95, 3) := by decide +kernel
theorem dX4_choice_82 : decode cX4_choice 82 = .ok (.iand, 1) := by decide +kernel
theorem dX4_choice_83 : decode cX4_choice 83 = .ok (.istore 6, 2) := by decide +kernel
theorem dX4_choice_85 : decode cX4_choice 85 = .ok (.iload 6, 2) := by decide +kernel
theorem dX4_choice_87 : decode cX4_choice 87 = .ok (.ifCond .eq 8, 3) := by decide +kernel
theorem dX4_choice_90 : decode cX4_choice 90 = .ok (.iload 6, 2) := by decide +kernel
theorem dX4_choice_92 : decode cX4_choice 92 = .ok (.goto 4, 3) := by decide +kernel
theorem dX4_choice_95 : decode cX4_choice 95 = .ok (.iload_n 3, 1) := by decide +kernel
theorem dX4_choice_96 : decode cX4_choice 96 = .ok (.istore_n 3, 1) := by decide +kernel
theorem dX4_choice_97 : decode cX4_choice 97 = .ok (.iload 5, 2) := by decide +kernel
theorem dX4_choice_99 : decode cX4_choice 99 = .ok (.iconst 1, 1) := by decide +kernel
theorem dX4_choice_100 : decode cX4_choice 100 = .ok (.if_icmp .eq 9, 3) := by decide +kernel
theorem dX4_choice_103 : decode cX4_choice 103 = .ok (.iload 5, 2) := by decide +kernel
theorem dX4_choice_105 : decode cX4_choice 105 = .ok (.iconst 2, 1) := by decide +kernel
theorem dX4_choice_106 : decode cX4_choice 106 = .ok (.if_icmp .ne 10, 3) := by decide +kernel
theorem dX4_choice_109 : decode cX4_choice 109 = .ok (.aload_n 0, 1) := by decide +kernel
theorem dX4_choice_110 : decode cX4_choice 110 = .ok (.invokevirtual 98, 3) := by decide +kernel
theorem dX4_choice_113 : decode cX4_choice 113 = .ok (.goto 4, 3) := by decide +kernel
theorem dX4_choice_116 : decode cX4_choice 116 = .ok (.iload_n 1, 1) := by decide +kernel
theorem dX4_choice_117 : decode cX4_choice 117 = .ok (.istore 6, 2) := by decide +kernel
theorem dX4_choice_119 : decode cX4_choice 119 = .ok (.iconst (-1), 1) := by decide +kernel
theorem dX4_choice_120 : decode cX4_choice 120 = .ok (.istore 7, 2) := by decide +kernel
theorem dX4_choice_122 : decode cX4_choice 122 = .ok (.iconst 0, 1) := by decide +kernel
theorem dX4_choice_123 : decode cX4_choice 123 = .ok (.istore 8, 2) := by decide +kernel
theorem dX4_choice_125 : decode cX4_choice 125 = .ok (.iconst 0, 1) := by decide +kernel
theorem dX4_choice_126 : decode cX4_choice 126 = .ok (.istore 9, 2) := by decide +kernel
theorem dX4_choice_128 : decode cX4_choice 128 = .ok (.iload 9, 2) := by decide +kernel
theorem dX4_choice_130 : decode cX4_choice 130 = .ok (.aload_n 0, 1) := by decide +kernel
theorem dX4_choice_131 : decode cX4_choice 131 = .ok (.getfield 34, 3) := by decide +kernel
theorem dX4_choice_134 : decode cX4_choice 134 = .ok (.getfield 62, 3) := by decide +kernel
theorem dX4_choice_137 : decode cX4_choice 137 = .ok (.if_icmp .ge 52, 3) := by decide +kernel
theorem dX4_choice_140 : decode cX4_choice 140 = .ok (.iload_n 3, 1) := by decide +kernel
theorem dX4_choice_141 : decode cX4_choice 141 = .ok (.iload 9, 2) := by decide +kernel
theorem dX4_choice_143 : decode cX4_choice 143 = .ok (.invokestatic 84, 3) := by decide +kernel
theorem dX4_choice_146 : decode cX4_choice 146 = .ok (.ifCond .eq 37, 3) := by decide +kernel
theorem dX4_choice_149 : decode cX4_choice 149 = .ok (.aload_n 0, 1) := by decide +kernel
theorem dX4_choice_150 : decode cX4_choice 150 = .ok (.iload 5, 2) := by decide +kernel
theorem dX4_choice_152 : decode cX4_choice 152 = .ok (.iload 6, 2) := by decide +kernel
theorem dX4_choice_154 : decode cX4_choice 154 = .ok (.iload 9, 2) := by decide +kernel
theorem dX4_choice_156 : decode cX4_choice 156 = .ok (.iload_n 2, 1) := by decide +kernel
theorem dX4_choice_157 : decode cX4_choice 157 = .ok (.invokevirtual 101, 3) := by decide +kernel
theorem dX4_choice_160 : decode cX4_choice 160 = .ok (.istore 10, 2) := by decide +kernel
theorem dX4_choice_162 : decode cX4_choice 162 = .ok (.iload 7, 2) := by decide +kernel
theorem dX4_choice_164 : decode cX4_choice 164 = .ok (.iconst (-1), 1) := by decide +kernel
theorem dX4_choice_165 : decode cX4_choice 165 = .ok (.if_icmp .eq 10, 3) := by decide +kernel
theorem dX4_choice_168 : decode cX4_choice 168 = .ok (.iload 10, 2) := by decide +kernel
theorem dX4_choice_170 : decode cX4_choice 170 = .ok (.iload 8, 2) := by decide +kernel
theorem dX4_choice_172 : decode cX4_choice 172 = .ok (.if_icmp .le 11, 3) := by decide +kernel
theorem dX4_choice_175 : decode cX4_choice 175 = .ok (.iload 9, 2) := by decide +kernel
theorem dX4_choice_177 : decode cX4_choice 177 = .ok (.istore 7, 2) := by decide +kernel
theorem dX4_choice_179 : decode cX4_choice 179 = .ok (.iload 10, 2) := by decide +kernel
theorem dX4_choice_181 : decode cX4_choice 181 = .ok (.istore 8, 2) := by decide +kernel
theorem dX4_choice_183 : decode cX4_choice 183 = .ok (.iinc 9 1, 3) := by decide +kernel
theorem dX4_choice_186 : decode cX4_choice 186 = .ok (.goto (-58), 3) := by decide +kernel
theorem dX4_choice_189 : decode cX4_choice 189 = .ok (.iload 7, 2) := by decide +kernel
theorem dX4_choice_191 : decode cX4_choice 191 = .ok (.ireturn, 1) := by decide +kernel
theorem dX4_wayOf_0 : decode cX4_wayOf 0 = .ok (.aload_n 0, 1) := by decide +kernel
theorem dX4_wayOf_1 : decode cX4_wayOf 1 = .ok (.getfield 34, 3) := by decide +kernel
theorem dX4_wayOf_4 : decode cX4_wayOf 4 = .ok (.getfield 105, 3) := by decide +kernel
theorem dX4_wayOf_7 : decode cX4_wayOf 7 = .ok (.iload_n 1, 1) := by decide +kernel
theorem dX4_wayOf_8 : decode cX4_wayOf 8 = .ok (.iaload, 1) := by decide +kernel
theorem dX4_wayOf_9 : decode cX4_wayOf 9 = .ok (.istore_n 3, 1) := by decide +kernel
theorem dX4_wayOf_10 : decode cX4_wayOf 10 = .ok (.iload_n 3, 1) := by decide +kernel
theorem dX4_wayOf_11 : decode cX4_wayOf 11 = .ok (.iconst 1, 1) := by decide +kernel
theorem dX4_wayOf_12 : decode cX4_wayOf 12 = .ok (.if_icmp .eq 8, 3) := by decide +kernel
theorem dX4_wayOf_15 : decode cX4_wayOf 15 = .ok (.iload_n 3, 1) := by decide +kernel
theorem dX4_wayOf_16 : decode cX4_wayOf 16 = .ok (.iconst 2, 1) := by decide +kernel
theorem dX4_wayOf_17 : decode cX4_wayOf 17 = .ok (.if_icmp .ne 11, 3) := by decide +kernel
theorem dX4_wayOf_20 : decode cX4_wayOf 20 = .ok (.aload_n 0, 1) := by decide +kernel
theorem dX4_wayOf_21 : decode cX4_wayOf 21 = .ok (.invokevirtual 98, 3) := by decide +kernel
theorem dX4_wayOf_24 : decode cX4_wayOf 24 = .ok (.iconst (-1), 1) := by decide +kernel
theorem dX4_wayOf_25 : decode cX4_wayOf 25 = .ok (.if_icmp .eq 28, 3) := by decide +kernel
theorem dX4_wayOf_28 : decode cX4_wayOf 28 = .ok (.iload_n 3, 1) := by decide +kernel
theorem dX4_wayOf_29 : decode cX4_wayOf 29 = .ok (.iconst 5, 1) := by decide +kernel
theorem dX4_wayOf_30 : decode cX4_wayOf 30 = .ok (.if_icmp .ne 13, 3) := by decide +kernel
theorem dX4_wayOf_33 : decode cX4_wayOf 33 = .ok (.aload_n 0, 1) := by decide +kernel
theorem dX4_wayOf_34 : decode cX4_wayOf 34 = .ok (.getfield 38, 3) := by decide +kernel
theorem dX4_wayOf_37 : decode cX4_wayOf 37 = .ok (.invokevirtual 108, 3) := by decide +kernel
theorem dX4_wayOf_40 : decode cX4_wayOf 40 = .ok (.ifCond .eq 13, 3) := by decide +kernel
theorem dX4_wayOf_43 : decode cX4_wayOf 43 = .ok (.iload_n 3, 1) := by decide +kernel
theorem dX4_wayOf_44 : decode cX4_wayOf 44 = .ok (.bipush 6, 2) := by decide +kernel
theorem dX4_wayOf_46 : decode cX4_wayOf 46 = .ok (.if_icmp .ne 11, 3) := by decide +kernel
theorem dX4_wayOf_49 : decode cX4_wayOf 49 = .ok (.iload_n 2, 1) := by decide +kernel
theorem dX4_wayOf_50 : decode cX4_wayOf 50 = .ok (.ifCond .gt 7, 3) := by decide +kernel
theorem dX4_wayOf_53 : decode cX4_wayOf 53 = .ok (.iconst 1, 1) := by decide +kernel
theorem dX4_wayOf_54 : decode cX4_wayOf 54 = .ok (.goto 4, 3) := by decide +kernel
theorem dX4_wayOf_57 : decode cX4_wayOf 57 = .ok (.iconst 0, 1) := by decide +kernel
theorem dX4_wayOf_58 : decode cX4_wayOf 58 = .ok (.istore 4, 2) := by decide +kernel
theorem dX4_wayOf_60 : decode cX4_wayOf 60 = .ok (.iload 4, 2) := by decide +kernel
theorem dX4_wayOf_62 : decode cX4_wayOf 62 = .ok (.ifCond .eq 7, 3) := by decide +kernel
theorem dX4_wayOf_65 : decode cX4_wayOf 65 = .ok (.iconst 0, 1) := by decide +kernel
theorem dX4_wayOf_66 : decode cX4_wayOf 66 = .ok (.goto 4, 3) := by decide +kernel
theorem dX4_wayOf_69 : decode cX4_wayOf 69 = .ok (.iload_n 3, 1) := by decide +kernel
theorem dX4_wayOf_70 : decode cX4_wayOf 70 = .ok (.ireturn, 1) := by decide +kernel
theorem dX4_measure_0 : decode cX4_measure 0 = .ok (.iload_n 1, 1) := by decide +kernel
theorem dX4_measure_1 : decode cX4_measure 1 = .ok (.tableswitch 81 2 6 #[35, 51, 81, 61, 72], 35) := by decide +kernel
theorem dX4_measure_36 : decode cX4_measure 36 = .ok (.aload_n 0, 1) := by decide +kernel
theorem dX4_measure_37 : decode cX4_measure 37 = .ok (.getfield 34, 3) := by decide +kernel
theorem dX4_measure_40 : decode cX4_measure 40 = .ok (.getfield 114, 3) := by decide +kernel
theorem dX4_measure_43 : decode cX4_measure 43 = .ok (.iload_n 2, 1) := by decide +kernel
theorem dX4_measure_44 : decode cX4_measure 44 = .ok (.bipush 10, 2) := by decide +kernel
theorem dX4_measure_46 : decode cX4_measure 46 = .ok (.imul, 1) := by decide +kernel
theorem dX4_measure_47 : decode cX4_measure 47 = .ok (.iload_n 3, 1) := by decide +kernel
theorem dX4_measure_48 : decode cX4_measure 48 = .ok (.iadd, 1) := by decide +kernel
theorem dX4_measure_49 : decode cX4_measure 49 = .ok (.iaload, 1) := by decide +kernel
theorem dX4_measure_50 : decode cX4_measure 50 = .ok (.ineg, 1) := by decide +kernel
theorem dX4_measure_51 : decode cX4_measure 51 = .ok (.ireturn, 1) := by decide +kernel
theorem dX4_measure_52 : decode cX4_measure 52 = .ok (.aload_n 0, 1) := by decide +kernel
theorem dX4_measure_53 : decode cX4_measure 53 = .ok (.getfield 34, 3) := by decide +kernel
theorem dX4_measure_56 : decode cX4_measure 56 = .ok (.getfield 117, 3) := by decide +kernel
theorem dX4_measure_59 : decode cX4_measure 59 = .ok (.iload_n 3, 1) := by decide +kernel
theorem dX4_measure_60 : decode cX4_measure 60 = .ok (.iaload, 1) := by decide +kernel
theorem dX4_measure_61 : decode cX4_measure 61 = .ok (.ireturn, 1) := by decide +kernel
theorem dX4_measure_62 : decode cX4_measure 62 = .ok (.aload_n 0, 1) := by decide +kernel
theorem dX4_measure_63 : decode cX4_measure 63 = .ok (.getfield 38, 3) := by decide +kernel
theorem dX4_measure_66 : decode cX4_measure 66 = .ok (.aload_n 0, 1) := by decide +kernel
theorem dX4_measure_67 : decode cX4_measure 67 = .ok (.iload_n 2, 1) := by decide +kernel
theorem dX4_measure_68 : decode cX4_measure 68 = .ok (.iload_n 3, 1) := by decide +kernel
theorem dX4_measure_69 : decode cX4_measure 69 = .ok (.invokevirtual 120, 3) := by decide +kernel
theorem dX4_measure_72 : decode cX4_measure 72 = .ok (.ireturn, 1) := by decide +kernel
theorem dX4_measure_73 : decode cX4_measure 73 = .ok (.aload_n 0, 1) := by decide +kernel
theorem dX4_measure_74 : decode cX4_measure 74 = .ok (.iload_n 2, 1) := by decide +kernel
theorem dX4_measure_75 : decode cX4_measure 75 = .ok (.iload_n 3, 1) := by decide +kernel
theorem dX4_measure_76 : decode cX4_measure 76 = .ok (.iload 4, 2) := by decide +kernel
theorem dX4_measure_78 : decode cX4_measure 78 = .ok (.invokevirtual 124, 3) := by decide +kernel
theorem dX4_measure_81 : decode cX4_measure 81 = .ok (.ireturn, 1) := by decide +kernel
theorem dX4_measure_82 : decode cX4_measure 82 = .ok (.aload_n 0, 1) := by decide +kernel
theorem dX4_measure_83 : decode cX4_measure 83 = .ok (.getfield 34, 3) := by decide +kernel
theorem dX4_measure_86 : decode cX4_measure 86 = .ok (.getfield 114, 3) := by decide +kernel
theorem dX4_measure_89 : decode cX4_measure 89 = .ok (.iload_n 2, 1) := by decide +kernel
theorem dX4_measure_90 : decode cX4_measure 90 = .ok (.bipush 10, 2) := by decide +kernel
theorem dX4_measure_92 : decode cX4_measure 92 = .ok (.imul, 1) := by decide +kernel
theorem dX4_measure_93 : decode cX4_measure 93 = .ok (.iload_n 3, 1) := by decide +kernel
theorem dX4_measure_94 : decode cX4_measure 94 = .ok (.iadd, 1) := by decide +kernel
theorem dX4_measure_95 : decode cX4_measure 95 = .ok (.iaload, 1) := by decide +kernel
theorem dX4_measure_96 : decode cX4_measure 96 = .ok (.ireturn, 1) := by decide +kernel
theorem dX4_whatFollows_0 : decode cX4_whatFollows 0 = .ok (.aload_n 0, 1) := by decide +kernel
theorem dX4_whatFollows_1 : decode cX4_whatFollows 1 = .ok (.getfield 42, 3) := by decide +kernel
theorem dX4_whatFollows_4 : decode cX4_whatFollows 4 = .ok (.ifnull 7, 3) := by decide +kernel
theorem dX4_whatFollows_7 : decode cX4_whatFollows 7 = .ok (.iload_n 3, 1) := by decide +kernel
theorem dX4_whatFollows_8 : decode cX4_whatFollows 8 = .ok (.ifCond .gt 5, 3) := by decide +kernel
theorem dX4_whatFollows_11 : decode cX4_whatFollows 11 = .ok (.iconst 0, 1) := by decide +kernel
theorem dX4_whatFollows_12 : decode cX4_whatFollows 12 = .ok (.ireturn, 1) := by decide +kernel
theorem dX4_whatFollows_13 : decode cX4_whatFollows 13 = .ok (.aload_n 0, 1) := by decide +kernel
theorem dX4_whatFollows_14 : decode cX4_whatFollows 14 = .ok (.getfield 42, 3) := by decide +kernel
theorem dX4_whatFollows_17 : decode cX4_whatFollows 17 = .ok (.aload_n 0, 1) := by decide +kernel
theorem dX4_whatFollows_18 : decode cX4_whatFollows 18 = .ok (.invokevirtual 128, 3) := by decide +kernel
theorem dX4_whatFollows_21 : decode cX4_whatFollows 21 = .ok (.aload_n 0, 1) := by decide +kernel
theorem dX4_whatFollows_22 : decode cX4_whatFollows 22 = .ok (.getfield 42, 3) := by decide +kernel
theorem dX4_whatFollows_25 : decode cX4_whatFollows 25 = .ok (.getfield 15, 3) := by decide +kernel
theorem dX4_whatFollows_28 : decode cX4_whatFollows 28 = .ok (.aload_n 0, 1) := by decide +kernel
theorem dX4_whatFollows_29 : decode cX4_whatFollows 29 = .ok (.getfield 9, 3) := by decide +kernel
theorem dX4_whatFollows_32 : decode cX4_whatFollows 32 = .ok (.iconst 0, 1) := by decide +kernel
theorem dX4_whatFollows_33 : decode cX4_whatFollows 33 = .ok (.iaload, 1) := by decide +kernel
theorem dX4_whatFollows_34 : decode cX4_whatFollows 34 = .ok (.iconst 1, 1) := by decide +kernel
theorem dX4_whatFollows_35 : decode cX4_whatFollows 35 = .ok (.isub, 1) := by decide +kernel
theorem dX4_whatFollows_36 : decode cX4_whatFollows 36 = .ok (.iload_n 2, 1) := by decide +kernel
theorem dX4_whatFollows_37 : decode cX4_whatFollows 37 = .ok (.iastore, 1) := by decide +kernel
theorem dX4_whatFollows_38 : decode cX4_whatFollows 38 = .ok (.iconst 0, 1) := by decide +kernel
theorem dX4_whatFollows_39 : decode cX4_whatFollows 39 = .ok (.istore 4, 2) := by decide +kernel
theorem dX4_whatFollows_41 : decode cX4_whatFollows 41 = .ok (.aload_n 0, 1) := by decide +kernel
theorem dX4_whatFollows_42 : decode cX4_whatFollows 42 = .ok (.getfield 9, 3) := by decide +kernel
theorem dX4_whatFollows_45 : decode cX4_whatFollows 45 = .ok (.iconst 0, 1) := by decide +kernel
theorem dX4_whatFollows_46 : decode cX4_whatFollows 46 = .ok (.iaload, 1) := by decide +kernel
theorem dX4_whatFollows_47 : decode cX4_whatFollows 47 = .ok (.iconst 2, 1) := by decide +kernel
theorem dX4_whatFollows_48 : decode cX4_whatFollows 48 = .ok (.iadd, 1) := by decide +kernel
theorem dX4_whatFollows_49 : decode cX4_whatFollows 49 = .ok (.istore 5, 2) := by decide +kernel
theorem dX4_whatFollows_51 : decode cX4_whatFollows 51 = .ok (.iconst 0, 1) := by decide +kernel
theorem dX4_whatFollows_52 : decode cX4_whatFollows 52 = .ok (.istore 6, 2) := by decide +kernel
theorem dX4_whatFollows_54 : decode cX4_whatFollows 54 = .ok (.iload 6, 2) := by decide +kernel
theorem dX4_whatFollows_56 : decode cX4_whatFollows 56 = .ok (.iload 5, 2) := by decide +kernel
theorem dX4_whatFollows_58 : decode cX4_whatFollows 58 = .ok (.if_icmp .ge 50, 3) := by decide +kernel
theorem dX4_whatFollows_61 : decode cX4_whatFollows 61 = .ok (.aload_n 0, 1) := by decide +kernel
theorem dX4_whatFollows_62 : decode cX4_whatFollows 62 = .ok (.getfield 42, 3) := by decide +kernel
theorem dX4_whatFollows_65 : decode cX4_whatFollows 65 = .ok (.iload_n 3, 1) := by decide +kernel
theorem dX4_whatFollows_66 : decode cX4_whatFollows 66 = .ok (.iconst 1, 1) := by decide +kernel
theorem dX4_whatFollows_67 : decode cX4_whatFollows 67 = .ok (.isub, 1) := by decide +kernel
theorem dX4_whatFollows_68 : decode cX4_whatFollows 68 = .ok (.invokevirtual 132, 3) := by decide +kernel
theorem dX4_whatFollows_71 : decode cX4_whatFollows 71 = .ok (.istore 7, 2) := by decide +kernel
theorem dX4_whatFollows_73 : decode cX4_whatFollows 73 = .ok (.iload 7, 2) := by decide +kernel
theorem dX4_whatFollows_75 : decode cX4_whatFollows 75 = .ok (.iconst (-1), 1) := by decide +kernel
theorem dX4_whatFollows_76 : decode cX4_whatFollows 76 = .ok (.if_icmp .eq 26, 3) := by decide +kernel
theorem dX4_whatFollows_79 : decode cX4_whatFollows 79 = .ok (.iload 4, 2) := by decide +kernel
theorem dX4_whatFollows_81 : decode cX4_whatFollows 81 = .ok (.aload_n 0, 1) := by decide +kernel
theorem dX4_whatFollows_82 : decode cX4_whatFollows 82 = .ok (.getfield 34, 3) := by decide +kernel
theorem dX4_whatFollows_85 : decode cX4_whatFollows 85 = .ok (.iload 7, 2) := by decide +kernel
theorem dX4_whatFollows_87 : decode cX4_whatFollows 87 = .ok (.aload_n 0, 1) := by decide +kernel
theorem dX4_whatFollows_88 : decode cX4_whatFollows 88 = .ok (.getfield 34, 3) := by decide +kernel
theorem dX4_whatFollows_91 : decode cX4_whatFollows 91 = .ok (.getfield 92, 3) := by decide +kernel
theorem dX4_whatFollows_94 : decode cX4_whatFollows 94 = .ok (.iload_n 1, 1) := by decide +kernel
theorem dX4_whatFollows_95 : decode cX4_whatFollows 95 = .ok (.iaload, 1) := by decide +kernel
theorem dX4_whatFollows_96 : decode cX4_whatFollows 96 = .ok (.invokevirtual 135, 3) := by decide +kernel
theorem dX4_whatFollows_99 : decode cX4_whatFollows 99 = .ok (.iadd, 1) := by decide +kernel
theorem dX4_whatFollows_100 : decode cX4_whatFollows 100 = .ok (.istore 4, 2) := by decide +kernel
theorem dX4_whatFollows_102 : decode cX4_whatFollows 102 = .ok (.iinc 6 1, 3) := by decide +kernel
theorem dX4_whatFollows_105 : decode cX4_whatFollows 105 = .ok (.goto (-51), 3) := by decide +kernel
theorem dX4_whatFollows_108 : decode cX4_whatFollows 108 = .ok (.iload 4, 2) := by decide +kernel
theorem dX4_whatFollows_110 : decode cX4_whatFollows 110 = .ok (.ireturn, 1) := by decide +kernel
theorem dX4_next_0 : decode cX4_next 0 = .ok (.aload_n 0, 1) := by decide +kernel
theorem dX4_next_1 : decode cX4_next 1 = .ok (.iconst (-1), 1) := by decide +kernel
theorem dX4_next_2 : decode cX4_next 2 = .ok (.putfield 21, 3) := by decide +kernel
theorem dX4_next_5 : decode cX4_next 5 = .ok (.aload_n 0, 1) := by decide +kernel
theorem dX4_next_6 : decode cX4_next 6 = .ok (.iconst 0, 1) := by decide +kernel
theorem dX4_next_7 : decode cX4_next 7 = .ok (.putfield 25, 3) := by decide +kernel
theorem dX4_next_10 : decode cX4_next 10 = .ok (.aload_n 0, 1) := by decide +kernel
theorem dX4_next_11 : decode cX4_next 11 = .ok (.getfield 9, 3) := by decide +kernel
theorem dX4_next_14 : decode cX4_next 14 = .ok (.iconst 4, 1) := by decide +kernel
theorem dX4_next_15 : decode cX4_next 15 = .ok (.iaload, 1) := by decide +kernel
theorem dX4_next_16 : decode cX4_next 16 = .ok (.ifCond .ne 12, 3) := by decide +kernel
theorem dX4_next_19 : decode cX4_next 19 = .ok (.aload_n 0, 1) := by decide +kernel
theorem dX4_next_20 : decode cX4_next 20 = .ok (.getfield 9, 3) := by decide +kernel
theorem dX4_next_23 : decode cX4_next 23 = .ok (.iconst 0, 1) := by decide +kernel
theorem dX4_next_24 : decode cX4_next 24 = .ok (.iaload, 1) := by decide +kernel
theorem dX4_next_25 : decode cX4_next 25 = .ok (.goto 4, 3) := by decide +kernel
theorem dX4_next_28 : decode cX4_next 28 = .ok (.iconst 1, 1) := by decide +kernel
theorem dX4_next_29 : decode cX4_next 29 = .ok (.istore_n 2, 1) := by decide +kernel
theorem dX4_next_30 : decode cX4_next 30 = .ok (.iconst 0, 1) := by decide +kernel
theorem dX4_next_31 : decode cX4_next 31 = .ok (.istore_n 3, 1) := by decide +kernel
theorem dX4_next_32 : decode cX4_next 32 = .ok (.iload_n 3, 1) := by decide +kernel
theorem dX4_next_33 : decode cX4_next 33 = .ok (.iload_n 2, 1) := by decide +kernel
theorem dX4_next_34 : decode cX4_next 34 = .ok (.if_icmp .ge 25, 3) := by decide +kernel
theorem dX4_next_37 : decode cX4_next 37 = .ok (.aload_n 0, 1) := by decide +kernel
theorem dX4_next_38 : decode cX4_next 38 = .ok (.getfield 21, 3) := by decide +kernel
theorem dX4_next_41 : decode cX4_next 41 = .ok (.iconst (-1), 1) := by decide +kernel
theorem dX4_next_42 : decode cX4_next 42 = .ok (.if_icmp .ne 17, 3) := by decide +kernel
theorem dX4_next_45 : decode cX4_next 45 = .ok (.aload_n 0, 1) := by decide +kernel
theorem dX4_next_46 : decode cX4_next 46 = .ok (.aload_n 0, 1) := by decide +kernel
theorem dX4_next_47 : decode cX4_next 47 = .ok (.invokevirtual 138, 3) := by decide +kernel
theorem dX4_next_50 : decode cX4_next 50 = .ok (.putfield 21, 3) := by decide +kernel
theorem dX4_next_53 : decode cX4_next 53 = .ok (.iinc 3 1, 3) := by decide +kernel
theorem dX4_next_56 : decode cX4_next 56 = .ok (.goto (-24), 3) := by decide +kernel
theorem dX4_next_59 : decode cX4_next 59 = .ok (.aload_n 0, 1) := by decide +kernel
theorem dX4_next_60 : decode cX4_next 60 = .ok (.getfield 21, 3) := by decide +kernel
theorem dX4_next_63 : decode cX4_next 63 = .ok (.iconst (-1), 1) := by decide +kernel
theorem dX4_next_64 : decode cX4_next 64 = .ok (.if_icmp .ne 5, 3) := by decide +kernel
theorem dX4_next_67 : decode cX4_next 67 = .ok (.iconst (-1), 1) := by decide +kernel
theorem dX4_next_68 : decode cX4_next 68 = .ok (.ireturn, 1) := by decide +kernel
theorem dX4_next_69 : decode cX4_next 69 = .ok (.aload_n 0, 1) := by decide +kernel
theorem dX4_next_70 : decode cX4_next 70 = .ok (.getfield 18, 3) := by decide +kernel
theorem dX4_next_73 : decode cX4_next 73 = .ok (.aload_n 0, 1) := by decide +kernel
theorem dX4_next_74 : decode cX4_next 74 = .ok (.getfield 21, 3) := by decide +kernel
theorem dX4_next_77 : decode cX4_next 77 = .ok (.dup2, 1) := by decide +kernel
theorem dX4_next_78 : decode cX4_next 78 = .ok (.iaload, 1) := by decide +kernel
theorem dX4_next_79 : decode cX4_next 79 = .ok (.iconst 1, 1) := by decide +kernel
theorem dX4_next_80 : decode cX4_next 80 = .ok (.iadd, 1) := by decide +kernel
theorem dX4_next_81 : decode cX4_next 81 = .ok (.iastore, 1) := by decide +kernel
theorem dX4_next_82 : decode cX4_next 82 = .ok (.aload_n 0, 1) := by decide +kernel
theorem dX4_next_83 : decode cX4_next 83 = .ok (.getfield 9, 3) := by decide +kernel
theorem dX4_next_86 : decode cX4_next 86 = .ok (.iconst 0, 1) := by decide +kernel
theorem dX4_next_87 : decode cX4_next 87 = .ok (.iaload, 1) := by decide +kernel
theorem dX4_next_88 : decode cX4_next 88 = .ok (.iconst 1, 1) := by decide +kernel
theorem dX4_next_89 : decode cX4_next 89 = .ok (.isub, 1) := by decide +kernel
theorem dX4_next_90 : decode cX4_next 90 = .ok (.istore_n 3, 1) := by decide +kernel
theorem dX4_next_91 : decode cX4_next 91 = .ok (.aload_n 0, 1) := by decide +kernel
theorem dX4_next_92 : decode cX4_next 92 = .ok (.getfield 9, 3) := by decide +kernel
theorem dX4_next_95 : decode cX4_next 95 = .ok (.iconst 4, 1) := by decide +kernel
theorem dX4_next_96 : decode cX4_next 96 = .ok (.iaload, 1) := by decide +kernel
theorem dX4_next_97 : decode cX4_next 97 = .ok (.iconst 1, 1) := by decide +kernel
theorem dX4_next_98 : decode cX4_next 98 = .ok (.if_icmp .ne 7, 3) := by decide +kernel
theorem dX4_next_101 : decode cX4_next 101 = .ok (.iconst 0, 1) := by decide +kernel
theorem dX4_next_102 : decode cX4_next 102 = .ok (.goto 4, 3) := by decide +kernel
theorem dX4_next_105 : decode cX4_next 105 = .ok (.iload_n 3, 1) := by decide +kernel
theorem dX4_next_106 : decode cX4_next 106 = .ok (.istore 4, 2) := by decide +kernel
theorem dX4_next_108 : decode cX4_next 108 = .ok (.iload 4, 2) := by decide +kernel
theorem dX4_next_110 : decode cX4_next 110 = .ok (.iload_n 3, 1) := by decide +kernel
theorem dX4_next_111 : decode cX4_next 111 = .ok (.if_icmp .gt 36, 3) := by decide +kernel
theorem dX4_next_114 : decode cX4_next 114 = .ok (.aload_n 0, 1) := by decide +kernel
theorem dX4_next_115 : decode cX4_next 115 = .ok (.getfield 15, 3) := by decide +kernel
theorem dX4_next_118 : decode cX4_next 118 = .ok (.iload 4, 2) := by decide +kernel
theorem dX4_next_120 : decode cX4_next 120 = .ok (.iaload, 1) := by decide +kernel
theorem dX4_next_121 : decode cX4_next 121 = .ok (.iconst (-1), 1) := by decide +kernel
theorem dX4_next_122 : decode cX4_next 122 = .ok (.if_icmp .ne 19, 3) := by decide +kernel
theorem dX4_next_125 : decode cX4_next 125 = .ok (.aload_n 0, 1) := by decide +kernel
theorem dX4_next_126 : decode cX4_next 126 = .ok (.getfield 15, 3) := by decide +kernel
theorem dX4_next_129 : decode cX4_next 129 = .ok (.iload 4, 2) := by decide +kernel
theorem dX4_next_131 : decode cX4_next 131 = .ok (.aload_n 0, 1) := by decide +kernel
theorem dX4_next_132 : decode cX4_next 132 = .ok (.aload_n 0, 1) := by decide +kernel
theorem dX4_next_133 : decode cX4_next 133 = .ok (.getfield 21, 3) := by decide +kernel
theorem dX4_next_136 : decode cX4_next 136 = .ok (.iload_n 1, 1) := by decide +kernel
theorem dX4_next_137 : decode cX4_next 137 = .ok (.invokevirtual 141, 3) := by decide +kernel
theorem dX4_next_140 : decode cX4_next 140 = .ok (.iastore, 1) := by decide +kernel
theorem dX4_next_141 : decode cX4_next 141 = .ok (.iinc 4 1, 3) := by decide +kernel
theorem dX4_next_144 : decode cX4_next 144 = .ok (.goto (-36), 3) := by decide +kernel
theorem dX4_next_147 : decode cX4_next 147 = .ok (.aload_n 0, 1) := by decide +kernel
theorem dX4_next_148 : decode cX4_next 148 = .ok (.getfield 21, 3) := by decide +kernel
theorem dX4_next_151 : decode cX4_next 151 = .ok (.ireturn, 1) := by decide +kernel
theorem dX4_moveUp_0 : decode cX4_moveUp 0 = .ok (.aload_n 0, 1) := by decide +kernel
theorem dX4_moveUp_1 : decode cX4_moveUp 1 = .ok (.getfield 15, 3) := by decide +kernel
theorem dX4_moveUp_4 : decode cX4_moveUp 4 = .ok (.iconst 0, 1) := by decide +kernel
theorem dX4_moveUp_5 : decode cX4_moveUp 5 = .ok (.iaload, 1) := by decide +kernel
theorem dX4_moveUp_6 : decode cX4_moveUp 6 = .ok (.istore_n 1, 1) := by decide +kernel
theorem dX4_moveUp_7 : decode cX4_moveUp 7 = .ok (.aload_n 0, 1) := by decide +kernel
theorem dX4_moveUp_8 : decode cX4_moveUp 8 = .ok (.getfield 9, 3) := by decide +kernel
theorem dX4_moveUp_11 : decode cX4_moveUp 11 = .ok (.iconst 0, 1) := by decide +kernel
theorem dX4_moveUp_12 : decode cX4_moveUp 12 = .ok (.iaload, 1) := by decide +kernel
theorem dX4_moveUp_13 : decode cX4_moveUp 13 = .ok (.iconst 1, 1) := by decide +kernel
theorem dX4_moveUp_14 : decode cX4_moveUp 14 = .ok (.isub, 1) := by decide +kernel
theorem dX4_moveUp_15 : decode cX4_moveUp 15 = .ok (.istore_n 2, 1) := by decide +kernel
theorem dX4_moveUp_16 : decode cX4_moveUp 16 = .ok (.iconst 0, 1) := by decide +kernel
theorem dX4_moveUp_17 : decode cX4_moveUp 17 = .ok (.istore_n 3, 1) := by decide +kernel
theorem dX4_moveUp_18 : decode cX4_moveUp 18 = .ok (.iload_n 3, 1) := by decide +kernel
theorem dX4_moveUp_19 : decode cX4_moveUp 19 = .ok (.iload_n 2, 1) := by decide +kernel
theorem dX4_moveUp_20 : decode cX4_moveUp 20 = .ok (.if_icmp .ge 23, 3) := by decide +kernel
theorem dX4_moveUp_23 : decode cX4_moveUp 23 = .ok (.aload_n 0, 1) := by decide +kernel
theorem dX4_moveUp_24 : decode cX4_moveUp 24 = .ok (.getfield 15, 3) := by decide +kernel
theorem dX4_moveUp_27 : decode cX4_moveUp 27 = .ok (.iload_n 3, 1) := by decide +kernel
theorem dX4_moveUp_28 : decode cX4_moveUp 28 = .ok (.aload_n 0, 1) := by decide +kernel
theorem dX4_moveUp_29 : decode cX4_moveUp 29 = .ok (.getfield 15, 3) := by decide +kernel
theorem dX4_moveUp_32 : decode cX4_moveUp 32 = .ok (.iload_n 3, 1) := by decide +kernel
theorem dX4_moveUp_33 : decode cX4_moveUp 33 = .ok (.iconst 1, 1) := by decide +kernel
theorem dX4_moveUp_34 : decode cX4_moveUp 34 = .ok (.iadd, 1) := by decide +kernel
theorem dX4_moveUp_35 : decode cX4_moveUp 35 = .ok (.iaload, 1) := by decide +kernel
theorem dX4_moveUp_36 : decode cX4_moveUp 36 = .ok (.iastore, 1) := by decide +kernel
theorem dX4_moveUp_37 : decode cX4_moveUp 37 = .ok (.iinc 3 1, 3) := by decide +kernel
theorem dX4_moveUp_40 : decode cX4_moveUp 40 = .ok (.goto (-22), 3) := by decide +kernel
theorem dX4_moveUp_43 : decode cX4_moveUp 43 = .ok (.aload_n 0, 1) := by decide +kernel
theorem dX4_moveUp_44 : decode cX4_moveUp 44 = .ok (.getfield 15, 3) := by decide +kernel
theorem dX4_moveUp_47 : decode cX4_moveUp 47 = .ok (.iload_n 2, 1) := by decide +kernel
theorem dX4_moveUp_48 : decode cX4_moveUp 48 = .ok (.iconst (-1), 1) := by decide +kernel
theorem dX4_moveUp_49 : decode cX4_moveUp 49 = .ok (.iastore, 1) := by decide +kernel
theorem dX4_moveUp_50 : decode cX4_moveUp 50 = .ok (.iload_n 1, 1) := by decide +kernel
theorem dX4_moveUp_51 : decode cX4_moveUp 51 = .ok (.ireturn, 1) := by decide +kernel
theorem dX4_year_0 : decode cX4_year 0 = .ok (.aload_n 0, 1) := by decide +kernel
theorem dX4_year_1 : decode cX4_year 1 = .ok (.getfield 34, 3) := by decide +kernel
theorem dX4_year_4 : decode cX4_year 4 = .ok (.invokevirtual 144, 3) := by decide +kernel
theorem dX4_year_7 : decode cX4_year 7 = .ok (.aload_n 0, 1) := by decide +kernel
theorem dX4_year_8 : decode cX4_year 8 = .ok (.getfield 21, 3) := by decide +kernel
theorem dX4_year_11 : decode cX4_year 11 = .ok (.iconst (-1), 1) := by decide +kernel
theorem dX4_year_12 : decode cX4_year 12 = .ok (.if_icmp .eq 13, 3) := by decide +kernel
theorem dX4_year_15 : decode cX4_year 15 = .ok (.aload_n 0, 1) := by decide +kernel
theorem dX4_year_16 : decode cX4_year 16 = .ok (.dup, 1) := by decide +kernel
theorem dX4_year_17 : decode cX4_year 17 = .ok (.getfield 25, 3) := by decide +kernel
theorem dX4_year_20 : decode cX4_year 20 = .ok (.iconst 1, 1) := by decide +kernel
theorem dX4_year_21 : decode cX4_year 21 = .ok (.iadd, 1) := by decide +kernel
theorem dX4_year_22 : decode cX4_year 22 = .ok (.putfield 25, 3) := by decide +kernel
theorem dX4_year_25 : decode cX4_year 25 = .ok (.aload_n 0, 1) := by decide +kernel
theorem dX4_year_26 : decode cX4_year 26 = .ok (.getfield 34, 3) := by decide +kernel
theorem dX4_year_29 : decode cX4_year 29 = .ok (.aload_n 0, 1) := by decide +kernel
theorem dX4_year_30 : decode cX4_year 30 = .ok (.getfield 9, 3) := by decide +kernel
theorem dX4_year_33 : decode cX4_year 33 = .ok (.iconst 5, 1) := by decide +kernel
theorem dX4_year_34 : decode cX4_year 34 = .ok (.iaload, 1) := by decide +kernel
theorem dX4_year_35 : decode cX4_year 35 = .ok (.invokevirtual 147, 3) := by decide +kernel
theorem dX4_year_38 : decode cX4_year 38 = .ok (.aload_n 0, 1) := by decide +kernel
theorem dX4_year_39 : decode cX4_year 39 = .ok (.invokevirtual 151, 3) := by decide +kernel
theorem dX4_year_42 : decode cX4_year 42 = .ok (.aload_n 0, 1) := by decide +kernel
theorem dX4_year_43 : decode cX4_year 43 = .ok (.getfield 21, 3) := by decide +kernel
theorem dX4_year_46 : decode cX4_year 46 = .ok (.iconst (-1), 1) := by decide +kernel
theorem dX4_year_47 : decode cX4_year 47 = .ok (.if_icmp .eq 18, 3) := by decide +kernel
theorem dX4_year_50 : decode cX4_year 50 = .ok (.aload_n 0, 1) := by decide +kernel
theorem dX4_year_51 : decode cX4_year 51 = .ok (.getfield 25, 3) := by decide +kernel
theorem dX4_year_54 : decode cX4_year 54 = .ok (.aload_n 0, 1) := by decide +kernel
theorem dX4_year_55 : decode cX4_year 55 = .ok (.getfield 9, 3) := by decide +kernel
theorem dX4_year_58 : decode cX4_year 58 = .ok (.iconst 1, 1) := by decide +kernel
theorem dX4_year_59 : decode cX4_year 59 = .ok (.iaload, 1) := by decide +kernel
theorem dX4_year_60 : decode cX4_year 60 = .ok (.if_icmp .ge 5, 3) := by decide +kernel
theorem dX4_year_63 : decode cX4_year 63 = .ok (.iconst 0, 1) := by decide +kernel
theorem dX4_year_64 : decode cX4_year 64 = .ok (.ireturn, 1) := by decide +kernel
theorem dX4_year_65 : decode cX4_year 65 = .ok (.aload_n 0, 1) := by decide +kernel
theorem dX4_year_66 : decode cX4_year 66 = .ok (.iconst 1, 1) := by decide +kernel
theorem dX4_year_67 : decode cX4_year 67 = .ok (.invokevirtual 132, 3) := by decide +kernel
theorem dX4_year_70 : decode cX4_year 70 = .ok (.iconst (-1), 1) := by decide +kernel
theorem dX4_year_71 : decode cX4_year 71 = .ok (.if_icmp .eq 7, 3) := by decide +kernel
theorem dX4_year_74 : decode cX4_year 74 = .ok (.iconst 1, 1) := by decide +kernel
theorem dX4_year_75 : decode cX4_year 75 = .ok (.goto 4, 3) := by decide +kernel
theorem dX4_year_78 : decode cX4_year 78 = .ok (.iconst 0, 1) := by decide +kernel
theorem dX4_year_79 : decode cX4_year 79 = .ok (.ireturn, 1) := by decide +kernel
theorem dX4_bury_0 : decode cX4_bury 0 = .ok (.iconst 0, 1) := by decide +kernel
theorem dX4_bury_1 : decode cX4_bury 1 = .ok (.istore_n 1, 1) := by decide +kernel
theorem dX4_bury_2 : decode cX4_bury 2 = .ok (.iload_n 1, 1) := by decide +kernel
theorem dX4_bury_3 : decode cX4_bury 3 = .ok (.aload_n 0, 1) := by decide +kernel
theorem dX4_bury_4 : decode cX4_bury 4 = .ok (.getfield 9, 3) := by decide +kernel
theorem dX4_bury_7 : decode cX4_bury 7 = .ok (.iconst 0, 1) := by decide +kernel
theorem dX4_bury_8 : decode cX4_bury 8 = .ok (.iaload, 1) := by decide +kernel
theorem dX4_bury_9 : decode cX4_bury 9 = .ok (.if_icmp .ge 32, 3) := by decide +kernel
theorem dX4_bury_12 : decode cX4_bury 12 = .ok (.aload_n 0, 1) := by decide +kernel
theorem dX4_bury_13 : decode cX4_bury 13 = .ok (.getfield 34, 3) := by decide +kernel
theorem dX4_bury_16 : decode cX4_bury 16 = .ok (.aload_n 0, 1) := by decide +kernel
theorem dX4_bury_17 : decode cX4_bury 17 = .ok (.getfield 15, 3) := by decide +kernel
theorem dX4_bury_20 : decode cX4_bury 20 = .ok (.iload_n 1, 1) := by decide +kernel
theorem dX4_bury_21 : decode cX4_bury 21 = .ok (.iaload, 1) := by decide +kernel
theorem dX4_bury_22 : decode cX4_bury 22 = .ok (.invokevirtual 154, 3) := by decide +kernel
theorem dX4_bury_25 : decode cX4_bury 25 = .ok (.ifCond .ne 10, 3) := by decide +kernel
theorem dX4_bury_28 : decode cX4_bury 28 = .ok (.aload_n 0, 1) := by decide +kernel
theorem dX4_bury_29 : decode cX4_bury 29 = .ok (.getfield 15, 3) := by decide +kernel
theorem dX4_bury_32 : decode cX4_bury 32 = .ok (.iload_n 1, 1) := by decide +kernel
theorem dX4_bury_33 : decode cX4_bury 33 = .ok (.iconst (-1), 1) := by decide +kernel
theorem dX4_bury_34 : decode cX4_bury 34 = .ok (.iastore, 1) := by decide +kernel
theorem dX4_bury_35 : decode cX4_bury 35 = .ok (.iinc 1 1, 3) := by decide +kernel
theorem dX4_bury_38 : decode cX4_bury 38 = .ok (.goto (-36), 3) := by decide +kernel
theorem dX4_bury_41 : decode cX4_bury 41 = .ok (.aload_n 0, 1) := by decide +kernel
theorem dX4_bury_42 : decode cX4_bury 42 = .ok (.getfield 34, 3) := by decide +kernel
theorem dX4_bury_45 : decode cX4_bury 45 = .ok (.aload_n 0, 1) := by decide +kernel
theorem dX4_bury_46 : decode cX4_bury 46 = .ok (.getfield 21, 3) := by decide +kernel
theorem dX4_bury_49 : decode cX4_bury 49 = .ok (.invokevirtual 154, 3) := by decide +kernel
theorem dX4_bury_52 : decode cX4_bury 52 = .ok (.ifCond .ne 8, 3) := by decide +kernel
theorem dX4_bury_55 : decode cX4_bury 55 = .ok (.aload_n 0, 1) := by decide +kernel
theorem dX4_bury_56 : decode cX4_bury 56 = .ok (.iconst (-1), 1) := by decide +kernel
theorem dX4_bury_57 : decode cX4_bury 57 = .ok (.putfield 21, 3) := by decide +kernel
theorem dX4_bury_60 : decode cX4_bury 60 = .ok (.return_, 1) := by decide +kernel
theorem dX4_valueOf_0 : decode cX4_valueOf 0 = .ok (.iload_n 1, 1) := by decide +kernel
theorem dX4_valueOf_1 : decode cX4_valueOf 1 = .ok (.lookupswitch 128 #[(97, 66), (108, 51), (114, 121), (115, 76), (119, 103)], 51) := by decide +kernel
theorem dX4_valueOf_52 : decode cX4_valueOf 52 = .ok (.aload_n 0, 1) := by decide +kernel
theorem dX4_valueOf_53 : decode cX4_valueOf 53 = .ok (.getfield 34, 3) := by decide +kernel
theorem dX4_valueOf_56 : decode cX4_valueOf 56 = .ok (.getfield 114, 3) := by decide +kernel
theorem dX4_valueOf_59 : decode cX4_valueOf 59 = .ok (.iload_n 2, 1) := by decide +kernel
theorem dX4_valueOf_60 : decode cX4_valueOf 60 = .ok (.bipush 10, 2) := by decide +kernel
theorem dX4_valueOf_62 : decode cX4_valueOf 62 = .ok (.imul, 1) := by decide +kernel
theorem dX4_valueOf_63 : decode cX4_valueOf 63 = .ok (.iload_n 3, 1) := by decide +kernel
theorem dX4_valueOf_64 : decode cX4_valueOf 64 = .ok (.iadd, 1) := by decide +kernel
theorem dX4_valueOf_65 : decode cX4_valueOf 65 = .ok (.iaload, 1) := by decide +kernel
theorem dX4_valueOf_66 : decode cX4_valueOf 66 = .ok (.ireturn, 1) := by decide +kernel
theorem dX4_valueOf_67 : decode cX4_valueOf 67 = .ok (.aload_n 0, 1) := by decide +kernel
theorem dX4_valueOf_68 : decode cX4_valueOf 68 = .ok (.getfield 34, 3) := by decide +kernel
theorem dX4_valueOf_71 : decode cX4_valueOf 71 = .ok (.getfield 117, 3) := by decide +kernel
theorem dX4_valueOf_74 : decode cX4_valueOf 74 = .ok (.iload_n 3, 1) := by decide +kernel
theorem dX4_valueOf_75 : decode cX4_valueOf 75 = .ok (.iaload, 1) := by decide +kernel
theorem dX4_valueOf_76 : decode cX4_valueOf 76 = .ok (.ireturn, 1) := by decide +kernel
theorem dX4_valueOf_77 : decode cX4_valueOf 77 = .ok (.aload_n 0, 1) := by decide +kernel
theorem dX4_valueOf_78 : decode cX4_valueOf 78 = .ok (.getfield 34, 3) := by decide +kernel
theorem dX4_valueOf_81 : decode cX4_valueOf 81 = .ok (.getfield 92, 3) := by decide +kernel
theorem dX4_valueOf_84 : decode cX4_valueOf 84 = .ok (.iload_n 2, 1) := by decide +kernel
theorem dX4_valueOf_85 : decode cX4_valueOf 85 = .ok (.iaload, 1) := by decide +kernel
theorem dX4_valueOf_86 : decode cX4_valueOf 86 = .ok (.aload_n 0, 1) := by decide +kernel
theorem dX4_valueOf_87 : decode cX4_valueOf 87 = .ok (.getfield 34, 3) := by decide +kernel
theorem dX4_valueOf_90 : decode cX4_valueOf 90 = .ok (.getfield 92, 3) := by decide +kernel
theorem dX4_valueOf_93 : decode cX4_valueOf 93 = .ok (.iload_n 3, 1) := by decide +kernel
theorem dX4_valueOf_94 : decode cX4_valueOf 94 = .ok (.iaload, 1) := by decide +kernel
theorem dX4_valueOf_95 : decode cX4_valueOf 95 = .ok (.if_icmp .ne 7, 3) := by decide +kernel
theorem dX4_valueOf_98 : decode cX4_valueOf 98 = .ok (.iconst 1, 1) := by decide +kernel
theorem dX4_valueOf_99 : decode cX4_valueOf 99 = .ok (.goto 4, 3) := by decide +kernel
theorem dX4_valueOf_102 : decode cX4_valueOf 102 = .ok (.iconst 0, 1) := by decide +kernel
theorem dX4_valueOf_103 : decode cX4_valueOf 103 = .ok (.ireturn, 1) := by decide +kernel
theorem dX4_valueOf_104 : decode cX4_valueOf 104 = .ok (.aload_n 0, 1) := by decide +kernel
theorem dX4_valueOf_105 : decode cX4_valueOf 105 = .ok (.getfield 34, 3) := by decide +kernel
theorem dX4_valueOf_108 : decode cX4_valueOf 108 = .ok (.iload_n 3, 1) := by decide +kernel
theorem dX4_valueOf_109 : decode cX4_valueOf 109 = .ok (.aload_n 0, 1) := by decide +kernel
theorem dX4_valueOf_110 : decode cX4_valueOf 110 = .ok (.getfield 34, 3) := by decide +kernel
theorem dX4_valueOf_113 : decode cX4_valueOf 113 = .ok (.getfield 92, 3) := by decide +kernel
theorem dX4_valueOf_116 : decode cX4_valueOf 116 = .ok (.iload_n 2, 1) := by decide +kernel
theorem dX4_valueOf_117 : decode cX4_valueOf 117 = .ok (.iaload, 1) := by decide +kernel
theorem dX4_valueOf_118 : decode cX4_valueOf 118 = .ok (.invokevirtual 135, 3) := by decide +kernel
theorem dX4_valueOf_121 : decode cX4_valueOf 121 = .ok (.ireturn, 1) := by decide +kernel
theorem dX4_valueOf_122 : decode cX4_valueOf 122 = .ok (.aload_n 0, 1) := by decide +kernel
theorem dX4_valueOf_123 : decode cX4_valueOf 123 = .ok (.getfield 18, 3) := by decide +kernel
theorem dX4_valueOf_126 : decode cX4_valueOf 126 = .ok (.iload_n 3, 1) := by decide +kernel
theorem dX4_valueOf_127 : decode cX4_valueOf 127 = .ok (.iaload, 1) := by decide +kernel
theorem dX4_valueOf_128 : decode cX4_valueOf 128 = .ok (.ireturn, 1) := by decide +kernel
theorem dX4_valueOf_129 : decode cX4_valueOf 129 = .ok (.aload_n 0, 1) := by decide +kernel
theorem dX4_valueOf_130 : decode cX4_valueOf 130 = .ok (.invokevirtual 98, 3) := by decide +kernel
theorem dX4_valueOf_133 : decode cX4_valueOf 133 = .ok (.istore 4, 2) := by decide +kernel
theorem dX4_valueOf_135 : decode cX4_valueOf 135 = .ok (.iload 4, 2) := by decide +kernel
theorem dX4_valueOf_137 : decode cX4_valueOf 137 = .ok (.iconst (-1), 1) := by decide +kernel
theorem dX4_valueOf_138 : decode cX4_valueOf 138 = .ok (.if_icmp .ne 7, 3) := by decide +kernel
theorem dX4_valueOf_141 : decode cX4_valueOf 141 = .ok (.iconst 0, 1) := by decide +kernel
theorem dX4_valueOf_142 : decode cX4_valueOf 142 = .ok (.goto 18, 3) := by decide +kernel
theorem dX4_valueOf_145 : decode cX4_valueOf 145 = .ok (.aload_n 0, 1) := by decide +kernel
theorem dX4_valueOf_146 : decode cX4_valueOf 146 = .ok (.getfield 34, 3) := by decide +kernel
theorem dX4_valueOf_149 : decode cX4_valueOf 149 = .ok (.getfield 114, 3) := by decide +kernel
theorem dX4_valueOf_152 : decode cX4_valueOf 152 = .ok (.iload 4, 2) := by decide +kernel
theorem dX4_valueOf_154 : decode cX4_valueOf 154 = .ok (.bipush 10, 2) := by decide +kernel
theorem dX4_valueOf_156 : decode cX4_valueOf 156 = .ok (.imul, 1) := by decide +kernel
theorem dX4_valueOf_157 : decode cX4_valueOf 157 = .ok (.iload_n 3, 1) := by decide +kernel
theorem dX4_valueOf_158 : decode cX4_valueOf 158 = .ok (.iadd, 1) := by decide +kernel
theorem dX4_valueOf_159 : decode cX4_valueOf 159 = .ok (.iaload, 1) := by decide +kernel
theorem dX4_valueOf_160 : decode cX4_valueOf 160 = .ok (.ireturn, 1) := by decide +kernel
theorem dX5_init_0 : decode cX5_init 0 = .ok (.aload_n 0, 1) := by decide +kernel
theorem dX5_init_1 : decode cX5_init 1 = .ok (.invokespecial 3, 3) := by decide +kernel
theorem dX5_init_4 : decode cX5_init 4 = .ok (.aload_n 0, 1) := by decide +kernel
theorem dX5_init_5 : decode cX5_init 5 = .ok (.iconst 0, 1) := by decide +kernel
theorem dX5_init_6 : decode cX5_init 6 = .ok (.putfield 9, 3) := by decide +kernel
theorem dX5_init_9 : decode cX5_init 9 = .ok (.aload_n 0, 1) := by decide +kernel
theorem dX5_init_10 : decode cX5_init 10 = .ok (.iconst 0, 1) := by decide +kernel
theorem dX5_init_11 : decode cX5_init 11 = .ok (.putfield 15, 3) := by decide +kernel
theorem dX5_init_14 : decode cX5_init 14 = .ok (.aload_n 0, 1) := by decide +kernel
theorem dX5_init_15 : decode cX5_init 15 = .ok (.bipush 40, 2) := by decide +kernel
theorem dX5_init_17 : decode cX5_init 17 = .ok (.newarray .long, 2) := by decide +kernel
theorem dX5_init_19 : decode cX5_init 19 = .ok (.putfield 18, 3) := by decide +kernel
theorem dX5_init_22 : decode cX5_init 22 = .ok (.return_, 1) := by decide +kernel
theorem dX5_isMissing_0 : decode cX5_isMissing 0 = .ok (.aload_n 0, 1) := by decide +kernel
theorem dX5_isMissing_1 : decode cX5_isMissing 1 = .ok (.getfield 9, 3) := by decide +kernel
theorem dX5_isMissing_4 : decode cX5_isMissing 4 = .ok (.ifCond .ne 7, 3) := by decide +kernel
theorem dX5_isMissing_7 : decode cX5_isMissing 7 = .ok (.iconst 1, 1) := by decide +kernel
theorem dX5_isMissing_8 : decode cX5_isMissing 8 = .ok (.goto 4, 3) := by decide +kernel
theorem dX5_isMissing_11 : decode cX5_isMissing 11 = .ok (.iconst 0, 1) := by decide +kernel
theorem dX5_isMissing_12 : decode cX5_isMissing 12 = .ok (.ireturn, 1) := by decide +kernel
theorem dX5_lay_0 : decode cX5_lay 0 = .ok (.aload_n 0, 1) := by decide +kernel
theorem dX5_lay_1 : decode cX5_lay 1 = .ok (.iload_n 1, 1) := by decide +kernel
theorem dX5_lay_2 : decode cX5_lay 2 = .ok (.putfield 9, 3) := by decide +kernel
theorem dX5_lay_5 : decode cX5_lay 5 = .ok (.aload_n 0, 1) := by decide +kernel
theorem dX5_lay_6 : decode cX5_lay 6 = .ok (.iload_n 2, 1) := by decide +kernel
theorem dX5_lay_7 : decode cX5_lay 7 = .ok (.putfield 15, 3) := by decide +kernel
theorem dX5_lay_10 : decode cX5_lay 10 = .ok (.aload_n 0, 1) := by decide +kernel
theorem dX5_lay_11 : decode cX5_lay 11 = .ok (.getfield 18, 3) := by decide +kernel
theorem dX5_lay_14 : decode cX5_lay 14 = .ok (.lconst 0, 1) := by decide +kernel
theorem dX5_lay_15 : decode cX5_lay 15 = .ok (.invokestatic 22, 3) := by decide +kernel
theorem dX5_lay_18 : decode cX5_lay 18 = .ok (.return_, 1) := by decide +kernel
theorem dX5_lowest_0 : decode cX5_lowest 0 = .ok (.aload_n 0, 1) := by decide +kernel
theorem dX5_lowest_1 : decode cX5_lowest 1 = .ok (.getfield 9, 3) := by decide +kernel
theorem dX5_lowest_4 : decode cX5_lowest 4 = .ok (.bipush 8, 2) := by decide +kernel
theorem dX5_lowest_6 : decode cX5_lowest 6 = .ok (.if_icmp .ne 10, 3) := by decide +kernel
theorem dX5_lowest_9 : decode cX5_lowest 9 = .ok (.lload_n 1, 1) := by decide +kernel
theorem dX5_lowest_10 : decode cX5_lowest 10 = .ok (.l2i, 1) := by decide +kernel
theorem dX5_lowest_11 : decode cX5_lowest 11 = .ok (.i2b, 1) := by decide +kernel
theorem dX5_lowest_12 : decode cX5_lowest 12 = .ok (.i2l, 1) := by decide +kernel
theorem dX5_lowest_13 : decode cX5_lowest 13 = .ok (.goto 20, 3) := by decide +kernel
theorem dX5_lowest_16 : decode cX5_lowest 16 = .ok (.aload_n 0, 1) := by decide +kernel
theorem dX5_lowest_17 : decode cX5_lowest 17 = .ok (.getfield 9, 3) := by decide +kernel
theorem dX5_lowest_20 : decode cX5_lowest 20 = .ok (.bipush 16, 2) := by decide +kernel
theorem dX5_lowest_22 : decode cX5_lowest 22 = .ok (.if_icmp .ne 10, 3) := by decide +kernel
theorem dX5_lowest_25 : decode cX5_lowest 25 = .ok (.lload_n 1, 1) := by decide +kernel
theorem dX5_lowest_26 : decode cX5_lowest 26 = .ok (.l2i, 1) := by decide +kernel
theorem dX5_lowest_27 : decode cX5_lowest 27 = .ok (.i2s, 1) := by decide +kernel
theorem dX5_lowest_28 : decode cX5_lowest 28 = .ok (.i2l, 1) := by decide +kernel
theorem dX5_lowest_29 : decode cX5_lowest 29 = .ok (.goto 4, 3) := by decide +kernel
theorem dX5_lowest_32 : decode cX5_lowest 32 = .ok (.lload_n 1, 1) := by decide +kernel
theorem dX5_lowest_33 : decode cX5_lowest 33 = .ok (.lreturn, 1) := by decide +kernel
theorem dX5_holds_0 : decode cX5_holds 0 = .ok (.iload_n 1, 1) := by decide +kernel
theorem dX5_holds_1 : decode cX5_holds 1 = .ok (.ifCond .lt 25, 3) := by decide +kernel
theorem dX5_holds_4 : decode cX5_holds 4 = .ok (.iload_n 2, 1) := by decide +kernel
theorem dX5_holds_5 : decode cX5_holds 5 = .ok (.ifCond .lt 21, 3) := by decide +kernel
theorem dX5_holds_8 : decode cX5_holds 8 = .ok (.iload_n 1, 1) := by decide +kernel
theorem dX5_holds_9 : decode cX5_holds 9 = .ok (.i2l, 1) := by decide +kernel
theorem dX5_holds_10 : decode cX5_holds 10 = .ok (.iload_n 2, 1) := by decide +kernel
theorem dX5_holds_11 : decode cX5_holds 11 = .ok (.i2l, 1) := by decide +kernel
theorem dX5_holds_12 : decode cX5_holds 12 = .ok (.ladd, 1) := by decide +kernel
theorem dX5_holds_13 : decode cX5_holds 13 = .ok (.aload_n 0, 1) := by decide +kernel
theorem dX5_holds_14 : decode cX5_holds 14 = .ok (.getfield 15, 3) := by decide +kernel
theorem dX5_holds_17 : decode cX5_holds 17 = .ok (.i2l, 1) := by decide +kernel
theorem dX5_holds_18 : decode cX5_holds 18 = .ok (.lcmp, 1) := by decide +kernel
theorem dX5_holds_19 : decode cX5_holds 19 = .ok (.ifCond .gt 7, 3) := by decide +kernel
theorem dX5_holds_22 : decode cX5_holds 22 = .ok (.iconst 1, 1) := by decide +kernel
theorem dX5_holds_23 : decode cX5_holds 23 = .ok (.goto 4, 3) := by decide +kernel
theorem dX5_holds_26 : decode cX5_holds 26 = .ok (.iconst 0, 1) := by decide +kernel
theorem dX5_holds_27 : decode cX5_holds 27 = .ok (.ireturn, 1) := by decide +kernel
theorem dX6_init_0 : decode cX6_init 0 = .ok (.aload_n 0, 1) := by decide +kernel
theorem dX6_init_1 : decode cX6_init 1 = .ok (.invokespecial 3, 3) := by decide +kernel
theorem dX6_init_4 : decode cX6_init 4 = .ok (.aload_n 0, 1) := by decide +kernel
theorem dX6_init_5 : decode cX6_init 5 = .ok (.bipush 80, 2) := by decide +kernel
theorem dX6_init_7 : decode cX6_init 7 = .ok (.newarray .char, 2) := by decide +kernel
theorem dX6_init_9 : decode cX6_init 9 = .ok (.putfield 9, 3) := by decide +kernel
theorem dX6_init_12 : decode cX6_init 12 = .ok (.aload_n 0, 1) := by decide +kernel
theorem dX6_init_13 : decode cX6_init 13 = .ok (.new 15, 3) := by decide +kernel
theorem dX6_init_16 : decode cX6_init 16 = .ok (.dup, 1) := by decide +kernel
theorem dX6_init_17 : decode cX6_init 17 = .ok (.invokespecial 17, 3) := by decide +kernel
theorem dX6_init_20 : decode cX6_init 20 = .ok (.putfield 18, 3) := by decide +kernel
theorem dX6_init_23 : decode cX6_init 23 = .ok (.aload_n 0, 1) := by decide +kernel
theorem dX6_init_24 : decode cX6_init 24 = .ok (.iconst 0, 1) := by decide +kernel
theorem dX6_init_25 : decode cX6_init 25 = .ok (.putfield 22, 3) := by decide +kernel
theorem dX6_init_28 : decode cX6_init 28 = .ok (.aload_n 0, 1) := by decide +kernel
theorem dX6_init_29 : decode cX6_init 29 = .ok (.iconst 0, 1) := by decide +kernel
theorem dX6_init_30 : decode cX6_init 30 = .ok (.putfield 26, 3) := by decide +kernel
theorem dX6_init_33 : decode cX6_init 33 = .ok (.aload_n 0, 1) := by decide +kernel
theorem dX6_init_34 : decode cX6_init 34 = .ok (.iconst 0, 1) := by decide +kernel
theorem dX6_init_35 : decode cX6_init 35 = .ok (.putfield 29, 3) := by decide +kernel
theorem dX6_init_38 : decode cX6_init 38 = .ok (.return_, 1) := by decide +kernel
theorem dX6_put_0 : decode cX6_put 0 = .ok (.aload_n 0, 1) := by decide +kernel
theorem dX6_put_1 : decode cX6_put 1 = .ok (.getfield 22, 3) := by decide +kernel
theorem dX6_put_4 : decode cX6_put 4 = .ok (.bipush 80, 2) := by decide +kernel
theorem dX6_put_6 : decode cX6_put 6 = .ok (.if_icmp .ge 24, 3) := by decide +kernel
theorem dX6_put_9 : decode cX6_put 9 = .ok (.aload_n 0, 1) := by decide +kernel
theorem dX6_put_10 : decode cX6_put 10 = .ok (.getfield 9, 3) := by decide +kernel
theorem dX6_put_13 : decode cX6_put 13 = .ok (.aload_n 0, 1) := by decide +kernel
theorem dX6_put_14 : decode cX6_put 14 = .ok (.getfield 22, 3) := by decide +kernel
theorem dX6_put_17 : decode cX6_put 17 = .ok (.iload_n 1, 1) := by decide +kernel
theorem dX6_put_18 : decode cX6_put 18 = .ok (.i2c, 1) := by decide +kernel
theorem dX6_put_19 : decode cX6_put 19 = .ok (.castore, 1) := by decide +kernel
theorem dX6_put_20 : decode cX6_put 20 = .ok (.aload_n 0, 1) := by decide +kernel
theorem dX6_put_21 : decode cX6_put 21 = .ok (.dup, 1) := by decide +kernel
theorem dX6_put_22 : decode cX6_put 22 = .ok (.getfield 22, 3) := by decide +kernel
theorem dX6_put_25 : decode cX6_put 25 = .ok (.iconst 1, 1) := by decide +kernel
theorem dX6_put_26 : decode cX6_put 26 = .ok (.iadd, 1) := by decide +kernel
theorem dX6_put_27 : decode cX6_put 27 = .ok (.putfield 22, 3) := by decide +kernel
theorem dX6_put_30 : decode cX6_put 30 = .ok (.return_, 1) := by decide +kernel
theorem dX6_parse_0 : decode cX6_parse 0 = .ok (.aload_n 0, 1) := by decide +kernel
theorem dX6_parse_1 : decode cX6_parse 1 = .ok (.iconst 0, 1) := by decide +kernel
theorem dX6_parse_2 : decode cX6_parse 2 = .ok (.putfield 26, 3) := by decide +kernel
theorem dX6_parse_5 : decode cX6_parse 5 = .ok (.aload_n 0, 1) := by decide +kernel
theorem dX6_parse_6 : decode cX6_parse 6 = .ok (.iconst 0, 1) := by decide +kernel
theorem dX6_parse_7 : decode cX6_parse 7 = .ok (.putfield 29, 3) := by decide +kernel
theorem dX6_parse_10 : decode cX6_parse 10 = .ok (.aload_n 0, 1) := by decide +kernel
theorem dX6_parse_11 : decode cX6_parse 11 = .ok (.getfield 18, 3) := by decide +kernel
theorem dX6_parse_14 : decode cX6_parse 14 = .ok (.iconst 0, 1) := by decide +kernel
theorem dX6_parse_15 : decode cX6_parse 15 = .ok (.putfield 33, 3) := by decide +kernel
theorem dX6_parse_18 : decode cX6_parse 18 = .ok (.aload_n 0, 1) := by decide +kernel
theorem dX6_parse_19 : decode cX6_parse 19 = .ok (.iconst 0, 1) := by decide +kernel
theorem dX6_parse_20 : decode cX6_parse 20 = .ok (.invokevirtual 36, 3) := by decide +kernel
theorem dX6_parse_23 : decode cX6_parse 23 = .ok (.aload_n 0, 1) := by decide +kernel
theorem dX6_parse_24 : decode cX6_parse 24 = .ok (.getfield 29, 3) := by decide +kernel
theorem dX6_parse_27 : decode cX6_parse 27 = .ok (.ifCond .ne 18, 3) := by decide +kernel
theorem dX6_parse_30 : decode cX6_parse 30 = .ok (.aload_n 0, 1) := by decide +kernel
theorem dX6_parse_31 : decode cX6_parse 31 = .ok (.getfield 26, 3) := by decide +kernel
theorem dX6_parse_34 : decode cX6_parse 34 = .ok (.aload_n 0, 1) := by decide +kernel
theorem dX6_parse_35 : decode cX6_parse 35 = .ok (.getfield 22, 3) := by decide +kernel
theorem dX6_parse_38 : decode cX6_parse 38 = .ok (.if_icmp .ne 7, 3) := by decide +kernel
theorem dX6_parse_41 : decode cX6_parse 41 = .ok (.iconst 1, 1) := by decide +kernel
theorem dX6_parse_42 : decode cX6_parse 42 = .ok (.goto 4, 3) := by decide +kernel
theorem dX6_parse_45 : decode cX6_parse 45 = .ok (.iconst 0, 1) := by decide +kernel
theorem dX6_parse_46 : decode cX6_parse 46 = .ok (.ireturn, 1) := by decide +kernel
theorem dX6_sees_0 : decode cX6_sees 0 = .ok (.aload_n 0, 1) := by decide +kernel
theorem dX6_sees_1 : decode cX6_sees 1 = .ok (.getfield 29, 3) := by decide +kernel
theorem dX6_sees_4 : decode cX6_sees 4 = .ok (.ifCond .ne 31, 3) := by decide +kernel
theorem dX6_sees_7 : decode cX6_sees 7 = .ok (.aload_n 0, 1) := by decide +kernel
theorem dX6_sees_8 : decode cX6_sees 8 = .ok (.getfield 26, 3) := by decide +kernel
theorem dX6_sees_11 : decode cX6_sees 11 = .ok (.aload_n 0, 1) := by decide +kernel
theorem dX6_sees_12 : decode cX6_sees 12 = .ok (.getfield 22, 3) := by decide +kernel
theorem dX6_sees_15 : decode cX6_sees 15 = .ok (.if_icmp .ge 20, 3) := by decide +kernel
theorem dX6_sees_18 : decode cX6_sees 18 = .ok (.aload_n 0, 1) := by decide +kernel
theorem dX6_sees_19 : decode cX6_sees 19 = .ok (.getfield 9, 3) := by decide +kernel
theorem dX6_sees_22 : decode cX6_sees 22 = .ok (.aload_n 0, 1) := by decide +kernel
theorem dX6_sees_23 : decode cX6_sees 23 = .ok (.getfield 26, 3) := by decide +kernel
theorem dX6_sees_26 : decode cX6_sees 26 = .ok (.caload, 1) := by decide +kernel
theorem dX6_sees_27 : decode cX6_sees 27 = .ok (.iload_n 1, 1) := by decide +kernel
theorem dX6_sees_28 : decode cX6_sees 28 = .ok (.if_icmp .ne 7, 3) := by decide +kernel
theorem dX6_sees_31 : decode cX6_sees 31 = .ok (.iconst 1, 1) := by decide +kernel
theorem dX6_sees_32 : decode cX6_sees 32 = .ok (.goto 4, 3) := by decide +kernel
theorem dX6_sees_35 : decode cX6_sees 35 = .ok (.iconst 0, 1) := by decide +kernel
theorem dX6_sees_36 : decode cX6_sees 36 = .ok (.ireturn, 1) := by decide +kernel
theorem dX6_takes_0 : decode cX6_takes 0 = .ok (.aload_n 0, 1) := by decide +kernel
theorem dX6_takes_1 : decode cX6_takes 1 = .ok (.iload_n 1, 1) := by decide +kernel
theorem dX6_takes_2 : decode cX6_takes 2 = .ok (.invokevirtual 40, 3) := by decide +kernel
theorem dX6_takes_5 : decode cX6_takes 5 = .ok (.istore_n 2, 1) := by decide +kernel
theorem dX6_takes_6 : decode cX6_takes 6 = .ok (.iload_n 2, 1) := by decide +kernel
theorem dX6_takes_7 : decode cX6_takes 7 = .ok (.ifCond .eq 13, 3) := by decide +kernel
theorem dX6_takes_10 : decode cX6_takes 10 = .ok (.aload_n 0, 1) := by decide +kernel
theorem dX6_takes_11 : decode cX6_takes 11 = .ok (.dup, 1) := by decide +kernel
theorem dX6_takes_12 : decode cX6_takes 12 = .ok (.getfield 26, 3) := by decide +kernel
theorem dX6_takes_15 : decode cX6_takes 15 = .ok (.iconst 1, 1) := by decide +kernel
theorem dX6_takes_16 : decode cX6_takes 16 = .ok (.iadd, 1) := by decide +kernel
theorem dX6_takes_17 : decode cX6_takes 17 = .ok (.putfield 26, 3) := by decide +kernel
theorem dX6_takes_20 : decode cX6_takes 20 = .ok (.iload_n 2, 1) := by decide +kernel
theorem dX6_takes_21 : decode cX6_takes 21 = .ok (.ireturn, 1) := by decide +kernel
theorem dX6_seesDigit_0 : decode cX6_seesDigit 0 = .ok (.aload_n 0, 1) := by decide +kernel
theorem dX6_seesDigit_1 : decode cX6_seesDigit 1 = .ok (.getfield 29, 3) := by decide +kernel
theorem dX6_seesDigit_4 : decode cX6_seesDigit 4 = .ok (.ifCond .ne 46, 3) := by decide +kernel
theorem dX6_seesDigit_7 : decode cX6_seesDigit 7 = .ok (.aload_n 0, 1) := by decide +kernel
theorem dX6_seesDigit_8 : decode cX6_seesDigit 8 = .ok (.getfield 26, 3) := by decide +kernel
theorem dX6_seesDigit_11 : decode cX6_seesDigit 11 = .ok (.aload_n 0, 1) := by decide +kernel
theorem dX6_seesDigit_12 : decode cX6_seesDigit 12 = .ok (.getfield 22, 3) := by decide +kernel
theorem dX6_seesDigit_15 : decode cX6_seesDigit 15 = .ok (.if_icmp .ge 35, 3) := by decide +kernel
theorem dX6_seesDigit_18 : decode cX6_seesDigit 18 = .ok (.aload_n 0, 1) := by decide +kernel
theorem dX6_seesDigit_19 : decode cX6_seesDigit 19 = .ok (.getfield 9, 3) := by decide +kernel
theorem dX6_seesDigit_22 : decode cX6_seesDigit 22 = .ok (.aload_n 0, 1) := by decide +kernel
theorem dX6_seesDigit_23 : decode cX6_seesDigit 23 = .ok (.getfield 26, 3) := by decide +kernel
theorem dX6_seesDigit_26 : decode cX6_seesDigit 26 = .ok (.caload, 1) := by decide +kernel
theorem dX6_seesDigit_27 : decode cX6_seesDigit 27 = .ok (.bipush 48, 2) := by decide +kernel
theorem dX6_seesDigit_29 : decode cX6_seesDigit 29 = .ok (.if_icmp .lt 21, 3) := by decide +kernel
theorem dX6_seesDigit_32 : decode cX6_seesDigit 32 = .ok (.aload_n 0, 1) := by decide +kernel
theorem dX6_seesDigit_33 : decode cX6_seesDigit 33 = .ok (.getfield 9, 3) := by decide +kernel
theorem dX6_seesDigit_36 : decode cX6_seesDigit 36 = .ok (.aload_n 0, 1) := by decide +kernel
theorem dX6_seesDigit_37 : decode cX6_seesDigit 37 = .ok (.getfield 26, 3) := by decide +kernel
theorem dX6_seesDigit_40 : decode cX6_seesDigit 40 = .ok (.caload, 1) := by decide +kernel
theorem dX6_seesDigit_41 : decode cX6_seesDigit 41 = .ok (.bipush 57, 2) := by decide +kernel
theorem dX6_seesDigit_43 : decode cX6_seesDigit 43 = .ok (.if_icmp .gt 7, 3) := by decide +kernel
theorem dX6_seesDigit_46 : decode cX6_seesDigit 46 = .ok (.iconst 1, 1) := by decide +kernel
theorem dX6_seesDigit_47 : decode cX6_seesDigit 47 = .ok (.goto 4, 3) := by decide +kernel
theorem dX6_seesDigit_50 : decode cX6_seesDigit 50 = .ok (.iconst 0, 1) := by decide +kernel
theorem dX6_seesDigit_51 : decode cX6_seesDigit 51 = .ok (.ireturn, 1) := by decide +kernel
theorem dX6_readT_0 : decode cX6_readT 0 = .ok (.aload_n 0, 1) := by decide +kernel
theorem dX6_readT_1 : decode cX6_readT 1 = .ok (.iload_n 1, 1) := by decide +kernel
theorem dX6_readT_2 : decode cX6_readT 2 = .ok (.invokevirtual 44, 3) := by decide +kernel
theorem dX6_readT_5 : decode cX6_readT 5 = .ok (.iconst 0, 1) := by decide +kernel
theorem dX6_readT_6 : decode cX6_readT 6 = .ok (.istore_n 2, 1) := by decide +kernel
theorem dX6_readT_7 : decode cX6_readT 7 = .ok (.iload_n 2, 1) := by decide +kernel
theorem dX6_readT_8 : decode cX6_readT 8 = .ok (.bipush 80, 2) := by decide +kernel
theorem dX6_readT_10 : decode cX6_readT 10 = .ok (.if_icmp .ge 32, 3) := by decide +kernel
theorem dX6_readT_13 : decode cX6_readT 13 = .ok (.aload_n 0, 1) := by decide +kernel
theorem dX6_readT_14 : decode cX6_readT 14 = .ok (.bipush 124, 2) := by decide +kernel
theorem dX6_readT_16 : decode cX6_readT 16 = .ok (.invokevirtual 47, 3) := by decide +kernel
theorem dX6_readT_19 : decode cX6_readT 19 = .ok (.ifCond .eq 23, 3) := by decide +kernel
theorem dX6_readT_22 : decode cX6_readT 22 = .ok (.aload_n 0, 1) := by decide +kernel
theorem dX6_readT_23 : decode cX6_readT 23 = .ok (.iload_n 1, 1) := by decide +kernel
theorem dX6_readT_24 : decode cX6_readT 24 = .ok (.invokevirtual 44, 3) := by decide +kernel
theorem dX6_readT_27 : decode cX6_readT 27 = .ok (.aload_n 0, 1) := by decide +kernel
theorem dX6_readT_28 : decode cX6_readT 28 = .ok (.getfield 18, 3) := by decide +kernel
theorem dX6_readT_31 : decode cX6_readT 31 = .ok (.bipush 124, 2) := by decide +kernel
theorem dX6_readT_33 : decode cX6_readT 33 = .ok (.invokevirtual 50, 3) := by decide +kernel
theorem dX6_readT_36 : decode cX6_readT 36 = .ok (.iinc 2 1, 3) := by decide +kernel
theorem dX6_readT_39 : decode cX6_readT 39 = .ok (.goto (-32), 3) := by decide +kernel
theorem dX6_readT_42 : decode cX6_readT 42 = .ok (.return_, 1) := by decide +kernel
theorem dX6_readA_0 : decode cX6_readA 0 = .ok (.aload_n 0, 1) := by decide +kernel
theorem dX6_readA_1 : decode cX6_readA 1 = .ok (.iload_n 1, 1) := by decide +kernel
theorem dX6_readA_2 : decode cX6_readA 2 = .ok (.invokevirtual 54, 3) := by decide +kernel
theorem dX6_readA_5 : decode cX6_readA 5 = .ok (.iconst 0, 1) := by decide +kernel
theorem dX6_readA_6 : decode cX6_readA 6 = .ok (.istore_n 2, 1) := by decide +kernel
theorem dX6_readA_7 : decode cX6_readA 7 = .ok (.iload_n 2, 1) := by decide +kernel
theorem dX6_readA_8 : decode cX6_readA 8 = .ok (.bipush 80, 2) := by decide +kernel
theorem dX6_readA_10 : decode cX6_readA 10 = .ok (.if_icmp .ge 32, 3) := by decide +kernel
theorem dX6_readA_13 : decode cX6_readA 13 = .ok (.aload_n 0, 1) := by decide +kernel
theorem dX6_readA_14 : decode cX6_readA 14 = .ok (.bipush 38, 2) := by decide +kernel
theorem dX6_readA_16 : decode cX6_readA 16 = .ok (.invokevirtual 47, 3) := by decide +kernel
theorem dX6_readA_19 : decode cX6_readA 19 = .ok (.ifCond .eq 23, 3) := by decide +kernel
theorem dX6_readA_22 : decode cX6_readA 22 = .ok (.aload_n 0, 1) := by decide +kernel
theorem dX6_readA_23 : decode cX6_readA 23 = .ok (.iload_n 1, 1) := by decide +kernel
theorem dX6_readA_24 : decode cX6_readA 24 = .ok (.invokevirtual 54, 3) := by decide +kernel
theorem dX6_readA_27 : decode cX6_readA 27 = .ok (.aload_n 0, 1) := by decide +kernel
theorem dX6_readA_28 : decode cX6_readA 28 = .ok (.getfield 18, 3) := by decide +kernel
theorem dX6_readA_31 : decode cX6_readA 31 = .ok (.bipush 38, 2) := by decide +kernel
theorem dX6_readA_33 : decode cX6_readA 33 = .ok (.invokevirtual 50, 3) := by decide +kernel
theorem dX6_readA_36 : decode cX6_readA 36 = .ok (.iinc 2 1, 3) := by decide +kernel
theorem dX6_readA_39 : decode cX6_readA 39 = .ok (.goto (-32), 3) := by decide +kernel
theorem dX6_readA_42 : decode cX6_readA 42 = .ok (.return_, 1) := by decide +kernel
theorem dX6_readB_0 : decode cX6_readB 0 = .ok (.aload_n 0, 1) := by decide +kernel
theorem dX6_readB_1 : decode cX6_readB 1 = .ok (.iload_n 1, 1) := by decide +kernel
theorem dX6_readB_2 : decode cX6_readB 2 = .ok (.invokevirtual 57, 3) := by decide +kernel
theorem dX6_readB_5 : decode cX6_readB 5 = .ok (.aload_n 0, 1) := by decide +kernel
theorem dX6_readB_6 : decode cX6_readB 6 = .ok (.bipush 60, 2) := by decide +kernel
theorem dX6_readB_8 : decode cX6_readB 8 = .ok (.invokevirtual 40, 3) := by decide +kernel
theorem dX6_readB_11 : decode cX6_readB 11 = .ok (.ifCond .ne 21, 3) := by decide +kernel
theorem dX6_readB_14 : decode cX6_readB 14 = .ok (.aload_n 0, 1) := by decide +kernel
theorem dX6_readB_15 : decode cX6_readB 15 = .ok (.bipush 61, 2) := by decide +kernel
theorem dX6_readB_17 : decode cX6_readB 17 = .ok (.invokevirtual 40, 3) := by decide +kernel
theorem dX6_readB_20 : decode cX6_readB 20 = .ok (.ifCond .ne 12, 3) := by decide +kernel
theorem dX6_readB_23 : decode cX6_readB 23 = .ok (.aload_n 0, 1) := by decide +kernel
theorem dX6_readB_24 : decode cX6_readB 24 = .ok (.bipush 62, 2) := by decide +kernel
theorem dX6_readB_26 : decode cX6_readB 26 = .ok (.invokevirtual 40, 3) := by decide +kernel
theorem dX6_readB_29 : decode cX6_readB 29 = .ok (.ifCond .eq 36, 3) := by decide +kernel
theorem dX6_readB_32 : decode cX6_readB 32 = .ok (.aload_n 0, 1) := by decide +kernel
theorem dX6_readB_33 : decode cX6_readB 33 = .ok (.getfield 9, 3) := by decide +kernel
theorem dX6_readB_36 : decode cX6_readB 36 = .ok (.aload_n 0, 1) := by decide +kernel
theorem dX6_readB_37 : decode cX6_readB 37 = .ok (.getfield 26, 3) := by decide +kernel
theorem dX6_readB_40 : decode cX6_readB 40 = .ok (.caload, 1) := by decide +kernel
theorem dX6_readB_41 : decode cX6_readB 41 = .ok (.istore_n 2, 1) := by decide +kernel
theorem dX6_readB_42 : decode cX6_readB 42 = .ok (.aload_n 0, 1) := by decide +kernel
theorem dX6_readB_43 : decode cX6_readB 43 = .ok (.dup, 1) := by decide +kernel
theorem dX6_readB_44 : decode cX6_readB 44 = .ok (.getfield 26, 3) := by decide +kernel
theorem dX6_readB_47 : decode cX6_readB 47 = .ok (.iconst 1, 1) := by decide +kernel
theorem dX6_readB_48 : decode cX6_readB 48 = .ok (.iadd, 1) := by decide +kernel
theorem dX6_readB_49 : decode cX6_readB 49 = .ok (.putfield 26, 3) := by decide +kernel
theorem dX6_readB_52 : decode cX6_readB 52 = .ok (.aload_n 0, 1) := by decide +kernel
theorem dX6_readB_53 : decode cX6_readB 53 = .ok (.iload_n 1, 1) := by decide +kernel
theorem dX6_readB_54 : decode cX6_readB 54 = .ok (.invokevirtual 57, 3) := by decide +kernel
theorem dX6_readB_57 : decode cX6_readB 57 = .ok (.aload_n 0, 1) := by decide +kernel
theorem dX6_readB_58 : decode cX6_readB 58 = .ok (.getfield 18, 3) := by decide +kernel
theorem dX6_readB_61 : decode cX6_readB 61 = .ok (.iload_n 2, 1) := by decide +kernel
theorem dX6_readB_62 : decode cX6_readB 62 = .ok (.invokevirtual 50, 3) := by decide +kernel
theorem dX6_readB_65 : decode cX6_readB 65 = .ok (.return_, 1) := by decide +kernel
theorem dX6_readS_0 : decode cX6_readS 0 = .ok (.aload_n 0, 1) := by decide +kernel
theorem dX6_readS_1 : decode cX6_readS 1 = .ok (.iload_n 1, 1) := by decide +kernel
theorem dX6_readS_2 : decode cX6_readS 2 = .ok (.invokevirtual 60, 3) := by decide +kernel
theorem dX6_readS_5 : decode cX6_readS 5 = .ok (.iconst 0, 1) := by decide +kernel
theorem dX6_readS_6 : decode cX6_readS 6 = .ok (.istore_n 2, 1) := by decide +kernel
theorem dX6_readS_7 : decode cX6_readS 7 = .ok (.iload_n 2, 1) := by decide +kernel
theorem dX6_readS_8 : decode cX6_readS 8 = .ok (.bipush 80, 2) := by decide +kernel
theorem dX6_readS_10 : decode cX6_readS 10 = .ok (.if_icmp .ge 60, 3) := by decide +kernel
theorem dX6_readS_13 : decode cX6_readS 13 = .ok (.aload_n 0, 1) := by decide +kernel
theorem dX6_readS_14 : decode cX6_readS 14 = .ok (.bipush 43, 2) := by decide +kernel
theorem dX6_readS_16 : decode cX6_readS 16 = .ok (.invokevirtual 40, 3) := by decide +kernel
theorem dX6_readS_19 : decode cX6_readS 19 = .ok (.ifCond .ne 12, 3) := by decide +kernel
theorem dX6_readS_22 : decode cX6_readS 22 = .ok (.aload_n 0, 1) := by decide +kernel
theorem dX6_readS_23 : decode cX6_readS 23 = .ok (.bipush 45, 2) := by decide +kernel
theorem dX6_readS_25 : decode cX6_readS 25 = .ok (.invokevirtual 40, 3) := by decide +kernel
theorem dX6_readS_28 : decode cX6_readS 28 = .ok (.ifCond .eq 42, 3) := by decide +kernel
theorem dX6_readS_31 : decode cX6_readS 31 = .ok (.aload_n 0, 1) := by decide +kernel
theorem dX6_readS_32 : decode cX6_readS 32 = .ok (.getfield 9, 3) := by decide +kernel
theorem dX6_readS_35 : decode cX6_readS 35 = .ok (.aload_n 0, 1) := by decide +kernel
theorem dX6_readS_36 : decode cX6_readS 36 = .ok (.getfield 26, 3) := by decide +kernel
theorem dX6_readS_39 : decode cX6_readS 39 = .ok (.caload, 1) := by decide +kernel
theorem dX6_readS_40 : decode cX6_readS 40 = .ok (.istore_n 3, 1) := by decide +kernel
theorem dX6_readS_41 : decode cX6_readS 41 = .ok (.aload_n 0, 1) := by decide +kernel
theorem dX6_readS_42 : decode cX6_readS 42 = .ok (.dup, 1) := by decide +kernel
theorem dX6_readS_43 : decode cX6_readS 43 = .ok (.getfield 26, 3) := by decide +kernel
theorem dX6_readS_46 : decode cX6_readS 46 = .ok (.iconst 1, 1) := by decide +kernel
theorem dX6_readS_47 : decode cX6_readS 47 = .ok (.iadd, 1) := by decide +kernel
theorem dX6_readS_48 : decode cX6_readS 48 = .ok (.putfield 26, 3) := by decide +kernel
theorem dX6_readS_51 : decode cX6_readS 51 = .ok (.aload_n 0, 1) := by decide +kernel
theorem dX6_readS_52 : decode cX6_readS 52 = .ok (.iload_n 1, 1) := by decide +kernel
theorem dX6_readS_53 : decode cX6_readS 53 = .ok (.invokevirtual 60, 3) := by decide +kernel
theorem dX6_readS_56 : decode cX6_readS 56 = .ok (.aload_n 0, 1) := by decide +kernel
theorem dX6_readS_57 : decode cX6_readS 57 = .ok (.getfield 18, 3) := by decide +kernel
theorem dX6_readS_60 : decode cX6_readS 60 = .ok (.iload_n 3, 1) := by decide +kernel
theorem dX6_readS_61 : decode cX6_readS 61 = .ok (.invokevirtual 50, 3) := by decide +kernel
theorem dX6_readS_64 : decode cX6_readS 64 = .ok (.iinc 2 1, 3) := by decide +kernel
theorem dX6_readS_67 : decode cX6_readS 67 = .ok (.goto (-60), 3) := by decide +kernel
theorem dX6_readS_70 : decode cX6_readS 70 = .ok (.return_, 1) := by decide +kernel
theorem dX6_readP_0 : decode cX6_readP 0 = .ok (.aload_n 0, 1) := by decide +kernel
theorem dX6_readP_1 : decode cX6_readP 1 = .ok (.iload_n 1, 1) := by decide +kernel
theorem dX6_readP_2 : decode cX6_readP 2 = .ok (.invokevirtual 63, 3) := by decide +kernel
theorem dX6_readP_5 : decode cX6_readP 5 = .ok (.iconst 0, 1) := by decide +kernel
theorem dX6_readP_6 : decode cX6_readP 6 = .ok (.istore_n 2, 1) := by decide +kernel
theorem dX6_readP_7 : decode cX6_readP 7 = .ok (.iload_n 2, 1) := by decide +kernel
theorem dX6_readP_8 : decode cX6_readP 8 = .ok (.bipush 80, 2) := by decide +kernel
theorem dX6_readP_10 : decode cX6_readP 10 = .ok (.if_icmp .ge 69, 3) := by decide +kernel
theorem dX6_readP_13 : decode cX6_readP 13 = .ok (.aload_n 0, 1) := by decide +kernel
theorem dX6_readP_14 : decode cX6_readP 14 = .ok (.bipush 42, 2) := by decide +kernel
theorem dX6_readP_16 : decode cX6_readP 16 = .ok (.invokevirtual 40, 3) := by decide +kernel
theorem dX6_readP_19 : decode cX6_readP 19 = .ok (.ifCond .ne 21, 3) := by decide +kernel
theorem dX6_readP_22 : decode cX6_readP 22 = .ok (.aload_n 0, 1) := by decide +kernel
theorem dX6_readP_23 : decode cX6_readP 23 = .ok (.bipush 47, 2) := by decide +kernel
theorem dX6_readP_25 : decode cX6_readP 25 = .ok (.invokevirtual 40, 3) := by decide +kernel
theorem dX6_readP_28 : decode cX6_readP 28 = .ok (.ifCond .ne 12, 3) := by decide +kernel
theorem dX6_readP_31 : decode cX6_readP 31 = .ok (.aload_n 0, 1) := by decide +kernel
theorem dX6_readP_32 : decode cX6_readP 32 = .ok (.bipush 37, 2) := by decide +kernel
theorem dX6_readP_34 : decode cX6_readP 34 = .ok (.invokevirtual 40, 3) := by decide +kernel
theorem dX6_readP_37 : decode cX6_readP 37 = .ok (.ifCond .eq 42, 3) := by decide +kernel
theorem dX6_readP_40 : decode cX6_readP 40 = .ok (.aload_n 0, 1) := by decide +kernel
theorem dX6_readP_41 : decode cX6_readP 41 = .ok (.getfield 9, 3) := by decide +kernel
theorem dX6_readP_44 : decode cX6_readP 44 = .ok (.aload_n 0, 1) := by decide +kernel
theorem dX6_readP_45 : decode cX6_readP 45 = .ok (.getfield 26, 3) := by decide +kernel
theorem dX6_readP_48 : decode cX6_readP 48 = .ok (.caload, 1) := by decide +kernel
theorem dX6_readP_49 : decode cX6_readP 49 = .ok (.istore_n 3, 1) := by decide +kernel
theorem dX6_readP_50 : decode cX6_readP 50 = .ok (.aload_n 0, 1) := by decide +kernel
theorem dX6_readP_51 : decode cX6_readP 51 = .ok (.dup, 1) := by decide +kernel
theorem dX6_readP_52 : decode cX6_readP 52 = .ok (.getfield 26, 3) := by decide +kernel
theorem dX6_readP_55 : decode cX6_readP 55 = .ok (.iconst 1, 1) := by decide +kernel
theorem dX6_readP_56 : decode cX6_readP 56 = .ok (.iadd, 1) := by decide +kernel
theorem dX6_readP_57 : decode cX6_readP 57 = .ok (.putfield 26, 3) := by decide +kernel
theorem dX6_readP_60 : decode cX6_readP 60 = .ok (.aload_n 0, 1) := by decide +kernel
theorem dX6_readP_61 : decode cX6_readP 61 = .ok (.iload_n 1, 1) := by decide +kernel
theorem dX6_readP_62 : decode cX6_readP 62 = .ok (.invokevirtual 63, 3) := by decide +kernel
theorem dX6_readP_65 : decode cX6_readP 65 = .ok (.aload_n 0, 1) := by decide +kernel
theorem dX6_readP_66 : decode cX6_readP 66 = .ok (.getfield 18, 3) := by decide +kernel
theorem dX6_readP_69 : decode cX6_readP 69 = .ok (.iload_n 3, 1) := by decide +kernel
theorem dX6_readP_70 : decode cX6_readP 70 = .ok (.invokevirtual 50, 3) := by decide +kernel
theorem dX6_readP_73 : decode cX6_readP 73 = .ok (.iinc 2 1, 3) := by decide +kernel
theorem dX6_readP_76 : decode cX6_readP 76 = .ok (.goto (-69), 3) := by decide +kernel
theorem dX6_readP_79 : decode cX6_readP 79 = .ok (.return_, 1) := by decide +kernel
theorem dX6_readQ_0 : decode cX6_readQ 0 = .ok (.aload_n 0, 1) := by decide +kernel
theorem dX6_readQ_1 : decode cX6_readQ 1 = .ok (.invokevirtual 66, 3) := by decide +kernel
theorem dX6_readQ_4 : decode cX6_readQ 4 = .ok (.ifCond .eq 10, 3) := by decide +kernel
theorem dX6_readQ_7 : decode cX6_readQ 7 = .ok (.aload_n 0, 1) := by decide +kernel
theorem dX6_readQ_8 : decode cX6_readQ 8 = .ok (.invokevirtual 70, 3) := by decide +kernel
theorem dX6_readQ_11 : decode cX6_readQ 11 = .ok (.goto 176, 3) := by decide +kernel
theorem dX6_readQ_14 : decode cX6_readQ 14 = .ok (.aload_n 0, 1) := by decide +kernel
theorem dX6_readQ_15 : decode cX6_readQ 15 = .ok (.getfield 29, 3) := by decide +kernel
theorem dX6_readQ_18 : decode cX6_readQ 18 = .ok (.ifCond .ne 60, 3) := by decide +kernel
theorem dX6_readQ_21 : decode cX6_readQ 21 = .ok (.aload_n 0, 1) := by decide +kernel
theorem dX6_readQ_22 : decode cX6_readQ 22 = .ok (.getfield 26, 3) := by decide +kernel
theorem dX6_readQ_25 : decode cX6_readQ 25 = .ok (.aload_n 0, 1) := by decide +kernel
theorem dX6_readQ_26 : decode cX6_readQ 26 = .ok (.getfield 22, 3) := by decide +kernel
theorem dX6_readQ_29 : decode cX6_readQ 29 = .ok (.if_icmp .ge 49, 3) := by decide +kernel
theorem dX6_readQ_32 : decode cX6_readQ 32 = .ok (.ldc 73, 2) := by decide +kernel
theorem dX6_readQ_34 : decode cX6_readQ 34 = .ok (.aload_n 0, 1) := by decide +kernel
theorem dX6_readQ_35 : decode cX6_readQ 35 = .ok (.getfield 9, 3) := by decide +kernel
theorem dX6_readQ_38 : decode cX6_readQ 38 = .ok (.aload_n 0, 1) := by decide +kernel
theorem dX6_readQ_39 : decode cX6_readQ 39 = .ok (.getfield 26, 3) := by decide +kernel
theorem dX6_readQ_42 : decode cX6_readQ 42 = .ok (.caload, 1) := by decide +kernel
theorem dX6_readQ_43 : decode cX6_readQ 43 = .ok (.invokevirtual 75, 3) := by decide +kernel
theorem dX6_readQ_46 : decode cX6_readQ 46 = .ok (.ifCond .lt 32, 3) := by decide +kernel
theorem dX6_readQ_49 : decode cX6_readQ 49 = .ok (.aload_n 0, 1) := by decide +kernel
theorem dX6_readQ_50 : decode cX6_readQ 50 = .ok (.getfield 18, 3) := by decide +kernel
theorem dX6_readQ_53 : decode cX6_readQ 53 = .ok (.aload_n 0, 1) := by decide +kernel
theorem dX6_readQ_54 : decode cX6_readQ 54 = .ok (.getfield 9, 3) := by decide +kernel
theorem dX6_readQ_57 : decode cX6_readQ 57 = .ok (.aload_n 0, 1) := by decide +kernel
theorem dX6_readQ_58 : decode cX6_readQ 58 = .ok (.getfield 26, 3) := by decide +kernel
theorem dX6_readQ_61 : decode cX6_readQ 61 = .ok (.caload, 1) := by decide +kernel
theorem dX6_readQ_62 : decode cX6_readQ 62 = .ok (.invokevirtual 50, 3) := by decide +kernel
theorem dX6_readQ_65 : decode cX6_readQ 65 = .ok (.aload_n 0, 1) := by decide +kernel
theorem dX6_readQ_66 : decode cX6_readQ 66 = .ok (.dup, 1) := by decide +kernel
theorem dX6_readQ_67 : decode cX6_readQ 67 = .ok (.getfield 26, 3) := by decide +kernel
theorem dX6_readQ_70 : decode cX6_readQ 70 = .ok (.iconst 1, 1) := by decide +kernel
theorem dX6_readQ_71 : decode cX6_readQ 71 = .ok (.iadd, 1) := by decide +kernel
theorem dX6_readQ_72 : decode cX6_readQ 72 = .ok (.putfield 26, 3) := by decide +kernel
theorem dX6_readQ_75 : decode cX6_readQ 75 = .ok (.goto 112, 3) := by decide +kernel
theorem dX6_readQ_78 : decode cX6_readQ 78 = .ok (.iload_n 1, 1) := by decide +kernel
theorem dX6_readQ_79 : decode cX6_readQ 79 = .ok (.iconst 5, 1) := by decide +kernel
theorem dX6_readQ_80 : decode cX6_readQ 80 = .ok (.if_icmp .ge 31, 3) := by decide +kernel
theorem dX6_readQ_83 : decode cX6_readQ 83 = .ok (.aload_n 0, 1) := by decide +kernel
theorem dX6_readQ_84 : decode cX6_readQ 84 = .ok (.bipush 33, 2) := by decide +kernel
theorem dX6_readQ_86 : decode cX6_readQ 86 = .ok (.invokevirtual 47, 3) := by decide +kernel
theorem dX6_readQ_89 : decode cX6_readQ 89 = .ok (.ifCond .eq 22, 3) := by decide +kernel
theorem dX6_readQ_92 : decode cX6_readQ 92 = .ok (.aload_n 0, 1) := by decide +kernel
theorem dX6_readQ_93 : decode cX6_readQ 93 = .ok (.iload_n 1, 1) := by decide +kernel
theorem dX6_readQ_94 : decode cX6_readQ 94 = .ok (.iconst 1, 1) := by decide +kernel
theorem dX6_readQ_95 : decode cX6_readQ 95 = .ok (.iadd, 1) := by decide +kernel
theorem dX6_readQ_96 : decode cX6_readQ 96 = .ok (.invokevirtual 63, 3) := by decide +kernel
theorem dX6_readQ_99 : decode cX6_readQ 99 = .ok (.aload_n 0, 1) := by decide +kernel
theorem dX6_readQ_100 : decode cX6_readQ 100 = .ok (.getfield 18, 3) := by decide +kernel
theorem dX6_readQ_103 : decode cX6_readQ 103 = .ok (.bipush 33, 2) := by decide +kernel
theorem dX6_readQ_105 : decode cX6_readQ 105 = .ok (.invokevirtual 50, 3) := by decide +kernel
theorem dX6_readQ_108 : decode cX6_readQ 108 = .ok (.goto 79, 3) := by decide +kernel
theorem dX6_readQ_111 : decode cX6_readQ 111 = .ok (.iload_n 1, 1) := by decide +kernel
theorem dX6_readQ_112 : decode cX6_readQ 112 = .ok (.iconst 5, 1) := by decide +kernel
theorem dX6_readQ_113 : decode cX6_readQ 113 = .ok (.if_icmp .ge 31, 3) := by decide +kernel
theorem dX6_readQ_116 : decode cX6_readQ 116 = .ok (.aload_n 0, 1) := by decide +kernel
theorem dX6_readQ_117 : decode cX6_readQ 117 = .ok (.bipush 45, 2) := by decide +kernel
theorem dX6_readQ_119 : decode cX6_readQ 119 = .ok (.invokevirtual 47, 3) := by decide +kernel
theorem dX6_readQ_122 : decode cX6_readQ 122 = .ok (.ifCond .eq 22, 3) := by decide +kernel
theorem dX6_readQ_125 : decode cX6_readQ 125 = .ok (.aload_n 0, 1) := by decide +kernel
theorem dX6_readQ_126 : decode cX6_readQ 126 = .ok (.iload_n 1, 1) := by decide +kernel
theorem dX6_readQ_127 : decode cX6_readQ 127 = .ok (.iconst 1, 1) := by decide +kernel
theorem dX6_readQ_128 : decode cX6_readQ 128 = .ok (.iadd, 1) := by decide +kernel
theorem dX6_readQ_129 : decode cX6_readQ 129 = .ok (.invokevirtual 63, 3) := by decide +kernel
theorem dX6_readQ_132 : decode cX6_readQ 132 = .ok (.aload_n 0, 1) := by decide +kernel
theorem dX6_readQ_133 : decode cX6_readQ 133 = .ok (.getfield 18, 3) := by decide +kernel
theorem dX6_readQ_136 : decode cX6_readQ 136 = .ok (.bipush 126, 2) := by decide +kernel
theorem dX6_readQ_138 : decode cX6_readQ 138 = .ok (.invokevirtual 50, 3) := by decide +kernel
theorem dX6_readQ_141 : decode cX6_readQ 141 = .ok (.goto 46, 3) := by decide +kernel
theorem dX6_readQ_144 : decode cX6_readQ 144 = .ok (.iload_n 1, 1) := by decide +kernel
theorem dX6_readQ_145 : decode cX6_readQ 145 = .ok (.iconst 5, 1) := by decide +kernel
theorem dX6_readQ_146 : decode cX6_readQ 146 = .ok (.if_icmp .ge 36, 3) := by decide +kernel
theorem dX6_readQ_149 : decode cX6_readQ 149 = .ok (.aload_n 0, 1) := by decide +kernel
theorem dX6_readQ_150 : decode cX6_readQ 150 = .ok (.bipush 40, 2) := by decide +kernel
theorem dX6_readQ_152 : decode cX6_readQ 152 = .ok (.invokevirtual 47, 3) := by decide +kernel
theorem dX6_readQ_155 : decode cX6_readQ 155 = .ok (.ifCond .eq 27, 3) := by decide +kernel
theorem dX6_readQ_158 : decode cX6_readQ 158 = .ok (.aload_n 0, 1) := by decide +kernel
theorem dX6_readQ_159 : decode cX6_readQ 159 = .ok (.iload_n 1, 1) := by decide +kernel
theorem dX6_readQ_160 : decode cX6_readQ 160 = .ok (.iconst 1, 1) := by decide +kernel
theorem dX6_readQ_161 : decode cX6_readQ 161 = .ok (.iadd, 1) := by decide +kernel
theorem dX6_readQ_162 : decode cX6_readQ 162 = .ok (.invokevirtual 36, 3) := by decide +kernel
theorem dX6_readQ_165 : decode cX6_readQ 165 = .ok (.aload_n 0, 1) := by decide +kernel
theorem dX6_readQ_166 : decode cX6_readQ 166 = .ok (.bipush 41, 2) := by decide +kernel
theorem dX6_readQ_168 : decode cX6_readQ 168 = .ok (.invokevirtual 47, 3) := by decide +kernel
theorem dX6_readQ_171 : decode cX6_readQ 171 = .ok (.ifCond .ne 16, 3) := by decide +kernel
theorem dX6_readQ_174 : decode cX6_readQ 174 = .ok (.aload_n 0, 1) := by decide +kernel
theorem dX6_readQ_175 : decode cX6_readQ 175 = .ok (.iconst 1, 1) := by decide +kernel
theorem dX6_readQ_176 : decode cX6_readQ 176 = .ok (.putfield 29, 3) := by decide +kernel
theorem dX6_readQ_179 : decode cX6_readQ 179 = .ok (.goto 8, 3) := by decide +kernel
theorem dX6_readQ_182 : decode cX6_readQ 182 = .ok (.aload_n 0, 1) := by decide +kernel
theorem dX6_readQ_183 : decode cX6_readQ 183 = .ok (.iconst 1, 1) := by decide +kernel
theorem dX6_readQ_184 : decode cX6_readQ 184 = .ok (.putfield 29, 3) := by decide +kernel
theorem dX6_readQ_187 : decode cX6_readQ 187 = .ok (.return_, 1) := by decide +kernel
theorem dX6_readNumber_0 : decode cX6_readNumber 0 = .ok (.iconst 0, 1) := by decide +kernel
theorem dX6_readNumber_1 : decode cX6_readNumber 1 = .ok (.istore_n 1, 1) := by decide +kernel
theorem dX6_readNumber_2 : decode cX6_readNumber 2 = .ok (.iconst 0, 1) := by decide +kernel
theorem dX6_readNumber_3 : decode cX6_readNumber 3 = .ok (.istore_n 2, 1) := by decide +kernel
theorem dX6_readNumber_4 : decode cX6_readNumber 4 = .ok (.iload_n 2, 1) := by decide +kernel
theorem dX6_readNumber_5 : decode cX6_readNumber 5 = .ok (.iconst 4, 1) := by decide +kernel
theorem dX6_readNumber_6 : decode cX6_readNumber 6 = .ok (.if_icmp .ge 44, 3) := by decide +kernel
theorem dX6_readNumber_9 : decode cX6_readNumber 9 = .ok (.aload_n 0, 1) := by decide +kernel
theorem dX6_readNumber_10 : decode cX6_readNumber 10 = .ok (.invokevirtual 66, 3) := by decide +kernel
theorem dX6_readNumber_13 : decode cX6_readNumber 13 = .ok (.ifCond .eq 37, 3) := by decide +kernel
theorem dX6_readNumber_16 : decode cX6_readNumber 16 = .ok (.iload_n 1, 1) := by decide +kernel
theorem dX6_readNumber_17 : decode cX6_readNumber 17 = .ok (.bipush 10, 2) := by decide +kernel
theorem dX6_readNumber_19 : decode cX6_readNumber 19 = .ok (.imul, 1) := by decide +kernel
theorem dX6_readNumber_20 : decode cX6_readNumber 20 = .ok (.aload_n 0, 1) := by decide +kernel
theorem dX6_readNumber_21 : decode cX6_readNumber 21 = .ok (.getfield 9, 3) := by decide +kernel
theorem dX6_readNumber_24 : decode cX6_readNumber 24 = .ok (.aload_n 0, 1) := by decide +kernel
theorem dX6_readNumber_25 : decode cX6_readNumber 25 = .ok (.getfield 26, 3) := by decide +kernel
theorem dX6_readNumber_28 : decode cX6_readNumber 28 = .ok (.caload, 1) := by decide +kernel
theorem dX6_readNumber_29 : decode cX6_readNumber 29 = .ok (.bipush 48, 2) := by decide +kernel
theorem dX6_readNumber_31 : decode cX6_readNumber 31 = .ok (.isub, 1) := by decide +kernel
theorem dX6_readNumber_32 : decode cX6_readNumber 32 = .ok (.iadd, 1) := by decide +kernel
theorem dX6_readNumber_33 : decode cX6_readNumber 33 = .ok (.istore_n 1, 1) := by decide +kernel
theorem dX6_readNumber_34 : decode cX6_readNumber 34 = .ok (.aload_n 0, 1) := by decide +kernel
theorem dX6_readNumber_35 : decode cX6_readNumber 35 = .ok (.dup, 1) := by decide +kernel
theorem dX6_readNumber_36 : decode cX6_readNumber 36 = .ok (.getfield 26, 3) := by decide +kernel
theorem dX6_readNumber_39 : decode cX6_readNumber 39 = .ok (.iconst 1, 1) := by decide +kernel
theorem dX6_readNumber_40 : decode cX6_readNumber 40 = .ok (.iadd, 1) := by decide +kernel
theorem dX6_readNumber_41 : decode cX6_readNumber 41 = .ok (.putfield 26, 3) := by decide +kernel
theorem dX6_readNumber_44 : decode cX6_readNumber 44 = .ok (.iinc 2 1, 3) := by decide +kernel
theorem dX6_readNumber_47 : decode cX6_readNumber 47 = .ok (.goto (-43), 3) := by decide +kernel
theorem dX6_readNumber_50 : decode cX6_readNumber 50 = .ok (.aload_n 0, 1) := by decide +kernel
theorem dX6_readNumber_51 : decode cX6_readNumber 51 = .ok (.getfield 18, 3) := by decide +kernel
theorem dX6_readNumber_54 : decode cX6_readNumber 54 = .ok (.iload_n 1, 1) := by decide +kernel
theorem dX6_readNumber_55 : decode cX6_readNumber 55 = .ok (.invokevirtual 81, 3) := by decide +kernel
theorem dX6_readNumber_58 : decode cX6_readNumber 58 = .ok (.return_, 1) := by decide +kernel
theorem dX7_init_0 : decode cX7_init 0 = .ok (.aload_n 0, 1) := by decide +kernel
theorem dX7_init_1 : decode cX7_init 1 = .ok (.invokespecial 1, 3) := by decide +kernel
theorem dX7_init_4 : decode cX7_init 4 = .ok (.aload_n 0, 1) := by decide +kernel
theorem dX7_init_5 : decode cX7_init 5 = .ok (.new 7, 3) := by decide +kernel
theorem dX7_init_8 : decode cX7_init 8 = .ok (.dup, 1) := by decide +kernel
theorem dX7_init_9 : decode cX7_init 9 = .ok (.invokespecial 9, 3) := by decide +kernel
theorem dX7_init_12 : decode cX7_init 12 = .ok (.putfield 10, 3) := by decide +kernel
theorem dX7_init_15 : decode cX7_init 15 = .ok (.aload_n 0, 1) := by decide +kernel
theorem dX7_init_16 : decode cX7_init 16 = .ok (.new 7, 3) := by decide +kernel
theorem dX7_init_19 : decode cX7_init 19 = .ok (.dup, 1) := by decide +kernel
theorem dX7_init_20 : decode cX7_init 20 = .ok (.invokespecial 9, 3) := by decide +kernel
theorem dX7_init_23 : decode cX7_init 23 = .ok (.putfield 16, 3) := by decide +kernel
theorem dX7_init_26 : decode cX7_init 26 = .ok (.aload_n 0, 1) := by decide +kernel
theorem dX7_init_27 : decode cX7_init 27 = .ok (.new 7, 3) := by decide +kernel
theorem dX7_init_30 : decode cX7_init 30 = .ok (.dup, 1) := by decide +kernel
theorem dX7_init_31 : decode cX7_init 31 = .ok (.invokespecial 9, 3) := by decide +kernel
theorem dX7_init_34 : decode cX7_init 34 = .ok (.putfield 19, 3) := by decide +kernel
theorem dX7_init_37 : decode cX7_init 37 = .ok (.aload_n 0, 1) := by decide +kernel
theorem dX7_init_38 : decode cX7_init 38 = .ok (.new 22, 3) := by decide +kernel
theorem dX7_init_41 : decode cX7_init 41 = .ok (.dup, 1) := by decide +kernel
theorem dX7_init_42 : decode cX7_init 42 = .ok (.aload_n 0, 1) := by decide +kernel
theorem dX7_init_43 : decode cX7_init 43 = .ok (.getfield 10, 3) := by decide +kernel
theorem dX7_init_46 : decode cX7_init 46 = .ok (.invokespecial 24, 3) := by decide +kernel
theorem dX7_init_49 : decode cX7_init 49 = .ok (.putfield 27, 3) := by decide +kernel
theorem dX7_init_52 : decode cX7_init 52 = .ok (.aload_n 0, 1) := by decide +kernel
theorem dX7_init_53 : decode cX7_init 53 = .ok (.new 31, 3) := by decide +kernel
theorem dX7_init_56 : decode cX7_init 56 = .ok (.dup, 1) := by decide +kernel
theorem dX7_init_57 : decode cX7_init 57 = .ok (.invokespecial 33, 3) := by decide +kernel
theorem dX7_init_60 : decode cX7_init 60 = .ok (.putfield 34, 3) := by decide +kernel
theorem dX7_init_63 : decode cX7_init 63 = .ok (.aload_n 0, 1) := by decide +kernel
theorem dX7_init_64 : decode cX7_init 64 = .ok (.iconst 4, 1) := by decide +kernel
theorem dX7_init_65 : decode cX7_init 65 = .ok (.anewarray 38, 3) := by decide +kernel
theorem dX7_init_68 : decode cX7_init 68 = .ok (.putfield 40, 3) := by decide +kernel
theorem dX7_init_71 : decode cX7_init 71 = .ok (.aload_n 0, 1) := by decide +kernel
theorem dX7_init_72 : decode cX7_init 72 = .ok (.bipush 7, 2) := by decide +kernel
theorem dX7_init_74 : decode cX7_init 74 = .ok (.newarray .int, 2) := by decide +kernel
theorem dX7_init_76 : decode cX7_init 76 = .ok (.putfield 44, 3) := by decide +kernel
theorem dX7_init_79 : decode cX7_init 79 = .ok (.aload_n 0, 1) := by decide +kernel
theorem dX7_init_80 : decode cX7_init 80 = .ok (.iconst 0, 1) := by decide +kernel
theorem dX7_init_81 : decode cX7_init 81 = .ok (.putfield 48, 3) := by decide +kernel
theorem dX7_init_84 : decode cX7_init 84 = .ok (.iconst 0, 1) := by decide +kernel
theorem dX7_init_85 : decode cX7_init 85 = .ok (.istore_n 1, 1) := by decide +kernel
theorem dX7_init_86 : decode cX7_init 86 = .ok (.iload_n 1, 1) := by decide +kernel
theorem dX7_init_87 : decode cX7_init 87 = .ok (.iconst 4, 1) := by decide +kernel
theorem dX7_init_88 : decode cX7_init 88 = .ok (.if_icmp .ge 22, 3) := by decide +kernel
theorem dX7_init_91 : decode cX7_init 91 = .ok (.aload_n 0, 1) := by decide +kernel
theorem dX7_init_92 : decode cX7_init 92 = .ok (.getfield 40, 3) := by decide +kernel
theorem dX7_init_95 : decode cX7_init 95 = .ok (.iload_n 1, 1) := by decide +kernel
theorem dX7_init_96 : decode cX7_init 96 = .ok (.new 38, 3) := by decide +kernel
theorem dX7_init_99 : decode cX7_init 99 = .ok (.dup, 1) := by decide +kernel
theorem dX7_init_100 : decode cX7_init 100 = .ok (.invokespecial 52, 3) := by decide +kernel
theorem dX7_init_103 : decode cX7_init 103 = .ok (.aastore, 1) := by decide +kernel
theorem dX7_init_104 : decode cX7_init 104 = .ok (.iinc 1 1, 3) := by decide +kernel
theorem dX7_init_107 : decode cX7_init 107 = .ok (.goto (-21), 3) := by decide +kernel
theorem dX7_init_110 : decode cX7_init 110 = .ok (.return_, 1) := by decide +kernel
theorem dX7_person_0 : decode cX7_person 0 = .ok (.iload_n 1, 1) := by decide +kernel
theorem dX7_person_1 : decode cX7_person 1 = .ok (.iconst 0, 1) := by decide +kernel
theorem dX7_person_2 : decode cX7_person 2 = .ok (.bipush 6, 2) := by decide +kernel
theorem dX7_person_4 : decode cX7_person 4 = .ok (.invokestatic 53, 3) := by decide +kernel
theorem dX7_person_7 : decode cX7_person 7 = .ok (.ifCond .eq 21, 3) := by decide +kernel
theorem dX7_person_10 : decode cX7_person 10 = .ok (.iload_n 2, 1) := by decide +kernel
theorem dX7_person_11 : decode cX7_person 11 = .ok (.bipush 20, 2) := by decide +kernel
theorem dX7_person_13 : decode cX7_person 13 = .ok (.bipush 99, 2) := by decide +kernel
theorem dX7_person_15 : decode cX7_person 15 = .ok (.invokestatic 53, 3) := by decide +kernel
theorem dX7_person_18 : decode cX7_person 18 = .ok (.ifCond .eq 10, 3) := by decide +kernel
theorem dX7_person_21 : decode cX7_person 21 = .ok (.iload_n 3, 1) := by decide +kernel
theorem dX7_person_22 : decode cX7_person 22 = .ok (.invokestatic 57, 3) := by decide +kernel
theorem dX7_person_25 : decode cX7_person 25 = .ok (.ifCond .ne 10, 3) := by decide +kernel
theorem dX7_person_28 : decode cX7_person 28 = .ok (.aload_n 0, 1) := by decide +kernel
theorem dX7_person_29 : decode cX7_person 29 = .ok (.ldc 61, 2) := by decide +kernel
theorem dX7_person_31 : decode cX7_person 31 = .ok (.invokevirtual 62, 3) := by decide +kernel
theorem dX7_person_34 : decode cX7_person 34 = .ok (.ireturn, 1) := by decide +kernel
theorem dX7_person_35 : decode cX7_person 35 = .ok (.aload_n 0, 1) := by decide +kernel
theorem dX7_person_36 : decode cX7_person 36 = .ok (.getfield 10, 3) := by decide +kernel
theorem dX7_person_39 : decode cX7_person 39 = .ok (.getfield 66, 3) := by decide +kernel
theorem dX7_person_42 : decode cX7_person 42 = .ok (.getfield 70, 3) := by decide +kernel
theorem dX7_person_45 : decode cX7_person 45 = .ok (.bipush 10, 2) := by decide +kernel
theorem dX7_person_47 : decode cX7_person 47 = .ok (.if_icmp .lt 10, 3) := by decide +kernel
theorem dX7_person_50 : decode cX7_person 50 = .ok (.aload_n 0, 1) := by decide +kernel
theorem dX7_person_51 : decode cX7_person 51 = .ok (.ldc 76, 2) := by decide +kernel
theorem dX7_person_53 : decode cX7_person 53 = .ok (.invokevirtual 62, 3) := by decide +kernel
theorem dX7_person_56 : decode cX7_person 56 = .ok (.ireturn, 1) := by decide +kernel
theorem dX7_person_57 : decode cX7_person 57 = .ok (.aload_n 0, 1) := by decide +kernel
theorem dX7_person_58 : decode cX7_person 58 = .ok (.getfield 10, 3) := by decide +kernel
theorem dX7_person_61 : decode cX7_person 61 = .ok (.getfield 66, 3) := by decide +kernel
theorem dX7_person_64 : decode cX7_person 64 = .ok (.iload_n 1, 1) := by decide +kernel
theorem dX7_person_65 : decode cX7_person 65 = .ok (.iload_n 2, 1) := by decide +kernel
theorem dX7_person_66 : decode cX7_person 66 = .ok (.iload_n 3, 1) := by decide +kernel
theorem dX7_person_67 : decode cX7_person 67 = .ok (.invokevirtual 77, 3) := by decide +kernel
theorem dX7_person_70 : decode cX7_person 70 = .ok (.ireturn, 1) := by decide +kernel
theorem dX7_of_0 : decode cX7_of 0 = .ok (.aload_n 0, 1) := by decide +kernel
theorem dX7_of_1 : decode cX7_of 1 = .ok (.iload_n 1, 1) := by decide +kernel
theorem dX7_of_2 : decode cX7_of 2 = .ok (.invokevirtual 81, 3) := by decide +kernel
theorem dX7_of_5 : decode cX7_of 5 = .ok (.ifCond .eq 13, 3) := by decide +kernel
theorem dX7_of_8 : decode cX7_of 8 = .ok (.iload_n 2, 1) := by decide +kernel
theorem dX7_of_9 : decode cX7_of 9 = .ok (.iconst 0, 1) := by decide +kernel
theorem dX7_of_10 : decode cX7_of 10 = .ok (.bipush 7, 2) := by decide +kernel
theorem dX7_of_12 : decode cX7_of 12 = .ok (.invokestatic 53, 3) := by decide +kernel
theorem dX7_of_15 : decode cX7_of 15 = .ok (.ifCond .ne 10, 3) := by decide +kernel
theorem dX7_of_18 : decode cX7_of 18 = .ok (.aload_n 0, 1) := by decide +kernel
theorem dX7_of_19 : decode cX7_of 19 = .ok (.ldc 61, 2) := by decide +kernel
theorem dX7_of_21 : decode cX7_of 21 = .ok (.invokevirtual 62, 3) := by decide +kernel
theorem dX7_of_24 : decode cX7_of 24 = .ok (.ireturn, 1) := by decide +kernel
theorem dX7_of_25 : decode cX7_of 25 = .ok (.iload_n 2, 1) := by decide +kernel
theorem dX7_of_26 : decode cX7_of 26 = .ok (.tableswitch 88 4 7 #[30, 43, 63, 75], 30) := by decide +kernel
theorem dX7_of_56 : decode cX7_of 56 = .ok (.aload_n 0, 1) := by decide +kernel
theorem dX7_of_57 : decode cX7_of 57 = .ok (.getfield 10, 3) := by decide +kernel
theorem dX7_of_60 : decode cX7_of 60 = .ok (.getfield 84, 3) := by decide +kernel
theorem dX7_of_63 : decode cX7_of 63 = .ok (.getfield 88, 3) := by decide +kernel
theorem dX7_of_66 : decode cX7_of 66 = .ok (.iload_n 1, 1) := by decide +kernel
theorem dX7_of_67 : decode cX7_of 67 = .ok (.iaload, 1) := by decide +kernel
theorem dX7_of_68 : decode cX7_of 68 = .ok (.ireturn, 1) := by decide +kernel
theorem dX7_of_69 : decode cX7_of 69 = .ok (.aload_n 0, 1) := by decide +kernel
theorem dX7_of_70 : decode cX7_of 70 = .ok (.getfield 10, 3) := by decide +kernel
theorem dX7_of_73 : decode cX7_of 73 = .ok (.getfield 66, 3) := by decide +kernel
theorem dX7_of_76 : decode cX7_of 76 = .ok (.iload_n 1, 1) := by decide +kernel
theorem dX7_of_77 : decode cX7_of 77 = .ok (.invokevirtual 93, 3) := by decide +kernel
theorem dX7_of_80 : decode cX7_of 80 = .ok (.ifCond .eq 7, 3) := by decide +kernel
theorem dX7_of_83 : decode cX7_of 83 = .ok (.iconst 0, 1) := by decide +kernel
theorem dX7_of_84 : decode cX7_of 84 = .ok (.goto 4, 3) := by decide +kernel
theorem dX7_of_87 : decode cX7_of 87 = .ok (.iconst 1, 1) := by decide +kernel
theorem dX7_of_88 : decode cX7_of 88 = .ok (.ireturn, 1) := by decide +kernel
theorem dX7_of_89 : decode cX7_of 89 = .ok (.aload_n 0, 1) := by decide +kernel
theorem dX7_of_90 : decode cX7_of 90 = .ok (.getfield 10, 3) := by decide +kernel
theorem dX7_of_93 : decode cX7_of 93 = .ok (.getfield 84, 3) := by decide +kernel
theorem dX7_of_96 : decode cX7_of 96 = .ok (.iload_n 1, 1) := by decide +kernel
theorem dX7_of_97 : decode cX7_of 97 = .ok (.invokevirtual 96, 3) := by decide +kernel
theorem dX7_of_100 : decode cX7_of 100 = .ok (.ireturn, 1) := by decide +kernel
theorem dX7_of_101 : decode cX7_of 101 = .ok (.aload_n 0, 1) := by decide +kernel
theorem dX7_of_102 : decode cX7_of 102 = .ok (.getfield 10, 3) := by decide +kernel
theorem dX7_of_105 : decode cX7_of 105 = .ok (.getfield 84, 3) := by decide +kernel
theorem dX7_of_108 : decode cX7_of 108 = .ok (.iload_n 1, 1) := by decide +kernel
theorem dX7_of_109 : decode cX7_of 109 = .ok (.iconst 1, 1) := by decide +kernel
theorem dX7_of_110 : decode cX7_of 110 = .ok (.invokevirtual 99, 3) := by decide +kernel
theorem dX7_of_113 : decode cX7_of 113 = .ok (.ireturn, 1) := by decide +kernel
theorem dX7_of_114 : decode cX7_of 114 = .ok (.aload_n 0, 1) := by decide +kernel
theorem dX7_of_115 : decode cX7_of 115 = .ok (.getfield 10, 3) := by decide +kernel
theorem dX7_of_118 : decode cX7_of 118 = .ok (.getfield 66, 3) := by decide +kernel
theorem dX7_of_121 : decode cX7_of 121 = .ok (.iload_n 2, 1) := by decide +kernel
theorem dX7_of_122 : decode cX7_of 122 = .ok (.invokevirtual 103, 3) := by decide +kernel
theorem dX7_of_125 : decode cX7_of 125 = .ok (.iload_n 1, 1) := by decide +kernel
theorem dX7_of_126 : decode cX7_of 126 = .ok (.iaload, 1) := by decide +kernel
theorem dX7_of_127 : decode cX7_of 127 = .ok (.ireturn, 1) := by decide +kernel
theorem dX7_set_0 : decode cX7_set 0 = .ok (.aload_n 0, 1) := by decide +kernel
theorem dX7_set_1 : decode cX7_set 1 = .ok (.iload_n 1, 1) := by decide +kernel
theorem dX7_set_2 : decode cX7_set 2 = .ok (.invokevirtual 81, 3) := by decide +kernel
theorem dX7_set_5 : decode cX7_set 5 = .ok (.ifCond .eq 11, 3) := by decide +kernel
theorem dX7_set_8 : decode cX7_set 8 = .ok (.iload_n 2, 1) := by decide +kernel
theorem dX7_set_9 : decode cX7_set 9 = .ok (.iload_n 3, 1) := by decide +kernel
theorem dX7_set_10 : decode cX7_set 10 = .ok (.invokestatic 107, 3) := by decide +kernel
theorem dX7_set_13 : decode cX7_set 13 = .ok (.ifCond .ne 10, 3) := by decide +kernel
theorem dX7_set_16 : decode cX7_set 16 = .ok (.aload_n 0, 1) := by decide +kernel
theorem dX7_set_17 : decode cX7_set 17 = .ok (.ldc 61, 2) := by decide +kernel
theorem dX7_set_19 : decode cX7_set 19 = .ok (.invokevirtual 62, 3) := by decide +kernel
theorem dX7_set_22 : decode cX7_set 22 = .ok (.ireturn, 1) := by decide +kernel
theorem dX7_set_23 : decode cX7_set 23 = .ok (.aload_n 0, 1) := by decide +kernel
theorem dX7_set_24 : decode cX7_set 24 = .ok (.getfield 10, 3) := by decide +kernel
theorem dX7_set_27 : decode cX7_set 27 = .ok (.getfield 66, 3) := by decide +kernel
theorem dX7_set_30 : decode cX7_set 30 = .ok (.iload_n 2, 1) := by decide +kernel
theorem dX7_set_31 : decode cX7_set 31 = .ok (.invokevirtual 103, 3) := by decide +kernel
theorem dX7_set_34 : decode cX7_set 34 = .ok (.astore 4, 2) := by decide +kernel
theorem dX7_set_36 : decode cX7_set 36 = .ok (.aload 4, 2) := by decide +kernel
theorem dX7_set_38 : decode cX7_set 38 = .ok (.iload_n 1, 1) := by decide +kernel
theorem dX7_set_39 : decode cX7_set 39 = .ok (.iaload, 1) := by decide +kernel
theorem dX7_set_40 : decode cX7_set 40 = .ok (.istore 5, 2) := by decide +kernel
theorem dX7_set_42 : decode cX7_set 42 = .ok (.aload 4, 2) := by decide +kernel
theorem dX7_set_44 : decode cX7_set 44 = .ok (.iload_n 1, 1) := by decide +kernel
theorem dX7_set_45 : decode cX7_set 45 = .ok (.iload_n 3, 1) := by decide +kernel
theorem dX7_set_46 : decode cX7_set 46 = .ok (.iastore, 1) := by decide +kernel
theorem dX7_set_47 : decode cX7_set 47 = .ok (.iload 5, 2) := by decide +kernel
theorem dX7_set_49 : decode cX7_set 49 = .ok (.ireturn, 1) := by decide +kernel
theorem dX7_as_0 : decode cX7_as 0 = .ok (.aload_n 0, 1) := by decide +kernel
theorem dX7_as_1 : decode cX7_as 1 = .ok (.iload_n 1, 1) := by decide +kernel
theorem dX7_as_2 : decode cX7_as 2 = .ok (.invokevirtual 81, 3) := by decide +kernel
theorem dX7_as_5 : decode cX7_as 5 = .ok (.ifCond .eq 13, 3) := by decide +kernel
theorem dX7_as_8 : decode cX7_as 8 = .ok (.iload_n 2, 1) := by decide +kernel
theorem dX7_as_9 : decode cX7_as 9 = .ok (.iconst 0, 1) := by decide +kernel
theorem dX7_as_10 : decode cX7_as 10 = .ok (.bipush 6, 2) := by decide +kernel
theorem dX7_as_12 : decode cX7_as 12 = .ok (.invokestatic 53, 3) := by decide +kernel
theorem dX7_as_15 : decode cX7_as 15 = .ok (.ifCond .ne 10, 3) := by decide +kernel
theorem dX7_as_18 : decode cX7_as 18 = .ok (.aload_n 0, 1) := by decide +kernel
theorem dX7_as_19 : decode cX7_as 19 = .ok (.ldc 61, 2) := by decide +kernel
theorem dX7_as_21 : decode cX7_as 21 = .ok (.invokevirtual 62, 3) := by decide +kernel
theorem dX7_as_24 : decode cX7_as 24 = .ok (.ireturn, 1) := by decide +kernel
theorem dX7_as_25 : decode cX7_as 25 = .ok (.aload_n 0, 1) := by decide +kernel
theorem dX7_as_26 : decode cX7_as 26 = .ok (.getfield 10, 3) := by decide +kernel
theorem dX7_as_29 : decode cX7_as 29 = .ok (.getfield 66, 3) := by decide +kernel
theorem dX7_as_32 : decode cX7_as 32 = .ok (.getfield 111, 3) := by decide +kernel
theorem dX7_as_35 : decode cX7_as 35 = .ok (.iload_n 1, 1) := by decide +kernel
theorem dX7_as_36 : decode cX7_as 36 = .ok (.iaload, 1) := by decide +kernel
theorem dX7_as_37 : decode cX7_as 37 = .ok (.iload_n 2, 1) := by decide +kernel
theorem dX7_as_38 : decode cX7_as 38 = .ok (.invokestatic 114, 3) := by decide +kernel
theorem dX7_as_41 : decode cX7_as 41 = .ok (.ifCond .ne 10, 3) := by decide +kernel
theorem dX7_as_44 : decode cX7_as 44 = .ok (.aload_n 0, 1) := by decide +kernel
theorem dX7_as_45 : decode cX7_as 45 = .ok (.ldc 117, 2) := by decide +kernel
theorem dX7_as_47 : decode cX7_as 47 = .ok (.invokevirtual 62, 3) := by decide +kernel
theorem dX7_as_50 : decode cX7_as 50 = .ok (.ireturn, 1) := by decide +kernel
theorem dX7_as_51 : decode cX7_as 51 = .ok (.aload_n 0, 1) := by decide +kernel
theorem dX7_as_52 : decode cX7_as 52 = .ok (.getfield 10, 3) := by decide +kernel
theorem dX7_as_55 : decode cX7_as 55 = .ok (.getfield 84, 3) := by decide +kernel
theorem dX7_as_58 : decode cX7_as 58 = .ok (.getfield 88, 3) := by decide +kernel
theorem dX7_as_61 : decode cX7_as 61 = .ok (.iload_n 1, 1) := by decide +kernel
theorem dX7_as_62 : decode cX7_as 62 = .ok (.iaload, 1) := by decide +kernel
theorem dX7_as_63 : decode cX7_as 63 = .ok (.ireturn, 1) := by decide +kernel
theorem dX7_likes_0 : decode cX7_likes 0 = .ok (.aload_n 0, 1) := by decide +kernel
theorem dX7_likes_1 : decode cX7_likes 1 = .ok (.iload_n 1, 1) := by decide +kernel
theorem dX7_likes_2 : decode cX7_likes 2 = .ok (.iload_n 2, 1) := by decide +kernel
theorem dX7_likes_3 : decode cX7_likes 3 = .ok (.invokevirtual 118, 3) := by decide +kernel
theorem dX7_likes_6 : decode cX7_likes 6 = .ok (.ifCond .eq 14, 3) := by decide +kernel
theorem dX7_likes_9 : decode cX7_likes 9 = .ok (.iload_n 3, 1) := by decide +kernel
theorem dX7_likes_10 : decode cX7_likes 10 = .ok (.bipush (-9), 2) := by decide +kernel
theorem dX7_likes_12 : decode cX7_likes 12 = .ok (.bipush 9, 2) := by decide +kernel
theorem dX7_likes_14 : decode cX7_likes 14 = .ok (.invokestatic 53, 3) := by decide +kernel
theorem dX7_likes_17 : decode cX7_likes 17 = .ok (.ifCond .ne 10, 3) := by decide +kernel
theorem dX7_likes_20 : decode cX7_likes 20 = .ok (.aload_n 0, 1) := by decide +kernel
theorem dX7_likes_21 : decode cX7_likes 21 = .ok (.ldc 61, 2) := by decide +kernel
theorem dX7_likes_23 : decode cX7_likes 23 = .ok (.invokevirtual 62, 3) := by decide +kernel
theorem dX7_likes_26 : decode cX7_likes 26 = .ok (.ireturn, 1) := by decide +kernel
theorem dX7_likes_27 : decode cX7_likes 27 = .ok (.iload_n 1, 1) := by decide +kernel
theorem dX7_likes_28 : decode cX7_likes 28 = .ok (.bipush 10, 2) := by decide +kernel
theorem dX7_likes_30 : decode cX7_likes 30 = .ok (.imul, 1) := by decide +kernel
theorem dX7_likes_31 : decode cX7_likes 31 = .ok (.iload_n 2, 1) := by decide +kernel
theorem dX7_likes_32 : decode cX7_likes 32 = .ok (.iadd, 1) := by decide +kernel
theorem dX7_likes_33 : decode cX7_likes 33 = .ok (.istore 4, 2) := by decide +kernel
theorem dX7_likes_35 : decode cX7_likes 35 = .ok (.aload_n 0, 1) := by decide +kernel
theorem dX7_likes_36 : decode cX7_likes 36 = .ok (.getfield 10, 3) := by decide +kernel
theorem dX7_likes_39 : decode cX7_likes 39 = .ok (.getfield 66, 3) := by decide +kernel
theorem dX7_likes_42 : decode cX7_likes 42 = .ok (.getfield 121, 3) := by decide +kernel
theorem dX7_likes_45 : decode cX7_likes 45 = .ok (.iload 4, 2) := by decide +kernel
theorem dX7_likes_47 : decode cX7_likes 47 = .ok (.iaload, 1) := by decide +kernel
theorem dX7_likes_48 : decode cX7_likes 48 = .ok (.istore 5, 2) := by decide +kernel
theorem dX7_likes_50 : decode cX7_likes 50 = .ok (.aload_n 0, 1) := by decide +kernel
theorem dX7_likes_51 : decode cX7_likes 51 = .ok (.getfield 10, 3) := by decide +kernel
theorem dX7_likes_54 : decode cX7_likes 54 = .ok (.getfield 66, 3) := by decide +kernel
theorem dX7_likes_57 : decode cX7_likes 57 = .ok (.getfield 121, 3) := by decide +kernel
theorem dX7_likes_60 : decode cX7_likes 60 = .ok (.iload 4, 2) := by decide +kernel
theorem dX7_likes_62 : decode cX7_likes 62 = .ok (.iload_n 3, 1) := by decide +kernel
theorem dX7_likes_63 : decode cX7_likes 63 = .ok (.iastore, 1) := by decide +kernel
theorem dX7_likes_64 : decode cX7_likes 64 = .ok (.iload 5, 2) := by decide +kernel
theorem dX7_likes_66 : decode cX7_likes 66 = .ok (.ireturn, 1) := by decide +kernel
theorem dX7_worth_0 : decode cX7_worth 0 = .ok (.iload_n 1, 1) := by decide +kernel
theorem dX7_worth_1 : decode cX7_worth 1 = .ok (.invokestatic 57, 3) := by decide +kernel
theorem dX7_worth_4 : decode cX7_worth 4 = .ok (.ifCond .eq 21, 3) := by decide +kernel
theorem dX7_worth_7 : decode cX7_worth 7 = .ok (.iload_n 2, 1) := by decide +kernel
theorem dX7_worth_8 : decode cX7_worth 8 = .ok (.invokestatic 57, 3) := by decide +kernel
theorem dX7_worth_11 : decode cX7_worth 11 = .ok (.ifCond .eq 14, 3) := by decide +kernel
theorem dX7_worth_14 : decode cX7_worth 14 = .ok (.iload_n 3, 1) := by decide +kernel
theorem dX7_worth_15 : decode cX7_worth 15 = .ok (.bipush (-99), 2) := by decide +kernel
theorem dX7_worth_17 : decode cX7_worth 17 = .ok (.bipush 99, 2) := by decide +kernel
theorem dX7_worth_19 : decode cX7_worth 19 = .ok (.invokestatic 53, 3) := by decide +kernel
theorem dX7_worth_22 : decode cX7_worth 22 = .ok (.ifCond .ne 10, 3) := by decide +kernel
theorem dX7_worth_25 : decode cX7_worth 25 = .ok (.aload_n 0, 1) := by decide +kernel
theorem dX7_worth_26 : decode cX7_worth 26 = .ok (.ldc 61, 2) := by decide +kernel
theorem dX7_worth_28 : decode cX7_worth 28 = .ok (.invokevirtual 62, 3) := by decide +kernel
theorem dX7_worth_31 : decode cX7_worth 31 = .ok (.ireturn, 1) := by decide +kernel
theorem dX7_worth_32 : decode cX7_worth 32 = .ok (.iload_n 1, 1) := by decide +kernel
theorem dX7_worth_33 : decode cX7_worth 33 = .ok (.iconst 4, 1) := by decide +kernel
theorem dX7_worth_34 : decode cX7_worth 34 = .ok (.imul, 1) := by decide +kernel
theorem dX7_worth_35 : decode cX7_worth 35 = .ok (.iload_n 2, 1) := by decide +kernel
theorem dX7_worth_36 : decode cX7_worth 36 = .ok (.iadd, 1) := by decide +kernel
theorem dX7_worth_37 : decode cX7_worth 37 = .ok (.istore 4, 2) := by decide +kernel
theorem dX7_worth_39 : decode cX7_worth 39 = .ok (.aload_n 0, 1) := by decide +kernel
theorem dX7_worth_40 : decode cX7_worth 40 = .ok (.getfield 10, 3) := by decide +kernel
theorem dX7_worth_43 : decode cX7_worth 43 = .ok (.getfield 66, 3) := by decide +kernel
theorem dX7_worth_46 : decode cX7_worth 46 = .ok (.getfield 124, 3) := by decide +kernel
theorem dX7_worth_49 : decode cX7_worth 49 = .ok (.iload 4, 2) := by decide +kernel
theorem dX7_worth_51 : decode cX7_worth 51 = .ok (.iaload, 1) := by decide +kernel
theorem dX7_worth_52 : decode cX7_worth 52 = .ok (.istore 5, 2) := by decide +kernel
theorem dX7_worth_54 : decode cX7_worth 54 = .ok (.aload_n 0, 1) := by decide +kernel
theorem dX7_worth_55 : decode cX7_worth 55 = .ok (.getfield 10, 3) := by decide +kernel
theorem dX7_worth_58 : decode cX7_worth 58 = .ok (.getfield 66, 3) := by decide +kernel
theorem dX7_worth_61 : decode cX7_worth 61 = .ok (.getfield 124, 3) := by decide +kernel
theorem dX7_worth_64 : decode cX7_worth 64 = .ok (.iload 4, 2) := by decide +kernel
theorem dX7_worth_66 : decode cX7_worth 66 = .ok (.iload_n 3, 1) := by decide +kernel
theorem dX7_worth_67 : decode cX7_worth 67 = .ok (.iastore, 1) := by decide +kernel
theorem dX7_worth_68 : decode cX7_worth 68 = .ok (.iload 5, 2) := by decide +kernel
theorem dX7_worth_70 : decode cX7_worth 70 = .ok (.ireturn, 1) := by decide +kernel
theorem dX7_rule_0 : decode cX7_rule 0 = .ok (.iload_n 1, 1) := by decide +kernel
theorem dX7_rule_1 : decode cX7_rule 1 = .ok (.iconst 0, 1) := by decide +kernel
theorem dX7_rule_2 : decode cX7_rule 2 = .ok (.iconst 5, 1) := by decide +kernel
theorem dX7_rule_3 : decode cX7_rule 3 = .ok (.invokestatic 53, 3) := by decide +kernel
theorem dX7_rule_6 : decode cX7_rule 6 = .ok (.ifCond .eq 20, 3) := by decide +kernel
theorem dX7_rule_9 : decode cX7_rule 9 = .ok (.iload_n 2, 1) := by decide +kernel
theorem dX7_rule_10 : decode cX7_rule 10 = .ok (.getstatic 127, 3) := by decide +kernel
theorem dX7_rule_13 : decode cX7_rule 13 = .ok (.iload_n 1, 1) := by decide +kernel
theorem dX7_rule_14 : decode cX7_rule 14 = .ok (.iaload, 1) := by decide +kernel
theorem dX7_rule_15 : decode cX7_rule 15 = .ok (.getstatic 130, 3) := by decide +kernel
theorem dX7_rule_18 : decode cX7_rule 18 = .ok (.iload_n 1, 1) := by decide +kernel
theorem dX7_rule_19 : decode cX7_rule 19 = .ok (.iaload, 1) := by decide +kernel
theorem dX7_rule_20 : decode cX7_rule 20 = .ok (.invokestatic 53, 3) := by decide +kernel
theorem dX7_rule_23 : decode cX7_rule 23 = .ok (.ifCond .ne 10, 3) := by decide +kernel
theorem dX7_rule_26 : decode cX7_rule 26 = .ok (.aload_n 0, 1) := by decide +kernel
theorem dX7_rule_27 : decode cX7_rule 27 = .ok (.ldc 61, 2) := by decide +kernel
theorem dX7_rule_29 : decode cX7_rule 29 = .ok (.invokevirtual 62, 3) := by decide +kernel
theorem dX7_rule_32 : decode cX7_rule 32 = .ok (.ireturn, 1) := by decide +kernel
theorem dX7_rule_33 : decode cX7_rule 33 = .ok (.aload_n 0, 1) := by decide +kernel
theorem dX7_rule_34 : decode cX7_rule 34 = .ok (.getfield 10, 3) := by decide +kernel
theorem dX7_rule_37 : decode cX7_rule 37 = .ok (.getfield 84, 3) := by decide +kernel
theorem dX7_rule_40 : decode cX7_rule 40 = .ok (.getfield 133, 3) := by decide +kernel
theorem dX7_rule_43 : decode cX7_rule 43 = .ok (.iload_n 1, 1) := by decide +kernel
theorem dX7_rule_44 : decode cX7_rule 44 = .ok (.iaload, 1) := by decide +kernel
theorem dX7_rule_45 : decode cX7_rule 45 = .ok (.istore_n 3, 1) := by decide +kernel
theorem dX7_rule_46 : decode cX7_rule 46 = .ok (.aload_n 0, 1) := by decide +kernel
theorem dX7_rule_47 : decode cX7_rule 47 = .ok (.getfield 10, 3) := by decide +kernel
theorem dX7_rule_50 : decode cX7_rule 50 = .ok (.getfield 84, 3) := by decide +kernel
theorem dX7_rule_53 : decode cX7_rule 53 = .ok (.iload_n 1, 1) := by decide +kernel
theorem dX7_rule_54 : decode cX7_rule 54 = .ok (.iload_n 2, 1) := by decide +kernel
theorem dX7_rule_55 : decode cX7_rule 55 = .ok (.invokevirtual 136, 3) := by decide +kernel
theorem dX7_rule_58 : decode cX7_rule 58 = .ok (.iload_n 3, 1) := by decide +kernel
theorem dX7_rule_59 : decode cX7_rule 59 = .ok (.ireturn, 1) := by decide +kernel
theorem dX7_sit_0 : decode cX7_sit 0 = .ok (.iload_n 1, 1) := by decide +kernel
theorem dX7_sit_1 : decode cX7_sit 1 = .ok (.iconst (-1), 1) := by decide +kernel
theorem dX7_sit_2 : decode cX7_sit 2 = .ok (.if_icmp .eq 18, 3) := by decide +kernel
theorem dX7_sit_5 : decode cX7_sit 5 = .ok (.aload_n 0, 1) := by decide +kernel
theorem dX7_sit_6 : decode cX7_sit 6 = .ok (.iload_n 1, 1) := by decide +kernel
theorem dX7_sit_7 : decode cX7_sit 7 = .ok (.invokevirtual 81, 3) := by decide +kernel
theorem dX7_sit_10 : decode cX7_sit 10 = .ok (.ifCond .ne 10, 3) := by decide +kernel
theorem dX7_sit_13 : decode cX7_sit 13 = .ok (.aload_n 0, 1) := by decide +kernel
theorem dX7_sit_14 : decode cX7_sit 14 = .ok (.ldc 61, 2) := by decide +kernel
theorem dX7_sit_16 : decode cX7_sit 16 = .ok (.invokevirtual 62, 3) := by decide +kernel
theorem dX7_sit_19 : decode cX7_sit 19 = .ok (.ireturn, 1) := by decide +kernel
theorem dX7_sit_20 : decode cX7_sit 20 = .ok (.iload_n 1, 1) := by decide +kernel
theorem dX7_sit_21 : decode cX7_sit 21 = .ok (.iconst (-1), 1) := by decide +kernel
theorem dX7_sit_22 : decode cX7_sit 22 = .ok (.if_icmp .eq 38, 3) := by decide +kernel
theorem dX7_sit_25 : decode cX7_sit 25 = .ok (.aload_n 0, 1) := by decide +kernel
theorem dX7_sit_26 : decode cX7_sit 26 = .ok (.getfield 10, 3) := by decide +kernel
theorem dX7_sit_29 : decode cX7_sit 29 = .ok (.getfield 66, 3) := by decide +kernel
theorem dX7_sit_32 : decode cX7_sit 32 = .ok (.iload_n 1, 1) := by decide +kernel
theorem dX7_sit_33 : decode cX7_sit 33 = .ok (.invokevirtual 93, 3) := by decide +kernel
theorem dX7_sit_36 : decode cX7_sit 36 = .ok (.ifCond .eq 17, 3) := by decide +kernel
theorem dX7_sit_39 : decode cX7_sit 39 = .ok (.aload_n 0, 1) := by decide +kernel
theorem dX7_sit_40 : decode cX7_sit 40 = .ok (.getfield 10, 3) := by decide +kernel
theorem dX7_sit_43 : decode cX7_sit 43 = .ok (.getfield 84, 3) := by decide +kernel
theorem dX7_sit_46 : decode cX7_sit 46 = .ok (.iload_n 1, 1) := by decide +kernel
theorem dX7_sit_47 : decode cX7_sit 47 = .ok (.invokevirtual 96, 3) := by decide +kernel
theorem dX7_sit_50 : decode cX7_sit 50 = .ok (.ifCond .lt 10, 3) := by decide +kernel
theorem dX7_sit_53 : decode cX7_sit 53 = .ok (.aload_n 0, 1) := by decide +kernel
theorem dX7_sit_54 : decode cX7_sit 54 = .ok (.ldc 140, 2) := by decide +kernel
theorem dX7_sit_56 : decode cX7_sit 56 = .ok (.invokevirtual 62, 3) := by decide +kernel
theorem dX7_sit_59 : decode cX7_sit 59 = .ok (.ireturn, 1) := by decide +kernel
theorem dX7_sit_60 : decode cX7_sit 60 = .ok (.aload_n 0, 1) := by decide +kernel
theorem dX7_sit_61 : decode cX7_sit 61 = .ok (.getfield 10, 3) := by decide +kernel
theorem dX7_sit_64 : decode cX7_sit 64 = .ok (.getfield 84, 3) := by decide +kernel
theorem dX7_sit_67 : decode cX7_sit 67 = .ok (.getfield 141, 3) := by decide +kernel
theorem dX7_sit_70 : decode cX7_sit 70 = .ok (.istore_n 2, 1) := by decide +kernel
theorem dX7_sit_71 : decode cX7_sit 71 = .ok (.aload_n 0, 1) := by decide +kernel
theorem dX7_sit_72 : decode cX7_sit 72 = .ok (.getfield 10, 3) := by decide +kernel
theorem dX7_sit_75 : decode cX7_sit 75 = .ok (.getfield 84, 3) := by decide +kernel
theorem dX7_sit_78 : decode cX7_sit 78 = .ok (.iload_n 1, 1) := by decide +kernel
theorem dX7_sit_79 : decode cX7_sit 79 = .ok (.putfield 141, 3) := by decide +kernel
theorem dX7_sit_82 : decode cX7_sit 82 = .ok (.aload_n 0, 1) := by decide +kernel
theorem dX7_sit_83 : decode cX7_sit 83 = .ok (.getfield 10, 3) := by decide +kernel
theorem dX7_sit_86 : decode cX7_sit 86 = .ok (.getfield 84, 3) := by decide +kernel
theorem dX7_sit_89 : decode cX7_sit 89 = .ok (.iconst 0, 1) := by decide +kernel
theorem dX7_sit_90 : decode cX7_sit 90 = .ok (.putfield 144, 3) := by decide +kernel
theorem dX7_sit_93 : decode cX7_sit 93 = .ok (.iload_n 2, 1) := by decide +kernel
theorem dX7_sit_94 : decode cX7_sit 94 = .ok (.ireturn, 1) := by decide +kernel
theorem dX7_line_0 : decode cX7_line 0 = .ok (.aload_n 0, 1) := by decide +kernel
theorem dX7_line_1 : decode cX7_line 1 = .ok (.iload_n 1, 1) := by decide +kernel
theorem dX7_line_2 : decode cX7_line 2 = .ok (.invokevirtual 147, 3) := by decide +kernel
theorem dX7_line_5 : decode cX7_line 5 = .ok (.ifCond .eq 16, 3) := by decide +kernel
theorem dX7_line_8 : decode cX7_line 8 = .ok (.iload_n 2, 1) := by decide +kernel
theorem dX7_line_9 : decode cX7_line 9 = .ok (.iconst (-1), 1) := by decide +kernel
theorem dX7_line_10 : decode cX7_line 10 = .ok (.if_icmp .eq 18, 3) := by decide +kernel
theorem dX7_line_13 : decode cX7_line 13 = .ok (.aload_n 0, 1) := by decide +kernel
theorem dX7_line_14 : decode cX7_line 14 = .ok (.iload_n 2, 1) := by decide +kernel
theorem dX7_line_15 : decode cX7_line 15 = .ok (.invokevirtual 81, 3) := by decide +kernel
theorem dX7_line_18 : decode cX7_line 18 = .ok (.ifCond .ne 10, 3) := by decide +kernel
theorem dX7_line_21 : decode cX7_line 21 = .ok (.aload_n 0, 1) := by decide +kernel
theorem dX7_line_22 : decode cX7_line 22 = .ok (.ldc 61, 2) := by decide +kernel
theorem dX7_line_24 : decode cX7_line 24 = .ok (.invokevirtual 62, 3) := by decide +kernel
theorem dX7_line_27 : decode cX7_line 27 = .ok (.ireturn, 1) := by decide +kernel
theorem dX7_line_28 : decode cX7_line 28 = .ok (.iload_n 2, 1) := by decide +kernel
theorem dX7_line_29 : decode cX7_line 29 = .ok (.iconst (-1), 1) := by decide +kernel
theorem dX7_line_30 : decode cX7_line 30 = .ok (.if_icmp .eq 18, 3) := by decide +kernel
theorem dX7_line_33 : decode cX7_line 33 = .ok (.aload_n 0, 1) := by decide +kernel
theorem dX7_line_34 : decode cX7_line 34 = .ok (.iload_n 2, 1) := by decide +kernel
theorem dX7_line_35 : decode cX7_line 35 = .ok (.invokevirtual 150, 3) := by decide +kernel
theorem dX7_line_38 : decode cX7_line 38 = .ok (.ifCond .ne 10, 3) := by decide +kernel
theorem dX7_line_41 : decode cX7_line 41 = .ok (.aload_n 0, 1) := by decide +kernel
theorem dX7_line_42 : decode cX7_line 42 = .ok (.ldc 140, 2) := by decide +kernel
theorem dX7_line_44 : decode cX7_line 44 = .ok (.invokevirtual 62, 3) := by decide +kernel
theorem dX7_line_47 : decode cX7_line 47 = .ok (.ireturn, 1) := by decide +kernel
theorem dX7_line_48 : decode cX7_line 48 = .ok (.aload_n 0, 1) := by decide +kernel
theorem dX7_line_49 : decode cX7_line 49 = .ok (.getfield 10, 3) := by decide +kernel
theorem dX7_line_52 : decode cX7_line 52 = .ok (.getfield 84, 3) := by decide +kernel
theorem dX7_line_55 : decode cX7_line 55 = .ok (.getfield 153, 3) := by decide +kernel
theorem dX7_line_58 : decode cX7_line 58 = .ok (.iload_n 1, 1) := by decide +kernel
theorem dX7_line_59 : decode cX7_line 59 = .ok (.iaload, 1) := by decide +kernel
theorem dX7_line_60 : decode cX7_line 60 = .ok (.istore_n 3, 1) := by decide +kernel
theorem dX7_line_61 : decode cX7_line 61 = .ok (.aload_n 0, 1) := by decide +kernel
theorem dX7_line_62 : decode cX7_line 62 = .ok (.getfield 10, 3) := by decide +kernel
theorem dX7_line_65 : decode cX7_line 65 = .ok (.getfield 84, 3) := by decide +kernel
theorem dX7_line_68 : decode cX7_line 68 = .ok (.getfield 153, 3) := by decide +kernel
theorem dX7_line_71 : decode cX7_line 71 = .ok (.iload_n 1, 1) := by decide +kernel
theorem dX7_line_72 : decode cX7_line 72 = .ok (.iload_n 2, 1) := by decide +kernel
theorem dX7_line_73 : decode cX7_line 73 = .ok (.iastore, 1) := by decide +kernel
theorem dX7_line_74 : decode cX7_line 74 = .ok (.iload_n 3, 1) := by decide +kernel
theorem dX7_line_75 : decode cX7_line 75 = .ok (.ireturn, 1) := by decide +kernel
theorem dX7_may_0 : decode cX7_may 0 = .ok (.aload_n 0, 1) := by decide +kernel
theorem dX7_may_1 : decode cX7_may 1 = .ok (.iload_n 1, 1) := by decide +kernel
theorem dX7_may_2 : decode cX7_may 2 = .ok (.invokevirtual 81, 3) := by decide +kernel
theorem dX7_may_5 : decode cX7_may 5 = .ok (.ifCond .ne 10, 3) := by decide +kernel
theorem dX7_may_8 : decode cX7_may 8 = .ok (.aload_n 0, 1) := by decide +kernel
theorem dX7_may_9 : decode cX7_may 9 = .ok (.ldc 61, 2) := by decide +kernel
theorem dX7_may_11 : decode cX7_may 11 = .ok (.invokevirtual 62, 3) := by decide +kernel
theorem dX7_may_14 : decode cX7_may 14 = .ok (.ireturn, 1) := by decide +kernel
theorem dX7_may_15 : decode cX7_may 15 = .ok (.aload_n 0, 1) := by decide +kernel
theorem dX7_may_16 : decode cX7_may 16 = .ok (.getfield 10, 3) := by decide +kernel
theorem dX7_may_19 : decode cX7_may 19 = .ok (.getfield 66, 3) := by decide +kernel
theorem dX7_may_22 : decode cX7_may 22 = .ok (.iload_n 1, 1) := by decide +kernel
theorem dX7_may_23 : decode cX7_may 23 = .ok (.invokevirtual 93, 3) := by decide +kernel
theorem dX7_may_26 : decode cX7_may 26 = .ok (.ifCond .ne 10, 3) := by decide +kernel
theorem dX7_may_29 : decode cX7_may 29 = .ok (.aload_n 0, 1) := by decide +kernel
theorem dX7_may_30 : decode cX7_may 30 = .ok (.ldc 140, 2) := by decide +kernel
theorem dX7_may_32 : decode cX7_may 32 = .ok (.invokevirtual 62, 3) := by decide +kernel
theorem dX7_may_35 : decode cX7_may 35 = .ok (.ireturn, 1) := by decide +kernel
theorem dX7_may_36 : decode cX7_may 36 = .ok (.aload_n 0, 1) := by decide +kernel
theorem dX7_may_37 : decode cX7_may 37 = .ok (.getfield 10, 3) := by decide +kernel
theorem dX7_may_40 : decode cX7_may 40 = .ok (.getfield 84, 3) := by decide +kernel
theorem dX7_may_43 : decode cX7_may 43 = .ok (.iload_n 1, 1) := by decide +kernel
theorem dX7_may_44 : decode cX7_may 44 = .ok (.invokevirtual 156, 3) := by decide +kernel
theorem dX7_may_47 : decode cX7_may 47 = .ok (.ireturn, 1) := by decide +kernel
theorem dX7_follows_0 : decode cX7_follows 0 = .ok (.aload_n 0, 1) := by decide +kernel
theorem dX7_follows_1 : decode cX7_follows 1 = .ok (.iload_n 1, 1) := by decide +kernel
theorem dX7_follows_2 : decode cX7_follows 2 = .ok (.invokevirtual 81, 3) := by decide +kernel
theorem dX7_follows_5 : decode cX7_follows 5 = .ok (.ifCond .eq 11, 3) := by decide +kernel
theorem dX7_follows_8 : decode cX7_follows 8 = .ok (.aload_n 0, 1) := by decide +kernel
theorem dX7_follows_9 : decode cX7_follows 9 = .ok (.iload_n 2, 1) := by decide +kernel
theorem dX7_follows_10 : decode cX7_follows 10 = .ok (.invokevirtual 81, 3) := by decide +kernel
theorem dX7_follows_13 : decode cX7_follows 13 = .ok (.ifCond .ne 10, 3) := by decide +kernel
theorem dX7_follows_16 : decode cX7_follows 16 = .ok (.aload_n 0, 1) := by decide +kernel
theorem dX7_follows_17 : decode cX7_follows 17 = .ok (.ldc 61, 2) := by decide +kernel
theorem dX7_follows_19 : decode cX7_follows 19 = .ok (.invokevirtual 62, 3) := by decide +kernel
theorem dX7_follows_22 : decode cX7_follows 22 = .ok (.ireturn, 1) := by decide +kernel
theorem dX7_follows_23 : decode cX7_follows 23 = .ok (.aload_n 0, 1) := by decide +kernel
theorem dX7_follows_24 : decode cX7_follows 24 = .ok (.getfield 10, 3) := by decide +kernel
theorem dX7_follows_27 : decode cX7_follows 27 = .ok (.getfield 66, 3) := by decide +kernel
theorem dX7_follows_30 : decode cX7_follows 30 = .ok (.iload_n 1, 1) := by decide +kernel
theorem dX7_follows_31 : decode cX7_follows 31 = .ok (.invokevirtual 93, 3) := by decide +kernel
theorem dX7_follows_34 : decode cX7_follows 34 = .ok (.ifCond .eq 21, 3) := by decide +kernel
theorem dX7_follows_37 : decode cX7_follows 37 = .ok (.aload_n 0, 1) := by decide +kernel
theorem dX7_follows_38 : decode cX7_follows 38 = .ok (.getfield 10, 3) := by decide +kernel
theorem dX7_follows_41 : decode cX7_follows 41 = .ok (.getfield 84, 3) := by decide +kernel
theorem dX7_follows_44 : decode cX7_follows 44 = .ok (.iload_n 1, 1) := by decide +kernel
theorem dX7_follows_45 : decode cX7_follows 45 = .ok (.invokevirtual 156, 3) := by decide +kernel
theorem dX7_follows_48 : decode cX7_follows 48 = .ok (.iload_n 2, 1) := by decide +kernel
theorem dX7_follows_49 : decode cX7_follows 49 = .ok (.invokestatic 159, 3) := by decide +kernel
theorem dX7_follows_52 : decode cX7_follows 52 = .ok (.ifCond .ne 10, 3) := by decide +kernel
theorem dX7_follows_55 : decode cX7_follows 55 = .ok (.aload_n 0, 1) := by decide +kernel
theorem dX7_follows_56 : decode cX7_follows 56 = .ok (.ldc 140, 2) := by decide +kernel
theorem dX7_follows_58 : decode cX7_follows 58 = .ok (.invokevirtual 62, 3) := by decide +kernel
theorem dX7_follows_61 : decode cX7_follows 61 = .ok (.ireturn, 1) := by decide +kernel
theorem dX7_follows_62 : decode cX7_follows 62 = .ok (.aload_n 0, 1) := by decide +kernel
theorem dX7_follows_63 : decode cX7_follows 63 = .ok (.getfield 10, 3) := by decide +kernel
theorem dX7_follows_66 : decode cX7_follows 66 = .ok (.getfield 84, 3) := by decide +kernel
theorem dX7_follows_69 : decode cX7_follows 69 = .ok (.iload_n 1, 1) := by decide +kernel
theorem dX7_follows_70 : decode cX7_follows 70 = .ok (.iload_n 2, 1) := by decide +kernel
theorem dX7_follows_71 : decode cX7_follows 71 = .ok (.iconst 1, 1) := by decide +kernel
theorem dX7_follows_72 : decode cX7_follows 72 = .ok (.invokevirtual 162, 3) := by decide +kernel
theorem dX7_follows_75 : decode cX7_follows 75 = .ok (.ireturn, 1) := by decide +kernel
theorem dX7_come_0 : decode cX7_come 0 = .ok (.aload_n 0, 1) := by decide +kernel
theorem dX7_come_1 : decode cX7_come 1 = .ok (.getfield 10, 3) := by decide +kernel
theorem dX7_come_4 : decode cX7_come 4 = .ok (.getfield 84, 3) := by decide +kernel
theorem dX7_come_7 : decode cX7_come 7 = .ok (.iconst 1, 1) := by decide +kernel
theorem dX7_come_8 : decode cX7_come 8 = .ok (.invokevirtual 165, 3) := by decide +kernel
theorem dX7_come_11 : decode cX7_come 11 = .ok (.ireturn, 1) := by decide +kernel
theorem dX7_years_0 : decode cX7_years 0 = .ok (.iload_n 1, 1) := by decide +kernel
theorem dX7_years_1 : decode cX7_years 1 = .ok (.iconst 1, 1) := by decide +kernel
theorem dX7_years_2 : decode cX7_years 2 = .ok (.bipush 50, 2) := by decide +kernel
theorem dX7_years_4 : decode cX7_years 4 = .ok (.invokestatic 53, 3) := by decide +kernel
theorem dX7_years_7 : decode cX7_years 7 = .ok (.ifCond .ne 10, 3) := by decide +kernel
theorem dX7_years_10 : decode cX7_years 10 = .ok (.aload_n 0, 1) := by decide +kernel
theorem dX7_years_11 : decode cX7_years 11 = .ok (.ldc 61, 2) := by decide +kernel
theorem dX7_years_13 : decode cX7_years 13 = .ok (.invokevirtual 62, 3) := by decide +kernel
theorem dX7_years_16 : decode cX7_years 16 = .ok (.ireturn, 1) := by decide +kernel
theorem dX7_years_17 : decode cX7_years 17 = .ok (.iconst 0, 1) := by decide +kernel
theorem dX7_years_18 : decode cX7_years 18 = .ok (.istore_n 2, 1) := by decide +kernel
theorem dX7_years_19 : decode cX7_years 19 = .ok (.iconst 0, 1) := by decide +kernel
theorem dX7_years_20 : decode cX7_years 20 = .ok (.istore_n 3, 1) := by decide +kernel
theorem dX7_years_21 : decode cX7_years 21 = .ok (.iload_n 3, 1) := by decide +kernel
theorem dX7_years_22 : decode cX7_years 22 = .ok (.iload_n 1, 1) := by decide +kernel
theorem dX7_years_23 : decode cX7_years 23 = .ok (.if_icmp .ge 25, 3) := by decide +kernel
theorem dX7_years_26 : decode cX7_years 26 = .ok (.aload_n 0, 1) := by decide +kernel
theorem dX7_years_27 : decode cX7_years 27 = .ok (.getfield 10, 3) := by decide +kernel
theorem dX7_years_30 : decode cX7_years 30 = .ok (.getfield 84, 3) := by decide +kernel
theorem dX7_years_33 : decode cX7_years 33 = .ok (.invokevirtual 168, 3) := by decide +kernel
theorem dX7_years_36 : decode cX7_years 36 = .ok (.ifCond .eq 6, 3) := by decide +kernel
theorem dX7_years_39 : decode cX7_years 39 = .ok (.iinc 2 1, 3) := by decide +kernel
theorem dX7_years_42 : decode cX7_years 42 = .ok (.iinc 3 1, 3) := by decide +kernel
theorem dX7_years_45 : decode cX7_years 45 = .ok (.goto (-24), 3) := by decide +kernel
theorem dX7_years_48 : decode cX7_years 48 = .ok (.iload_n 2, 1) := by decide +kernel
theorem dX7_years_49 : decode cX7_years 49 = .ok (.ireturn, 1) := by decide +kernel
theorem dX7_seed_0 : decode cX7_seed 0 = .ok (.aload_n 0, 1) := by decide +kernel
theorem dX7_seed_1 : decode cX7_seed 1 = .ok (.getfield 10, 3) := by decide +kernel
theorem dX7_seed_4 : decode cX7_seed 4 = .ok (.getfield 66, 3) := by decide +kernel
theorem dX7_seed_7 : decode cX7_seed 7 = .ok (.getfield 172, 3) := by decide +kernel
theorem dX7_seed_10 : decode cX7_seed 10 = .ok (.istore_n 2, 1) := by decide +kernel
theorem dX7_seed_11 : decode cX7_seed 11 = .ok (.aload_n 0, 1) := by decide +kernel
theorem dX7_seed_12 : decode cX7_seed 12 = .ok (.getfield 10, 3) := by decide +kernel
theorem dX7_seed_15 : decode cX7_seed 15 = .ok (.getfield 66, 3) := by decide +kernel
theorem dX7_seed_18 : decode cX7_seed 18 = .ok (.iload_n 1, 1) := by decide +kernel
theorem dX7_seed_19 : decode cX7_seed 19 = .ok (.putfield 172, 3) := by decide +kernel
theorem dX7_seed_22 : decode cX7_seed 22 = .ok (.iload_n 2, 1) := by decide +kernel
theorem dX7_seed_23 : decode cX7_seed 23 = .ok (.ireturn, 1) := by decide +kernel
theorem dX7_now_0 : decode cX7_now 0 = .ok (.iload_n 1, 1) := by decide +kernel
theorem dX7_now_1 : decode cX7_now 1 = .ok (.ifCond .ne 14, 3) := by decide +kernel
theorem dX7_now_4 : decode cX7_now 4 = .ok (.aload_n 0, 1) := by decide +kernel
theorem dX7_now_5 : decode cX7_now 5 = .ok (.getfield 10, 3) := by decide +kernel
theorem dX7_now_8 : decode cX7_now 8 = .ok (.getfield 84, 3) := by decide +kernel
theorem dX7_now_11 : decode cX7_now 11 = .ok (.getfield 141, 3) := by decide +kernel
theorem dX7_now_14 : decode cX7_now 14 = .ok (.ireturn, 1) := by decide +kernel
theorem dX7_now_15 : decode cX7_now 15 = .ok (.iload_n 1, 1) := by decide +kernel
theorem dX7_now_16 : decode cX7_now 16 = .ok (.iconst 1, 1) := by decide +kernel
theorem dX7_now_17 : decode cX7_now 17 = .ok (.if_icmp .ne 14, 3) := by decide +kernel
theorem dX7_now_20 : decode cX7_now 20 = .ok (.aload_n 0, 1) := by decide +kernel
theorem dX7_now_21 : decode cX7_now 21 = .ok (.getfield 10, 3) := by decide +kernel
theorem dX7_now_24 : decode cX7_now 24 = .ok (.getfield 84, 3) := by decide +kernel
theorem dX7_now_27 : decode cX7_now 27 = .ok (.getfield 144, 3) := by decide +kernel
theorem dX7_now_30 : decode cX7_now 30 = .ok (.ireturn, 1) := by decide +kernel
theorem dX7_now_31 : decode cX7_now 31 = .ok (.iload_n 1, 1) := by decide +kernel
theorem dX7_now_32 : decode cX7_now 32 = .ok (.iconst 2, 1) := by decide +kernel
theorem dX7_now_33 : decode cX7_now 33 = .ok (.if_icmp .lt 13, 3) := by decide +kernel
theorem dX7_now_36 : decode cX7_now 36 = .ok (.aload_n 0, 1) := by decide +kernel
theorem dX7_now_37 : decode cX7_now 37 = .ok (.iload_n 1, 1) := by decide +kernel
theorem dX7_now_38 : decode cX7_now 38 = .ok (.iconst 2, 1) := by decide +kernel
theorem dX7_now_39 : decode cX7_now 39 = .ok (.isub, 1) := by decide +kernel
theorem dX7_now_40 : decode cX7_now 40 = .ok (.invokevirtual 147, 3) := by decide +kernel
theorem dX7_now_43 : decode cX7_now 43 = .ok (.ifCond .ne 10, 3) := by decide +kernel
theorem dX7_now_46 : decode cX7_now 46 = .ok (.aload_n 0, 1) := by decide +kernel
theorem dX7_now_47 : decode cX7_now 47 = .ok (.ldc 61, 2) := by decide +kernel
theorem dX7_now_49 : decode cX7_now 49 = .ok (.invokevirtual 62, 3) := by decide +kernel
theorem dX7_now_52 : decode cX7_now 52 = .ok (.ireturn, 1) := by decide +kernel
theorem dX7_now_53 : decode cX7_now 53 = .ok (.aload_n 0, 1) := by decide +kernel
theorem dX7_now_54 : decode cX7_now 54 = .ok (.getfield 10, 3) := by decide +kernel
theorem dX7_now_57 : decode cX7_now 57 = .ok (.getfield 84, 3) := by decide +kernel
theorem dX7_now_60 : decode cX7_now 60 = .ok (.getfield 153, 3) := by decide +kernel
theorem dX7_now_63 : decode cX7_now 63 = .ok (.iload_n 1, 1) := by decide +kernel
theorem dX7_now_64 : decode cX7_now 64 = .ok (.iconst 2, 1) := by decide +kernel
theorem dX7_now_65 : decode cX7_now 65 = .ok (.isub, 1) := by decide +kernel
theorem dX7_now_66 : decode cX7_now 66 = .ok (.iaload, 1) := by decide +kernel
theorem dX7_now_67 : decode cX7_now 67 = .ok (.ireturn, 1) := by decide +kernel
theorem dX7_ahead_0 : decode cX7_ahead 0 = .ok (.iload_n 1, 1) := by decide +kernel
theorem dX7_ahead_1 : decode cX7_ahead 1 = .ok (.invokestatic 175, 3) := by decide +kernel
theorem dX7_ahead_4 : decode cX7_ahead 4 = .ok (.ifCond .ne 10, 3) := by decide +kernel
theorem dX7_ahead_7 : decode cX7_ahead 7 = .ok (.aload_n 0, 1) := by decide +kernel
theorem dX7_ahead_8 : decode cX7_ahead 8 = .ok (.ldc 61, 2) := by decide +kernel
theorem dX7_ahead_10 : decode cX7_ahead 10 = .ok (.invokevirtual 62, 3) := by decide +kernel
theorem dX7_ahead_13 : decode cX7_ahead 13 = .ok (.ireturn, 1) := by decide +kernel
theorem dX7_ahead_14 : decode cX7_ahead 14 = .ok (.aload_n 0, 1) := by decide +kernel
theorem dX7_ahead_15 : decode cX7_ahead 15 = .ok (.getfield 27, 3) := by decide +kernel
theorem dX7_ahead_18 : decode cX7_ahead 18 = .ok (.invokevirtual 178, 3) := by decide +kernel
theorem dX7_ahead_21 : decode cX7_ahead 21 = .ok (.iconst (-1), 1) := by decide +kernel
theorem dX7_ahead_22 : decode cX7_ahead 22 = .ok (.istore_n 2, 1) := by decide +kernel
theorem dX7_ahead_23 : decode cX7_ahead 23 = .ok (.iconst 0, 1) := by decide +kernel
theorem dX7_ahead_24 : decode cX7_ahead 24 = .ok (.istore_n 3, 1) := by decide +kernel
theorem dX7_ahead_25 : decode cX7_ahead 25 = .ok (.iload_n 3, 1) := by decide +kernel
theorem dX7_ahead_26 : decode cX7_ahead 26 = .ok (.iload_n 1, 1) := by decide +kernel
theorem dX7_ahead_27 : decode cX7_ahead 27 = .ok (.if_icmp .ge 21, 3) := by decide +kernel
theorem dX7_ahead_30 : decode cX7_ahead 30 = .ok (.aload_n 0, 1) := by decide +kernel
theorem dX7_ahead_31 : decode cX7_ahead 31 = .ok (.getfield 27, 3) := by decide +kernel
theorem dX7_ahead_34 : decode cX7_ahead 34 = .ok (.getfield 181, 3) := by decide +kernel
theorem dX7_ahead_37 : decode cX7_ahead 37 = .ok (.iconst 1, 1) := by decide +kernel
theorem dX7_ahead_38 : decode cX7_ahead 38 = .ok (.invokevirtual 165, 3) := by decide +kernel
theorem dX7_ahead_41 : decode cX7_ahead 41 = .ok (.istore_n 2, 1) := by decide +kernel
theorem dX7_ahead_42 : decode cX7_ahead 42 = .ok (.iinc 3 1, 3) := by decide +kernel
theorem dX7_ahead_45 : decode cX7_ahead 45 = .ok (.goto (-20), 3) := by decide +kernel
theorem dX7_ahead_48 : decode cX7_ahead 48 = .ok (.iload_n 2, 1) := by decide +kernel
theorem dX7_ahead_49 : decode cX7_ahead 49 = .ok (.ireturn, 1) := by decide +kernel
theorem dX7_ever_0 : decode cX7_ever 0 = .ok (.aload_n 0, 1) := by decide +kernel
theorem dX7_ever_1 : decode cX7_ever 1 = .ok (.getfield 27, 3) := by decide +kernel
theorem dX7_ever_4 : decode cX7_ever 4 = .ok (.invokevirtual 184, 3) := by decide +kernel
theorem dX7_ever_7 : decode cX7_ever 7 = .ok (.ifCond .ne 10, 3) := by decide +kernel
theorem dX7_ever_10 : decode cX7_ever 10 = .ok (.aload_n 0, 1) := by decide +kernel
theorem dX7_ever_11 : decode cX7_ever 11 = .ok (.ldc 187, 2) := by decide +kernel
theorem dX7_ever_13 : decode cX7_ever 13 = .ok (.invokevirtual 62, 3) := by decide +kernel
theorem dX7_ever_16 : decode cX7_ever 16 = .ok (.ireturn, 1) := by decide +kernel
theorem dX7_ever_17 : decode cX7_ever 17 = .ok (.aload_n 0, 1) := by decide +kernel
theorem dX7_ever_18 : decode cX7_ever 18 = .ok (.getfield 27, 3) := by decide +kernel
theorem dX7_ever_21 : decode cX7_ever 21 = .ok (.invokevirtual 188, 3) := by decide +kernel
theorem dX7_ever_24 : decode cX7_ever 24 = .ok (.ireturn, 1) := by decide +kernel
theorem dX7_turns_0 : decode cX7_turns 0 = .ok (.iload_n 1, 1) := by decide +kernel
theorem dX7_turns_1 : decode cX7_turns 1 = .ok (.iconst 0, 1) := by decide +kernel
theorem dX7_turns_2 : decode cX7_turns 2 = .ok (.iconst 1, 1) := by decide +kernel
theorem dX7_turns_3 : decode cX7_turns 3 = .ok (.invokestatic 53, 3) := by decide +kernel
theorem dX7_turns_6 : decode cX7_turns 6 = .ok (.ifCond .ne 10, 3) := by decide +kernel
theorem dX7_turns_9 : decode cX7_turns 9 = .ok (.aload_n 0, 1) := by decide +kernel
theorem dX7_turns_10 : decode cX7_turns 10 = .ok (.ldc 61, 2) := by decide +kernel
theorem dX7_turns_12 : decode cX7_turns 12 = .ok (.invokevirtual 62, 3) := by decide +kernel
theorem dX7_turns_15 : decode cX7_turns 15 = .ok (.ireturn, 1) := by decide +kernel
theorem dX7_turns_16 : decode cX7_turns 16 = .ok (.aload_n 0, 1) := by decide +kernel
theorem dX7_turns_17 : decode cX7_turns 17 = .ok (.getfield 27, 3) := by decide +kernel
theorem dX7_turns_20 : decode cX7_turns 20 = .ok (.invokevirtual 184, 3) := by decide +kernel
theorem dX7_turns_23 : decode cX7_turns 23 = .ok (.ifCond .ne 10, 3) := by decide +kernel
theorem dX7_turns_26 : decode cX7_turns 26 = .ok (.aload_n 0, 1) := by decide +kernel
theorem dX7_turns_27 : decode cX7_turns 27 = .ok (.ldc 187, 2) := by decide +kernel
theorem dX7_turns_29 : decode cX7_turns 29 = .ok (.invokevirtual 62, 3) := by decide +kernel
theorem dX7_turns_32 : decode cX7_turns 32 = .ok (.ireturn, 1) := by decide +kernel
theorem dX7_turns_33 : decode cX7_turns 33 = .ok (.iload_n 1, 1) := by decide +kernel
theorem dX7_turns_34 : decode cX7_turns 34 = .ok (.ifCond .ne 13, 3) := by decide +kernel
theorem dX7_turns_37 : decode cX7_turns 37 = .ok (.aload_n 0, 1) := by decide +kernel
theorem dX7_turns_38 : decode cX7_turns 38 = .ok (.getfield 27, 3) := by decide +kernel
theorem dX7_turns_41 : decode cX7_turns 41 = .ok (.getfield 192, 3) := by decide +kernel
theorem dX7_turns_44 : decode cX7_turns 44 = .ok (.goto 18, 3) := by decide +kernel
theorem dX7_turns_47 : decode cX7_turns 47 = .ok (.aload_n 0, 1) := by decide +kernel
theorem dX7_turns_48 : decode cX7_turns 48 = .ok (.getfield 27, 3) := by decide +kernel
theorem dX7_turns_51 : decode cX7_turns 51 = .ok (.getfield 195, 3) := by decide +kernel
theorem dX7_turns_54 : decode cX7_turns 54 = .ok (.aload_n 0, 1) := by decide +kernel
theorem dX7_turns_55 : decode cX7_turns 55 = .ok (.getfield 27, 3) := by decide +kernel
theorem dX7_turns_58 : decode cX7_turns 58 = .ok (.getfield 192, 3) := by decide +kernel
theorem dX7_turns_61 : decode cX7_turns 61 = .ok (.isub, 1) := by decide +kernel
theorem dX7_turns_62 : decode cX7_turns 62 = .ok (.ireturn, 1) := by decide +kernel
theorem dX7_share_0 : decode cX7_share 0 = .ok (.iload_n 1, 1) := by decide +kernel
theorem dX7_share_1 : decode cX7_share 1 = .ok (.invokestatic 57, 3) := by decide +kernel
theorem dX7_share_4 : decode cX7_share 4 = .ok (.ifCond .eq 10, 3) := by decide +kernel
theorem dX7_share_7 : decode cX7_share 7 = .ok (.iload_n 2, 1) := by decide +kernel
theorem dX7_share_8 : decode cX7_share 8 = .ok (.invokestatic 175, 3) := by decide +kernel
theorem dX7_share_11 : decode cX7_share 11 = .ok (.ifCond .ne 10, 3) := by decide +kernel
theorem dX7_share_14 : decode cX7_share 14 = .ok (.aload_n 0, 1) := by decide +kernel
theorem dX7_share_15 : decode cX7_share 15 = .ok (.ldc 61, 2) := by decide +kernel
theorem dX7_share_17 : decode cX7_share 17 = .ok (.invokevirtual 62, 3) := by decide +kernel
theorem dX7_share_20 : decode cX7_share 20 = .ok (.ireturn, 1) := by decide +kernel
theorem dX7_share_21 : decode cX7_share 21 = .ok (.aload_n 0, 1) := by decide +kernel
theorem dX7_share_22 : decode cX7_share 22 = .ok (.getfield 27, 3) := by decide +kernel
theorem dX7_share_25 : decode cX7_share 25 = .ok (.invokevirtual 178, 3) := by decide +kernel
theorem dX7_share_28 : decode cX7_share 28 = .ok (.aload_n 0, 1) := by decide +kernel
theorem dX7_share_29 : decode cX7_share 29 = .ok (.getfield 27, 3) := by decide +kernel
theorem dX7_share_32 : decode cX7_share 32 = .ok (.iload_n 2, 1) := by decide +kernel
theorem dX7_share_33 : decode cX7_share 33 = .ok (.invokevirtual 198, 3) := by decide +kernel
theorem dX7_share_36 : decode cX7_share 36 = .ok (.aload_n 0, 1) := by decide +kernel
theorem dX7_share_37 : decode cX7_share 37 = .ok (.getfield 27, 3) := by decide +kernel
theorem dX7_share_40 : decode cX7_share 40 = .ok (.getfield 202, 3) := by decide +kernel
theorem dX7_share_43 : decode cX7_share 43 = .ok (.iload_n 1, 1) := by decide +kernel
theorem dX7_share_44 : decode cX7_share 44 = .ok (.iaload, 1) := by decide +kernel
theorem dX7_share_45 : decode cX7_share 45 = .ok (.ireturn, 1) := by decide +kernel
theorem dX7_has_0 : decode cX7_has 0 = .ok (.iload_n 1, 1) := by decide +kernel
theorem dX7_has_1 : decode cX7_has 1 = .ok (.invokestatic 57, 3) := by decide +kernel
theorem dX7_has_4 : decode cX7_has 4 = .ok (.ifCond .eq 10, 3) := by decide +kernel
theorem dX7_has_7 : decode cX7_has 7 = .ok (.iload_n 2, 1) := by decide +kernel
theorem dX7_has_8 : decode cX7_has 8 = .ok (.invokestatic 175, 3) := by decide +kernel
theorem dX7_has_11 : decode cX7_has 11 = .ok (.ifCond .ne 10, 3) := by decide +kernel
theorem dX7_has_14 : decode cX7_has 14 = .ok (.aload_n 0, 1) := by decide +kernel
theorem dX7_has_15 : decode cX7_has 15 = .ok (.ldc 61, 2) := by decide +kernel
theorem dX7_has_17 : decode cX7_has 17 = .ok (.invokevirtual 62, 3) := by decide +kernel
theorem dX7_has_20 : decode cX7_has 20 = .ok (.ireturn, 1) := by decide +kernel
theorem dX7_has_21 : decode cX7_has 21 = .ok (.aload_n 0, 1) := by decide +kernel
theorem dX7_has_22 : decode cX7_has 22 = .ok (.getfield 27, 3) := by decide +kernel
theorem dX7_has_25 : decode cX7_has 25 = .ok (.invokevirtual 178, 3) := by decide +kernel
theorem dX7_has_28 : decode cX7_has 28 = .ok (.aload_n 0, 1) := by decide +kernel
theorem dX7_has_29 : decode cX7_has 29 = .ok (.getfield 27, 3) := by decide +kernel
theorem dX7_has_32 : decode cX7_has 32 = .ok (.iload_n 2, 1) := by decide +kernel
theorem dX7_has_33 : decode cX7_has 33 = .ok (.invokevirtual 198, 3) := by decide +kernel
theorem dX7_has_36 : decode cX7_has 36 = .ok (.aload_n 0, 1) := by decide +kernel
theorem dX7_has_37 : decode cX7_has 37 = .ok (.getfield 27, 3) := by decide +kernel
theorem dX7_has_40 : decode cX7_has 40 = .ok (.iload_n 1, 1) := by decide +kernel
theorem dX7_has_41 : decode cX7_has 41 = .ok (.invokevirtual 205, 3) := by decide +kernel
theorem dX7_has_44 : decode cX7_has 44 = .ok (.ireturn, 1) := by decide +kernel
theorem dX7_but_0 : decode cX7_but 0 = .ok (.iload_n 1, 1) := by decide +kernel
theorem dX7_but_1 : decode cX7_but 1 = .ok (.getstatic 127, 3) := by decide +kernel
theorem dX7_but_4 : decode cX7_but 4 = .ok (.iconst 0, 1) := by decide +kernel
theorem dX7_but_5 : decode cX7_but 5 = .ok (.iaload, 1) := by decide +kernel
theorem dX7_but_6 : decode cX7_but 6 = .ok (.getstatic 130, 3) := by decide +kernel
theorem dX7_but_9 : decode cX7_but 9 = .ok (.iconst 0, 1) := by decide +kernel
theorem dX7_but_10 : decode cX7_but 10 = .ok (.iaload, 1) := by decide +kernel
theorem dX7_but_11 : decode cX7_but 11 = .ok (.invokestatic 53, 3) := by decide +kernel
theorem dX7_but_14 : decode cX7_but 14 = .ok (.ifCond .eq 17, 3) := by decide +kernel
theorem dX7_but_17 : decode cX7_but 17 = .ok (.iload_n 2, 1) := by decide +kernel
theorem dX7_but_18 : decode cX7_but 18 = .ok (.invokestatic 57, 3) := by decide +kernel
theorem dX7_but_21 : decode cX7_but 21 = .ok (.ifCond .eq 10, 3) := by decide +kernel
theorem dX7_but_24 : decode cX7_but 24 = .ok (.iload_n 3, 1) := by decide +kernel
theorem dX7_but_25 : decode cX7_but 25 = .ok (.invokestatic 175, 3) := by decide +kernel
theorem dX7_but_28 : decode cX7_but 28 = .ok (.ifCond .ne 10, 3) := by decide +kernel
theorem dX7_but_31 : decode cX7_but 31 = .ok (.aload_n 0, 1) := by decide +kernel
theorem dX7_but_32 : decode cX7_but 32 = .ok (.ldc 61, 2) := by decide +kernel
theorem dX7_but_34 : decode cX7_but 34 = .ok (.invokevirtual 62, 3) := by decide +kernel
theorem dX7_but_37 : decode cX7_but 37 = .ok (.ireturn, 1) := by decide +kernel
theorem dX7_but_38 : decode cX7_but 38 = .ok (.aload_n 0, 1) := by decide +kernel
theorem dX7_but_39 : decode cX7_but 39 = .ok (.getfield 27, 3) := by decide +kernel
theorem dX7_but_42 : decode cX7_but 42 = .ok (.invokevirtual 178, 3) := by decide +kernel
theorem dX7_but_45 : decode cX7_but 45 = .ok (.aload_n 0, 1) := by decide +kernel
theorem dX7_but_46 : decode cX7_but 46 = .ok (.getfield 27, 3) := by decide +kernel
theorem dX7_but_49 : decode cX7_but 49 = .ok (.getfield 181, 3) := by decide +kernel
theorem dX7_but_52 : decode cX7_but 52 = .ok (.iconst 0, 1) := by decide +kernel
theorem dX7_but_53 : decode cX7_but 53 = .ok (.iload_n 1, 1) := by decide +kernel
theorem dX7_but_54 : decode cX7_but 54 = .ok (.invokevirtual 136, 3) := by decide +kernel
theorem dX7_but_57 : decode cX7_but 57 = .ok (.aload_n 0, 1) := by decide +kernel
theorem dX7_but_58 : decode cX7_but 58 = .ok (.getfield 27, 3) := by decide +kernel
theorem dX7_but_61 : decode cX7_but 61 = .ok (.iload_n 3, 1) := by decide +kernel
theorem dX7_but_62 : decode cX7_but 62 = .ok (.invokevirtual 198, 3) := by decide +kernel
theorem dX7_but_65 : decode cX7_but 65 = .ok (.aload_n 0, 1) := by decide +kernel
theorem dX7_but_66 : decode cX7_but 66 = .ok (.getfield 27, 3) := by decide +kernel
theorem dX7_but_69 : decode cX7_but 69 = .ok (.iload_n 2, 1) := by decide +kernel
theorem dX7_but_70 : decode cX7_but 70 = .ok (.invokevirtual 205, 3) := by decide +kernel
theorem dX7_but_73 : decode cX7_but 73 = .ok (.ireturn, 1) := by decide +kernel
theorem dX7_vote_0 : decode cX7_vote 0 = .ok (.iconst (-1), 1) := by decide +kernel
theorem dX7_vote_1 : decode cX7_vote 1 = .ok (.istore_n 1, 1) := by decide +kernel
theorem dX7_vote_2 : decode cX7_vote 2 = .ok (.iconst 0, 1) := by decide +kernel
theorem dX7_vote_3 : decode cX7_vote 3 = .ok (.istore_n 2, 1) := by decide +kernel
theorem dX7_vote_4 : decode cX7_vote 4 = .ok (.iconst 0, 1) := by decide +kernel
theorem dX7_vote_5 : decode cX7_vote 5 = .ok (.istore_n 3, 1) := by decide +kernel
theorem dX7_vote_6 : decode cX7_vote 6 = .ok (.iload_n 3, 1) := by decide +kernel
theorem dX7_vote_7 : decode cX7_vote 7 = .ok (.aload_n 0, 1) := by decide +kernel
theorem dX7_vote_8 : decode cX7_vote 8 = .ok (.getfield 10, 3) := by decide +kernel
theorem dX7_vote_11 : decode cX7_vote 11 = .ok (.getfield 66, 3) := by decide +kernel
theorem dX7_vote_14 : decode cX7_vote 14 = .ok (.getfield 70, 3) := by decide +kernel
theorem dX7_vote_17 : decode cX7_vote 17 = .ok (.if_icmp .ge 52, 3) := by decide +kernel
theorem dX7_vote_20 : decode cX7_vote 20 = .ok (.aload_n 0, 1) := by decide +kernel
theorem dX7_vote_21 : decode cX7_vote 21 = .ok (.getfield 10, 3) := by decide +kernel
theorem dX7_vote_24 : decode cX7_vote 24 = .ok (.getfield 66, 3) := by decide +kernel
theorem dX7_vote_27 : decode cX7_vote 27 = .ok (.iload_n 3, 1) := by decide +kernel
theorem dX7_vote_28 : decode cX7_vote 28 = .ok (.invokevirtual 93, 3) := by decide +kernel
theorem dX7_vote_31 : decode cX7_vote 31 = .ok (.ifCond .eq 32, 3) := by decide +kernel
theorem dX7_vote_34 : decode cX7_vote 34 = .ok (.aload_n 0, 1) := by decide +kernel
theorem dX7_vote_35 : decode cX7_vote 35 = .ok (.getfield 10, 3) := by decide +kernel
theorem dX7_vote_38 : decode cX7_vote 38 = .ok (.getfield 66, 3) := by decide +kernel
theorem dX7_vote_41 : decode cX7_vote 41 = .ok (.iload_n 3, 1) := by decide +kernel
theorem dX7_vote_42 : decode cX7_vote 42 = .ok (.invokevirtual 208, 3) := by decide +kernel
theorem dX7_vote_45 : decode cX7_vote 45 = .ok (.istore 4, 2) := by decide +kernel
theorem dX7_vote_47 : decode cX7_vote 47 = .ok (.iload_n 1, 1) := by decide +kernel
theorem dX7_vote_48 : decode cX7_vote 48 = .ok (.iconst (-1), 1) := by decide +kernel
theorem dX7_vote_49 : decode cX7_vote 49 = .ok (.if_icmp .eq 9, 3) := by decide +kernel
theorem dX7_vote_52 : decode cX7_vote 52 = .ok (.iload 4, 2) := by decide +kernel
theorem dX7_vote_54 : decode cX7_vote 54 = .ok (.iload_n 2, 1) := by decide +kernel
theorem dX7_vote_55 : decode cX7_vote 55 = .ok (.if_icmp .le 8, 3) := by decide +kernel
theorem dX7_vote_58 : decode cX7_vote 58 = .ok (.iload_n 3, 1) := by decide +kernel
theorem dX7_vote_59 : decode cX7_vote 59 = .ok (.istore_n 1, 1) := by decide +kernel
theorem dX7_vote_60 : decode cX7_vote 60 = .ok (.iload 4, 2) := by decide +kernel
theorem dX7_vote_62 : decode cX7_vote 62 = .ok (.istore_n 2, 1) := by decide +kernel
theorem dX7_vote_63 : decode cX7_vote 63 = .ok (.iinc 3 1, 3) := by decide +kernel
theorem dX7_vote_66 : decode cX7_vote 66 = .ok (.goto (-60), 3) := by decide +kernel
theorem dX7_vote_69 : decode cX7_vote 69 = .ok (.iload_n 1, 1) := by decide +kernel
theorem dX7_vote_70 : decode cX7_vote 70 = .ok (.iconst (-1), 1) := by decide +kernel
theorem dX7_vote_71 : decode cX7_vote 71 = .ok (.if_icmp .ne 12, 3) := by decide +kernel
theorem dX7_vote_74 : decode cX7_vote 74 = .ok (.aload_n 0, 1) := by decide +kernel
theorem dX7_vote_75 : decode cX7_vote 75 = .ok (.ldc 187, 2) := by decide +kernel
theorem dX7_vote_77 : decode cX7_vote 77 = .ok (.invokevirtual 62, 3) := by decide +kernel
theorem dX7_vote_80 : decode cX7_vote 80 = .ok (.goto 4, 3) := by decide +kernel
theorem dX7_vote_83 : decode cX7_vote 83 = .ok (.iload_n 1, 1) := by decide +kernel
theorem dX7_vote_84 : decode cX7_vote 84 = .ok (.ireturn, 1) := by decide +kernel
theorem dX7_kept_0 : decode cX7_kept 0 = .ok (.aload_n 0, 1) := by decide +kernel
theorem dX7_kept_1 : decode cX7_kept 1 = .ok (.iload_n 1, 1) := by decide +kernel
theorem dX7_kept_2 : decode cX7_kept 2 = .ok (.iload_n 2, 1) := by decide +kernel
theorem dX7_kept_3 : decode cX7_kept 3 = .ok (.invokevirtual 118, 3) := by decide +kernel
theorem dX7_kept_6 : decode cX7_kept 6 = .ok (.ifCond .eq 10, 3) := by decide +kernel
theorem dX7_kept_9 : decode cX7_kept 9 = .ok (.iload_n 3, 1) := by decide +kernel
theorem dX7_kept_10 : decode cX7_kept 10 = .ok (.invokestatic 175, 3) := by decide +kernel
theorem dX7_kept_13 : decode cX7_kept 13 = .ok (.ifCond .ne 10, 3) := by decide +kernel
theorem dX7_kept_16 : decode cX7_kept 16 = .ok (.aload_n 0, 1) := by decide +kernel
theorem dX7_kept_17 : decode cX7_kept 17 = .ok (.ldc 61, 2) := by decide +kernel
theorem dX7_kept_19 : decode cX7_kept 19 = .ok (.invokevirtual 62, 3) := by decide +kernel
theorem dX7_kept_22 : decode cX7_kept 22 = .ok (.ireturn, 1) := by decide +kernel
theorem dX7_kept_23 : decode cX7_kept 23 = .ok (.aload_n 0, 1) := by decide +kernel
theorem dX7_kept_24 : decode cX7_kept 24 = .ok (.getfield 10, 3) := by decide +kernel
theorem dX7_kept_27 : decode cX7_kept 27 = .ok (.getfield 66, 3) := by decide +kernel
theorem dX7_kept_30 : decode cX7_kept 30 = .ok (.iload_n 1, 1) := by decide +kernel
theorem dX7_kept_31 : decode cX7_kept 31 = .ok (.invokevirtual 93, 3) := by decide +kernel
theorem dX7_kept_34 : decode cX7_kept 34 = .ok (.ifCond .eq 17, 3) := by decide +kernel
theorem dX7_kept_37 : decode cX7_kept 37 = .ok (.aload_n 0, 1) := by decide +kernel
theorem dX7_kept_38 : decode cX7_kept 38 = .ok (.getfield 10, 3) := by decide +kernel
theorem dX7_kept_41 : decode cX7_kept 41 = .ok (.getfield 66, 3) := by decide +kernel
theorem dX7_kept_44 : decode cX7_kept 44 = .ok (.iload_n 2, 1) := by decide +kernel
theorem dX7_kept_45 : decode cX7_kept 45 = .ok (.invokevirtual 93, 3) := by decide +kernel
theorem dX7_kept_48 : decode cX7_kept 48 = .ok (.ifCond .ne 10, 3) := by decide +kernel
theorem dX7_kept_51 : decode cX7_kept 51 = .ok (.aload_n 0, 1) := by decide +kernel
theorem dX7_kept_52 : decode cX7_kept 52 = .ok (.ldc 140, 2) := by decide +kernel
theorem dX7_kept_54 : decode cX7_kept 54 = .ok (.invokevirtual 62, 3) := by decide +kernel
theorem dX7_kept_57 : decode cX7_kept 57 = .ok (.ireturn, 1) := by decide +kernel
theorem dX7_kept_58 : decode cX7_kept 58 = .ok (.aload_n 0, 1) := by decide +kernel
theorem dX7_kept_59 : decode cX7_kept 59 = .ok (.getfield 27, 3) := by decide +kernel
theorem dX7_kept_62 : decode cX7_kept 62 = .ok (.invokevirtual 178, 3) := by decide +kernel
theorem dX7_kept_65 : decode cX7_kept 65 = .ok (.aload_n 0, 1) := by decide +kernel
theorem dX7_kept_66 : decode cX7_kept 66 = .ok (.getfield 27, 3) := by decide +kernel
theorem dX7_kept_69 : decode cX7_kept 69 = .ok (.iload_n 3, 1) := by decide +kernel
theorem dX7_kept_70 : decode cX7_kept 70 = .ok (.invokevirtual 198, 3) := by decide +kernel
theorem dX7_kept_73 : decode cX7_kept 73 = .ok (.aload_n 0, 1) := by decide +kernel
theorem dX7_kept_74 : decode cX7_kept 74 = .ok (.getfield 27, 3) := by decide +kernel
theorem dX7_kept_77 : decode cX7_kept 77 = .ok (.invokevirtual 211, 3) := by decide +kernel
theorem dX7_kept_80 : decode cX7_kept 80 = .ok (.aload_n 0, 1) := by decide +kernel
theorem dX7_kept_81 : decode cX7_kept 81 = .ok (.getfield 27, 3) := by decide +kernel
theorem dX7_kept_84 : decode cX7_kept 84 = .ok (.invokevirtual 178, 3) := by decide +kernel
theorem dX7_kept_87 : decode cX7_kept 87 = .ok (.aload_n 0, 1) := by decide +kernel
theorem dX7_kept_88 : decode cX7_kept 88 = .ok (.getfield 27, 3) := by decide +kernel
theorem dX7_kept_91 : decode cX7_kept 91 = .ok (.getfield 181, 3) := by decide +kernel
theorem dX7_kept_94 : decode cX7_kept 94 = .ok (.iload_n 1, 1) := by decide +kernel
theorem dX7_kept_95 : decode cX7_kept 95 = .ok (.iload_n 2, 1) := by decide +kernel
theorem dX7_kept_96 : decode cX7_kept 96 = .ok (.invokevirtual 214, 3) := by decide +kernel
theorem dX7_kept_99 : decode cX7_kept 99 = .ok (.aload_n 0, 1) := by decide +kernel
theorem dX7_kept_100 : decode cX7_kept 100 = .ok (.getfield 27, 3) := by decide +kernel
theorem dX7_kept_103 : decode cX7_kept 103 = .ok (.iload_n 3, 1) := by decide +kernel
theorem dX7_kept_104 : decode cX7_kept 104 = .ok (.invokevirtual 198, 3) := by decide +kernel
theorem dX7_kept_107 : decode cX7_kept 107 = .ok (.aload_n 0, 1) := by decide +kernel
theorem dX7_kept_108 : decode cX7_kept 108 = .ok (.getfield 27, 3) := by decide +kernel
theorem dX7_kept_111 : decode cX7_kept 111 = .ok (.iload_n 1, 1) := by decide +kernel
theorem dX7_kept_112 : decode cX7_kept 112 = .ok (.invokevirtual 217, 3) := by decide +kernel
theorem dX7_kept_115 : decode cX7_kept 115 = .ok (.ireturn, 1) := by decide +kernel
theorem dX7_pact_0 : decode cX7_pact 0 = .ok (.iload_n 1, 1) := by decide +kernel
theorem dX7_pact_1 : decode cX7_pact 1 = .ok (.iconst 1, 1) := by decide +kernel
theorem dX7_pact_2 : decode cX7_pact 2 = .ok (.bipush 40, 2) := by decide +kernel
theorem dX7_pact_4 : decode cX7_pact 4 = .ok (.invokestatic 53, 3) := by decide +kernel
theorem dX7_pact_7 : decode cX7_pact 7 = .ok (.ifCond .ne 10, 3) := by decide +kernel
theorem dX7_pact_10 : decode cX7_pact 10 = .ok (.aload_n 0, 1) := by decide +kernel
theorem dX7_pact_11 : decode cX7_pact 11 = .ok (.ldc 61, 2) := by decide +kernel
theorem dX7_pact_13 : decode cX7_pact 13 = .ok (.invokevirtual 62, 3) := by decide +kernel
theorem dX7_pact_16 : decode cX7_pact 16 = .ok (.ireturn, 1) := by decide +kernel
theorem dX7_pact_17 : decode cX7_pact 17 = .ok (.aload_n 0, 1) := by decide +kernel
theorem dX7_pact_18 : decode cX7_pact 18 = .ok (.getfield 10, 3) := by decide +kernel
theorem dX7_pact_21 : decode cX7_pact 21 = .ok (.getfield 66, 3) := by decide +kernel
theorem dX7_pact_24 : decode cX7_pact 24 = .ok (.invokevirtual 220, 3) := by decide +kernel
theorem dX7_pact_27 : decode cX7_pact 27 = .ok (.invokestatic 223, 3) := by decide +kernel
theorem dX7_pact_30 : decode cX7_pact 30 = .ok (.iconst 2, 1) := by decide +kernel
theorem dX7_pact_31 : decode cX7_pact 31 = .ok (.if_icmp .ge 10, 3) := by decide +kernel
theorem dX7_pact_34 : decode cX7_pact 34 = .ok (.aload_n 0, 1) := by decide +kernel
theorem dX7_pact_35 : decode cX7_pact 35 = .ok (.ldc 187, 2) := by decide +kernel
theorem dX7_pact_37 : decode cX7_pact 37 = .ok (.invokevirtual 62, 3) := by decide +kernel
theorem dX7_pact_40 : decode cX7_pact 40 = .ok (.ireturn, 1) := by decide +kernel
theorem dX7_pact_41 : decode cX7_pact 41 = .ok (.aload_n 0, 1) := by decide +kernel
theorem dX7_pact_42 : decode cX7_pact 42 = .ok (.getfield 27, 3) := by decide +kernel
theorem dX7_pact_45 : decode cX7_pact 45 = .ok (.invokevirtual 178, 3) := by decide +kernel
theorem dX7_pact_48 : decode cX7_pact 48 = .ok (.aload_n 0, 1) := by decide +kernel
theorem dX7_pact_49 : decode cX7_pact 49 = .ok (.getfield 27, 3) := by decide +kernel
theorem dX7_pact_52 : decode cX7_pact 52 = .ok (.iload_n 1, 1) := by decide +kernel
theorem dX7_pact_53 : decode cX7_pact 53 = .ok (.invokevirtual 198, 3) := by decide +kernel
theorem dX7_pact_56 : decode cX7_pact 56 = .ok (.aload_n 0, 1) := by decide +kernel
theorem dX7_pact_57 : decode cX7_pact 57 = .ok (.getfield 27, 3) := by decide +kernel
theorem dX7_pact_60 : decode cX7_pact 60 = .ok (.invokevirtual 211, 3) := by decide +kernel
theorem dX7_pact_63 : decode cX7_pact 63 = .ok (.iconst (-1), 1) := by decide +kernel
theorem dX7_pact_64 : decode cX7_pact 64 = .ok (.istore_n 2, 1) := by decide +kernel
theorem dX7_pact_65 : decode cX7_pact 65 = .ok (.iconst 0, 1) := by decide +kernel
theorem dX7_pact_66 : decode cX7_pact 66 = .ok (.istore_n 3, 1) := by decide +kernel
theorem dX7_pact_67 : decode cX7_pact 67 = .ok (.iconst 0, 1) := by decide +kernel
theorem dX7_pact_68 : decode cX7_pact 68 = .ok (.istore 4, 2) := by decide +kernel
theorem dX7_pact_70 : decode cX7_pact 70 = .ok (.iload 4, 2) := by decide +kernel
theorem dX7_pact_72 : decode cX7_pact 72 = .ok (.aload_n 0, 1) := by decide +kernel
theorem dX7_pact_73 : decode cX7_pact 73 = .ok (.getfield 10, 3) := by decide +kernel
theorem dX7_pact_76 : decode cX7_pact 76 = .ok (.getfield 66, 3) := by decide +kernel
theorem dX7_pact_79 : decode cX7_pact 79 = .ok (.getfield 70, 3) := by decide +kernel
theorem dX7_pact_82 : decode cX7_pact 82 = .ok (.if_icmp .ge 139, 3) := by decide +kernel
theorem dX7_pact_85 : decode cX7_pact 85 = .ok (.iload 4, 2) := by decide +kernel
theorem dX7_pact_87 : decode cX7_pact 87 = .ok (.iconst 1, 1) := by decide +kernel
theorem dX7_pact_88 : decode cX7_pact 88 = .ok (.iadd, 1) := by decide +kernel
theorem dX7_pact_89 : decode cX7_pact 89 = .ok (.istore 5, 2) := by decide +kernel
theorem dX7_pact_91 : decode cX7_pact 91 = .ok (.iload 5, 2) := by decide +kernel
theorem dX7_pact_93 : decode cX7_pact 93 = .ok (.aload_n 0, 1) := by decide +kernel
theorem dX7_pact_94 : decode cX7_pact 94 = .ok (.getfield 10, 3) := by decide +kernel
theorem dX7_pact_97 : decode cX7_pact 97 = .ok (.getfield 66, 3) := by decide +kernel
theorem dX7_pact_100 : decode cX7_pact 100 = .ok (.getfield 70, 3) := by decide +kernel
theorem dX7_pact_103 : decode cX7_pact 103 = .ok (.if_icmp .ge 112, 3) := by decide +kernel
theorem dX7_pact_106 : decode cX7_pact 106 = .ok (.aload_n 0, 1) := by decide +kernel
theorem dX7_pact_107 : decode cX7_pact 107 = .ok (.getfield 10, 3) := by decide +kernel
theorem dX7_pact_110 : decode cX7_pact 110 = .ok (.getfield 66, 3) := by decide +kernel
theorem dX7_pact_113 : decode cX7_pact 113 = .ok (.iload 4, 2) := by decide +kernel
theorem dX7_pact_115 : decode cX7_pact 115 = .ok (.invokevirtual 93, 3) := by decide +kernel
theorem dX7_pact_118 : decode cX7_pact 118 = .ok (.ifCond .eq 91, 3) := by decide +kernel
theorem dX7_pact_121 : decode cX7_pact 121 = .ok (.aload_n 0, 1) := by decide +kernel
theorem dX7_pact_122 : decode cX7_pact 122 = .ok (.getfield 10, 3) := by decide +kernel
theorem dX7_pact_125 : decode cX7_pact 125 = .ok (.getfield 66, 3) := by decide +kernel
theorem dX7_pact_128 : decode cX7_pact 128 = .ok (.iload 5, 2) := by decide +kernel
theorem dX7_pact_130 : decode cX7_pact 130 = .ok (.invokevirtual 93, 3) := by decide +kernel
theorem dX7_pact_133 : decode cX7_pact 133 = .ok (.ifCond .eq 76, 3) := by decide +kernel
theorem dX7_pact_136 : decode cX7_pact 136 = .ok (.aload_n 0, 1) := by decide +kernel
theorem dX7_pact_137 : decode cX7_pact 137 = .ok (.getfield 27, 3) := by decide +kernel
theorem dX7_pact_140 : decode cX7_pact 140 = .ok (.invokevirtual 178, 3) := by decide +kernel
theorem dX7_pact_143 : decode cX7_pact 143 = .ok (.aload_n 0, 1) := by decide +kernel
theorem dX7_pact_144 : decode cX7_pact 144 = .ok (.getfield 27, 3) := by decide +kernel
theorem dX7_pact_147 : decode cX7_pact 147 = .ok (.getfield 181, 3) := by decide +kernel
theorem dX7_pact_150 : decode cX7_pact 150 = .ok (.iload 4, 2) := by decide +kernel
theorem dX7_pact_152 : decode cX7_pact 152 = .ok (.iload 5, 2) := by decide +kernel
theorem dX7_pact_154 : decode cX7_pact 154 = .ok (.invokevirtual 214, 3) := by decide +kernel
theorem dX7_pact_157 : decode cX7_pact 157 = .ok (.aload_n 0, 1) := by decide +kernel
theorem dX7_pact_158 : decode cX7_pact 158 = .ok (.getfield 27, 3) := by decide +kernel
theorem dX7_pact_161 : decode cX7_pact 161 = .ok (.iload_n 1, 1) := by decide +kernel
theorem dX7_pact_162 : decode cX7_pact 162 = .ok (.invokevirtual 198, 3) := by decide +kernel
theorem dX7_pact_165 : decode cX7_pact 165 = .ok (.aload_n 0, 1) := by decide +kernel
theorem dX7_pact_166 : decode cX7_pact 166 = .ok (.getfield 27, 3) := by decide +kernel
theorem dX7_pact_169 : decode cX7_pact 169 = .ok (.iload 4, 2) := by decide +kernel
theorem dX7_pact_171 : decode cX7_pact 171 = .ok (.invokevirtual 217, 3) := by decide +kernel
theorem dX7_pact_174 : decode cX7_pact 174 = .ok (.aload_n 0, 1) := by decide +kernel
theorem dX7_pact_175 : decode cX7_pact 175 = .ok (.getfield 27, 3) := by decide +kernel
theorem dX7_pact_178 : decode cX7_pact 178 = .ok (.iload 5, 2) := by decide +kernel
theorem dX7_pact_180 : decode cX7_pact 180 = .ok (.invokevirtual 217, 3) := by decide +kernel
theorem dX7_pact_183 : decode cX7_pact 183 = .ok (.iadd, 1) := by decide +kernel
theorem dX7_pact_184 : decode cX7_pact 184 = .ok (.istore 6, 2) := by decide +kernel
theorem dX7_pact_186 : decode cX7_pact 186 = .ok (.iload_n 2, 1) := by decide +kernel
theorem dX7_pact_187 : decode cX7_pact 187 = .ok (.iconst (-1), 1) := by decide +kernel
theorem dX7_pact_188 : decode cX7_pact 188 = .ok (.if_icmp .eq 9, 3) := by decide +kernel
theorem dX7_pact_191 : decode cX7_pact 191 = .ok (.iload 6, 2) := by decide +kernel
theorem dX7_pact_193 : decode cX7_pact 193 = .ok (.iload_n 3, 1) := by decide +kernel
theorem dX7_pact_194 : decode cX7_pact 194 = .ok (.if_icmp .le 15, 3) := by decide +kernel
theorem dX7_pact_197 : decode cX7_pact 197 = .ok (.bipush 10, 2) := by decide +kernel
theorem dX7_pact_199 : decode cX7_pact 199 = .ok (.iload 4, 2) := by decide +kernel
theorem dX7_pact_201 : decode cX7_pact 201 = .ok (.imul, 1) := by decide +kernel
theorem dX7_pact_202 : decode cX7_pact 202 = .ok (.iload 5, 2) := by decide +kernel
theorem dX7_pact_204 : decode cX7_pact 204 = .ok (.iadd, 1) := by decide +kernel
theorem dX7_pact_205 : decode cX7_pact 205 = .ok (.istore_n 2, 1) := by decide +kernel
theorem dX7_pact_206 : decode cX7_pact 206 = .ok (.iload 6, 2) := by decide +kernel
theorem dX7_pact_208 : decode cX7_pact 208 = .ok (.istore_n 3, 1) := by decide +kernel
theorem dX7_pact_209 : decode cX7_pact 209 = .ok (.iinc 5 1, 3) := by decide +kernel
theorem dX7_pact_212 : decode cX7_pact 212 = .ok (.goto (-121), 3) := by decide +kernel
theorem dX7_pact_215 : decode cX7_pact 215 = .ok (.iinc 4 1, 3) := by decide +kernel
theorem dX7_pact_218 : decode cX7_pact 218 = .ok (.goto (-148), 3) := by decide +kernel
theorem dX7_pact_221 : decode cX7_pact 221 = .ok (.iload_n 2, 1) := by decide +kernel
theorem dX7_pact_222 : decode cX7_pact 222 = .ok (.ireturn, 1) := by decide +kernel
theorem dX7_odds_0 : decode cX7_odds 0 = .ok (.aload_n 0, 1) := by decide +kernel
theorem dX7_odds_1 : decode cX7_odds 1 = .ok (.iload_n 1, 1) := by decide +kernel
theorem dX7_odds_2 : decode cX7_odds 2 = .ok (.invokevirtual 81, 3) := by decide +kernel
theorem dX7_odds_5 : decode cX7_odds 5 = .ok (.ifCond .eq 13, 3) := by decide +kernel
theorem dX7_odds_8 : decode cX7_odds 8 = .ok (.iload_n 2, 1) := by decide +kernel
theorem dX7_odds_9 : decode cX7_odds 9 = .ok (.iconst 1, 1) := by decide +kernel
theorem dX7_odds_10 : decode cX7_odds 10 = .ok (.bipush 40, 2) := by decide +kernel
theorem dX7_odds_12 : decode cX7_odds 12 = .ok (.invokestatic 53, 3) := by decide +kernel
theorem dX7_odds_15 : decode cX7_odds 15 = .ok (.ifCond .ne 10, 3) := by decide +kernel
theorem dX7_odds_18 : decode cX7_odds 18 = .ok (.aload_n 0, 1) := by decide +kernel
theorem dX7_odds_19 : decode cX7_odds 19 = .ok (.ldc 61, 2) := by decide +kernel
theorem dX7_odds_21 : decode cX7_odds 21 = .ok (.invokevirtual 62, 3) := by decide +kernel
theorem dX7_odds_24 : decode cX7_odds 24 = .ok (.ireturn, 1) := by decide +kernel
theorem dX7_odds_25 : decode cX7_odds 25 = .ok (.iconst 0, 1) := by decide +kernel
theorem dX7_odds_26 : decode cX7_odds 26 = .ok (.istore_n 3, 1) := by decide +kernel
theorem dX7_odds_27 : decode cX7_odds 27 = .ok (.aload_n 0, 1) := by decide +kernel
theorem dX7_odds_28 : decode cX7_odds 28 = .ok (.getfield 10, 3) := by decide +kernel
theorem dX7_odds_31 : decode cX7_odds 31 = .ok (.getfield 66, 3) := by decide +kernel
theorem dX7_odds_34 : decode cX7_odds 34 = .ok (.getfield 172, 3) := by decide +kernel
theorem dX7_odds_37 : decode cX7_odds 37 = .ok (.istore 4, 2) := by decide +kernel
theorem dX7_odds_39 : decode cX7_odds 39 = .ok (.iconst 0, 1) := by decide +kernel
theorem dX7_odds_40 : decode cX7_odds 40 = .ok (.istore 5, 2) := by decide +kernel
theorem dX7_odds_42 : decode cX7_odds 42 = .ok (.iload 5, 2) := by decide +kernel
theorem dX7_odds_44 : decode cX7_odds 44 = .ok (.iload_n 2, 1) := by decide +kernel
theorem dX7_odds_45 : decode cX7_odds 45 = .ok (.if_icmp .ge 103, 3) := by decide +kernel
theorem dX7_odds_48 : decode cX7_odds 48 = .ok (.aload_n 0, 1) := by decide +kernel
theorem dX7_odds_49 : decode cX7_odds 49 = .ok (.getfield 19, 3) := by decide +kernel
theorem dX7_odds_52 : decode cX7_odds 52 = .ok (.aload_n 0, 1) := by decide +kernel
theorem dX7_odds_53 : decode cX7_odds 53 = .ok (.getfield 10, 3) := by decide +kernel
theorem dX7_odds_56 : decode cX7_odds 56 = .ok (.invokevirtual 228, 3) := by decide +kernel
theorem dX7_odds_59 : decode cX7_odds 59 = .ok (.aload_n 0, 1) := by decide +kernel
theorem dX7_odds_60 : decode cX7_odds 60 = .ok (.getfield 19, 3) := by decide +kernel
theorem dX7_odds_63 : decode cX7_odds 63 = .ok (.getfield 66, 3) := by decide +kernel
theorem dX7_odds_66 : decode cX7_odds 66 = .ok (.iload 4, 2) := by decide +kernel
theorem dX7_odds_68 : decode cX7_odds 68 = .ok (.putfield 172, 3) := by decide +kernel
theorem dX7_odds_71 : decode cX7_odds 71 = .ok (.iconst 0, 1) := by decide +kernel
theorem dX7_odds_72 : decode cX7_odds 72 = .ok (.istore 6, 2) := by decide +kernel
theorem dX7_odds_74 : decode cX7_odds 74 = .ok (.iconst 0, 1) := by decide +kernel
theorem dX7_odds_75 : decode cX7_odds 75 = .ok (.istore 7, 2) := by decide +kernel
theorem dX7_odds_77 : decode cX7_odds 77 = .ok (.iload 7, 2) := by decide +kernel
theorem dX7_odds_79 : decode cX7_odds 79 = .ok (.sipush 200, 3) := by decide +kernel
theorem dX7_odds_82 : decode cX7_odds 82 = .ok (.if_icmp .ge 26, 3) := by decide +kernel
theorem dX7_odds_85 : decode cX7_odds 85 = .ok (.iload 6, 2) := by decide +kernel
theorem dX7_odds_87 : decode cX7_odds 87 = .ok (.ifCond .ne 21, 3) := by decide +kernel
theorem dX7_odds_90 : decode cX7_odds 90 = .ok (.aload_n 0, 1) := by decide +kernel
theorem dX7_odds_91 : decode cX7_odds 91 = .ok (.getfield 19, 3) := by decide +kernel
theorem dX7_odds_94 : decode cX7_odds 94 = .ok (.getfield 84, 3) := by decide +kernel
theorem dX7_odds_97 : decode cX7_odds 97 = .ok (.invokevirtual 168, 3) := by decide +kernel
theorem dX7_odds_100 : decode cX7_odds 100 = .ok (.istore 6, 2) := by decide +kernel
theorem dX7_odds_102 : decode cX7_odds 102 = .ok (.iinc 7 1, 3) := by decide +kernel
theorem dX7_odds_105 : decode cX7_odds 105 = .ok (.goto (-28), 3) := by decide +kernel
theorem dX7_odds_108 : decode cX7_odds 108 = .ok (.iload 6, 2) := by decide +kernel
theorem dX7_odds_110 : decode cX7_odds 110 = .ok (.ifCond .eq 20, 3) := by decide +kernel
theorem dX7_odds_113 : decode cX7_odds 113 = .ok (.aload_n 0, 1) := by decide +kernel
theorem dX7_odds_114 : decode cX7_odds 114 = .ok (.getfield 19, 3) := by decide +kernel
theorem dX7_odds_117 : decode cX7_odds 117 = .ok (.getfield 84, 3) := by decide +kernel
theorem dX7_odds_120 : decode cX7_odds 120 = .ok (.getfield 141, 3) := by decide +kernel
theorem dX7_odds_123 : decode cX7_odds 123 = .ok (.iload_n 1, 1) := by decide +kernel
theorem dX7_odds_124 : decode cX7_odds 124 = .ok (.if_icmp .ne 6, 3) := by decide +kernel
theorem dX7_odds_127 : decode cX7_odds 127 = .ok (.iinc 3 1, 3) := by decide +kernel
theorem dX7_odds_130 : decode cX7_odds 130 = .ok (.aload_n 0, 1) := by decide +kernel
theorem dX7_odds_131 : decode cX7_odds 131 = .ok (.getfield 19, 3) := by decide +kernel
theorem dX7_odds_134 : decode cX7_odds 134 = .ok (.getfield 66, 3) := by decide +kernel
theorem dX7_odds_137 : decode cX7_odds 137 = .ok (.getfield 172, 3) := by decide +kernel
theorem dX7_odds_140 : decode cX7_odds 140 = .ok (.istore 4, 2) := by decide +kernel
theorem dX7_odds_142 : decode cX7_odds 142 = .ok (.iinc 5 1, 3) := by decide +kernel
theorem dX7_odds_145 : decode cX7_odds 145 = .ok (.goto (-103), 3) := by decide +kernel
theorem dX7_odds_148 : decode cX7_odds 148 = .ok (.iload_n 3, 1) := by decide +kernel
theorem dX7_odds_149 : decode cX7_odds 149 = .ok (.ireturn, 1) := by decide +kernel
theorem dX7_feed_0 : decode cX7_feed 0 = .ok (.iload_n 2, 1) := by decide +kernel
theorem dX7_feed_1 : decode cX7_feed 1 = .ok (.iconst 1, 1) := by decide +kernel
theorem dX7_feed_2 : decode cX7_feed 2 = .ok (.iconst 4, 1) := by decide +kernel
theorem dX7_feed_3 : decode cX7_feed 3 = .ok (.invokestatic 53, 3) := by decide +kernel
theorem dX7_feed_6 : decode cX7_feed 6 = .ok (.ifCond .ne 10, 3) := by decide +kernel
theorem dX7_feed_9 : decode cX7_feed 9 = .ok (.aload_n 0, 1) := by decide +kernel
theorem dX7_feed_10 : decode cX7_feed 10 = .ok (.ldc 61, 2) := by decide +kernel
theorem dX7_feed_12 : decode cX7_feed 12 = .ok (.invokevirtual 62, 3) := by decide +kernel
theorem dX7_feed_15 : decode cX7_feed 15 = .ok (.ireturn, 1) := by decide +kernel
theorem dX7_feed_16 : decode cX7_feed 16 = .ok (.aload_n 0, 1) := by decide +kernel
theorem dX7_feed_17 : decode cX7_feed 17 = .ok (.getfield 34, 3) := by decide +kernel
theorem dX7_feed_20 : decode cX7_feed 20 = .ok (.getfield 231, 3) := by decide +kernel
theorem dX7_feed_23 : decode cX7_feed 23 = .ok (.iload_n 2, 1) := by decide +kernel
theorem dX7_feed_24 : decode cX7_feed 24 = .ok (.iadd, 1) := by decide +kernel
theorem dX7_feed_25 : decode cX7_feed 25 = .ok (.bipush 80, 2) := by decide +kernel
theorem dX7_feed_27 : decode cX7_feed 27 = .ok (.if_icmp .le 10, 3) := by decide +kernel
theorem dX7_feed_30 : decode cX7_feed 30 = .ok (.aload_n 0, 1) := by decide +kernel
theorem dX7_feed_31 : decode cX7_feed 31 = .ok (.ldc 76, 2) := by decide +kernel
theorem dX7_feed_33 : decode cX7_feed 33 = .ok (.invokevirtual 62, 3) := by decide +kernel
theorem dX7_feed_36 : decode cX7_feed 36 = .ok (.ireturn, 1) := by decide +kernel
theorem dX7_feed_37 : decode cX7_feed 37 = .ok (.iload_n 2, 1) := by decide +kernel
theorem dX7_feed_38 : decode cX7_feed 38 = .ok (.iconst 1, 1) := by decide +kernel
theorem dX7_feed_39 : decode cX7_feed 39 = .ok (.isub, 1) := by decide +kernel
theorem dX7_feed_40 : decode cX7_feed 40 = .ok (.istore_n 3, 1) := by decide +kernel
theorem dX7_feed_41 : decode cX7_feed 41 = .ok (.iload_n 3, 1) := by decide +kernel
theorem dX7_feed_42 : decode cX7_feed 42 = .ok (.ifCond .lt 26, 3) := by decide +kernel
theorem dX7_feed_45 : decode cX7_feed 45 = .ok (.aload_n 0, 1) := by decide +kernel
theorem dX7_feed_46 : decode cX7_feed 46 = .ok (.getfield 34, 3) := by decide +kernel
theorem dX7_feed_49 : decode cX7_feed 49 = .ok (.iload_n 1, 1) := by decide +kernel
theorem dX7_feed_50 : decode cX7_feed 50 = .ok (.bipush 8, 2) := by decide +kernel
theorem dX7_feed_52 : decode cX7_feed 52 = .ok (.iload_n 3, 1) := by decide +kernel
theorem dX7_feed_53 : decode cX7_feed 53 = .ok (.imul, 1) := by decide +kernel
theorem dX7_feed_54 : decode cX7_feed 54 = .ok (.iushr, 1) := by decide +kernel
theorem dX7_feed_55 : decode cX7_feed 55 = .ok (.sipush 255, 3) := by decide +kernel
theorem dX7_feed_58 : decode cX7_feed 58 = .ok (.iand, 1) := by decide +kernel
theorem dX7_feed_59 : decode cX7_feed 59 = .ok (.invokevirtual 234, 3) := by decide +kernel
theorem dX7_feed_62 : decode cX7_feed 62 = .ok (.iinc 3 (-1), 3) := by decide +kernel
theorem dX7_feed_65 : decode cX7_feed 65 = .ok (.goto (-24), 3) := by decide +kernel
theorem dX7_feed_68 : decode cX7_feed 68 = .ok (.aload_n 0, 1) := by decide +kernel
theorem dX7_feed_69 : decode cX7_feed 69 = .ok (.getfield 34, 3) := by decide +kernel
theorem dX7_feed_72 : decode cX7_feed 72 = .ok (.getfield 231, 3) := by decide +kernel
theorem dX7_feed_75 : decode cX7_feed 75 = .ok (.ireturn, 1) := by decide +kernel
theorem dX7_wipe_0 : decode cX7_wipe 0 = .ok (.aload_n 0, 1) := by decide +kernel
theorem dX7_wipe_1 : decode cX7_wipe 1 = .ok (.getfield 34, 3) := by decide +kernel
theorem dX7_wipe_4 : decode cX7_wipe 4 = .ok (.getfield 231, 3) := by decide +kernel
theorem dX7_wipe_7 : decode cX7_wipe 7 = .ok (.istore_n 1, 1) := by decide +kernel
theorem dX7_wipe_8 : decode cX7_wipe 8 = .ok (.aload_n 0, 1) := by decide +kernel
theorem dX7_wipe_9 : decode cX7_wipe 9 = .ok (.getfield 34, 3) := by decide +kernel
theorem dX7_wipe_12 : decode cX7_wipe 12 = .ok (.iconst 0, 1) := by decide +kernel
theorem dX7_wipe_13 : decode cX7_wipe 13 = .ok (.putfield 231, 3) := by decide +kernel
theorem dX7_wipe_16 : decode cX7_wipe 16 = .ok (.iload_n 1, 1) := by decide +kernel
theorem dX7_wipe_17 : decode cX7_wipe 17 = .ok (.ireturn, 1) := by decide +kernel
theorem dX7_text_0 : decode cX7_text 0 = .ok (.aload_n 0, 1) := by decide +kernel
theorem dX7_text_1 : decode cX7_text 1 = .ok (.getfield 34, 3) := by decide +kernel
theorem dX7_text_4 : decode cX7_text 4 = .ok (.invokevirtual 237, 3) := by decide +kernel
theorem dX7_text_7 : decode cX7_text 7 = .ok (.istore_n 1, 1) := by decide +kernel
theorem dX7_text_8 : decode cX7_text 8 = .ok (.aload_n 0, 1) := by decide +kernel
theorem dX7_text_9 : decode cX7_text 9 = .ok (.getfield 34, 3) := by decide +kernel
theorem dX7_text_12 : decode cX7_text 12 = .ok (.iconst 0, 1) := by decide +kernel
theorem dX7_text_13 : decode cX7_text 13 = .ok (.putfield 231, 3) := by decide +kernel
theorem dX7_text_16 : decode cX7_text 16 = .ok (.iload_n 1, 1) := by decide +kernel
theorem dX7_text_17 : decode cX7_text 17 = .ok (.ifCond .ne 13, 3) := by decide +kernel
theorem dX7_text_20 : decode cX7_text 20 = .ok (.iconst (-1), 1) := by decide +kernel
theorem dX7_text_21 : decode cX7_text 21 = .ok (.aload_n 0, 1) := by decide +kernel
theorem dX7_text_22 : decode cX7_text 22 = .ok (.getfield 34, 3) := by decide +kernel
theorem dX7_text_25 : decode cX7_text 25 = .ok (.getfield 240, 3) := by decide +kernel
theorem dX7_text_28 : decode cX7_text 28 = .ok (.isub, 1) := by decide +kernel
theorem dX7_text_29 : decode cX7_text 29 = .ok (.ireturn, 1) := by decide +kernel
theorem dX7_text_30 : decode cX7_text 30 = .ok (.aload_n 0, 1) := by decide +kernel
theorem dX7_text_31 : decode cX7_text 31 = .ok (.getfield 10, 3) := by decide +kernel
theorem dX7_text_34 : decode cX7_text 34 = .ok (.getfield 243, 3) := by decide +kernel
theorem dX7_text_37 : decode cX7_text 37 = .ok (.aload_n 0, 1) := by decide +kernel
theorem dX7_text_38 : decode cX7_text 38 = .ok (.getfield 34, 3) := by decide +kernel
theorem dX7_text_41 : decode cX7_text 41 = .ok (.getfield 247, 3) := by decide +kernel
theorem dX7_text_44 : decode cX7_text 44 = .ok (.invokevirtual 250, 3) := by decide +kernel
theorem dX7_text_47 : decode cX7_text 47 = .ok (.iconst 1, 1) := by decide +kernel
theorem dX7_text_48 : decode cX7_text 48 = .ok (.ireturn, 1) := by decide +kernel
theorem dX7_gives_0 : decode cX7_gives 0 = .ok (.aload_n 0, 1) := by decide +kernel
theorem dX7_gives_1 : decode cX7_gives 1 = .ok (.iload_n 1, 1) := by decide +kernel
theorem dX7_gives_2 : decode cX7_gives 2 = .ok (.invokevirtual 81, 3) := by decide +kernel
theorem dX7_gives_5 : decode cX7_gives 5 = .ok (.ifCond .eq 11, 3) := by decide +kernel
theorem dX7_gives_8 : decode cX7_gives 8 = .ok (.aload_n 0, 1) := by decide +kernel
theorem dX7_gives_9 : decode cX7_gives 9 = .ok (.iload_n 2, 1) := by decide +kernel
theorem dX7_gives_10 : decode cX7_gives 10 = .ok (.invokevirtual 81, 3) := by decide +kernel
theorem dX7_gives_13 : decode cX7_gives 13 = .ok (.ifCond .ne 10, 3) := by decide +kernel
theorem dX7_gives_16 : decode cX7_gives 16 = .ok (.aload_n 0, 1) := by decide +kernel
theorem dX7_gives_17 : decode cX7_gives 17 = .ok (.ldc 61, 2) := by decide +kernel
theorem dX7_gives_19 : decode cX7_gives 19 = .ok (.invokevirtual 62, 3) := by decide +kernel
theorem dX7_gives_22 : decode cX7_gives 22 = .ok (.ireturn, 1) := by decide +kernel
theorem dX7_gives_23 : decode cX7_gives 23 = .ok (.aload_n 0, 1) := by decide +kernel
theorem dX7_gives_24 : decode cX7_gives 24 = .ok (.getfield 10, 3) := by decide +kernel
theorem dX7_gives_27 : decode cX7_gives 27 = .ok (.getfield 243, 3) := by decide +kernel
theorem dX7_gives_30 : decode cX7_gives 30 = .ok (.invokevirtual 255, 3) := by decide +kernel
theorem dX7_gives_33 : decode cX7_gives 33 = .ok (.ifCond .ne 10, 3) := by decide +kernel
theorem dX7_gives_36 : decode cX7_gives 36 = .ok (.aload_n 0, 1) := by decide +kernel
theorem dX7_gives_37 : decode cX7_gives 37 = .ok (.ldc 187, 2) := by decide +kernel
theorem dX7_gives_39 : decode cX7_gives 39 = .ok (.invokevirtual 62, 3) := by decide +kernel
theorem dX7_gives_42 : decode cX7_gives 42 = .ok (.ireturn, 1) := by decide +kernel
theorem dX7_gives_43 : decode cX7_gives 43 = .ok (.aload_n 0, 1) := by decide +kernel
theorem dX7_gives_44 : decode cX7_gives 44 = .ok (.getfield 10, 3) := by decide +kernel
theorem dX7_gives_47 : decode cX7_gives 47 = .ok (.getfield 243, 3) := by decide +kernel
theorem dX7_gives_50 : decode cX7_gives 50 = .ok (.aload_n 0, 1) := by decide +kernel
theorem dX7_gives_51 : decode cX7_gives 51 = .ok (.getfield 10, 3) := by decide +kernel
theorem dX7_gives_54 : decode cX7_gives 54 = .ok (.getfield 84, 3) := by decide +kernel
theorem dX7_gives_57 : decode cX7_gives 57 = .ok (.iload_n 1, 1) := by decide +kernel
theorem dX7_gives_58 : decode cX7_gives 58 = .ok (.iload_n 2, 1) := by decide +kernel
theorem dX7_gives_59 : decode cX7_gives 59 = .ok (.invokevirtual 258, 3) := by decide +kernel
theorem dX7_gives_62 : decode cX7_gives 62 = .ok (.ireturn, 1) := by decide +kernel
theorem dX7_untell_0 : decode cX7_untell 0 = .ok (.aload_n 0, 1) := by decide +kernel
theorem dX7_untell_1 : decode cX7_untell 1 = .ok (.getfield 10, 3) := by decide +kernel
theorem dX7_untell_4 : decode cX7_untell 4 = .ok (.getfield 243, 3) := by decide +kernel
theorem dX7_untell_7 : decode cX7_untell 7 = .ok (.invokevirtual 255, 3) := by decide +kernel
theorem dX7_untell_10 : decode cX7_untell 10 = .ok (.ifCond .eq 7, 3) := by decide +kernel
theorem dX7_untell_13 : decode cX7_untell 13 = .ok (.iconst 1, 1) := by decide +kernel
theorem dX7_untell_14 : decode cX7_untell 14 = .ok (.goto 4, 3) := by decide +kernel
theorem dX7_untell_17 : decode cX7_untell 17 = .ok (.iconst 0, 1) := by decide +kernel
theorem dX7_untell_18 : decode cX7_untell 18 = .ok (.istore_n 1, 1) := by decide +kernel
theorem dX7_untell_19 : decode cX7_untell 19 = .ok (.aload_n 0, 1) := by decide +kernel
theorem dX7_untell_20 : decode cX7_untell 20 = .ok (.getfield 10, 3) := by decide +kernel
theorem dX7_untell_23 : decode cX7_untell 23 = .ok (.getfield 243, 3) := by decide +kernel
theorem dX7_untell_26 : decode cX7_untell 26 = .ok (.iconst 0, 1) := by decide +kernel
theorem dX7_untell_27 : decode cX7_untell 27 = .ok (.putfield 262, 3) := by decide +kernel
theorem dX7_untell_30 : decode cX7_untell 30 = .ok (.iload_n 1, 1) := by decide +kernel
theorem dX7_untell_31 : decode cX7_untell 31 = .ok (.ireturn, 1) := by decide +kernel
theorem dX7_sheet_0 : decode cX7_sheet 0 = .ok (.iload_n 1, 1) := by decide +kernel
theorem dX7_sheet_1 : decode cX7_sheet 1 = .ok (.invokestatic 265, 3) := by decide +kernel
theorem dX7_sheet_4 : decode cX7_sheet 4 = .ok (.ifCond .eq 25, 3) := by decide +kernel
theorem dX7_sheet_7 : decode cX7_sheet 7 = .ok (.iload_n 2, 1) := by decide +kernel
theorem dX7_sheet_8 : decode cX7_sheet 8 = .ok (.ifCond .eq 28, 3) := by decide +kernel
theorem dX7_sheet_11 : decode cX7_sheet 11 = .ok (.iload_n 2, 1) := by decide +kernel
theorem dX7_sheet_12 : decode cX7_sheet 12 = .ok (.bipush 8, 2) := by decide +kernel
theorem dX7_sheet_14 : decode cX7_sheet 14 = .ok (.if_icmp .eq 22, 3) := by decide +kernel
theorem dX7_sheet_17 : decode cX7_sheet 17 = .ok (.iload_n 2, 1) := by decide +kernel
theorem dX7_sheet_18 : decode cX7_sheet 18 = .ok (.bipush 16, 2) := by decide +kernel
theorem dX7_sheet_20 : decode cX7_sheet 20 = .ok (.if_icmp .eq 16, 3) := by decide +kernel
theorem dX7_sheet_23 : decode cX7_sheet 23 = .ok (.iload_n 2, 1) := by decide +kernel
theorem dX7_sheet_24 : decode cX7_sheet 24 = .ok (.bipush 64, 2) := by decide +kernel
theorem dX7_sheet_26 : decode cX7_sheet 26 = .ok (.if_icmp .eq 10, 3) := by decide +kernel
theorem dX7_sheet_29 : decode cX7_sheet 29 = .ok (.aload_n 0, 1) := by decide +kernel
theorem dX7_sheet_30 : decode cX7_sheet 30 = .ok (.ldc 61, 2) := by decide +kernel
theorem dX7_sheet_32 : decode cX7_sheet 32 = .ok (.invokevirtual 62, 3) := by decide +kernel
theorem dX7_sheet_35 : decode cX7_sheet 35 = .ok (.ireturn, 1) := by decide +kernel
theorem dX7_sheet_36 : decode cX7_sheet 36 = .ok (.iload_n 3, 1) := by decide +kernel
theorem dX7_sheet_37 : decode cX7_sheet 37 = .ok (.ifCond .ge 11, 3) := by decide +kernel
theorem dX7_sheet_40 : decode cX7_sheet 40 = .ok (.aload_n 0, 1) := by decide +kernel
theorem dX7_sheet_41 : decode cX7_sheet 41 = .ok (.ldc_w 268, 3) := by decide +kernel
theorem dX7_sheet_44 : decode cX7_sheet 44 = .ok (.invokevirtual 62, 3) := by decide +kernel
theorem dX7_sheet_47 : decode cX7_sheet 47 = .ok (.ireturn, 1) := by decide +kernel
theorem dX7_sheet_48 : decode cX7_sheet 48 = .ok (.iload_n 3, 1) := by decide +kernel
theorem dX7_sheet_49 : decode cX7_sheet 49 = .ok (.bipush 40, 2) := by decide +kernel
theorem dX7_sheet_51 : decode cX7_sheet 51 = .ok (.if_icmp .le 10, 3) := by decide +kernel
theorem dX7_sheet_54 : decode cX7_sheet 54 = .ok (.aload_n 0, 1) := by decide +kernel
theorem dX7_sheet_55 : decode cX7_sheet 55 = .ok (.ldc 61, 2) := by decide +kernel
theorem dX7_sheet_57 : decode cX7_sheet 57 = .ok (.invokevirtual 62, 3) := by decide +kernel
theorem dX7_sheet_60 : decode cX7_sheet 60 = .ok (.ireturn, 1) := by decide +kernel
theorem dX7_sheet_61 : decode cX7_sheet 61 = .ok (.aload_n 0, 1) := by decide +kernel
theorem dX7_sheet_62 : decode cX7_sheet 62 = .ok (.getfield 40, 3) := by decide +kernel
theorem dX7_sheet_65 : decode cX7_sheet 65 = .ok (.iload_n 1, 1) := by decide +kernel
theorem dX7_sheet_66 : decode cX7_sheet 66 = .ok (.aaload, 1) := by decide +kernel
theorem dX7_sheet_67 : decode cX7_sheet 67 = .ok (.iload_n 2, 1) := by decide +kernel
theorem dX7_sheet_68 : decode cX7_sheet 68 = .ok (.iload_n 2, 1) := by decide +kernel
theorem dX7_sheet_69 : decode cX7_sheet 69 = .ok (.ifCond .ne 7, 3) := by decide +kernel
theorem dX7_sheet_72 : decode cX7_sheet 72 = .ok (.iconst 0, 1) := by decide +kernel
theorem dX7_sheet_73 : decode cX7_sheet 73 = .ok (.goto 4, 3) := by decide +kernel
theorem dX7_sheet_76 : decode cX7_sheet 76 = .ok (.iload_n 3, 1) := by decide +kernel
theorem dX7_sheet_77 : decode cX7_sheet 77 = .ok (.invokevirtual 269, 3) := by decide +kernel
theorem dX7_sheet_80 : decode cX7_sheet 80 = .ok (.aload_n 0, 1) := by decide +kernel
theorem dX7_sheet_81 : decode cX7_sheet 81 = .ok (.getfield 40, 3) := by decide +kernel
theorem dX7_sheet_84 : decode cX7_sheet 84 = .ok (.iload_n 1, 1) := by decide +kernel
theorem dX7_sheet_85 : decode cX7_sheet 85 = .ok (.aaload, 1) := by decide +kernel
theorem dX7_sheet_86 : decode cX7_sheet 86 = .ok (.getfield 272, 3) := by decide +kernel
theorem dX7_sheet_89 : decode cX7_sheet 89 = .ok (.ireturn, 1) := by decide +kernel
theorem dX7_write_0 : decode cX7_write 0 = .ok (.iload_n 1, 1) := by decide +kernel
theorem dX7_write_1 : decode cX7_write 1 = .ok (.invokestatic 265, 3) := by decide +kernel
theorem dX7_write_4 : decode cX7_write 4 = .ok (.ifCond .ne 11, 3) := by decide +kernel
theorem dX7_write_7 : decode cX7_write 7 = .ok (.aload_n 0, 1) := by decide +kernel
theorem dX7_write_8 : decode cX7_write 8 = .ok (.ldc 61, 2) := by decide +kernel
theorem dX7_write_10 : decode cX7_write 10 = .ok (.invokevirtual 62, 3) := by decide +kernel
theorem dX7_write_13 : decode cX7_write 13 = .ok (.i2l, 1) := by decide +kernel
theorem dX7_write_14 : decode cX7_write 14 = .ok (.lreturn, 1) := by decide +kernel
theorem dX7_write_15 : decode cX7_write 15 = .ok (.aload_n 0, 1) := by decide +kernel
theorem dX7_write_16 : decode cX7_write 16 = .ok (.getfield 40, 3) := by decide +kernel
theorem dX7_write_19 : decode cX7_write 19 = .ok (.iload_n 1, 1) := by decide +kernel
theorem dX7_write_20 : decode cX7_write 20 = .ok (.aaload, 1) := by decide +kernel
theorem dX7_write_21 : decode cX7_write 21 = .ok (.invokevirtual 273, 3) := by decide +kernel
theorem dX7_write_24 : decode cX7_write 24 = .ok (.ifCond .eq 12, 3) := by decide +kernel
theorem dX7_write_27 : decode cX7_write 27 = .ok (.aload_n 0, 1) := by decide +kernel
theorem dX7_write_28 : decode cX7_write 28 = .ok (.ldc_w 276, 3) := by decide +kernel
theorem dX7_write_31 : decode cX7_write 31 = .ok (.invokevirtual 62, 3) := by decide +kernel
theorem dX7_write_34 : decode cX7_write 34 = .ok (.i2l, 1) := by decide +kernel
theorem dX7_write_35 : decode cX7_write 35 = .ok (.lreturn, 1) := by decide +kernel
theorem dX7_write_36 : decode cX7_write 36 = .ok (.iload_n 2, 1) := by decide +kernel
theorem dX7_write_37 : decode cX7_write 37 = .ok (.iconst 0, 1) := by decide +kernel
theorem dX7_write_38 : decode cX7_write 38 = .ok (.aload_n 0, 1) := by decide +kernel
theorem dX7_write_39 : decode cX7_write 39 = .ok (.getfield 40, 3) := by decide +kernel
theorem dX7_write_42 : decode cX7_write 42 = .ok (.iload_n 1, 1) := by decide +kernel
theorem dX7_write_43 : decode cX7_write 43 = .ok (.aaload, 1) := by decide +kernel
theorem dX7_write_44 : decode cX7_write 44 = .ok (.getfield 272, 3) := by decide +kernel
theorem dX7_write_47 : decode cX7_write 47 = .ok (.iconst 1, 1) := by decide +kernel
theorem dX7_write_48 : decode cX7_write 48 = .ok (.isub, 1) := by decide +kernel
theorem dX7_write_49 : decode cX7_write 49 = .ok (.invokestatic 53, 3) := by decide +kernel
theorem dX7_write_52 : decode cX7_write 52 = .ok (.ifCond .ne 11, 3) := by decide +kernel
theorem dX7_write_55 : decode cX7_write 55 = .ok (.aload_n 0, 1) := by decide +kernel
theorem dX7_write_56 : decode cX7_write 56 = .ok (.ldc 61, 2) := by decide +kernel
theorem dX7_write_58 : decode cX7_write 58 = .ok (.invokevirtual 62, 3) := by decide +kernel
theorem dX7_write_61 : decode cX7_write 61 = .ok (.i2l, 1) := by decide +kernel
theorem dX7_write_62 : decode cX7_write 62 = .ok (.lreturn, 1) := by decide +kernel
theorem dX7_write_63 : decode cX7_write 63 = .ok (.aload_n 0, 1) := by decide +kernel
theorem dX7_write_64 : decode cX7_write 64 = .ok (.getfield 40, 3) := by decide +kernel
theorem dX7_write_67 : decode cX7_write 67 = .ok (.iload_n 1, 1) := by decide +kernel
theorem dX7_write_68 : decode cX7_write 68 = .ok (.aaload, 1) := by decide +kernel
theorem dX7_write_69 : decode cX7_write 69 = .ok (.getfield 277, 3) := by decide +kernel
theorem dX7_write_72 : decode cX7_write 72 = .ok (.iload_n 2, 1) := by decide +kernel
theorem dX7_write_73 : decode cX7_write 73 = .ok (.laload, 1) := by decide +kernel
theorem dX7_write_74 : decode cX7_write 74 = .ok (.lstore 5, 2) := by decide +kernel
theorem dX7_write_76 : decode cX7_write 76 = .ok (.aload_n 0, 1) := by decide +kernel
theorem dX7_write_77 : decode cX7_write 77 = .ok (.getfield 40, 3) := by decide +kernel
theorem dX7_write_80 : decode cX7_write 80 = .ok (.iload_n 1, 1) := by decide +kernel
theorem dX7_write_81 : decode cX7_write 81 = .ok (.aaload, 1) := by decide +kernel
theorem dX7_write_82 : decode cX7_write 82 = .ok (.getfield 277, 3) := by decide +kernel
theorem dX7_write_85 : decode cX7_write 85 = .ok (.iload_n 2, 1) := by decide +kernel
theorem dX7_write_86 : decode cX7_write 86 = .ok (.aload_n 0, 1) := by decide +kernel
theorem dX7_write_87 : decode cX7_write 87 = .ok (.getfield 40, 3) := by decide +kernel
theorem dX7_write_90 : decode cX7_write 90 = .ok (.iload_n 1, 1) := by decide +kernel
theorem dX7_write_91 : decode cX7_write 91 = .ok (.aaload, 1) := by decide +kernel
theorem dX7_write_92 : decode cX7_write 92 = .ok (.lload_n 3, 1) := by decide +kernel
theorem dX7_write_93 : decode cX7_write 93 = .ok (.invokevirtual 281, 3) := by decide +kernel
theorem dX7_write_96 : decode cX7_write 96 = .ok (.lastore, 1) := by decide +kernel
theorem dX7_write_97 : decode cX7_write 97 = .ok (.lload 5, 2) := by decide +kernel
theorem dX7_write_99 : decode cX7_write 99 = .ok (.lreturn, 1) := by decide +kernel
theorem dX7_copy_0 : decode cX7_copy 0 = .ok (.iload_n 1, 1) := by decide +kernel
theorem dX7_copy_1 : decode cX7_copy 1 = .ok (.invokestatic 265, 3) := by decide +kernel
theorem dX7_copy_4 : decode cX7_copy 4 = .ok (.ifCond .eq 10, 3) := by decide +kernel
theorem dX7_copy_7 : decode cX7_copy 7 = .ok (.iload_n 3, 1) := by decide +kernel
theorem dX7_copy_8 : decode cX7_copy 8 = .ok (.invokestatic 265, 3) := by decide +kernel
theorem dX7_copy_11 : decode cX7_copy 11 = .ok (.ifCond .ne 10, 3) := by decide +kernel
theorem dX7_copy_14 : decode cX7_copy 14 = .ok (.aload_n 0, 1) := by decide +kernel
theorem dX7_copy_15 : decode cX7_copy 15 = .ok (.ldc 61, 2) := by decide +kernel
theorem dX7_copy_17 : decode cX7_copy 17 = .ok (.invokevirtual 62, 3) := by decide +kernel
theorem dX7_copy_20 : decode cX7_copy 20 = .ok (.ireturn, 1) := by decide +kernel
theorem dX7_copy_21 : decode cX7_copy 21 = .ok (.aload_n 0, 1) := by decide +kernel
theorem dX7_copy_22 : decode cX7_copy 22 = .ok (.getfield 40, 3) := by decide +kernel
theorem dX7_copy_25 : decode cX7_copy 25 = .ok (.iload_n 1, 1) := by decide +kernel
theorem dX7_copy_26 : decode cX7_copy 26 = .ok (.aaload, 1) := by decide +kernel
theorem dX7_copy_27 : decode cX7_copy 27 = .ok (.invokevirtual 273, 3) := by decide +kernel
theorem dX7_copy_30 : decode cX7_copy 30 = .ok (.ifCond .ne 15, 3) := by decide +kernel
theorem dX7_copy_33 : decode cX7_copy 33 = .ok (.aload_n 0, 1) := by decide +kernel
theorem dX7_copy_34 : decode cX7_copy 34 = .ok (.getfield 40, 3) := by decide +kernel
theorem dX7_copy_37 : decode cX7_copy 37 = .ok (.iload_n 3, 1) := by decide +kernel
theorem dX7_copy_38 : decode cX7_copy 38 = .ok (.aaload, 1) := by decide +kernel
theorem dX7_copy_39 : decode cX7_copy 39 = .ok (.invokevirtual 273, 3) := by decide +kernel
theorem dX7_copy_42 : decode cX7_copy 42 = .ok (.ifCond .eq 11, 3) := by decide +kernel
theorem dX7_copy_45 : decode cX7_copy 45 = .ok (.aload_n 0, 1) := by decide +kernel
theorem dX7_copy_46 : decode cX7_copy 46 = .ok (.ldc_w 276, 3) := by decide +kernel
theorem dX7_copy_49 : decode cX7_copy 49 = .ok (.invokevirtual 62, 3) := by decide +kernel
theorem dX7_copy_52 : decode cX7_copy 52 = .ok (.ireturn, 1) := by decide +kernel
theorem dX7_copy_53 : decode cX7_copy 53 = .ok (.aload_n 0, 1) := by decide +kernel
theorem dX7_copy_54 : decode cX7_copy 54 = .ok (.getfield 40, 3) := by decide +kernel
theorem dX7_copy_57 : decode cX7_copy 57 = .ok (.iload_n 1, 1) := by decide +kernel
theorem dX7_copy_58 : decode cX7_copy 58 = .ok (.aaload, 1) := by decide +kernel
theorem dX7_copy_59 : decode cX7_copy 59 = .ok (.getfield 285, 3) := by decide +kernel
theorem dX7_copy_62 : decode cX7_copy 62 = .ok (.aload_n 0, 1) := by decide +kernel
theorem dX7_copy_63 : decode cX7_copy 63 = .ok (.getfield 40, 3) := by decide +kernel
theorem dX7_copy_66 : decode cX7_copy 66 = .ok (.iload_n 3, 1) := by decide +kernel
theorem dX7_copy_67 : decode cX7_copy 67 = .ok (.aaload, 1) := by decide +kernel
theorem dX7_copy_68 : decode cX7_copy 68 = .ok (.getfield 285, 3) := by decide +kernel
theorem dX7_copy_71 : decode cX7_copy 71 = .ok (.if_icmp .eq 10, 3) := by decide +kernel
theorem dX7_copy_74 : decode cX7_copy 74 = .ok (.aload_n 0, 1) := by decide +kernel
theorem dX7_copy_75 : decode cX7_copy 75 = .ok (.ldc 117, 2) := by decide +kernel
theorem dX7_copy_77 : decode cX7_copy 77 = .ok (.invokevirtual 62, 3) := by decide +kernel
theorem dX7_copy_80 : decode cX7_copy 80 = .ok (.ireturn, 1) := by decide +kernel
theorem dX7_copy_81 : decode cX7_copy 81 = .ok (.aload_n 0, 1) := by decide +kernel
theorem dX7_copy_82 : decode cX7_copy 82 = .ok (.getfield 40, 3) := by decide +kernel
theorem dX7_copy_85 : decode cX7_copy 85 = .ok (.iload_n 1, 1) := by decide +kernel
theorem dX7_copy_86 : decode cX7_copy 86 = .ok (.aaload, 1) := by decide +kernel
theorem dX7_copy_87 : decode cX7_copy 87 = .ok (.iload_n 2, 1) := by decide +kernel
theorem dX7_copy_88 : decode cX7_copy 88 = .ok (.iload 5, 2) := by decide +kernel
theorem dX7_copy_90 : decode cX7_copy 90 = .ok (.invokevirtual 288, 3) := by decide +kernel
theorem dX7_copy_93 : decode cX7_copy 93 = .ok (.ifCond .eq 19, 3) := by decide +kernel
theorem dX7_copy_96 : decode cX7_copy 96 = .ok (.aload_n 0, 1) := by decide +kernel
theorem dX7_copy_97 : decode cX7_copy 97 = .ok (.getfield 40, 3) := by decide +kernel
theorem dX7_copy_100 : decode cX7_copy 100 = .ok (.iload_n 3, 1) := by decide +kernel
theorem dX7_copy_101 : decode cX7_copy 101 = .ok (.aaload, 1) := by decide +kernel
theorem dX7_copy_102 : decode cX7_copy 102 = .ok (.iload 4, 2) := by decide +kernel
theorem dX7_copy_104 : decode cX7_copy 104 = .ok (.iload 5, 2) := by decide +kernel
theorem dX7_copy_106 : decode cX7_copy 106 = .ok (.invokevirtual 288, 3) := by decide +kernel
theorem dX7_copy_109 : decode cX7_copy 109 = .ok (.ifCond .ne 10, 3) := by decide +kernel
theorem dX7_copy_112 : decode cX7_copy 112 = .ok (.aload_n 0, 1) := by decide +kernel
theorem dX7_copy_113 : decode cX7_copy 113 = .ok (.ldc 61, 2) := by decide +kernel
theorem dX7_copy_115 : decode cX7_copy 115 = .ok (.invokevirtual 62, 3) := by decide +kernel
theorem dX7_copy_118 : decode cX7_copy 118 = .ok (.ireturn, 1) := by decide +kernel
theorem dX7_copy_119 : decode cX7_copy 119 = .ok (.aload_n 0, 1) := by decide +kernel
theorem dX7_copy_120 : decode cX7_copy 120 = .ok (.getfield 40, 3) := by decide +kernel
theorem dX7_copy_123 : decode cX7_copy 123 = .ok (.iload_n 1, 1) := by decide +kernel
theorem dX7_copy_124 : decode cX7_copy 124 = .ok (.aaload, 1) := by decide +kernel
theorem dX7_copy_125 : decode cX7_copy 125 = .ok (.getfield 277, 3) := by decide +kernel
theorem dX7_copy_128 : decode cX7_copy 128 = .ok (.iload_n 2, 1) := by decide +kernel
theorem dX7_copy_129 : decode cX7_copy 129 = .ok (.aload_n 0, 1) := by decide +kernel
theorem dX7_copy_130 : decode cX7_copy 130 = .ok (.getfield 40, 3) := by decide +kernel
theorem dX7_copy_133 : decode cX7_copy 133 = .ok (.iload_n 3, 1) := by decide +kernel
theorem dX7_copy_134 : decode cX7_copy 134 = .ok (.aaload, 1) := by decide +kernel
theorem dX7_copy_135 : decode cX7_copy 135 = .ok (.getfield 277, 3) := by decide +kernel
theorem dX7_copy_138 : decode cX7_copy 138 = .ok (.iload 4, 2) := by decide +kernel
theorem dX7_copy_140 : decode cX7_copy 140 = .ok (.iload 5, 2) := by decide +kernel
theorem dX7_copy_142 : decode cX7_copy 142 = .ok (.invokestatic 291, 3) := by decide +kernel
theorem dX7_copy_145 : decode cX7_copy 145 = .ok (.iload 5, 2) := by decide +kernel
theorem dX7_copy_147 : decode cX7_copy 147 = .ok (.ireturn, 1) := by decide +kernel
theorem dX7_lays_0 : decode cX7_lays 0 = .ok (.iload_n 1, 1) := by decide +kernel
theorem dX7_lays_1 : decode cX7_lays 1 = .ok (.invokestatic 265, 3) := by decide +kernel
theorem dX7_lays_4 : decode cX7_lays 4 = .ok (.ifCond .ne 10, 3) := by decide +kernel
theorem dX7_lays_7 : decode cX7_lays 7 = .ok (.aload_n 0, 1) := by decide +kernel
theorem dX7_lays_8 : decode cX7_lays 8 = .ok (.ldc 61, 2) := by decide +kernel
theorem dX7_lays_10 : decode cX7_lays 10 = .ok (.invokevirtual 62, 3) := by decide +kernel
theorem dX7_lays_13 : decode cX7_lays 13 = .ok (.ireturn, 1) := by decide +kernel
theorem dX7_lays_14 : decode cX7_lays 14 = .ok (.aload_n 0, 1) := by decide +kernel
theorem dX7_lays_15 : decode cX7_lays 15 = .ok (.getfield 40, 3) := by decide +kernel
theorem dX7_lays_18 : decode cX7_lays 18 = .ok (.iload_n 1, 1) := by decide +kernel
theorem dX7_lays_19 : decode cX7_lays 19 = .ok (.aaload, 1) := by decide +kernel
theorem dX7_lays_20 : decode cX7_lays 20 = .ok (.invokevirtual 273, 3) := by decide +kernel
theorem dX7_lays_23 : decode cX7_lays 23 = .ok (.ifCond .eq 11, 3) := by decide +kernel
theorem dX7_lays_26 : decode cX7_lays 26 = .ok (.aload_n 0, 1) := by decide +kernel
theorem dX7_lays_27 : decode cX7_lays 27 = .ok (.ldc_w 276, 3) := by decide +kernel
theorem dX7_lays_30 : decode cX7_lays 30 = .ok (.invokevirtual 62, 3) := by decide +kernel
theorem dX7_lays_33 : decode cX7_lays 33 = .ok (.ireturn, 1) := by decide +kernel
theorem dX7_lays_34 : decode cX7_lays 34 = .ok (.aload_n 0, 1) := by decide +kernel
theorem dX7_lays_35 : decode cX7_lays 35 = .ok (.iload_n 2, 1) := by decide +kernel
theorem dX7_lays_36 : decode cX7_lays 36 = .ok (.invokevirtual 81, 3) := by decide +kernel
theorem dX7_lays_39 : decode cX7_lays 39 = .ok (.ifCond .ne 10, 3) := by decide +kernel
theorem dX7_lays_42 : decode cX7_lays 42 = .ok (.aload_n 0, 1) := by decide +kernel
theorem dX7_lays_43 : decode cX7_lays 43 = .ok (.ldc 61, 2) := by decide +kernel
theorem dX7_lays_45 : decode cX7_lays 45 = .ok (.invokevirtual 62, 3) := by decide +kernel
theorem dX7_lays_48 : decode cX7_lays 48 = .ok (.ireturn, 1) := by decide +kernel
theorem dX7_lays_49 : decode cX7_lays 49 = .ok (.iconst 0, 1) := by decide +kernel
theorem dX7_lays_50 : decode cX7_lays 50 = .ok (.istore_n 3, 1) := by decide +kernel
theorem dX7_lays_51 : decode cX7_lays 51 = .ok (.aload_n 0, 1) := by decide +kernel
theorem dX7_lays_52 : decode cX7_lays 52 = .ok (.getfield 40, 3) := by decide +kernel
theorem dX7_lays_55 : decode cX7_lays 55 = .ok (.iload_n 1, 1) := by decide +kernel
theorem dX7_lays_56 : decode cX7_lays 56 = .ok (.aaload, 1) := by decide +kernel
theorem dX7_lays_57 : decode cX7_lays 57 = .ok (.getfield 272, 3) := by decide +kernel
theorem dX7_lays_60 : decode cX7_lays 60 = .ok (.aload_n 0, 1) := by decide +kernel
theorem dX7_lays_61 : decode cX7_lays 61 = .ok (.getfield 10, 3) := by decide +kernel
theorem dX7_lays_64 : decode cX7_lays 64 = .ok (.getfield 66, 3) := by decide +kernel
theorem dX7_lays_67 : decode cX7_lays 67 = .ok (.getfield 70, 3) := by decide +kernel
theorem dX7_lays_70 : decode cX7_lays 70 = .ok (.invokestatic 297, 3) := by decide +kernel
theorem dX7_lays_73 : decode cX7_lays 73 = .ok (.istore 4, 2) := by decide +kernel
theorem dX7_lays_75 : decode cX7_lays 75 = .ok (.iconst 0, 1) := by decide +kernel
theorem dX7_lays_76 : decode cX7_lays 76 = .ok (.istore 5, 2) := by decide +kernel
theorem dX7_lays_78 : decode cX7_lays 78 = .ok (.iload 5, 2) := by decide +kernel
theorem dX7_lays_80 : decode cX7_lays 80 = .ok (.iload 4, 2) := by decide +kernel
theorem dX7_lays_82 : decode cX7_lays 82 = .ok (.if_icmp .ge 71, 3) := by decide +kernel
theorem dX7_lays_85 : decode cX7_lays 85 = .ok (.aload_n 0, 1) := by decide +kernel
theorem dX7_lays_86 : decode cX7_lays 86 = .ok (.getfield 40, 3) := by decide +kernel
theorem dX7_lays_89 : decode cX7_lays 89 = .ok (.iload_n 1, 1) := by decide +kernel
theorem dX7_lays_90 : decode cX7_lays 90 = .ok (.aaload, 1) := by decide +kernel
theorem dX7_lays_91 : decode cX7_lays 91 = .ok (.getfield 277, 3) := by decide +kernel
theorem dX7_lays_94 : decode cX7_lays 94 = .ok (.iload 5, 2) := by decide +kernel
theorem dX7_lays_96 : decode cX7_lays 96 = .ok (.laload, 1) := by decide +kernel
theorem dX7_lays_97 : decode cX7_lays 97 = .ok (.lstore 6, 2) := by decide +kernel
theorem dX7_lays_99 : decode cX7_lays 99 = .ok (.iload 5, 2) := by decide +kernel
theorem dX7_lays_101 : decode cX7_lays 101 = .ok (.iload_n 2, 1) := by decide +kernel
theorem dX7_lays_102 : decode cX7_lays 102 = .ok (.if_icmp .eq 45, 3) := by decide +kernel
theorem dX7_lays_105 : decode cX7_lays 105 = .ok (.lload 6, 2) := by decide +kernel
theorem dX7_lays_107 : decode cX7_lays 107 = .ok (.ldc2_w 302, 3) := by decide +kernel
theorem dX7_lays_110 : decode cX7_lays 110 = .ok (.lcmp, 1) := by decide +kernel
theorem dX7_lays_111 : decode cX7_lays 111 = .ok (.ifCond .lt 36, 3) := by decide +kernel
theorem dX7_lays_114 : decode cX7_lays 114 = .ok (.lload 6, 2) := by decide +kernel
theorem dX7_lays_116 : decode cX7_lays 116 = .ok (.ldc2_w 304, 3) := by decide +kernel
theorem dX7_lays_119 : decode cX7_lays 119 = .ok (.lcmp, 1) := by decide +kernel
theorem dX7_lays_120 : decode cX7_lays 120 = .ok (.ifCond .gt 27, 3) := by decide +kernel
theorem dX7_lays_123 : decode cX7_lays 123 = .ok (.aload_n 0, 1) := by decide +kernel
theorem dX7_lays_124 : decode cX7_lays 124 = .ok (.getfield 10, 3) := by decide +kernel
theorem dX7_lays_127 : decode cX7_lays 127 = .ok (.getfield 66, 3) := by decide +kernel
theorem dX7_lays_130 : decode cX7_lays 130 = .ok (.getfield 121, 3) := by decide +kernel
theorem dX7_lays_133 : decode cX7_lays 133 = .ok (.iload_n 2, 1) := by decide +kernel
theorem dX7_lays_134 : decode cX7_lays 134 = .ok (.bipush 10, 2) := by decide +kernel
theorem dX7_lays_136 : decode cX7_lays 136 = .ok (.imul, 1) := by decide +kernel
theorem dX7_lays_137 : decode cX7_lays 137 = .ok (.iload 5, 2) := by decide +kernel
theorem dX7_lays_139 : decode cX7_lays 139 = .ok (.iadd, 1) := by decide +kernel
theorem dX7_lays_140 : decode cX7_lays 140 = .ok (.lload 6, 2) := by decide +kernel
theorem dX7_lays_142 : decode cX7_lays 142 = .ok (.l2i, 1) := by decide +kernel
theorem dX7_lays_143 : decode cX7_lays 143 = .ok (.iastore, 1) := by decide +kernel
theorem dX7_lays_144 : decode cX7_lays 144 = .ok (.iinc 3 1, 3) := by decide +kernel
theorem dX7_lays_147 : decode cX7_lays 147 = .ok (.iinc 5 1, 3) := by decide +kernel
theorem dX7_lays_150 : decode cX7_lays 150 = .ok (.goto (-72), 3) := by decide +kernel
theorem dX7_lays_153 : decode cX7_lays 153 = .ok (.iload_n 3, 1) := by decide +kernel
theorem dX7_lays_154 : decode cX7_lays 154 = .ok (.ireturn, 1) := by decide +kernel
theorem dX7_read_0 : decode cX7_read 0 = .ok (.iload_n 1, 1) := by decide +kernel
theorem dX7_read_1 : decode cX7_read 1 = .ok (.invokestatic 265, 3) := by decide +kernel
theorem dX7_read_4 : decode cX7_read 4 = .ok (.ifCond .ne 10, 3) := by decide +kernel
theorem dX7_read_7 : decode cX7_read 7 = .ok (.aload_n 0, 1) := by decide +kernel
theorem dX7_read_8 : decode cX7_read 8 = .ok (.ldc 61, 2) := by decide +kernel
theorem dX7_read_10 : decode cX7_read 10 = .ok (.invokevirtual 62, 3) := by decide +kernel
theorem dX7_read_13 : decode cX7_read 13 = .ok (.ireturn, 1) := by decide +kernel
theorem dX7_read_14 : decode cX7_read 14 = .ok (.aload_n 0, 1) := by decide +kernel
theorem dX7_read_15 : decode cX7_read 15 = .ok (.getfield 40, 3) := by decide +kernel
theorem dX7_read_18 : decode cX7_read 18 = .ok (.iload_n 1, 1) := by decide +kernel
theorem dX7_read_19 : decode cX7_read 19 = .ok (.aaload, 1) := by decide +kernel
theorem dX7_read_20 : decode cX7_read 20 = .ok (.invokevirtual 273, 3) := by decide +kernel
theorem dX7_read_23 : decode cX7_read 23 = .ok (.ifCond .eq 11, 3) := by decide +kernel
theorem dX7_read_26 : decode cX7_read 26 = .ok (.aload_n 0, 1) := by decide +kernel
theorem dX7_read_27 : decode cX7_read 27 = .ok (.ldc_w 276, 3) := by decide +kernel
theorem dX7_read_30 : decode cX7_read 30 = .ok (.invokevirtual 62, 3) := by decide +kernel
theorem dX7_read_33 : decode cX7_read 33 = .ok (.ireturn, 1) := by decide +kernel
theorem dX7_read_34 : decode cX7_read 34 = .ok (.aload_n 0, 1) := by decide +kernel
theorem dX7_read_35 : decode cX7_read 35 = .ok (.getfield 27, 3) := by decide +kernel
theorem dX7_read_38 : decode cX7_read 38 = .ok (.invokevirtual 178, 3) := by decide +kernel
theorem dX7_read_41 : decode cX7_read 41 = .ok (.iconst 0, 1) := by decide +kernel
theorem dX7_read_42 : decode cX7_read 42 = .ok (.istore_n 2, 1) := by decide +kernel
theorem dX7_read_43 : decode cX7_read 43 = .ok (.iload_n 2, 1) := by decide +kernel
theorem dX7_read_44 : decode cX7_read 44 = .ok (.aload_n 0, 1) := by decide +kernel
theorem dX7_read_45 : decode cX7_read 45 = .ok (.getfield 40, 3) := by decide +kernel
theorem dX7_read_48 : decode cX7_read 48 = .ok (.iload_n 1, 1) := by decide +kernel
theorem dX7_read_49 : decode cX7_read 49 = .ok (.aaload, 1) := by decide +kernel
theorem dX7_read_50 : decode cX7_read 50 = .ok (.getfield 272, 3) := by decide +kernel
theorem dX7_read_53 : decode cX7_read 53 = .ok (.if_icmp .ge 40, 3) := by decide +kernel
theorem dX7_read_56 : decode cX7_read 56 = .ok (.aload_n 0, 1) := by decide +kernel
theorem dX7_read_57 : decode cX7_read 57 = .ok (.getfield 40, 3) := by decide +kernel
theorem dX7_read_60 : decode cX7_read 60 = .ok (.iload_n 1, 1) := by decide +kernel
theorem dX7_read_61 : decode cX7_read 61 = .ok (.aaload, 1) := by decide +kernel
theorem dX7_read_62 : decode cX7_read 62 = .ok (.getfield 277, 3) := by decide +kernel
theorem dX7_read_65 : decode cX7_read 65 = .ok (.iload_n 2, 1) := by decide +kernel
theorem dX7_read_66 : decode cX7_read 66 = .ok (.laload, 1) := by decide +kernel
theorem dX7_read_67 : decode cX7_read 67 = .ok (.aload_n 0, 1) := by decide +kernel
theorem dX7_read_68 : decode cX7_read 68 = .ok (.getfield 27, 3) := by decide +kernel
theorem dX7_read_71 : decode cX7_read 71 = .ok (.getfield 181, 3) := by decide +kernel
theorem dX7_read_74 : decode cX7_read 74 = .ok (.iconst 1, 1) := by decide +kernel
theorem dX7_read_75 : decode cX7_read 75 = .ok (.invokevirtual 165, 3) := by decide +kernel
theorem dX7_read_78 : decode cX7_read 78 = .ok (.i2l, 1) := by decide +kernel
theorem dX7_read_79 : decode cX7_read 79 = .ok (.lcmp, 1) := by decide +kernel
theorem dX7_read_80 : decode cX7_read 80 = .ok (.ifCond .eq 7, 3) := by decide +kernel
theorem dX7_read_83 : decode cX7_read 83 = .ok (.iconst 1, 1) := by decide +kernel
theorem dX7_read_84 : decode cX7_read 84 = .ok (.iload_n 2, 1) := by decide +kernel
theorem dX7_read_85 : decode cX7_read 85 = .ok (.iadd, 1) := by decide +kernel
theorem dX7_read_86 : decode cX7_read 86 = .ok (.ireturn, 1) := by decide +kernel
theorem dX7_read_87 : decode cX7_read 87 = .ok (.iinc 2 1, 3) := by decide +kernel
theorem dX7_read_90 : decode cX7_read 90 = .ok (.goto (-47), 3) := by decide +kernel
theorem dX7_read_93 : decode cX7_read 93 = .ok (.iconst 0, 1) := by decide +kernel
theorem dX7_read_94 : decode cX7_read 94 = .ok (.ireturn, 1) := by decide +kernel
theorem dX7_image_0 : decode cX7_image 0 = .ok (.aload_n 0, 1) := by decide +kernel
theorem dX7_image_1 : decode cX7_image 1 = .ok (.getfield 16, 3) := by decide +kernel
theorem dX7_image_4 : decode cX7_image 4 = .ok (.aload_n 0, 1) := by decide +kernel
theorem dX7_image_5 : decode cX7_image 5 = .ok (.getfield 10, 3) := by decide +kernel
theorem dX7_image_8 : decode cX7_image 8 = .ok (.invokevirtual 228, 3) := by decide +kernel
theorem dX7_image_11 : decode cX7_image 11 = .ok (.aload_n 0, 1) := by decide +kernel
theorem dX7_image_12 : decode cX7_image 12 = .ok (.iconst 1, 1) := by decide +kernel
theorem dX7_image_13 : decode cX7_image 13 = .ok (.putfield 48, 3) := by decide +kernel
theorem dX7_image_16 : decode cX7_image 16 = .ok (.iconst 1, 1) := by decide +kernel
theorem dX7_image_17 : decode cX7_image 17 = .ok (.ireturn, 1) := by decide +kernel
theorem dX7_undo_0 : decode cX7_undo 0 = .ok (.aload_n 0, 1) := by decide +kernel
theorem dX7_undo_1 : decode cX7_undo 1 = .ok (.getfield 48, 3) := by decide +kernel
theorem dX7_undo_4 : decode cX7_undo 4 = .ok (.ifCond .ne 10, 3) := by decide +kernel
theorem dX7_undo_7 : decode cX7_undo 7 = .ok (.aload_n 0, 1) := by decide +kernel
theorem dX7_undo_8 : decode cX7_undo 8 = .ok (.ldc 187, 2) := by decide +kernel
theorem dX7_undo_10 : decode cX7_undo 10 = .ok (.invokevirtual 62, 3) := by decide +kernel
theorem dX7_undo_13 : decode cX7_undo 13 = .ok (.ireturn, 1) := by decide +kernel
theorem dX7_undo_14 : decode cX7_undo 14 = .ok (.aload_n 0, 1) := by decide +kernel
theorem dX7_undo_15 : decode cX7_undo 15 = .ok (.getfield 10, 3) := by decide +kernel
theorem dX7_undo_18 : decode cX7_undo 18 = .ok (.aload_n 0, 1) := by decide +kernel
theorem dX7_undo_19 : decode cX7_undo 19 = .ok (.getfield 16, 3) := by decide +kernel
theorem dX7_undo_22 : decode cX7_undo 22 = .ok (.invokevirtual 228, 3) := by decide +kernel
theorem dX7_undo_25 : decode cX7_undo 25 = .ok (.aload_n 0, 1) := by decide +kernel
theorem dX7_undo_26 : decode cX7_undo 26 = .ok (.getfield 10, 3) := by decide +kernel
theorem dX7_undo_29 : decode cX7_undo 29 = .ok (.getfield 66, 3) := by decide +kernel
theorem dX7_undo_32 : decode cX7_undo 32 = .ok (.getfield 70, 3) := by decide +kernel
theorem dX7_undo_35 : decode cX7_undo 35 = .ok (.ireturn, 1) := by decide +kernel
theorem dX7_tear_0 : decode cX7_tear 0 = .ok (.aload_n 0, 1) := by decide +kernel
theorem dX7_tear_1 : decode cX7_tear 1 = .ok (.getfield 48, 3) := by decide +kernel
theorem dX7_tear_4 : decode cX7_tear 4 = .ok (.ifCond .eq 7, 3) := by decide +kernel
theorem dX7_tear_7 : decode cX7_tear 7 = .ok (.iconst 1, 1) := by decide +kernel
theorem dX7_tear_8 : decode cX7_tear 8 = .ok (.goto 4, 3) := by decide +kernel
theorem dX7_tear_11 : decode cX7_tear 11 = .ok (.iconst 0, 1) := by decide +kernel
theorem dX7_tear_12 : decode cX7_tear 12 = .ok (.istore_n 1, 1) := by decide +kernel
theorem dX7_tear_13 : decode cX7_tear 13 = .ok (.aload_n 0, 1) := by decide +kernel
theorem dX7_tear_14 : decode cX7_tear 14 = .ok (.iconst 0, 1) := by decide +kernel
theorem dX7_tear_15 : decode cX7_tear 15 = .ok (.putfield 48, 3) := by decide +kernel
theorem dX7_tear_18 : decode cX7_tear 18 = .ok (.iload_n 1, 1) := by decide +kernel
theorem dX7_tear_19 : decode cX7_tear 19 = .ok (.ireturn, 1) := by decide +kernel
theorem dX7_count_0 : decode cX7_count 0 = .ok (.iload_n 1, 1) := by decide +kernel
theorem dX7_count_1 : decode cX7_count 1 = .ok (.tableswitch 108 0 5 #[39, 50, 64, 78, 89, 97], 39) := by decide +kernel
theorem dX7_count_40 : decode cX7_count 40 = .ok (.aload_n 0, 1) := by decide +kernel
theorem dX7_count_41 : decode cX7_count 41 = .ok (.getfield 10, 3) := by decide +kernel
theorem dX7_count_44 : decode cX7_count 44 = .ok (.getfield 66, 3) := by decide +kernel
theorem dX7_count_47 : decode cX7_count 47 = .ok (.getfield 70, 3) := by decide +kernel
theorem dX7_count_50 : decode cX7_count 50 = .ok (.ireturn, 1) := by decide +kernel
theorem dX7_count_51 : decode cX7_count 51 = .ok (.aload_n 0, 1) := by decide +kernel
theorem dX7_count_52 : decode cX7_count 52 = .ok (.getfield 10, 3) := by decide +kernel
theorem dX7_count_55 : decode cX7_count 55 = .ok (.getfield 66, 3) := by decide +kernel
theorem dX7_count_58 : decode cX7_count 58 = .ok (.invokevirtual 220, 3) := by decide +kernel
theorem dX7_count_61 : decode cX7_count 61 = .ok (.invokestatic 223, 3) := by decide +kernel
theorem dX7_count_64 : decode cX7_count 64 = .ok (.ireturn, 1) := by decide +kernel
theorem dX7_count_65 : decode cX7_count 65 = .ok (.aload_n 0, 1) := by decide +kernel
theorem dX7_count_66 : decode cX7_count 66 = .ok (.getfield 10, 3) := by decide +kernel
theorem dX7_count_69 : decode cX7_count 69 = .ok (.getfield 84, 3) := by decide +kernel
theorem dX7_count_72 : decode cX7_count 72 = .ok (.invokevirtual 306, 3) := by decide +kernel
theorem dX7_count_75 : decode cX7_count 75 = .ok (.invokestatic 223, 3) := by decide +kernel
theorem dX7_count_78 : decode cX7_count 78 = .ok (.ireturn, 1) := by decide +kernel
theorem dX7_count_79 : decode cX7_count 79 = .ok (.aload_n 0, 1) := by decide +kernel
theorem dX7_count_80 : decode cX7_count 80 = .ok (.getfield 10, 3) := by decide +kernel
theorem dX7_count_83 : decode cX7_count 83 = .ok (.getfield 84, 3) := by decide +kernel
theorem dX7_count_86 : decode cX7_count 86 = .ok (.invokevirtual 309, 3) := by decide +kernel
theorem dX7_count_89 : decode cX7_count 89 = .ok (.ireturn, 1) := by decide +kernel
theorem dX7_count_90 : decode cX7_count 90 = .ok (.aload_n 0, 1) := by decide +kernel
theorem dX7_count_91 : decode cX7_count 91 = .ok (.getfield 34, 3) := by decide +kernel
theorem dX7_count_94 : decode cX7_count 94 = .ok (.getfield 231, 3) := by decide +kernel
theorem dX7_count_97 : decode cX7_count 97 = .ok (.ireturn, 1) := by decide +kernel
theorem dX7_count_98 : decode cX7_count 98 = .ok (.aload_n 0, 1) := by decide +kernel
theorem dX7_count_99 : decode cX7_count 99 = .ok (.getfield 10, 3) := by decide +kernel
theorem dX7_count_102 : decode cX7_count 102 = .ok (.getfield 66, 3) := by decide +kernel
theorem dX7_count_105 : decode cX7_count 105 = .ok (.getfield 172, 3) := by decide +kernel
theorem dX7_count_108 : decode cX7_count 108 = .ok (.ireturn, 1) := by decide +kernel
theorem dX7_count_109 : decode cX7_count 109 = .ok (.aload_n 0, 1) := by decide +kernel
theorem dX7_count_110 : decode cX7_count 110 = .ok (.ldc 61, 2) := by decide +kernel
theorem dX7_count_112 : decode cX7_count 112 = .ok (.invokevirtual 62, 3) := by decide +kernel
theorem dX7_count_115 : decode cX7_count 115 = .ok (.ireturn, 1) := by decide +kernel
theorem dX7_status_0 : decode cX7_status 0 = .ok (.iload_n 1, 1) := by decide +kernel
theorem dX7_status_1 : decode cX7_status 1 = .ok (.iconst (-1), 1) := by decide +kernel
theorem dX7_status_2 : decode cX7_status 2 = .ok (.bipush 6, 2) := by decide +kernel
theorem dX7_status_4 : decode cX7_status 4 = .ok (.invokestatic 53, 3) := by decide +kernel
theorem dX7_status_7 : decode cX7_status 7 = .ok (.ifCond .ne 10, 3) := by decide +kernel
theorem dX7_status_10 : decode cX7_status 10 = .ok (.aload_n 0, 1) := by decide +kernel
theorem dX7_status_11 : decode cX7_status 11 = .ok (.ldc 61, 2) := by decide +kernel
theorem dX7_status_13 : decode cX7_status 13 = .ok (.invokevirtual 62, 3) := by decide +kernel
theorem dX7_status_16 : decode cX7_status 16 = .ok (.ireturn, 1) := by decide +kernel
theorem dX7_status_17 : decode cX7_status 17 = .ok (.iload_n 1, 1) := by decide +kernel
theorem dX7_status_18 : decode cX7_status 18 = .ok (.ifCond .lt 10, 3) := by decide +kernel
theorem dX7_status_21 : decode cX7_status 21 = .ok (.aload_n 0, 1) := by decide +kernel
theorem dX7_status_22 : decode cX7_status 22 = .ok (.getfield 44, 3) := by decide +kernel
theorem dX7_status_25 : decode cX7_status 25 = .ok (.iload_n 1, 1) := by decide +kernel
theorem dX7_status_26 : decode cX7_status 26 = .ok (.iaload, 1) := by decide +kernel
theorem dX7_status_27 : decode cX7_status 27 = .ok (.ireturn, 1) := by decide +kernel
theorem dX7_status_28 : decode cX7_status 28 = .ok (.iconst 0, 1) := by decide +kernel
theorem dX7_status_29 : decode cX7_status 29 = .ok (.istore_n 2, 1) := by decide +kernel
theorem dX7_status_30 : decode cX7_status 30 = .ok (.iconst 0, 1) := by decide +kernel
theorem dX7_status_31 : decode cX7_status 31 = .ok (.istore_n 3, 1) := by decide +kernel
theorem dX7_status_32 : decode cX7_status 32 = .ok (.iload_n 3, 1) := by decide +kernel
theorem dX7_status_33 : decode cX7_status 33 = .ok (.bipush 7, 2) := by decide +kernel
theorem dX7_status_35 : decode cX7_status 35 = .ok (.if_icmp .ge 18, 3) := by decide +kernel
theorem dX7_status_38 : decode cX7_status 38 = .ok (.iload_n 2, 1) := by decide +kernel
theorem dX7_status_39 : decode cX7_status 39 = .ok (.aload_n 0, 1) := by decide +kernel
theorem dX7_status_40 : decode cX7_status 40 = .ok (.getfield 44, 3) := by decide +kernel
theorem dX7_status_43 : decode cX7_status 43 = .ok (.iload_n 3, 1) := by decide +kernel
theorem dX7_status_44 : decode cX7_status 44 = .ok (.iaload, 1) := by decide +kernel
theorem dX7_status_45 : decode cX7_status 45 = .ok (.iadd, 1) := by decide +kernel
theorem dX7_status_46 : decode cX7_status 46 = .ok (.istore_n 2, 1) := by decide +kernel
theorem dX7_status_47 : decode cX7_status 47 = .ok (.iinc 3 1, 3) := by decide +kernel
theorem dX7_status_50 : decode cX7_status 50 = .ok (.goto (-18), 3) := by decide +kernel
theorem dX7_status_53 : decode cX7_status 53 = .ok (.iload_n 2, 1) := by decide +kernel
theorem dX7_status_54 : decode cX7_status 54 = .ok (.ireturn, 1) := by decide +kernel
theorem dX7_finding_0 : decode cX7_finding 0 = .ok (.ldc 61, 2) := by decide +kernel
theorem dX7_finding_2 : decode cX7_finding 2 = .ok (.iload_n 1, 1) := by decide +kernel
theorem dX7_finding_3 : decode cX7_finding 3 = .ok (.isub, 1) := by decide +kernel
theorem dX7_finding_4 : decode cX7_finding 4 = .ok (.istore_n 2, 1) := by decide +kernel
theorem dX7_finding_5 : decode cX7_finding 5 = .ok (.iload_n 2, 1) := by decide +kernel
theorem dX7_finding_6 : decode cX7_finding 6 = .ok (.ifCond .lt 19, 3) := by decide +kernel
theorem dX7_finding_9 : decode cX7_finding 9 = .ok (.iload_n 2, 1) := by decide +kernel
theorem dX7_finding_10 : decode cX7_finding 10 = .ok (.bipush 7, 2) := by decide +kernel
theorem dX7_finding_12 : decode cX7_finding 12 = .ok (.if_icmp .ge 13, 3) := by decide +kernel
theorem dX7_finding_15 : decode cX7_finding 15 = .ok (.aload_n 0, 1) := by decide +kernel
theorem dX7_finding_16 : decode cX7_finding 16 = .ok (.getfield 44, 3) := by decide +kernel
theorem dX7_finding_19 : decode cX7_finding 19 = .ok (.iload_n 2, 1) := by decide +kernel
theorem dX7_finding_20 : decode cX7_finding 20 = .ok (.dup2, 1) := by decide +kernel
theorem dX7_finding_21 : decode cX7_finding 21 = .ok (.iaload, 1) := by decide +kernel
theorem dX7_finding_22 : decode cX7_finding 22 = .ok (.iconst 1, 1) := by decide +kernel
theorem dX7_finding_23 : decode cX7_finding 23 = .ok (.iadd, 1) := by decide +kernel
theorem dX7_finding_24 : decode cX7_finding 24 = .ok (.iastore, 1) := by decide +kernel
theorem dX7_finding_25 : decode cX7_finding 25 = .ok (.iload_n 1, 1) := by decide +kernel
theorem dX7_finding_26 : decode cX7_finding 26 = .ok (.ireturn, 1) := by decide +kernel
theorem dX7_within_0 : decode cX7_within 0 = .ok (.iload_n 0, 1) := by decide +kernel
theorem dX7_within_1 : decode cX7_within 1 = .ok (.iload_n 1, 1) := by decide +kernel
theorem dX7_within_2 : decode cX7_within 2 = .ok (.if_icmp .lt 12, 3) := by decide +kernel
theorem dX7_within_5 : decode cX7_within 5 = .ok (.iload_n 0, 1) := by decide +kernel
theorem dX7_within_6 : decode cX7_within 6 = .ok (.iload_n 2, 1) := by decide +kernel
theorem dX7_within_7 : decode cX7_within 7 = .ok (.if_icmp .gt 7, 3) := by decide +kernel
theorem dX7_within_10 : decode cX7_within 10 = .ok (.iconst 1, 1) := by decide +kernel
theorem dX7_within_11 : decode cX7_within 11 = .ok (.goto 4, 3) := by decide +kernel
theorem dX7_within_14 : decode cX7_within 14 = .ok (.iconst 0, 1) := by decide +kernel
theorem dX7_within_15 : decode cX7_within 15 = .ok (.ireturn, 1) := by decide +kernel
theorem dX7_isIn_0 : decode cX7_isIn 0 = .ok (.iload_n 1, 1) := by decide +kernel
theorem dX7_isIn_1 : decode cX7_isIn 1 = .ok (.ifCond .lt 22, 3) := by decide +kernel
theorem dX7_isIn_4 : decode cX7_isIn 4 = .ok (.iload_n 1, 1) := by decide +kernel
theorem dX7_isIn_5 : decode cX7_isIn 5 = .ok (.bipush 10, 2) := by decide +kernel
theorem dX7_isIn_7 : decode cX7_isIn 7 = .ok (.if_icmp .ge 16, 3) := by decide +kernel
theorem dX7_isIn_10 : decode cX7_isIn 10 = .ok (.iload_n 0, 1) := by decide +kernel
theorem dX7_isIn_11 : decode cX7_isIn 11 = .ok (.iload_n 1, 1) := by decide +kernel
theorem dX7_isIn_12 : decode cX7_isIn 12 = .ok (.ishr, 1) := by decide +kernel
theorem dX7_isIn_13 : decode cX7_isIn 13 = .ok (.iconst 1, 1) := by decide +kernel
theorem dX7_isIn_14 : decode cX7_isIn 14 = .ok (.iand, 1) := by decide +kernel
theorem dX7_isIn_15 : decode cX7_isIn 15 = .ok (.iconst 1, 1) := by decide +kernel
theorem dX7_isIn_16 : decode cX7_isIn 16 = .ok (.if_icmp .ne 7, 3) := by decide +kernel
theorem dX7_isIn_19 : decode cX7_isIn 19 = .ok (.iconst 1, 1) := by decide +kernel
theorem dX7_isIn_20 : decode cX7_isIn 20 = .ok (.goto 4, 3) := by decide +kernel
theorem dX7_isIn_23 : decode cX7_isIn 23 = .ok (.iconst 0, 1) := by decide +kernel
theorem dX7_isIn_24 : decode cX7_isIn 24 = .ok (.ireturn, 1) := by decide +kernel
theorem dX7_isSort_0 : decode cX7_isSort 0 = .ok (.iload_n 0, 1) := by decide +kernel
theorem dX7_isSort_1 : decode cX7_isSort 1 = .ok (.iconst 0, 1) := by decide +kernel
theorem dX7_isSort_2 : decode cX7_isSort 2 = .ok (.iconst 3, 1) := by decide +kernel
theorem dX7_isSort_3 : decode cX7_isSort 3 = .ok (.invokestatic 53, 3) := by decide +kernel
theorem dX7_isSort_6 : decode cX7_isSort 6 = .ok (.ireturn, 1) := by decide +kernel
theorem dX7_isChairs_0 : decode cX7_isChairs 0 = .ok (.iload_n 0, 1) := by decide +kernel
theorem dX7_isChairs_1 : decode cX7_isChairs 1 = .ok (.iconst 1, 1) := by decide +kernel
theorem dX7_isChairs_2 : decode cX7_isChairs 2 = .ok (.sipush 200, 3) := by decide +kernel
theorem dX7_isChairs_5 : decode cX7_isChairs 5 = .ok (.invokestatic 53, 3) := by decide +kernel
theorem dX7_isChairs_8 : decode cX7_isChairs 8 = .ok (.ireturn, 1) := by decide +kernel
theorem dX7_isSheet_0 : decode cX7_isSheet 0 = .ok (.iload_n 0, 1) := by decide +kernel
theorem dX7_isSheet_1 : decode cX7_isSheet 1 = .ok (.iconst 0, 1) := by decide +kernel
theorem dX7_isSheet_2 : decode cX7_isSheet 2 = .ok (.iconst 3, 1) := by decide +kernel
theorem dX7_isSheet_3 : decode cX7_isSheet 3 = .ok (.invokestatic 53, 3) := by decide +kernel
theorem dX7_isSheet_6 : decode cX7_isSheet 6 = .ok (.ireturn, 1) := by decide +kernel
theorem dX7_isOne_0 : decode cX7_isOne 0 = .ok (.iload_n 1, 1) := by decide +kernel
theorem dX7_isOne_1 : decode cX7_isOne 1 = .ok (.iconst 0, 1) := by decide +kernel
theorem dX7_isOne_2 : decode cX7_isOne 2 = .ok (.aload_n 0, 1) := by decide +kernel
theorem dX7_isOne_3 : decode cX7_isOne 3 = .ok (.getfield 10, 3) := by decide +kernel
theorem dX7_isOne_6 : decode cX7_isOne 6 = .ok (.getfield 66, 3) := by decide +kernel
theorem dX7_isOne_9 : decode cX7_isOne 9 = .ok (.getfield 70, 3) := by decide +kernel
theorem dX7_isOne_12 : decode cX7_isOne 12 = .ok (.iconst 1, 1) := by decide +kernel
theorem dX7_isOne_13 : decode cX7_isOne 13 = .ok (.isub, 1) := by decide +kernel
theorem dX7_isOne_14 : decode cX7_isOne 14 = .ok (.invokestatic 53, 3) := by decide +kernel
theorem dX7_isOne_17 : decode cX7_isOne 17 = .ok (.ireturn, 1) := by decide +kernel
theorem dX7_areTwo_0 : decode cX7_areTwo 0 = .ok (.aload_n 0, 1) := by decide +kernel
theorem dX7_areTwo_1 : decode cX7_areTwo 1 = .ok (.iload_n 1, 1) := by decide +kernel
theorem dX7_areTwo_2 : decode cX7_areTwo 2 = .ok (.invokevirtual 81, 3) := by decide +kernel
theorem dX7_areTwo_5 : decode cX7_areTwo 5 = .ok (.ifCond .eq 20, 3) := by decide +kernel
theorem dX7_areTwo_8 : decode cX7_areTwo 8 = .ok (.aload_n 0, 1) := by decide +kernel
theorem dX7_areTwo_9 : decode cX7_areTwo 9 = .ok (.iload_n 2, 1) := by decide +kernel
theorem dX7_areTwo_10 : decode cX7_areTwo 10 = .ok (.invokevirtual 81, 3) := by decide +kernel
theorem dX7_areTwo_13 : decode cX7_areTwo 13 = .ok (.ifCond .eq 12, 3) := by decide +kernel
theorem dX7_areTwo_16 : decode cX7_areTwo 16 = .ok (.iload_n 1, 1) := by decide +kernel
theorem dX7_areTwo_17 : decode cX7_areTwo 17 = .ok (.iload_n 2, 1) := by decide +kernel
theorem dX7_areTwo_18 : decode cX7_areTwo 18 = .ok (.if_icmp .eq 7, 3) := by decide +kernel
theorem dX7_areTwo_21 : decode cX7_areTwo 21 = .ok (.iconst 1, 1) := by decide +kernel
theorem dX7_areTwo_22 : decode cX7_areTwo 22 = .ok (.goto 4, 3) := by decide +kernel
theorem dX7_areTwo_25 : decode cX7_areTwo 25 = .ok (.iconst 0, 1) := by decide +kernel
theorem dX7_areTwo_26 : decode cX7_areTwo 26 = .ok (.ireturn, 1) := by decide +kernel
theorem dX7_isPlace_0 : decode cX7_isPlace 0 = .ok (.iload_n 1, 1) := by decide +kernel
theorem dX7_isPlace_1 : decode cX7_isPlace 1 = .ok (.iconst 0, 1) := by decide +kernel
theorem dX7_isPlace_2 : decode cX7_isPlace 2 = .ok (.aload_n 0, 1) := by decide +kernel
theorem dX7_isPlace_3 : decode cX7_isPlace 3 = .ok (.getfield 10, 3) := by decide +kernel
theorem dX7_isPlace_6 : decode cX7_isPlace 6 = .ok (.getfield 84, 3) := by decide +kernel
theorem dX7_isPlace_9 : decode cX7_isPlace 9 = .ok (.getfield 133, 3) := by decide +kernel
theorem dX7_isPlace_12 : decode cX7_isPlace 12 = .ok (.iconst 0, 1) := by decide +kernel
theorem dX7_isPlace_13 : decode cX7_isPlace 13 = .ok (.iaload, 1) := by decide +kernel
theorem dX7_isPlace_14 : decode cX7_isPlace 14 = .ok (.iconst 1, 1) := by decide +kernel
theorem dX7_isPlace_15 : decode cX7_isPlace 15 = .ok (.isub, 1) := by decide +kernel
theorem dX7_isPlace_16 : decode cX7_isPlace 16 = .ok (.invokestatic 53, 3) := by decide +kernel
theorem dX7_isPlace_19 : decode cX7_isPlace 19 = .ok (.ireturn, 1) := by decide +kernel
theorem dX7_mayStandInLine_0 : decode cX7_mayStandInLine 0 = .ok (.iload_n 1, 1) := by decide +kernel
theorem dX7_mayStandInLine_1 : decode cX7_mayStandInLine 1 = .ok (.aload_n 0, 1) := by decide +kernel
theorem dX7_mayStandInLine_2 : decode cX7_mayStandInLine 2 = .ok (.getfield 10, 3) := by decide +kernel
theorem dX7_mayStandInLine_5 : decode cX7_mayStandInLine 5 = .ok (.getfield 84, 3) := by decide +kernel
theorem dX7_mayStandInLine_8 : decode cX7_mayStandInLine 8 = .ok (.getfield 141, 3) := by decide +kernel
theorem dX7_mayStandInLine_11 : decode cX7_mayStandInLine 11 = .ok (.if_icmp .ne 22, 3) := by decide +kernel
theorem dX7_mayStandInLine_14 : decode cX7_mayStandInLine 14 = .ok (.aload_n 0, 1) := by decide +kernel
theorem dX7_mayStandInLine_15 : decode cX7_mayStandInLine 15 = .ok (.getfield 10, 3) := by decide +kernel
theorem dX7_mayStandInLine_18 : decode cX7_mayStandInLine 18 = .ok (.getfield 84, 3) := by decide +kernel
theorem dX7_mayStandInLine_21 : decode cX7_mayStandInLine 21 = .ok (.getfield 133, 3) := by decide +kernel
theorem dX7_mayStandInLine_24 : decode cX7_mayStandInLine 24 = .ok (.iconst 2, 1) := by decide +kernel
theorem dX7_mayStandInLine_25 : decode cX7_mayStandInLine 25 = .ok (.iaload, 1) := by decide +kernel
theorem dX7_mayStandInLine_26 : decode cX7_mayStandInLine 26 = .ok (.ifCond .ne 7, 3) := by decide +kernel
theorem dX7_mayStandInLine_29 : decode cX7_mayStandInLine 29 = .ok (.iconst 1, 1) := by decide +kernel
theorem dX7_mayStandInLine_30 : decode cX7_mayStandInLine 30 = .ok (.goto 4, 3) := by decide +kernel
theorem dX7_mayStandInLine_33 : decode cX7_mayStandInLine 33 = .ok (.iconst 0, 1) := by decide +kernel
theorem dX7_mayStandInLine_34 : decode cX7_mayStandInLine 34 = .ok (.istore_n 2, 1) := by decide +kernel
theorem dX7_mayStandInLine_35 : decode cX7_mayStandInLine 35 = .ok (.aload_n 0, 1) := by decide +kernel
theorem dX7_mayStandInLine_36 : decode cX7_mayStandInLine 36 = .ok (.getfield 10, 3) := by decide +kernel
theorem dX7_mayStandInLine_39 : decode cX7_mayStandInLine 39 = .ok (.getfield 66, 3) := by decide +kernel
theorem dX7_mayStandInLine_42 : decode cX7_mayStandInLine 42 = .ok (.iload_n 1, 1) := by decide +kernel
theorem dX7_mayStandInLine_43 : decode cX7_mayStandInLine 43 = .ok (.invokevirtual 93, 3) := by decide +kernel
theorem dX7_mayStandInLine_46 : decode cX7_mayStandInLine 46 = .ok (.ifCond .eq 25, 3) := by decide +kernel
theorem dX7_mayStandInLine_49 : decode cX7_mayStandInLine 49 = .ok (.aload_n 0, 1) := by decide +kernel
theorem dX7_mayStandInLine_50 : decode cX7_mayStandInLine 50 = .ok (.getfield 10, 3) := by decide +kernel
theorem dX7_mayStandInLine_53 : decode cX7_mayStandInLine 53 = .ok (.getfield 84, 3) := by decide +kernel
theorem dX7_mayStandInLine_56 : decode cX7_mayStandInLine 56 = .ok (.iload_n 1, 1) := by decide +kernel
theorem dX7_mayStandInLine_57 : decode cX7_mayStandInLine 57 = .ok (.invokevirtual 96, 3) := by decide +kernel
theorem dX7_mayStandInLine_60 : decode cX7_mayStandInLine 60 = .ok (.ifCond .ge 11, 3) := by decide +kernel
theorem dX7_mayStandInLine_63 : decode cX7_mayStandInLine 63 = .ok (.iload_n 2, 1) := by decide +kernel
theorem dX7_mayStandInLine_64 : decode cX7_mayStandInLine 64 = .ok (.ifCond .ne 7, 3) := by decide +kernel
theorem dX7_mayStandInLine_67 : decode cX7_mayStandInLine 67 = .ok (.iconst 1, 1) := by decide +kernel
theorem dX7_mayStandInLine_68 : decode cX7_mayStandInLine 68 = .ok (.goto 4, 3) := by decide +kernel
theorem dX7_mayStandInLine_71 : decode cX7_mayStandInLine 71 = .ok (.iconst 0, 1) := by decide +kernel
theorem dX7_mayStandInLine_72 : decode cX7_mayStandInLine 72 = .ok (.ireturn, 1) := by decide +kernel
theorem dX7_isTrait_0 : decode cX7_isTrait 0 = .ok (.iload_n 0, 1) := by decide +kernel
theorem dX7_isTrait_1 : decode cX7_isTrait 1 = .ok (.tableswitch 62 0 3 #[31, 39, 48, 53], 31) := by decide +kernel
theorem dX7_isTrait_32 : decode cX7_isTrait 32 = .ok (.iload_n 1, 1) := by decide +kernel
theorem dX7_isTrait_33 : decode cX7_isTrait 33 = .ok (.iconst 0, 1) := by decide +kernel
theorem dX7_isTrait_34 : decode cX7_isTrait 34 = .ok (.bipush 6, 2) := by decide +kernel
theorem dX7_isTrait_36 : decode cX7_isTrait 36 = .ok (.invokestatic 53, 3) := by decide +kernel
theorem dX7_isTrait_39 : decode cX7_isTrait 39 = .ok (.ireturn, 1) := by decide +kernel
theorem dX7_isTrait_40 : decode cX7_isTrait 40 = .ok (.iload_n 1, 1) := by decide +kernel
theorem dX7_isTrait_41 : decode cX7_isTrait 41 = .ok (.bipush 20, 2) := by decide +kernel
theorem dX7_isTrait_43 : decode cX7_isTrait 43 = .ok (.bipush 99, 2) := by decide +kernel
theorem dX7_isTrait_45 : decode cX7_isTrait 45 = .ok (.invokestatic 53, 3) := by decide +kernel
theorem dX7_isTrait_48 : decode cX7_isTrait 48 = .ok (.ireturn, 1) := by decide +kernel
theorem dX7_isTrait_49 : decode cX7_isTrait 49 = .ok (.iload_n 1, 1) := by decide +kernel
theorem dX7_isTrait_50 : decode cX7_isTrait 50 = .ok (.invokestatic 57, 3) := by decide +kernel
theorem dX7_isTrait_53 : decode cX7_isTrait 53 = .ok (.ireturn, 1) := by decide +kernel
theorem dX7_isTrait_54 : decode cX7_isTrait 54 = .ok (.iload_n 1, 1) := by decide +kernel
theorem dX7_isTrait_55 : decode cX7_isTrait 55 = .ok (.iconst 0, 1) := by decide +kernel
theorem dX7_isTrait_56 : decode cX7_isTrait 56 = .ok (.sipush 1023, 3) := by decide +kernel
theorem dX7_isTrait_59 : decode cX7_isTrait 59 = .ok (.invokestatic 53, 3) := by decide +kernel
theorem dX7_isTrait_62 : decode cX7_isTrait 62 = .ok (.ireturn, 1) := by decide +kernel
theorem dX7_isTrait_63 : decode cX7_isTrait 63 = .ok (.iconst 0, 1) := by decide +kernel
theorem dX7_isTrait_64 : decode cX7_isTrait 64 = .ok (.ireturn, 1) := by decide +kernel
theorem dX7_isUnder_0 : decode cX7_isUnder 0 = .ok (.iload_n 0, 1) := by decide +kernel
theorem dX7_isUnder_1 : decode cX7_isUnder 1 = .ok (.istore_n 2, 1) := by decide +kernel
theorem dX7_isUnder_2 : decode cX7_isUnder 2 = .ok (.iconst 0, 1) := by decide +kernel
theorem dX7_isUnder_3 : decode cX7_isUnder 3 = .ok (.istore_n 3, 1) := by decide +kernel
theorem dX7_isUnder_4 : decode cX7_isUnder 4 = .ok (.iload_n 3, 1) := by decide +kernel
theorem dX7_isUnder_5 : decode cX7_isUnder 5 = .ok (.bipush 7, 2) := by decide +kernel
theorem dX7_isUnder_7 : decode cX7_isUnder 7 = .ok (.if_icmp .ge 32, 3) := by decide +kernel
theorem dX7_isUnder_10 : decode cX7_isUnder 10 = .ok (.iload_n 2, 1) := by decide +kernel
theorem dX7_isUnder_11 : decode cX7_isUnder 11 = .ok (.ifCond .lt 28, 3) := by decide +kernel
theorem dX7_isUnder_14 : decode cX7_isUnder 14 = .ok (.iload_n 2, 1) := by decide +kernel
theorem dX7_isUnder_15 : decode cX7_isUnder 15 = .ok (.bipush 7, 2) := by decide +kernel
theorem dX7_isUnder_17 : decode cX7_isUnder 17 = .ok (.if_icmp .ge 22, 3) := by decide +kernel
theorem dX7_isUnder_20 : decode cX7_isUnder 20 = .ok (.iload_n 2, 1) := by decide +kernel
theorem dX7_isUnder_21 : decode cX7_isUnder 21 = .ok (.iload_n 1, 1) := by decide +kernel
theorem dX7_isUnder_22 : decode cX7_isUnder 22 = .ok (.if_icmp .ne 5, 3) := by decide +kernel
theorem dX7_isUnder_25 : decode cX7_isUnder 25 = .ok (.iconst 1, 1) := by decide +kernel
theorem dX7_isUnder_26 : decode cX7_isUnder 26 = .ok (.ireturn, 1) := by decide +kernel
theorem dX7_isUnder_27 : decode cX7_isUnder 27 = .ok (.getstatic 312, 3) := by decide +kernel
theorem dX7_isUnder_30 : decode cX7_isUnder 30 = .ok (.iload_n 2, 1) := by decide +kernel
theorem dX7_isUnder_31 : decode cX7_isUnder 31 = .ok (.iaload, 1) := by decide +kernel
theorem dX7_isUnder_32 : decode cX7_isUnder 32 = .ok (.istore_n 2, 1) := by decide +kernel
theorem dX7_isUnder_33 : decode cX7_isUnder 33 = .ok (.iinc 3 1, 3) := by decide +kernel
theorem dX7_isUnder_36 : decode cX7_isUnder 36 = .ok (.goto (-32), 3) := by decide +kernel
theorem dX7_isUnder_39 : decode cX7_isUnder 39 = .ok (.iconst 0, 1) := by decide +kernel
theorem dX7_isUnder_40 : decode cX7_isUnder 40 = .ok (.ireturn, 1) := by decide +kernel
