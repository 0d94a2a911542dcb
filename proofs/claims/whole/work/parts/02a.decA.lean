theorem dX0_init_0 : decode cX0_init 0 = .ok (.aload_n 0, 1) := by decide +kernel
theorem dX0_init_1 : decode cX0_init 1 = .ok (.invokespecial 3, 3) := by decide +kernel
theorem dX0_init_4 : decode cX0_init 4 = .ok (.aload_n 0, 1) := by decide +kernel
theorem dX0_init_5 : decode cX0_init 5 = .ok (.new 9, 3) := by decide +kernel
theorem dX0_init_8 : decode cX0_init 8 = .ok (.dup, 1) := by decide +kernel
theorem dX0_init_9 : decode cX0_init 9 = .ok (.invokespecial 11, 3) := by decide +kernel
theorem dX0_init_12 : decode cX0_init 12 = .ok (.putfield 12, 3) := by decide +kernel
theorem dX0_init_15 : decode cX0_init 15 = .ok (.aload_n 0, 1) := by decide +kernel
theorem dX0_init_16 : decode cX0_init 16 = .ok (.sipush 129, 3) := by decide +kernel
theorem dX0_init_19 : decode cX0_init 19 = .ok (.newarray .int, 2) := by decide +kernel
theorem dX0_init_21 : decode cX0_init 21 = .ok (.putfield 18, 3) := by decide +kernel
theorem dX0_init_24 : decode cX0_init 24 = .ok (.aload_n 0, 1) := by decide +kernel
theorem dX0_init_25 : decode cX0_init 25 = .ok (.sipush 128, 3) := by decide +kernel
theorem dX0_init_28 : decode cX0_init 28 = .ok (.newarray .int, 2) := by decide +kernel
theorem dX0_init_30 : decode cX0_init 30 = .ok (.putfield 22, 3) := by decide +kernel
theorem dX0_init_33 : decode cX0_init 33 = .ok (.aload_n 0, 1) := by decide +kernel
theorem dX0_init_34 : decode cX0_init 34 = .ok (.sipush 387, 3) := by decide +kernel
theorem dX0_init_37 : decode cX0_init 37 = .ok (.newarray .int, 2) := by decide +kernel
theorem dX0_init_39 : decode cX0_init 39 = .ok (.putfield 25, 3) := by decide +kernel
theorem dX0_init_42 : decode cX0_init 42 = .ok (.aload_n 0, 1) := by decide +kernel
theorem dX0_init_43 : decode cX0_init 43 = .ok (.sipush 129, 3) := by decide +kernel
theorem dX0_init_46 : decode cX0_init 46 = .ok (.newarray .boolean, 2) := by decide +kernel
theorem dX0_init_48 : decode cX0_init 48 = .ok (.putfield 28, 3) := by decide +kernel
theorem dX0_init_51 : decode cX0_init 51 = .ok (.aload_n 0, 1) := by decide +kernel
theorem dX0_init_52 : decode cX0_init 52 = .ok (.sipush 129, 3) := by decide +kernel
theorem dX0_init_55 : decode cX0_init 55 = .ok (.newarray .int, 2) := by decide +kernel
theorem dX0_init_57 : decode cX0_init 57 = .ok (.putfield 32, 3) := by decide +kernel
theorem dX0_init_60 : decode cX0_init 60 = .ok (.aload_n 0, 1) := by decide +kernel
theorem dX0_init_61 : decode cX0_init 61 = .ok (.sipush 129, 3) := by decide +kernel
theorem dX0_init_64 : decode cX0_init 64 = .ok (.newarray .int, 2) := by decide +kernel
theorem dX0_init_66 : decode cX0_init 66 = .ok (.putfield 35, 3) := by decide +kernel
theorem dX0_init_69 : decode cX0_init 69 = .ok (.aload_n 0, 1) := by decide +kernel
theorem dX0_init_70 : decode cX0_init 70 = .ok (.sipush 129, 3) := by decide +kernel
theorem dX0_init_73 : decode cX0_init 73 = .ok (.newarray .int, 2) := by decide +kernel
theorem dX0_init_75 : decode cX0_init 75 = .ok (.putfield 38, 3) := by decide +kernel
theorem dX0_init_78 : decode cX0_init 78 = .ok (.aload_n 0, 1) := by decide +kernel
theorem dX0_init_79 : decode cX0_init 79 = .ok (.iconst 0, 1) := by decide +kernel
theorem dX0_init_80 : decode cX0_init 80 = .ok (.putfield 41, 3) := by decide +kernel
theorem dX0_init_83 : decode cX0_init 83 = .ok (.return_, 1) := by decide +kernel
theorem dX0_build_0 : decode cX0_build 0 = .ok (.aload_n 0, 1) := by decide +kernel
theorem dX0_build_1 : decode cX0_build 1 = .ok (.getfield 12, 3) := by decide +kernel
theorem dX0_build_4 : decode cX0_build 4 = .ok (.aload_n 1, 1) := by decide +kernel
theorem dX0_build_5 : decode cX0_build 5 = .ok (.invokevirtual 45, 3) := by decide +kernel
theorem dX0_build_8 : decode cX0_build 8 = .ok (.aload_n 0, 1) := by decide +kernel
theorem dX0_build_9 : decode cX0_build 9 = .ok (.getfield 22, 3) := by decide +kernel
theorem dX0_build_12 : decode cX0_build 12 = .ok (.iconst (-1), 1) := by decide +kernel
theorem dX0_build_13 : decode cX0_build 13 = .ok (.invokestatic 49, 3) := by decide +kernel
theorem dX0_build_16 : decode cX0_build 16 = .ok (.aload_n 0, 1) := by decide +kernel
theorem dX0_build_17 : decode cX0_build 17 = .ok (.iconst 1, 1) := by decide +kernel
theorem dX0_build_18 : decode cX0_build 18 = .ok (.putfield 41, 3) := by decide +kernel
theorem dX0_build_21 : decode cX0_build 21 = .ok (.aload_n 0, 1) := by decide +kernel
theorem dX0_build_22 : decode cX0_build 22 = .ok (.getfield 18, 3) := by decide +kernel
theorem dX0_build_25 : decode cX0_build 25 = .ok (.iconst 0, 1) := by decide +kernel
theorem dX0_build_26 : decode cX0_build 26 = .ok (.iconst 0, 1) := by decide +kernel
theorem dX0_build_27 : decode cX0_build 27 = .ok (.iastore, 1) := by decide +kernel
theorem dX0_build_28 : decode cX0_build 28 = .ok (.aload_n 0, 1) := by decide +kernel
theorem dX0_build_29 : decode cX0_build 29 = .ok (.getfield 32, 3) := by decide +kernel
theorem dX0_build_32 : decode cX0_build 32 = .ok (.iconst 0, 1) := by decide +kernel
theorem dX0_build_33 : decode cX0_build 33 = .ok (.iconst 0, 1) := by decide +kernel
theorem dX0_build_34 : decode cX0_build 34 = .ok (.iastore, 1) := by decide +kernel
theorem dX0_build_35 : decode cX0_build 35 = .ok (.aload_n 0, 1) := by decide +kernel
theorem dX0_build_36 : decode cX0_build 36 = .ok (.getfield 28, 3) := by decide +kernel
theorem dX0_build_39 : decode cX0_build 39 = .ok (.iconst 0, 1) := by decide +kernel
theorem dX0_build_40 : decode cX0_build 40 = .ok (.aload_n 0, 1) := by decide +kernel
theorem dX0_build_41 : decode cX0_build 41 = .ok (.getfield 12, 3) := by decide +kernel
theorem dX0_build_44 : decode cX0_build 44 = .ok (.invokevirtual 55, 3) := by decide +kernel
theorem dX0_build_47 : decode cX0_build 47 = .ok (.bastore, 1) := by decide +kernel
theorem dX0_build_48 : decode cX0_build 48 = .ok (.iconst 0, 1) := by decide +kernel
theorem dX0_build_49 : decode cX0_build 49 = .ok (.istore_n 2, 1) := by decide +kernel
theorem dX0_build_50 : decode cX0_build 50 = .ok (.iload_n 2, 1) := by decide +kernel
theorem dX0_build_51 : decode cX0_build 51 = .ok (.aload_n 0, 1) := by decide +kernel
theorem dX0_build_52 : decode cX0_build 52 = .ok (.getfield 41, 3) := by decide +kernel
theorem dX0_build_55 : decode cX0_build 55 = .ok (.if_icmp .ge 91, 3) := by decide +kernel
theorem dX0_build_58 : decode cX0_build 58 = .ok (.iload_n 2, 1) := by decide +kernel
theorem dX0_build_59 : decode cX0_build 59 = .ok (.sipush 129, 3) := by decide +kernel
theorem dX0_build_62 : decode cX0_build 62 = .ok (.if_icmp .ge 84, 3) := by decide +kernel
theorem dX0_build_65 : decode cX0_build 65 = .ok (.iload_n 2, 1) := by decide +kernel
theorem dX0_build_66 : decode cX0_build 66 = .ok (.ifCond .ne 13, 3) := by decide +kernel
theorem dX0_build_69 : decode cX0_build 69 = .ok (.aload_n 0, 1) := by decide +kernel
theorem dX0_build_70 : decode cX0_build 70 = .ok (.getfield 12, 3) := by decide +kernel
theorem dX0_build_73 : decode cX0_build 73 = .ok (.invokevirtual 59, 3) := by decide +kernel
theorem dX0_build_76 : decode cX0_build 76 = .ok (.goto 16, 3) := by decide +kernel
theorem dX0_build_79 : decode cX0_build 79 = .ok (.aload_n 0, 1) := by decide +kernel
theorem dX0_build_80 : decode cX0_build 80 = .ok (.getfield 12, 3) := by decide +kernel
theorem dX0_build_83 : decode cX0_build 83 = .ok (.aload_n 0, 1) := by decide +kernel
theorem dX0_build_84 : decode cX0_build 84 = .ok (.getfield 18, 3) := by decide +kernel
theorem dX0_build_87 : decode cX0_build 87 = .ok (.iload_n 2, 1) := by decide +kernel
theorem dX0_build_88 : decode cX0_build 88 = .ok (.iaload, 1) := by decide +kernel
theorem dX0_build_89 : decode cX0_build 89 = .ok (.invokevirtual 63, 3) := by decide +kernel
theorem dX0_build_92 : decode cX0_build 92 = .ok (.istore_n 3, 1) := by decide +kernel
theorem dX0_build_93 : decode cX0_build 93 = .ok (.iconst 0, 1) := by decide +kernel
theorem dX0_build_94 : decode cX0_build 94 = .ok (.istore 4, 2) := by decide +kernel
theorem dX0_build_96 : decode cX0_build 96 = .ok (.iload 4, 2) := by decide +kernel
theorem dX0_build_98 : decode cX0_build 98 = .ok (.iconst 3, 1) := by decide +kernel
theorem dX0_build_99 : decode cX0_build 99 = .ok (.if_icmp .ge 41, 3) := by decide +kernel
theorem dX0_build_102 : decode cX0_build 102 = .ok (.iload_n 2, 1) := by decide +kernel
theorem dX0_build_103 : decode cX0_build 103 = .ok (.iconst 3, 1) := by decide +kernel
theorem dX0_build_104 : decode cX0_build 104 = .ok (.imul, 1) := by decide +kernel
theorem dX0_build_105 : decode cX0_build 105 = .ok (.iload 4, 2) := by decide +kernel
theorem dX0_build_107 : decode cX0_build 107 = .ok (.iadd, 1) := by decide +kernel
theorem dX0_build_108 : decode cX0_build 108 = .ok (.istore 5, 2) := by decide +kernel
theorem dX0_build_110 : decode cX0_build 110 = .ok (.aload_n 0, 1) := by decide +kernel
theorem dX0_build_111 : decode cX0_build 111 = .ok (.getfield 25, 3) := by decide +kernel
theorem dX0_build_114 : decode cX0_build 114 = .ok (.iload 5, 2) := by decide +kernel
theorem dX0_build_116 : decode cX0_build 116 = .ok (.aload_n 0, 1) := by decide +kernel
theorem dX0_build_117 : decode cX0_build 117 = .ok (.iload_n 3, 1) := by decide +kernel
theorem dX0_build_118 : decode cX0_build 118 = .ok (.aload_n 0, 1) := by decide +kernel
theorem dX0_build_119 : decode cX0_build 119 = .ok (.getfield 12, 3) := by decide +kernel
theorem dX0_build_122 : decode cX0_build 122 = .ok (.iload 4, 2) := by decide +kernel
theorem dX0_build_124 : decode cX0_build 124 = .ok (.invokevirtual 67, 3) := by decide +kernel
theorem dX0_build_127 : decode cX0_build 127 = .ok (.iand, 1) := by decide +kernel
theorem dX0_build_128 : decode cX0_build 128 = .ok (.iload 5, 2) := by decide +kernel
theorem dX0_build_130 : decode cX0_build 130 = .ok (.invokevirtual 70, 3) := by decide +kernel
theorem dX0_build_133 : decode cX0_build 133 = .ok (.iastore, 1) := by decide +kernel
theorem dX0_build_134 : decode cX0_build 134 = .ok (.iinc 4 1, 3) := by decide +kernel
theorem dX0_build_137 : decode cX0_build 137 = .ok (.goto (-41), 3) := by decide +kernel
theorem dX0_build_140 : decode cX0_build 140 = .ok (.iinc 2 1, 3) := by decide +kernel
theorem dX0_build_143 : decode cX0_build 143 = .ok (.goto (-93), 3) := by decide +kernel
theorem dX0_build_146 : decode cX0_build 146 = .ok (.return_, 1) := by decide +kernel
theorem dX0_size_0 : decode cX0_size 0 = .ok (.aload_n 0, 1) := by decide +kernel
theorem dX0_size_1 : decode cX0_size 1 = .ok (.getfield 41, 3) := by decide +kernel
theorem dX0_size_4 : decode cX0_size 4 = .ok (.ireturn, 1) := by decide +kernel
theorem dX0_acceptingSize_0 : decode cX0_acceptingSize 0 = .ok (.iconst 0, 1) := by decide +kernel
theorem dX0_acceptingSize_1 : decode cX0_acceptingSize 1 = .ok (.istore_n 1, 1) := by decide +kernel
theorem dX0_acceptingSize_2 : decode cX0_acceptingSize 2 = .ok (.iconst 0, 1) := by decide +kernel
theorem dX0_acceptingSize_3 : decode cX0_acceptingSize 3 = .ok (.istore_n 2, 1) := by decide +kernel
theorem dX0_acceptingSize_4 : decode cX0_acceptingSize 4 = .ok (.iload_n 2, 1) := by decide +kernel
theorem dX0_acceptingSize_5 : decode cX0_acceptingSize 5 = .ok (.aload_n 0, 1) := by decide +kernel
theorem dX0_acceptingSize_6 : decode cX0_acceptingSize 6 = .ok (.getfield 41, 3) := by decide +kernel
theorem dX0_acceptingSize_9 : decode cX0_acceptingSize 9 = .ok (.if_icmp .ge 33, 3) := by decide +kernel
theorem dX0_acceptingSize_12 : decode cX0_acceptingSize 12 = .ok (.iload_n 2, 1) := by decide +kernel
theorem dX0_acceptingSize_13 : decode cX0_acceptingSize 13 = .ok (.sipush 129, 3) := by decide +kernel
theorem dX0_acceptingSize_16 : decode cX0_acceptingSize 16 = .ok (.if_icmp .ge 26, 3) := by decide +kernel
theorem dX0_acceptingSize_19 : decode cX0_acceptingSize 19 = .ok (.iload_n 1, 1) := by decide +kernel
theorem dX0_acceptingSize_20 : decode cX0_acceptingSize 20 = .ok (.aload_n 0, 1) := by decide +kernel
theorem dX0_acceptingSize_21 : decode cX0_acceptingSize 21 = .ok (.getfield 28, 3) := by decide +kernel
theorem dX0_acceptingSize_24 : decode cX0_acceptingSize 24 = .ok (.iload_n 2, 1) := by decide +kernel
theorem dX0_acceptingSize_25 : decode cX0_acceptingSize 25 = .ok (.baload, 1) := by decide +kernel
theorem dX0_acceptingSize_26 : decode cX0_acceptingSize 26 = .ok (.ifCond .eq 7, 3) := by decide +kernel
theorem dX0_acceptingSize_29 : decode cX0_acceptingSize 29 = .ok (.iconst 1, 1) := by decide +kernel
theorem dX0_acceptingSize_30 : decode cX0_acceptingSize 30 = .ok (.goto 4, 3) := by decide +kernel
theorem dX0_acceptingSize_33 : decode cX0_acceptingSize 33 = .ok (.iconst 0, 1) := by decide +kernel
theorem dX0_acceptingSize_34 : decode cX0_acceptingSize 34 = .ok (.iadd, 1) := by decide +kernel
theorem dX0_acceptingSize_35 : decode cX0_acceptingSize 35 = .ok (.istore_n 1, 1) := by decide +kernel
theorem dX0_acceptingSize_36 : decode cX0_acceptingSize 36 = .ok (.iinc 2 1, 3) := by decide +kernel
theorem dX0_acceptingSize_39 : decode cX0_acceptingSize 39 = .ok (.goto (-35), 3) := by decide +kernel
theorem dX0_acceptingSize_42 : decode cX0_acceptingSize 42 = .ok (.iload_n 1, 1) := by decide +kernel
theorem dX0_acceptingSize_43 : decode cX0_acceptingSize 43 = .ok (.ireturn, 1) := by decide +kernel
theorem dX0_step_0 : decode cX0_step 0 = .ok (.iload_n 1, 1) := by decide +kernel
theorem dX0_step_1 : decode cX0_step 1 = .ok (.iconst 3, 1) := by decide +kernel
theorem dX0_step_2 : decode cX0_step 2 = .ok (.imul, 1) := by decide +kernel
theorem dX0_step_3 : decode cX0_step 3 = .ok (.iload_n 2, 1) := by decide +kernel
theorem dX0_step_4 : decode cX0_step 4 = .ok (.iadd, 1) := by decide +kernel
theorem dX0_step_5 : decode cX0_step 5 = .ok (.istore_n 3, 1) := by decide +kernel
theorem dX0_step_6 : decode cX0_step 6 = .ok (.iload_n 3, 1) := by decide +kernel
theorem dX0_step_7 : decode cX0_step 7 = .ok (.ifCond .lt 12, 3) := by decide +kernel
theorem dX0_step_10 : decode cX0_step 10 = .ok (.iload_n 3, 1) := by decide +kernel
theorem dX0_step_11 : decode cX0_step 11 = .ok (.aload_n 0, 1) := by decide +kernel
theorem dX0_step_12 : decode cX0_step 12 = .ok (.getfield 25, 3) := by decide +kernel
theorem dX0_step_15 : decode cX0_step 15 = .ok (.arraylength, 1) := by decide +kernel
theorem dX0_step_16 : decode cX0_step 16 = .ok (.if_icmp .lt 7, 3) := by decide +kernel
theorem dX0_step_19 : decode cX0_step 19 = .ok (.iconst 0, 1) := by decide +kernel
theorem dX0_step_20 : decode cX0_step 20 = .ok (.goto 9, 3) := by decide +kernel
theorem dX0_step_23 : decode cX0_step 23 = .ok (.aload_n 0, 1) := by decide +kernel
theorem dX0_step_24 : decode cX0_step 24 = .ok (.getfield 25, 3) := by decide +kernel
theorem dX0_step_27 : decode cX0_step 27 = .ok (.iload_n 3, 1) := by decide +kernel
theorem dX0_step_28 : decode cX0_step 28 = .ok (.iaload, 1) := by decide +kernel
theorem dX0_step_29 : decode cX0_step 29 = .ok (.ireturn, 1) := by decide +kernel
theorem dX0_isAccepting_0 : decode cX0_isAccepting 0 = .ok (.iload_n 1, 1) := by decide +kernel
theorem dX0_isAccepting_1 : decode cX0_isAccepting 1 = .ok (.ifCond .lt 23, 3) := by decide +kernel
theorem dX0_isAccepting_4 : decode cX0_isAccepting 4 = .ok (.iload_n 1, 1) := by decide +kernel
theorem dX0_isAccepting_5 : decode cX0_isAccepting 5 = .ok (.sipush 129, 3) := by decide +kernel
theorem dX0_isAccepting_8 : decode cX0_isAccepting 8 = .ok (.if_icmp .ge 16, 3) := by decide +kernel
theorem dX0_isAccepting_11 : decode cX0_isAccepting 11 = .ok (.aload_n 0, 1) := by decide +kernel
theorem dX0_isAccepting_12 : decode cX0_isAccepting 12 = .ok (.getfield 28, 3) := by decide +kernel
theorem dX0_isAccepting_15 : decode cX0_isAccepting 15 = .ok (.iload_n 1, 1) := by decide +kernel
theorem dX0_isAccepting_16 : decode cX0_isAccepting 16 = .ok (.baload, 1) := by decide +kernel
theorem dX0_isAccepting_17 : decode cX0_isAccepting 17 = .ok (.ifCond .eq 7, 3) := by decide +kernel
theorem dX0_isAccepting_20 : decode cX0_isAccepting 20 = .ok (.iconst 1, 1) := by decide +kernel
theorem dX0_isAccepting_21 : decode cX0_isAccepting 21 = .ok (.goto 4, 3) := by decide +kernel
theorem dX0_isAccepting_24 : decode cX0_isAccepting 24 = .ok (.iconst 0, 1) := by decide +kernel
theorem dX0_isAccepting_25 : decode cX0_isAccepting 25 = .ok (.ireturn, 1) := by decide +kernel
theorem dX0_accepts_0 : decode cX0_accepts 0 = .ok (.aload_n 1, 1) := by decide +kernel
theorem dX0_accepts_1 : decode cX0_accepts 1 = .ok (.ifnonnull 5, 3) := by decide +kernel
theorem dX0_accepts_4 : decode cX0_accepts 4 = .ok (.iconst 0, 1) := by decide +kernel
theorem dX0_accepts_5 : decode cX0_accepts 5 = .ok (.ireturn, 1) := by decide +kernel
theorem dX0_accepts_6 : decode cX0_accepts 6 = .ok (.iconst 0, 1) := by decide +kernel
theorem dX0_accepts_7 : decode cX0_accepts 7 = .ok (.istore_n 2, 1) := by decide +kernel
theorem dX0_accepts_8 : decode cX0_accepts 8 = .ok (.iconst 0, 1) := by decide +kernel
theorem dX0_accepts_9 : decode cX0_accepts 9 = .ok (.istore_n 3, 1) := by decide +kernel
theorem dX0_accepts_10 : decode cX0_accepts 10 = .ok (.iload_n 3, 1) := by decide +kernel
theorem dX0_accepts_11 : decode cX0_accepts 11 = .ok (.aload_n 1, 1) := by decide +kernel
theorem dX0_accepts_12 : decode cX0_accepts 12 = .ok (.invokevirtual 74, 3) := by decide +kernel
theorem dX0_accepts_15 : decode cX0_accepts 15 = .ok (.if_icmp .ge 20, 3) := by decide +kernel
theorem dX0_accepts_18 : decode cX0_accepts 18 = .ok (.aload_n 0, 1) := by decide +kernel
theorem dX0_accepts_19 : decode cX0_accepts 19 = .ok (.iload_n 2, 1) := by decide +kernel
theorem dX0_accepts_20 : decode cX0_accepts 20 = .ok (.aload_n 1, 1) := by decide +kernel
theorem dX0_accepts_21 : decode cX0_accepts 21 = .ok (.iload_n 3, 1) := by decide +kernel
theorem dX0_accepts_22 : decode cX0_accepts 22 = .ok (.invokevirtual 78, 3) := by decide +kernel
theorem dX0_accepts_25 : decode cX0_accepts 25 = .ok (.invokevirtual 81, 3) := by decide +kernel
theorem dX0_accepts_28 : decode cX0_accepts 28 = .ok (.istore_n 2, 1) := by decide +kernel
theorem dX0_accepts_29 : decode cX0_accepts 29 = .ok (.iinc 3 1, 3) := by decide +kernel
theorem dX0_accepts_32 : decode cX0_accepts 32 = .ok (.goto (-22), 3) := by decide +kernel
theorem dX0_accepts_35 : decode cX0_accepts 35 = .ok (.aload_n 0, 1) := by decide +kernel
theorem dX0_accepts_36 : decode cX0_accepts 36 = .ok (.iload_n 2, 1) := by decide +kernel
theorem dX0_accepts_37 : decode cX0_accepts 37 = .ok (.invokevirtual 84, 3) := by decide +kernel
theorem dX0_accepts_40 : decode cX0_accepts 40 = .ok (.ireturn, 1) := by decide +kernel
theorem dX0_longestAcceptedPrefix_0 : decode cX0_longestAcceptedPrefix 0 = .ok (.iconst 0, 1) := by decide +kernel
theorem dX0_longestAcceptedPrefix_1 : decode cX0_longestAcceptedPrefix 1 = .ok (.istore_n 2, 1) := by decide +kernel
theorem dX0_longestAcceptedPrefix_2 : decode cX0_longestAcceptedPrefix 2 = .ok (.aload_n 0, 1) := by decide +kernel
theorem dX0_longestAcceptedPrefix_3 : decode cX0_longestAcceptedPrefix 3 = .ok (.iconst 0, 1) := by decide +kernel
theorem dX0_longestAcceptedPrefix_4 : decode cX0_longestAcceptedPrefix 4 = .ok (.invokevirtual 84, 3) := by decide +kernel
theorem dX0_longestAcceptedPrefix_7 : decode cX0_longestAcceptedPrefix 7 = .ok (.ifCond .eq 7, 3) := by decide +kernel
theorem dX0_longestAcceptedPrefix_10 : decode cX0_longestAcceptedPrefix 10 = .ok (.iconst 0, 1) := by decide +kernel
theorem dX0_longestAcceptedPrefix_11 : decode cX0_longestAcceptedPrefix 11 = .ok (.goto 4, 3) := by decide +kernel
theorem dX0_longestAcceptedPrefix_14 : decode cX0_longestAcceptedPrefix 14 = .ok (.iconst (-1), 1) := by decide +kernel
theorem dX0_longestAcceptedPrefix_15 : decode cX0_longestAcceptedPrefix 15 = .ok (.istore_n 3, 1) := by decide +kernel
theorem dX0_longestAcceptedPrefix_16 : decode cX0_longestAcceptedPrefix 16 = .ok (.iconst 0, 1) := by decide +kernel
theorem dX0_longestAcceptedPrefix_17 : decode cX0_longestAcceptedPrefix 17 = .ok (.istore 4, 2) := by decide +kernel
theorem dX0_longestAcceptedPrefix_19 : decode cX0_longestAcceptedPrefix 19 = .ok (.iload 4, 2) := by decide +kernel
theorem dX0_longestAcceptedPrefix_21 : decode cX0_longestAcceptedPrefix 21 = .ok (.aload_n 1, 1) := by decide +kernel
theorem dX0_longestAcceptedPrefix_22 : decode cX0_longestAcceptedPrefix 22 = .ok (.invokevirtual 74, 3) := by decide +kernel
theorem dX0_longestAcceptedPrefix_25 : decode cX0_longestAcceptedPrefix 25 = .ok (.if_icmp .ge 38, 3) := by decide +kernel
theorem dX0_longestAcceptedPrefix_28 : decode cX0_longestAcceptedPrefix 28 = .ok (.aload_n 0, 1) := by decide +kernel
theorem dX0_longestAcceptedPrefix_29 : decode cX0_longestAcceptedPrefix 29 = .ok (.iload_n 2, 1) := by decide +kernel
theorem dX0_longestAcceptedPrefix_30 : decode cX0_longestAcceptedPrefix 30 = .ok (.aload_n 1, 1) := by decide +kernel
theorem dX0_longestAcceptedPrefix_31 : decode cX0_longestAcceptedPrefix 31 = .ok (.iload 4, 2) := by decide +kernel
theorem dX0_longestAcceptedPrefix_33 : decode cX0_longestAcceptedPrefix 33 = .ok (.invokevirtual 78, 3) := by decide +kernel
theorem dX0_longestAcceptedPrefix_36 : decode cX0_longestAcceptedPrefix 36 = .ok (.invokevirtual 81, 3) := by decide +kernel
theorem dX0_longestAcceptedPrefix_39 : decode cX0_longestAcceptedPrefix 39 = .ok (.istore_n 2, 1) := by decide +kernel
theorem dX0_longestAcceptedPrefix_40 : decode cX0_longestAcceptedPrefix 40 = .ok (.aload_n 0, 1) := by decide +kernel
theorem dX0_longestAcceptedPrefix_41 : decode cX0_longestAcceptedPrefix 41 = .ok (.iload_n 2, 1) := by decide +kernel
theorem dX0_longestAcceptedPrefix_42 : decode cX0_longestAcceptedPrefix 42 = .ok (.invokevirtual 84, 3) := by decide +kernel
theorem dX0_longestAcceptedPrefix_45 : decode cX0_longestAcceptedPrefix 45 = .ok (.ifCond .eq 10, 3) := by decide +kernel
theorem dX0_longestAcceptedPrefix_48 : decode cX0_longestAcceptedPrefix 48 = .ok (.iload 4, 2) := by decide +kernel
theorem dX0_longestAcceptedPrefix_50 : decode cX0_longestAcceptedPrefix 50 = .ok (.iconst 1, 1) := by decide +kernel
theorem dX0_longestAcceptedPrefix_51 : decode cX0_longestAcceptedPrefix 51 = .ok (.iadd, 1) := by decide +kernel
theorem dX0_longestAcceptedPrefix_52 : decode cX0_longestAcceptedPrefix 52 = .ok (.goto 4, 3) := by decide +kernel
theorem dX0_longestAcceptedPrefix_55 : decode cX0_longestAcceptedPrefix 55 = .ok (.iload_n 3, 1) := by decide +kernel
theorem dX0_longestAcceptedPrefix_56 : decode cX0_longestAcceptedPrefix 56 = .ok (.istore_n 3, 1) := by decide +kernel
theorem dX0_longestAcceptedPrefix_57 : decode cX0_longestAcceptedPrefix 57 = .ok (.iinc 4 1, 3) := by decide +kernel
theorem dX0_longestAcceptedPrefix_60 : decode cX0_longestAcceptedPrefix 60 = .ok (.goto (-41), 3) := by decide +kernel
theorem dX0_longestAcceptedPrefix_63 : decode cX0_longestAcceptedPrefix 63 = .ok (.iload_n 3, 1) := by decide +kernel
theorem dX0_longestAcceptedPrefix_64 : decode cX0_longestAcceptedPrefix 64 = .ok (.ireturn, 1) := by decide +kernel
theorem dX0_countByStates_0 : decode cX0_countByStates 0 = .ok (.aload_n 0, 1) := by decide +kernel
theorem dX0_countByStates_1 : decode cX0_countByStates 1 = .ok (.getfield 35, 3) := by decide +kernel
theorem dX0_countByStates_4 : decode cX0_countByStates 4 = .ok (.iconst 0, 1) := by decide +kernel
theorem dX0_countByStates_5 : decode cX0_countByStates 5 = .ok (.invokestatic 49, 3) := by decide +kernel
theorem dX0_countByStates_8 : decode cX0_countByStates 8 = .ok (.aload_n 0, 1) := by decide +kernel
theorem dX0_countByStates_9 : decode cX0_countByStates 9 = .ok (.getfield 35, 3) := by decide +kernel
theorem dX0_countByStates_12 : decode cX0_countByStates 12 = .ok (.iconst 0, 1) := by decide +kernel
theorem dX0_countByStates_13 : decode cX0_countByStates 13 = .ok (.iconst 1, 1) := by decide +kernel
theorem dX0_countByStates_14 : decode cX0_countByStates 14 = .ok (.iastore, 1) := by decide +kernel
theorem dX0_countByStates_15 : decode cX0_countByStates 15 = .ok (.iconst 0, 1) := by decide +kernel
theorem dX0_countByStates_16 : decode cX0_countByStates 16 = .ok (.istore_n 2, 1) := by decide +kernel
theorem dX0_countByStates_17 : decode cX0_countByStates 17 = .ok (.iload_n 2, 1) := by decide +kernel
theorem dX0_countByStates_18 : decode cX0_countByStates 18 = .ok (.iload_n 1, 1) := by decide +kernel
theorem dX0_countByStates_19 : decode cX0_countByStates 19 = .ok (.if_icmp .ge 13, 3) := by decide +kernel
theorem dX0_countByStates_22 : decode cX0_countByStates 22 = .ok (.aload_n 0, 1) := by decide +kernel
theorem dX0_countByStates_23 : decode cX0_countByStates 23 = .ok (.invokevirtual 88, 3) := by decide +kernel
theorem dX0_countByStates_26 : decode cX0_countByStates 26 = .ok (.iinc 2 1, 3) := by decide +kernel
theorem dX0_countByStates_29 : decode cX0_countByStates 29 = .ok (.goto (-12), 3) := by decide +kernel
theorem dX0_countByStates_32 : decode cX0_countByStates 32 = .ok (.iconst 0, 1) := by decide +kernel
theorem dX0_countByStates_33 : decode cX0_countByStates 33 = .ok (.istore_n 2, 1) := by decide +kernel
theorem dX0_countByStates_34 : decode cX0_countByStates 34 = .ok (.iconst 0, 1) := by decide +kernel
theorem dX0_countByStates_35 : decode cX0_countByStates 35 = .ok (.istore_n 3, 1) := by decide +kernel
theorem dX0_countByStates_36 : decode cX0_countByStates 36 = .ok (.iload_n 3, 1) := by decide +kernel
theorem dX0_countByStates_37 : decode cX0_countByStates 37 = .ok (.aload_n 0, 1) := by decide +kernel
theorem dX0_countByStates_38 : decode cX0_countByStates 38 = .ok (.getfield 41, 3) := by decide +kernel
theorem dX0_countByStates_41 : decode cX0_countByStates 41 = .ok (.if_icmp .ge 38, 3) := by decide +kernel
theorem dX0_countByStates_44 : decode cX0_countByStates 44 = .ok (.iload_n 3, 1) := by decide +kernel
theorem dX0_countByStates_45 : decode cX0_countByStates 45 = .ok (.sipush 129, 3) := by decide +kernel
theorem dX0_countByStates_48 : decode cX0_countByStates 48 = .ok (.if_icmp .ge 31, 3) := by decide +kernel
theorem dX0_countByStates_51 : decode cX0_countByStates 51 = .ok (.iload_n 2, 1) := by decide +kernel
theorem dX0_countByStates_52 : decode cX0_countByStates 52 = .ok (.aload_n 0, 1) := by decide +kernel
theorem dX0_countByStates_53 : decode cX0_countByStates 53 = .ok (.getfield 28, 3) := by decide +kernel
theorem dX0_countByStates_56 : decode cX0_countByStates 56 = .ok (.iload_n 3, 1) := by decide +kernel
theorem dX0_countByStates_57 : decode cX0_countByStates 57 = .ok (.baload, 1) := by decide +kernel
theorem dX0_countByStates_58 : decode cX0_countByStates 58 = .ok (.ifCond .eq 12, 3) := by decide +kernel
theorem dX0_countByStates_61 : decode cX0_countByStates 61 = .ok (.aload_n 0, 1) := by decide +kernel
theorem dX0_countByStates_62 : decode cX0_countByStates 62 = .ok (.getfield 35, 3) := by decide +kernel
theorem dX0_countByStates_65 : decode cX0_countByStates 65 = .ok (.iload_n 3, 1) := by decide +kernel
theorem dX0_countByStates_66 : decode cX0_countByStates 66 = .ok (.iaload, 1) := by decide +kernel
theorem dX0_countByStates_67 : decode cX0_countByStates 67 = .ok (.goto 4, 3) := by decide +kernel
theorem dX0_countByStates_70 : decode cX0_countByStates 70 = .ok (.iconst 0, 1) := by decide +kernel
theorem dX0_countByStates_71 : decode cX0_countByStates 71 = .ok (.iadd, 1) := by decide +kernel
theorem dX0_countByStates_72 : decode cX0_countByStates 72 = .ok (.istore_n 2, 1) := by decide +kernel
theorem dX0_countByStates_73 : decode cX0_countByStates 73 = .ok (.iinc 3 1, 3) := by decide +kernel
theorem dX0_countByStates_76 : decode cX0_countByStates 76 = .ok (.goto (-40), 3) := by decide +kernel
theorem dX0_countByStates_79 : decode cX0_countByStates 79 = .ok (.iload_n 2, 1) := by decide +kernel
theorem dX0_countByStates_80 : decode cX0_countByStates 80 = .ok (.ireturn, 1) := by decide +kernel
theorem dX0_countByListing_0 : decode cX0_countByListing 0 = .ok (.iconst 1, 1) := by decide +kernel
theorem dX0_countByListing_1 : decode cX0_countByListing 1 = .ok (.istore_n 2, 1) := by decide +kernel
theorem dX0_countByListing_2 : decode cX0_countByListing 2 = .ok (.iconst 0, 1) := by decide +kernel
theorem dX0_countByListing_3 : decode cX0_countByListing 3 = .ok (.istore_n 3, 1) := by decide +kernel
theorem dX0_countByListing_4 : decode cX0_countByListing 4 = .ok (.iload_n 3, 1) := by decide +kernel
theorem dX0_countByListing_5 : decode cX0_countByListing 5 = .ok (.iload_n 1, 1) := by decide +kernel
theorem dX0_countByListing_6 : decode cX0_countByListing 6 = .ok (.if_icmp .ge 19, 3) := by decide +kernel
theorem dX0_countByListing_9 : decode cX0_countByListing 9 = .ok (.iload_n 3, 1) := by decide +kernel
theorem dX0_countByListing_10 : decode cX0_countByListing 10 = .ok (.bipush 6, 2) := by decide +kernel
theorem dX0_countByListing_12 : decode cX0_countByListing 12 = .ok (.if_icmp .ge 13, 3) := by decide +kernel
theorem dX0_countByListing_15 : decode cX0_countByListing 15 = .ok (.iload_n 2, 1) := by decide +kernel
theorem dX0_countByListing_16 : decode cX0_countByListing 16 = .ok (.iconst 3, 1) := by decide +kernel
theorem dX0_countByListing_17 : decode cX0_countByListing 17 = .ok (.imul, 1) := by decide +kernel
theorem dX0_countByListing_18 : decode cX0_countByListing 18 = .ok (.istore_n 2, 1) := by decide +kernel
theorem dX0_countByListing_19 : decode cX0_countByListing 19 = .ok (.iinc 3 1, 3) := by decide +kernel
theorem dX0_countByListing_22 : decode cX0_countByListing 22 = .ok (.goto (-18), 3) := by decide +kernel
theorem dX0_countByListing_25 : decode cX0_countByListing 25 = .ok (.iconst 0, 1) := by decide +kernel
theorem dX0_countByListing_26 : decode cX0_countByListing 26 = .ok (.istore_n 3, 1) := by decide +kernel
theorem dX0_countByListing_27 : decode cX0_countByListing 27 = .ok (.iconst 0, 1) := by decide +kernel
theorem dX0_countByListing_28 : decode cX0_countByListing 28 = .ok (.istore 4, 2) := by decide +kernel
theorem dX0_countByListing_30 : decode cX0_countByListing 30 = .ok (.iload 4, 2) := by decide +kernel
theorem dX0_countByListing_32 : decode cX0_countByListing 32 = .ok (.iload_n 2, 1) := by decide +kernel
theorem dX0_countByListing_33 : decode cX0_countByListing 33 = .ok (.if_icmp .ge 27, 3) := by decide +kernel
theorem dX0_countByListing_36 : decode cX0_countByListing 36 = .ok (.iload_n 3, 1) := by decide +kernel
theorem dX0_countByListing_37 : decode cX0_countByListing 37 = .ok (.aload_n 0, 1) := by decide +kernel
theorem dX0_countByListing_38 : decode cX0_countByListing 38 = .ok (.iload 4, 2) := by decide +kernel
theorem dX0_countByListing_40 : decode cX0_countByListing 40 = .ok (.iload_n 1, 1) := by decide +kernel
theorem dX0_countByListing_41 : decode cX0_countByListing 41 = .ok (.invokevirtual 91, 3) := by decide +kernel
theorem dX0_countByListing_44 : decode cX0_countByListing 44 = .ok (.ifCond .eq 7, 3) := by decide +kernel
theorem dX0_countByListing_47 : decode cX0_countByListing 47 = .ok (.iconst 1, 1) := by decide +kernel
theorem dX0_countByListing_48 : decode cX0_countByListing 48 = .ok (.goto 4, 3) := by decide +kernel
theorem dX0_countByListing_51 : decode cX0_countByListing 51 = .ok (.iconst 0, 1) := by decide +kernel
theorem dX0_countByListing_52 : decode cX0_countByListing 52 = .ok (.iadd, 1) := by decide +kernel
theorem dX0_countByListing_53 : decode cX0_countByListing 53 = .ok (.istore_n 3, 1) := by decide +kernel
theorem dX0_countByListing_54 : decode cX0_countByListing 54 = .ok (.iinc 4 1, 3) := by decide +kernel
theorem dX0_countByListing_57 : decode cX0_countByListing 57 = .ok (.goto (-27), 3) := by decide +kernel
theorem dX0_countByListing_60 : decode cX0_countByListing 60 = .ok (.iload_n 3, 1) := by decide +kernel
theorem dX0_countByListing_61 : decode cX0_countByListing 61 = .ok (.ireturn, 1) := by decide +kernel
theorem dX0_shortestAccepted_0 : decode cX0_shortestAccepted 0 = .ok (.iconst 0, 1) := by decide +kernel
theorem dX0_shortestAccepted_1 : decode cX0_shortestAccepted 1 = .ok (.istore_n 1, 1) := by decide +kernel
theorem dX0_shortestAccepted_2 : decode cX0_shortestAccepted 2 = .ok (.aload_n 0, 1) := by decide +kernel
theorem dX0_shortestAccepted_3 : decode cX0_shortestAccepted 3 = .ok (.invokevirtual 95, 3) := by decide +kernel
theorem dX0_shortestAccepted_6 : decode cX0_shortestAccepted 6 = .ok (.istore_n 2, 1) := by decide +kernel
theorem dX0_shortestAccepted_7 : decode cX0_shortestAccepted 7 = .ok (.iload_n 2, 1) := by decide +kernel
theorem dX0_shortestAccepted_8 : decode cX0_shortestAccepted 8 = .ok (.ifCond .le 32, 3) := by decide +kernel
theorem dX0_shortestAccepted_11 : decode cX0_shortestAccepted 11 = .ok (.iload_n 2, 1) := by decide +kernel
theorem dX0_shortestAccepted_12 : decode cX0_shortestAccepted 12 = .ok (.sipush 129, 3) := by decide +kernel
theorem dX0_shortestAccepted_15 : decode cX0_shortestAccepted 15 = .ok (.if_icmp .ge 25, 3) := by decide +kernel
theorem dX0_shortestAccepted_18 : decode cX0_shortestAccepted 18 = .ok (.iload_n 1, 1) := by decide +kernel
theorem dX0_shortestAccepted_19 : decode cX0_shortestAccepted 19 = .ok (.sipush 129, 3) := by decide +kernel
theorem dX0_shortestAccepted_22 : decode cX0_shortestAccepted 22 = .ok (.if_icmp .ge 18, 3) := by decide +kernel
theorem dX0_shortestAccepted_25 : decode cX0_shortestAccepted 25 = .ok (.aload_n 0, 1) := by decide +kernel
theorem dX0_shortestAccepted_26 : decode cX0_shortestAccepted 26 = .ok (.getfield 32, 3) := by decide +kernel
theorem dX0_shortestAccepted_29 : decode cX0_shortestAccepted 29 = .ok (.iload_n 2, 1) := by decide +kernel
theorem dX0_shortestAccepted_30 : decode cX0_shortestAccepted 30 = .ok (.iaload, 1) := by decide +kernel
theorem dX0_shortestAccepted_31 : decode cX0_shortestAccepted 31 = .ok (.iconst 3, 1) := by decide +kernel
theorem dX0_shortestAccepted_32 : decode cX0_shortestAccepted 32 = .ok (.idiv, 1) := by decide +kernel
theorem dX0_shortestAccepted_33 : decode cX0_shortestAccepted 33 = .ok (.istore_n 2, 1) := by decide +kernel
theorem dX0_shortestAccepted_34 : decode cX0_shortestAccepted 34 = .ok (.iinc 1 1, 3) := by decide +kernel
theorem dX0_shortestAccepted_37 : decode cX0_shortestAccepted 37 = .ok (.goto (-30), 3) := by decide +kernel
theorem dX0_shortestAccepted_40 : decode cX0_shortestAccepted 40 = .ok (.iload_n 2, 1) := by decide +kernel
theorem dX0_shortestAccepted_41 : decode cX0_shortestAccepted 41 = .ok (.ifCond .ge 7, 3) := by decide +kernel
theorem dX0_shortestAccepted_44 : decode cX0_shortestAccepted 44 = .ok (.iconst (-1), 1) := by decide +kernel
theorem dX0_shortestAccepted_45 : decode cX0_shortestAccepted 45 = .ok (.goto 4, 3) := by decide +kernel
theorem dX0_shortestAccepted_48 : decode cX0_shortestAccepted 48 = .ok (.iload_n 1, 1) := by decide +kernel
theorem dX0_shortestAccepted_49 : decode cX0_shortestAccepted 49 = .ok (.ireturn, 1) := by decide +kernel
theorem dX0_writeShortest_0 : decode cX0_writeShortest 0 = .ok (.aload_n 1, 1) := by decide +kernel
theorem dX0_writeShortest_1 : decode cX0_writeShortest 1 = .ok (.iconst 0, 1) := by decide +kernel
theorem dX0_writeShortest_2 : decode cX0_writeShortest 2 = .ok (.invokevirtual 98, 3) := by decide +kernel
theorem dX0_writeShortest_5 : decode cX0_writeShortest 5 = .ok (.aload_n 0, 1) := by decide +kernel
theorem dX0_writeShortest_6 : decode cX0_writeShortest 6 = .ok (.invokevirtual 95, 3) := by decide +kernel
theorem dX0_writeShortest_9 : decode cX0_writeShortest 9 = .ok (.istore_n 2, 1) := by decide +kernel
theorem dX0_writeShortest_10 : decode cX0_writeShortest 10 = .ok (.iload_n 2, 1) := by decide +kernel
theorem dX0_writeShortest_11 : decode cX0_writeShortest 11 = .ok (.ifCond .le 49, 3) := by decide +kernel
theorem dX0_writeShortest_14 : decode cX0_writeShortest 14 = .ok (.iload_n 2, 1) := by decide +kernel
theorem dX0_writeShortest_15 : decode cX0_writeShortest 15 = .ok (.sipush 129, 3) := by decide +kernel
theorem dX0_writeShortest_18 : decode cX0_writeShortest 18 = .ok (.if_icmp .ge 42, 3) := by decide +kernel
theorem dX0_writeShortest_21 : decode cX0_writeShortest 21 = .ok (.aload_n 1, 1) := by decide +kernel
theorem dX0_writeShortest_22 : decode cX0_writeShortest 22 = .ok (.invokevirtual 104, 3) := by decide +kernel
theorem dX0_writeShortest_25 : decode cX0_writeShortest 25 = .ok (.sipush 129, 3) := by decide +kernel
theorem dX0_writeShortest_28 : decode cX0_writeShortest 28 = .ok (.if_icmp .ge 32, 3) := by decide +kernel
theorem dX0_writeShortest_31 : decode cX0_writeShortest 31 = .ok (.aload_n 1, 1) := by decide +kernel
theorem dX0_writeShortest_32 : decode cX0_writeShortest 32 = .ok (.bipush 97, 2) := by decide +kernel
theorem dX0_writeShortest_34 : decode cX0_writeShortest 34 = .ok (.aload_n 0, 1) := by decide +kernel
theorem dX0_writeShortest_35 : decode cX0_writeShortest 35 = .ok (.getfield 32, 3) := by decide +kernel
theorem dX0_writeShortest_38 : decode cX0_writeShortest 38 = .ok (.iload_n 2, 1) := by decide +kernel
theorem dX0_writeShortest_39 : decode cX0_writeShortest 39 = .ok (.iaload, 1) := by decide +kernel
theorem dX0_writeShortest_40 : decode cX0_writeShortest 40 = .ok (.iconst 3, 1) := by decide +kernel
theorem dX0_writeShortest_41 : decode cX0_writeShortest 41 = .ok (.irem, 1) := by decide +kernel
theorem dX0_writeShortest_42 : decode cX0_writeShortest 42 = .ok (.iadd, 1) := by decide +kernel
theorem dX0_writeShortest_43 : decode cX0_writeShortest 43 = .ok (.i2c, 1) := by decide +kernel
theorem dX0_writeShortest_44 : decode cX0_writeShortest 44 = .ok (.invokevirtual 107, 3) := by decide +kernel
theorem dX0_writeShortest_47 : decode cX0_writeShortest 47 = .ok (.pop, 1) := by decide +kernel
theorem dX0_writeShortest_48 : decode cX0_writeShortest 48 = .ok (.aload_n 0, 1) := by decide +kernel
theorem dX0_writeShortest_49 : decode cX0_writeShortest 49 = .ok (.getfield 32, 3) := by decide +kernel
theorem dX0_writeShortest_52 : decode cX0_writeShortest 52 = .ok (.iload_n 2, 1) := by decide +kernel
theorem dX0_writeShortest_53 : decode cX0_writeShortest 53 = .ok (.iaload, 1) := by decide +kernel
theorem dX0_writeShortest_54 : decode cX0_writeShortest 54 = .ok (.iconst 3, 1) := by decide +kernel
theorem dX0_writeShortest_55 : decode cX0_writeShortest 55 = .ok (.idiv, 1) := by decide +kernel
theorem dX0_writeShortest_56 : decode cX0_writeShortest 56 = .ok (.istore_n 2, 1) := by decide +kernel
theorem dX0_writeShortest_57 : decode cX0_writeShortest 57 = .ok (.goto (-47), 3) := by decide +kernel
theorem dX0_writeShortest_60 : decode cX0_writeShortest 60 = .ok (.aload_n 1, 1) := by decide +kernel
theorem dX0_writeShortest_61 : decode cX0_writeShortest 61 = .ok (.invokevirtual 111, 3) := by decide +kernel
theorem dX0_writeShortest_64 : decode cX0_writeShortest 64 = .ok (.pop, 1) := by decide +kernel
theorem dX0_writeShortest_65 : decode cX0_writeShortest 65 = .ok (.return_, 1) := by decide +kernel
theorem dX0_numberOf_0 : decode cX0_numberOf 0 = .ok (.iload_n 1, 1) := by decide +kernel
theorem dX0_numberOf_1 : decode cX0_numberOf 1 = .ok (.bipush 127, 2) := by decide +kernel
theorem dX0_numberOf_3 : decode cX0_numberOf 3 = .ok (.iand, 1) := by decide +kernel
theorem dX0_numberOf_4 : decode cX0_numberOf 4 = .ok (.istore_n 3, 1) := by decide +kernel
theorem dX0_numberOf_5 : decode cX0_numberOf 5 = .ok (.aload_n 0, 1) := by decide +kernel
theorem dX0_numberOf_6 : decode cX0_numberOf 6 = .ok (.getfield 22, 3) := by decide +kernel
theorem dX0_numberOf_9 : decode cX0_numberOf 9 = .ok (.iload_n 3, 1) := by decide +kernel
theorem dX0_numberOf_10 : decode cX0_numberOf 10 = .ok (.iaload, 1) := by decide +kernel
theorem dX0_numberOf_11 : decode cX0_numberOf 11 = .ok (.ifCond .ge 86, 3) := by decide +kernel
theorem dX0_numberOf_14 : decode cX0_numberOf 14 = .ok (.aload_n 0, 1) := by decide +kernel
theorem dX0_numberOf_15 : decode cX0_numberOf 15 = .ok (.getfield 41, 3) := by decide +kernel
theorem dX0_numberOf_18 : decode cX0_numberOf 18 = .ok (.ifCond .lt 79, 3) := by decide +kernel
theorem dX0_numberOf_21 : decode cX0_numberOf 21 = .ok (.aload_n 0, 1) := by decide +kernel
theorem dX0_numberOf_22 : decode cX0_numberOf 22 = .ok (.getfield 41, 3) := by decide +kernel
theorem dX0_numberOf_25 : decode cX0_numberOf 25 = .ok (.sipush 129, 3) := by decide +kernel
theorem dX0_numberOf_28 : decode cX0_numberOf 28 = .ok (.if_icmp .ge 69, 3) := by decide +kernel
theorem dX0_numberOf_31 : decode cX0_numberOf 31 = .ok (.aload_n 0, 1) := by decide +kernel
theorem dX0_numberOf_32 : decode cX0_numberOf 32 = .ok (.getfield 22, 3) := by decide +kernel
theorem dX0_numberOf_35 : decode cX0_numberOf 35 = .ok (.iload_n 3, 1) := by decide +kernel
theorem dX0_numberOf_36 : decode cX0_numberOf 36 = .ok (.aload_n 0, 1) := by decide +kernel
theorem dX0_numberOf_37 : decode cX0_numberOf 37 = .ok (.getfield 41, 3) := by decide +kernel
theorem dX0_numberOf_40 : decode cX0_numberOf 40 = .ok (.iastore, 1) := by decide +kernel
theorem dX0_numberOf_41 : decode cX0_numberOf 41 = .ok (.aload_n 0, 1) := by decide +kernel
theorem dX0_numberOf_42 : decode cX0_numberOf 42 = .ok (.getfield 18, 3) := by decide +kernel
theorem dX0_numberOf_45 : decode cX0_numberOf 45 = .ok (.aload_n 0, 1) := by decide +kernel
theorem dX0_numberOf_46 : decode cX0_numberOf 46 = .ok (.getfield 41, 3) := by decide +kernel
theorem dX0_numberOf_49 : decode cX0_numberOf 49 = .ok (.iload_n 3, 1) := by decide +kernel
theorem dX0_numberOf_50 : decode cX0_numberOf 50 = .ok (.iastore, 1) := by decide +kernel
theorem dX0_numberOf_51 : decode cX0_numberOf 51 = .ok (.aload_n 0, 1) := by decide +kernel
theorem dX0_numberOf_52 : decode cX0_numberOf 52 = .ok (.getfield 32, 3) := by decide +kernel
theorem dX0_numberOf_55 : decode cX0_numberOf 55 = .ok (.aload_n 0, 1) := by decide +kernel
theorem dX0_numberOf_56 : decode cX0_numberOf 56 = .ok (.getfield 41, 3) := by decide +kernel
theorem dX0_numberOf_59 : decode cX0_numberOf 59 = .ok (.iload_n 2, 1) := by decide +kernel
theorem dX0_numberOf_60 : decode cX0_numberOf 60 = .ok (.iastore, 1) := by decide +kernel
theorem dX0_numberOf_61 : decode cX0_numberOf 61 = .ok (.aload_n 0, 1) := by decide +kernel
theorem dX0_numberOf_62 : decode cX0_numberOf 62 = .ok (.getfield 28, 3) := by decide +kernel
theorem dX0_numberOf_65 : decode cX0_numberOf 65 = .ok (.aload_n 0, 1) := by decide +kernel
theorem dX0_numberOf_66 : decode cX0_numberOf 66 = .ok (.getfield 41, 3) := by decide +kernel
theorem dX0_numberOf_69 : decode cX0_numberOf 69 = .ok (.iload_n 3, 1) := by decide +kernel
theorem dX0_numberOf_70 : decode cX0_numberOf 70 = .ok (.aload_n 0, 1) := by decide +kernel
theorem dX0_numberOf_71 : decode cX0_numberOf 71 = .ok (.getfield 12, 3) := by decide +kernel
theorem dX0_numberOf_74 : decode cX0_numberOf 74 = .ok (.invokevirtual 115, 3) := by decide +kernel
theorem dX0_numberOf_77 : decode cX0_numberOf 77 = .ok (.iand, 1) := by decide +kernel
theorem dX0_numberOf_78 : decode cX0_numberOf 78 = .ok (.ifCond .eq 7, 3) := by decide +kernel
theorem dX0_numberOf_81 : decode cX0_numberOf 81 = .ok (.iconst 1, 1) := by decide +kernel
theorem dX0_numberOf_82 : decode cX0_numberOf 82 = .ok (.goto 4, 3) := by decide +kernel
theorem dX0_numberOf_85 : decode cX0_numberOf 85 = .ok (.iconst 0, 1) := by decide +kernel
theorem dX0_numberOf_86 : decode cX0_numberOf 86 = .ok (.bastore, 1) := by decide +kernel
theorem dX0_numberOf_87 : decode cX0_numberOf 87 = .ok (.aload_n 0, 1) := by decide +kernel
theorem dX0_numberOf_88 : decode cX0_numberOf 88 = .ok (.dup, 1) := by decide +kernel
theorem dX0_numberOf_89 : decode cX0_numberOf 89 = .ok (.getfield 41, 3) := by decide +kernel
theorem dX0_numberOf_92 : decode cX0_numberOf 92 = .ok (.iconst 1, 1) := by decide +kernel
theorem dX0_numberOf_93 : decode cX0_numberOf 93 = .ok (.iadd, 1) := by decide +kernel
theorem dX0_numberOf_94 : decode cX0_numberOf 94 = .ok (.putfield 41, 3) := by decide +kernel
theorem dX0_numberOf_97 : decode cX0_numberOf 97 = .ok (.aload_n 0, 1) := by decide +kernel
theorem dX0_numberOf_98 : decode cX0_numberOf 98 = .ok (.getfield 22, 3) := by decide +kernel
theorem dX0_numberOf_101 : decode cX0_numberOf 101 = .ok (.iload_n 3, 1) := by decide +kernel
theorem dX0_numberOf_102 : decode cX0_numberOf 102 = .ok (.iaload, 1) := by decide +kernel
theorem dX0_numberOf_103 : decode cX0_numberOf 103 = .ok (.ireturn, 1) := by decide +kernel
theorem dX0_firstAccepting_0 : decode cX0_firstAccepting 0 = .ok (.iconst 0, 1) := by decide +kernel
theorem dX0_firstAccepting_1 : decode cX0_firstAccepting 1 = .ok (.istore_n 1, 1) := by decide +kernel
theorem dX0_firstAccepting_2 : decode cX0_firstAccepting 2 = .ok (.iload_n 1, 1) := by decide +kernel
theorem dX0_firstAccepting_3 : decode cX0_firstAccepting 3 = .ok (.aload_n 0, 1) := by decide +kernel
theorem dX0_firstAccepting_4 : decode cX0_firstAccepting 4 = .ok (.getfield 41, 3) := by decide +kernel
theorem dX0_firstAccepting_7 : decode cX0_firstAccepting 7 = .ok (.if_icmp .ge 27, 3) := by decide +kernel
theorem dX0_firstAccepting_10 : decode cX0_firstAccepting 10 = .ok (.iload_n 1, 1) := by decide +kernel
theorem dX0_firstAccepting_11 : decode cX0_firstAccepting 11 = .ok (.sipush 129, 3) := by decide +kernel
theorem dX0_firstAccepting_14 : decode cX0_firstAccepting 14 = .ok (.if_icmp .ge 20, 3) := by decide +kernel
theorem dX0_firstAccepting_17 : decode cX0_firstAccepting 17 = .ok (.aload_n 0, 1) := by decide +kernel
theorem dX0_firstAccepting_18 : decode cX0_firstAccepting 18 = .ok (.getfield 28, 3) := by decide +kernel
theorem dX0_firstAccepting_21 : decode cX0_firstAccepting 21 = .ok (.iload_n 1, 1) := by decide +kernel
theorem dX0_firstAccepting_22 : decode cX0_firstAccepting 22 = .ok (.baload, 1) := by decide +kernel
theorem dX0_firstAccepting_23 : decode cX0_firstAccepting 23 = .ok (.ifCond .eq 5, 3) := by decide +kernel
theorem dX0_firstAccepting_26 : decode cX0_firstAccepting 26 = .ok (.iload_n 1, 1) := by decide +kernel
theorem dX0_firstAccepting_27 : decode cX0_firstAccepting 27 = .ok (.ireturn, 1) := by decide +kernel
theorem dX0_firstAccepting_28 : decode cX0_firstAccepting 28 = .ok (.iinc 1 1, 3) := by decide +kernel
theorem dX0_firstAccepting_31 : decode cX0_firstAccepting 31 = .ok (.goto (-29), 3) := by decide +kernel
theorem dX0_firstAccepting_34 : decode cX0_firstAccepting 34 = .ok (.iconst (-1), 1) := by decide +kernel
theorem dX0_firstAccepting_35 : decode cX0_firstAccepting 35 = .ok (.ireturn, 1) := by decide +kernel
theorem dX0_moveWays_0 : decode cX0_moveWays 0 = .ok (.aload_n 0, 1) := by decide +kernel
theorem dX0_moveWays_1 : decode cX0_moveWays 1 = .ok (.getfield 38, 3) := by decide +kernel
theorem dX0_moveWays_4 : decode cX0_moveWays 4 = .ok (.iconst 0, 1) := by decide +kernel
theorem dX0_moveWays_5 : decode cX0_moveWays 5 = .ok (.invokestatic 49, 3) := by decide +kernel
theorem dX0_moveWays_8 : decode cX0_moveWays 8 = .ok (.iconst 0, 1) := by decide +kernel
theorem dX0_moveWays_9 : decode cX0_moveWays 9 = .ok (.istore_n 1, 1) := by decide +kernel
theorem dX0_moveWays_10 : decode cX0_moveWays 10 = .ok (.iload_n 1, 1) := by decide +kernel
theorem dX0_moveWays_11 : decode cX0_moveWays 11 = .ok (.aload_n 0, 1) := by decide +kernel
theorem dX0_moveWays_12 : decode cX0_moveWays 12 = .ok (.getfield 41, 3) := by decide +kernel
theorem dX0_moveWays_15 : decode cX0_moveWays 15 = .ok (.if_icmp .ge 62, 3) := by decide +kernel
theorem dX0_moveWays_18 : decode cX0_moveWays 18 = .ok (.iload_n 1, 1) := by decide +kernel
theorem dX0_moveWays_19 : decode cX0_moveWays 19 = .ok (.sipush 129, 3) := by decide +kernel
theorem dX0_moveWays_22 : decode cX0_moveWays 22 = .ok (.if_icmp .ge 55, 3) := by decide +kernel
theorem dX0_moveWays_25 : decode cX0_moveWays 25 = .ok (.iconst 0, 1) := by decide +kernel
theorem dX0_moveWays_26 : decode cX0_moveWays 26 = .ok (.istore_n 2, 1) := by decide +kernel
theorem dX0_moveWays_27 : decode cX0_moveWays 27 = .ok (.iload_n 2, 1) := by decide +kernel
theorem dX0_moveWays_28 : decode cX0_moveWays 28 = .ok (.iconst 3, 1) := by decide +kernel
theorem dX0_moveWays_29 : decode cX0_moveWays 29 = .ok (.if_icmp .ge 42, 3) := by decide +kernel
theorem dX0_moveWays_32 : decode cX0_moveWays 32 = .ok (.aload_n 0, 1) := by decide +kernel
theorem dX0_moveWays_33 : decode cX0_moveWays 33 = .ok (.iload_n 1, 1) := by decide +kernel
theorem dX0_moveWays_34 : decode cX0_moveWays 34 = .ok (.iload_n 2, 1) := by decide +kernel
theorem dX0_moveWays_35 : decode cX0_moveWays 35 = .ok (.invokevirtual 81, 3) := by decide +kernel
theorem dX0_moveWays_38 : decode cX0_moveWays 38 = .ok (.istore_n 3, 1) := by decide +kernel
theorem dX0_moveWays_39 : decode cX0_moveWays 39 = .ok (.iload_n 3, 1) := by decide +kernel
theorem dX0_moveWays_40 : decode cX0_moveWays 40 = .ok (.ifCond .lt 25, 3) := by decide +kernel
theorem dX0_moveWays_43 : decode cX0_moveWays 43 = .ok (.iload_n 3, 1) := by decide +kernel
theorem dX0_moveWays_44 : decode cX0_moveWays 44 = .ok (.sipush 129, 3) := by decide +kernel
theorem dX0_moveWays_47 : decode cX0_moveWays 47 = .ok (.if_icmp .ge 18, 3) := by decide +kernel
theorem dX0_moveWays_50 : decode cX0_moveWays 50 = .ok (.aload_n 0, 1) := by decide +kernel
theorem dX0_moveWays_51 : decode cX0_moveWays 51 = .ok (.getfield 38, 3) := by decide +kernel
theorem dX0_moveWays_54 : decode cX0_moveWays 54 = .ok (.iload_n 3, 1) := by decide +kernel
theorem dX0_moveWays_55 : decode cX0_moveWays 55 = .ok (.dup2, 1) := by decide +kernel
theorem dX0_moveWays_56 : decode cX0_moveWays 56 = .ok (.iaload, 1) := by decide +kernel
theorem dX0_moveWays_57 : decode cX0_moveWays 57 = .ok (.aload_n 0, 1) := by decide +kernel
theorem dX0_moveWays_58 : decode cX0_moveWays 58 = .ok (.getfield 35, 3) := by decide +kernel
theorem dX0_moveWays_61 : decode cX0_moveWays 61 = .ok (.iload_n 1, 1) := by decide +kernel
theorem dX0_moveWays_62 : decode cX0_moveWays 62 = .ok (.iaload, 1) := by decide +kernel
theorem dX0_moveWays_63 : decode cX0_moveWays 63 = .ok (.iadd, 1) := by decide +kernel
theorem dX0_moveWays_64 : decode cX0_moveWays 64 = .ok (.iastore, 1) := by decide +kernel
theorem dX0_moveWays_65 : decode cX0_moveWays 65 = .ok (.iinc 2 1, 3) := by decide +kernel
theorem dX0_moveWays_68 : decode cX0_moveWays 68 = .ok (.goto (-41), 3) := by decide +kernel
theorem dX0_moveWays_71 : decode cX0_moveWays 71 = .ok (.iinc 1 1, 3) := by decide +kernel
theorem dX0_moveWays_74 : decode cX0_moveWays 74 = .ok (.goto (-64), 3) := by decide +kernel
theorem dX0_moveWays_77 : decode cX0_moveWays 77 = .ok (.aload_n 0, 1) := by decide +kernel
theorem dX0_moveWays_78 : decode cX0_moveWays 78 = .ok (.getfield 38, 3) := by decide +kernel
theorem dX0_moveWays_81 : decode cX0_moveWays 81 = .ok (.iconst 0, 1) := by decide +kernel
theorem dX0_moveWays_82 : decode cX0_moveWays 82 = .ok (.aload_n 0, 1) := by decide +kernel
theorem dX0_moveWays_83 : decode cX0_moveWays 83 = .ok (.getfield 35, 3) := by decide +kernel
theorem dX0_moveWays_86 : decode cX0_moveWays 86 = .ok (.iconst 0, 1) := by decide +kernel
theorem dX0_moveWays_87 : decode cX0_moveWays 87 = .ok (.sipush 129, 3) := by decide +kernel
theorem dX0_moveWays_90 : decode cX0_moveWays 90 = .ok (.invokestatic 118, 3) := by decide +kernel
theorem dX0_moveWays_93 : decode cX0_moveWays 93 = .ok (.return_, 1) := by decide +kernel
theorem dX0_acceptsDigits_0 : decode cX0_acceptsDigits 0 = .ok (.iconst 0, 1) := by decide +kernel
theorem dX0_acceptsDigits_1 : decode cX0_acceptsDigits 1 = .ok (.istore_n 3, 1) := by decide +kernel
theorem dX0_acceptsDigits_2 : decode cX0_acceptsDigits 2 = .ok (.iload_n 1, 1) := by decide +kernel
theorem dX0_acceptsDigits_3 : decode cX0_acceptsDigits 3 = .ok (.istore 4, 2) := by decide +kernel
theorem dX0_acceptsDigits_5 : decode cX0_acceptsDigits 5 = .ok (.iconst 0, 1) := by decide +kernel
theorem dX0_acceptsDigits_6 : decode cX0_acceptsDigits 6 = .ok (.istore 5, 2) := by decide +kernel
theorem dX0_acceptsDigits_8 : decode cX0_acceptsDigits 8 = .ok (.iload 5, 2) := by decide +kernel
theorem dX0_acceptsDigits_10 : decode cX0_acceptsDigits 10 = .ok (.iload_n 2, 1) := by decide +kernel
theorem dX0_acceptsDigits_11 : decode cX0_acceptsDigits 11 = .ok (.if_icmp .ge 25, 3) := by decide +kernel
theorem dX0_acceptsDigits_14 : decode cX0_acceptsDigits 14 = .ok (.aload_n 0, 1) := by decide +kernel
theorem dX0_acceptsDigits_15 : decode cX0_acceptsDigits 15 = .ok (.iload_n 3, 1) := by decide +kernel
theorem dX0_acceptsDigits_16 : decode cX0_acceptsDigits 16 = .ok (.iload 4, 2) := by decide +kernel
theorem dX0_acceptsDigits_18 : decode cX0_acceptsDigits 18 = .ok (.iconst 3, 1) := by decide +kernel
theorem dX0_acceptsDigits_19 : decode cX0_acceptsDigits 19 = .ok (.irem, 1) := by decide +kernel
theorem dX0_acceptsDigits_20 : decode cX0_acceptsDigits 20 = .ok (.invokevirtual 81, 3) := by decide +kernel
theorem dX0_acceptsDigits_23 : decode cX0_acceptsDigits 23 = .ok (.istore_n 3, 1) := by decide +kernel
theorem dX0_acceptsDigits_24 : decode cX0_acceptsDigits 24 = .ok (.iload 4, 2) := by decide +kernel
theorem dX0_acceptsDigits_26 : decode cX0_acceptsDigits 26 = .ok (.iconst 3, 1) := by decide +kernel
theorem dX0_acceptsDigits_27 : decode cX0_acceptsDigits 27 = .ok (.idiv, 1) := by decide +kernel
theorem dX0_acceptsDigits_28 : decode cX0_acceptsDigits 28 = .ok (.istore 4, 2) := by decide +kernel
theorem dX0_acceptsDigits_30 : decode cX0_acceptsDigits 30 = .ok (.iinc 5 1, 3) := by decide +kernel
theorem dX0_acceptsDigits_33 : decode cX0_acceptsDigits 33 = .ok (.goto (-25), 3) := by decide +kernel
theorem dX0_acceptsDigits_36 : decode cX0_acceptsDigits 36 = .ok (.aload_n 0, 1) := by decide +kernel
theorem dX0_acceptsDigits_37 : decode cX0_acceptsDigits 37 = .ok (.iload_n 3, 1) := by decide +kernel
theorem dX0_acceptsDigits_38 : decode cX0_acceptsDigits 38 = .ok (.invokevirtual 84, 3) := by decide +kernel
theorem dX0_acceptsDigits_41 : decode cX0_acceptsDigits 41 = .ok (.ireturn, 1) := by decide +kernel
theorem dX1_init_0 : decode cX1_init 0 = .ok (.aload_n 0, 1) := by decide +kernel
theorem dX1_init_1 : decode cX1_init 1 = .ok (.invokespecial 3, 3) := by decide +kernel
theorem dX1_init_4 : decode cX1_init 4 = .ok (.aload_n 0, 1) := by decide +kernel
theorem dX1_init_5 : decode cX1_init 5 = .ok (.bipush 9, 2) := by decide +kernel
theorem dX1_init_7 : decode cX1_init 7 = .ok (.anewarray 11, 3) := by decide +kernel
theorem dX1_init_10 : decode cX1_init 10 = .ok (.putfield 13, 3) := by decide +kernel
theorem dX1_init_13 : decode cX1_init 13 = .ok (.aload_n 0, 1) := by decide +kernel
theorem dX1_init_14 : decode cX1_init 14 = .ok (.iconst 0, 1) := by decide +kernel
theorem dX1_init_15 : decode cX1_init 15 = .ok (.putfield 17, 3) := by decide +kernel
theorem dX1_init_18 : decode cX1_init 18 = .ok (.aload_n 0, 1) := by decide +kernel
theorem dX1_init_19 : decode cX1_init 19 = .ok (.iconst 0, 1) := by decide +kernel
theorem dX1_init_20 : decode cX1_init 20 = .ok (.putfield 21, 3) := by decide +kernel
theorem dX1_init_23 : decode cX1_init 23 = .ok (.iconst 0, 1) := by decide +kernel
theorem dX1_init_24 : decode cX1_init 24 = .ok (.istore_n 1, 1) := by decide +kernel
theorem dX1_init_25 : decode cX1_init 25 = .ok (.iload_n 1, 1) := by decide +kernel
theorem dX1_init_26 : decode cX1_init 26 = .ok (.bipush 9, 2) := by decide +kernel
theorem dX1_init_28 : decode cX1_init 28 = .ok (.if_icmp .ge 22, 3) := by decide +kernel
theorem dX1_init_31 : decode cX1_init 31 = .ok (.aload_n 0, 1) := by decide +kernel
theorem dX1_init_32 : decode cX1_init 32 = .ok (.getfield 13, 3) := by decide +kernel
theorem dX1_init_35 : decode cX1_init 35 = .ok (.iload_n 1, 1) := by decide +kernel
theorem dX1_init_36 : decode cX1_init 36 = .ok (.new 11, 3) := by decide +kernel
theorem dX1_init_39 : decode cX1_init 39 = .ok (.dup, 1) := by decide +kernel
theorem dX1_init_40 : decode cX1_init 40 = .ok (.invokespecial 24, 3) := by decide +kernel
theorem dX1_init_43 : decode cX1_init 43 = .ok (.aastore, 1) := by decide +kernel
theorem dX1_init_44 : decode cX1_init 44 = .ok (.iinc 1 1, 3) := by decide +kernel
theorem dX1_init_47 : decode cX1_init 47 = .ok (.goto (-22), 3) := by decide +kernel
theorem dX1_init_50 : decode cX1_init 50 = .ok (.return_, 1) := by decide +kernel
theorem dX1_size_0 : decode cX1_size 0 = .ok (.aload_n 0, 1) := by decide +kernel
theorem dX1_size_1 : decode cX1_size 1 = .ok (.getfield 21, 3) := by decide +kernel
theorem dX1_size_4 : decode cX1_size 4 = .ok (.ireturn, 1) := by decide +kernel
theorem dX1_prepare_0 : decode cX1_prepare 0 = .ok (.aload_n 0, 1) := by decide +kernel
theorem dX1_prepare_1 : decode cX1_prepare 1 = .ok (.invokevirtual 25, 3) := by decide +kernel
theorem dX1_prepare_4 : decode cX1_prepare 4 = .ok (.astore_n 2, 1) := by decide +kernel
theorem dX1_prepare_5 : decode cX1_prepare 5 = .ok (.aload_n 2, 1) := by decide +kernel
theorem dX1_prepare_6 : decode cX1_prepare 6 = .ok (.ifnull 8, 3) := by decide +kernel
theorem dX1_prepare_9 : decode cX1_prepare 9 = .ok (.aload_n 2, 1) := by decide +kernel
theorem dX1_prepare_10 : decode cX1_prepare 10 = .ok (.aload_n 1, 1) := by decide +kernel
theorem dX1_prepare_11 : decode cX1_prepare 11 = .ok (.invokevirtual 29, 3) := by decide +kernel
theorem dX1_prepare_14 : decode cX1_prepare 14 = .ok (.return_, 1) := by decide +kernel
theorem dX1_keepPrepared_0 : decode cX1_keepPrepared 0 = .ok (.aload_n 0, 1) := by decide +kernel
theorem dX1_keepPrepared_1 : decode cX1_keepPrepared 1 = .ok (.aload_n 0, 1) := by decide +kernel
theorem dX1_keepPrepared_2 : decode cX1_keepPrepared 2 = .ok (.getfield 17, 3) := by decide +kernel
theorem dX1_keepPrepared_5 : decode cX1_keepPrepared 5 = .ok (.iconst 1, 1) := by decide +kernel
theorem dX1_keepPrepared_6 : decode cX1_keepPrepared 6 = .ok (.iadd, 1) := by decide +kernel
theorem dX1_keepPrepared_7 : decode cX1_keepPrepared 7 = .ok (.bipush 9, 2) := by decide +kernel
theorem dX1_keepPrepared_9 : decode cX1_keepPrepared 9 = .ok (.irem, 1) := by decide +kernel
theorem dX1_keepPrepared_10 : decode cX1_keepPrepared 10 = .ok (.putfield 17, 3) := by decide +kernel
theorem dX1_keepPrepared_13 : decode cX1_keepPrepared 13 = .ok (.aload_n 0, 1) := by decide +kernel
theorem dX1_keepPrepared_14 : decode cX1_keepPrepared 14 = .ok (.aload_n 0, 1) := by decide +kernel
theorem dX1_keepPrepared_15 : decode cX1_keepPrepared 15 = .ok (.getfield 21, 3) := by decide +kernel
theorem dX1_keepPrepared_18 : decode cX1_keepPrepared 18 = .ok (.iconst 1, 1) := by decide +kernel
theorem dX1_keepPrepared_19 : decode cX1_keepPrepared 19 = .ok (.iadd, 1) := by decide +kernel
theorem dX1_keepPrepared_20 : decode cX1_keepPrepared 20 = .ok (.bipush 8, 2) := by decide +kernel
theorem dX1_keepPrepared_22 : decode cX1_keepPrepared 22 = .ok (.invokestatic 33, 3) := by decide +kernel
theorem dX1_keepPrepared_25 : decode cX1_keepPrepared 25 = .ok (.putfield 21, 3) := by decide +kernel
theorem dX1_keepPrepared_28 : decode cX1_keepPrepared 28 = .ok (.return_, 1) := by decide +kernel
theorem dX1_takePrepared_0 : decode cX1_takePrepared 0 = .ok (.aload_n 0, 1) := by decide +kernel
theorem dX1_takePrepared_1 : decode cX1_takePrepared 1 = .ok (.invokevirtual 25, 3) := by decide +kernel
theorem dX1_takePrepared_4 : decode cX1_takePrepared 4 = .ok (.astore_n 2, 1) := by decide +kernel
theorem dX1_takePrepared_5 : decode cX1_takePrepared 5 = .ok (.aload_n 2, 1) := by decide +kernel
theorem dX1_takePrepared_6 : decode cX1_takePrepared 6 = .ok (.ifnull 8, 3) := by decide +kernel
theorem dX1_takePrepared_9 : decode cX1_takePrepared 9 = .ok (.aload_n 1, 1) := by decide +kernel
theorem dX1_takePrepared_10 : decode cX1_takePrepared 10 = .ok (.aload_n 2, 1) := by decide +kernel
theorem dX1_takePrepared_11 : decode cX1_takePrepared 11 = .ok (.invokevirtual 29, 3) := by decide +kernel
theorem dX1_takePrepared_14 : decode cX1_takePrepared 14 = .ok (.return_, 1) := by decide +kernel
theorem dX1_takeLatest_0 : decode cX1_takeLatest 0 = .ok (.aload_n 0, 1) := by decide +kernel
theorem dX1_takeLatest_1 : decode cX1_takeLatest 1 = .ok (.aload_n 0, 1) := by decide +kernel
theorem dX1_takeLatest_2 : decode cX1_takeLatest 2 = .ok (.getfield 17, 3) := by decide +kernel
theorem dX1_takeLatest_5 : decode cX1_takeLatest 5 = .ok (.bipush 9, 2) := by decide +kernel
theorem dX1_takeLatest_7 : decode cX1_takeLatest 7 = .ok (.iadd, 1) := by decide +kernel
theorem dX1_takeLatest_8 : decode cX1_takeLatest 8 = .ok (.iconst 1, 1) := by decide +kernel
theorem dX1_takeLatest_9 : decode cX1_takeLatest 9 = .ok (.isub, 1) := by decide +kernel
theorem dX1_takeLatest_10 : decode cX1_takeLatest 10 = .ok (.bipush 9, 2) := by decide +kernel
theorem dX1_takeLatest_12 : decode cX1_takeLatest 12 = .ok (.irem, 1) := by decide +kernel
theorem dX1_takeLatest_13 : decode cX1_takeLatest 13 = .ok (.putfield 17, 3) := by decide +kernel
theorem dX1_takeLatest_16 : decode cX1_takeLatest 16 = .ok (.aload_n 0, 1) := by decide +kernel
theorem dX1_takeLatest_17 : decode cX1_takeLatest 17 = .ok (.aload_n 0, 1) := by decide +kernel
theorem dX1_takeLatest_18 : decode cX1_takeLatest 18 = .ok (.getfield 21, 3) := by decide +kernel
theorem dX1_takeLatest_21 : decode cX1_takeLatest 21 = .ok (.iconst 1, 1) := by decide +kernel
theorem dX1_takeLatest_22 : decode cX1_takeLatest 22 = .ok (.isub, 1) := by decide +kernel
theorem dX1_takeLatest_23 : decode cX1_takeLatest 23 = .ok (.iconst 0, 1) := by decide +kernel
theorem dX1_takeLatest_24 : decode cX1_takeLatest 24 = .ok (.invokestatic 39, 3) := by decide +kernel
theorem dX1_takeLatest_27 : decode cX1_takeLatest 27 = .ok (.putfield 21, 3) := by decide +kernel
theorem dX1_takeLatest_30 : decode cX1_takeLatest 30 = .ok (.aload_n 0, 1) := by decide +kernel
theorem dX1_takeLatest_31 : decode cX1_takeLatest 31 = .ok (.aload_n 1, 1) := by decide +kernel
theorem dX1_takeLatest_32 : decode cX1_takeLatest 32 = .ok (.invokevirtual 42, 3) := by decide +kernel
theorem dX1_takeLatest_35 : decode cX1_takeLatest 35 = .ok (.return_, 1) := by decide +kernel
theorem dX1_forget_0 : decode cX1_forget 0 = .ok (.aload_n 0, 1) := by decide +kernel
theorem dX1_forget_1 : decode cX1_forget 1 = .ok (.iconst 0, 1) := by decide +kernel
theorem dX1_forget_2 : decode cX1_forget 2 = .ok (.putfield 21, 3) := by decide +kernel
theorem dX1_forget_5 : decode cX1_forget 5 = .ok (.return_, 1) := by decide +kernel
theorem dX1_preparedShelf_0 : decode cX1_preparedShelf 0 = .ok (.aload_n 0, 1) := by decide +kernel
theorem dX1_preparedShelf_1 : decode cX1_preparedShelf 1 = .ok (.getfield 17, 3) := by decide +kernel
theorem dX1_preparedShelf_4 : decode cX1_preparedShelf 4 = .ok (.ifCond .lt 12, 3) := by decide +kernel
theorem dX1_preparedShelf_7 : decode cX1_preparedShelf 7 = .ok (.aload_n 0, 1) := by decide +kernel
theorem dX1_preparedShelf_8 : decode cX1_preparedShelf 8 = .ok (.getfield 17, 3) := by decide +kernel
theorem dX1_preparedShelf_11 : decode cX1_preparedShelf 11 = .ok (.bipush 9, 2) := by decide +kernel
theorem dX1_preparedShelf_13 : decode cX1_preparedShelf 13 = .ok (.if_icmp .lt 7, 3) := by decide +kernel
theorem dX1_preparedShelf_16 : decode cX1_preparedShelf 16 = .ok (.aconst_null, 1) := by decide +kernel
theorem dX1_preparedShelf_17 : decode cX1_preparedShelf 17 = .ok (.goto 12, 3) := by decide +kernel
theorem dX1_preparedShelf_20 : decode cX1_preparedShelf 20 = .ok (.aload_n 0, 1) := by decide +kernel
theorem dX1_preparedShelf_21 : decode cX1_preparedShelf 21 = .ok (.getfield 13, 3) := by decide +kernel
theorem dX1_preparedShelf_24 : decode cX1_preparedShelf 24 = .ok (.aload_n 0, 1) := by decide +kernel
theorem dX1_preparedShelf_25 : decode cX1_preparedShelf 25 = .ok (.getfield 17, 3) := by decide +kernel
theorem dX1_preparedShelf_28 : decode cX1_preparedShelf 28 = .ok (.aaload, 1) := by decide +kernel
theorem dX1_preparedShelf_29 : decode cX1_preparedShelf 29 = .ok (.areturn, 1) := by decide +kernel
theorem dX2_init_0 : decode cX2_init 0 = .ok (.aload_n 0, 1) := by decide +kernel
theorem dX2_init_1 : decode cX2_init 1 = .ok (.invokespecial 3, 3) := by decide +kernel
theorem dX2_init_4 : decode cX2_init 4 = .ok (.aload_n 0, 1) := by decide +kernel
theorem dX2_init_5 : decode cX2_init 5 = .ok (.bipush 120, 2) := by decide +kernel
theorem dX2_init_7 : decode cX2_init 7 = .ok (.newarray .char, 2) := by decide +kernel
theorem dX2_init_9 : decode cX2_init 9 = .ok (.putfield 9, 3) := by decide +kernel
theorem dX2_init_12 : decode cX2_init 12 = .ok (.aload_n 0, 1) := by decide +kernel
theorem dX2_init_13 : decode cX2_init 13 = .ok (.bipush 120, 2) := by decide +kernel
theorem dX2_init_15 : decode cX2_init 15 = .ok (.newarray .char, 2) := by decide +kernel
theorem dX2_init_17 : decode cX2_init 17 = .ok (.putfield 15, 3) := by decide +kernel
theorem dX2_init_20 : decode cX2_init 20 = .ok (.aload_n 0, 1) := by decide +kernel
theorem dX2_init_21 : decode cX2_init 21 = .ok (.iconst 0, 1) := by decide +kernel
theorem dX2_init_22 : decode cX2_init 22 = .ok (.putfield 18, 3) := by decide +kernel
theorem dX2_init_25 : decode cX2_init 25 = .ok (.aload_n 0, 1) := by decide +kernel
theorem dX2_init_26 : decode cX2_init 26 = .ok (.iconst 0, 1) := by decide +kernel
theorem dX2_init_27 : decode cX2_init 27 = .ok (.putfield 22, 3) := by decide +kernel
theorem dX2_init_30 : decode cX2_init 30 = .ok (.return_, 1) := by decide +kernel
theorem dX2_read_0 : decode cX2_read 0 = .ok (.aload_n 0, 1) := by decide +kernel
theorem dX2_read_1 : decode cX2_read 1 = .ok (.iconst 0, 1) := by decide +kernel
theorem dX2_read_2 : decode cX2_read 2 = .ok (.putfield 18, 3) := by decide +kernel
theorem dX2_read_5 : decode cX2_read 5 = .ok (.aload_n 0, 1) := by decide +kernel
theorem dX2_read_6 : decode cX2_read 6 = .ok (.iconst 0, 1) := by decide +kernel
theorem dX2_read_7 : decode cX2_read 7 = .ok (.putfield 22, 3) := by decide +kernel
theorem dX2_read_10 : decode cX2_read 10 = .ok (.iconst 0, 1) := by decide +kernel
theorem dX2_read_11 : decode cX2_read 11 = .ok (.istore_n 2, 1) := by decide +kernel
theorem dX2_read_12 : decode cX2_read 12 = .ok (.aload_n 1, 1) := by decide +kernel
theorem dX2_read_13 : decode cX2_read 13 = .ok (.invokevirtual 25, 3) := by decide +kernel
theorem dX2_read_16 : decode cX2_read 16 = .ok (.istore_n 3, 1) := by decide +kernel
theorem dX2_read_17 : decode cX2_read 17 = .ok (.iload_n 3, 1) := by decide +kernel
theorem dX2_read_18 : decode cX2_read 18 = .ok (.aload_n 1, 1) := by decide +kernel
theorem dX2_read_19 : decode cX2_read 19 = .ok (.invokevirtual 31, 3) := by decide +kernel
theorem dX2_read_22 : decode cX2_read 22 = .ok (.if_icmp .ge 62, 3) := by decide +kernel
theorem dX2_read_25 : decode cX2_read 25 = .ok (.aload_n 1, 1) := by decide +kernel
theorem dX2_read_26 : decode cX2_read 26 = .ok (.iload_n 3, 1) := by decide +kernel
theorem dX2_read_27 : decode cX2_read 27 = .ok (.invokevirtual 34, 3) := by decide +kernel
theorem dX2_read_30 : decode cX2_read 30 = .ok (.istore 4, 2) := by decide +kernel
theorem dX2_read_32 : decode cX2_read 32 = .ok (.iload_n 2, 1) := by decide +kernel
theorem dX2_read_33 : decode cX2_read 33 = .ok (.invokestatic 38, 3) := by decide +kernel
theorem dX2_read_36 : decode cX2_read 36 = .ok (.ifCond .eq 33, 3) := by decide +kernel
theorem dX2_read_39 : decode cX2_read 39 = .ok (.iload 4, 2) := by decide +kernel
theorem dX2_read_41 : decode cX2_read 41 = .ok (.invokestatic 42, 3) := by decide +kernel
theorem dX2_read_44 : decode cX2_read 44 = .ok (.ifCond .ne 10, 3) := by decide +kernel
theorem dX2_read_47 : decode cX2_read 47 = .ok (.iload 4, 2) := by decide +kernel
theorem dX2_read_49 : decode cX2_read 49 = .ok (.bipush 40, 2) := by decide +kernel
theorem dX2_read_51 : decode cX2_read 51 = .ok (.if_icmp .ne 18, 3) := by decide +kernel
theorem dX2_read_54 : decode cX2_read 54 = .ok (.aload_n 0, 1) := by decide +kernel
theorem dX2_read_55 : decode cX2_read 55 = .ok (.bipush 46, 2) := by decide +kernel
theorem dX2_read_57 : decode cX2_read 57 = .ok (.invokestatic 45, 3) := by decide +kernel
theorem dX2_read_60 : decode cX2_read 60 = .ok (.invokevirtual 49, 3) := by decide +kernel
theorem dX2_read_63 : decode cX2_read 63 = .ok (.aload_n 0, 1) := by decide +kernel
theorem dX2_read_64 : decode cX2_read 64 = .ok (.bipush 46, 2) := by decide +kernel
theorem dX2_read_66 : decode cX2_read 66 = .ok (.invokevirtual 53, 3) := by decide +kernel
theorem dX2_read_69 : decode cX2_read 69 = .ok (.aload_n 0, 1) := by decide +kernel
theorem dX2_read_70 : decode cX2_read 70 = .ok (.iload 4, 2) := by decide +kernel
theorem dX2_read_72 : decode cX2_read 72 = .ok (.invokevirtual 57, 3) := by decide +kernel
theorem dX2_read_75 : decode cX2_read 75 = .ok (.iload 4, 2) := by decide +kernel
theorem dX2_read_77 : decode cX2_read 77 = .ok (.istore_n 2, 1) := by decide +kernel
theorem dX2_read_78 : decode cX2_read 78 = .ok (.iinc 3 1, 3) := by decide +kernel
theorem dX2_read_81 : decode cX2_read 81 = .ok (.goto (-64), 3) := by decide +kernel
theorem dX2_read_84 : decode cX2_read 84 = .ok (.aload_n 0, 1) := by decide +kernel
theorem dX2_read_85 : decode cX2_read 85 = .ok (.bipush 124, 2) := by decide +kernel
theorem dX2_read_87 : decode cX2_read 87 = .ok (.invokestatic 45, 3) := by decide +kernel
theorem dX2_read_90 : decode cX2_read 90 = .ok (.invokevirtual 49, 3) := by decide +kernel
theorem dX2_read_93 : decode cX2_read 93 = .ok (.iconst 0, 1) := by decide +kernel
theorem dX2_read_94 : decode cX2_read 94 = .ok (.aload_n 0, 1) := by decide +kernel
theorem dX2_read_95 : decode cX2_read 95 = .ok (.getfield 22, 3) := by decide +kernel
theorem dX2_read_98 : decode cX2_read 98 = .ok (.aload_n 0, 1) := by decide +kernel
theorem dX2_read_99 : decode cX2_read 99 = .ok (.getfield 15, 3) := by decide +kernel
theorem dX2_read_102 : decode cX2_read 102 = .ok (.arraylength, 1) := by decide +kernel
theorem dX2_read_103 : decode cX2_read 103 = .ok (.invokestatic 60, 3) := by decide +kernel
theorem dX2_read_106 : decode cX2_read 106 = .ok (.invokestatic 66, 3) := by decide +kernel
theorem dX2_read_109 : decode cX2_read 109 = .ok (.istore_n 3, 1) := by decide +kernel
theorem dX2_read_110 : decode cX2_read 110 = .ok (.iload_n 3, 1) := by decide +kernel
theorem dX2_read_111 : decode cX2_read 111 = .ok (.newarray .char, 2) := by decide +kernel
theorem dX2_read_113 : decode cX2_read 113 = .ok (.astore 4, 2) := by decide +kernel
theorem dX2_read_115 : decode cX2_read 115 = .ok (.aload_n 0, 1) := by decide +kernel
theorem dX2_read_116 : decode cX2_read 116 = .ok (.getfield 15, 3) := by decide +kernel
theorem dX2_read_119 : decode cX2_read 119 = .ok (.iconst 0, 1) := by decide +kernel
theorem dX2_read_120 : decode cX2_read 120 = .ok (.aload 4, 2) := by decide +kernel
theorem dX2_read_122 : decode cX2_read 122 = .ok (.iconst 0, 1) := by decide +kernel
theorem dX2_read_123 : decode cX2_read 123 = .ok (.iload_n 3, 1) := by decide +kernel
theorem dX2_read_124 : decode cX2_read 124 = .ok (.invokestatic 69, 3) := by decide +kernel
theorem dX2_read_127 : decode cX2_read 127 = .ok (.new 75, 3) := by decide +kernel
theorem dX2_read_130 : decode cX2_read 130 = .ok (.dup, 1) := by decide +kernel
theorem dX2_read_131 : decode cX2_read 131 = .ok (.aload 4, 2) := by decide +kernel
theorem dX2_read_133 : decode cX2_read 133 = .ok (.invokespecial 77, 3) := by decide +kernel
theorem dX2_read_136 : decode cX2_read 136 = .ok (.areturn, 1) := by decide +kernel
theorem dX2_write_0 : decode cX2_write 0 = .ok (.aload_n 2, 1) := by decide +kernel
theorem dX2_write_1 : decode cX2_write 1 = .ok (.iconst 0, 1) := by decide +kernel
theorem dX2_write_2 : decode cX2_write 2 = .ok (.invokevirtual 80, 3) := by decide +kernel
theorem dX2_write_5 : decode cX2_write 5 = .ok (.aload_n 0, 1) := by decide +kernel
theorem dX2_write_6 : decode cX2_write 6 = .ok (.iconst 0, 1) := by decide +kernel
theorem dX2_write_7 : decode cX2_write 7 = .ok (.putfield 18, 3) := by decide +kernel
theorem dX2_write_10 : decode cX2_write 10 = .ok (.aload_n 0, 1) := by decide +kernel
theorem dX2_write_11 : decode cX2_write 11 = .ok (.bipush 48, 2) := by decide +kernel
theorem dX2_write_13 : decode cX2_write 13 = .ok (.invokevirtual 53, 3) := by decide +kernel
theorem dX2_write_16 : decode cX2_write 16 = .ok (.aload_n 1, 1) := by decide +kernel
theorem dX2_write_17 : decode cX2_write 17 = .ok (.invokevirtual 85, 3) := by decide +kernel
theorem dX2_write_20 : decode cX2_write 20 = .ok (.iconst 1, 1) := by decide +kernel
theorem dX2_write_21 : decode cX2_write 21 = .ok (.isub, 1) := by decide +kernel
theorem dX2_write_22 : decode cX2_write 22 = .ok (.istore_n 3, 1) := by decide +kernel
theorem dX2_write_23 : decode cX2_write 23 = .ok (.iload_n 3, 1) := by decide +kernel
theorem dX2_write_24 : decode cX2_write 24 = .ok (.ifCond .lt 28, 3) := by decide +kernel
theorem dX2_write_27 : decode cX2_write 27 = .ok (.aload_n 0, 1) := by decide +kernel
theorem dX2_write_28 : decode cX2_write 28 = .ok (.aload_n 2, 1) := by decide +kernel
theorem dX2_write_29 : decode cX2_write 29 = .ok (.invokevirtual 87, 3) := by decide +kernel
theorem dX2_write_32 : decode cX2_write 32 = .ok (.aload_n 0, 1) := by decide +kernel
theorem dX2_write_33 : decode cX2_write 33 = .ok (.aload_n 1, 1) := by decide +kernel
theorem dX2_write_34 : decode cX2_write 34 = .ok (.iload_n 3, 1) := by decide +kernel
theorem dX2_write_35 : decode cX2_write 35 = .ok (.invokevirtual 91, 3) := by decide +kernel
theorem dX2_write_38 : decode cX2_write 38 = .ok (.aload_n 0, 1) := by decide +kernel
theorem dX2_write_39 : decode cX2_write 39 = .ok (.invokevirtual 94, 3) := by decide +kernel
theorem dX2_write_42 : decode cX2_write 42 = .ok (.aload_n 2, 1) := by decide +kernel
theorem dX2_write_43 : decode cX2_write 43 = .ok (.invokevirtual 98, 3) := by decide +kernel
theorem dX2_write_46 : decode cX2_write 46 = .ok (.iinc 3 (-1), 3) := by decide +kernel
theorem dX2_write_49 : decode cX2_write 49 = .ok (.goto (-26), 3) := by decide +kernel
theorem dX2_write_52 : decode cX2_write 52 = .ok (.aload_n 0, 1) := by decide +kernel
theorem dX2_write_53 : decode cX2_write 53 = .ok (.aload_n 2, 1) := by decide +kernel
theorem dX2_write_54 : decode cX2_write 54 = .ok (.invokevirtual 87, 3) := by decide +kernel
theorem dX2_write_57 : decode cX2_write 57 = .ok (.aload_n 2, 1) := by decide +kernel
theorem dX2_write_58 : decode cX2_write 58 = .ok (.invokevirtual 102, 3) := by decide +kernel
theorem dX2_write_61 : decode cX2_write 61 = .ok (.pop, 1) := by decide +kernel
theorem dX2_write_62 : decode cX2_write 62 = .ok (.return_, 1) := by decide +kernel
theorem dX2_takeCharacter_0 : decode cX2_takeCharacter 0 = .ok (.iload_n 1, 1) := by decide +kernel
theorem dX2_takeCharacter_1 : decode cX2_takeCharacter 1 = .ok (.invokestatic 42, 3) := by decide +kernel
theorem dX2_takeCharacter_4 : decode cX2_takeCharacter 4 = .ok (.ifCond .ne 10, 3) := by decide +kernel
theorem dX2_takeCharacter_7 : decode cX2_takeCharacter 7 = .ok (.iload_n 1, 1) := by decide +kernel
theorem dX2_takeCharacter_8 : decode cX2_takeCharacter 8 = .ok (.invokestatic 106, 3) := by decide +kernel
theorem dX2_takeCharacter_11 : decode cX2_takeCharacter 11 = .ok (.ifCond .eq 11, 3) := by decide +kernel
theorem dX2_takeCharacter_14 : decode cX2_takeCharacter 14 = .ok (.aload_n 0, 1) := by decide +kernel
theorem dX2_takeCharacter_15 : decode cX2_takeCharacter 15 = .ok (.iload_n 1, 1) := by decide +kernel
theorem dX2_takeCharacter_16 : decode cX2_takeCharacter 16 = .ok (.invokevirtual 109, 3) := by decide +kernel
theorem dX2_takeCharacter_19 : decode cX2_takeCharacter 19 = .ok (.goto 61, 3) := by decide +kernel
theorem dX2_takeCharacter_22 : decode cX2_takeCharacter 22 = .ok (.iload_n 1, 1) := by decide +kernel
theorem dX2_takeCharacter_23 : decode cX2_takeCharacter 23 = .ok (.bipush 40, 2) := by decide +kernel
theorem dX2_takeCharacter_25 : decode cX2_takeCharacter 25 = .ok (.if_icmp .ne 11, 3) := by decide +kernel
theorem dX2_takeCharacter_28 : decode cX2_takeCharacter 28 = .ok (.aload_n 0, 1) := by decide +kernel
theorem dX2_takeCharacter_29 : decode cX2_takeCharacter 29 = .ok (.iload_n 1, 1) := by decide +kernel
theorem dX2_takeCharacter_30 : decode cX2_takeCharacter 30 = .ok (.invokevirtual 53, 3) := by decide +kernel
theorem dX2_takeCharacter_33 : decode cX2_takeCharacter 33 = .ok (.goto 47, 3) := by decide +kernel
theorem dX2_takeCharacter_36 : decode cX2_takeCharacter 36 = .ok (.iload_n 1, 1) := by decide +kernel
theorem dX2_takeCharacter_37 : decode cX2_takeCharacter 37 = .ok (.bipush 41, 2) := by decide +kernel
theorem dX2_takeCharacter_39 : decode cX2_takeCharacter 39 = .ok (.if_icmp .ne 20, 3) := by decide +kernel
theorem dX2_takeCharacter_42 : decode cX2_takeCharacter 42 = .ok (.aload_n 0, 1) := by decide +kernel
theorem dX2_takeCharacter_43 : decode cX2_takeCharacter 43 = .ok (.bipush 124, 2) := by decide +kernel
theorem dX2_takeCharacter_45 : decode cX2_takeCharacter 45 = .ok (.invokestatic 45, 3) := by decide +kernel
theorem dX2_takeCharacter_48 : decode cX2_takeCharacter 48 = .ok (.invokevirtual 49, 3) := by decide +kernel
theorem dX2_takeCharacter_51 : decode cX2_takeCharacter 51 = .ok (.aload_n 0, 1) := by decide +kernel
theorem dX2_takeCharacter_52 : decode cX2_takeCharacter 52 = .ok (.invokevirtual 94, 3) := by decide +kernel
theorem dX2_takeCharacter_55 : decode cX2_takeCharacter 55 = .ok (.pop, 1) := by decide +kernel
theorem dX2_takeCharacter_56 : decode cX2_takeCharacter 56 = .ok (.goto 24, 3) := by decide +kernel
theorem dX2_takeCharacter_59 : decode cX2_takeCharacter 59 = .ok (.iload_n 1, 1) := by decide +kernel
theorem dX2_takeCharacter_60 : decode cX2_takeCharacter 60 = .ok (.bipush 124, 2) := by decide +kernel
theorem dX2_takeCharacter_62 : decode cX2_takeCharacter 62 = .ok (.if_icmp .ne 18, 3) := by decide +kernel
theorem dX2_takeCharacter_65 : decode cX2_takeCharacter 65 = .ok (.aload_n 0, 1) := by decide +kernel
theorem dX2_takeCharacter_66 : decode cX2_takeCharacter 66 = .ok (.bipush 124, 2) := by decide +kernel
theorem dX2_takeCharacter_68 : decode cX2_takeCharacter 68 = .ok (.invokestatic 45, 3) := by decide +kernel
theorem dX2_takeCharacter_71 : decode cX2_takeCharacter 71 = .ok (.invokevirtual 49, 3) := by decide +kernel
theorem dX2_takeCharacter_74 : decode cX2_takeCharacter 74 = .ok (.aload_n 0, 1) := by decide +kernel
theorem dX2_takeCharacter_75 : decode cX2_takeCharacter 75 = .ok (.bipush 124, 2) := by decide +kernel
theorem dX2_takeCharacter_77 : decode cX2_takeCharacter 77 = .ok (.invokevirtual 53, 3) := by decide +kernel
theorem dX2_takeCharacter_80 : decode cX2_takeCharacter 80 = .ok (.return_, 1) := by decide +kernel
theorem dX2_flush_0 : decode cX2_flush 0 = .ok (.aload_n 0, 1) := by decide +kernel
theorem dX2_flush_1 : decode cX2_flush 1 = .ok (.getfield 18, 3) := by decide +kernel
theorem dX2_flush_4 : decode cX2_flush 4 = .ok (.istore_n 2, 1) := by decide +kernel
theorem dX2_flush_5 : decode cX2_flush 5 = .ok (.iload_n 2, 1) := by decide +kernel
theorem dX2_flush_6 : decode cX2_flush 6 = .ok (.ifCond .le 28, 3) := by decide +kernel
theorem dX2_flush_9 : decode cX2_flush 9 = .ok (.aload_n 0, 1) := by decide +kernel
theorem dX2_flush_10 : decode cX2_flush 10 = .ok (.invokevirtual 112, 3) := by decide +kernel
theorem dX2_flush_13 : decode cX2_flush 13 = .ok (.invokestatic 45, 3) := by decide +kernel
theorem dX2_flush_16 : decode cX2_flush 16 = .ok (.iload_n 1, 1) := by decide +kernel
theorem dX2_flush_17 : decode cX2_flush 17 = .ok (.if_icmp .lt 17, 3) := by decide +kernel
theorem dX2_flush_20 : decode cX2_flush 20 = .ok (.aload_n 0, 1) := by decide +kernel
theorem dX2_flush_21 : decode cX2_flush 21 = .ok (.aload_n 0, 1) := by decide +kernel
theorem dX2_flush_22 : decode cX2_flush 22 = .ok (.invokevirtual 94, 3) := by decide +kernel
theorem dX2_flush_25 : decode cX2_flush 25 = .ok (.invokevirtual 109, 3) := by decide +kernel
theorem dX2_flush_28 : decode cX2_flush 28 = .ok (.iinc 2 (-1), 3) := by decide +kernel
theorem dX2_flush_31 : decode cX2_flush 31 = .ok (.goto (-26), 3) := by decide +kernel
theorem dX2_flush_34 : decode cX2_flush 34 = .ok (.return_, 1) := by decide +kernel
theorem dX2_level_0 : decode cX2_level 0 = .ok (.iload_n 0, 1) := by decide +kernel
theorem dX2_level_1 : decode cX2_level 1 = .ok (.bipush 46, 2) := by decide +kernel
theorem dX2_level_3 : decode cX2_level 3 = .ok (.if_icmp .ne 7, 3) := by decide +kernel
theorem dX2_level_6 : decode cX2_level 6 = .ok (.iconst 2, 1) := by decide +kernel
theorem dX2_level_7 : decode cX2_level 7 = .ok (.goto 14, 3) := by decide +kernel
theorem dX2_level_10 : decode cX2_level 10 = .ok (.iload_n 0, 1) := by decide +kernel
theorem dX2_level_11 : decode cX2_level 11 = .ok (.bipush 124, 2) := by decide +kernel
theorem dX2_level_13 : decode cX2_level 13 = .ok (.if_icmp .ne 7, 3) := by decide +kernel
theorem dX2_level_16 : decode cX2_level 16 = .ok (.iconst 1, 1) := by decide +kernel
theorem dX2_level_17 : decode cX2_level 17 = .ok (.goto 4, 3) := by decide +kernel
theorem dX2_level_20 : decode cX2_level 20 = .ok (.iconst 0, 1) := by decide +kernel
theorem dX2_level_21 : decode cX2_level 21 = .ok (.ireturn, 1) := by decide +kernel
theorem dX2_writeSigns_0 : decode cX2_writeSigns 0 = .ok (.aload_n 0, 1) := by decide +kernel
theorem dX2_writeSigns_1 : decode cX2_writeSigns 1 = .ok (.getfield 18, 3) := by decide +kernel
theorem dX2_writeSigns_4 : decode cX2_writeSigns 4 = .ok (.istore_n 2, 1) := by decide +kernel
theorem dX2_writeSigns_5 : decode cX2_writeSigns 5 = .ok (.iload_n 2, 1) := by decide +kernel
theorem dX2_writeSigns_6 : decode cX2_writeSigns 6 = .ok (.ifCond .le 36, 3) := by decide +kernel
theorem dX2_writeSigns_9 : decode cX2_writeSigns 9 = .ok (.aload_n 0, 1) := by decide +kernel
theorem dX2_writeSigns_10 : decode cX2_writeSigns 10 = .ok (.invokevirtual 112, 3) := by decide +kernel
theorem dX2_writeSigns_13 : decode cX2_writeSigns 13 = .ok (.bipush 40, 2) := by decide +kernel
theorem dX2_writeSigns_15 : decode cX2_writeSigns 15 = .ok (.if_icmp .eq 12, 3) := by decide +kernel
theorem dX2_writeSigns_18 : decode cX2_writeSigns 18 = .ok (.aload_n 0, 1) := by decide +kernel
theorem dX2_writeSigns_19 : decode cX2_writeSigns 19 = .ok (.invokevirtual 112, 3) := by decide +kernel
theorem dX2_writeSigns_22 : decode cX2_writeSigns 22 = .ok (.bipush 124, 2) := by decide +kernel
theorem dX2_writeSigns_24 : decode cX2_writeSigns 24 = .ok (.if_icmp .ne 18, 3) := by decide +kernel
theorem dX2_writeSigns_27 : decode cX2_writeSigns 27 = .ok (.aload_n 1, 1) := by decide +kernel
theorem dX2_writeSigns_28 : decode cX2_writeSigns 28 = .ok (.aload_n 0, 1) := by decide +kernel
theorem dX2_writeSigns_29 : decode cX2_writeSigns 29 = .ok (.invokevirtual 94, 3) := by decide +kernel
theorem dX2_writeSigns_32 : decode cX2_writeSigns 32 = .ok (.invokevirtual 115, 3) := by decide +kernel
theorem dX2_writeSigns_35 : decode cX2_writeSigns 35 = .ok (.pop, 1) := by decide +kernel
theorem dX2_writeSigns_36 : decode cX2_writeSigns 36 = .ok (.iinc 2 (-1), 3) := by decide +kernel
theorem dX2_writeSigns_39 : decode cX2_writeSigns 39 = .ok (.goto (-34), 3) := by decide +kernel
theorem dX2_writeSigns_42 : decode cX2_writeSigns 42 = .ok (.return_, 1) := by decide +kernel
theorem dX2_writePart_0 : decode cX2_writePart 0 = .ok (.iload_n 2, 1) := by decide +kernel
theorem dX2_writePart_1 : decode cX2_writePart 1 = .ok (.bipush 50, 2) := by decide +kernel
theorem dX2_writePart_3 : decode cX2_writePart 3 = .ok (.if_icmp .ne 10, 3) := by decide +kernel
theorem dX2_writePart_6 : decode cX2_writePart 6 = .ok (.iload_n 1, 1) := by decide +kernel
theorem dX2_writePart_7 : decode cX2_writePart 7 = .ok (.invokestatic 42, 3) := by decide +kernel
theorem dX2_writePart_10 : decode cX2_writePart 10 = .ok (.ifCond .eq 15, 3) := by decide +kernel
theorem dX2_writePart_13 : decode cX2_writePart 13 = .ok (.iload_n 2, 1) := by decide +kernel
theorem dX2_writePart_14 : decode cX2_writePart 14 = .ok (.bipush 49, 2) := by decide +kernel
theorem dX2_writePart_16 : decode cX2_writePart 16 = .ok (.if_icmp .ne 22, 3) := by decide +kernel
theorem dX2_writePart_19 : decode cX2_writePart 19 = .ok (.iload_n 1, 1) := by decide +kernel
theorem dX2_writePart_20 : decode cX2_writePart 20 = .ok (.bipush 124, 2) := by decide +kernel
theorem dX2_writePart_22 : decode cX2_writePart 22 = .ok (.if_icmp .ne 16, 3) := by decide +kernel
theorem dX2_writePart_25 : decode cX2_writePart 25 = .ok (.aload_n 3, 1) := by decide +kernel
theorem dX2_writePart_26 : decode cX2_writePart 26 = .ok (.bipush 41, 2) := by decide +kernel
theorem dX2_writePart_28 : decode cX2_writePart 28 = .ok (.invokevirtual 115, 3) := by decide +kernel
theorem dX2_writePart_31 : decode cX2_writePart 31 = .ok (.pop, 1) := by decide +kernel
theorem dX2_writePart_32 : decode cX2_writePart 32 = .ok (.aload_n 0, 1) := by decide +kernel
theorem dX2_writePart_33 : decode cX2_writePart 33 = .ok (.bipush 40, 2) := by decide +kernel
theorem dX2_writePart_35 : decode cX2_writePart 35 = .ok (.invokevirtual 53, 3) := by decide +kernel
theorem dX2_writePart_38 : decode cX2_writePart 38 = .ok (.iload_n 1, 1) := by decide +kernel
theorem dX2_writePart_39 : decode cX2_writePart 39 = .ok (.bipush 124, 2) := by decide +kernel
theorem dX2_writePart_41 : decode cX2_writePart 41 = .ok (.if_icmp .ne 24, 3) := by decide +kernel
theorem dX2_writePart_44 : decode cX2_writePart 44 = .ok (.aload_n 0, 1) := by decide +kernel
theorem dX2_writePart_45 : decode cX2_writePart 45 = .ok (.bipush 48, 2) := by decide +kernel
theorem dX2_writePart_47 : decode cX2_writePart 47 = .ok (.invokevirtual 53, 3) := by decide +kernel
theorem dX2_writePart_50 : decode cX2_writePart 50 = .ok (.aload_n 0, 1) := by decide +kernel
theorem dX2_writePart_51 : decode cX2_writePart 51 = .ok (.bipush 124, 2) := by decide +kernel
theorem dX2_writePart_53 : decode cX2_writePart 53 = .ok (.invokevirtual 53, 3) := by decide +kernel
theorem dX2_writePart_56 : decode cX2_writePart 56 = .ok (.aload_n 0, 1) := by decide +kernel
theorem dX2_writePart_57 : decode cX2_writePart 57 = .ok (.bipush 48, 2) := by decide +kernel
theorem dX2_writePart_59 : decode cX2_writePart 59 = .ok (.invokevirtual 53, 3) := by decide +kernel
theorem dX2_writePart_62 : decode cX2_writePart 62 = .ok (.goto 43, 3) := by decide +kernel
theorem dX2_writePart_65 : decode cX2_writePart 65 = .ok (.iload_n 1, 1) := by decide +kernel
theorem dX2_writePart_66 : decode cX2_writePart 66 = .ok (.bipush 46, 2) := by decide +kernel
theorem dX2_writePart_68 : decode cX2_writePart 68 = .ok (.if_icmp .ne 18, 3) := by decide +kernel
theorem dX2_writePart_71 : decode cX2_writePart 71 = .ok (.aload_n 0, 1) := by decide +kernel
theorem dX2_writePart_72 : decode cX2_writePart 72 = .ok (.bipush 49, 2) := by decide +kernel
theorem dX2_writePart_74 : decode cX2_writePart 74 = .ok (.invokevirtual 53, 3) := by decide +kernel
theorem dX2_writePart_77 : decode cX2_writePart 77 = .ok (.aload_n 0, 1) := by decide +kernel
theorem dX2_writePart_78 : decode cX2_writePart 78 = .ok (.bipush 49, 2) := by decide +kernel
theorem dX2_writePart_80 : decode cX2_writePart 80 = .ok (.invokevirtual 53, 3) := by decide +kernel
theorem dX2_writePart_83 : decode cX2_writePart 83 = .ok (.goto 22, 3) := by decide +kernel
theorem dX2_writePart_86 : decode cX2_writePart 86 = .ok (.aload_n 3, 1) := by decide +kernel
theorem dX2_writePart_87 : decode cX2_writePart 87 = .ok (.iload_n 1, 1) := by decide +kernel
theorem dX2_writePart_88 : decode cX2_writePart 88 = .ok (.invokevirtual 115, 3) := by decide +kernel
theorem dX2_writePart_91 : decode cX2_writePart 91 = .ok (.pop, 1) := by decide +kernel
theorem dX2_writePart_92 : decode cX2_writePart 92 = .ok (.iload_n 1, 1) := by decide +kernel
theorem dX2_writePart_93 : decode cX2_writePart 93 = .ok (.invokestatic 106, 3) := by decide +kernel
theorem dX2_writePart_96 : decode cX2_writePart 96 = .ok (.ifCond .eq 9, 3) := by decide +kernel
theorem dX2_writePart_99 : decode cX2_writePart 99 = .ok (.aload_n 0, 1) := by decide +kernel
theorem dX2_writePart_100 : decode cX2_writePart 100 = .ok (.bipush 50, 2) := by decide +kernel
theorem dX2_writePart_102 : decode cX2_writePart 102 = .ok (.invokevirtual 53, 3) := by decide +kernel
theorem dX2_writePart_105 : decode cX2_writePart 105 = .ok (.return_, 1) := by decide +kernel
theorem dX2_emit_0 : decode cX2_emit 0 = .ok (.aload_n 0, 1) := by decide +kernel
theorem dX2_emit_1 : decode cX2_emit 1 = .ok (.getfield 22, 3) := by decide +kernel
theorem dX2_emit_4 : decode cX2_emit 4 = .ok (.ifCond .lt 35, 3) := by decide +kernel
theorem dX2_emit_7 : decode cX2_emit 7 = .ok (.aload_n 0, 1) := by decide +kernel
theorem dX2_emit_8 : decode cX2_emit 8 = .ok (.getfield 22, 3) := by decide +kernel
theorem dX2_emit_11 : decode cX2_emit 11 = .ok (.aload_n 0, 1) := by decide +kernel
theorem dX2_emit_12 : decode cX2_emit 12 = .ok (.getfield 15, 3) := by decide +kernel
theorem dX2_emit_15 : decode cX2_emit 15 = .ok (.arraylength, 1) := by decide +kernel
theorem dX2_emit_16 : decode cX2_emit 16 = .ok (.if_icmp .ge 23, 3) := by decide +kernel
theorem dX2_emit_19 : decode cX2_emit 19 = .ok (.aload_n 0, 1) := by decide +kernel
theorem dX2_emit_20 : decode cX2_emit 20 = .ok (.getfield 15, 3) := by decide +kernel
theorem dX2_emit_23 : decode cX2_emit 23 = .ok (.aload_n 0, 1) := by decide +kernel
theorem dX2_emit_24 : decode cX2_emit 24 = .ok (.getfield 22, 3) := by decide +kernel
theorem dX2_emit_27 : decode cX2_emit 27 = .ok (.iload_n 1, 1) := by decide +kernel
theorem dX2_emit_28 : decode cX2_emit 28 = .ok (.castore, 1) := by decide +kernel
theorem dX2_emit_29 : decode cX2_emit 29 = .ok (.aload_n 0, 1) := by decide +kernel
theorem dX2_emit_30 : decode cX2_emit 30 = .ok (.dup, 1) := by decide +kernel
theorem dX2_emit_31 : decode cX2_emit 31 = .ok (.getfield 22, 3) := by decide +kernel
theorem dX2_emit_34 : decode cX2_emit 34 = .ok (.iconst 1, 1) := by decide +kernel
theorem dX2_emit_35 : decode cX2_emit 35 = .ok (.iadd, 1) := by decide +kernel
theorem dX2_emit_36 : decode cX2_emit 36 = .ok (.putfield 22, 3) := by decide +kernel
theorem dX2_emit_39 : decode cX2_emit 39 = .ok (.return_, 1) := by decide +kernel
theorem dX2_push_0 : decode cX2_push 0 = .ok (.aload_n 0, 1) := by decide +kernel
theorem dX2_push_1 : decode cX2_push 1 = .ok (.getfield 18, 3) := by decide +kernel
theorem dX2_push_4 : decode cX2_push 4 = .ok (.ifCond .lt 35, 3) := by decide +kernel
theorem dX2_push_7 : decode cX2_push 7 = .ok (.aload_n 0, 1) := by decide +kernel
theorem dX2_push_8 : decode cX2_push 8 = .ok (.getfield 18, 3) := by decide +kernel
theorem dX2_push_11 : decode cX2_push 11 = .ok (.aload_n 0, 1) := by decide +kernel
theorem dX2_push_12 : decode cX2_push 12 = .ok (.getfield 9, 3) := by decide +kernel
theorem dX2_push_15 : decode cX2_push 15 = .ok (.arraylength, 1) := by decide +kernel
theorem dX2_push_16 : decode cX2_push 16 = .ok (.if_icmp .ge 23, 3) := by decide +kernel
theorem dX2_push_19 : decode cX2_push 19 = .ok (.aload_n 0, 1) := by decide +kernel
theorem dX2_push_20 : decode cX2_push 20 = .ok (.getfield 9, 3) := by decide +kernel
theorem dX2_push_23 : decode cX2_push 23 = .ok (.aload_n 0, 1) := by decide +kernel
theorem dX2_push_24 : decode cX2_push 24 = .ok (.getfield 18, 3) := by decide +kernel
theorem dX2_push_27 : decode cX2_push 27 = .ok (.iload_n 1, 1) := by decide +kernel
theorem dX2_push_28 : decode cX2_push 28 = .ok (.castore, 1) := by decide +kernel
theorem dX2_push_29 : decode cX2_push 29 = .ok (.aload_n 0, 1) := by decide +kernel
theorem dX2_push_30 : decode cX2_push 30 = .ok (.dup, 1) := by decide +kernel
theorem dX2_push_31 : decode cX2_push 31 = .ok (.getfield 18, 3) := by decide +kernel
theorem dX2_push_34 : decode cX2_push 34 = .ok (.iconst 1, 1) := by decide +kernel
theorem dX2_push_35 : decode cX2_push 35 = .ok (.iadd, 1) := by decide +kernel
theorem dX2_push_36 : decode cX2_push 36 = .ok (.putfield 18, 3) := by decide +kernel
theorem dX2_push_39 : decode cX2_push 39 = .ok (.return_, 1) := by decide +kernel
theorem dX2_top_0 : decode cX2_top 0 = .ok (.aload_n 0, 1) := by decide +kernel
theorem dX2_top_1 : decode cX2_top 1 = .ok (.getfield 18, 3) := by decide +kernel
theorem dX2_top_4 : decode cX2_top 4 = .ok (.ifCond .le 15, 3) := by decide +kernel
theorem dX2_top_7 : decode cX2_top 7 = .ok (.aload_n 0, 1) := by decide +kernel
theorem dX2_top_8 : decode cX2_top 8 = .ok (.getfield 18, 3) := by decide +kernel
theorem dX2_top_11 : decode cX2_top 11 = .ok (.aload_n 0, 1) := by decide +kernel
theorem dX2_top_12 : decode cX2_top 12 = .ok (.getfield 9, 3) := by decide +kernel
theorem dX2_top_15 : decode cX2_top 15 = .ok (.arraylength, 1) := by decide +kernel
theorem dX2_top_16 : decode cX2_top 16 = .ok (.if_icmp .le 7, 3) := by decide +kernel
theorem dX2_top_19 : decode cX2_top 19 = .ok (.iconst 0, 1) := by decide +kernel
theorem dX2_top_20 : decode cX2_top 20 = .ok (.goto 14, 3) := by decide +kernel
theorem dX2_top_23 : decode cX2_top 23 = .ok (.aload_n 0, 1) := by decide +kernel
theorem dX2_top_24 : decode cX2_top 24 = .ok (.getfield 9, 3) := by decide +kernel
theorem dX2_top_27 : decode cX2_top 27 = .ok (.aload_n 0, 1) := by decide +kernel
theorem dX2_top_28 : decode cX2_top 28 = .ok (.getfield 18, 3) := by decide +kernel
theorem dX2_top_31 : decode cX2_top 31 = .ok (.iconst 1, 1) := by decide +kernel
theorem dX2_top_32 : decode cX2_top 32 = .ok (.isub, 1) := by decide +kernel
theorem dX2_top_33 : decode cX2_top 33 = .ok (.caload, 1) := by decide +kernel
theorem dX2_top_34 : decode cX2_top 34 = .ok (.ireturn, 1) := by decide +kernel
theorem dX2_pop_0 : decode cX2_pop 0 = .ok (.aload_n 0, 1) := by decide +kernel
theorem dX2_pop_1 : decode cX2_pop 1 = .ok (.invokevirtual 112, 3) := by decide +kernel
theorem dX2_pop_4 : decode cX2_pop 4 = .ok (.istore_n 1, 1) := by decide +kernel
theorem dX2_pop_5 : decode cX2_pop 5 = .ok (.aload_n 0, 1) := by decide +kernel
theorem dX2_pop_6 : decode cX2_pop 6 = .ok (.aload_n 0, 1) := by decide +kernel
theorem dX2_pop_7 : decode cX2_pop 7 = .ok (.getfield 18, 3) := by decide +kernel
theorem dX2_pop_10 : decode cX2_pop 10 = .ok (.iconst 1, 1) := by decide +kernel
theorem dX2_pop_11 : decode cX2_pop 11 = .ok (.isub, 1) := by decide +kernel
theorem dX2_pop_12 : decode cX2_pop 12 = .ok (.iconst 0, 1) := by decide +kernel
theorem dX2_pop_13 : decode cX2_pop 13 = .ok (.invokestatic 66, 3) := by decide +kernel
theorem dX2_pop_16 : decode cX2_pop 16 = .ok (.putfield 18, 3) := by decide +kernel
theorem dX2_pop_19 : decode cX2_pop 19 = .ok (.iload_n 1, 1) := by decide +kernel
theorem dX2_pop_20 : decode cX2_pop 20 = .ok (.ireturn, 1) := by decide +kernel
theorem dX3_init_0 : decode cX3_init 0 = .ok (.aload_n 0, 1) := by decide +kernel
theorem dX3_init_1 : decode cX3_init 1 = .ok (.invokespecial 3, 3) := by decide +kernel
theorem dX3_init_4 : decode cX3_init 4 = .ok (.aload_n 0, 1) := by decide +kernel
theorem dX3_init_5 : decode cX3_init 5 = .ok (.sipush 16641, 3) := by decide +kernel
theorem dX3_init_8 : decode cX3_init 8 = .ok (.newarray .boolean, 2) := by decide +kernel
theorem dX3_init_10 : decode cX3_init 10 = .ok (.putfield 11, 3) := by decide +kernel
theorem dX3_init_13 : decode cX3_init 13 = .ok (.aload_n 0, 1) := by decide +kernel
theorem dX3_init_14 : decode cX3_init 14 = .ok (.sipush 16641, 3) := by decide +kernel
theorem dX3_init_17 : decode cX3_init 17 = .ok (.newarray .int, 2) := by decide +kernel
theorem dX3_init_19 : decode cX3_init 19 = .ok (.putfield 15, 3) := by decide +kernel
theorem dX3_init_22 : decode cX3_init 22 = .ok (.aload_n 0, 1) := by decide +kernel
theorem dX3_init_23 : decode cX3_init 23 = .ok (.sipush 16641, 3) := by decide +kernel
theorem dX3_init_26 : decode cX3_init 26 = .ok (.newarray .int, 2) := by decide +kernel
theorem dX3_init_28 : decode cX3_init 28 = .ok (.putfield 19, 3) := by decide +kernel
theorem dX3_init_31 : decode cX3_init 31 = .ok (.aload_n 0, 1) := by decide +kernel
theorem dX3_init_32 : decode cX3_init 32 = .ok (.iconst 0, 1) := by decide +kernel
theorem dX3_init_33 : decode cX3_init 33 = .ok (.putfield 22, 3) := by decide +kernel
theorem dX3_init_36 : decode cX3_init 36 = .ok (.aload_n 0, 1) := by decide +kernel
theorem dX3_init_37 : decode cX3_init 37 = .ok (.iconst (-1), 1) := by decide +kernel
theorem dX3_init_38 : decode cX3_init 38 = .ok (.putfield 26, 3) := by decide +kernel
theorem dX3_init_41 : decode cX3_init 41 = .ok (.return_, 1) := by decide +kernel
theorem dX3_countToldApart_0 : decode cX3_countToldApart 0 = .ok (.aload_n 1, 1) := by decide +kernel
theorem dX3_countToldApart_1 : decode cX3_countToldApart 1 = .ok (.invokevirtual 29, 3) := by decide +kernel
theorem dX3_countToldApart_4 : decode cX3_countToldApart 4 = .ok (.sipush 129, 3) := by decide +kernel
theorem dX3_countToldApart_7 : decode cX3_countToldApart 7 = .ok (.invokestatic 35, 3) := by decide +kernel
theorem dX3_countToldApart_10 : decode cX3_countToldApart 10 = .ok (.istore_n 2, 1) := by decide +kernel
theorem dX3_countToldApart_11 : decode cX3_countToldApart 11 = .ok (.iconst 0, 1) := by decide +kernel
theorem dX3_countToldApart_12 : decode cX3_countToldApart 12 = .ok (.istore_n 3, 1) := by decide +kernel
theorem dX3_countToldApart_13 : decode cX3_countToldApart 13 = .ok (.iload_n 3, 1) := by decide +kernel
theorem dX3_countToldApart_14 : decode cX3_countToldApart 14 = .ok (.iload_n 2, 1) := by decide +kernel
theorem dX3_countToldApart_15 : decode cX3_countToldApart 15 = .ok (.if_icmp .ge 54, 3) := by decide +kernel
theorem dX3_countToldApart_18 : decode cX3_countToldApart 18 = .ok (.iconst 0, 1) := by decide +kernel
theorem dX3_countToldApart_19 : decode cX3_countToldApart 19 = .ok (.istore 4, 2) := by decide +kernel
theorem dX3_countToldApart_21 : decode cX3_countToldApart 21 = .ok (.iload 4, 2) := by decide +kernel
theorem dX3_countToldApart_23 : decode cX3_countToldApart 23 = .ok (.iload_n 2, 1) := by decide +kernel
theorem dX3_countToldApart_24 : decode cX3_countToldApart 24 = .ok (.if_icmp .ge 39, 3) := by decide +kernel
theorem dX3_countToldApart_27 : decode cX3_countToldApart 27 = .ok (.aload_n 0, 1) := by decide +kernel
theorem dX3_countToldApart_28 : decode cX3_countToldApart 28 = .ok (.getfield 11, 3) := by decide +kernel
theorem dX3_countToldApart_31 : decode cX3_countToldApart 31 = .ok (.iload_n 3, 1) := by decide +kernel
theorem dX3_countToldApart_32 : decode cX3_countToldApart 32 = .ok (.iload_n 2, 1) := by decide +kernel
theorem dX3_countToldApart_33 : decode cX3_countToldApart 33 = .ok (.imul, 1) := by decide +kernel
theorem dX3_countToldApart_34 : decode cX3_countToldApart 34 = .ok (.iload 4, 2) := by decide +kernel
theorem dX3_countToldApart_36 : decode cX3_countToldApart 36 = .ok (.iadd, 1) := by decide +kernel
theorem dX3_countToldApart_37 : decode cX3_countToldApart 37 = .ok (.aload_n 1, 1) := by decide +kernel
theorem dX3_countToldApart_38 : decode cX3_countToldApart 38 = .ok (.iload_n 3, 1) := by decide +kernel
theorem dX3_countToldApart_39 : decode cX3_countToldApart 39 = .ok (.invokevirtual 41, 3) := by decide +kernel
theorem dX3_countToldApart_42 : decode cX3_countToldApart 42 = .ok (.aload_n 1, 1) := by decide +kernel
theorem dX3_countToldApart_43 : decode cX3_countToldApart 43 = .ok (.iload 4, 2) := by decide +kernel
theorem dX3_countToldApart_45 : decode cX3_countToldApart 45 = .ok (.invokevirtual 41, 3) := by decide +kernel
theorem dX3_countToldApart_48 : decode cX3_countToldApart 48 = .ok (.if_icmp .eq 7, 3) := by decide +kernel
theorem dX3_countToldApart_51 : decode cX3_countToldApart 51 = .ok (.iconst 1, 1) := by decide +kernel
theorem dX3_countToldApart_52 : decode cX3_countToldApart 52 = .ok (.goto 4, 3) := by decide +kernel
theorem dX3_countToldApart_55 : decode cX3_countToldApart 55 = .ok (.iconst 0, 1) := by decide +kernel
theorem dX3_countToldApart_56 : decode cX3_countToldApart 56 = .ok (.bastore, 1) := by decide +kernel
theorem dX3_countToldApart_57 : decode cX3_countToldApart 57 = .ok (.iinc 4 1, 3) := by decide +kernel
theorem dX3_countToldApart_60 : decode cX3_countToldApart 60 = .ok (.goto (-39), 3) := by decide +kernel
theorem dX3_countToldApart_63 : decode cX3_countToldApart 63 = .ok (.iinc 3 1, 3) := by decide +kernel
theorem dX3_countToldApart_66 : decode cX3_countToldApart 66 = .ok (.goto (-53), 3) := by decide +kernel
theorem dX3_countToldApart_69 : decode cX3_countToldApart 69 = .ok (.iconst 1, 1) := by decide +kernel
theorem dX3_countToldApart_70 : decode cX3_countToldApart 70 = .ok (.istore_n 3, 1) := by decide +kernel
theorem dX3_countToldApart_71 : decode cX3_countToldApart 71 = .ok (.iconst 0, 1) := by decide +kernel
theorem dX3_countToldApart_72 : decode cX3_countToldApart 72 = .ok (.istore 4, 2) := by decide +kernel
theorem dX3_countToldApart_74 : decode cX3_countToldApart 74 = .ok (.iload_n 3, 1) := by decide +kernel
theorem dX3_countToldApart_75 : decode cX3_countToldApart 75 = .ok (.ifCond .eq 24, 3) := by decide +kernel
theorem dX3_countToldApart_78 : decode cX3_countToldApart 78 = .ok (.iload 4, 2) := by decide +kernel
theorem dX3_countToldApart_80 : decode cX3_countToldApart 80 = .ok (.sipush 129, 3) := by decide +kernel
theorem dX3_countToldApart_83 : decode cX3_countToldApart 83 = .ok (.if_icmp .ge 16, 3) := by decide +kernel
theorem dX3_countToldApart_86 : decode cX3_countToldApart 86 = .ok (.aload_n 0, 1) := by decide +kernel
theorem dX3_countToldApart_87 : decode cX3_countToldApart 87 = .ok (.aload_n 1, 1) := by decide +kernel
theorem dX3_countToldApart_88 : decode cX3_countToldApart 88 = .ok (.iload_n 2, 1) := by decide +kernel
theorem dX3_countToldApart_89 : decode cX3_countToldApart 89 = .ok (.invokevirtual 45, 3) := by decide +kernel
theorem dX3_countToldApart_92 : decode cX3_countToldApart 92 = .ok (.istore_n 3, 1) := by decide +kernel
theorem dX3_countToldApart_93 : decode cX3_countToldApart 93 = .ok (.iinc 4 1, 3) := by decide +kernel
theorem dX3_countToldApart_96 : decode cX3_countToldApart 96 = .ok (.goto (-22), 3) := by decide +kernel
theorem dX3_countToldApart_99 : decode cX3_countToldApart 99 = .ok (.iconst 0, 1) := by decide +kernel
theorem dX3_countToldApart_100 : decode cX3_countToldApart 100 = .ok (.istore 4, 2) := by decide +kernel
theorem dX3_countToldApart_102 : decode cX3_countToldApart 102 = .ok (.iconst 0, 1) := by decide +kernel
theorem dX3_countToldApart_103 : decode cX3_countToldApart 103 = .ok (.istore 5, 2) := by decide +kernel
theorem dX3_countToldApart_105 : decode cX3_countToldApart 105 = .ok (.iload 5, 2) := by decide +kernel
theorem dX3_countToldApart_107 : decode cX3_countToldApart 107 = .ok (.iload_n 2, 1) := by decide +kernel
theorem dX3_countToldApart_108 : decode cX3_countToldApart 108 = .ok (.if_icmp .ge 29, 3) := by decide +kernel
theorem dX3_countToldApart_111 : decode cX3_countToldApart 111 = .ok (.iload 4, 2) := by decide +kernel
theorem dX3_countToldApart_113 : decode cX3_countToldApart 113 = .ok (.aload_n 0, 1) := by decide +kernel
theorem dX3_countToldApart_114 : decode cX3_countToldApart 114 = .ok (.iload 5, 2) := by decide +kernel
theorem dX3_countToldApart_116 : decode cX3_countToldApart 116 = .ok (.iload_n 2, 1) := by decide +kernel
theorem dX3_countToldApart_117 : decode cX3_countToldApart 117 = .ok (.invokevirtual 49, 3) := by decide +kernel
theorem dX3_countToldApart_120 : decode cX3_countToldApart 120 = .ok (.ifCond .eq 7, 3) := by decide +kernel
theorem dX3_countToldApart_123 : decode cX3_countToldApart 123 = .ok (.iconst 1, 1) := by decide +kernel
theorem dX3_countToldApart_124 : decode cX3_countToldApart 124 = .ok (.goto 4, 3) := by decide +kernel
theorem dX3_countToldApart_127 : decode cX3_countToldApart 127 = .ok (.iconst 0, 1) := by decide +kernel
theorem dX3_countToldApart_128 : decode cX3_countToldApart 128 = .ok (.iadd, 1) := by decide +kernel
theorem dX3_countToldApart_129 : decode cX3_countToldApart 129 = .ok (.istore 4, 2) := by decide +kernel
theorem dX3_countToldApart_131 : decode cX3_countToldApart 131 = .ok (.iinc 5 1, 3) := by decide +kernel
theorem dX3_countToldApart_134 : decode cX3_countToldApart 134 = .ok (.goto (-29), 3) := by decide +kernel
theorem dX3_countToldApart_137 : decode cX3_countToldApart 137 = .ok (.iload 4, 2) := by decide +kernel
theorem dX3_countToldApart_139 : decode cX3_countToldApart 139 = .ok (.ireturn, 1) := by decide +kernel
theorem dX3_findApart_0 : decode cX3_findApart 0 = .ok (.aload_n 0, 1) := by decide +kernel
theorem dX3_findApart_1 : decode cX3_findApart 1 = .ok (.aload_n 1, 1) := by decide +kernel
theorem dX3_findApart_2 : decode cX3_findApart 2 = .ok (.aload_n 2, 1) := by decide +kernel
theorem dX3_findApart_3 : decode cX3_findApart 3 = .ok (.iconst 0, 1) := by decide +kernel
theorem dX3_findApart_4 : decode cX3_findApart 4 = .ok (.invokevirtual 53, 3) := by decide +kernel
theorem dX3_findApart_7 : decode cX3_findApart 7 = .ok (.ireturn, 1) := by decide +kernel
theorem dX3_findOnlyFirst_0 : decode cX3_findOnlyFirst 0 = .ok (.aload_n 0, 1) := by decide +kernel
theorem dX3_findOnlyFirst_1 : decode cX3_findOnlyFirst 1 = .ok (.aload_n 1, 1) := by decide +kernel
theorem dX3_findOnlyFirst_2 : decode cX3_findOnlyFirst 2 = .ok (.aload_n 2, 1) := by decide +kernel
theorem dX3_findOnlyFirst_3 : decode cX3_findOnlyFirst 3 = .ok (.iconst 1, 1) := by decide +kernel
theorem dX3_findOnlyFirst_4 : decode cX3_findOnlyFirst 4 = .ok (.invokevirtual 53, 3) := by decide +kernel
theorem dX3_findOnlyFirst_7 : decode cX3_findOnlyFirst 7 = .ok (.ireturn, 1) := by decide +kernel
theorem dX3_foundLength_0 : decode cX3_foundLength 0 = .ok (.iconst 0, 1) := by decide +kernel
theorem dX3_foundLength_1 : decode cX3_foundLength 1 = .ok (.istore_n 1, 1) := by decide +kernel
theorem dX3_foundLength_2 : decode cX3_foundLength 2 = .ok (.aload_n 0, 1) := by decide +kernel
theorem dX3_foundLength_3 : decode cX3_foundLength 3 = .ok (.getfield 26, 3) := by decide +kernel
theorem dX3_foundLength_6 : decode cX3_foundLength 6 = .ok (.istore_n 2, 1) := by decide +kernel
theorem dX3_foundLength_7 : decode cX3_foundLength 7 = .ok (.iload_n 2, 1) := by decide +kernel
theorem dX3_foundLength_8 : decode cX3_foundLength 8 = .ok (.ifCond .le 32, 3) := by decide +kernel
theorem dX3_foundLength_11 : decode cX3_foundLength 11 = .ok (.iload_n 2, 1) := by decide +kernel
theorem dX3_foundLength_12 : decode cX3_foundLength 12 = .ok (.sipush 16641, 3) := by decide +kernel
theorem dX3_foundLength_15 : decode cX3_foundLength 15 = .ok (.if_icmp .ge 25, 3) := by decide +kernel
theorem dX3_foundLength_18 : decode cX3_foundLength 18 = .ok (.iload_n 1, 1) := by decide +kernel
theorem dX3_foundLength_19 : decode cX3_foundLength 19 = .ok (.sipush 16641, 3) := by decide +kernel
theorem dX3_foundLength_22 : decode cX3_foundLength 22 = .ok (.if_icmp .ge 18, 3) := by decide +kernel
theorem dX3_foundLength_25 : decode cX3_foundLength 25 = .ok (.aload_n 0, 1) := by decide +kernel
theorem dX3_foundLength_26 : decode cX3_foundLength 26 = .ok (.getfield 19, 3) := by decide +kernel
theorem dX3_foundLength_29 : decode cX3_foundLength 29 = .ok (.iload_n 2, 1) := by decide +kernel
theorem dX3_foundLength_30 : decode cX3_foundLength 30 = .ok (.iaload, 1) := by decide +kernel
theorem dX3_foundLength_31 : decode cX3_foundLength 31 = .ok (.iconst 3, 1) := by decide +kernel
theorem dX3_foundLength_32 : decode cX3_foundLength 32 = .ok (.idiv, 1) := by decide +kernel
theorem dX3_foundLength_33 : decode cX3_foundLength 33 = .ok (.istore_n 2, 1) := by decide +kernel
theorem dX3_foundLength_34 : decode cX3_foundLength 34 = .ok (.iinc 1 1, 3) := by decide +kernel
theorem dX3_foundLength_37 : decode cX3_foundLength 37 = .ok (.goto (-30), 3) := by decide +kernel
theorem dX3_foundLength_40 : decode cX3_foundLength 40 = .ok (.iload_n 1, 1) := by decide +kernel
theorem dX3_foundLength_41 : decode cX3_foundLength 41 = .ok (.ireturn, 1) := by decide +kernel
theorem dX3_writeFound_0 : decode cX3_writeFound 0 = .ok (.aload_n 1, 1) := by decide +kernel
theorem dX3_writeFound_1 : decode cX3_writeFound 1 = .ok (.iconst 0, 1) := by decide +kernel
theorem dX3_writeFound_2 : decode cX3_writeFound 2 = .ok (.invokevirtual 57, 3) := by decide +kernel
theorem dX3_writeFound_5 : decode cX3_writeFound 5 = .ok (.aload_n 0, 1) := by decide +kernel
theorem dX3_writeFound_6 : decode cX3_writeFound 6 = .ok (.getfield 26, 3) := by decide +kernel
theorem dX3_writeFound_9 : decode cX3_writeFound 9 = .ok (.istore_n 2, 1) := by decide +kernel
theorem dX3_writeFound_10 : decode cX3_writeFound 10 = .ok (.iload_n 2, 1) := by decide +kernel
theorem dX3_writeFound_11 : decode cX3_writeFound 11 = .ok (.ifCond .le 49, 3) := by decide +kernel
theorem dX3_writeFound_14 : decode cX3_writeFound 14 = .ok (.iload_n 2, 1) := by decide +kernel
theorem dX3_writeFound_15 : decode cX3_writeFound 15 = .ok (.sipush 16641, 3) := by decide +kernel
theorem dX3_writeFound_18 : decode cX3_writeFound 18 = .ok (.if_icmp .ge 42, 3) := by decide +kernel
theorem dX3_writeFound_21 : decode cX3_writeFound 21 = .ok (.aload_n 1, 1) := by decide +kernel
theorem dX3_writeFound_22 : decode cX3_writeFound 22 = .ok (.invokevirtual 63, 3) := by decide +kernel
theorem dX3_writeFound_25 : decode cX3_writeFound 25 = .ok (.sipush 16641, 3) := by decide +kernel
theorem dX3_writeFound_28 : decode cX3_writeFound 28 = .ok (.if_icmp .ge 32, 3) := by decide +kernel
theorem dX3_writeFound_31 : decode cX3_writeFound 31 = .ok (.aload_n 1, 1) := by decide +kernel
theorem dX3_writeFound_32 : decode cX3_writeFound 32 = .ok (.bipush 97, 2) := by decide +kernel
theorem dX3_writeFound_34 : decode cX3_writeFound 34 = .ok (.aload_n 0, 1) := by decide +kernel
theorem dX3_writeFound_35 : decode cX3_writeFound 35 = .ok (.getfield 19, 3) := by decide +kernel
theorem dX3_writeFound_38 : decode cX3_writeFound 38 = .ok (.iload_n 2, 1) := by decide +kernel
theorem dX3_writeFound_39 : decode cX3_writeFound 39 = .ok (.iaload, 1) := by decide +kernel
theorem dX3_writeFound_40 : decode cX3_writeFound 40 = .ok (.iconst 3, 1) := by decide +kernel
theorem dX3_writeFound_41 : decode cX3_writeFound 41 = .ok (.irem, 1) := by decide +kernel
theorem dX3_writeFound_42 : decode cX3_writeFound 42 = .ok (.iadd, 1) := by decide +kernel
theorem dX3_writeFound_43 : decode cX3_writeFound 43 = .ok (.i2c, 1) := by decide +kernel
theorem dX3_writeFound_44 : decode cX3_writeFound 44 = .ok (.invokevirtual 66, 3) := by decide +kernel
theorem dX3_writeFound_47 : decode cX3_writeFound 47 = .ok (.pop, 1) := by decide +kernel
theorem dX3_writeFound_48 : decode cX3_writeFound 48 = .ok (.aload_n 0, 1) := by decide +kernel
theorem dX3_writeFound_49 : decode cX3_writeFound 49 = .ok (.getfield 19, 3) := by decide +kernel
theorem dX3_writeFound_52 : decode cX3_writeFound 52 = .ok (.iload_n 2, 1) := by decide +kernel
theorem dX3_writeFound_53 : decode cX3_writeFound 53 = .ok (.iaload, 1) := by decide +kernel
theorem dX3_writeFound_54 : decode cX3_writeFound 54 = .ok (.iconst 3, 1) := by decide +kernel
theorem dX3_writeFound_55 : decode cX3_writeFound 55 = .ok (.idiv, 1) := by decide +kernel
theorem dX3_writeFound_56 : decode cX3_writeFound 56 = .ok (.istore_n 2, 1) := by decide +kernel
theorem dX3_writeFound_57 : decode cX3_writeFound 57 = .ok (.goto (-47), 3) := by decide +kernel
theorem dX3_writeFound_60 : decode cX3_writeFound 60 = .ok (.aload_n 1, 1) := by decide +kernel
theorem dX3_writeFound_61 : decode cX3_writeFound 61 = .ok (.invokevirtual 70, 3) := by decide +kernel
theorem dX3_writeFound_64 : decode cX3_writeFound 64 = .ok (.pop, 1) := by decide +kernel
theorem dX3_writeFound_65 : decode cX3_writeFound 65 = .ok (.return_, 1) := by decide +kernel
theorem dX3_markMore_0 : decode cX3_markMore 0 = .ok (.iconst 0, 1) := by decide +kernel
theorem dX3_markMore_1 : decode cX3_markMore 1 = .ok (.istore_n 3, 1) := by decide +kernel
theorem dX3_markMore_2 : decode cX3_markMore 2 = .ok (.iconst 0, 1) := by decide +kernel
theorem dX3_markMore_3 : decode cX3_markMore 3 = .ok (.istore 4, 2) := by decide +kernel
theorem dX3_markMore_5 : decode cX3_markMore 5 = .ok (.iload 4, 2) := by decide +kernel
theorem dX3_markMore_7 : decode cX3_markMore 7 = .ok (.iload_n 2, 1) := by decide +kernel
theorem dX3_markMore_8 : decode cX3_markMore 8 = .ok (.if_icmp .ge 73, 3) := by decide +kernel
theorem dX3_markMore_11 : decode cX3_markMore 11 = .ok (.iconst 0, 1) := by decide +kernel
theorem dX3_markMore_12 : decode cX3_markMore 12 = .ok (.istore 5, 2) := by decide +kernel
theorem dX3_markMore_14 : decode cX3_markMore 14 = .ok (.iload 5, 2) := by decide +kernel
theorem dX3_markMore_16 : decode cX3_markMore 16 = .ok (.iload 4, 2) := by decide +kernel
theorem dX3_markMore_18 : decode cX3_markMore 18 = .ok (.if_icmp .ge 57, 3) := by decide +kernel
theorem dX3_markMore_21 : decode cX3_markMore 21 = .ok (.aload_n 0, 1) := by decide +kernel
theorem dX3_markMore_22 : decode cX3_markMore 22 = .ok (.iload 4, 2) := by decide +kernel
theorem dX3_markMore_24 : decode cX3_markMore 24 = .ok (.iload 5, 2) := by decide +kernel
theorem dX3_markMore_26 : decode cX3_markMore 26 = .ok (.iload_n 2, 1) := by decide +kernel
theorem dX3_markMore_27 : decode cX3_markMore 27 = .ok (.invokevirtual 74, 3) := by decide +kernel
theorem dX3_markMore_30 : decode cX3_markMore 30 = .ok (.ifCond .ne 39, 3) := by decide +kernel
theorem dX3_markMore_33 : decode cX3_markMore 33 = .ok (.aload_n 0, 1) := by decide +kernel
theorem dX3_markMore_34 : decode cX3_markMore 34 = .ok (.aload_n 1, 1) := by decide +kernel
theorem dX3_markMore_35 : decode cX3_markMore 35 = .ok (.iload 4, 2) := by decide +kernel
theorem dX3_markMore_37 : decode cX3_markMore 37 = .ok (.iload 5, 2) := by decide +kernel
theorem dX3_markMore_39 : decode cX3_markMore 39 = .ok (.invokevirtual 78, 3) := by decide +kernel
theorem dX3_markMore_42 : decode cX3_markMore 42 = .ok (.ifCond .eq 27, 3) := by decide +kernel
theorem dX3_markMore_45 : decode cX3_markMore 45 = .ok (.aload_n 0, 1) := by decide +kernel
theorem dX3_markMore_46 : decode cX3_markMore 46 = .ok (.iload 4, 2) := by decide +kernel
theorem dX3_markMore_48 : decode cX3_markMore 48 = .ok (.iload_n 2, 1) := by decide +kernel
theorem dX3_markMore_49 : decode cX3_markMore 49 = .ok (.imul, 1) := by decide +kernel
theorem dX3_markMore_50 : decode cX3_markMore 50 = .ok (.iload 5, 2) := by decide +kernel
theorem dX3_markMore_52 : decode cX3_markMore 52 = .ok (.iadd, 1) := by decide +kernel
theorem dX3_markMore_53 : decode cX3_markMore 53 = .ok (.invokevirtual 82, 3) := by decide +kernel
theorem dX3_markMore_56 : decode cX3_markMore 56 = .ok (.aload_n 0, 1) := by decide +kernel
theorem dX3_markMore_57 : decode cX3_markMore 57 = .ok (.iload 5, 2) := by decide +kernel
theorem dX3_markMore_59 : decode cX3_markMore 59 = .ok (.iload_n 2, 1) := by decide +kernel
theorem dX3_markMore_60 : decode cX3_markMore 60 = .ok (.imul, 1) := by decide +kernel
theorem dX3_markMore_61 : decode cX3_markMore 61 = .ok (.iload 4, 2) := by decide +kernel
theorem dX3_markMore_63 : decode cX3_markMore 63 = .ok (.iadd, 1) := by decide +kernel
theorem dX3_markMore_64 : decode cX3_markMore 64 = .ok (.invokevirtual 82, 3) := by decide +kernel
theorem dX3_markMore_67 : decode cX3_markMore 67 = .ok (.iconst 1, 1) := by decide +kernel
theorem dX3_markMore_68 : decode cX3_markMore 68 = .ok (.istore_n 3, 1) := by decide +kernel
theorem dX3_markMore_69 : decode cX3_markMore 69 = .ok (.iinc 5 1, 3) := by decide +kernel
theorem dX3_markMore_72 : decode cX3_markMore 72 = .ok (.goto (-58), 3) := by decide +kernel
theorem dX3_markMore_75 : decode cX3_markMore 75 = .ok (.iinc 4 1, 3) := by decide +kernel
theorem dX3_markMore_78 : decode cX3_markMore 78 = .ok (.goto (-73), 3) := by decide +kernel
theorem dX3_markMore_81 : decode cX3_markMore 81 = .ok (.iload_n 3, 1) := by decide +kernel
theorem dX3_markMore_82 : decode cX3_markMore 82 = .ok (.ireturn, 1) := by decide +kernel
theorem dX3_leadApart_0 : decode cX3_leadApart 0 = .ok (.iconst 0, 1) := by decide +kernel
theorem dX3_leadApart_1 : decode cX3_leadApart 1 = .ok (.istore 4, 2) := by decide +kernel
theorem dX3_leadApart_3 : decode cX3_leadApart 3 = .ok (.iload 4, 2) := by decide +kernel
theorem dX3_leadApart_5 : decode cX3_leadApart 5 = .ok (.iconst 3, 1) := by decide +kernel
theorem dX3_leadApart_6 : decode cX3_leadApart 6 = .ok (.if_icmp .ge 36, 3) := by decide +kernel
theorem dX3_leadApart_9 : decode cX3_leadApart 9 = .ok (.aload_n 0, 1) := by decide +kernel
theorem dX3_leadApart_10 : decode cX3_leadApart 10 = .ok (.aload_n 1, 1) := by decide +kernel
theorem dX3_leadApart_11 : decode cX3_leadApart 11 = .ok (.iload_n 2, 1) := by decide +kernel
theorem dX3_leadApart_12 : decode cX3_leadApart 12 = .ok (.iload 4, 2) := by decide +kernel
theorem dX3_leadApart_14 : decode cX3_leadApart 14 = .ok (.invokevirtual 85, 3) := by decide +kernel
theorem dX3_leadApart_17 : decode cX3_leadApart 17 = .ok (.aload_n 1, 1) := by decide +kernel
theorem dX3_leadApart_18 : decode cX3_leadApart 18 = .ok (.iload_n 3, 1) := by decide +kernel
theorem dX3_leadApart_19 : decode cX3_leadApart 19 = .ok (.iload 4, 2) := by decide +kernel
theorem dX3_leadApart_21 : decode cX3_leadApart 21 = .ok (.invokevirtual 85, 3) := by decide +kernel
theorem dX3_leadApart_24 : decode cX3_leadApart 24 = .ok (.aload_n 1, 1) := by decide +kernel
theorem dX3_leadApart_25 : decode cX3_leadApart 25 = .ok (.invokevirtual 29, 3) := by decide +kernel
theorem dX3_leadApart_28 : decode cX3_leadApart 28 = .ok (.invokevirtual 74, 3) := by decide +kernel
theorem dX3_leadApart_31 : decode cX3_leadApart 31 = .ok (.ifCond .eq 5, 3) := by decide +kernel
theorem dX3_leadApart_34 : decode cX3_leadApart 34 = .ok (.iconst 1, 1) := by decide +kernel
theorem dX3_leadApart_35 : decode cX3_leadApart 35 = .ok (.ireturn, 1) := by decide +kernel
theorem dX3_leadApart_36 : decode cX3_leadApart 36 = .ok (.iinc 4 1, 3) := by decide +kernel
theorem dX3_leadApart_39 : decode cX3_leadApart 39 = .ok (.goto (-36), 3) := by decide +kernel
theorem dX3_leadApart_42 : decode cX3_leadApart 42 = .ok (.iconst 0, 1) := by decide +kernel
theorem dX3_leadApart_43 : decode cX3_leadApart 43 = .ok (.ireturn, 1) := by decide +kernel
theorem dX3_isApartFromEarlier_0 : decode cX3_isApartFromEarlier 0 = .ok (.iconst 0, 1) := by decide +kernel
theorem dX3_isApartFromEarlier_1 : decode cX3_isApartFromEarlier 1 = .ok (.istore_n 3, 1) := by decide +kernel
theorem dX3_isApartFromEarlier_2 : decode cX3_isApartFromEarlier 2 = .ok (.iload_n 3, 1) := by decide +kernel
theorem dX3_isApartFromEarlier_3 : decode cX3_isApartFromEarlier 3 = .ok (.iload_n 1, 1) := by decide +kernel
theorem dX3_isApartFromEarlier_4 : decode cX3_isApartFromEarlier 4 = .ok (.if_icmp .ge 21, 3) := by decide +kernel
theorem dX3_isApartFromEarlier_7 : decode cX3_isApartFromEarlier 7 = .ok (.aload_n 0, 1) := by decide +kernel
theorem dX3_isApartFromEarlier_8 : decode cX3_isApartFromEarlier 8 = .ok (.iload_n 1, 1) := by decide +kernel
theorem dX3_isApartFromEarlier_9 : decode cX3_isApartFromEarlier 9 = .ok (.iload_n 3, 1) := by decide +kernel
theorem dX3_isApartFromEarlier_10 : decode cX3_isApartFromEarlier 10 = .ok (.iload_n 2, 1) := by decide +kernel
theorem dX3_isApartFromEarlier_11 : decode cX3_isApartFromEarlier 11 = .ok (.invokevirtual 74, 3) := by decide +kernel
theorem dX3_isApartFromEarlier_14 : decode cX3_isApartFromEarlier 14 = .ok (.ifCond .ne 5, 3) := by decide +kernel
theorem dX3_isApartFromEarlier_17 : decode cX3_isApartFromEarlier 17 = .ok (.iconst 0, 1) := by decide +kernel
theorem dX3_isApartFromEarlier_18 : decode cX3_isApartFromEarlier 18 = .ok (.ireturn, 1) := by decide +kernel
theorem dX3_isApartFromEarlier_19 : decode cX3_isApartFromEarlier 19 = .ok (.iinc 3 1, 3) := by decide +kernel
theorem dX3_isApartFromEarlier_22 : decode cX3_isApartFromEarlier 22 = .ok (.goto (-20), 3) := by decide +kernel
theorem dX3_isApartFromEarlier_25 : decode cX3_isApartFromEarlier 25 = .ok (.iconst 1, 1) := by decide +kernel
theorem dX3_isApartFromEarlier_26 : decode cX3_isApartFromEarlier 26 = .ok (.ireturn, 1) := by decide +kernel
theorem dX3_isMarked_0 : decode cX3_isMarked 0 = .ok (.iload_n 1, 1) := by decide +kernel
theorem dX3_isMarked_1 : decode cX3_isMarked 1 = .ok (.iload_n 3, 1) := by decide +kernel
theorem dX3_isMarked_2 : decode cX3_isMarked 2 = .ok (.imul, 1) := by decide +kernel
theorem dX3_isMarked_3 : decode cX3_isMarked 3 = .ok (.iload_n 2, 1) := by decide +kernel
theorem dX3_isMarked_4 : decode cX3_isMarked 4 = .ok (.iadd, 1) := by decide +kernel
theorem dX3_isMarked_5 : decode cX3_isMarked 5 = .ok (.istore 4, 2) := by decide +kernel
theorem dX3_isMarked_7 : decode cX3_isMarked 7 = .ok (.iload 4, 2) := by decide +kernel
theorem dX3_isMarked_9 : decode cX3_isMarked 9 = .ok (.ifCond .lt 25, 3) := by decide +kernel
theorem dX3_isMarked_12 : decode cX3_isMarked 12 = .ok (.iload 4, 2) := by decide +kernel
theorem dX3_isMarked_14 : decode cX3_isMarked 14 = .ok (.sipush 16641, 3) := by decide +kernel
theorem dX3_isMarked_17 : decode cX3_isMarked 17 = .ok (.if_icmp .ge 17, 3) := by decide +kernel
theorem dX3_isMarked_20 : decode cX3_isMarked 20 = .ok (.aload_n 0, 1) := by decide +kernel
theorem dX3_isMarked_21 : decode cX3_isMarked 21 = .ok (.getfield 11, 3) := by decide +kernel
theorem dX3_isMarked_24 : decode cX3_isMarked 24 = .ok (.iload 4, 2) := by decide +kernel
theorem dX3_isMarked_26 : decode cX3_isMarked 26 = .ok (.baload, 1) := by decide +kernel
theorem dX3_isMarked_27 : decode cX3_isMarked 27 = .ok (.ifCond .eq 7, 3) := by decide +kernel
theorem dX3_isMarked_30 : decode cX3_isMarked 30 = .ok (.iconst 1, 1) := by decide +kernel
theorem dX3_isMarked_31 : decode cX3_isMarked 31 = .ok (.goto 4, 3) := by decide +kernel
theorem dX3_isMarked_34 : decode cX3_isMarked 34 = .ok (.iconst 0, 1) := by decide +kernel
theorem dX3_isMarked_35 : decode cX3_isMarked 35 = .ok (.ireturn, 1) := by decide +kernel
theorem dX3_mark_0 : decode cX3_mark 0 = .ok (.iload_n 1, 1) := by decide +kernel
theorem dX3_mark_1 : decode cX3_mark 1 = .ok (.ifCond .lt 17, 3) := by decide +kernel
theorem dX3_mark_4 : decode cX3_mark 4 = .ok (.iload_n 1, 1) := by decide +kernel
theorem dX3_mark_5 : decode cX3_mark 5 = .ok (.sipush 16641, 3) := by decide +kernel
theorem dX3_mark_8 : decode cX3_mark 8 = .ok (.if_icmp .ge 10, 3) := by decide +kernel
theorem dX3_mark_11 : decode cX3_mark 11 = .ok (.aload_n 0, 1) := by decide +kernel
theorem dX3_mark_12 : decode cX3_mark 12 = .ok (.getfield 11, 3) := by decide +kernel
theorem dX3_mark_15 : decode cX3_mark 15 = .ok (.iload_n 1, 1) := by decide +kernel
theorem dX3_mark_16 : decode cX3_mark 16 = .ok (.iconst 1, 1) := by decide +kernel
theorem dX3_mark_17 : decode cX3_mark 17 = .ok (.bastore, 1) := by decide +kernel
theorem dX3_mark_18 : decode cX3_mark 18 = .ok (.return_, 1) := by decide +kernel
theorem dX3_find_0 : decode cX3_find 0 = .ok (.aload_n 2, 1) := by decide +kernel
theorem dX3_find_1 : decode cX3_find 1 = .ok (.invokevirtual 29, 3) := by decide +kernel
theorem dX3_find_4 : decode cX3_find 4 = .ok (.istore 4, 2) := by decide +kernel
theorem dX3_find_6 : decode cX3_find 6 = .ok (.iload 4, 2) := by decide +kernel
theorem dX3_find_8 : decode cX3_find 8 = .ok (.ifCond .gt 5, 3) := by decide +kernel
theorem dX3_find_11 : decode cX3_find 11 = .ok (.iconst 0, 1) := by decide +kernel
theorem dX3_find_12 : decode cX3_find 12 = .ok (.ireturn, 1) := by decide +kernel
theorem dX3_find_13 : decode cX3_find 13 = .ok (.iconst 0, 1) := by decide +kernel
theorem dX3_find_14 : decode cX3_find 14 = .ok (.istore 5, 2) := by decide +kernel
theorem dX3_find_16 : decode cX3_find 16 = .ok (.iload 5, 2) := by decide +kernel
theorem dX3_find_18 : decode cX3_find 18 = .ok (.aload_n 1, 1) := by decide +kernel
theorem dX3_find_19 : decode cX3_find 19 = .ok (.invokevirtual 29, 3) := by decide +kernel
theorem dX3_find_22 : decode cX3_find 22 = .ok (.iload 4, 2) := by decide +kernel
theorem dX3_find_24 : decode cX3_find 24 = .ok (.imul, 1) := by decide +kernel
theorem dX3_find_25 : decode cX3_find 25 = .ok (.if_icmp .ge 25, 3) := by decide +kernel
theorem dX3_find_28 : decode cX3_find 28 = .ok (.iload 5, 2) := by decide +kernel
theorem dX3_find_30 : decode cX3_find 30 = .ok (.sipush 16641, 3) := by decide +kernel
theorem dX3_find_33 : decode cX3_find 33 = .ok (.if_icmp .ge 17, 3) := by decide +kernel
theorem dX3_find_36 : decode cX3_find 36 = .ok (.aload_n 0, 1) := by decide +kernel
theorem dX3_find_37 : decode cX3_find 37 = .ok (.getfield 11, 3) := by decide +kernel
theorem dX3_find_40 : decode cX3_find 40 = .ok (.iload 5, 2) := by decide +kernel
theorem dX3_find_42 : decode cX3_find 42 = .ok (.iconst 0, 1) := by decide +kernel
theorem dX3_find_43 : decode cX3_find 43 = .ok (.bastore, 1) := by decide +kernel
theorem dX3_find_44 : decode cX3_find 44 = .ok (.iinc 5 1, 3) := by decide +kernel
theorem dX3_find_47 : decode cX3_find 47 = .ok (.goto (-31), 3) := by decide +kernel
theorem dX3_find_50 : decode cX3_find 50 = .ok (.aload_n 0, 1) := by decide +kernel
theorem dX3_find_51 : decode cX3_find 51 = .ok (.iconst 0, 1) := by decide +kernel
theorem dX3_find_52 : decode cX3_find 52 = .ok (.putfield 22, 3) := by decide +kernel
theorem dX3_find_55 : decode cX3_find 55 = .ok (.aload_n 0, 1) := by decide +kernel
theorem dX3_find_56 : decode cX3_find 56 = .ok (.iconst 0, 1) := by decide +kernel
theorem dX3_find_57 : decode cX3_find 57 = .ok (.iconst 0, 1) := by decide +kernel
theorem dX3_find_58 : decode cX3_find 58 = .ok (.invokevirtual 88, 3) := by decide +kernel
theorem dX3_find_61 : decode cX3_find 61 = .ok (.iconst 0, 1) := by decide +kernel
theorem dX3_find_62 : decode cX3_find 62 = .ok (.istore 5, 2) := by decide +kernel
theorem dX3_find_64 : decode cX3_find 64 = .ok (.iload 5, 2) := by decide +kernel
theorem dX3_find_66 : decode cX3_find 66 = .ok (.aload_n 0, 1) := by decide +kernel
theorem dX3_find_67 : decode cX3_find 67 = .ok (.getfield 22, 3) := by decide +kernel
theorem dX3_find_70 : decode cX3_find 70 = .ok (.if_icmp .ge 127, 3) := by decide +kernel
theorem dX3_find_73 : decode cX3_find 73 = .ok (.iload 5, 2) := by decide +kernel
theorem dX3_find_75 : decode cX3_find 75 = .ok (.sipush 16641, 3) := by decide +kernel
theorem dX3_find_78 : decode cX3_find 78 = .ok (.if_icmp .ge 119, 3) := by decide +kernel
theorem dX3_find_81 : decode cX3_find 81 = .ok (.aload_n 0, 1) := by decide +kernel
theorem dX3_find_82 : decode cX3_find 82 = .ok (.getfield 15, 3) := by decide +kernel
theorem dX3_find_85 : decode cX3_find 85 = .ok (.iload 5, 2) := by decide +kernel
theorem dX3_find_87 : decode cX3_find 87 = .ok (.iaload, 1) := by decide +kernel
theorem dX3_find_88 : decode cX3_find 88 = .ok (.iload 4, 2) := by decide +kernel
theorem dX3_find_90 : decode cX3_find 90 = .ok (.idiv, 1) := by decide +kernel
theorem dX3_find_91 : decode cX3_find 91 = .ok (.istore 6, 2) := by decide +kernel
theorem dX3_find_93 : decode cX3_find 93 = .ok (.aload_n 0, 1) := by decide +kernel
theorem dX3_find_94 : decode cX3_find 94 = .ok (.getfield 15, 3) := by decide +kernel
theorem dX3_find_97 : decode cX3_find 97 = .ok (.iload 5, 2) := by decide +kernel
theorem dX3_find_99 : decode cX3_find 99 = .ok (.iaload, 1) := by decide +kernel
theorem dX3_find_100 : decode cX3_find 100 = .ok (.iload 4, 2) := by decide +kernel
theorem dX3_find_102 : decode cX3_find 102 = .ok (.irem, 1) := by decide +kernel
theorem dX3_find_103 : decode cX3_find 103 = .ok (.istore 7, 2) := by decide +kernel
theorem dX3_find_105 : decode cX3_find 105 = .ok (.aload_n 1, 1) := by decide +kernel
theorem dX3_find_106 : decode cX3_find 106 = .ok (.iload 6, 2) := by decide +kernel
theorem dX3_find_108 : decode cX3_find 108 = .ok (.invokevirtual 41, 3) := by decide +kernel
theorem dX3_find_111 : decode cX3_find 111 = .ok (.istore 8, 2) := by decide +kernel
theorem dX3_find_113 : decode cX3_find 113 = .ok (.iload 8, 2) := by decide +kernel
theorem dX3_find_115 : decode cX3_find 115 = .ok (.aload_n 2, 1) := by decide +kernel
theorem dX3_find_116 : decode cX3_find 116 = .ok (.iload 7, 2) := by decide +kernel
theorem dX3_find_118 : decode cX3_find 118 = .ok (.invokevirtual 41, 3) := by decide +kernel
theorem dX3_find_121 : decode cX3_find 121 = .ok (.if_icmp .eq 20, 3) := by decide +kernel
theorem dX3_find_124 : decode cX3_find 124 = .ok (.iload 8, 2) := by decide +kernel
theorem dX3_find_126 : decode cX3_find 126 = .ok (.ifCond .ne 7, 3) := by decide +kernel
theorem dX3_find_129 : decode cX3_find 129 = .ok (.iload_n 3, 1) := by decide +kernel
theorem dX3_find_130 : decode cX3_find 130 = .ok (.ifCond .ne 11, 3) := by decide +kernel
theorem dX3_find_133 : decode cX3_find 133 = .ok (.aload_n 0, 1) := by decide +kernel
theorem dX3_find_134 : decode cX3_find 134 = .ok (.iload 5, 2) := by decide +kernel
theorem dX3_find_136 : decode cX3_find 136 = .ok (.putfield 26, 3) := by decide +kernel
theorem dX3_find_139 : decode cX3_find 139 = .ok (.iconst 1, 1) := by decide +kernel
theorem dX3_find_140 : decode cX3_find 140 = .ok (.ireturn, 1) := by decide +kernel
theorem dX3_find_141 : decode cX3_find 141 = .ok (.iconst 0, 1) := by decide +kernel
theorem dX3_find_142 : decode cX3_find 142 = .ok (.istore 9, 2) := by decide +kernel
theorem dX3_find_144 : decode cX3_find 144 = .ok (.iload 9, 2) := by decide +kernel
theorem dX3_find_146 : decode cX3_find 146 = .ok (.iconst 3, 1) := by decide +kernel
theorem dX3_find_147 : decode cX3_find 147 = .ok (.if_icmp .ge 44, 3) := by decide +kernel
theorem dX3_find_150 : decode cX3_find 150 = .ok (.aload_n 1, 1) := by decide +kernel
theorem dX3_find_151 : decode cX3_find 151 = .ok (.iload 6, 2) := by decide +kernel
theorem dX3_find_153 : decode cX3_find 153 = .ok (.iload 9, 2) := by decide +kernel
theorem dX3_find_155 : decode cX3_find 155 = .ok (.invokevirtual 85, 3) := by decide +kernel
theorem dX3_find_158 : decode cX3_find 158 = .ok (.iload 4, 2) := by decide +kernel
theorem dX3_find_160 : decode cX3_find 160 = .ok (.imul, 1) := by decide +kernel
theorem dX3_find_161 : decode cX3_find 161 = .ok (.aload_n 2, 1) := by decide +kernel
theorem dX3_find_162 : decode cX3_find 162 = .ok (.iload 7, 2) := by decide +kernel
theorem dX3_find_164 : decode cX3_find 164 = .ok (.iload 9, 2) := by decide +kernel
theorem dX3_find_166 : decode cX3_find 166 = .ok (.invokevirtual 85, 3) := by decide +kernel
theorem dX3_find_169 : decode cX3_find 169 = .ok (.iadd, 1) := by decide +kernel
theorem dX3_find_170 : decode cX3_find 170 = .ok (.istore 10, 2) := by decide +kernel
theorem dX3_find_172 : decode cX3_find 172 = .ok (.aload_n 0, 1) := by decide +kernel
theorem dX3_find_173 : decode cX3_find 173 = .ok (.iload 10, 2) := by decide +kernel
theorem dX3_find_175 : decode cX3_find 175 = .ok (.iload 5, 2) := by decide +kernel
theorem dX3_find_177 : decode cX3_find 177 = .ok (.iconst 3, 1) := by decide +kernel
theorem dX3_find_178 : decode cX3_find 178 = .ok (.imul, 1) := by decide +kernel
theorem dX3_find_179 : decode cX3_find 179 = .ok (.iload 9, 2) := by decide +kernel
theorem dX3_find_181 : decode cX3_find 181 = .ok (.iadd, 1) := by decide +kernel
theorem dX3_find_182 : decode cX3_find 182 = .ok (.invokevirtual 88, 3) := by decide +kernel
theorem dX3_find_185 : decode cX3_find 185 = .ok (.iinc 9 1, 3) := by decide +kernel
theorem dX3_find_188 : decode cX3_find 188 = .ok (.goto (-44), 3) := by decide +kernel
theorem dX3_find_191 : decode cX3_find 191 = .ok (.iinc 5 1, 3) := by decide +kernel
theorem dX3_find_194 : decode cX3_find 194 = .ok (.goto (-130), 3) := by decide +kernel
theorem dX3_find_197 : decode cX3_find 197 = .ok (.aload_n 0, 1) := by decide +kernel
theorem dX3_find_198 : decode cX3_find 198 = .ok (.iconst (-1), 1) := by decide +kernel
theorem dX3_find_199 : decode cX3_find 199 = .ok (.putfield 26, 3) := by decide +kernel
theorem dX3_find_202 : decode cX3_find 202 = .ok (.iconst 0, 1) := by decide +kernel
theorem dX3_find_203 : decode cX3_find 203 = .ok (.ireturn, 1) := by decide +kernel
theorem dX3_reach_0 : decode cX3_reach 0 = .ok (.iload_n 1, 1) := by decide +kernel
theorem dX3_reach_1 : decode cX3_reach 1 = .ok (.ifCond .lt 36, 3) := by decide +kernel
theorem dX3_reach_4 : decode cX3_reach 4 = .ok (.iload_n 1, 1) := by decide +kernel
theorem dX3_reach_5 : decode cX3_reach 5 = .ok (.sipush 16641, 3) := by decide +kernel
theorem dX3_reach_8 : decode cX3_reach 8 = .ok (.if_icmp .ge 29, 3) := by decide +kernel
theorem dX3_reach_11 : decode cX3_reach 11 = .ok (.aload_n 0, 1) := by decide +kernel
theorem dX3_reach_12 : decode cX3_reach 12 = .ok (.getfield 11, 3) := by decide +kernel
theorem dX3_reach_15 : decode cX3_reach 15 = .ok (.iload_n 1, 1) := by decide +kernel
theorem dX3_reach_16 : decode cX3_reach 16 = .ok (.baload, 1) := by decide +kernel
theorem dX3_reach_17 : decode cX3_reach 17 = .ok (.ifCond .ne 20, 3) := by decide +kernel
theorem dX3_reach_20 : decode cX3_reach 20 = .ok (.aload_n 0, 1) := by decide +kernel
theorem dX3_reach_21 : decode cX3_reach 21 = .ok (.getfield 22, 3) := by decide +kernel
theorem dX3_reach_24 : decode cX3_reach 24 = .ok (.ifCond .lt 13, 3) := by decide +kernel
theorem dX3_reach_27 : decode cX3_reach 27 = .ok (.aload_n 0, 1) := by decide +kernel
theorem dX3_reach_28 : decode cX3_reach 28 = .ok (.getfield 22, 3) := by decide +kernel
theorem dX3_reach_31 : decode cX3_reach 31 = .ok (.sipush 16641, 3) := by decide +kernel
theorem dX3_reach_34 : decode cX3_reach 34 = .ok (.if_icmp .lt 4, 3) := by decide +kernel
theorem dX3_reach_37 : decode cX3_reach 37 = .ok (.return_, 1) := by decide +kernel
theorem dX3_reach_38 : decode cX3_reach 38 = .ok (.aload_n 0, 1) := by decide +kernel
theorem dX3_reach_39 : decode cX3_reach 39 = .ok (.getfield 11, 3) := by decide +kernel
theorem dX3_reach_42 : decode cX3_reach 42 = .ok (.iload_n 1, 1) := by decide +kernel
theorem dX3_reach_43 : decode cX3_reach 43 = .ok (.iconst 1, 1) := by decide +kernel
theorem dX3_reach_44 : decode cX3_reach 44 = .ok (.bastore, 1) := by decide +kernel
theorem dX3_reach_45 : decode cX3_reach 45 = .ok (.aload_n 0, 1) := by decide +kernel
theorem dX3_reach_46 : decode cX3_reach 46 = .ok (.getfield 15, 3) := by decide +kernel
theorem dX3_reach_49 : decode cX3_reach 49 = .ok (.aload_n 0, 1) := by decide +kernel
theorem dX3_reach_50 : decode cX3_reach 50 = .ok (.getfield 22, 3) := by decide +kernel
theorem dX3_reach_53 : decode cX3_reach 53 = .ok (.iload_n 1, 1) := by decide +kernel
theorem dX3_reach_54 : decode cX3_reach 54 = .ok (.iastore, 1) := by decide +kernel
theorem dX3_reach_55 : decode cX3_reach 55 = .ok (.aload_n 0, 1) := by decide +kernel
theorem dX3_reach_56 : decode cX3_reach 56 = .ok (.getfield 19, 3) := by decide +kernel
theorem dX3_reach_59 : decode cX3_reach 59 = .ok (.aload_n 0, 1) := by decide +kernel
theorem dX3_reach_60 : decode cX3_reach 60 = .ok (.getfield 22, 3) := by decide +kernel
theorem dX3_reach_63 : decode cX3_reach 63 = .ok (.iload_n 2, 1) := by decide +kernel
theorem dX3_reach_64 : decode cX3_reach 64 = .ok (.iastore, 1) := by decide +kernel
theorem dX3_reach_65 : decode cX3_reach 65 = .ok (.aload_n 0, 1) := by decide +kernel
theorem dX3_reach_66 : decode cX3_reach 66 = .ok (.dup, 1) := by decide +kernel
theorem dX3_reach_67 : decode cX3_reach 67 = .ok (.getfield 22, 3) := by decide +kernel
theorem dX3_reach_70 : decode cX3_reach 70 = .ok (.iconst 1, 1) := by decide +kernel
theorem dX3_reach_71 : decode cX3_reach 71 = .ok (.iadd, 1) := by decide +kernel
theorem dX3_reach_72 : decode cX3_reach 72 = .ok (.putfield 22, 3) := by decide +kernel
theorem dX3_reach_75 : decode cX3_reach 75 = .ok (.return_, 1) := by decide +kernel
theorem dX4_init_0 : decode cX4_init 0 = .ok (.aload_n 0, 1) := by decide +kernel
theorem dX4_init_1 : decode cX4_init 1 = .ok (.invokespecial 3, 3) := by decide +kernel
theorem dX4_init_4 : decode cX4_init 4 = .ok (.aload_n 0, 1) := by decide +kernel
theorem dX4_init_5 : decode cX4_init 5 = .ok (.aload_n 1, 1) := by decide +kernel
theorem dX4_init_6 : decode cX4_init 6 = .ok (.putfield 9, 3) := by decide +kernel
theorem dX4_init_9 : decode cX4_init 9 = .ok (.iconst 0, 1) := by decide +kernel
theorem dX4_init_10 : decode cX4_init 10 = .ok (.istore_n 2, 1) := by decide +kernel
theorem dX4_init_11 : decode cX4_init 11 = .ok (.iconst 0, 1) := by decide +kernel
theorem dX4_init_12 : decode cX4_init 12 = .ok (.istore_n 3, 1) := by decide +kernel
theorem dX4_init_13 : decode cX4_init 13 = .ok (.aload_n 1, 1) := by decide +kernel
theorem dX4_init_14 : decode cX4_init 14 = .ok (.astore 4, 2) := by decide +kernel
theorem dX4_init_16 : decode cX4_init 16 = .ok (.aload 4, 2) := by decide +kernel
theorem dX4_init_18 : decode cX4_init 18 = .ok (.arraylength, 1) := by decide +kernel
theorem dX4_init_19 : decode cX4_init 19 = .ok (.istore 5, 2) := by decide +kernel
theorem dX4_init_21 : decode cX4_init 21 = .ok (.iconst 0, 1) := by decide +kernel
theorem dX4_init_22 : decode cX4_init 22 = .ok (.istore 6, 2) := by decide +kernel
theorem dX4_init_24 : decode cX4_init 24 = .ok (.iload 6, 2) := by decide +kernel
theorem dX4_init_26 : decode cX4_init 26 = .ok (.iload 5, 2) := by decide +kernel
theorem dX4_init_28 : decode cX4_init 28 = .ok (.if_icmp .ge 48, 3) := by decide +kernel
theorem dX4_init_31 : decode cX4_init 31 = .ok (.aload 4, 2) := by decide +kernel
theorem dX4_init_33 : decode cX4_init 33 = .ok (.iload 6, 2) := by decide +kernel
theorem dX4_init_35 : decode cX4_init 35 = .ok (.caload, 1) := by decide +kernel
theorem dX4_init_36 : decode cX4_init 36 = .ok (.istore 7, 2) := by decide +kernel
theorem dX4_init_38 : decode cX4_init 38 = .ok (.iload_n 2, 1) := by decide +kernel
theorem dX4_init_39 : decode cX4_init 39 = .ok (.iload 7, 2) := by decide +kernel
theorem dX4_init_41 : decode cX4_init 41 = .ok (.invokestatic 15, 3) := by decide +kernel
theorem dX4_init_44 : decode cX4_init 44 = .ok (.ifCond .eq 7, 3) := by decide +kernel
theorem dX4_init_47 : decode cX4_init 47 = .ok (.iconst 1, 1) := by decide +kernel
theorem dX4_init_48 : decode cX4_init 48 = .ok (.goto 4, 3) := by decide +kernel
theorem dX4_init_51 : decode cX4_init 51 = .ok (.iconst 0, 1) := by decide +kernel
theorem dX4_init_52 : decode cX4_init 52 = .ok (.iadd, 1) := by decide +kernel
theorem dX4_init_53 : decode cX4_init 53 = .ok (.istore_n 2, 1) := by decide +kernel
theorem dX4_init_54 : decode cX4_init 54 = .ok (.iload_n 3, 1) := by decide +kernel
theorem dX4_init_55 : decode cX4_init 55 = .ok (.iload 7, 2) := by decide +kernel
theorem dX4_init_57 : decode cX4_init 57 = .ok (.invokestatic 19, 3) := by decide +kernel
theorem dX4_init_60 : decode cX4_init 60 = .ok (.ifCond .eq 7, 3) := by decide +kernel
theorem dX4_init_63 : decode cX4_init 63 = .ok (.iconst 1, 1) := by decide +kernel
theorem dX4_init_64 : decode cX4_init 64 = .ok (.goto 4, 3) := by decide +kernel
theorem dX4_init_67 : decode cX4_init 67 = .ok (.iconst 0, 1) := by decide +kernel
theorem dX4_init_68 : decode cX4_init 68 = .ok (.iadd, 1) := by decide +kernel
theorem dX4_init_69 : decode cX4_init 69 = .ok (.istore_n 3, 1) := by decide +kernel
theorem dX4_init_70 : decode cX4_init 70 = .ok (.iinc 6 1, 3) := by decide +kernel
theorem dX4_init_73 : decode cX4_init 73 = .ok (.goto (-49), 3) := by decide +kernel
theorem dX4_init_76 : decode cX4_init 76 = .ok (.aload_n 0, 1) := by decide +kernel
theorem dX4_init_77 : decode cX4_init 77 = .ok (.iload_n 2, 1) := by decide +kernel
theorem dX4_init_78 : decode cX4_init 78 = .ok (.putfield 22, 3) := by decide +kernel
theorem dX4_init_81 : decode cX4_init 81 = .ok (.aload_n 0, 1) := by decide +kernel
theorem dX4_init_82 : decode cX4_init 82 = .ok (.iload_n 3, 1) := by decide +kernel
theorem dX4_init_83 : decode cX4_init 83 = .ok (.putfield 26, 3) := by decide +kernel
theorem dX4_init_86 : decode cX4_init 86 = .ok (.return_, 1) := by decide +kernel
theorem dX4_joined_0 : decode cX4_joined 0 = .ok (.aload_n 0, 1) := by decide +kernel
theorem dX4_joined_1 : decode cX4_joined 1 = .ok (.getfield 9, 3) := by decide +kernel
theorem dX4_joined_4 : decode cX4_joined 4 = .ok (.arraylength, 1) := by decide +kernel
theorem dX4_joined_5 : decode cX4_joined 5 = .ok (.aload_n 1, 1) := by decide +kernel
theorem dX4_joined_6 : decode cX4_joined 6 = .ok (.getfield 9, 3) := by decide +kernel
theorem dX4_joined_9 : decode cX4_joined 9 = .ok (.arraylength, 1) := by decide +kernel
theorem dX4_joined_10 : decode cX4_joined 10 = .ok (.iadd, 1) := by decide +kernel
theorem dX4_joined_11 : decode cX4_joined 11 = .ok (.istore_n 3, 1) := by decide +kernel
theorem dX4_joined_12 : decode cX4_joined 12 = .ok (.iload_n 3, 1) := by decide +kernel
theorem dX4_joined_13 : decode cX4_joined 13 = .ok (.iconst 1, 1) := by decide +kernel
theorem dX4_joined_14 : decode cX4_joined 14 = .ok (.iadd, 1) := by decide +kernel
theorem dX4_joined_15 : decode cX4_joined 15 = .ok (.newarray .char, 2) := by decide +kernel
theorem dX4_joined_17 : decode cX4_joined 17 = .ok (.astore 4, 2) := by decide +kernel
theorem dX4_joined_19 : decode cX4_joined 19 = .ok (.aload_n 0, 1) := by decide +kernel
theorem dX4_joined_20 : decode cX4_joined 20 = .ok (.getfield 9, 3) := by decide +kernel
theorem dX4_joined_23 : decode cX4_joined 23 = .ok (.iconst 0, 1) := by decide +kernel
theorem dX4_joined_24 : decode cX4_joined 24 = .ok (.aload 4, 2) := by decide +kernel
theorem dX4_joined_26 : decode cX4_joined 26 = .ok (.iconst 0, 1) := by decide +kernel
theorem dX4_joined_27 : decode cX4_joined 27 = .ok (.aload_n 0, 1) := by decide +kernel
theorem dX4_joined_28 : decode cX4_joined 28 = .ok (.getfield 9, 3) := by decide +kernel
theorem dX4_joined_31 : decode cX4_joined 31 = .ok (.arraylength, 1) := by decide +kernel
theorem dX4_joined_32 : decode cX4_joined 32 = .ok (.invokestatic 29, 3) := by decide +kernel
theorem dX4_joined_35 : decode cX4_joined 35 = .ok (.aload_n 1, 1) := by decide +kernel
theorem dX4_joined_36 : decode cX4_joined 36 = .ok (.getfield 9, 3) := by decide +kernel
theorem dX4_joined_39 : decode cX4_joined 39 = .ok (.iconst 0, 1) := by decide +kernel
theorem dX4_joined_40 : decode cX4_joined 40 = .ok (.aload 4, 2) := by decide +kernel
theorem dX4_joined_42 : decode cX4_joined 42 = .ok (.aload_n 0, 1) := by decide +kernel
theorem dX4_joined_43 : decode cX4_joined 43 = .ok (.getfield 9, 3) := by decide +kernel
theorem dX4_joined_46 : decode cX4_joined 46 = .ok (.arraylength, 1) := by decide +kernel
theorem dX4_joined_47 : decode cX4_joined 47 = .ok (.aload_n 1, 1) := by decide +kernel
theorem dX4_joined_48 : decode cX4_joined 48 = .ok (.getfield 9, 3) := by decide +kernel
theorem dX4_joined_51 : decode cX4_joined 51 = .ok (.arraylength, 1) := by decide +kernel
theorem dX4_joined_52 : decode cX4_joined 52 = .ok (.invokestatic 29, 3) := by decide +kernel
theorem dX4_joined_55 : decode cX4_joined 55 = .ok (.aload 4, 2) := by decide +kernel
theorem dX4_joined_57 : decode cX4_joined 57 = .ok (.iload_n 3, 1) := by decide +kernel
theorem dX4_joined_58 : decode cX4_joined 58 = .ok (.iload_n 2, 1) := by decide +kernel
theorem dX4_joined_59 : decode cX4_joined 59 = .ok (.castore, 1) := by decide +kernel
theorem dX4_joined_60 : decode cX4_joined 60 = .ok (.new 10, 3) := by decide +kernel
theorem dX4_joined_63 : decode cX4_joined 63 = .ok (.dup, 1) := by decide +kernel
theorem dX4_joined_64 : decode cX4_joined 64 = .ok (.aload 4, 2) := by decide +kernel
theorem dX4_joined_66 : decode cX4_joined 66 = .ok (.invokespecial 35, 3) := by decide +kernel
theorem dX4_joined_69 : decode cX4_joined 69 = .ok (.areturn, 1) := by decide +kernel
theorem dX4_starred_0 : decode cX4_starred 0 = .ok (.aload_n 0, 1) := by decide +kernel
theorem dX4_starred_1 : decode cX4_starred 1 = .ok (.getfield 9, 3) := by decide +kernel
theorem dX4_starred_4 : decode cX4_starred 4 = .ok (.arraylength, 1) := by decide +kernel
theorem dX4_starred_5 : decode cX4_starred 5 = .ok (.istore_n 1, 1) := by decide +kernel
theorem dX4_starred_6 : decode cX4_starred 6 = .ok (.iload_n 1, 1) := by decide +kernel
theorem dX4_starred_7 : decode cX4_starred 7 = .ok (.iconst 1, 1) := by decide +kernel
theorem dX4_starred_8 : decode cX4_starred 8 = .ok (.iadd, 1) := by decide +kernel
theorem dX4_starred_9 : decode cX4_starred 9 = .ok (.newarray .char, 2) := by decide +kernel
theorem dX4_starred_11 : decode cX4_starred 11 = .ok (.astore_n 2, 1) := by decide +kernel
theorem dX4_starred_12 : decode cX4_starred 12 = .ok (.aload_n 0, 1) := by decide +kernel
theorem dX4_starred_13 : decode cX4_starred 13 = .ok (.getfield 9, 3) := by decide +kernel
theorem dX4_starred_16 : decode cX4_starred 16 = .ok (.iconst 0, 1) := by decide +kernel
theorem dX4_starred_17 : decode cX4_starred 17 = .ok (.aload_n 2, 1) := by decide +kernel
theorem dX4_starred_18 : decode cX4_starred 18 = .ok (.iconst 0, 1) := by decide +kernel
theorem dX4_starred_19 : decode cX4_starred 19 = .ok (.iload_n 1, 1) := by decide +kernel
theorem dX4_starred_20 : decode cX4_starred 20 = .ok (.invokestatic 29, 3) := by decide +kernel
theorem dX4_starred_23 : decode cX4_starred 23 = .ok (.aload_n 2, 1) := by decide +kernel
theorem dX4_starred_24 : decode cX4_starred 24 = .ok (.iload_n 1, 1) := by decide +kernel
theorem dX4_starred_25 : decode cX4_starred 25 = .ok (.bipush 42, 2) := by decide +kernel
theorem dX4_starred_27 : decode cX4_starred 27 = .ok (.castore, 1) := by decide +kernel
theorem dX4_starred_28 : decode cX4_starred 28 = .ok (.new 10, 3) := by decide +kernel
theorem dX4_starred_31 : decode cX4_starred 31 = .ok (.dup, 1) := by decide +kernel
theorem dX4_starred_32 : decode cX4_starred 32 = .ok (.aload_n 2, 1) := by decide +kernel
theorem dX4_starred_33 : decode cX4_starred 33 = .ok (.invokespecial 35, 3) := by decide +kernel
theorem dX4_starred_36 : decode cX4_starred 36 = .ok (.areturn, 1) := by decide +kernel
theorem dX4_size_0 : decode cX4_size 0 = .ok (.aload_n 0, 1) := by decide +kernel
theorem dX4_size_1 : decode cX4_size 1 = .ok (.getfield 9, 3) := by decide +kernel
theorem dX4_size_4 : decode cX4_size 4 = .ok (.arraylength, 1) := by decide +kernel
theorem dX4_size_5 : decode cX4_size 5 = .ok (.ireturn, 1) := by decide +kernel
theorem dX4_code_0 : decode cX4_code 0 = .ok (.iload_n 1, 1) := by decide +kernel
theorem dX4_code_1 : decode cX4_code 1 = .ok (.ifCond .lt 12, 3) := by decide +kernel
theorem dX4_code_4 : decode cX4_code 4 = .ok (.iload_n 1, 1) := by decide +kernel
theorem dX4_code_5 : decode cX4_code 5 = .ok (.aload_n 0, 1) := by decide +kernel
theorem dX4_code_6 : decode cX4_code 6 = .ok (.getfield 9, 3) := by decide +kernel
theorem dX4_code_9 : decode cX4_code 9 = .ok (.arraylength, 1) := by decide +kernel
theorem dX4_code_10 : decode cX4_code 10 = .ok (.if_icmp .lt 7, 3) := by decide +kernel
theorem dX4_code_13 : decode cX4_code 13 = .ok (.iconst 0, 1) := by decide +kernel
theorem dX4_code_14 : decode cX4_code 14 = .ok (.goto 9, 3) := by decide +kernel
theorem dX4_code_17 : decode cX4_code 17 = .ok (.aload_n 0, 1) := by decide +kernel
theorem dX4_code_18 : decode cX4_code 18 = .ok (.getfield 9, 3) := by decide +kernel
theorem dX4_code_21 : decode cX4_code 21 = .ok (.iload_n 1, 1) := by decide +kernel
theorem dX4_code_22 : decode cX4_code 22 = .ok (.caload, 1) := by decide +kernel
theorem dX4_code_23 : decode cX4_code 23 = .ok (.ireturn, 1) := by decide +kernel
theorem dX4_letters_0 : decode cX4_letters 0 = .ok (.aload_n 0, 1) := by decide +kernel
theorem dX4_letters_1 : decode cX4_letters 1 = .ok (.getfield 22, 3) := by decide +kernel
theorem dX4_letters_4 : decode cX4_letters 4 = .ok (.ireturn, 1) := by decide +kernel
theorem dX4_isTooLarge_0 : decode cX4_isTooLarge 0 = .ok (.aload_n 0, 1) := by decide +kernel
theorem dX4_isTooLarge_1 : decode cX4_isTooLarge 1 = .ok (.getfield 22, 3) := by decide +kernel
theorem dX4_isTooLarge_4 : decode cX4_isTooLarge 4 = .ok (.bipush 7, 2) := by decide +kernel
theorem dX4_isTooLarge_6 : decode cX4_isTooLarge 6 = .ok (.if_icmp .gt 12, 3) := by decide +kernel
theorem dX4_isTooLarge_9 : decode cX4_isTooLarge 9 = .ok (.aload_n 0, 1) := by decide +kernel
theorem dX4_isTooLarge_10 : decode cX4_isTooLarge 10 = .ok (.getfield 26, 3) := by decide +kernel
theorem dX4_isTooLarge_13 : decode cX4_isTooLarge 13 = .ok (.bipush 9, 2) := by decide +kernel
theorem dX4_isTooLarge_15 : decode cX4_isTooLarge 15 = .ok (.if_icmp .le 7, 3) := by decide +kernel
theorem dX4_isTooLarge_18 : decode cX4_isTooLarge 18 = .ok (.iconst 1, 1) := by decide +kernel
theorem dX4_isTooLarge_19 : decode cX4_isTooLarge 19 = .ok (.goto 4, 3) := by decide +kernel
theorem dX4_isTooLarge_22 : decode cX4_isTooLarge 22 = .ok (.iconst 0, 1) := by decide +kernel
theorem dX4_isTooLarge_23 : decode cX4_isTooLarge 23 = .ok (.ireturn, 1) := by decide +kernel
theorem dX5_init_0 : decode cX5_init 0 = .ok (.aload_n 0, 1) := by decide +kernel
theorem dX5_init_1 : decode cX5_init 1 = .ok (.invokespecial 3, 3) := by decide +kernel
theorem dX5_init_4 : decode cX5_init 4 = .ok (.aload_n 0, 1) := by decide +kernel
theorem dX5_init_5 : decode cX5_init 5 = .ok (.iconst 3, 1) := by decide +kernel
theorem dX5_init_6 : decode cX5_init 6 = .ok (.newarray .int, 2) := by decide +kernel
theorem dX5_init_8 : decode cX5_init 8 = .ok (.putfield 9, 3) := by decide +kernel
theorem dX5_init_11 : decode cX5_init 11 = .ok (.aload_n 0, 1) := by decide +kernel
theorem dX5_init_12 : decode cX5_init 12 = .ok (.bipush 7, 2) := by decide +kernel
theorem dX5_init_14 : decode cX5_init 14 = .ok (.newarray .int, 2) := by decide +kernel
theorem dX5_init_16 : decode cX5_init 16 = .ok (.putfield 15, 3) := by decide +kernel
theorem dX5_init_19 : decode cX5_init 19 = .ok (.aload_n 0, 1) := by decide +kernel
theorem dX5_init_20 : decode cX5_init 20 = .ok (.bipush 7, 2) := by decide +kernel
theorem dX5_init_22 : decode cX5_init 22 = .ok (.newarray .int, 2) := by decide +kernel
theorem dX5_init_24 : decode cX5_init 24 = .ok (.putfield 18, 3) := by decide +kernel
theorem dX5_init_27 : decode cX5_init 27 = .ok (.aload_n 0, 1) := by decide +kernel
theorem dX5_init_28 : decode cX5_init 28 = .ok (.bipush 7, 2) := by decide +kernel
theorem dX5_init_30 : decode cX5_init 30 = .ok (.newarray .int, 2) := by decide +kernel
theorem dX5_init_32 : decode cX5_init 32 = .ok (.putfield 21, 3) := by decide +kernel
theorem dX5_init_35 : decode cX5_init 35 = .ok (.aload_n 0, 1) := by decide +kernel
theorem dX5_init_36 : decode cX5_init 36 = .ok (.bipush 7, 2) := by decide +kernel
theorem dX5_init_38 : decode cX5_init 38 = .ok (.newarray .boolean, 2) := by decide +kernel
theorem dX5_init_40 : decode cX5_init 40 = .ok (.putfield 24, 3) := by decide +kernel
theorem dX5_init_43 : decode cX5_init 43 = .ok (.aload_n 0, 1) := by decide +kernel
theorem dX5_init_44 : decode cX5_init 44 = .ok (.iconst 0, 1) := by decide +kernel
theorem dX5_init_45 : decode cX5_init 45 = .ok (.putfield 28, 3) := by decide +kernel
theorem dX5_init_48 : decode cX5_init 48 = .ok (.aload_n 0, 1) := by decide +kernel
theorem dX5_init_49 : decode cX5_init 49 = .ok (.iconst 0, 1) := by decide +kernel
theorem dX5_init_50 : decode cX5_init 50 = .ok (.putfield 32, 3) := by decide +kernel
theorem dX5_init_53 : decode cX5_init 53 = .ok (.return_, 1) := by decide +kernel
theorem dX5_number_0 : decode cX5_number 0 = .ok (.aload_n 0, 1) := by decide +kernel
theorem dX5_number_1 : decode cX5_number 1 = .ok (.iconst 0, 1) := by decide +kernel
theorem dX5_number_2 : decode cX5_number 2 = .ok (.putfield 28, 3) := by decide +kernel
theorem dX5_number_5 : decode cX5_number 5 = .ok (.aload_n 0, 1) := by decide +kernel
theorem dX5_number_6 : decode cX5_number 6 = .ok (.iconst 0, 1) := by decide +kernel
theorem dX5_number_7 : decode cX5_number 7 = .ok (.putfield 32, 3) := by decide +kernel
theorem dX5_number_10 : decode cX5_number 10 = .ok (.aload_n 0, 1) := by decide +kernel
theorem dX5_number_11 : decode cX5_number 11 = .ok (.getfield 9, 3) := by decide +kernel
theorem dX5_number_14 : decode cX5_number 14 = .ok (.iconst 0, 1) := by decide +kernel
theorem dX5_number_15 : decode cX5_number 15 = .ok (.invokestatic 35, 3) := by decide +kernel
theorem dX5_number_18 : decode cX5_number 18 = .ok (.aload_n 0, 1) := by decide +kernel
theorem dX5_number_19 : decode cX5_number 19 = .ok (.getfield 15, 3) := by decide +kernel
theorem dX5_number_22 : decode cX5_number 22 = .ok (.iconst 0, 1) := by decide +kernel
theorem dX5_number_23 : decode cX5_number 23 = .ok (.invokestatic 35, 3) := by decide +kernel
theorem dX5_number_26 : decode cX5_number 26 = .ok (.iconst 0, 1) := by decide +kernel
theorem dX5_number_27 : decode cX5_number 27 = .ok (.istore_n 2, 1) := by decide +kernel
theorem dX5_number_28 : decode cX5_number 28 = .ok (.iload_n 2, 1) := by decide +kernel
theorem dX5_number_29 : decode cX5_number 29 = .ok (.aload_n 1, 1) := by decide +kernel
theorem dX5_number_30 : decode cX5_number 30 = .ok (.invokevirtual 41, 3) := by decide +kernel
theorem dX5_number_33 : decode cX5_number 33 = .ok (.if_icmp .ge 53, 3) := by decide +kernel
theorem dX5_number_36 : decode cX5_number 36 = .ok (.aload_n 1, 1) := by decide +kernel
theorem dX5_number_37 : decode cX5_number 37 = .ok (.iload_n 2, 1) := by decide +kernel
theorem dX5_number_38 : decode cX5_number 38 = .ok (.invokevirtual 46, 3) := by decide +kernel
theorem dX5_number_41 : decode cX5_number 41 = .ok (.istore_n 3, 1) := by decide +kernel
theorem dX5_number_42 : decode cX5_number 42 = .ok (.iload_n 3, 1) := by decide +kernel
theorem dX5_number_43 : decode cX5_number 43 = .ok (.invokestatic 50, 3) := by decide +kernel
theorem dX5_number_46 : decode cX5_number 46 = .ok (.ifCond .eq 14, 3) := by decide +kernel
theorem dX5_number_49 : decode cX5_number 49 = .ok (.aload_n 0, 1) := by decide +kernel
theorem dX5_number_50 : decode cX5_number 50 = .ok (.iload_n 3, 1) := by decide +kernel
theorem dX5_number_51 : decode cX5_number 51 = .ok (.bipush 97, 2) := by decide +kernel
theorem dX5_number_53 : decode cX5_number 53 = .ok (.isub, 1) := by decide +kernel
theorem dX5_number_54 : decode cX5_number 54 = .ok (.invokevirtual 54, 3) := by decide +kernel
theorem dX5_number_57 : decode cX5_number 57 = .ok (.goto 23, 3) := by decide +kernel
theorem dX5_number_60 : decode cX5_number 60 = .ok (.iload_n 3, 1) := by decide +kernel
theorem dX5_number_61 : decode cX5_number 61 = .ok (.invokestatic 58, 3) := by decide +kernel
theorem dX5_number_64 : decode cX5_number 64 = .ok (.ifCond .eq 11, 3) := by decide +kernel
theorem dX5_number_67 : decode cX5_number 67 = .ok (.aload_n 0, 1) := by decide +kernel
theorem dX5_number_68 : decode cX5_number 68 = .ok (.iload_n 3, 1) := by decide +kernel
theorem dX5_number_69 : decode cX5_number 69 = .ok (.invokevirtual 61, 3) := by decide +kernel
theorem dX5_number_72 : decode cX5_number 72 = .ok (.goto 8, 3) := by decide +kernel
theorem dX5_number_75 : decode cX5_number 75 = .ok (.aload_n 0, 1) := by decide +kernel
theorem dX5_number_76 : decode cX5_number 76 = .ok (.iload_n 3, 1) := by decide +kernel
theorem dX5_number_77 : decode cX5_number 77 = .ok (.invokevirtual 65, 3) := by decide +kernel
theorem dX5_number_80 : decode cX5_number 80 = .ok (.iinc 2 1, 3) := by decide +kernel
theorem dX5_number_83 : decode cX5_number 83 = .ok (.goto (-55), 3) := by decide +kernel
theorem dX5_number_86 : decode cX5_number 86 = .ok (.return_, 1) := by decide +kernel
theorem dX5_acceptNothing_0 : decode cX5_acceptNothing 0 = .ok (.aload_n 0, 1) := by decide +kernel
theorem dX5_acceptNothing_1 : decode cX5_acceptNothing 1 = .ok (.getfield 24, 3) := by decide +kernel
theorem dX5_acceptNothing_4 : decode cX5_acceptNothing 4 = .ok (.iconst 0, 1) := by decide +kernel
theorem dX5_acceptNothing_5 : decode cX5_acceptNothing 5 = .ok (.baload, 1) := by decide +kernel
theorem dX5_acceptNothing_6 : decode cX5_acceptNothing 6 = .ok (.ireturn, 1) := by decide +kernel
theorem dX5_first_0 : decode cX5_first 0 = .ok (.aload_n 0, 1) := by decide +kernel
theorem dX5_first_1 : decode cX5_first 1 = .ok (.getfield 18, 3) := by decide +kernel
theorem dX5_first_4 : decode cX5_first 4 = .ok (.iconst 0, 1) := by decide +kernel
theorem dX5_first_5 : decode cX5_first 5 = .ok (.iaload, 1) := by decide +kernel
theorem dX5_first_6 : decode cX5_first 6 = .ok (.ireturn, 1) := by decide +kernel
theorem dX5_last_0 : decode cX5_last 0 = .ok (.aload_n 0, 1) := by decide +kernel
theorem dX5_last_1 : decode cX5_last 1 = .ok (.getfield 21, 3) := by decide +kernel
theorem dX5_last_4 : decode cX5_last 4 = .ok (.iconst 0, 1) := by decide +kernel
theorem dX5_last_5 : decode cX5_last 5 = .ok (.iaload, 1) := by decide +kernel
theorem dX5_last_6 : decode cX5_last 6 = .ok (.ireturn, 1) := by decide +kernel
theorem dX5_having_0 : decode cX5_having 0 = .ok (.iload_n 1, 1) := by decide +kernel
theorem dX5_having_1 : decode cX5_having 1 = .ok (.ifCond .lt 8, 3) := by decide +kernel
theorem dX5_having_4 : decode cX5_having 4 = .ok (.iload_n 1, 1) := by decide +kernel
theorem dX5_having_5 : decode cX5_having 5 = .ok (.iconst 3, 1) := by decide +kernel
theorem dX5_having_6 : decode cX5_having 6 = .ok (.if_icmp .lt 7, 3) := by decide +kernel
theorem dX5_having_9 : decode cX5_having 9 = .ok (.iconst 0, 1) := by decide +kernel
theorem dX5_having_10 : decode cX5_having 10 = .ok (.goto 9, 3) := by decide +kernel
theorem dX5_having_13 : decode cX5_having 13 = .ok (.aload_n 0, 1) := by decide +kernel
theorem dX5_having_14 : decode cX5_having 14 = .ok (.getfield 9, 3) := by decide +kernel
theorem dX5_having_17 : decode cX5_having 17 = .ok (.iload_n 1, 1) := by decide +kernel
theorem dX5_having_18 : decode cX5_having 18 = .ok (.iaload, 1) := by decide +kernel
theorem dX5_having_19 : decode cX5_having 19 = .ok (.ireturn, 1) := by decide +kernel
theorem dX5_followersOf_0 : decode cX5_followersOf 0 = .ok (.iconst 0, 1) := by decide +kernel
theorem dX5_followersOf_1 : decode cX5_followersOf 1 = .ok (.istore_n 2, 1) := by decide +kernel
theorem dX5_followersOf_2 : decode cX5_followersOf 2 = .ok (.iconst 0, 1) := by decide +kernel
theorem dX5_followersOf_3 : decode cX5_followersOf 3 = .ok (.istore_n 3, 1) := by decide +kernel
theorem dX5_followersOf_4 : decode cX5_followersOf 4 = .ok (.iload_n 3, 1) := by decide +kernel
theorem dX5_followersOf_5 : decode cX5_followersOf 5 = .ok (.bipush 7, 2) := by decide +kernel
theorem dX5_followersOf_7 : decode cX5_followersOf 7 = .ok (.if_icmp .ge 26, 3) := by decide +kernel
theorem dX5_followersOf_10 : decode cX5_followersOf 10 = .ok (.iload_n 1, 1) := by decide +kernel
theorem dX5_followersOf_11 : decode cX5_followersOf 11 = .ok (.iload_n 3, 1) := by decide +kernel
theorem dX5_followersOf_12 : decode cX5_followersOf 12 = .ok (.ishr, 1) := by decide +kernel
theorem dX5_followersOf_13 : decode cX5_followersOf 13 = .ok (.iconst 1, 1) := by decide +kernel
theorem dX5_followersOf_14 : decode cX5_followersOf 14 = .ok (.iand, 1) := by decide +kernel
theorem dX5_followersOf_15 : decode cX5_followersOf 15 = .ok (.ifCond .eq 12, 3) := by decide +kernel
theorem dX5_followersOf_18 : decode cX5_followersOf 18 = .ok (.iload_n 2, 1) := by decide +kernel
theorem dX5_followersOf_19 : decode cX5_followersOf 19 = .ok (.aload_n 0, 1) := by decide +kernel
theorem dX5_followersOf_20 : decode cX5_followersOf 20 = .ok (.getfield 15, 3) := by decide +kernel
theorem dX5_followersOf_23 : decode cX5_followersOf 23 = .ok (.iload_n 3, 1) := by decide +kernel
theorem dX5_followersOf_24 : decode cX5_followersOf 24 = .ok (.iaload, 1) := by decide +kernel
theorem dX5_followersOf_25 : decode cX5_followersOf 25 = .ok (.ior, 1) := by decide +kernel
theorem dX5_followersOf_26 : decode cX5_followersOf 26 = .ok (.istore_n 2, 1) := by decide +kernel
theorem dX5_followersOf_27 : decode cX5_followersOf 27 = .ok (.iinc 3 1, 3) := by decide +kernel
theorem dX5_followersOf_30 : decode cX5_followersOf 30 = .ok (.goto (-26), 3) := by decide +kernel
theorem dX5_followersOf_33 : decode cX5_followersOf 33 = .ok (.iload_n 2, 1) := by decide +kernel
theorem dX5_followersOf_34 : decode cX5_followersOf 34 = .ok (.ireturn, 1) := by decide +kernel
theorem dX5_haveCycle_0 : decode cX5_haveCycle 0 = .ok (.iconst 1, 1) := by decide +kernel
theorem dX5_haveCycle_1 : decode cX5_haveCycle 1 = .ok (.aload_n 0, 1) := by decide +kernel
theorem dX5_haveCycle_2 : decode cX5_haveCycle 2 = .ok (.getfield 32, 3) := by decide +kernel
theorem dX5_haveCycle_5 : decode cX5_haveCycle 5 = .ok (.ishl, 1) := by decide +kernel
theorem dX5_haveCycle_6 : decode cX5_haveCycle 6 = .ok (.iconst 1, 1) := by decide +kernel
theorem dX5_haveCycle_7 : decode cX5_haveCycle 7 = .ok (.isub, 1) := by decide +kernel
theorem dX5_haveCycle_8 : decode cX5_haveCycle 8 = .ok (.istore_n 1, 1) := by decide +kernel
theorem dX5_haveCycle_9 : decode cX5_haveCycle 9 = .ok (.iconst 0, 1) := by decide +kernel
theorem dX5_haveCycle_10 : decode cX5_haveCycle 10 = .ok (.istore_n 2, 1) := by decide +kernel
theorem dX5_haveCycle_11 : decode cX5_haveCycle 11 = .ok (.iload_n 2, 1) := by decide +kernel
theorem dX5_haveCycle_12 : decode cX5_haveCycle 12 = .ok (.bipush 7, 2) := by decide +kernel
theorem dX5_haveCycle_14 : decode cX5_haveCycle 14 = .ok (.if_icmp .ge 42, 3) := by decide +kernel
theorem dX5_haveCycle_17 : decode cX5_haveCycle 17 = .ok (.iconst 0, 1) := by decide +kernel
theorem dX5_haveCycle_18 : decode cX5_haveCycle 18 = .ok (.istore_n 3, 1) := by decide +kernel
theorem dX5_haveCycle_19 : decode cX5_haveCycle 19 = .ok (.iload_n 3, 1) := by decide +kernel
theorem dX5_haveCycle_20 : decode cX5_haveCycle 20 = .ok (.bipush 7, 2) := by decide +kernel
theorem dX5_haveCycle_22 : decode cX5_haveCycle 22 = .ok (.if_icmp .ge 28, 3) := by decide +kernel
theorem dX5_haveCycle_25 : decode cX5_haveCycle 25 = .ok (.aload_n 0, 1) := by decide +kernel
theorem dX5_haveCycle_26 : decode cX5_haveCycle 26 = .ok (.getfield 15, 3) := by decide +kernel
theorem dX5_haveCycle_29 : decode cX5_haveCycle 29 = .ok (.iload_n 3, 1) := by decide +kernel
theorem dX5_haveCycle_30 : decode cX5_haveCycle 30 = .ok (.iaload, 1) := by decide +kernel
theorem dX5_haveCycle_31 : decode cX5_haveCycle 31 = .ok (.iload_n 1, 1) := by decide +kernel
theorem dX5_haveCycle_32 : decode cX5_haveCycle 32 = .ok (.iand, 1) := by decide +kernel
theorem dX5_haveCycle_33 : decode cX5_haveCycle 33 = .ok (.ifCond .ne 11, 3) := by decide +kernel
theorem dX5_haveCycle_36 : decode cX5_haveCycle 36 = .ok (.iload_n 1, 1) := by decide +kernel
theorem dX5_haveCycle_37 : decode cX5_haveCycle 37 = .ok (.iconst 1, 1) := by decide +kernel
theorem dX5_haveCycle_38 : decode cX5_haveCycle 38 = .ok (.iload_n 3, 1) := by decide +kernel
theorem dX5_haveCycle_39 : decode cX5_haveCycle 39 = .ok (.ishl, 1) := by decide +kernel
theorem dX5_haveCycle_40 : decode cX5_haveCycle 40 = .ok (.iconst (-1), 1) := by decide +kernel
theorem dX5_haveCycle_41 : decode cX5_haveCycle 41 = .ok (.ixor, 1) := by decide +kernel
theorem dX5_haveCycle_42 : decode cX5_haveCycle 42 = .ok (.iand, 1) := by decide +kernel
theorem dX5_haveCycle_43 : decode cX5_haveCycle 43 = .ok (.istore_n 1, 1) := by decide +kernel
theorem dX5_haveCycle_44 : decode cX5_haveCycle 44 = .ok (.iinc 3 1, 3) := by decide +kernel
theorem dX5_haveCycle_47 : decode cX5_haveCycle 47 = .ok (.goto (-28), 3) := by decide +kernel
theorem dX5_haveCycle_50 : decode cX5_haveCycle 50 = .ok (.iinc 2 1, 3) := by decide +kernel
theorem dX5_haveCycle_53 : decode cX5_haveCycle 53 = .ok (.goto (-42), 3) := by decide +kernel
theorem dX5_haveCycle_56 : decode cX5_haveCycle 56 = .ok (.iload_n 1, 1) := by decide +kernel
theorem dX5_haveCycle_57 : decode cX5_haveCycle 57 = .ok (.ifCond .eq 7, 3) := by decide +kernel
theorem dX5_haveCycle_60 : decode cX5_haveCycle 60 = .ok (.iconst 1, 1) := by decide +kernel
theorem dX5_haveCycle_61 : decode cX5_haveCycle 61 = .ok (.goto 4, 3) := by decide +kernel
theorem dX5_haveCycle_64 : decode cX5_haveCycle 64 = .ok (.iconst 0, 1) := by decide +kernel
theorem dX5_haveCycle_65 : decode cX5_haveCycle 65 = .ok (.ireturn, 1) := by decide +kernel
theorem dX5_addPosition_0 : decode cX5_addPosition 0 = .ok (.aload_n 0, 1) := by decide +kernel
theorem dX5_addPosition_1 : decode cX5_addPosition 1 = .ok (.getfield 28, 3) := by decide +kernel
theorem dX5_addPosition_4 : decode cX5_addPosition 4 = .ok (.ifCond .lt 30, 3) := by decide +kernel
theorem dX5_addPosition_7 : decode cX5_addPosition 7 = .ok (.aload_n 0, 1) := by decide +kernel
theorem dX5_addPosition_8 : decode cX5_addPosition 8 = .ok (.getfield 28, 3) := by decide +kernel
theorem dX5_addPosition_11 : decode cX5_addPosition 11 = .ok (.bipush 7, 2) := by decide +kernel
theorem dX5_addPosition_13 : decode cX5_addPosition 13 = .ok (.if_icmp .ge 21, 3) := by decide +kernel
theorem dX5_addPosition_16 : decode cX5_addPosition 16 = .ok (.aload_n 0, 1) := by decide +kernel
theorem dX5_addPosition_17 : decode cX5_addPosition 17 = .ok (.getfield 32, 3) := by decide +kernel
theorem dX5_addPosition_20 : decode cX5_addPosition 20 = .ok (.bipush 7, 2) := by decide +kernel
theorem dX5_addPosition_22 : decode cX5_addPosition 22 = .ok (.if_icmp .ge 12, 3) := by decide +kernel
theorem dX5_addPosition_25 : decode cX5_addPosition 25 = .ok (.iload_n 1, 1) := by decide +kernel
theorem dX5_addPosition_26 : decode cX5_addPosition 26 = .ok (.ifCond .lt 8, 3) := by decide +kernel
theorem dX5_addPosition_29 : decode cX5_addPosition 29 = .ok (.iload_n 1, 1) := by decide +kernel
theorem dX5_addPosition_30 : decode cX5_addPosition 30 = .ok (.iconst 3, 1) := by decide +kernel
theorem dX5_addPosition_31 : decode cX5_addPosition 31 = .ok (.if_icmp .lt 4, 3) := by decide +kernel
theorem dX5_addPosition_34 : decode cX5_addPosition 34 = .ok (.return_, 1) := by decide +kernel
theorem dX5_addPosition_35 : decode cX5_addPosition 35 = .ok (.iconst 1, 1) := by decide +kernel
theorem dX5_addPosition_36 : decode cX5_addPosition 36 = .ok (.aload_n 0, 1) := by decide +kernel
theorem dX5_addPosition_37 : decode cX5_addPosition 37 = .ok (.getfield 32, 3) := by decide +kernel
theorem dX5_addPosition_40 : decode cX5_addPosition 40 = .ok (.ishl, 1) := by decide +kernel
theorem dX5_addPosition_41 : decode cX5_addPosition 41 = .ok (.istore_n 2, 1) := by decide +kernel
theorem dX5_addPosition_42 : decode cX5_addPosition 42 = .ok (.aload_n 0, 1) := by decide +kernel
theorem dX5_addPosition_43 : decode cX5_addPosition 43 = .ok (.getfield 9, 3) := by decide +kernel
theorem dX5_addPosition_46 : decode cX5_addPosition 46 = .ok (.iload_n 1, 1) := by decide +kernel
theorem dX5_addPosition_47 : decode cX5_addPosition 47 = .ok (.dup2, 1) := by decide +kernel
theorem dX5_addPosition_48 : decode cX5_addPosition 48 = .ok (.iaload, 1) := by decide +kernel
theorem dX5_addPosition_49 : decode cX5_addPosition 49 = .ok (.iload_n 2, 1) := by decide +kernel
theorem dX5_addPosition_50 : decode cX5_addPosition 50 = .ok (.ior, 1) := by decide +kernel
theorem dX5_addPosition_51 : decode cX5_addPosition 51 = .ok (.iastore, 1) := by decide +kernel
theorem dX5_addPosition_52 : decode cX5_addPosition 52 = .ok (.aload_n 0, 1) := by decide +kernel
theorem dX5_addPosition_53 : decode cX5_addPosition 53 = .ok (.getfield 18, 3) := by decide +kernel
theorem dX5_addPosition_56 : decode cX5_addPosition 56 = .ok (.aload_n 0, 1) := by decide +kernel
theorem dX5_addPosition_57 : decode cX5_addPosition 57 = .ok (.getfield 28, 3) := by decide +kernel
theorem dX5_addPosition_60 : decode cX5_addPosition 60 = .ok (.iload_n 2, 1) := by decide +kernel
theorem dX5_addPosition_61 : decode cX5_addPosition 61 = .ok (.iastore, 1) := by decide +kernel
theorem dX5_addPosition_62 : decode cX5_addPosition 62 = .ok (.aload_n 0, 1) := by decide +kernel
theorem dX5_addPosition_63 : decode cX5_addPosition 63 = .ok (.getfield 21, 3) := by decide +kernel
theorem dX5_addPosition_66 : decode cX5_addPosition 66 = .ok (.aload_n 0, 1) := by decide +kernel
theorem dX5_addPosition_67 : decode cX5_addPosition 67 = .ok (.getfield 28, 3) := by decide +kernel
theorem dX5_addPosition_70 : decode cX5_addPosition 70 = .ok (.iload_n 2, 1) := by decide +kernel
theorem dX5_addPosition_71 : decode cX5_addPosition 71 = .ok (.iastore, 1) := by decide +kernel
theorem dX5_addPosition_72 : decode cX5_addPosition 72 = .ok (.aload_n 0, 1) := by decide +kernel
theorem dX5_addPosition_73 : decode cX5_addPosition 73 = .ok (.getfield 24, 3) := by decide +kernel
theorem dX5_addPosition_76 : decode cX5_addPosition 76 = .ok (.aload_n 0, 1) := by decide +kernel
theorem dX5_addPosition_77 : decode cX5_addPosition 77 = .ok (.getfield 28, 3) := by decide +kernel
theorem dX5_addPosition_80 : decode cX5_addPosition 80 = .ok (.iconst 0, 1) := by decide +kernel
theorem dX5_addPosition_81 : decode cX5_addPosition 81 = .ok (.bastore, 1) := by decide +kernel
theorem dX5_addPosition_82 : decode cX5_addPosition 82 = .ok (.aload_n 0, 1) := by decide +kernel
theorem dX5_addPosition_83 : decode cX5_addPosition 83 = .ok (.dup, 1) := by decide +kernel
theorem dX5_addPosition_84 : decode cX5_addPosition 84 = .ok (.getfield 28, 3) := by decide +kernel
theorem dX5_addPosition_87 : decode cX5_addPosition 87 = .ok (.iconst 1, 1) := by decide +kernel
theorem dX5_addPosition_88 : decode cX5_addPosition 88 = .ok (.iadd, 1) := by decide +kernel
theorem dX5_addPosition_89 : decode cX5_addPosition 89 = .ok (.putfield 28, 3) := by decide +kernel
theorem dX5_addPosition_92 : decode cX5_addPosition 92 = .ok (.aload_n 0, 1) := by decide +kernel
theorem dX5_addPosition_93 : decode cX5_addPosition 93 = .ok (.dup, 1) := by decide +kernel
theorem dX5_addPosition_94 : decode cX5_addPosition 94 = .ok (.getfield 32, 3) := by decide +kernel
theorem dX5_addPosition_97 : decode cX5_addPosition 97 = .ok (.iconst 1, 1) := by decide +kernel
theorem dX5_addPosition_98 : decode cX5_addPosition 98 = .ok (.iadd, 1) := by decide +kernel
theorem dX5_addPosition_99 : decode cX5_addPosition 99 = .ok (.putfield 32, 3) := by decide +kernel
theorem dX5_addPosition_102 : decode cX5_addPosition 102 = .ok (.return_, 1) := by decide +kernel
theorem dX5_sign_0 : decode cX5_sign 0 = .ok (.aload_n 0, 1) := by decide +kernel
theorem dX5_sign_1 : decode cX5_sign 1 = .ok (.getfield 28, 3) := by decide +kernel
theorem dX5_sign_4 : decode cX5_sign 4 = .ok (.iconst 1, 1) := by decide +kernel
theorem dX5_sign_5 : decode cX5_sign 5 = .ok (.isub, 1) := by decide +kernel
theorem dX5_sign_6 : decode cX5_sign 6 = .ok (.istore_n 2, 1) := by decide +kernel
theorem dX5_sign_7 : decode cX5_sign 7 = .ok (.iload_n 2, 1) := by decide +kernel
theorem dX5_sign_8 : decode cX5_sign 8 = .ok (.ifCond .lt 9, 3) := by decide +kernel
theorem dX5_sign_11 : decode cX5_sign 11 = .ok (.iload_n 2, 1) := by decide +kernel
theorem dX5_sign_12 : decode cX5_sign 12 = .ok (.bipush 7, 2) := by decide +kernel
theorem dX5_sign_14 : decode cX5_sign 14 = .ok (.if_icmp .lt 4, 3) := by decide +kernel
theorem dX5_sign_17 : decode cX5_sign 17 = .ok (.return_, 1) := by decide +kernel
theorem dX5_sign_18 : decode cX5_sign 18 = .ok (.iload_n 1, 1) := by decide +kernel
theorem dX5_sign_19 : decode cX5_sign 19 = .ok (.bipush 63, 2) := by decide +kernel
theorem dX5_sign_21 : decode cX5_sign 21 = .ok (.if_icmp .eq 19, 3) := by decide +kernel
theorem dX5_sign_24 : decode cX5_sign 24 = .ok (.aload_n 0, 1) := by decide +kernel
theorem dX5_sign_25 : decode cX5_sign 25 = .ok (.aload_n 0, 1) := by decide +kernel
theorem dX5_sign_26 : decode cX5_sign 26 = .ok (.getfield 21, 3) := by decide +kernel
theorem dX5_sign_29 : decode cX5_sign 29 = .ok (.iload_n 2, 1) := by decide +kernel
theorem dX5_sign_30 : decode cX5_sign 30 = .ok (.iaload, 1) := by decide +kernel
theorem dX5_sign_31 : decode cX5_sign 31 = .ok (.aload_n 0, 1) := by decide +kernel
theorem dX5_sign_32 : decode cX5_sign 32 = .ok (.getfield 18, 3) := by decide +kernel
theorem dX5_sign_35 : decode cX5_sign 35 = .ok (.iload_n 2, 1) := by decide +kernel
theorem dX5_sign_36 : decode cX5_sign 36 = .ok (.iaload, 1) := by decide +kernel
theorem dX5_sign_37 : decode cX5_sign 37 = .ok (.invokevirtual 68, 3) := by decide +kernel
theorem dX5_sign_40 : decode cX5_sign 40 = .ok (.iload_n 1, 1) := by decide +kernel
theorem dX5_sign_41 : decode cX5_sign 41 = .ok (.bipush 43, 2) := by decide +kernel
theorem dX5_sign_43 : decode cX5_sign 43 = .ok (.if_icmp .eq 10, 3) := by decide +kernel
theorem dX5_sign_46 : decode cX5_sign 46 = .ok (.aload_n 0, 1) := by decide +kernel
theorem dX5_sign_47 : decode cX5_sign 47 = .ok (.getfield 24, 3) := by decide +kernel
theorem dX5_sign_50 : decode cX5_sign 50 = .ok (.iload_n 2, 1) := by decide +kernel
theorem dX5_sign_51 : decode cX5_sign 51 = .ok (.iconst 1, 1) := by decide +kernel
theorem dX5_sign_52 : decode cX5_sign 52 = .ok (.bastore, 1) := by decide +kernel
theorem dX5_sign_53 : decode cX5_sign 53 = .ok (.return_, 1) := by decide +kernel
theorem dX5_join_0 : decode cX5_join 0 = .ok (.aload_n 0, 1) := by decide +kernel
theorem dX5_join_1 : decode cX5_join 1 = .ok (.getfield 28, 3) := by decide +kernel
theorem dX5_join_4 : decode cX5_join 4 = .ok (.iconst 2, 1) := by decide +kernel
theorem dX5_join_5 : decode cX5_join 5 = .ok (.isub, 1) := by decide +kernel
theorem dX5_join_6 : decode cX5_join 6 = .ok (.istore_n 2, 1) := by decide +kernel
theorem dX5_join_7 : decode cX5_join 7 = .ok (.aload_n 0, 1) := by decide +kernel
theorem dX5_join_8 : decode cX5_join 8 = .ok (.getfield 28, 3) := by decide +kernel
theorem dX5_join_11 : decode cX5_join 11 = .ok (.iconst 1, 1) := by decide +kernel
theorem dX5_join_12 : decode cX5_join 12 = .ok (.isub, 1) := by decide +kernel
theorem dX5_join_13 : decode cX5_join 13 = .ok (.istore_n 3, 1) := by decide +kernel
theorem dX5_join_14 : decode cX5_join 14 = .ok (.iload_n 2, 1) := by decide +kernel
theorem dX5_join_15 : decode cX5_join 15 = .ok (.ifCond .lt 9, 3) := by decide +kernel
theorem dX5_join_18 : decode cX5_join 18 = .ok (.iload_n 3, 1) := by decide +kernel
theorem dX5_join_19 : decode cX5_join 19 = .ok (.bipush 7, 2) := by decide +kernel
theorem dX5_join_21 : decode cX5_join 21 = .ok (.if_icmp .lt 4, 3) := by decide +kernel
theorem dX5_join_24 : decode cX5_join 24 = .ok (.return_, 1) := by decide +kernel
theorem dX5_join_25 : decode cX5_join 25 = .ok (.aload_n 0, 1) := by decide +kernel
theorem dX5_join_26 : decode cX5_join 26 = .ok (.dup, 1) := by decide +kernel
theorem dX5_join_27 : decode cX5_join 27 = .ok (.getfield 28, 3) := by decide +kernel
theorem dX5_join_30 : decode cX5_join 30 = .ok (.iconst 1, 1) := by decide +kernel
theorem dX5_join_31 : decode cX5_join 31 = .ok (.isub, 1) := by decide +kernel
theorem dX5_join_32 : decode cX5_join 32 = .ok (.putfield 28, 3) := by decide +kernel
theorem dX5_join_35 : decode cX5_join 35 = .ok (.iload_n 1, 1) := by decide +kernel
theorem dX5_join_36 : decode cX5_join 36 = .ok (.bipush 124, 2) := by decide +kernel
theorem dX5_join_38 : decode cX5_join 38 = .ok (.if_icmp .ne 49, 3) := by decide +kernel
theorem dX5_join_41 : decode cX5_join 41 = .ok (.aload_n 0, 1) := by decide +kernel
theorem dX5_join_42 : decode cX5_join 42 = .ok (.getfield 18, 3) := by decide +kernel
theorem dX5_join_45 : decode cX5_join 45 = .ok (.iload_n 2, 1) := by decide +kernel
theorem dX5_join_46 : decode cX5_join 46 = .ok (.dup2, 1) := by decide +kernel
theorem dX5_join_47 : decode cX5_join 47 = .ok (.iaload, 1) := by decide +kernel
theorem dX5_join_48 : decode cX5_join 48 = .ok (.aload_n 0, 1) := by decide +kernel
theorem dX5_join_49 : decode cX5_join 49 = .ok (.getfield 18, 3) := by decide +kernel
theorem dX5_join_52 : decode cX5_join 52 = .ok (.iload_n 3, 1) := by decide +kernel
theorem dX5_join_53 : decode cX5_join 53 = .ok (.iaload, 1) := by decide +kernel
theorem dX5_join_54 : decode cX5_join 54 = .ok (.ior, 1) := by decide +kernel
theorem dX5_join_55 : decode cX5_join 55 = .ok (.iastore, 1) := by decide +kernel
theorem dX5_join_56 : decode cX5_join 56 = .ok (.aload_n 0, 1) := by decide +kernel
theorem dX5_join_57 : decode cX5_join 57 = .ok (.getfield 21, 3) := by decide +kernel
theorem dX5_join_60 : decode cX5_join 60 = .ok (.iload_n 2, 1) := by decide +kernel
theorem dX5_join_61 : decode cX5_join 61 = .ok (.dup2, 1) := by decide +kernel
theorem dX5_join_62 : decode cX5_join 62 = .ok (.iaload, 1) := by decide +kernel
theorem dX5_join_63 : decode cX5_join 63 = .ok (.aload_n 0, 1) := by decide +kernel
theorem dX5_join_64 : decode cX5_join 64 = .ok (.getfield 21, 3) := by decide +kernel
theorem dX5_join_67 : decode cX5_join 67 = .ok (.iload_n 3, 1) := by decide +kernel
theorem dX5_join_68 : decode cX5_join 68 = .ok (.iaload, 1) := by decide +kernel
theorem dX5_join_69 : decode cX5_join 69 = .ok (.ior, 1) := by decide +kernel
theorem dX5_join_70 : decode cX5_join 70 = .ok (.iastore, 1) := by decide +kernel
theorem dX5_join_71 : decode cX5_join 71 = .ok (.aload_n 0, 1) := by decide +kernel
theorem dX5_join_72 : decode cX5_join 72 = .ok (.getfield 24, 3) := by decide +kernel
theorem dX5_join_75 : decode cX5_join 75 = .ok (.iload_n 2, 1) := by decide +kernel
theorem dX5_join_76 : decode cX5_join 76 = .ok (.dup2, 1) := by decide +kernel
theorem dX5_join_77 : decode cX5_join 77 = .ok (.baload, 1) := by decide +kernel
theorem dX5_join_78 : decode cX5_join 78 = .ok (.aload_n 0, 1) := by decide +kernel
theorem dX5_join_79 : decode cX5_join 79 = .ok (.getfield 24, 3) := by decide +kernel
theorem dX5_join_82 : decode cX5_join 82 = .ok (.iload_n 3, 1) := by decide +kernel
theorem dX5_join_83 : decode cX5_join 83 = .ok (.baload, 1) := by decide +kernel
theorem dX5_join_84 : decode cX5_join 84 = .ok (.ior, 1) := by decide +kernel
theorem dX5_join_85 : decode cX5_join 85 = .ok (.bastore, 1) := by decide +kernel
theorem dX5_join_86 : decode cX5_join 86 = .ok (.return_, 1) := by decide +kernel
theorem dX5_join_87 : decode cX5_join 87 = .ok (.aload_n 0, 1) := by decide +kernel
theorem dX5_join_88 : decode cX5_join 88 = .ok (.aload_n 0, 1) := by decide +kernel
theorem dX5_join_89 : decode cX5_join 89 = .ok (.getfield 21, 3) := by decide +kernel
theorem dX5_join_92 : decode cX5_join 92 = .ok (.iload_n 2, 1) := by decide +kernel
theorem dX5_join_93 : decode cX5_join 93 = .ok (.iaload, 1) := by decide +kernel
theorem dX5_join_94 : decode cX5_join 94 = .ok (.aload_n 0, 1) := by decide +kernel
theorem dX5_join_95 : decode cX5_join 95 = .ok (.getfield 18, 3) := by decide +kernel
theorem dX5_join_98 : decode cX5_join 98 = .ok (.iload_n 3, 1) := by decide +kernel
theorem dX5_join_99 : decode cX5_join 99 = .ok (.iaload, 1) := by decide +kernel
theorem dX5_join_100 : decode cX5_join 100 = .ok (.invokevirtual 68, 3) := by decide +kernel
theorem dX5_join_103 : decode cX5_join 103 = .ok (.aload_n 0, 1) := by decide +kernel
theorem dX5_join_104 : decode cX5_join 104 = .ok (.getfield 18, 3) := by decide +kernel
theorem dX5_join_107 : decode cX5_join 107 = .ok (.iload_n 2, 1) := by decide +kernel
theorem dX5_join_108 : decode cX5_join 108 = .ok (.dup2, 1) := by decide +kernel
theorem dX5_join_109 : decode cX5_join 109 = .ok (.iaload, 1) := by decide +kernel
theorem dX5_join_110 : decode cX5_join 110 = .ok (.aload_n 0, 1) := by decide +kernel
theorem dX5_join_111 : decode cX5_join 111 = .ok (.getfield 24, 3) := by decide +kernel
theorem dX5_join_114 : decode cX5_join 114 = .ok (.iload_n 2, 1) := by decide +kernel
theorem dX5_join_115 : decode cX5_join 115 = .ok (.baload, 1) := by decide +kernel
theorem dX5_join_116 : decode cX5_join 116 = .ok (.ifCond .eq 12, 3) := by decide +kernel
theorem dX5_join_119 : decode cX5_join 119 = .ok (.aload_n 0, 1) := by decide +kernel
theorem dX5_join_120 : decode cX5_join 120 = .ok (.getfield 18, 3) := by decide +kernel
theorem dX5_join_123 : decode cX5_join 123 = .ok (.iload_n 3, 1) := by decide +kernel
theorem dX5_join_124 : decode cX5_join 124 = .ok (.iaload, 1) := by decide +kernel
theorem dX5_join_125 : decode cX5_join 125 = .ok (.goto 4, 3) := by decide +kernel
theorem dX5_join_128 : decode cX5_join 128 = .ok (.iconst 0, 1) := by decide +kernel
theorem dX5_join_129 : decode cX5_join 129 = .ok (.ior, 1) := by decide +kernel
theorem dX5_join_130 : decode cX5_join 130 = .ok (.iastore, 1) := by decide +kernel
theorem dX5_join_131 : decode cX5_join 131 = .ok (.aload_n 0, 1) := by decide +kernel
theorem dX5_join_132 : decode cX5_join 132 = .ok (.getfield 21, 3) := by decide +kernel
theorem dX5_join_135 : decode cX5_join 135 = .ok (.iload_n 2, 1) := by decide +kernel
theorem dX5_join_136 : decode cX5_join 136 = .ok (.aload_n 0, 1) := by decide +kernel
theorem dX5_join_137 : decode cX5_join 137 = .ok (.getfield 21, 3) := by decide +kernel
theorem dX5_join_140 : decode cX5_join 140 = .ok (.iload_n 3, 1) := by decide +kernel
theorem dX5_join_141 : decode cX5_join 141 = .ok (.iaload, 1) := by decide +kernel
theorem dX5_join_142 : decode cX5_join 142 = .ok (.aload_n 0, 1) := by decide +kernel
theorem dX5_join_143 : decode cX5_join 143 = .ok (.getfield 24, 3) := by decide +kernel
theorem dX5_join_146 : decode cX5_join 146 = .ok (.iload_n 3, 1) := by decide +kernel
theorem dX5_join_147 : decode cX5_join 147 = .ok (.baload, 1) := by decide +kernel
theorem dX5_join_148 : decode cX5_join 148 = .ok (.ifCond .eq 12, 3) := by decide +kernel
theorem dX5_join_151 : decode cX5_join 151 = .ok (.aload_n 0, 1) := by decide +kernel
theorem dX5_join_152 : decode cX5_join 152 = .ok (.getfield 21, 3) := by decide +kernel
theorem dX5_join_155 : decode cX5_join 155 = .ok (.iload_n 2, 1) := by decide +kernel
theorem dX5_join_156 : decode cX5_join 156 = .ok (.iaload, 1) := by decide +kernel
theorem dX5_join_157 : decode cX5_join 157 = .ok (.goto 4, 3) := by decide +kernel
theorem dX5_join_160 : decode cX5_join 160 = .ok (.iconst 0, 1) := by decide +kernel
theorem dX5_join_161 : decode cX5_join 161 = .ok (.ior, 1) := by decide +kernel
theorem dX5_join_162 : decode cX5_join 162 = .ok (.iastore, 1) := by decide +kernel
theorem dX5_join_163 : decode cX5_join 163 = .ok (.aload_n 0, 1) := by decide +kernel
theorem dX5_join_164 : decode cX5_join 164 = .ok (.getfield 24, 3) := by decide +kernel
theorem dX5_join_167 : decode cX5_join 167 = .ok (.iload_n 2, 1) := by decide +kernel
theorem dX5_join_168 : decode cX5_join 168 = .ok (.dup2, 1) := by decide +kernel
theorem dX5_join_169 : decode cX5_join 169 = .ok (.baload, 1) := by decide +kernel
theorem dX5_join_170 : decode cX5_join 170 = .ok (.aload_n 0, 1) := by decide +kernel
theorem dX5_join_171 : decode cX5_join 171 = .ok (.getfield 24, 3) := by decide +kernel
theorem dX5_join_174 : decode cX5_join 174 = .ok (.iload_n 3, 1) := by decide +kernel
theorem dX5_join_175 : decode cX5_join 175 = .ok (.baload, 1) := by decide +kernel
theorem dX5_join_176 : decode cX5_join 176 = .ok (.iand, 1) := by decide +kernel
theorem dX5_join_177 : decode cX5_join 177 = .ok (.bastore, 1) := by decide +kernel
theorem dX5_join_178 : decode cX5_join 178 = .ok (.return_, 1) := by decide +kernel
theorem dX5_addFollowers_0 : decode cX5_addFollowers 0 = .ok (.iconst 0, 1) := by decide +kernel
theorem dX5_addFollowers_1 : decode cX5_addFollowers 1 = .ok (.istore_n 3, 1) := by decide +kernel
theorem dX5_addFollowers_2 : decode cX5_addFollowers 2 = .ok (.iload_n 3, 1) := by decide +kernel
theorem dX5_addFollowers_3 : decode cX5_addFollowers 3 = .ok (.bipush 7, 2) := by decide +kernel
theorem dX5_addFollowers_5 : decode cX5_addFollowers 5 = .ok (.if_icmp .ge 27, 3) := by decide +kernel
theorem dX5_addFollowers_8 : decode cX5_addFollowers 8 = .ok (.iload_n 1, 1) := by decide +kernel
theorem dX5_addFollowers_9 : decode cX5_addFollowers 9 = .ok (.iload_n 3, 1) := by decide +kernel
theorem dX5_addFollowers_10 : decode cX5_addFollowers 10 = .ok (.ishr, 1) := by decide +kernel
theorem dX5_addFollowers_11 : decode cX5_addFollowers 11 = .ok (.iconst 1, 1) := by decide +kernel
theorem dX5_addFollowers_12 : decode cX5_addFollowers 12 = .ok (.iand, 1) := by decide +kernel
theorem dX5_addFollowers_13 : decode cX5_addFollowers 13 = .ok (.ifCond .eq 13, 3) := by decide +kernel
theorem dX5_addFollowers_16 : decode cX5_addFollowers 16 = .ok (.aload_n 0, 1) := by decide +kernel
theorem dX5_addFollowers_17 : decode cX5_addFollowers 17 = .ok (.getfield 15, 3) := by decide +kernel
theorem dX5_addFollowers_20 : decode cX5_addFollowers 20 = .ok (.iload_n 3, 1) := by decide +kernel
theorem dX5_addFollowers_21 : decode cX5_addFollowers 21 = .ok (.dup2, 1) := by decide +kernel
theorem dX5_addFollowers_22 : decode cX5_addFollowers 22 = .ok (.iaload, 1) := by decide +kernel
theorem dX5_addFollowers_23 : decode cX5_addFollowers 23 = .ok (.iload_n 2, 1) := by decide +kernel
theorem dX5_addFollowers_24 : decode cX5_addFollowers 24 = .ok (.ior, 1) := by decide +kernel
theorem dX5_addFollowers_25 : decode cX5_addFollowers 25 = .ok (.iastore, 1) := by decide +kernel
theorem dX5_addFollowers_26 : decode cX5_addFollowers 26 = .ok (.iinc 3 1, 3) := by decide +kernel
theorem dX5_addFollowers_29 : decode cX5_addFollowers 29 = .ok (.goto (-27), 3) := by decide +kernel
theorem dX5_addFollowers_32 : decode cX5_addFollowers 32 = .ok (.return_, 1) := by decide +kernel
theorem dX6_init_0 : decode cX6_init 0 = .ok (.aload_n 0, 1) := by decide +kernel
theorem dX6_init_1 : decode cX6_init 1 = .ok (.invokespecial 3, 3) := by decide +kernel
theorem dX6_init_4 : decode cX6_init 4 = .ok (.aload_n 0, 1) := by decide +kernel
theorem dX6_init_5 : decode cX6_init 5 = .ok (.bipush 6, 2) := by decide +kernel
theorem dX6_init_7 : decode cX6_init 7 = .ok (.anewarray 9, 3) := by decide +kernel
theorem dX6_init_10 : decode cX6_init 10 = .ok (.putfield 11, 3) := by decide +kernel
theorem dX6_init_13 : decode cX6_init 13 = .ok (.aload_n 0, 1) := by decide +kernel
theorem dX6_init_14 : decode cX6_init 14 = .ok (.bipush 8, 2) := by decide +kernel
theorem dX6_init_16 : decode cX6_init 16 = .ok (.anewarray 17, 3) := by decide +kernel
theorem dX6_init_19 : decode cX6_init 19 = .ok (.putfield 19, 3) := by decide +kernel
theorem dX6_init_22 : decode cX6_init 22 = .ok (.aload_n 0, 1) := by decide +kernel
theorem dX6_init_23 : decode cX6_init 23 = .ok (.iconst 0, 1) := by decide +kernel
theorem dX6_init_24 : decode cX6_init 24 = .ok (.putfield 23, 3) := by decide +kernel
theorem dX6_init_27 : decode cX6_init 27 = .ok (.aload_n 0, 1) := by decide +kernel
theorem dX6_init_28 : decode cX6_init 28 = .ok (.iconst 0, 1) := by decide +kernel
theorem dX6_init_29 : decode cX6_init 29 = .ok (.putfield 27, 3) := by decide +kernel
theorem dX6_init_32 : decode cX6_init 32 = .ok (.return_, 1) := by decide +kernel
theorem dX6_copyFrom_0 : decode cX6_copyFrom 0 = .ok (.iconst 0, 1) := by decide +kernel
theorem dX6_copyFrom_1 : decode cX6_copyFrom 1 = .ok (.istore_n 2, 1) := by decide +kernel
theorem dX6_copyFrom_2 : decode cX6_copyFrom 2 = .ok (.iload_n 2, 1) := by decide +kernel
theorem dX6_copyFrom_3 : decode cX6_copyFrom 3 = .ok (.bipush 6, 2) := by decide +kernel
theorem dX6_copyFrom_5 : decode cX6_copyFrom 5 = .ok (.if_icmp .ge 21, 3) := by decide +kernel
theorem dX6_copyFrom_8 : decode cX6_copyFrom 8 = .ok (.aload_n 0, 1) := by decide +kernel
theorem dX6_copyFrom_9 : decode cX6_copyFrom 9 = .ok (.getfield 11, 3) := by decide +kernel
theorem dX6_copyFrom_12 : decode cX6_copyFrom 12 = .ok (.iload_n 2, 1) := by decide +kernel
theorem dX6_copyFrom_13 : decode cX6_copyFrom 13 = .ok (.aload_n 1, 1) := by decide +kernel
theorem dX6_copyFrom_14 : decode cX6_copyFrom 14 = .ok (.getfield 11, 3) := by decide +kernel
theorem dX6_copyFrom_17 : decode cX6_copyFrom 17 = .ok (.iload_n 2, 1) := by decide +kernel
theorem dX6_copyFrom_18 : decode cX6_copyFrom 18 = .ok (.aaload, 1) := by decide +kernel
theorem dX6_copyFrom_19 : decode cX6_copyFrom 19 = .ok (.aastore, 1) := by decide +kernel
theorem dX6_copyFrom_20 : decode cX6_copyFrom 20 = .ok (.iinc 2 1, 3) := by decide +kernel
theorem dX6_copyFrom_23 : decode cX6_copyFrom 23 = .ok (.goto (-21), 3) := by decide +kernel
theorem dX6_copyFrom_26 : decode cX6_copyFrom 26 = .ok (.iconst 0, 1) := by decide +kernel
theorem dX6_copyFrom_27 : decode cX6_copyFrom 27 = .ok (.istore_n 2, 1) := by decide +kernel
theorem dX6_copyFrom_28 : decode cX6_copyFrom 28 = .ok (.iload_n 2, 1) := by decide +kernel
theorem dX6_copyFrom_29 : decode cX6_copyFrom 29 = .ok (.bipush 8, 2) := by decide +kernel
theorem dX6_copyFrom_31 : decode cX6_copyFrom 31 = .ok (.if_icmp .ge 21, 3) := by decide +kernel
theorem dX6_copyFrom_34 : decode cX6_copyFrom 34 = .ok (.aload_n 0, 1) := by decide +kernel
theorem dX6_copyFrom_35 : decode cX6_copyFrom 35 = .ok (.getfield 19, 3) := by decide +kernel
theorem dX6_copyFrom_38 : decode cX6_copyFrom 38 = .ok (.iload_n 2, 1) := by decide +kernel
theorem dX6_copyFrom_39 : decode cX6_copyFrom 39 = .ok (.aload_n 1, 1) := by decide +kernel
theorem dX6_copyFrom_40 : decode cX6_copyFrom 40 = .ok (.getfield 19, 3) := by decide +kernel
theorem dX6_copyFrom_43 : decode cX6_copyFrom 43 = .ok (.iload_n 2, 1) := by decide +kernel
theorem dX6_copyFrom_44 : decode cX6_copyFrom 44 = .ok (.aaload, 1) := by decide +kernel
theorem dX6_copyFrom_45 : decode cX6_copyFrom 45 = .ok (.aastore, 1) := by decide +kernel
theorem dX6_copyFrom_46 : decode cX6_copyFrom 46 = .ok (.iinc 2 1, 3) := by decide +kernel
theorem dX6_copyFrom_49 : decode cX6_copyFrom 49 = .ok (.goto (-21), 3) := by decide +kernel
theorem dX6_copyFrom_52 : decode cX6_copyFrom 52 = .ok (.aload_n 0, 1) := by decide +kernel
theorem dX6_copyFrom_53 : decode cX6_copyFrom 53 = .ok (.aload_n 1, 1) := by decide +kernel
theorem dX6_copyFrom_54 : decode cX6_copyFrom 54 = .ok (.getfield 23, 3) := by decide +kernel
theorem dX6_copyFrom_57 : decode cX6_copyFrom 57 = .ok (.putfield 23, 3) := by decide +kernel
theorem dX6_copyFrom_60 : decode cX6_copyFrom 60 = .ok (.aload_n 0, 1) := by decide +kernel
theorem dX6_copyFrom_61 : decode cX6_copyFrom 61 = .ok (.aload_n 1, 1) := by decide +kernel
theorem dX6_copyFrom_62 : decode cX6_copyFrom 62 = .ok (.getfield 27, 3) := by decide +kernel
theorem dX6_copyFrom_65 : decode cX6_copyFrom 65 = .ok (.putfield 27, 3) := by decide +kernel
theorem dX6_copyFrom_68 : decode cX6_copyFrom 68 = .ok (.return_, 1) := by decide +kernel
theorem dX6_put_0 : decode cX6_put 0 = .ok (.iload_n 1, 1) := by decide +kernel
theorem dX6_put_1 : decode cX6_put 1 = .ok (.invokestatic 30, 3) := by decide +kernel
theorem dX6_put_4 : decode cX6_put 4 = .ok (.ifCond .ne 5, 3) := by decide +kernel
theorem dX6_put_7 : decode cX6_put 7 = .ok (.iconst (-1), 1) := by decide +kernel
theorem dX6_put_8 : decode cX6_put 8 = .ok (.ireturn, 1) := by decide +kernel
theorem dX6_put_9 : decode cX6_put 9 = .ok (.aload_n 2, 1) := by decide +kernel
theorem dX6_put_10 : decode cX6_put 10 = .ok (.invokevirtual 34, 3) := by decide +kernel
theorem dX6_put_13 : decode cX6_put 13 = .ok (.ifCond .eq 6, 3) := by decide +kernel
theorem dX6_put_16 : decode cX6_put 16 = .ok (.bipush (-3), 2) := by decide +kernel
theorem dX6_put_18 : decode cX6_put 18 = .ok (.ireturn, 1) := by decide +kernel
theorem dX6_put_19 : decode cX6_put 19 = .ok (.aload_n 0, 1) := by decide +kernel
theorem dX6_put_20 : decode cX6_put 20 = .ok (.getfield 11, 3) := by decide +kernel
theorem dX6_put_23 : decode cX6_put 23 = .ok (.iload_n 1, 1) := by decide +kernel
theorem dX6_put_24 : decode cX6_put 24 = .ok (.aload_n 2, 1) := by decide +kernel
theorem dX6_put_25 : decode cX6_put 25 = .ok (.aastore, 1) := by decide +kernel
theorem dX6_put_26 : decode cX6_put 26 = .ok (.aload_n 0, 1) := by decide +kernel
theorem dX6_put_27 : decode cX6_put 27 = .ok (.dup, 1) := by decide +kernel
theorem dX6_put_28 : decode cX6_put 28 = .ok (.getfield 27, 3) := by decide +kernel
theorem dX6_put_31 : decode cX6_put 31 = .ok (.iconst 1, 1) := by decide +kernel
theorem dX6_put_32 : decode cX6_put 32 = .ok (.iadd, 1) := by decide +kernel
theorem dX6_put_33 : decode cX6_put 33 = .ok (.putfield 27, 3) := by decide +kernel
theorem dX6_put_36 : decode cX6_put 36 = .ok (.aload_n 2, 1) := by decide +kernel
theorem dX6_put_37 : decode cX6_put 37 = .ok (.invokevirtual 38, 3) := by decide +kernel
theorem dX6_put_40 : decode cX6_put 40 = .ok (.ireturn, 1) := by decide +kernel
theorem dX6_putJoined_0 : decode cX6_putJoined 0 = .ok (.iload_n 1, 1) := by decide +kernel
theorem dX6_putJoined_1 : decode cX6_putJoined 1 = .ok (.invokestatic 30, 3) := by decide +kernel
theorem dX6_putJoined_4 : decode cX6_putJoined 4 = .ok (.ifCond .eq 17, 3) := by decide +kernel
theorem dX6_putJoined_7 : decode cX6_putJoined 7 = .ok (.iload_n 2, 1) := by decide +kernel
theorem dX6_putJoined_8 : decode cX6_putJoined 8 = .ok (.invokestatic 30, 3) := by decide +kernel
theorem dX6_putJoined_11 : decode cX6_putJoined 11 = .ok (.ifCond .eq 10, 3) := by decide +kernel
theorem dX6_putJoined_14 : decode cX6_putJoined 14 = .ok (.iload_n 3, 1) := by decide +kernel
theorem dX6_putJoined_15 : decode cX6_putJoined 15 = .ok (.invokestatic 30, 3) := by decide +kernel
theorem dX6_putJoined_18 : decode cX6_putJoined 18 = .ok (.ifCond .ne 5, 3) := by decide +kernel
theorem dX6_putJoined_21 : decode cX6_putJoined 21 = .ok (.iconst (-1), 1) := by decide +kernel
theorem dX6_putJoined_22 : decode cX6_putJoined 22 = .ok (.ireturn, 1) := by decide +kernel
theorem dX6_putJoined_23 : decode cX6_putJoined 23 = .ok (.aload_n 0, 1) := by decide +kernel
theorem dX6_putJoined_24 : decode cX6_putJoined 24 = .ok (.getfield 11, 3) := by decide +kernel
theorem dX6_putJoined_27 : decode cX6_putJoined 27 = .ok (.iload_n 2, 1) := by decide +kernel
theorem dX6_putJoined_28 : decode cX6_putJoined 28 = .ok (.aaload, 1) := by decide +kernel
theorem dX6_putJoined_29 : decode cX6_putJoined 29 = .ok (.astore 5, 2) := by decide +kernel
theorem dX6_putJoined_31 : decode cX6_putJoined 31 = .ok (.aload_n 0, 1) := by decide +kernel
theorem dX6_putJoined_32 : decode cX6_putJoined 32 = .ok (.getfield 11, 3) := by decide +kernel
theorem dX6_putJoined_35 : decode cX6_putJoined 35 = .ok (.iload_n 3, 1) := by decide +kernel
theorem dX6_putJoined_36 : decode cX6_putJoined 36 = .ok (.aaload, 1) := by decide +kernel
theorem dX6_putJoined_37 : decode cX6_putJoined 37 = .ok (.astore 6, 2) := by decide +kernel
theorem dX6_putJoined_39 : decode cX6_putJoined 39 = .ok (.aload 5, 2) := by decide +kernel
theorem dX6_putJoined_41 : decode cX6_putJoined 41 = .ok (.ifnull 8, 3) := by decide +kernel
theorem dX6_putJoined_44 : decode cX6_putJoined 44 = .ok (.aload 6, 2) := by decide +kernel
theorem dX6_putJoined_46 : decode cX6_putJoined 46 = .ok (.ifnonnull 6, 3) := by decide +kernel
theorem dX6_putJoined_49 : decode cX6_putJoined 49 = .ok (.bipush (-2), 2) := by decide +kernel
theorem dX6_putJoined_51 : decode cX6_putJoined 51 = .ok (.ireturn, 1) := by decide +kernel
theorem dX6_putJoined_52 : decode cX6_putJoined 52 = .ok (.aload_n 0, 1) := by decide +kernel
theorem dX6_putJoined_53 : decode cX6_putJoined 53 = .ok (.iload_n 1, 1) := by decide +kernel
theorem dX6_putJoined_54 : decode cX6_putJoined 54 = .ok (.aload 5, 2) := by decide +kernel
theorem dX6_putJoined_56 : decode cX6_putJoined 56 = .ok (.aload 6, 2) := by decide +kernel
theorem dX6_putJoined_58 : decode cX6_putJoined 58 = .ok (.iload 4, 2) := by decide +kernel
theorem dX6_putJoined_60 : decode cX6_putJoined 60 = .ok (.invokestatic 42, 3) := by decide +kernel
theorem dX6_putJoined_63 : decode cX6_putJoined 63 = .ok (.invokevirtual 46, 3) := by decide +kernel
theorem dX6_putJoined_66 : decode cX6_putJoined 66 = .ok (.ireturn, 1) := by decide +kernel
theorem dX6_putStarred_0 : decode cX6_putStarred 0 = .ok (.iload_n 1, 1) := by decide +kernel
theorem dX6_putStarred_1 : decode cX6_putStarred 1 = .ok (.invokestatic 30, 3) := by decide +kernel
theorem dX6_putStarred_4 : decode cX6_putStarred 4 = .ok (.ifCond .eq 10, 3) := by decide +kernel
theorem dX6_putStarred_7 : decode cX6_putStarred 7 = .ok (.iload_n 2, 1) := by decide +kernel
theorem dX6_putStarred_8 : decode cX6_putStarred 8 = .ok (.invokestatic 30, 3) := by decide +kernel
theorem dX6_putStarred_11 : decode cX6_putStarred 11 = .ok (.ifCond .ne 5, 3) := by decide +kernel
theorem dX6_putStarred_14 : decode cX6_putStarred 14 = .ok (.iconst (-1), 1) := by decide +kernel
theorem dX6_putStarred_15 : decode cX6_putStarred 15 = .ok (.ireturn, 1) := by decide +kernel
theorem dX6_putStarred_16 : decode cX6_putStarred 16 = .ok (.aload_n 0, 1) := by decide +kernel
theorem dX6_putStarred_17 : decode cX6_putStarred 17 = .ok (.getfield 11, 3) := by decide +kernel
theorem dX6_putStarred_20 : decode cX6_putStarred 20 = .ok (.iload_n 2, 1) := by decide +kernel
theorem dX6_putStarred_21 : decode cX6_putStarred 21 = .ok (.aaload, 1) := by decide +kernel
theorem dX6_putStarred_22 : decode cX6_putStarred 22 = .ok (.astore_n 3, 1) := by decide +kernel
theorem dX6_putStarred_23 : decode cX6_putStarred 23 = .ok (.aload_n 3, 1) := by decide +kernel
theorem dX6_putStarred_24 : decode cX6_putStarred 24 = .ok (.ifnonnull 8, 3) := by decide +kernel
theorem dX6_putStarred_27 : decode cX6_putStarred 27 = .ok (.bipush (-2), 2) := by decide +kernel
theorem dX6_putStarred_29 : decode cX6_putStarred 29 = .ok (.goto 12, 3) := by decide +kernel
theorem dX6_putStarred_32 : decode cX6_putStarred 32 = .ok (.aload_n 0, 1) := by decide +kernel
theorem dX6_putStarred_33 : decode cX6_putStarred 33 = .ok (.iload_n 1, 1) := by decide +kernel
theorem dX6_putStarred_34 : decode cX6_putStarred 34 = .ok (.aload_n 3, 1) := by decide +kernel
theorem dX6_putStarred_35 : decode cX6_putStarred 35 = .ok (.invokestatic 50, 3) := by decide +kernel
theorem dX6_putStarred_38 : decode cX6_putStarred 38 = .ok (.invokevirtual 46, 3) := by decide +kernel
theorem dX6_putStarred_41 : decode cX6_putStarred 41 = .ok (.ireturn, 1) := by decide +kernel
theorem dX6_free_0 : decode cX6_free 0 = .ok (.iload_n 1, 1) := by decide +kernel
theorem dX6_free_1 : decode cX6_free 1 = .ok (.invokestatic 30, 3) := by decide +kernel
theorem dX6_free_4 : decode cX6_free 4 = .ok (.ifCond .ne 5, 3) := by decide +kernel
theorem dX6_free_7 : decode cX6_free 7 = .ok (.iconst (-1), 1) := by decide +kernel
theorem dX6_free_8 : decode cX6_free 8 = .ok (.ireturn, 1) := by decide +kernel
theorem dX6_free_9 : decode cX6_free 9 = .ok (.aload_n 0, 1) := by decide +kernel
theorem dX6_free_10 : decode cX6_free 10 = .ok (.getfield 11, 3) := by decide +kernel
theorem dX6_free_13 : decode cX6_free 13 = .ok (.iload_n 1, 1) := by decide +kernel
theorem dX6_free_14 : decode cX6_free 14 = .ok (.aaload, 1) := by decide +kernel
theorem dX6_free_15 : decode cX6_free 15 = .ok (.ifnonnull 6, 3) := by decide +kernel
theorem dX6_free_18 : decode cX6_free 18 = .ok (.bipush (-2), 2) := by decide +kernel
theorem dX6_free_20 : decode cX6_free 20 = .ok (.ireturn, 1) := by decide +kernel
theorem dX6_free_21 : decode cX6_free 21 = .ok (.aload_n 0, 1) := by decide +kernel
theorem dX6_free_22 : decode cX6_free 22 = .ok (.getfield 11, 3) := by decide +kernel
theorem dX6_free_25 : decode cX6_free 25 = .ok (.iload_n 1, 1) := by decide +kernel
theorem dX6_free_26 : decode cX6_free 26 = .ok (.aconst_null, 1) := by decide +kernel
theorem dX6_free_27 : decode cX6_free 27 = .ok (.aastore, 1) := by decide +kernel
theorem dX6_free_28 : decode cX6_free 28 = .ok (.aload_n 0, 1) := by decide +kernel
theorem dX6_free_29 : decode cX6_free 29 = .ok (.invokevirtual 54, 3) := by decide +kernel
theorem dX6_free_32 : decode cX6_free 32 = .ok (.ireturn, 1) := by decide +kernel
theorem dX6_addSample_0 : decode cX6_addSample 0 = .ok (.aload_n 1, 1) := by decide +kernel
theorem dX6_addSample_1 : decode cX6_addSample 1 = .ok (.ifnull 10, 3) := by decide +kernel
theorem dX6_addSample_4 : decode cX6_addSample 4 = .ok (.aload_n 1, 1) := by decide +kernel
theorem dX6_addSample_5 : decode cX6_addSample 5 = .ok (.invokevirtual 57, 3) := by decide +kernel
theorem dX6_addSample_8 : decode cX6_addSample 8 = .ok (.ifCond .ne 6, 3) := by decide +kernel
theorem dX6_addSample_11 : decode cX6_addSample 11 = .ok (.bipush (-4), 2) := by decide +kernel
theorem dX6_addSample_13 : decode cX6_addSample 13 = .ok (.ireturn, 1) := by decide +kernel
theorem dX6_addSample_14 : decode cX6_addSample 14 = .ok (.aload_n 0, 1) := by decide +kernel
theorem dX6_addSample_15 : decode cX6_addSample 15 = .ok (.getfield 23, 3) := by decide +kernel
theorem dX6_addSample_18 : decode cX6_addSample 18 = .ok (.ifCond .lt 12, 3) := by decide +kernel
theorem dX6_addSample_21 : decode cX6_addSample 21 = .ok (.aload_n 0, 1) := by decide +kernel
theorem dX6_addSample_22 : decode cX6_addSample 22 = .ok (.getfield 23, 3) := by decide +kernel
theorem dX6_addSample_25 : decode cX6_addSample 25 = .ok (.bipush 8, 2) := by decide +kernel
theorem dX6_addSample_27 : decode cX6_addSample 27 = .ok (.if_icmp .lt 6, 3) := by decide +kernel
theorem dX6_addSample_30 : decode cX6_addSample 30 = .ok (.bipush (-5), 2) := by decide +kernel
theorem dX6_addSample_32 : decode cX6_addSample 32 = .ok (.ireturn, 1) := by decide +kernel
theorem dX6_addSample_33 : decode cX6_addSample 33 = .ok (.aload_n 0, 1) := by decide +kernel
theorem dX6_addSample_34 : decode cX6_addSample 34 = .ok (.getfield 19, 3) := by decide +kernel
theorem dX6_addSample_37 : decode cX6_addSample 37 = .ok (.aload_n 0, 1) := by decide +kernel
theorem dX6_addSample_38 : decode cX6_addSample 38 = .ok (.getfield 23, 3) := by decide +kernel
theorem dX6_addSample_41 : decode cX6_addSample 41 = .ok (.aload_n 1, 1) := by decide +kernel
theorem dX6_addSample_42 : decode cX6_addSample 42 = .ok (.aastore, 1) := by decide +kernel
theorem dX6_addSample_43 : decode cX6_addSample 43 = .ok (.aload_n 0, 1) := by decide +kernel
theorem dX6_addSample_44 : decode cX6_addSample 44 = .ok (.dup, 1) := by decide +kernel
theorem dX6_addSample_45 : decode cX6_addSample 45 = .ok (.getfield 23, 3) := by decide +kernel
theorem dX6_addSample_48 : decode cX6_addSample 48 = .ok (.iconst 1, 1) := by decide +kernel
theorem dX6_addSample_49 : decode cX6_addSample 49 = .ok (.iadd, 1) := by decide +kernel
theorem dX6_addSample_50 : decode cX6_addSample 50 = .ok (.putfield 23, 3) := by decide +kernel
theorem dX6_addSample_53 : decode cX6_addSample 53 = .ok (.aload_n 0, 1) := by decide +kernel
theorem dX6_addSample_54 : decode cX6_addSample 54 = .ok (.getfield 23, 3) := by decide +kernel
theorem dX6_addSample_57 : decode cX6_addSample 57 = .ok (.iconst 1, 1) := by decide +kernel
theorem dX6_addSample_58 : decode cX6_addSample 58 = .ok (.isub, 1) := by decide +kernel
theorem dX6_addSample_59 : decode cX6_addSample 59 = .ok (.ireturn, 1) := by decide +kernel
theorem dX6_removeSample_0 : decode cX6_removeSample 0 = .ok (.aload_n 0, 1) := by decide +kernel
theorem dX6_removeSample_1 : decode cX6_removeSample 1 = .ok (.iload_n 1, 1) := by decide +kernel
theorem dX6_removeSample_2 : decode cX6_removeSample 2 = .ok (.invokevirtual 60, 3) := by decide +kernel
theorem dX6_removeSample_5 : decode cX6_removeSample 5 = .ok (.ifnonnull 6, 3) := by decide +kernel
theorem dX6_removeSample_8 : decode cX6_removeSample 8 = .ok (.bipush (-6), 2) := by decide +kernel
theorem dX6_removeSample_10 : decode cX6_removeSample 10 = .ok (.ireturn, 1) := by decide +kernel
theorem dX6_removeSample_11 : decode cX6_removeSample 11 = .ok (.iload_n 1, 1) := by decide +kernel
theorem dX6_removeSample_12 : decode cX6_removeSample 12 = .ok (.iconst 1, 1) := by decide +kernel
theorem dX6_removeSample_13 : decode cX6_removeSample 13 = .ok (.iadd, 1) := by decide +kernel
theorem dX6_removeSample_14 : decode cX6_removeSample 14 = .ok (.istore_n 2, 1) := by decide +kernel
theorem dX6_removeSample_15 : decode cX6_removeSample 15 = .ok (.iload_n 2, 1) := by decide +kernel
theorem dX6_removeSample_16 : decode cX6_removeSample 16 = .ok (.bipush 8, 2) := by decide +kernel
theorem dX6_removeSample_18 : decode cX6_removeSample 18 = .ok (.if_icmp .ge 23, 3) := by decide +kernel
theorem dX6_removeSample_21 : decode cX6_removeSample 21 = .ok (.aload_n 0, 1) := by decide +kernel
theorem dX6_removeSample_22 : decode cX6_removeSample 22 = .ok (.getfield 19, 3) := by decide +kernel
theorem dX6_removeSample_25 : decode cX6_removeSample 25 = .ok (.iload_n 2, 1) := by decide +kernel
theorem dX6_removeSample_26 : decode cX6_removeSample 26 = .ok (.iconst 1, 1) := by decide +kernel
theorem dX6_removeSample_27 : decode cX6_removeSample 27 = .ok (.isub, 1) := by decide +kernel
theorem dX6_removeSample_28 : decode cX6_removeSample 28 = .ok (.aload_n 0, 1) := by decide +kernel
theorem dX6_removeSample_29 : decode cX6_removeSample 29 = .ok (.getfield 19, 3) := by decide +kernel
theorem dX6_removeSample_32 : decode cX6_removeSample 32 = .ok (.iload_n 2, 1) := by decide +kernel
theorem dX6_removeSample_33 : decode cX6_removeSample 33 = .ok (.aaload, 1) := by decide +kernel
theorem dX6_removeSample_34 : decode cX6_removeSample 34 = .ok (.aastore, 1) := by decide +kernel
theorem dX6_removeSample_35 : decode cX6_removeSample 35 = .ok (.iinc 2 1, 3) := by decide +kernel
theorem dX6_removeSample_38 : decode cX6_removeSample 38 = .ok (.goto (-23), 3) := by decide +kernel
theorem dX6_removeSample_41 : decode cX6_removeSample 41 = .ok (.aload_n 0, 1) := by decide +kernel
theorem dX6_removeSample_42 : decode cX6_removeSample 42 = .ok (.getfield 19, 3) := by decide +kernel
theorem dX6_removeSample_45 : decode cX6_removeSample 45 = .ok (.bipush 7, 2) := by decide +kernel
theorem dX6_removeSample_47 : decode cX6_removeSample 47 = .ok (.aconst_null, 1) := by decide +kernel
theorem dX6_removeSample_48 : decode cX6_removeSample 48 = .ok (.aastore, 1) := by decide +kernel
theorem dX6_removeSample_49 : decode cX6_removeSample 49 = .ok (.aload_n 0, 1) := by decide +kernel
theorem dX6_removeSample_50 : decode cX6_removeSample 50 = .ok (.dup, 1) := by decide +kernel
theorem dX6_removeSample_51 : decode cX6_removeSample 51 = .ok (.getfield 23, 3) := by decide +kernel
theorem dX6_removeSample_54 : decode cX6_removeSample 54 = .ok (.iconst 1, 1) := by decide +kernel
theorem dX6_removeSample_55 : decode cX6_removeSample 55 = .ok (.isub, 1) := by decide +kernel
theorem dX6_removeSample_56 : decode cX6_removeSample 56 = .ok (.putfield 23, 3) := by decide +kernel
theorem dX6_removeSample_59 : decode cX6_removeSample 59 = .ok (.aload_n 0, 1) := by decide +kernel
theorem dX6_removeSample_60 : decode cX6_removeSample 60 = .ok (.getfield 23, 3) := by decide +kernel
theorem dX6_removeSample_63 : decode cX6_removeSample 63 = .ok (.ireturn, 1) := by decide +kernel
theorem dX6_pattern_0 : decode cX6_pattern 0 = .ok (.iload_n 1, 1) := by decide +kernel
theorem dX6_pattern_1 : decode cX6_pattern 1 = .ok (.invokestatic 30, 3) := by decide +kernel
theorem dX6_pattern_4 : decode cX6_pattern 4 = .ok (.ifCond .eq 12, 3) := by decide +kernel
theorem dX6_pattern_7 : decode cX6_pattern 7 = .ok (.aload_n 0, 1) := by decide +kernel
theorem dX6_pattern_8 : decode cX6_pattern 8 = .ok (.getfield 11, 3) := by decide +kernel
theorem dX6_pattern_11 : decode cX6_pattern 11 = .ok (.iload_n 1, 1) := by decide +kernel
theorem dX6_pattern_12 : decode cX6_pattern 12 = .ok (.aaload, 1) := by decide +kernel
theorem dX6_pattern_13 : decode cX6_pattern 13 = .ok (.goto 4, 3) := by decide +kernel
theorem dX6_pattern_16 : decode cX6_pattern 16 = .ok (.aconst_null, 1) := by decide +kernel
theorem dX6_pattern_17 : decode cX6_pattern 17 = .ok (.areturn, 1) := by decide +kernel
theorem dX6_sample_0 : decode cX6_sample 0 = .ok (.iload_n 1, 1) := by decide +kernel
theorem dX6_sample_1 : decode cX6_sample 1 = .ok (.ifCond .lt 17, 3) := by decide +kernel
theorem dX6_sample_4 : decode cX6_sample 4 = .ok (.iload_n 1, 1) := by decide +kernel
theorem dX6_sample_5 : decode cX6_sample 5 = .ok (.aload_n 0, 1) := by decide +kernel
theorem dX6_sample_6 : decode cX6_sample 6 = .ok (.getfield 23, 3) := by decide +kernel
theorem dX6_sample_9 : decode cX6_sample 9 = .ok (.if_icmp .ge 9, 3) := by decide +kernel
theorem dX6_sample_12 : decode cX6_sample 12 = .ok (.iload_n 1, 1) := by decide +kernel
theorem dX6_sample_13 : decode cX6_sample 13 = .ok (.bipush 8, 2) := by decide +kernel
theorem dX6_sample_15 : decode cX6_sample 15 = .ok (.if_icmp .lt 7, 3) := by decide +kernel
theorem dX6_sample_18 : decode cX6_sample 18 = .ok (.aconst_null, 1) := by decide +kernel
theorem dX6_sample_19 : decode cX6_sample 19 = .ok (.goto 9, 3) := by decide +kernel
theorem dX6_sample_22 : decode cX6_sample 22 = .ok (.aload_n 0, 1) := by decide +kernel
theorem dX6_sample_23 : decode cX6_sample 23 = .ok (.getfield 19, 3) := by decide +kernel
theorem dX6_sample_26 : decode cX6_sample 26 = .ok (.iload_n 1, 1) := by decide +kernel
theorem dX6_sample_27 : decode cX6_sample 27 = .ok (.aaload, 1) := by decide +kernel
theorem dX6_sample_28 : decode cX6_sample 28 = .ok (.areturn, 1) := by decide +kernel
theorem dX6_patternTotal_0 : decode cX6_patternTotal 0 = .ok (.iconst 0, 1) := by decide +kernel
theorem dX6_patternTotal_1 : decode cX6_patternTotal 1 = .ok (.istore_n 1, 1) := by decide +kernel
theorem dX6_patternTotal_2 : decode cX6_patternTotal 2 = .ok (.aload_n 0, 1) := by decide +kernel
theorem dX6_patternTotal_3 : decode cX6_patternTotal 3 = .ok (.getfield 11, 3) := by decide +kernel
theorem dX6_patternTotal_6 : decode cX6_patternTotal 6 = .ok (.astore_n 2, 1) := by decide +kernel
theorem dX6_patternTotal_7 : decode cX6_patternTotal 7 = .ok (.aload_n 2, 1) := by decide +kernel
theorem dX6_patternTotal_8 : decode cX6_patternTotal 8 = .ok (.arraylength, 1) := by decide +kernel
theorem dX6_patternTotal_9 : decode cX6_patternTotal 9 = .ok (.istore_n 3, 1) := by decide +kernel
theorem dX6_patternTotal_10 : decode cX6_patternTotal 10 = .ok (.iconst 0, 1) := by decide +kernel
theorem dX6_patternTotal_11 : decode cX6_patternTotal 11 = .ok (.istore 4, 2) := by decide +kernel
theorem dX6_patternTotal_13 : decode cX6_patternTotal 13 = .ok (.iload 4, 2) := by decide +kernel
theorem dX6_patternTotal_15 : decode cX6_patternTotal 15 = .ok (.iload_n 3, 1) := by decide +kernel
theorem dX6_patternTotal_16 : decode cX6_patternTotal 16 = .ok (.if_icmp .ge 28, 3) := by decide +kernel
theorem dX6_patternTotal_19 : decode cX6_patternTotal 19 = .ok (.aload_n 2, 1) := by decide +kernel
theorem dX6_patternTotal_20 : decode cX6_patternTotal 20 = .ok (.iload 4, 2) := by decide +kernel
theorem dX6_patternTotal_22 : decode cX6_patternTotal 22 = .ok (.aaload, 1) := by decide +kernel
theorem dX6_patternTotal_23 : decode cX6_patternTotal 23 = .ok (.astore 5, 2) := by decide +kernel
theorem dX6_patternTotal_25 : decode cX6_patternTotal 25 = .ok (.iload_n 1, 1) := by decide +kernel
theorem dX6_patternTotal_26 : decode cX6_patternTotal 26 = .ok (.aload 5, 2) := by decide +kernel
theorem dX6_patternTotal_28 : decode cX6_patternTotal 28 = .ok (.ifnonnull 7, 3) := by decide +kernel
theorem dX6_patternTotal_31 : decode cX6_patternTotal 31 = .ok (.iconst 0, 1) := by decide +kernel
theorem dX6_patternTotal_32 : decode cX6_patternTotal 32 = .ok (.goto 4, 3) := by decide +kernel
theorem dX6_patternTotal_35 : decode cX6_patternTotal 35 = .ok (.iconst 1, 1) := by decide +kernel
theorem dX6_patternTotal_36 : decode cX6_patternTotal 36 = .ok (.iadd, 1) := by decide +kernel
theorem dX6_patternTotal_37 : decode cX6_patternTotal 37 = .ok (.istore_n 1, 1) := by decide +kernel
theorem dX6_patternTotal_38 : decode cX6_patternTotal 38 = .ok (.iinc 4 1, 3) := by decide +kernel
theorem dX6_patternTotal_41 : decode cX6_patternTotal 41 = .ok (.goto (-28), 3) := by decide +kernel
theorem dX6_patternTotal_44 : decode cX6_patternTotal 44 = .ok (.iload_n 1, 1) := by decide +kernel
theorem dX6_patternTotal_45 : decode cX6_patternTotal 45 = .ok (.ireturn, 1) := by decide +kernel
theorem dX6_letterSum_0 : decode cX6_letterSum 0 = .ok (.iconst 0, 1) := by decide +kernel
theorem dX6_letterSum_1 : decode cX6_letterSum 1 = .ok (.istore_n 1, 1) := by decide +kernel
theorem dX6_letterSum_2 : decode cX6_letterSum 2 = .ok (.aload_n 0, 1) := by decide +kernel
theorem dX6_letterSum_3 : decode cX6_letterSum 3 = .ok (.getfield 11, 3) := by decide +kernel
theorem dX6_letterSum_6 : decode cX6_letterSum 6 = .ok (.astore_n 2, 1) := by decide +kernel
theorem dX6_letterSum_7 : decode cX6_letterSum 7 = .ok (.aload_n 2, 1) := by decide +kernel
theorem dX6_letterSum_8 : decode cX6_letterSum 8 = .ok (.arraylength, 1) := by decide +kernel
theorem dX6_letterSum_9 : decode cX6_letterSum 9 = .ok (.istore_n 3, 1) := by decide +kernel
theorem dX6_letterSum_10 : decode cX6_letterSum 10 = .ok (.iconst 0, 1) := by decide +kernel
theorem dX6_letterSum_11 : decode cX6_letterSum 11 = .ok (.istore 4, 2) := by decide +kernel
theorem dX6_letterSum_13 : decode cX6_letterSum 13 = .ok (.iload 4, 2) := by decide +kernel
theorem dX6_letterSum_15 : decode cX6_letterSum 15 = .ok (.iload_n 3, 1) := by decide +kernel
theorem dX6_letterSum_16 : decode cX6_letterSum 16 = .ok (.if_icmp .ge 32, 3) := by decide +kernel
theorem dX6_letterSum_19 : decode cX6_letterSum 19 = .ok (.aload_n 2, 1) := by decide +kernel
theorem dX6_letterSum_20 : decode cX6_letterSum 20 = .ok (.iload 4, 2) := by decide +kernel
theorem dX6_letterSum_22 : decode cX6_letterSum 22 = .ok (.aaload, 1) := by decide +kernel
theorem dX6_letterSum_23 : decode cX6_letterSum 23 = .ok (.astore 5, 2) := by decide +kernel
theorem dX6_letterSum_25 : decode cX6_letterSum 25 = .ok (.iload_n 1, 1) := by decide +kernel
theorem dX6_letterSum_26 : decode cX6_letterSum 26 = .ok (.aload 5, 2) := by decide +kernel
theorem dX6_letterSum_28 : decode cX6_letterSum 28 = .ok (.ifnonnull 7, 3) := by decide +kernel
theorem dX6_letterSum_31 : decode cX6_letterSum 31 = .ok (.iconst 0, 1) := by decide +kernel
theorem dX6_letterSum_32 : decode cX6_letterSum 32 = .ok (.goto 8, 3) := by decide +kernel
theorem dX6_letterSum_35 : decode cX6_letterSum 35 = .ok (.aload 5, 2) := by decide +kernel
theorem dX6_letterSum_37 : decode cX6_letterSum 37 = .ok (.invokevirtual 38, 3) := by decide +kernel
theorem dX6_letterSum_40 : decode cX6_letterSum 40 = .ok (.iadd, 1) := by decide +kernel
theorem dX6_letterSum_41 : decode cX6_letterSum 41 = .ok (.istore_n 1, 1) := by decide +kernel
theorem dX6_letterSum_42 : decode cX6_letterSum 42 = .ok (.iinc 4 1, 3) := by decide +kernel
theorem dX6_letterSum_45 : decode cX6_letterSum 45 = .ok (.goto (-32), 3) := by decide +kernel
theorem dX6_letterSum_48 : decode cX6_letterSum 48 = .ok (.iload_n 1, 1) := by decide +kernel
theorem dX6_letterSum_49 : decode cX6_letterSum 49 = .ok (.ireturn, 1) := by decide +kernel
theorem dX6_sampleTotal_0 : decode cX6_sampleTotal 0 = .ok (.aload_n 0, 1) := by decide +kernel
theorem dX6_sampleTotal_1 : decode cX6_sampleTotal 1 = .ok (.getfield 23, 3) := by decide +kernel
theorem dX6_sampleTotal_4 : decode cX6_sampleTotal 4 = .ok (.ireturn, 1) := by decide +kernel
theorem dX6_putTotal_0 : decode cX6_putTotal 0 = .ok (.aload_n 0, 1) := by decide +kernel
theorem dX6_putTotal_1 : decode cX6_putTotal 1 = .ok (.getfield 27, 3) := by decide +kernel
theorem dX6_putTotal_4 : decode cX6_putTotal 4 = .ok (.ireturn, 1) := by decide +kernel
theorem dX7_init_0 : decode cX7_init 0 = .ok (.aload_n 0, 1) := by decide +kernel
theorem dX7_init_1 : decode cX7_init 1 = .ok (.invokespecial 3, 3) := by decide +kernel
theorem dX7_init_4 : decode cX7_init 4 = .ok (.aload_n 0, 1) := by decide +kernel
theorem dX7_init_5 : decode cX7_init 5 = .ok (.sipush 129, 3) := by decide +kernel
theorem dX7_init_8 : decode cX7_init 8 = .ok (.newarray .int, 2) := by decide +kernel
theorem dX7_init_10 : decode cX7_init 10 = .ok (.putfield 9, 3) := by decide +kernel
theorem dX7_init_13 : decode cX7_init 13 = .ok (.aload_n 0, 1) := by decide +kernel
theorem dX7_init_14 : decode cX7_init 14 = .ok (.sipush 129, 3) := by decide +kernel
theorem dX7_init_17 : decode cX7_init 17 = .ok (.newarray .int, 2) := by decide +kernel
theorem dX7_init_19 : decode cX7_init 19 = .ok (.putfield 15, 3) := by decide +kernel
theorem dX7_init_22 : decode cX7_init 22 = .ok (.aload_n 0, 1) := by decide +kernel
theorem dX7_init_23 : decode cX7_init 23 = .ok (.sipush 129, 3) := by decide +kernel
theorem dX7_init_26 : decode cX7_init 26 = .ok (.newarray .int, 2) := by decide +kernel
theorem dX7_init_28 : decode cX7_init 28 = .ok (.putfield 18, 3) := by decide +kernel
theorem dX7_init_31 : decode cX7_init 31 = .ok (.aload_n 0, 1) := by decide +kernel
theorem dX7_init_32 : decode cX7_init 32 = .ok (.sipush 387, 3) := by decide +kernel
theorem dX7_init_35 : decode cX7_init 35 = .ok (.newarray .int, 2) := by decide +kernel
theorem dX7_init_37 : decode cX7_init 37 = .ok (.putfield 21, 3) := by decide +kernel
theorem dX7_init_40 : decode cX7_init 40 = .ok (.aload_n 0, 1) := by decide +kernel
theorem dX7_init_41 : decode cX7_init 41 = .ok (.sipush 129, 3) := by decide +kernel
theorem dX7_init_44 : decode cX7_init 44 = .ok (.newarray .boolean, 2) := by decide +kernel
theorem dX7_init_46 : decode cX7_init 46 = .ok (.putfield 24, 3) := by decide +kernel
theorem dX7_init_49 : decode cX7_init 49 = .ok (.aload_n 0, 1) := by decide +kernel
theorem dX7_init_50 : decode cX7_init 50 = .ok (.iconst 0, 1) := by decide +kernel
theorem dX7_init_51 : decode cX7_init 51 = .ok (.putfield 28, 3) := by decide +kernel
theorem dX7_init_54 : decode cX7_init 54 = .ok (.return_, 1) := by decide +kernel
theorem dX7_build_0 : decode cX7_build 0 = .ok (.aload_n 1, 1) := by decide +kernel
theorem dX7_build_1 : decode cX7_build 1 = .ok (.invokevirtual 32, 3) := by decide +kernel
theorem dX7_build_4 : decode cX7_build 4 = .ok (.sipush 129, 3) := by decide +kernel
theorem dX7_build_7 : decode cX7_build 7 = .ok (.invokestatic 37, 3) := by decide +kernel
theorem dX7_build_10 : decode cX7_build 10 = .ok (.istore_n 2, 1) := by decide +kernel
theorem dX7_build_11 : decode cX7_build 11 = .ok (.iconst 0, 1) := by decide +kernel
theorem dX7_build_12 : decode cX7_build 12 = .ok (.istore_n 3, 1) := by decide +kernel
theorem dX7_build_13 : decode cX7_build 13 = .ok (.iload_n 3, 1) := by decide +kernel
theorem dX7_build_14 : decode cX7_build 14 = .ok (.iload_n 2, 1) := by decide +kernel
theorem dX7_build_15 : decode cX7_build 15 = .ok (.if_icmp .ge 33, 3) := by decide +kernel
theorem dX7_build_18 : decode cX7_build 18 = .ok (.aload_n 0, 1) := by decide +kernel
theorem dX7_build_19 : decode cX7_build 19 = .ok (.getfield 9, 3) := by decide +kernel
theorem dX7_build_22 : decode cX7_build 22 = .ok (.iload_n 3, 1) := by decide +kernel
theorem dX7_build_23 : decode cX7_build 23 = .ok (.aload_n 1, 1) := by decide +kernel
theorem dX7_build_24 : decode cX7_build 24 = .ok (.iload_n 3, 1) := by decide +kernel
theorem dX7_build_25 : decode cX7_build 25 = .ok (.invokevirtual 43, 3) := by decide +kernel
theorem dX7_build_28 : decode cX7_build 28 = .ok (.aload_n 1, 1) := by decide +kernel
theorem dX7_build_29 : decode cX7_build 29 = .ok (.iconst 0, 1) := by decide +kernel
theorem dX7_build_30 : decode cX7_build 30 = .ok (.invokevirtual 43, 3) := by decide +kernel
theorem dX7_build_33 : decode cX7_build 33 = .ok (.if_icmp .ne 7, 3) := by decide +kernel
theorem dX7_build_36 : decode cX7_build 36 = .ok (.iconst 0, 1) := by decide +kernel
theorem dX7_build_37 : decode cX7_build 37 = .ok (.goto 4, 3) := by decide +kernel
theorem dX7_build_40 : decode cX7_build 40 = .ok (.iconst 1, 1) := by decide +kernel
theorem dX7_build_41 : decode cX7_build 41 = .ok (.iastore, 1) := by decide +kernel
theorem dX7_build_42 : decode cX7_build 42 = .ok (.iinc 3 1, 3) := by decide +kernel
theorem dX7_build_45 : decode cX7_build 45 = .ok (.goto (-32), 3) := by decide +kernel
theorem dX7_build_48 : decode cX7_build 48 = .ok (.aload_n 0, 1) := by decide +kernel
theorem dX7_build_49 : decode cX7_build 49 = .ok (.iconst 0, 1) := by decide +kernel
theorem dX7_build_50 : decode cX7_build 50 = .ok (.putfield 28, 3) := by decide +kernel
theorem dX7_build_53 : decode cX7_build 53 = .ok (.iconst 0, 1) := by decide +kernel
theorem dX7_build_54 : decode cX7_build 54 = .ok (.istore_n 3, 1) := by decide +kernel
theorem dX7_build_55 : decode cX7_build 55 = .ok (.iload_n 3, 1) := by decide +kernel
theorem dX7_build_56 : decode cX7_build 56 = .ok (.sipush 129, 3) := by decide +kernel
theorem dX7_build_59 : decode cX7_build 59 = .ok (.if_icmp .ge 51, 3) := by decide +kernel
theorem dX7_build_62 : decode cX7_build 62 = .ok (.aload_n 0, 1) := by decide +kernel
theorem dX7_build_63 : decode cX7_build 63 = .ok (.aload_n 1, 1) := by decide +kernel
theorem dX7_build_64 : decode cX7_build 64 = .ok (.iload_n 2, 1) := by decide +kernel
theorem dX7_build_65 : decode cX7_build 65 = .ok (.invokevirtual 47, 3) := by decide +kernel
theorem dX7_build_68 : decode cX7_build 68 = .ok (.istore 4, 2) := by decide +kernel
theorem dX7_build_70 : decode cX7_build 70 = .ok (.aload_n 0, 1) := by decide +kernel
theorem dX7_build_71 : decode cX7_build 71 = .ok (.getfield 15, 3) := by decide +kernel
theorem dX7_build_74 : decode cX7_build 74 = .ok (.iconst 0, 1) := by decide +kernel
theorem dX7_build_75 : decode cX7_build 75 = .ok (.aload_n 0, 1) := by decide +kernel
theorem dX7_build_76 : decode cX7_build 76 = .ok (.getfield 9, 3) := by decide +kernel
theorem dX7_build_79 : decode cX7_build 79 = .ok (.iconst 0, 1) := by decide +kernel
theorem dX7_build_80 : decode cX7_build 80 = .ok (.sipush 129, 3) := by decide +kernel
theorem dX7_build_83 : decode cX7_build 83 = .ok (.invokestatic 51, 3) := by decide +kernel
theorem dX7_build_86 : decode cX7_build 86 = .ok (.iload 4, 2) := by decide +kernel
theorem dX7_build_88 : decode cX7_build 88 = .ok (.aload_n 0, 1) := by decide +kernel
theorem dX7_build_89 : decode cX7_build 89 = .ok (.getfield 28, 3) := by decide +kernel
theorem dX7_build_92 : decode cX7_build 92 = .ok (.if_icmp .ne 6, 3) := by decide +kernel
theorem dX7_build_95 : decode cX7_build 95 = .ok (.goto 15, 3) := by decide +kernel
theorem dX7_build_98 : decode cX7_build 98 = .ok (.aload_n 0, 1) := by decide +kernel
theorem dX7_build_99 : decode cX7_build 99 = .ok (.iload 4, 2) := by decide +kernel
theorem dX7_build_101 : decode cX7_build 101 = .ok (.putfield 28, 3) := by decide +kernel
theorem dX7_build_104 : decode cX7_build 104 = .ok (.iinc 3 1, 3) := by decide +kernel
theorem dX7_build_107 : decode cX7_build 107 = .ok (.goto (-52), 3) := by decide +kernel
theorem dX7_build_110 : decode cX7_build 110 = .ok (.aload_n 0, 1) := by decide +kernel
theorem dX7_build_111 : decode cX7_build 111 = .ok (.aload_n 1, 1) := by decide +kernel
theorem dX7_build_112 : decode cX7_build 112 = .ok (.invokevirtual 57, 3) := by decide +kernel
theorem dX7_build_115 : decode cX7_build 115 = .ok (.return_, 1) := by decide +kernel
theorem dX7_size_0 : decode cX7_size 0 = .ok (.aload_n 0, 1) := by decide +kernel
theorem dX7_size_1 : decode cX7_size 1 = .ok (.getfield 28, 3) := by decide +kernel
theorem dX7_size_4 : decode cX7_size 4 = .ok (.ireturn, 1) := by decide +kernel
theorem dX7_equalsOther_0 : decode cX7_equalsOther 0 = .ok (.aload_n 0, 1) := by decide +kernel
theorem dX7_equalsOther_1 : decode cX7_equalsOther 1 = .ok (.getfield 28, 3) := by decide +kernel
theorem dX7_equalsOther_4 : decode cX7_equalsOther 4 = .ok (.aload_n 1, 1) := by decide +kernel
theorem dX7_equalsOther_5 : decode cX7_equalsOther 5 = .ok (.getfield 28, 3) := by decide +kernel
theorem dX7_equalsOther_8 : decode cX7_equalsOther 8 = .ok (.if_icmp .eq 5, 3) := by decide +kernel
theorem dX7_equalsOther_11 : decode cX7_equalsOther 11 = .ok (.iconst 0, 1) := by decide +kernel
theorem dX7_equalsOther_12 : decode cX7_equalsOther 12 = .ok (.ireturn, 1) := by decide +kernel
theorem dX7_equalsOther_13 : decode cX7_equalsOther 13 = .ok (.iconst 0, 1) := by decide +kernel
theorem dX7_equalsOther_14 : decode cX7_equalsOther 14 = .ok (.istore_n 2, 1) := by decide +kernel
theorem dX7_equalsOther_15 : decode cX7_equalsOther 15 = .ok (.iload_n 2, 1) := by decide +kernel
theorem dX7_equalsOther_16 : decode cX7_equalsOther 16 = .ok (.aload_n 0, 1) := by decide +kernel
theorem dX7_equalsOther_17 : decode cX7_equalsOther 17 = .ok (.getfield 28, 3) := by decide +kernel
theorem dX7_equalsOther_20 : decode cX7_equalsOther 20 = .ok (.if_icmp .ge 33, 3) := by decide +kernel
theorem dX7_equalsOther_23 : decode cX7_equalsOther 23 = .ok (.iload_n 2, 1) := by decide +kernel
theorem dX7_equalsOther_24 : decode cX7_equalsOther 24 = .ok (.sipush 129, 3) := by decide +kernel
theorem dX7_equalsOther_27 : decode cX7_equalsOther 27 = .ok (.if_icmp .ge 26, 3) := by decide +kernel
theorem dX7_equalsOther_30 : decode cX7_equalsOther 30 = .ok (.aload_n 0, 1) := by decide +kernel
theorem dX7_equalsOther_31 : decode cX7_equalsOther 31 = .ok (.getfield 24, 3) := by decide +kernel
theorem dX7_equalsOther_34 : decode cX7_equalsOther 34 = .ok (.iload_n 2, 1) := by decide +kernel
theorem dX7_equalsOther_35 : decode cX7_equalsOther 35 = .ok (.baload, 1) := by decide +kernel
theorem dX7_equalsOther_36 : decode cX7_equalsOther 36 = .ok (.aload_n 1, 1) := by decide +kernel
theorem dX7_equalsOther_37 : decode cX7_equalsOther 37 = .ok (.getfield 24, 3) := by decide +kernel
theorem dX7_equalsOther_40 : decode cX7_equalsOther 40 = .ok (.iload_n 2, 1) := by decide +kernel
theorem dX7_equalsOther_41 : decode cX7_equalsOther 41 = .ok (.baload, 1) := by decide +kernel
theorem dX7_equalsOther_42 : decode cX7_equalsOther 42 = .ok (.if_icmp .eq 5, 3) := by decide +kernel
theorem dX7_equalsOther_45 : decode cX7_equalsOther 45 = .ok (.iconst 0, 1) := by decide +kernel
theorem dX7_equalsOther_46 : decode cX7_equalsOther 46 = .ok (.ireturn, 1) := by decide +kernel
theorem dX7_equalsOther_47 : decode cX7_equalsOther 47 = .ok (.iinc 2 1, 3) := by decide +kernel
theorem dX7_equalsOther_50 : decode cX7_equalsOther 50 = .ok (.goto (-35), 3) := by decide +kernel
theorem dX7_equalsOther_53 : decode cX7_equalsOther 53 = .ok (.iconst 0, 1) := by decide +kernel
theorem dX7_equalsOther_54 : decode cX7_equalsOther 54 = .ok (.istore_n 2, 1) := by decide +kernel
theorem dX7_equalsOther_55 : decode cX7_equalsOther 55 = .ok (.iload_n 2, 1) := by decide +kernel
theorem dX7_equalsOther_56 : decode cX7_equalsOther 56 = .ok (.aload_n 0, 1) := by decide +kernel
theorem dX7_equalsOther_57 : decode cX7_equalsOther 57 = .ok (.getfield 28, 3) := by decide +kernel
theorem dX7_equalsOther_60 : decode cX7_equalsOther 60 = .ok (.iconst 3, 1) := by decide +kernel
theorem dX7_equalsOther_61 : decode cX7_equalsOther 61 = .ok (.imul, 1) := by decide +kernel
theorem dX7_equalsOther_62 : decode cX7_equalsOther 62 = .ok (.if_icmp .ge 35, 3) := by decide +kernel
theorem dX7_equalsOther_65 : decode cX7_equalsOther 65 = .ok (.iload_n 2, 1) := by decide +kernel
theorem dX7_equalsOther_66 : decode cX7_equalsOther 66 = .ok (.aload_n 0, 1) := by decide +kernel
theorem dX7_equalsOther_67 : decode cX7_equalsOther 67 = .ok (.getfield 21, 3) := by decide +kernel
theorem dX7_equalsOther_70 : decode cX7_equalsOther 70 = .ok (.arraylength, 1) := by decide +kernel
theorem dX7_equalsOther_71 : decode cX7_equalsOther 71 = .ok (.if_icmp .ge 26, 3) := by decide +kernel
theorem dX7_equalsOther_74 : decode cX7_equalsOther 74 = .ok (.aload_n 0, 1) := by decide +kernel
theorem dX7_equalsOther_75 : decode cX7_equalsOther 75 = .ok (.getfield 21, 3) := by decide +kernel
theorem dX7_equalsOther_78 : decode cX7_equalsOther 78 = .ok (.iload_n 2, 1) := by decide +kernel
theorem dX7_equalsOther_79 : decode cX7_equalsOther 79 = .ok (.iaload, 1) := by decide +kernel
theorem dX7_equalsOther_80 : decode cX7_equalsOther 80 = .ok (.aload_n 1, 1) := by decide +kernel
theorem dX7_equalsOther_81 : decode cX7_equalsOther 81 = .ok (.getfield 21, 3) := by decide +kernel
theorem dX7_equalsOther_84 : decode cX7_equalsOther 84 = .ok (.iload_n 2, 1) := by decide +kernel
theorem dX7_equalsOther_85 : decode cX7_equalsOther 85 = .ok (.iaload, 1) := by decide +kernel
theorem dX7_equalsOther_86 : decode cX7_equalsOther 86 = .ok (.if_icmp .eq 5, 3) := by decide +kernel
theorem dX7_equalsOther_89 : decode cX7_equalsOther 89 = .ok (.iconst 0, 1) := by decide +kernel
theorem dX7_equalsOther_90 : decode cX7_equalsOther 90 = .ok (.ireturn, 1) := by decide +kernel
theorem dX7_equalsOther_91 : decode cX7_equalsOther 91 = .ok (.iinc 2 1, 3) := by decide +kernel
theorem dX7_equalsOther_94 : decode cX7_equalsOther 94 = .ok (.goto (-39), 3) := by decide +kernel
theorem dX7_equalsOther_97 : decode cX7_equalsOther 97 = .ok (.iconst 1, 1) := by decide +kernel
theorem dX7_equalsOther_98 : decode cX7_equalsOther 98 = .ok (.ireturn, 1) := by decide +kernel
theorem dX7_divide_0 : decode cX7_divide 0 = .ok (.iconst 0, 1) := by decide +kernel
theorem dX7_divide_1 : decode cX7_divide 1 = .ok (.istore_n 3, 1) := by decide +kernel
theorem dX7_divide_2 : decode cX7_divide 2 = .ok (.iconst 0, 1) := by decide +kernel
theorem dX7_divide_3 : decode cX7_divide 3 = .ok (.istore 4, 2) := by decide +kernel
theorem dX7_divide_5 : decode cX7_divide 5 = .ok (.iload 4, 2) := by decide +kernel
theorem dX7_divide_7 : decode cX7_divide 7 = .ok (.iload_n 2, 1) := by decide +kernel
theorem dX7_divide_8 : decode cX7_divide 8 = .ok (.if_icmp .ge 90, 3) := by decide +kernel
theorem dX7_divide_11 : decode cX7_divide 11 = .ok (.iload 4, 2) := by decide +kernel
theorem dX7_divide_13 : decode cX7_divide 13 = .ok (.sipush 129, 3) := by decide +kernel
theorem dX7_divide_16 : decode cX7_divide 16 = .ok (.if_icmp .ge 82, 3) := by decide +kernel
theorem dX7_divide_19 : decode cX7_divide 19 = .ok (.iconst 0, 1) := by decide +kernel
theorem dX7_divide_20 : decode cX7_divide 20 = .ok (.istore 5, 2) := by decide +kernel
theorem dX7_divide_22 : decode cX7_divide 22 = .ok (.iload 5, 2) := by decide +kernel
theorem dX7_divide_24 : decode cX7_divide 24 = .ok (.iload_n 3, 1) := by decide +kernel
theorem dX7_divide_25 : decode cX7_divide 25 = .ok (.if_icmp .ge 34, 3) := by decide +kernel
theorem dX7_divide_28 : decode cX7_divide 28 = .ok (.iload 5, 2) := by decide +kernel
theorem dX7_divide_30 : decode cX7_divide 30 = .ok (.sipush 129, 3) := by decide +kernel
theorem dX7_divide_33 : decode cX7_divide 33 = .ok (.if_icmp .ge 26, 3) := by decide +kernel
theorem dX7_divide_36 : decode cX7_divide 36 = .ok (.aload_n 0, 1) := by decide +kernel
theorem dX7_divide_37 : decode cX7_divide 37 = .ok (.aload_n 1, 1) := by decide +kernel
theorem dX7_divide_38 : decode cX7_divide 38 = .ok (.aload_n 0, 1) := by decide +kernel
theorem dX7_divide_39 : decode cX7_divide 39 = .ok (.getfield 18, 3) := by decide +kernel
theorem dX7_divide_42 : decode cX7_divide 42 = .ok (.iload 5, 2) := by decide +kernel
theorem dX7_divide_44 : decode cX7_divide 44 = .ok (.iaload, 1) := by decide +kernel
theorem dX7_divide_45 : decode cX7_divide 45 = .ok (.iload 4, 2) := by decide +kernel
theorem dX7_divide_47 : decode cX7_divide 47 = .ok (.invokevirtual 61, 3) := by decide +kernel
theorem dX7_divide_50 : decode cX7_divide 50 = .ok (.ifCond .ne 9, 3) := by decide +kernel
theorem dX7_divide_53 : decode cX7_divide 53 = .ok (.iinc 5 1, 3) := by decide +kernel
theorem dX7_divide_56 : decode cX7_divide 56 = .ok (.goto (-34), 3) := by decide +kernel
theorem dX7_divide_59 : decode cX7_divide 59 = .ok (.iload 5, 2) := by decide +kernel
theorem dX7_divide_61 : decode cX7_divide 61 = .ok (.iload_n 3, 1) := by decide +kernel
theorem dX7_divide_62 : decode cX7_divide 62 = .ok (.if_icmp .ne 21, 3) := by decide +kernel
theorem dX7_divide_65 : decode cX7_divide 65 = .ok (.iload_n 3, 1) := by decide +kernel
theorem dX7_divide_66 : decode cX7_divide 66 = .ok (.sipush 129, 3) := by decide +kernel
theorem dX7_divide_69 : decode cX7_divide 69 = .ok (.if_icmp .ge 14, 3) := by decide +kernel
theorem dX7_divide_72 : decode cX7_divide 72 = .ok (.aload_n 0, 1) := by decide +kernel
theorem dX7_divide_73 : decode cX7_divide 73 = .ok (.getfield 18, 3) := by decide +kernel
theorem dX7_divide_76 : decode cX7_divide 76 = .ok (.iload_n 3, 1) := by decide +kernel
theorem dX7_divide_77 : decode cX7_divide 77 = .ok (.iload 4, 2) := by decide +kernel
theorem dX7_divide_79 : decode cX7_divide 79 = .ok (.iastore, 1) := by decide +kernel
theorem dX7_divide_80 : decode cX7_divide 80 = .ok (.iinc 3 1, 3) := by decide +kernel
theorem dX7_divide_83 : decode cX7_divide 83 = .ok (.aload_n 0, 1) := by decide +kernel
theorem dX7_divide_84 : decode cX7_divide 84 = .ok (.getfield 15, 3) := by decide +kernel
theorem dX7_divide_87 : decode cX7_divide 87 = .ok (.iload 4, 2) := by decide +kernel
theorem dX7_divide_89 : decode cX7_divide 89 = .ok (.iload 5, 2) := by decide +kernel
theorem dX7_divide_91 : decode cX7_divide 91 = .ok (.iastore, 1) := by decide +kernel
theorem dX7_divide_92 : decode cX7_divide 92 = .ok (.iinc 4 1, 3) := by decide +kernel
theorem dX7_divide_95 : decode cX7_divide 95 = .ok (.goto (-90), 3) := by decide +kernel
theorem dX7_divide_98 : decode cX7_divide 98 = .ok (.iload_n 3, 1) := by decide +kernel
theorem dX7_divide_99 : decode cX7_divide 99 = .ok (.ireturn, 1) := by decide +kernel
theorem dX7_areAlike_0 : decode cX7_areAlike 0 = .ok (.aload_n 0, 1) := by decide +kernel
theorem dX7_areAlike_1 : decode cX7_areAlike 1 = .ok (.iload_n 2, 1) := by decide +kernel
theorem dX7_areAlike_2 : decode cX7_areAlike 2 = .ok (.invokevirtual 65, 3) := by decide +kernel
theorem dX7_areAlike_5 : decode cX7_areAlike 5 = .ok (.aload_n 0, 1) := by decide +kernel
theorem dX7_areAlike_6 : decode cX7_areAlike 6 = .ok (.iload_n 3, 1) := by decide +kernel
theorem dX7_areAlike_7 : decode cX7_areAlike 7 = .ok (.invokevirtual 65, 3) := by decide +kernel
theorem dX7_areAlike_10 : decode cX7_areAlike 10 = .ok (.if_icmp .eq 5, 3) := by decide +kernel
theorem dX7_areAlike_13 : decode cX7_areAlike 13 = .ok (.iconst 0, 1) := by decide +kernel
theorem dX7_areAlike_14 : decode cX7_areAlike 14 = .ok (.ireturn, 1) := by decide +kernel
theorem dX7_areAlike_15 : decode cX7_areAlike 15 = .ok (.iconst 0, 1) := by decide +kernel
theorem dX7_areAlike_16 : decode cX7_areAlike 16 = .ok (.istore 4, 2) := by decide +kernel
theorem dX7_areAlike_18 : decode cX7_areAlike 18 = .ok (.iload 4, 2) := by decide +kernel
theorem dX7_areAlike_20 : decode cX7_areAlike 20 = .ok (.iconst 3, 1) := by decide +kernel
theorem dX7_areAlike_21 : decode cX7_areAlike 21 = .ok (.if_icmp .ge 36, 3) := by decide +kernel
theorem dX7_areAlike_24 : decode cX7_areAlike 24 = .ok (.aload_n 0, 1) := by decide +kernel
theorem dX7_areAlike_25 : decode cX7_areAlike 25 = .ok (.aload_n 1, 1) := by decide +kernel
theorem dX7_areAlike_26 : decode cX7_areAlike 26 = .ok (.iload_n 2, 1) := by decide +kernel
theorem dX7_areAlike_27 : decode cX7_areAlike 27 = .ok (.iload 4, 2) := by decide +kernel
theorem dX7_areAlike_29 : decode cX7_areAlike 29 = .ok (.invokevirtual 69, 3) := by decide +kernel
theorem dX7_areAlike_32 : decode cX7_areAlike 32 = .ok (.invokevirtual 65, 3) := by decide +kernel
theorem dX7_areAlike_35 : decode cX7_areAlike 35 = .ok (.aload_n 0, 1) := by decide +kernel
theorem dX7_areAlike_36 : decode cX7_areAlike 36 = .ok (.aload_n 1, 1) := by decide +kernel
theorem dX7_areAlike_37 : decode cX7_areAlike 37 = .ok (.iload_n 3, 1) := by decide +kernel
theorem dX7_areAlike_38 : decode cX7_areAlike 38 = .ok (.iload 4, 2) := by decide +kernel
theorem dX7_areAlike_40 : decode cX7_areAlike 40 = .ok (.invokevirtual 69, 3) := by decide +kernel
theorem dX7_areAlike_43 : decode cX7_areAlike 43 = .ok (.invokevirtual 65, 3) := by decide +kernel
theorem dX7_areAlike_46 : decode cX7_areAlike 46 = .ok (.if_icmp .eq 5, 3) := by decide +kernel
theorem dX7_areAlike_49 : decode cX7_areAlike 49 = .ok (.iconst 0, 1) := by decide +kernel
theorem dX7_areAlike_50 : decode cX7_areAlike 50 = .ok (.ireturn, 1) := by decide +kernel
theorem dX7_areAlike_51 : decode cX7_areAlike 51 = .ok (.iinc 4 1, 3) := by decide +kernel
theorem dX7_areAlike_54 : decode cX7_areAlike 54 = .ok (.goto (-36), 3) := by decide +kernel
theorem dX7_areAlike_57 : decode cX7_areAlike 57 = .ok (.iconst 1, 1) := by decide +kernel
theorem dX7_areAlike_58 : decode cX7_areAlike 58 = .ok (.ireturn, 1) := by decide +kernel
theorem dX7_classOf_0 : decode cX7_classOf 0 = .ok (.iload_n 1, 1) := by decide +kernel
theorem dX7_classOf_1 : decode cX7_classOf 1 = .ok (.ifCond .lt 10, 3) := by decide +kernel
theorem dX7_classOf_4 : decode cX7_classOf 4 = .ok (.iload_n 1, 1) := by decide +kernel
theorem dX7_classOf_5 : decode cX7_classOf 5 = .ok (.sipush 129, 3) := by decide +kernel
theorem dX7_classOf_8 : decode cX7_classOf 8 = .ok (.if_icmp .lt 7, 3) := by decide +kernel
theorem dX7_classOf_11 : decode cX7_classOf 11 = .ok (.iconst (-1), 1) := by decide +kernel
theorem dX7_classOf_12 : decode cX7_classOf 12 = .ok (.goto 9, 3) := by decide +kernel
theorem dX7_classOf_15 : decode cX7_classOf 15 = .ok (.aload_n 0, 1) := by decide +kernel
theorem dX7_classOf_16 : decode cX7_classOf 16 = .ok (.getfield 9, 3) := by decide +kernel
theorem dX7_classOf_19 : decode cX7_classOf 19 = .ok (.iload_n 1, 1) := by decide +kernel
theorem dX7_classOf_20 : decode cX7_classOf 20 = .ok (.iaload, 1) := by decide +kernel
theorem dX7_classOf_21 : decode cX7_classOf 21 = .ok (.ireturn, 1) := by decide +kernel
theorem dX7_fillTargets_0 : decode cX7_fillTargets 0 = .ok (.iconst 0, 1) := by decide +kernel
theorem dX7_fillTargets_1 : decode cX7_fillTargets 1 = .ok (.istore_n 2, 1) := by decide +kernel
theorem dX7_fillTargets_2 : decode cX7_fillTargets 2 = .ok (.iload_n 2, 1) := by decide +kernel
theorem dX7_fillTargets_3 : decode cX7_fillTargets 3 = .ok (.aload_n 0, 1) := by decide +kernel
theorem dX7_fillTargets_4 : decode cX7_fillTargets 4 = .ok (.getfield 28, 3) := by decide +kernel
theorem dX7_fillTargets_7 : decode cX7_fillTargets 7 = .ok (.if_icmp .ge 70, 3) := by decide +kernel
theorem dX7_fillTargets_10 : decode cX7_fillTargets 10 = .ok (.iload_n 2, 1) := by decide +kernel
theorem dX7_fillTargets_11 : decode cX7_fillTargets 11 = .ok (.sipush 129, 3) := by decide +kernel
theorem dX7_fillTargets_14 : decode cX7_fillTargets 14 = .ok (.if_icmp .ge 63, 3) := by decide +kernel
theorem dX7_fillTargets_17 : decode cX7_fillTargets 17 = .ok (.aload_n 0, 1) := by decide +kernel
theorem dX7_fillTargets_18 : decode cX7_fillTargets 18 = .ok (.getfield 24, 3) := by decide +kernel
theorem dX7_fillTargets_21 : decode cX7_fillTargets 21 = .ok (.iload_n 2, 1) := by decide +kernel
theorem dX7_fillTargets_22 : decode cX7_fillTargets 22 = .ok (.aload_n 1, 1) := by decide +kernel
theorem dX7_fillTargets_23 : decode cX7_fillTargets 23 = .ok (.aload_n 0, 1) := by decide +kernel
theorem dX7_fillTargets_24 : decode cX7_fillTargets 24 = .ok (.getfield 18, 3) := by decide +kernel
theorem dX7_fillTargets_27 : decode cX7_fillTargets 27 = .ok (.iload_n 2, 1) := by decide +kernel
theorem dX7_fillTargets_28 : decode cX7_fillTargets 28 = .ok (.iaload, 1) := by decide +kernel
theorem dX7_fillTargets_29 : decode cX7_fillTargets 29 = .ok (.invokevirtual 43, 3) := by decide +kernel
theorem dX7_fillTargets_32 : decode cX7_fillTargets 32 = .ok (.bastore, 1) := by decide +kernel
theorem dX7_fillTargets_33 : decode cX7_fillTargets 33 = .ok (.iconst 0, 1) := by decide +kernel
theorem dX7_fillTargets_34 : decode cX7_fillTargets 34 = .ok (.istore_n 3, 1) := by decide +kernel
theorem dX7_fillTargets_35 : decode cX7_fillTargets 35 = .ok (.iload_n 3, 1) := by decide +kernel
theorem dX7_fillTargets_36 : decode cX7_fillTargets 36 = .ok (.iconst 3, 1) := by decide +kernel
theorem dX7_fillTargets_37 : decode cX7_fillTargets 37 = .ok (.if_icmp .ge 34, 3) := by decide +kernel
theorem dX7_fillTargets_40 : decode cX7_fillTargets 40 = .ok (.aload_n 0, 1) := by decide +kernel
theorem dX7_fillTargets_41 : decode cX7_fillTargets 41 = .ok (.getfield 21, 3) := by decide +kernel
theorem dX7_fillTargets_44 : decode cX7_fillTargets 44 = .ok (.iload_n 2, 1) := by decide +kernel
theorem dX7_fillTargets_45 : decode cX7_fillTargets 45 = .ok (.iconst 3, 1) := by decide +kernel
theorem dX7_fillTargets_46 : decode cX7_fillTargets 46 = .ok (.imul, 1) := by decide +kernel
theorem dX7_fillTargets_47 : decode cX7_fillTargets 47 = .ok (.iload_n 3, 1) := by decide +kernel
theorem dX7_fillTargets_48 : decode cX7_fillTargets 48 = .ok (.iadd, 1) := by decide +kernel
theorem dX7_fillTargets_49 : decode cX7_fillTargets 49 = .ok (.aload_n 0, 1) := by decide +kernel
theorem dX7_fillTargets_50 : decode cX7_fillTargets 50 = .ok (.aload_n 1, 1) := by decide +kernel
theorem dX7_fillTargets_51 : decode cX7_fillTargets 51 = .ok (.aload_n 0, 1) := by decide +kernel
theorem dX7_fillTargets_52 : decode cX7_fillTargets 52 = .ok (.getfield 18, 3) := by decide +kernel
theorem dX7_fillTargets_55 : decode cX7_fillTargets 55 = .ok (.iload_n 2, 1) := by decide +kernel
theorem dX7_fillTargets_56 : decode cX7_fillTargets 56 = .ok (.iaload, 1) := by decide +kernel
theorem dX7_fillTargets_57 : decode cX7_fillTargets 57 = .ok (.iload_n 3, 1) := by decide +kernel
theorem dX7_fillTargets_58 : decode cX7_fillTargets 58 = .ok (.invokevirtual 69, 3) := by decide +kernel
theorem dX7_fillTargets_61 : decode cX7_fillTargets 61 = .ok (.invokevirtual 65, 3) := by decide +kernel
theorem dX7_fillTargets_64 : decode cX7_fillTargets 64 = .ok (.iastore, 1) := by decide +kernel
theorem dX7_fillTargets_65 : decode cX7_fillTargets 65 = .ok (.iinc 3 1, 3) := by decide +kernel
theorem dX7_fillTargets_68 : decode cX7_fillTargets 68 = .ok (.goto (-33), 3) := by decide +kernel
theorem dX7_fillTargets_71 : decode cX7_fillTargets 71 = .ok (.iinc 2 1, 3) := by decide +kernel
theorem dX7_fillTargets_74 : decode cX7_fillTargets 74 = .ok (.goto (-72), 3) := by decide +kernel
theorem dX7_fillTargets_77 : decode cX7_fillTargets 77 = .ok (.return_, 1) := by decide +kernel
theorem dX8_init_0 : decode cX8_init 0 = .ok (.aload_n 0, 1) := by decide +kernel
theorem dX8_init_1 : decode cX8_init 1 = .ok (.invokespecial 3, 3) := by decide +kernel
theorem dX8_init_4 : decode cX8_init 4 = .ok (.aload_n 0, 1) := by decide +kernel
theorem dX8_init_5 : decode cX8_init 5 = .ok (.bipush 91, 2) := by decide +kernel
theorem dX8_init_7 : decode cX8_init 7 = .ok (.newarray .int, 2) := by decide +kernel
theorem dX8_init_9 : decode cX8_init 9 = .ok (.putfield 11, 3) := by decide +kernel
theorem dX8_init_12 : decode cX8_init 12 = .ok (.aload_n 0, 1) := by decide +kernel
theorem dX8_init_13 : decode cX8_init 13 = .ok (.iconst 0, 1) := by decide +kernel
theorem dX8_init_14 : decode cX8_init 14 = .ok (.putfield 15, 3) := by decide +kernel
theorem dX8_init_17 : decode cX8_init 17 = .ok (.aload_n 0, 1) := by decide +kernel
theorem dX8_init_18 : decode cX8_init 18 = .ok (.iconst 0, 1) := by decide +kernel
theorem dX8_init_19 : decode cX8_init 19 = .ok (.putfield 19, 3) := by decide +kernel
theorem dX8_init_22 : decode cX8_init 22 = .ok (.return_, 1) := by decide +kernel
theorem dX8_accept_0 : decode cX8_accept 0 = .ok (.aload_n 2, 1) := by decide +kernel
theorem dX8_accept_1 : decode cX8_accept 1 = .ok (.ifnull 12, 3) := by decide +kernel
theorem dX8_accept_4 : decode cX8_accept 4 = .ok (.aload_n 2, 1) := by decide +kernel
theorem dX8_accept_5 : decode cX8_accept 5 = .ok (.invokevirtual 22, 3) := by decide +kernel
theorem dX8_accept_8 : decode cX8_accept 8 = .ok (.bipush 12, 2) := by decide +kernel
theorem dX8_accept_10 : decode cX8_accept 10 = .ok (.if_icmp .le 5, 3) := by decide +kernel
theorem dX8_accept_13 : decode cX8_accept 13 = .ok (.iconst 0, 1) := by decide +kernel
theorem dX8_accept_14 : decode cX8_accept 14 = .ok (.ireturn, 1) := by decide +kernel
theorem dX8_accept_15 : decode cX8_accept 15 = .ok (.aload_n 0, 1) := by decide +kernel
theorem dX8_accept_16 : decode cX8_accept 16 = .ok (.iconst 0, 1) := by decide +kernel
theorem dX8_accept_17 : decode cX8_accept 17 = .ok (.putfield 15, 3) := by decide +kernel
theorem dX8_accept_20 : decode cX8_accept 20 = .ok (.aload_n 0, 1) := by decide +kernel
theorem dX8_accept_21 : decode cX8_accept 21 = .ok (.aload_n 2, 1) := by decide +kernel
theorem dX8_accept_22 : decode cX8_accept 22 = .ok (.invokevirtual 22, 3) := by decide +kernel
theorem dX8_accept_25 : decode cX8_accept 25 = .ok (.putfield 19, 3) := by decide +kernel
theorem dX8_accept_28 : decode cX8_accept 28 = .ok (.iconst 0, 1) := by decide +kernel
theorem dX8_accept_29 : decode cX8_accept 29 = .ok (.istore_n 3, 1) := by decide +kernel
theorem dX8_accept_30 : decode cX8_accept 30 = .ok (.iload_n 3, 1) := by decide +kernel
theorem dX8_accept_31 : decode cX8_accept 31 = .ok (.aload_n 1, 1) := by decide +kernel
theorem dX8_accept_32 : decode cX8_accept 32 = .ok (.invokevirtual 28, 3) := by decide +kernel
theorem dX8_accept_35 : decode cX8_accept 35 = .ok (.if_icmp .ge 60, 3) := by decide +kernel
theorem dX8_accept_38 : decode cX8_accept 38 = .ok (.aload_n 1, 1) := by decide +kernel
theorem dX8_accept_39 : decode cX8_accept 39 = .ok (.iload_n 3, 1) := by decide +kernel
theorem dX8_accept_40 : decode cX8_accept 40 = .ok (.invokevirtual 31, 3) := by decide +kernel
theorem dX8_accept_43 : decode cX8_accept 43 = .ok (.istore 4, 2) := by decide +kernel
theorem dX8_accept_45 : decode cX8_accept 45 = .ok (.iload 4, 2) := by decide +kernel
theorem dX8_accept_47 : decode cX8_accept 47 = .ok (.invokestatic 35, 3) := by decide +kernel
theorem dX8_accept_50 : decode cX8_accept 50 = .ok (.ifCond .eq 16, 3) := by decide +kernel
theorem dX8_accept_53 : decode cX8_accept 53 = .ok (.aload_n 0, 1) := by decide +kernel
theorem dX8_accept_54 : decode cX8_accept 54 = .ok (.iload 4, 2) := by decide +kernel
theorem dX8_accept_56 : decode cX8_accept 56 = .ok (.bipush 97, 2) := by decide +kernel
theorem dX8_accept_58 : decode cX8_accept 58 = .ok (.isub, 1) := by decide +kernel
theorem dX8_accept_59 : decode cX8_accept 59 = .ok (.aload_n 2, 1) := by decide +kernel
theorem dX8_accept_60 : decode cX8_accept 60 = .ok (.invokevirtual 39, 3) := by decide +kernel
theorem dX8_accept_63 : decode cX8_accept 63 = .ok (.goto 26, 3) := by decide +kernel
theorem dX8_accept_66 : decode cX8_accept 66 = .ok (.iload 4, 2) := by decide +kernel
theorem dX8_accept_68 : decode cX8_accept 68 = .ok (.invokestatic 43, 3) := by decide +kernel
theorem dX8_accept_71 : decode cX8_accept 71 = .ok (.ifCond .eq 12, 3) := by decide +kernel
theorem dX8_accept_74 : decode cX8_accept 74 = .ok (.aload_n 0, 1) := by decide +kernel
theorem dX8_accept_75 : decode cX8_accept 75 = .ok (.iload 4, 2) := by decide +kernel
theorem dX8_accept_77 : decode cX8_accept 77 = .ok (.invokevirtual 46, 3) := by decide +kernel
theorem dX8_accept_80 : decode cX8_accept 80 = .ok (.goto 9, 3) := by decide +kernel
theorem dX8_accept_83 : decode cX8_accept 83 = .ok (.aload_n 0, 1) := by decide +kernel
theorem dX8_accept_84 : decode cX8_accept 84 = .ok (.iload 4, 2) := by decide +kernel
theorem dX8_accept_86 : decode cX8_accept 86 = .ok (.invokevirtual 50, 3) := by decide +kernel
theorem dX8_accept_89 : decode cX8_accept 89 = .ok (.iinc 3 1, 3) := by decide +kernel
theorem dX8_accept_92 : decode cX8_accept 92 = .ok (.goto (-62), 3) := by decide +kernel
theorem dX8_accept_95 : decode cX8_accept 95 = .ok (.aload_n 0, 1) := by decide +kernel
theorem dX8_accept_96 : decode cX8_accept 96 = .ok (.getfield 11, 3) := by decide +kernel
theorem dX8_accept_99 : decode cX8_accept 99 = .ok (.iconst 0, 1) := by decide +kernel
theorem dX8_accept_100 : decode cX8_accept 100 = .ok (.iaload, 1) := by decide +kernel
theorem dX8_accept_101 : decode cX8_accept 101 = .ok (.aload_n 0, 1) := by decide +kernel
theorem dX8_accept_102 : decode cX8_accept 102 = .ok (.getfield 19, 3) := by decide +kernel
theorem dX8_accept_105 : decode cX8_accept 105 = .ok (.ishr, 1) := by decide +kernel
theorem dX8_accept_106 : decode cX8_accept 106 = .ok (.iconst 1, 1) := by decide +kernel
theorem dX8_accept_107 : decode cX8_accept 107 = .ok (.iand, 1) := by decide +kernel
theorem dX8_accept_108 : decode cX8_accept 108 = .ok (.ifCond .eq 7, 3) := by decide +kernel
theorem dX8_accept_111 : decode cX8_accept 111 = .ok (.iconst 1, 1) := by decide +kernel
theorem dX8_accept_112 : decode cX8_accept 112 = .ok (.goto 4, 3) := by decide +kernel
theorem dX8_accept_115 : decode cX8_accept 115 = .ok (.iconst 0, 1) := by decide +kernel
theorem dX8_accept_116 : decode cX8_accept 116 = .ok (.ireturn, 1) := by decide +kernel
theorem dX8_addLetter_0 : decode cX8_addLetter 0 = .ok (.aload_n 0, 1) := by decide +kernel
theorem dX8_addLetter_1 : decode cX8_addLetter 1 = .ok (.getfield 15, 3) := by decide +kernel
theorem dX8_addLetter_4 : decode cX8_addLetter 4 = .ok (.ifCond .lt 12, 3) := by decide +kernel
theorem dX8_addLetter_7 : decode cX8_addLetter 7 = .ok (.aload_n 0, 1) := by decide +kernel
theorem dX8_addLetter_8 : decode cX8_addLetter 8 = .ok (.getfield 15, 3) := by decide +kernel
theorem dX8_addLetter_11 : decode cX8_addLetter 11 = .ok (.bipush 7, 2) := by decide +kernel
theorem dX8_addLetter_13 : decode cX8_addLetter 13 = .ok (.if_icmp .lt 4, 3) := by decide +kernel
theorem dX8_addLetter_16 : decode cX8_addLetter 16 = .ok (.return_, 1) := by decide +kernel
theorem dX8_addLetter_17 : decode cX8_addLetter 17 = .ok (.iconst 0, 1) := by decide +kernel
theorem dX8_addLetter_18 : decode cX8_addLetter 18 = .ok (.istore_n 3, 1) := by decide +kernel
theorem dX8_addLetter_19 : decode cX8_addLetter 19 = .ok (.iload_n 3, 1) := by decide +kernel
theorem dX8_addLetter_20 : decode cX8_addLetter 20 = .ok (.aload_n 0, 1) := by decide +kernel
theorem dX8_addLetter_21 : decode cX8_addLetter 21 = .ok (.getfield 19, 3) := by decide +kernel
theorem dX8_addLetter_24 : decode cX8_addLetter 24 = .ok (.if_icmp .gt 47, 3) := by decide +kernel
theorem dX8_addLetter_27 : decode cX8_addLetter 27 = .ok (.iload_n 3, 1) := by decide +kernel
theorem dX8_addLetter_28 : decode cX8_addLetter 28 = .ok (.bipush 13, 2) := by decide +kernel
theorem dX8_addLetter_30 : decode cX8_addLetter 30 = .ok (.if_icmp .ge 41, 3) := by decide +kernel
theorem dX8_addLetter_33 : decode cX8_addLetter 33 = .ok (.aload_n 0, 1) := by decide +kernel
theorem dX8_addLetter_34 : decode cX8_addLetter 34 = .ok (.getfield 11, 3) := by decide +kernel
theorem dX8_addLetter_37 : decode cX8_addLetter 37 = .ok (.aload_n 0, 1) := by decide +kernel
theorem dX8_addLetter_38 : decode cX8_addLetter 38 = .ok (.getfield 15, 3) := by decide +kernel
theorem dX8_addLetter_41 : decode cX8_addLetter 41 = .ok (.bipush 13, 2) := by decide +kernel
theorem dX8_addLetter_43 : decode cX8_addLetter 43 = .ok (.imul, 1) := by decide +kernel
theorem dX8_addLetter_44 : decode cX8_addLetter 44 = .ok (.iload_n 3, 1) := by decide +kernel
theorem dX8_addLetter_45 : decode cX8_addLetter 45 = .ok (.iadd, 1) := by decide +kernel
theorem dX8_addLetter_46 : decode cX8_addLetter 46 = .ok (.aload_n 2, 1) := by decide +kernel
theorem dX8_addLetter_47 : decode cX8_addLetter 47 = .ok (.iload_n 3, 1) := by decide +kernel
theorem dX8_addLetter_48 : decode cX8_addLetter 48 = .ok (.invokevirtual 53, 3) := by decide +kernel
theorem dX8_addLetter_51 : decode cX8_addLetter 51 = .ok (.iload_n 1, 1) := by decide +kernel
theorem dX8_addLetter_52 : decode cX8_addLetter 52 = .ok (.if_icmp .ne 11, 3) := by decide +kernel
theorem dX8_addLetter_55 : decode cX8_addLetter 55 = .ok (.iconst 1, 1) := by decide +kernel
theorem dX8_addLetter_56 : decode cX8_addLetter 56 = .ok (.iload_n 3, 1) := by decide +kernel
theorem dX8_addLetter_57 : decode cX8_addLetter 57 = .ok (.iconst 1, 1) := by decide +kernel
theorem dX8_addLetter_58 : decode cX8_addLetter 58 = .ok (.iadd, 1) := by decide +kernel
theorem dX8_addLetter_59 : decode cX8_addLetter 59 = .ok (.ishl, 1) := by decide +kernel
theorem dX8_addLetter_60 : decode cX8_addLetter 60 = .ok (.goto 4, 3) := by decide +kernel
theorem dX8_addLetter_63 : decode cX8_addLetter 63 = .ok (.iconst 0, 1) := by decide +kernel
theorem dX8_addLetter_64 : decode cX8_addLetter 64 = .ok (.iastore, 1) := by decide +kernel
theorem dX8_addLetter_65 : decode cX8_addLetter 65 = .ok (.iinc 3 1, 3) := by decide +kernel
theorem dX8_addLetter_68 : decode cX8_addLetter 68 = .ok (.goto (-49), 3) := by decide +kernel
theorem dX8_addLetter_71 : decode cX8_addLetter 71 = .ok (.aload_n 0, 1) := by decide +kernel
theorem dX8_addLetter_72 : decode cX8_addLetter 72 = .ok (.dup, 1) := by decide +kernel
theorem dX8_addLetter_73 : decode cX8_addLetter 73 = .ok (.getfield 15, 3) := by decide +kernel
theorem dX8_addLetter_76 : decode cX8_addLetter 76 = .ok (.iconst 1, 1) := by decide +kernel
theorem dX8_addLetter_77 : decode cX8_addLetter 77 = .ok (.iadd, 1) := by decide +kernel
theorem dX8_addLetter_78 : decode cX8_addLetter 78 = .ok (.putfield 15, 3) := by decide +kernel
theorem dX8_addLetter_81 : decode cX8_addLetter 81 = .ok (.return_, 1) := by decide +kernel
theorem dX8_join_0 : decode cX8_join 0 = .ok (.aload_n 0, 1) := by decide +kernel
theorem dX8_join_1 : decode cX8_join 1 = .ok (.getfield 15, 3) := by decide +kernel
theorem dX8_join_4 : decode cX8_join 4 = .ok (.iconst 2, 1) := by decide +kernel
theorem dX8_join_5 : decode cX8_join 5 = .ok (.isub, 1) := by decide +kernel
theorem dX8_join_6 : decode cX8_join 6 = .ok (.istore_n 2, 1) := by decide +kernel
theorem dX8_join_7 : decode cX8_join 7 = .ok (.aload_n 0, 1) := by decide +kernel
theorem dX8_join_8 : decode cX8_join 8 = .ok (.getfield 15, 3) := by decide +kernel
theorem dX8_join_11 : decode cX8_join 11 = .ok (.iconst 1, 1) := by decide +kernel
theorem dX8_join_12 : decode cX8_join 12 = .ok (.isub, 1) := by decide +kernel
theorem dX8_join_13 : decode cX8_join 13 = .ok (.istore_n 3, 1) := by decide +kernel
theorem dX8_join_14 : decode cX8_join 14 = .ok (.iload_n 2, 1) := by decide +kernel
theorem dX8_join_15 : decode cX8_join 15 = .ok (.ifCond .lt 9, 3) := by decide +kernel
theorem dX8_join_18 : decode cX8_join 18 = .ok (.iload_n 3, 1) := by decide +kernel
theorem dX8_join_19 : decode cX8_join 19 = .ok (.bipush 7, 2) := by decide +kernel
theorem dX8_join_21 : decode cX8_join 21 = .ok (.if_icmp .lt 4, 3) := by decide +kernel
theorem dX8_join_24 : decode cX8_join 24 = .ok (.return_, 1) := by decide +kernel
theorem dX8_join_25 : decode cX8_join 25 = .ok (.aload_n 0, 1) := by decide +kernel
theorem dX8_join_26 : decode cX8_join 26 = .ok (.dup, 1) := by decide +kernel
theorem dX8_join_27 : decode cX8_join 27 = .ok (.getfield 15, 3) := by decide +kernel
theorem dX8_join_30 : decode cX8_join 30 = .ok (.iconst 1, 1) := by decide +kernel
theorem dX8_join_31 : decode cX8_join 31 = .ok (.isub, 1) := by decide +kernel
theorem dX8_join_32 : decode cX8_join 32 = .ok (.putfield 15, 3) := by decide +kernel
theorem dX8_join_35 : decode cX8_join 35 = .ok (.iconst 0, 1) := by decide +kernel
theorem dX8_join_36 : decode cX8_join 36 = .ok (.istore 4, 2) := by decide +kernel
theorem dX8_join_38 : decode cX8_join 38 = .ok (.iload 4, 2) := by decide +kernel
theorem dX8_join_40 : decode cX8_join 40 = .ok (.aload_n 0, 1) := by decide +kernel
theorem dX8_join_41 : decode cX8_join 41 = .ok (.getfield 19, 3) := by decide +kernel
theorem dX8_join_44 : decode cX8_join 44 = .ok (.if_icmp .gt 73, 3) := by decide +kernel
theorem dX8_join_47 : decode cX8_join 47 = .ok (.iload 4, 2) := by decide +kernel
theorem dX8_join_49 : decode cX8_join 49 = .ok (.bipush 13, 2) := by decide +kernel
theorem dX8_join_51 : decode cX8_join 51 = .ok (.if_icmp .ge 66, 3) := by decide +kernel
theorem dX8_join_54 : decode cX8_join 54 = .ok (.iload_n 2, 1) := by decide +kernel
theorem dX8_join_55 : decode cX8_join 55 = .ok (.bipush 13, 2) := by decide +kernel
theorem dX8_join_57 : decode cX8_join 57 = .ok (.imul, 1) := by decide +kernel
theorem dX8_join_58 : decode cX8_join 58 = .ok (.iload 4, 2) := by decide +kernel
theorem dX8_join_60 : decode cX8_join 60 = .ok (.iadd, 1) := by decide +kernel
theorem dX8_join_61 : decode cX8_join 61 = .ok (.istore 5, 2) := by decide +kernel
theorem dX8_join_63 : decode cX8_join 63 = .ok (.aload_n 0, 1) := by decide +kernel
theorem dX8_join_64 : decode cX8_join 64 = .ok (.getfield 11, 3) := by decide +kernel
theorem dX8_join_67 : decode cX8_join 67 = .ok (.iload 5, 2) := by decide +kernel
theorem dX8_join_69 : decode cX8_join 69 = .ok (.iload_n 1, 1) := by decide +kernel
theorem dX8_join_70 : decode cX8_join 70 = .ok (.bipush 124, 2) := by decide +kernel
theorem dX8_join_72 : decode cX8_join 72 = .ok (.if_icmp .ne 26, 3) := by decide +kernel
theorem dX8_join_75 : decode cX8_join 75 = .ok (.aload_n 0, 1) := by decide +kernel
theorem dX8_join_76 : decode cX8_join 76 = .ok (.getfield 11, 3) := by decide +kernel
theorem dX8_join_79 : decode cX8_join 79 = .ok (.iload 5, 2) := by decide +kernel
theorem dX8_join_81 : decode cX8_join 81 = .ok (.iaload, 1) := by decide +kernel
theorem dX8_join_82 : decode cX8_join 82 = .ok (.aload_n 0, 1) := by decide +kernel
theorem dX8_join_83 : decode cX8_join 83 = .ok (.getfield 11, 3) := by decide +kernel
theorem dX8_join_86 : decode cX8_join 86 = .ok (.iload_n 3, 1) := by decide +kernel
theorem dX8_join_87 : decode cX8_join 87 = .ok (.bipush 13, 2) := by decide +kernel
theorem dX8_join_89 : decode cX8_join 89 = .ok (.imul, 1) := by decide +kernel
theorem dX8_join_90 : decode cX8_join 90 = .ok (.iload 4, 2) := by decide +kernel
theorem dX8_join_92 : decode cX8_join 92 = .ok (.iadd, 1) := by decide +kernel
theorem dX8_join_93 : decode cX8_join 93 = .ok (.iaload, 1) := by decide +kernel
theorem dX8_join_94 : decode cX8_join 94 = .ok (.ior, 1) := by decide +kernel
theorem dX8_join_95 : decode cX8_join 95 = .ok (.goto 15, 3) := by decide +kernel
theorem dX8_join_98 : decode cX8_join 98 = .ok (.aload_n 0, 1) := by decide +kernel
theorem dX8_join_99 : decode cX8_join 99 = .ok (.iload_n 3, 1) := by decide +kernel
theorem dX8_join_100 : decode cX8_join 100 = .ok (.aload_n 0, 1) := by decide +kernel
theorem dX8_join_101 : decode cX8_join 101 = .ok (.getfield 11, 3) := by decide +kernel
theorem dX8_join_104 : decode cX8_join 104 = .ok (.iload 5, 2) := by decide +kernel
theorem dX8_join_106 : decode cX8_join 106 = .ok (.iaload, 1) := by decide +kernel
theorem dX8_join_107 : decode cX8_join 107 = .ok (.invokevirtual 57, 3) := by decide +kernel
theorem dX8_join_110 : decode cX8_join 110 = .ok (.iastore, 1) := by decide +kernel
theorem dX8_join_111 : decode cX8_join 111 = .ok (.iinc 4 1, 3) := by decide +kernel
theorem dX8_join_114 : decode cX8_join 114 = .ok (.goto (-76), 3) := by decide +kernel
theorem dX8_join_117 : decode cX8_join 117 = .ok (.return_, 1) := by decide +kernel
theorem dX8_sign_0 : decode cX8_sign 0 = .ok (.aload_n 0, 1) := by decide +kernel
theorem dX8_sign_1 : decode cX8_sign 1 = .ok (.getfield 15, 3) := by decide +kernel
theorem dX8_sign_4 : decode cX8_sign 4 = .ok (.iconst 1, 1) := by decide +kernel
theorem dX8_sign_5 : decode cX8_sign 5 = .ok (.isub, 1) := by decide +kernel
theorem dX8_sign_6 : decode cX8_sign 6 = .ok (.istore_n 2, 1) := by decide +kernel
theorem dX8_sign_7 : decode cX8_sign 7 = .ok (.iload_n 2, 1) := by decide +kernel
theorem dX8_sign_8 : decode cX8_sign 8 = .ok (.ifCond .lt 9, 3) := by decide +kernel
theorem dX8_sign_11 : decode cX8_sign 11 = .ok (.iload_n 2, 1) := by decide +kernel
theorem dX8_sign_12 : decode cX8_sign 12 = .ok (.bipush 7, 2) := by decide +kernel
theorem dX8_sign_14 : decode cX8_sign 14 = .ok (.if_icmp .lt 4, 3) := by decide +kernel
theorem dX8_sign_17 : decode cX8_sign 17 = .ok (.return_, 1) := by decide +kernel
theorem dX8_sign_18 : decode cX8_sign 18 = .ok (.aload_n 0, 1) := by decide +kernel
theorem dX8_sign_19 : decode cX8_sign 19 = .ok (.getfield 19, 3) := by decide +kernel
theorem dX8_sign_22 : decode cX8_sign 22 = .ok (.bipush 12, 2) := by decide +kernel
theorem dX8_sign_24 : decode cX8_sign 24 = .ok (.invokestatic 61, 3) := by decide +kernel
theorem dX8_sign_27 : decode cX8_sign 27 = .ok (.istore_n 3, 1) := by decide +kernel
theorem dX8_sign_28 : decode cX8_sign 28 = .ok (.iload_n 3, 1) := by decide +kernel
theorem dX8_sign_29 : decode cX8_sign 29 = .ok (.ifCond .lt 70, 3) := by decide +kernel
theorem dX8_sign_32 : decode cX8_sign 32 = .ok (.iload_n 2, 1) := by decide +kernel
theorem dX8_sign_33 : decode cX8_sign 33 = .ok (.bipush 13, 2) := by decide +kernel
theorem dX8_sign_35 : decode cX8_sign 35 = .ok (.imul, 1) := by decide +kernel
theorem dX8_sign_36 : decode cX8_sign 36 = .ok (.iload_n 3, 1) := by decide +kernel
theorem dX8_sign_37 : decode cX8_sign 37 = .ok (.iadd, 1) := by decide +kernel
theorem dX8_sign_38 : decode cX8_sign 38 = .ok (.istore 4, 2) := by decide +kernel
theorem dX8_sign_40 : decode cX8_sign 40 = .ok (.iload_n 1, 1) := by decide +kernel
theorem dX8_sign_41 : decode cX8_sign 41 = .ok (.bipush 63, 2) := by decide +kernel
theorem dX8_sign_43 : decode cX8_sign 43 = .ok (.if_icmp .eq 31, 3) := by decide +kernel
theorem dX8_sign_46 : decode cX8_sign 46 = .ok (.aload_n 0, 1) := by decide +kernel
theorem dX8_sign_47 : decode cX8_sign 47 = .ok (.getfield 11, 3) := by decide +kernel
theorem dX8_sign_50 : decode cX8_sign 50 = .ok (.iload 4, 2) := by decide +kernel
theorem dX8_sign_52 : decode cX8_sign 52 = .ok (.dup2, 1) := by decide +kernel
theorem dX8_sign_53 : decode cX8_sign 53 = .ok (.iaload, 1) := by decide +kernel
theorem dX8_sign_54 : decode cX8_sign 54 = .ok (.aload_n 0, 1) := by decide +kernel
theorem dX8_sign_55 : decode cX8_sign 55 = .ok (.iload_n 2, 1) := by decide +kernel
theorem dX8_sign_56 : decode cX8_sign 56 = .ok (.aload_n 0, 1) := by decide +kernel
theorem dX8_sign_57 : decode cX8_sign 57 = .ok (.getfield 11, 3) := by decide +kernel
theorem dX8_sign_60 : decode cX8_sign 60 = .ok (.iload 4, 2) := by decide +kernel
theorem dX8_sign_62 : decode cX8_sign 62 = .ok (.iaload, 1) := by decide +kernel
theorem dX8_sign_63 : decode cX8_sign 63 = .ok (.iconst 1, 1) := by decide +kernel
theorem dX8_sign_64 : decode cX8_sign 64 = .ok (.iload_n 3, 1) := by decide +kernel
theorem dX8_sign_65 : decode cX8_sign 65 = .ok (.ishl, 1) := by decide +kernel
theorem dX8_sign_66 : decode cX8_sign 66 = .ok (.iconst (-1), 1) := by decide +kernel
theorem dX8_sign_67 : decode cX8_sign 67 = .ok (.ixor, 1) := by decide +kernel
theorem dX8_sign_68 : decode cX8_sign 68 = .ok (.iand, 1) := by decide +kernel
theorem dX8_sign_69 : decode cX8_sign 69 = .ok (.invokevirtual 57, 3) := by decide +kernel
theorem dX8_sign_72 : decode cX8_sign 72 = .ok (.ior, 1) := by decide +kernel
theorem dX8_sign_73 : decode cX8_sign 73 = .ok (.iastore, 1) := by decide +kernel
theorem dX8_sign_74 : decode cX8_sign 74 = .ok (.iload_n 1, 1) := by decide +kernel
theorem dX8_sign_75 : decode cX8_sign 75 = .ok (.bipush 43, 2) := by decide +kernel
theorem dX8_sign_77 : decode cX8_sign 77 = .ok (.if_icmp .eq 16, 3) := by decide +kernel
theorem dX8_sign_80 : decode cX8_sign 80 = .ok (.aload_n 0, 1) := by decide +kernel
theorem dX8_sign_81 : decode cX8_sign 81 = .ok (.getfield 11, 3) := by decide +kernel
theorem dX8_sign_84 : decode cX8_sign 84 = .ok (.iload 4, 2) := by decide +kernel
theorem dX8_sign_86 : decode cX8_sign 86 = .ok (.dup2, 1) := by decide +kernel
theorem dX8_sign_87 : decode cX8_sign 87 = .ok (.iaload, 1) := by decide +kernel
theorem dX8_sign_88 : decode cX8_sign 88 = .ok (.iconst 1, 1) := by decide +kernel
theorem dX8_sign_89 : decode cX8_sign 89 = .ok (.iload_n 3, 1) := by decide +kernel
theorem dX8_sign_90 : decode cX8_sign 90 = .ok (.ishl, 1) := by decide +kernel
theorem dX8_sign_91 : decode cX8_sign 91 = .ok (.ior, 1) := by decide +kernel
theorem dX8_sign_92 : decode cX8_sign 92 = .ok (.iastore, 1) := by decide +kernel
theorem dX8_sign_93 : decode cX8_sign 93 = .ok (.iinc 3 (-1), 3) := by decide +kernel
theorem dX8_sign_96 : decode cX8_sign 96 = .ok (.goto (-68), 3) := by decide +kernel
theorem dX8_sign_99 : decode cX8_sign 99 = .ok (.return_, 1) := by decide +kernel
theorem dX8_endsFrom_0 : decode cX8_endsFrom 0 = .ok (.iconst 0, 1) := by decide +kernel
theorem dX8_endsFrom_1 : decode cX8_endsFrom 1 = .ok (.istore_n 3, 1) := by decide +kernel
theorem dX8_endsFrom_2 : decode cX8_endsFrom 2 = .ok (.iconst 0, 1) := by decide +kernel
theorem dX8_endsFrom_3 : decode cX8_endsFrom 3 = .ok (.istore 4, 2) := by decide +kernel
theorem dX8_endsFrom_5 : decode cX8_endsFrom 5 = .ok (.iload 4, 2) := by decide +kernel
theorem dX8_endsFrom_7 : decode cX8_endsFrom 7 = .ok (.aload_n 0, 1) := by decide +kernel
theorem dX8_endsFrom_8 : decode cX8_endsFrom 8 = .ok (.getfield 19, 3) := by decide +kernel
theorem dX8_endsFrom_11 : decode cX8_endsFrom 11 = .ok (.if_icmp .gt 40, 3) := by decide +kernel
theorem dX8_endsFrom_14 : decode cX8_endsFrom 14 = .ok (.iload 4, 2) := by decide +kernel
theorem dX8_endsFrom_16 : decode cX8_endsFrom 16 = .ok (.bipush 13, 2) := by decide +kernel
theorem dX8_endsFrom_18 : decode cX8_endsFrom 18 = .ok (.if_icmp .ge 33, 3) := by decide +kernel
theorem dX8_endsFrom_21 : decode cX8_endsFrom 21 = .ok (.iload_n 2, 1) := by decide +kernel
theorem dX8_endsFrom_22 : decode cX8_endsFrom 22 = .ok (.iload 4, 2) := by decide +kernel
theorem dX8_endsFrom_24 : decode cX8_endsFrom 24 = .ok (.ishr, 1) := by decide +kernel
theorem dX8_endsFrom_25 : decode cX8_endsFrom 25 = .ok (.iconst 1, 1) := by decide +kernel
theorem dX8_endsFrom_26 : decode cX8_endsFrom 26 = .ok (.iand, 1) := by decide +kernel
theorem dX8_endsFrom_27 : decode cX8_endsFrom 27 = .ok (.ifCond .eq 18, 3) := by decide +kernel
theorem dX8_endsFrom_30 : decode cX8_endsFrom 30 = .ok (.iload_n 3, 1) := by decide +kernel
theorem dX8_endsFrom_31 : decode cX8_endsFrom 31 = .ok (.aload_n 0, 1) := by decide +kernel
theorem dX8_endsFrom_32 : decode cX8_endsFrom 32 = .ok (.getfield 11, 3) := by decide +kernel
theorem dX8_endsFrom_35 : decode cX8_endsFrom 35 = .ok (.iload_n 1, 1) := by decide +kernel
theorem dX8_endsFrom_36 : decode cX8_endsFrom 36 = .ok (.bipush 13, 2) := by decide +kernel
theorem dX8_endsFrom_38 : decode cX8_endsFrom 38 = .ok (.imul, 1) := by decide +kernel
theorem dX8_endsFrom_39 : decode cX8_endsFrom 39 = .ok (.iload 4, 2) := by decide +kernel
theorem dX8_endsFrom_41 : decode cX8_endsFrom 41 = .ok (.iadd, 1) := by decide +kernel
theorem dX8_endsFrom_42 : decode cX8_endsFrom 42 = .ok (.iaload, 1) := by decide +kernel
theorem dX8_endsFrom_43 : decode cX8_endsFrom 43 = .ok (.ior, 1) := by decide +kernel
theorem dX8_endsFrom_44 : decode cX8_endsFrom 44 = .ok (.istore_n 3, 1) := by decide +kernel
theorem dX8_endsFrom_45 : decode cX8_endsFrom 45 = .ok (.iinc 4 1, 3) := by decide +kernel
theorem dX8_endsFrom_48 : decode cX8_endsFrom 48 = .ok (.goto (-43), 3) := by decide +kernel
theorem dX8_endsFrom_51 : decode cX8_endsFrom 51 = .ok (.iload_n 3, 1) := by decide +kernel
theorem dX8_endsFrom_52 : decode cX8_endsFrom 52 = .ok (.ireturn, 1) := by decide +kernel
theorem dX9_init_0 : decode cX9_init 0 = .ok (.aload_n 0, 1) := by decide +kernel
theorem dX9_init_1 : decode cX9_init 1 = .ok (.invokespecial 3, 3) := by decide +kernel
theorem dX9_init_4 : decode cX9_init 4 = .ok (.aload_n 0, 1) := by decide +kernel
theorem dX9_init_5 : decode cX9_init 5 = .ok (.bipush 60, 2) := by decide +kernel
theorem dX9_init_7 : decode cX9_init 7 = .ok (.newarray .char, 2) := by decide +kernel
theorem dX9_init_9 : decode cX9_init 9 = .ok (.putfield 9, 3) := by decide +kernel
theorem dX9_init_12 : decode cX9_init 12 = .ok (.aload_n 0, 1) := by decide +kernel
theorem dX9_init_13 : decode cX9_init 13 = .ok (.iconst 3, 1) := by decide +kernel
theorem dX9_init_14 : decode cX9_init 14 = .ok (.newarray .int, 2) := by decide +kernel
theorem dX9_init_16 : decode cX9_init 16 = .ok (.putfield 15, 3) := by decide +kernel
theorem dX9_init_19 : decode cX9_init 19 = .ok (.aload_n 0, 1) := by decide +kernel
theorem dX9_init_20 : decode cX9_init 20 = .ok (.iconst 0, 1) := by decide +kernel
theorem dX9_init_21 : decode cX9_init 21 = .ok (.putfield 19, 3) := by decide +kernel
theorem dX9_init_24 : decode cX9_init 24 = .ok (.aload_n 0, 1) := by decide +kernel
theorem dX9_init_25 : decode cX9_init 25 = .ok (.iconst 0, 1) := by decide +kernel
theorem dX9_init_26 : decode cX9_init 26 = .ok (.putfield 23, 3) := by decide +kernel
theorem dX9_init_29 : decode cX9_init 29 = .ok (.aload_n 0, 1) := by decide +kernel
theorem dX9_init_30 : decode cX9_init 30 = .ok (.iconst (-1), 1) := by decide +kernel
theorem dX9_init_31 : decode cX9_init 31 = .ok (.putfield 26, 3) := by decide +kernel
theorem dX9_init_34 : decode cX9_init 34 = .ok (.aload_n 0, 1) := by decide +kernel
theorem dX9_init_35 : decode cX9_init 35 = .ok (.iconst 0, 1) := by decide +kernel
theorem dX9_init_36 : decode cX9_init 36 = .ok (.putfield 29, 3) := by decide +kernel
theorem dX9_init_39 : decode cX9_init 39 = .ok (.aload_n 0, 1) := by decide +kernel
theorem dX9_init_40 : decode cX9_init 40 = .ok (.iconst 0, 1) := by decide +kernel
theorem dX9_init_41 : decode cX9_init 41 = .ok (.putfield 32, 3) := by decide +kernel
theorem dX9_init_44 : decode cX9_init 44 = .ok (.return_, 1) := by decide +kernel
theorem dX9_isFull_0 : decode cX9_isFull 0 = .ok (.aload_n 0, 1) := by decide +kernel
theorem dX9_isFull_1 : decode cX9_isFull 1 = .ok (.getfield 19, 3) := by decide +kernel
theorem dX9_isFull_4 : decode cX9_isFull 4 = .ok (.bipush 60, 2) := by decide +kernel
theorem dX9_isFull_6 : decode cX9_isFull 6 = .ok (.if_icmp .lt 7, 3) := by decide +kernel
theorem dX9_isFull_9 : decode cX9_isFull 9 = .ok (.iconst 1, 1) := by decide +kernel
theorem dX9_isFull_10 : decode cX9_isFull 10 = .ok (.goto 4, 3) := by decide +kernel
theorem dX9_isFull_13 : decode cX9_isFull 13 = .ok (.iconst 0, 1) := by decide +kernel
theorem dX9_isFull_14 : decode cX9_isFull 14 = .ok (.ireturn, 1) := by decide +kernel
theorem dX9_add_0 : decode cX9_add 0 = .ok (.aload_n 0, 1) := by decide +kernel
theorem dX9_add_1 : decode cX9_add 1 = .ok (.getfield 19, 3) := by decide +kernel
theorem dX9_add_4 : decode cX9_add 4 = .ok (.ifCond .lt 32, 3) := by decide +kernel
theorem dX9_add_7 : decode cX9_add 7 = .ok (.aload_n 0, 1) := by decide +kernel
theorem dX9_add_8 : decode cX9_add 8 = .ok (.getfield 19, 3) := by decide +kernel
theorem dX9_add_11 : decode cX9_add 11 = .ok (.bipush 60, 2) := by decide +kernel
theorem dX9_add_13 : decode cX9_add 13 = .ok (.if_icmp .ge 23, 3) := by decide +kernel
theorem dX9_add_16 : decode cX9_add 16 = .ok (.aload_n 0, 1) := by decide +kernel
theorem dX9_add_17 : decode cX9_add 17 = .ok (.getfield 9, 3) := by decide +kernel
theorem dX9_add_20 : decode cX9_add 20 = .ok (.aload_n 0, 1) := by decide +kernel
theorem dX9_add_21 : decode cX9_add 21 = .ok (.getfield 19, 3) := by decide +kernel
theorem dX9_add_24 : decode cX9_add 24 = .ok (.iload_n 1, 1) := by decide +kernel
theorem dX9_add_25 : decode cX9_add 25 = .ok (.castore, 1) := by decide +kernel
theorem dX9_add_26 : decode cX9_add 26 = .ok (.aload_n 0, 1) := by decide +kernel
theorem dX9_add_27 : decode cX9_add 27 = .ok (.dup, 1) := by decide +kernel
theorem dX9_add_28 : decode cX9_add 28 = .ok (.getfield 19, 3) := by decide +kernel
theorem dX9_add_31 : decode cX9_add 31 = .ok (.iconst 1, 1) := by decide +kernel
theorem dX9_add_32 : decode cX9_add 32 = .ok (.iadd, 1) := by decide +kernel
theorem dX9_add_33 : decode cX9_add 33 = .ok (.putfield 19, 3) := by decide +kernel
theorem dX9_add_36 : decode cX9_add 36 = .ok (.return_, 1) := by decide +kernel
theorem dX9_empty_0 : decode cX9_empty 0 = .ok (.aload_n 0, 1) := by decide +kernel
theorem dX9_empty_1 : decode cX9_empty 1 = .ok (.iconst 0, 1) := by decide +kernel
theorem dX9_empty_2 : decode cX9_empty 2 = .ok (.putfield 19, 3) := by decide +kernel
theorem dX9_empty_5 : decode cX9_empty 5 = .ok (.return_, 1) := by decide +kernel
theorem dX9_rewind_0 : decode cX9_rewind 0 = .ok (.aload_n 0, 1) := by decide +kernel
theorem dX9_rewind_1 : decode cX9_rewind 1 = .ok (.iconst 0, 1) := by decide +kernel
theorem dX9_rewind_2 : decode cX9_rewind 2 = .ok (.putfield 23, 3) := by decide +kernel
theorem dX9_rewind_5 : decode cX9_rewind 5 = .ok (.return_, 1) := by decide +kernel
theorem dX9_size_0 : decode cX9_size 0 = .ok (.aload_n 0, 1) := by decide +kernel
theorem dX9_size_1 : decode cX9_size 1 = .ok (.getfield 19, 3) := by decide +kernel
theorem dX9_size_4 : decode cX9_size 4 = .ok (.ireturn, 1) := by decide +kernel
theorem dX9_position_0 : decode cX9_position 0 = .ok (.aload_n 0, 1) := by decide +kernel
theorem dX9_position_1 : decode cX9_position 1 = .ok (.getfield 23, 3) := by decide +kernel
theorem dX9_position_4 : decode cX9_position 4 = .ok (.ireturn, 1) := by decide +kernel
theorem dX9_keyword_0 : decode cX9_keyword 0 = .ok (.aload_n 0, 1) := by decide +kernel
theorem dX9_keyword_1 : decode cX9_keyword 1 = .ok (.getfield 26, 3) := by decide +kernel
theorem dX9_keyword_4 : decode cX9_keyword 4 = .ok (.ireturn, 1) := by decide +kernel
theorem dX9_digit_0 : decode cX9_digit 0 = .ok (.iload_n 1, 1) := by decide +kernel
theorem dX9_digit_1 : decode cX9_digit 1 = .ok (.ifCond .lt 12, 3) := by decide +kernel
theorem dX9_digit_4 : decode cX9_digit 4 = .ok (.iload_n 1, 1) := by decide +kernel
theorem dX9_digit_5 : decode cX9_digit 5 = .ok (.aload_n 0, 1) := by decide +kernel
theorem dX9_digit_6 : decode cX9_digit 6 = .ok (.getfield 15, 3) := by decide +kernel
theorem dX9_digit_9 : decode cX9_digit 9 = .ok (.arraylength, 1) := by decide +kernel
theorem dX9_digit_10 : decode cX9_digit 10 = .ok (.if_icmp .lt 7, 3) := by decide +kernel
theorem dX9_digit_13 : decode cX9_digit 13 = .ok (.iconst (-1), 1) := by decide +kernel
theorem dX9_digit_14 : decode cX9_digit 14 = .ok (.goto 9, 3) := by decide +kernel
theorem dX9_digit_17 : decode cX9_digit 17 = .ok (.aload_n 0, 1) := by decide +kernel
theorem dX9_digit_18 : decode cX9_digit 18 = .ok (.getfield 15, 3) := by decide +kernel
theorem dX9_digit_21 : decode cX9_digit 21 = .ok (.iload_n 1, 1) := by decide +kernel
theorem dX9_digit_22 : decode cX9_digit 22 = .ok (.iaload, 1) := by decide +kernel
theorem dX9_digit_23 : decode cX9_digit 23 = .ok (.ireturn, 1) := by decide +kernel
theorem dX9_start_0 : decode cX9_start 0 = .ok (.aload_n 0, 1) := by decide +kernel
theorem dX9_start_1 : decode cX9_start 1 = .ok (.getfield 29, 3) := by decide +kernel
theorem dX9_start_4 : decode cX9_start 4 = .ok (.ireturn, 1) := by decide +kernel
theorem dX9_end_0 : decode cX9_end 0 = .ok (.aload_n 0, 1) := by decide +kernel
theorem dX9_end_1 : decode cX9_end 1 = .ok (.getfield 32, 3) := by decide +kernel
theorem dX9_end_4 : decode cX9_end 4 = .ok (.ireturn, 1) := by decide +kernel
theorem dX9_character_0 : decode cX9_character 0 = .ok (.iload_n 1, 1) := by decide +kernel
theorem dX9_character_1 : decode cX9_character 1 = .ok (.ifCond .lt 17, 3) := by decide +kernel
theorem dX9_character_4 : decode cX9_character 4 = .ok (.iload_n 1, 1) := by decide +kernel
theorem dX9_character_5 : decode cX9_character 5 = .ok (.aload_n 0, 1) := by decide +kernel
theorem dX9_character_6 : decode cX9_character 6 = .ok (.getfield 19, 3) := by decide +kernel
theorem dX9_character_9 : decode cX9_character 9 = .ok (.if_icmp .ge 9, 3) := by decide +kernel
theorem dX9_character_12 : decode cX9_character 12 = .ok (.iload_n 1, 1) := by decide +kernel
theorem dX9_character_13 : decode cX9_character 13 = .ok (.bipush 60, 2) := by decide +kernel
theorem dX9_character_15 : decode cX9_character 15 = .ok (.if_icmp .lt 7, 3) := by decide +kernel
theorem dX9_character_18 : decode cX9_character 18 = .ok (.iconst 0, 1) := by decide +kernel
theorem dX9_character_19 : decode cX9_character 19 = .ok (.goto 9, 3) := by decide +kernel
theorem dX9_character_22 : decode cX9_character 22 = .ok (.aload_n 0, 1) := by decide +kernel
theorem dX9_character_23 : decode cX9_character 23 = .ok (.getfield 9, 3) := by decide +kernel
theorem dX9_character_26 : decode cX9_character 26 = .ok (.iload_n 1, 1) := by decide +kernel
theorem dX9_character_27 : decode cX9_character 27 = .ok (.caload, 1) := by decide +kernel
theorem dX9_character_28 : decode cX9_character 28 = .ok (.ireturn, 1) := by decide +kernel
theorem dX9_wordBetween_0 : decode cX9_wordBetween 0 = .ok (.iload_n 2, 1) := by decide +kernel
theorem dX9_wordBetween_1 : decode cX9_wordBetween 1 = .ok (.iload_n 1, 1) := by decide +kernel
theorem dX9_wordBetween_2 : decode cX9_wordBetween 2 = .ok (.isub, 1) := by decide +kernel
theorem dX9_wordBetween_3 : decode cX9_wordBetween 3 = .ok (.istore 4, 2) := by decide +kernel
theorem dX9_wordBetween_5 : decode cX9_wordBetween 5 = .ok (.iload 4, 2) := by decide +kernel
theorem dX9_wordBetween_7 : decode cX9_wordBetween 7 = .ok (.ifCond .lt 9, 3) := by decide +kernel
theorem dX9_wordBetween_10 : decode cX9_wordBetween 10 = .ok (.iload 4, 2) := by decide +kernel
theorem dX9_wordBetween_12 : decode cX9_wordBetween 12 = .ok (.iload_n 3, 1) := by decide +kernel
theorem dX9_wordBetween_13 : decode cX9_wordBetween 13 = .ok (.if_icmp .le 5, 3) := by decide +kernel
theorem dX9_wordBetween_16 : decode cX9_wordBetween 16 = .ok (.aconst_null, 1) := by decide +kernel
theorem dX9_wordBetween_17 : decode cX9_wordBetween 17 = .ok (.areturn, 1) := by decide +kernel
theorem dX9_wordBetween_18 : decode cX9_wordBetween 18 = .ok (.iload 4, 2) := by decide +kernel
theorem dX9_wordBetween_20 : decode cX9_wordBetween 20 = .ok (.newarray .int, 2) := by decide +kernel
theorem dX9_wordBetween_22 : decode cX9_wordBetween 22 = .ok (.astore 5, 2) := by decide +kernel
theorem dX9_wordBetween_24 : decode cX9_wordBetween 24 = .ok (.iconst 0, 1) := by decide +kernel
theorem dX9_wordBetween_25 : decode cX9_wordBetween 25 = .ok (.istore 6, 2) := by decide +kernel
theorem dX9_wordBetween_27 : decode cX9_wordBetween 27 = .ok (.iload 6, 2) := by decide +kernel
theorem dX9_wordBetween_29 : decode cX9_wordBetween 29 = .ok (.iload 4, 2) := by decide +kernel
theorem dX9_wordBetween_31 : decode cX9_wordBetween 31 = .ok (.if_icmp .ge 39, 3) := by decide +kernel
theorem dX9_wordBetween_34 : decode cX9_wordBetween 34 = .ok (.aload_n 0, 1) := by decide +kernel
theorem dX9_wordBetween_35 : decode cX9_wordBetween 35 = .ok (.iload_n 1, 1) := by decide +kernel
theorem dX9_wordBetween_36 : decode cX9_wordBetween 36 = .ok (.iload 6, 2) := by decide +kernel
theorem dX9_wordBetween_38 : decode cX9_wordBetween 38 = .ok (.iadd, 1) := by decide +kernel
theorem dX9_wordBetween_39 : decode cX9_wordBetween 39 = .ok (.invokevirtual 35, 3) := by decide +kernel
theorem dX9_wordBetween_42 : decode cX9_wordBetween 42 = .ok (.istore 7, 2) := by decide +kernel
theorem dX9_wordBetween_44 : decode cX9_wordBetween 44 = .ok (.iload 7, 2) := by decide +kernel
theorem dX9_wordBetween_46 : decode cX9_wordBetween 46 = .ok (.invokestatic 39, 3) := by decide +kernel
theorem dX9_wordBetween_49 : decode cX9_wordBetween 49 = .ok (.ifCond .ne 5, 3) := by decide +kernel
theorem dX9_wordBetween_52 : decode cX9_wordBetween 52 = .ok (.aconst_null, 1) := by decide +kernel
theorem dX9_wordBetween_53 : decode cX9_wordBetween 53 = .ok (.areturn, 1) := by decide +kernel
theorem dX9_wordBetween_54 : decode cX9_wordBetween 54 = .ok (.aload 5, 2) := by decide +kernel
theorem dX9_wordBetween_56 : decode cX9_wordBetween 56 = .ok (.iload 6, 2) := by decide +kernel
theorem dX9_wordBetween_58 : decode cX9_wordBetween 58 = .ok (.iload 7, 2) := by decide +kernel
theorem dX9_wordBetween_60 : decode cX9_wordBetween 60 = .ok (.bipush 97, 2) := by decide +kernel
theorem dX9_wordBetween_62 : decode cX9_wordBetween 62 = .ok (.isub, 1) := by decide +kernel
theorem dX9_wordBetween_63 : decode cX9_wordBetween 63 = .ok (.iastore, 1) := by decide +kernel
theorem dX9_wordBetween_64 : decode cX9_wordBetween 64 = .ok (.iinc 6 1, 3) := by decide +kernel
theorem dX9_wordBetween_67 : decode cX9_wordBetween 67 = .ok (.goto (-40), 3) := by decide +kernel
theorem dX9_wordBetween_70 : decode cX9_wordBetween 70 = .ok (.new 43, 3) := by decide +kernel
theorem dX9_wordBetween_73 : decode cX9_wordBetween 73 = .ok (.dup, 1) := by decide +kernel
theorem dX9_wordBetween_74 : decode cX9_wordBetween 74 = .ok (.aload 5, 2) := by decide +kernel
theorem dX9_wordBetween_76 : decode cX9_wordBetween 76 = .ok (.invokespecial 45, 3) := by decide +kernel
theorem dX9_wordBetween_79 : decode cX9_wordBetween 79 = .ok (.areturn, 1) := by decide +kernel
theorem dX9_readWholePattern_0 : decode cX9_readWholePattern 0 = .ok (.aload_n 0, 1) := by decide +kernel
theorem dX9_readWholePattern_1 : decode cX9_readWholePattern 1 = .ok (.invokevirtual 48, 3) := by decide +kernel
theorem dX9_readWholePattern_4 : decode cX9_readWholePattern 4 = .ok (.aload_n 0, 1) := by decide +kernel
theorem dX9_readWholePattern_5 : decode cX9_readWholePattern 5 = .ok (.invokevirtual 51, 3) := by decide +kernel
theorem dX9_readWholePattern_8 : decode cX9_readWholePattern 8 = .ok (.ifCond .eq 18, 3) := by decide +kernel
theorem dX9_readWholePattern_11 : decode cX9_readWholePattern 11 = .ok (.aload_n 0, 1) := by decide +kernel
theorem dX9_readWholePattern_12 : decode cX9_readWholePattern 12 = .ok (.getfield 23, 3) := by decide +kernel
theorem dX9_readWholePattern_15 : decode cX9_readWholePattern 15 = .ok (.aload_n 0, 1) := by decide +kernel
theorem dX9_readWholePattern_16 : decode cX9_readWholePattern 16 = .ok (.getfield 19, 3) := by decide +kernel
theorem dX9_readWholePattern_19 : decode cX9_readWholePattern 19 = .ok (.if_icmp .ne 7, 3) := by decide +kernel
theorem dX9_readWholePattern_22 : decode cX9_readWholePattern 22 = .ok (.iconst 1, 1) := by decide +kernel
theorem dX9_readWholePattern_23 : decode cX9_readWholePattern 23 = .ok (.goto 4, 3) := by decide +kernel
theorem dX9_readWholePattern_26 : decode cX9_readWholePattern 26 = .ok (.iconst 0, 1) := by decide +kernel
theorem dX9_readWholePattern_27 : decode cX9_readWholePattern 27 = .ok (.ireturn, 1) := by decide +kernel
theorem dX9_readProgram_0 : decode cX9_readProgram 0 = .ok (.aload_n 0, 1) := by decide +kernel
theorem dX9_readProgram_1 : decode cX9_readProgram 1 = .ok (.invokevirtual 48, 3) := by decide +kernel
theorem dX9_readProgram_4 : decode cX9_readProgram 4 = .ok (.iconst 1, 1) := by decide +kernel
theorem dX9_readProgram_5 : decode cX9_readProgram 5 = .ok (.istore_n 1, 1) := by decide +kernel
theorem dX9_readProgram_6 : decode cX9_readProgram 6 = .ok (.iload_n 1, 1) := by decide +kernel
theorem dX9_readProgram_7 : decode cX9_readProgram 7 = .ok (.bipush 60, 2) := by decide +kernel
theorem dX9_readProgram_9 : decode cX9_readProgram 9 = .ok (.if_icmp .gt 44, 3) := by decide +kernel
theorem dX9_readProgram_12 : decode cX9_readProgram 12 = .ok (.aload_n 0, 1) := by decide +kernel
theorem dX9_readProgram_13 : decode cX9_readProgram 13 = .ok (.invokevirtual 55, 3) := by decide +kernel
theorem dX9_readProgram_16 : decode cX9_readProgram 16 = .ok (.ifCond .ne 6, 3) := by decide +kernel
theorem dX9_readProgram_19 : decode cX9_readProgram 19 = .ok (.bipush (-4), 2) := by decide +kernel
theorem dX9_readProgram_21 : decode cX9_readProgram 21 = .ok (.ireturn, 1) := by decide +kernel
theorem dX9_readProgram_22 : decode cX9_readProgram 22 = .ok (.aload_n 0, 1) := by decide +kernel
theorem dX9_readProgram_23 : decode cX9_readProgram 23 = .ok (.getfield 23, 3) := by decide +kernel
theorem dX9_readProgram_26 : decode cX9_readProgram 26 = .ok (.aload_n 0, 1) := by decide +kernel
theorem dX9_readProgram_27 : decode cX9_readProgram 27 = .ok (.getfield 19, 3) := by decide +kernel
theorem dX9_readProgram_30 : decode cX9_readProgram 30 = .ok (.if_icmp .ne 5, 3) := by decide +kernel
theorem dX9_readProgram_33 : decode cX9_readProgram 33 = .ok (.iload_n 1, 1) := by decide +kernel
theorem dX9_readProgram_34 : decode cX9_readProgram 34 = .ok (.ireturn, 1) := by decide +kernel
theorem dX9_readProgram_35 : decode cX9_readProgram 35 = .ok (.aload_n 0, 1) := by decide +kernel
theorem dX9_readProgram_36 : decode cX9_readProgram 36 = .ok (.bipush 59, 2) := by decide +kernel
theorem dX9_readProgram_38 : decode cX9_readProgram 38 = .ok (.invokevirtual 58, 3) := by decide +kernel
theorem dX9_readProgram_41 : decode cX9_readProgram 41 = .ok (.ifCond .ne 6, 3) := by decide +kernel
theorem dX9_readProgram_44 : decode cX9_readProgram 44 = .ok (.bipush (-4), 2) := by decide +kernel
theorem dX9_readProgram_46 : decode cX9_readProgram 46 = .ok (.ireturn, 1) := by decide +kernel
theorem dX9_readProgram_47 : decode cX9_readProgram 47 = .ok (.iinc 1 1, 3) := by decide +kernel
theorem dX9_readProgram_50 : decode cX9_readProgram 50 = .ok (.goto (-44), 3) := by decide +kernel
theorem dX9_readProgram_53 : decode cX9_readProgram 53 = .ok (.bipush (-4), 2) := by decide +kernel
theorem dX9_readProgram_55 : decode cX9_readProgram 55 = .ok (.ireturn, 1) := by decide +kernel
theorem dX9_readCommand_0 : decode cX9_readCommand 0 = .ok (.aload_n 0, 1) := by decide +kernel
theorem dX9_readCommand_1 : decode cX9_readCommand 1 = .ok (.aload_n 0, 1) := by decide +kernel
theorem dX9_readCommand_2 : decode cX9_readCommand 2 = .ok (.invokevirtual 61, 3) := by decide +kernel
theorem dX9_readCommand_5 : decode cX9_readCommand 5 = .ok (.putfield 26, 3) := by decide +kernel
theorem dX9_readCommand_8 : decode cX9_readCommand 8 = .ok (.aload_n 0, 1) := by decide +kernel
theorem dX9_readCommand_9 : decode cX9_readCommand 9 = .ok (.getfield 26, 3) := by decide +kernel
theorem dX9_readCommand_12 : decode cX9_readCommand 12 = .ok (.tableswitch 164 0 6 #[44, 74, 74, 122, 158, 153, 158], 44) := by decide +kernel
theorem dX9_readCommand_56 : decode cX9_readCommand 56 = .ok (.aload_n 0, 1) := by decide +kernel
theorem dX9_readCommand_57 : decode cX9_readCommand 57 = .ok (.iconst 0, 1) := by decide +kernel
theorem dX9_readCommand_58 : decode cX9_readCommand 58 = .ok (.invokevirtual 65, 3) := by decide +kernel
theorem dX9_readCommand_61 : decode cX9_readCommand 61 = .ok (.ifCond .eq 23, 3) := by decide +kernel
theorem dX9_readCommand_64 : decode cX9_readCommand 64 = .ok (.aload_n 0, 1) := by decide +kernel
theorem dX9_readCommand_65 : decode cX9_readCommand 65 = .ok (.bipush 61, 2) := by decide +kernel
theorem dX9_readCommand_67 : decode cX9_readCommand 67 = .ok (.invokevirtual 58, 3) := by decide +kernel
theorem dX9_readCommand_70 : decode cX9_readCommand 70 = .ok (.ifCond .eq 14, 3) := by decide +kernel
theorem dX9_readCommand_73 : decode cX9_readCommand 73 = .ok (.aload_n 0, 1) := by decide +kernel
theorem dX9_readCommand_74 : decode cX9_readCommand 74 = .ok (.invokevirtual 51, 3) := by decide +kernel
theorem dX9_readCommand_77 : decode cX9_readCommand 77 = .ok (.ifCond .eq 7, 3) := by decide +kernel
theorem dX9_readCommand_80 : decode cX9_readCommand 80 = .ok (.iconst 1, 1) := by decide +kernel
theorem dX9_readCommand_81 : decode cX9_readCommand 81 = .ok (.goto 4, 3) := by decide +kernel
theorem dX9_readCommand_84 : decode cX9_readCommand 84 = .ok (.iconst 0, 1) := by decide +kernel
theorem dX9_readCommand_85 : decode cX9_readCommand 85 = .ok (.ireturn, 1) := by decide +kernel
theorem dX9_readCommand_86 : decode cX9_readCommand 86 = .ok (.aload_n 0, 1) := by decide +kernel
theorem dX9_readCommand_87 : decode cX9_readCommand 87 = .ok (.iconst 0, 1) := by decide +kernel
theorem dX9_readCommand_88 : decode cX9_readCommand 88 = .ok (.invokevirtual 65, 3) := by decide +kernel
theorem dX9_readCommand_91 : decode cX9_readCommand 91 = .ok (.ifCond .eq 41, 3) := by decide +kernel
theorem dX9_readCommand_94 : decode cX9_readCommand 94 = .ok (.aload_n 0, 1) := by decide +kernel
theorem dX9_readCommand_95 : decode cX9_readCommand 95 = .ok (.bipush 61, 2) := by decide +kernel
theorem dX9_readCommand_97 : decode cX9_readCommand 97 = .ok (.invokevirtual 58, 3) := by decide +kernel
theorem dX9_readCommand_100 : decode cX9_readCommand 100 = .ok (.ifCond .eq 32, 3) := by decide +kernel
theorem dX9_readCommand_103 : decode cX9_readCommand 103 = .ok (.aload_n 0, 1) := by decide +kernel
theorem dX9_readCommand_104 : decode cX9_readCommand 104 = .ok (.iconst 1, 1) := by decide +kernel
theorem dX9_readCommand_105 : decode cX9_readCommand 105 = .ok (.invokevirtual 65, 3) := by decide +kernel
theorem dX9_readCommand_108 : decode cX9_readCommand 108 = .ok (.ifCond .eq 24, 3) := by decide +kernel
theorem dX9_readCommand_111 : decode cX9_readCommand 111 = .ok (.aload_n 0, 1) := by decide +kernel
theorem dX9_readCommand_112 : decode cX9_readCommand 112 = .ok (.bipush 44, 2) := by decide +kernel
theorem dX9_readCommand_114 : decode cX9_readCommand 114 = .ok (.invokevirtual 58, 3) := by decide +kernel
theorem dX9_readCommand_117 : decode cX9_readCommand 117 = .ok (.ifCond .eq 15, 3) := by decide +kernel
theorem dX9_readCommand_120 : decode cX9_readCommand 120 = .ok (.aload_n 0, 1) := by decide +kernel
theorem dX9_readCommand_121 : decode cX9_readCommand 121 = .ok (.iconst 2, 1) := by decide +kernel
theorem dX9_readCommand_122 : decode cX9_readCommand 122 = .ok (.invokevirtual 65, 3) := by decide +kernel
theorem dX9_readCommand_125 : decode cX9_readCommand 125 = .ok (.ifCond .eq 7, 3) := by decide +kernel
theorem dX9_readCommand_128 : decode cX9_readCommand 128 = .ok (.iconst 1, 1) := by decide +kernel
theorem dX9_readCommand_129 : decode cX9_readCommand 129 = .ok (.goto 4, 3) := by decide +kernel
theorem dX9_readCommand_132 : decode cX9_readCommand 132 = .ok (.iconst 0, 1) := by decide +kernel
theorem dX9_readCommand_133 : decode cX9_readCommand 133 = .ok (.ireturn, 1) := by decide +kernel
theorem dX9_readCommand_134 : decode cX9_readCommand 134 = .ok (.aload_n 0, 1) := by decide +kernel
theorem dX9_readCommand_135 : decode cX9_readCommand 135 = .ok (.iconst 0, 1) := by decide +kernel
theorem dX9_readCommand_136 : decode cX9_readCommand 136 = .ok (.invokevirtual 65, 3) := by decide +kernel
theorem dX9_readCommand_139 : decode cX9_readCommand 139 = .ok (.ifCond .eq 24, 3) := by decide +kernel
theorem dX9_readCommand_142 : decode cX9_readCommand 142 = .ok (.aload_n 0, 1) := by decide +kernel
theorem dX9_readCommand_143 : decode cX9_readCommand 143 = .ok (.bipush 61, 2) := by decide +kernel
theorem dX9_readCommand_145 : decode cX9_readCommand 145 = .ok (.invokevirtual 58, 3) := by decide +kernel
theorem dX9_readCommand_148 : decode cX9_readCommand 148 = .ok (.ifCond .eq 15, 3) := by decide +kernel
theorem dX9_readCommand_151 : decode cX9_readCommand 151 = .ok (.aload_n 0, 1) := by decide +kernel
theorem dX9_readCommand_152 : decode cX9_readCommand 152 = .ok (.iconst 1, 1) := by decide +kernel
theorem dX9_readCommand_153 : decode cX9_readCommand 153 = .ok (.invokevirtual 65, 3) := by decide +kernel
theorem dX9_readCommand_156 : decode cX9_readCommand 156 = .ok (.ifCond .eq 7, 3) := by decide +kernel
theorem dX9_readCommand_159 : decode cX9_readCommand 159 = .ok (.iconst 1, 1) := by decide +kernel
theorem dX9_readCommand_160 : decode cX9_readCommand 160 = .ok (.goto 4, 3) := by decide +kernel
theorem dX9_readCommand_163 : decode cX9_readCommand 163 = .ok (.iconst 0, 1) := by decide +kernel
theorem dX9_readCommand_164 : decode cX9_readCommand 164 = .ok (.ireturn, 1) := by decide +kernel
theorem dX9_readCommand_165 : decode cX9_readCommand 165 = .ok (.aload_n 0, 1) := by decide +kernel
theorem dX9_readCommand_166 : decode cX9_readCommand 166 = .ok (.invokevirtual 69, 3) := by decide +kernel
theorem dX9_readCommand_169 : decode cX9_readCommand 169 = .ok (.ireturn, 1) := by decide +kernel
theorem dX9_readCommand_170 : decode cX9_readCommand 170 = .ok (.aload_n 0, 1) := by decide +kernel
theorem dX9_readCommand_171 : decode cX9_readCommand 171 = .ok (.iconst 0, 1) := by decide +kernel
theorem dX9_readCommand_172 : decode cX9_readCommand 172 = .ok (.invokevirtual 65, 3) := by decide +kernel
theorem dX9_readCommand_175 : decode cX9_readCommand 175 = .ok (.ireturn, 1) := by decide +kernel
theorem dX9_readCommand_176 : decode cX9_readCommand 176 = .ok (.iconst 0, 1) := by decide +kernel
theorem dX9_readCommand_177 : decode cX9_readCommand 177 = .ok (.ireturn, 1) := by decide +kernel
theorem dX9_readSign_0 : decode cX9_readSign 0 = .ok (.aload_n 0, 1) := by decide +kernel
theorem dX9_readSign_1 : decode cX9_readSign 1 = .ok (.aload_n 0, 1) := by decide +kernel
theorem dX9_readSign_2 : decode cX9_readSign 2 = .ok (.getfield 23, 3) := by decide +kernel
theorem dX9_readSign_5 : decode cX9_readSign 5 = .ok (.invokevirtual 35, 3) := by decide +kernel
theorem dX9_readSign_8 : decode cX9_readSign 8 = .ok (.iload_n 1, 1) := by decide +kernel
theorem dX9_readSign_9 : decode cX9_readSign 9 = .ok (.if_icmp .eq 5, 3) := by decide +kernel
theorem dX9_readSign_12 : decode cX9_readSign 12 = .ok (.iconst 0, 1) := by decide +kernel
theorem dX9_readSign_13 : decode cX9_readSign 13 = .ok (.ireturn, 1) := by decide +kernel
theorem dX9_readSign_14 : decode cX9_readSign 14 = .ok (.aload_n 0, 1) := by decide +kernel
theorem dX9_readSign_15 : decode cX9_readSign 15 = .ok (.dup, 1) := by decide +kernel
theorem dX9_readSign_16 : decode cX9_readSign 16 = .ok (.getfield 23, 3) := by decide +kernel
theorem dX9_readSign_19 : decode cX9_readSign 19 = .ok (.iconst 1, 1) := by decide +kernel
theorem dX9_readSign_20 : decode cX9_readSign 20 = .ok (.iadd, 1) := by decide +kernel
theorem dX9_readSign_21 : decode cX9_readSign 21 = .ok (.putfield 23, 3) := by decide +kernel
theorem dX9_readSign_24 : decode cX9_readSign 24 = .ok (.iconst 1, 1) := by decide +kernel
theorem dX9_readSign_25 : decode cX9_readSign 25 = .ok (.ireturn, 1) := by decide +kernel
theorem dX9_readDigit_0 : decode cX9_readDigit 0 = .ok (.aload_n 0, 1) := by decide +kernel
theorem dX9_readDigit_1 : decode cX9_readDigit 1 = .ok (.aload_n 0, 1) := by decide +kernel
theorem dX9_readDigit_2 : decode cX9_readDigit 2 = .ok (.getfield 23, 3) := by decide +kernel
theorem dX9_readDigit_5 : decode cX9_readDigit 5 = .ok (.invokevirtual 35, 3) := by decide +kernel
theorem dX9_readDigit_8 : decode cX9_readDigit 8 = .ok (.istore_n 2, 1) := by decide +kernel
theorem dX9_readDigit_9 : decode cX9_readDigit 9 = .ok (.iload_n 2, 1) := by decide +kernel
theorem dX9_readDigit_10 : decode cX9_readDigit 10 = .ok (.bipush 48, 2) := by decide +kernel
theorem dX9_readDigit_12 : decode cX9_readDigit 12 = .ok (.if_icmp .lt 22, 3) := by decide +kernel
theorem dX9_readDigit_15 : decode cX9_readDigit 15 = .ok (.iload_n 2, 1) := by decide +kernel
theorem dX9_readDigit_16 : decode cX9_readDigit 16 = .ok (.bipush 57, 2) := by decide +kernel
theorem dX9_readDigit_18 : decode cX9_readDigit 18 = .ok (.if_icmp .gt 16, 3) := by decide +kernel
theorem dX9_readDigit_21 : decode cX9_readDigit 21 = .ok (.iload_n 1, 1) := by decide +kernel
theorem dX9_readDigit_22 : decode cX9_readDigit 22 = .ok (.ifCond .lt 12, 3) := by decide +kernel
theorem dX9_readDigit_25 : decode cX9_readDigit 25 = .ok (.iload_n 1, 1) := by decide +kernel
theorem dX9_readDigit_26 : decode cX9_readDigit 26 = .ok (.aload_n 0, 1) := by decide +kernel
theorem dX9_readDigit_27 : decode cX9_readDigit 27 = .ok (.getfield 15, 3) := by decide +kernel
theorem dX9_readDigit_30 : decode cX9_readDigit 30 = .ok (.arraylength, 1) := by decide +kernel
theorem dX9_readDigit_31 : decode cX9_readDigit 31 = .ok (.if_icmp .lt 5, 3) := by decide +kernel
theorem dX9_readDigit_34 : decode cX9_readDigit 34 = .ok (.iconst 0, 1) := by decide +kernel
theorem dX9_readDigit_35 : decode cX9_readDigit 35 = .ok (.ireturn, 1) := by decide +kernel
theorem dX9_readDigit_36 : decode cX9_readDigit 36 = .ok (.aload_n 0, 1) := by decide +kernel
theorem dX9_readDigit_37 : decode cX9_readDigit 37 = .ok (.getfield 15, 3) := by decide +kernel
theorem dX9_readDigit_40 : decode cX9_readDigit 40 = .ok (.iload_n 1, 1) := by decide +kernel
theorem dX9_readDigit_41 : decode cX9_readDigit 41 = .ok (.iload_n 2, 1) := by decide +kernel
theorem dX9_readDigit_42 : decode cX9_readDigit 42 = .ok (.bipush 48, 2) := by decide +kernel
theorem dX9_readDigit_44 : decode cX9_readDigit 44 = .ok (.isub, 1) := by decide +kernel
theorem dX9_readDigit_45 : decode cX9_readDigit 45 = .ok (.iastore, 1) := by decide +kernel
theorem dX9_readDigit_46 : decode cX9_readDigit 46 = .ok (.aload_n 0, 1) := by decide +kernel
theorem dX9_readDigit_47 : decode cX9_readDigit 47 = .ok (.dup, 1) := by decide +kernel
theorem dX9_readDigit_48 : decode cX9_readDigit 48 = .ok (.getfield 23, 3) := by decide +kernel
theorem dX9_readDigit_51 : decode cX9_readDigit 51 = .ok (.iconst 1, 1) := by decide +kernel
theorem dX9_readDigit_52 : decode cX9_readDigit 52 = .ok (.iadd, 1) := by decide +kernel
theorem dX9_readDigit_53 : decode cX9_readDigit 53 = .ok (.putfield 23, 3) := by decide +kernel
theorem dX9_readDigit_56 : decode cX9_readDigit 56 = .ok (.iconst 1, 1) := by decide +kernel
theorem dX9_readDigit_57 : decode cX9_readDigit 57 = .ok (.ireturn, 1) := by decide +kernel
theorem dX9_readLetters_0 : decode cX9_readLetters 0 = .ok (.aload_n 0, 1) := by decide +kernel
theorem dX9_readLetters_1 : decode cX9_readLetters 1 = .ok (.aload_n 0, 1) := by decide +kernel
theorem dX9_readLetters_2 : decode cX9_readLetters 2 = .ok (.getfield 23, 3) := by decide +kernel
theorem dX9_readLetters_5 : decode cX9_readLetters 5 = .ok (.putfield 29, 3) := by decide +kernel
theorem dX9_readLetters_8 : decode cX9_readLetters 8 = .ok (.aload_n 0, 1) := by decide +kernel
theorem dX9_readLetters_9 : decode cX9_readLetters 9 = .ok (.getfield 23, 3) := by decide +kernel
theorem dX9_readLetters_12 : decode cX9_readLetters 12 = .ok (.aload_n 0, 1) := by decide +kernel
theorem dX9_readLetters_13 : decode cX9_readLetters 13 = .ok (.getfield 19, 3) := by decide +kernel
theorem dX9_readLetters_16 : decode cX9_readLetters 16 = .ok (.if_icmp .ge 30, 3) := by decide +kernel
theorem dX9_readLetters_19 : decode cX9_readLetters 19 = .ok (.aload_n 0, 1) := by decide +kernel
theorem dX9_readLetters_20 : decode cX9_readLetters 20 = .ok (.aload_n 0, 1) := by decide +kernel
theorem dX9_readLetters_21 : decode cX9_readLetters 21 = .ok (.getfield 23, 3) := by decide +kernel
theorem dX9_readLetters_24 : decode cX9_readLetters 24 = .ok (.invokevirtual 35, 3) := by decide +kernel
theorem dX9_readLetters_27 : decode cX9_readLetters 27 = .ok (.invokestatic 39, 3) := by decide +kernel
theorem dX9_readLetters_30 : decode cX9_readLetters 30 = .ok (.ifCond .eq 16, 3) := by decide +kernel
theorem dX9_readLetters_33 : decode cX9_readLetters 33 = .ok (.aload_n 0, 1) := by decide +kernel
theorem dX9_readLetters_34 : decode cX9_readLetters 34 = .ok (.dup, 1) := by decide +kernel
theorem dX9_readLetters_35 : decode cX9_readLetters 35 = .ok (.getfield 23, 3) := by decide +kernel
theorem dX9_readLetters_38 : decode cX9_readLetters 38 = .ok (.iconst 1, 1) := by decide +kernel
theorem dX9_readLetters_39 : decode cX9_readLetters 39 = .ok (.iadd, 1) := by decide +kernel
theorem dX9_readLetters_40 : decode cX9_readLetters 40 = .ok (.putfield 23, 3) := by decide +kernel
theorem dX9_readLetters_43 : decode cX9_readLetters 43 = .ok (.goto (-35), 3) := by decide +kernel
theorem dX9_readLetters_46 : decode cX9_readLetters 46 = .ok (.aload_n 0, 1) := by decide +kernel
theorem dX9_readLetters_47 : decode cX9_readLetters 47 = .ok (.aload_n 0, 1) := by decide +kernel
theorem dX9_readLetters_48 : decode cX9_readLetters 48 = .ok (.getfield 23, 3) := by decide +kernel
theorem dX9_readLetters_51 : decode cX9_readLetters 51 = .ok (.putfield 32, 3) := by decide +kernel
theorem dX9_readLetters_54 : decode cX9_readLetters 54 = .ok (.aload_n 0, 1) := by decide +kernel
theorem dX9_readLetters_55 : decode cX9_readLetters 55 = .ok (.getfield 32, 3) := by decide +kernel
theorem dX9_readLetters_58 : decode cX9_readLetters 58 = .ok (.aload_n 0, 1) := by decide +kernel
theorem dX9_readLetters_59 : decode cX9_readLetters 59 = .ok (.getfield 29, 3) := by decide +kernel
theorem dX9_readLetters_62 : decode cX9_readLetters 62 = .ok (.if_icmp .le 7, 3) := by decide +kernel
theorem dX9_readLetters_65 : decode cX9_readLetters 65 = .ok (.iconst 1, 1) := by decide +kernel
theorem dX9_readLetters_66 : decode cX9_readLetters 66 = .ok (.goto 4, 3) := by decide +kernel
theorem dX9_readLetters_69 : decode cX9_readLetters 69 = .ok (.iconst 0, 1) := by decide +kernel
theorem dX9_readLetters_70 : decode cX9_readLetters 70 = .ok (.ireturn, 1) := by decide +kernel
theorem dX9_readKeyword_0 : decode cX9_readKeyword 0 = .ok (.iconst 0, 1) := by decide +kernel
theorem dX9_readKeyword_1 : decode cX9_readKeyword 1 = .ok (.istore_n 1, 1) := by decide +kernel
theorem dX9_readKeyword_2 : decode cX9_readKeyword 2 = .ok (.iconst 0, 1) := by decide +kernel
theorem dX9_readKeyword_3 : decode cX9_readKeyword 3 = .ok (.istore_n 2, 1) := by decide +kernel
theorem dX9_readKeyword_4 : decode cX9_readKeyword 4 = .ok (.iload_n 2, 1) := by decide +kernel
theorem dX9_readKeyword_5 : decode cX9_readKeyword 5 = .ok (.bipush 7, 2) := by decide +kernel
theorem dX9_readKeyword_7 : decode cX9_readKeyword 7 = .ok (.if_icmp .ge 50, 3) := by decide +kernel
theorem dX9_readKeyword_10 : decode cX9_readKeyword 10 = .ok (.iload_n 2, 1) := by decide +kernel
theorem dX9_readKeyword_11 : decode cX9_readKeyword 11 = .ok (.invokestatic 72, 3) := by decide +kernel
theorem dX9_readKeyword_14 : decode cX9_readKeyword 14 = .ok (.astore_n 3, 1) := by decide +kernel
theorem dX9_readKeyword_15 : decode cX9_readKeyword 15 = .ok (.aload_n 0, 1) := by decide +kernel
theorem dX9_readKeyword_16 : decode cX9_readKeyword 16 = .ok (.aload_n 3, 1) := by decide +kernel
theorem dX9_readKeyword_17 : decode cX9_readKeyword 17 = .ok (.invokevirtual 76, 3) := by decide +kernel
theorem dX9_readKeyword_20 : decode cX9_readKeyword 20 = .ok (.istore 4, 2) := by decide +kernel
theorem dX9_readKeyword_22 : decode cX9_readKeyword 22 = .ok (.iload 4, 2) := by decide +kernel
theorem dX9_readKeyword_24 : decode cX9_readKeyword 24 = .ok (.aload_n 3, 1) := by decide +kernel
theorem dX9_readKeyword_25 : decode cX9_readKeyword 25 = .ok (.invokevirtual 80, 3) := by decide +kernel
theorem dX9_readKeyword_28 : decode cX9_readKeyword 28 = .ok (.if_icmp .ne 16, 3) := by decide +kernel
theorem dX9_readKeyword_31 : decode cX9_readKeyword 31 = .ok (.aload_n 0, 1) := by decide +kernel
theorem dX9_readKeyword_32 : decode cX9_readKeyword 32 = .ok (.dup, 1) := by decide +kernel
theorem dX9_readKeyword_33 : decode cX9_readKeyword 33 = .ok (.getfield 23, 3) := by decide +kernel
theorem dX9_readKeyword_36 : decode cX9_readKeyword 36 = .ok (.iload 4, 2) := by decide +kernel
theorem dX9_readKeyword_38 : decode cX9_readKeyword 38 = .ok (.iadd, 1) := by decide +kernel
theorem dX9_readKeyword_39 : decode cX9_readKeyword 39 = .ok (.putfield 23, 3) := by decide +kernel
theorem dX9_readKeyword_42 : decode cX9_readKeyword 42 = .ok (.iload_n 2, 1) := by decide +kernel
theorem dX9_readKeyword_43 : decode cX9_readKeyword 43 = .ok (.ireturn, 1) := by decide +kernel
theorem dX9_readKeyword_44 : decode cX9_readKeyword 44 = .ok (.iload_n 1, 1) := by decide +kernel
theorem dX9_readKeyword_45 : decode cX9_readKeyword 45 = .ok (.iload 4, 2) := by decide +kernel
theorem dX9_readKeyword_47 : decode cX9_readKeyword 47 = .ok (.invokestatic 85, 3) := by decide +kernel
theorem dX9_readKeyword_50 : decode cX9_readKeyword 50 = .ok (.istore_n 1, 1) := by decide +kernel
theorem dX9_readKeyword_51 : decode cX9_readKeyword 51 = .ok (.iinc 2 1, 3) := by decide +kernel
theorem dX9_readKeyword_54 : decode cX9_readKeyword 54 = .ok (.goto (-50), 3) := by decide +kernel
theorem dX9_readKeyword_57 : decode cX9_readKeyword 57 = .ok (.aload_n 0, 1) := by decide +kernel
theorem dX9_readKeyword_58 : decode cX9_readKeyword 58 = .ok (.dup, 1) := by decide +kernel
theorem dX9_readKeyword_59 : decode cX9_readKeyword 59 = .ok (.getfield 23, 3) := by decide +kernel
theorem dX9_readKeyword_62 : decode cX9_readKeyword 62 = .ok (.iload_n 1, 1) := by decide +kernel
theorem dX9_readKeyword_63 : decode cX9_readKeyword 63 = .ok (.iadd, 1) := by decide +kernel
theorem dX9_readKeyword_64 : decode cX9_readKeyword 64 = .ok (.putfield 23, 3) := by decide +kernel
theorem dX9_readKeyword_67 : decode cX9_readKeyword 67 = .ok (.iconst (-1), 1) := by decide +kernel
theorem dX9_readKeyword_68 : decode cX9_readKeyword 68 = .ok (.ireturn, 1) := by decide +kernel
theorem dX9_sharedLength_0 : decode cX9_sharedLength 0 = .ok (.iconst 0, 1) := by decide +kernel
theorem dX9_sharedLength_1 : decode cX9_sharedLength 1 = .ok (.istore_n 2, 1) := by decide +kernel
theorem dX9_sharedLength_2 : decode cX9_sharedLength 2 = .ok (.iload_n 2, 1) := by decide +kernel
theorem dX9_sharedLength_3 : decode cX9_sharedLength 3 = .ok (.aload_n 1, 1) := by decide +kernel
theorem dX9_sharedLength_4 : decode cX9_sharedLength 4 = .ok (.invokevirtual 80, 3) := by decide +kernel
theorem dX9_sharedLength_7 : decode cX9_sharedLength 7 = .ok (.if_icmp .ge 27, 3) := by decide +kernel
theorem dX9_sharedLength_10 : decode cX9_sharedLength 10 = .ok (.aload_n 0, 1) := by decide +kernel
theorem dX9_sharedLength_11 : decode cX9_sharedLength 11 = .ok (.aload_n 0, 1) := by decide +kernel
theorem dX9_sharedLength_12 : decode cX9_sharedLength 12 = .ok (.getfield 23, 3) := by decide +kernel
theorem dX9_sharedLength_15 : decode cX9_sharedLength 15 = .ok (.iload_n 2, 1) := by decide +kernel
theorem dX9_sharedLength_16 : decode cX9_sharedLength 16 = .ok (.iadd, 1) := by decide +kernel
theorem dX9_sharedLength_17 : decode cX9_sharedLength 17 = .ok (.invokevirtual 35, 3) := by decide +kernel
theorem dX9_sharedLength_20 : decode cX9_sharedLength 20 = .ok (.aload_n 1, 1) := by decide +kernel
theorem dX9_sharedLength_21 : decode cX9_sharedLength 21 = .ok (.iload_n 2, 1) := by decide +kernel
theorem dX9_sharedLength_22 : decode cX9_sharedLength 22 = .ok (.invokevirtual 91, 3) := by decide +kernel
theorem dX9_sharedLength_25 : decode cX9_sharedLength 25 = .ok (.if_icmp .ne 9, 3) := by decide +kernel
theorem dX9_sharedLength_28 : decode cX9_sharedLength 28 = .ok (.iinc 2 1, 3) := by decide +kernel
theorem dX9_sharedLength_31 : decode cX9_sharedLength 31 = .ok (.goto (-29), 3) := by decide +kernel
theorem dX9_sharedLength_34 : decode cX9_sharedLength 34 = .ok (.iload_n 2, 1) := by decide +kernel
theorem dX9_sharedLength_35 : decode cX9_sharedLength 35 = .ok (.ireturn, 1) := by decide +kernel
theorem dX9_spelling_0 : decode cX9_spelling 0 = .ok (.iload_n 0, 1) := by decide +kernel
theorem dX9_spelling_1 : decode cX9_spelling 1 = .ok (.tableswitch 57 0 5 #[39, 42, 45, 48, 51, 54], 39) := by decide +kernel
theorem dX9_spelling_40 : decode cX9_spelling 40 = .ok (.ldc 94, 2) := by decide +kernel
theorem dX9_spelling_42 : decode cX9_spelling 42 = .ok (.areturn, 1) := by decide +kernel
theorem dX9_spelling_43 : decode cX9_spelling 43 = .ok (.ldc 96, 2) := by decide +kernel
theorem dX9_spelling_45 : decode cX9_spelling 45 = .ok (.areturn, 1) := by decide +kernel
theorem dX9_spelling_46 : decode cX9_spelling 46 = .ok (.ldc 98, 2) := by decide +kernel
theorem dX9_spelling_48 : decode cX9_spelling 48 = .ok (.areturn, 1) := by decide +kernel
theorem dX9_spelling_49 : decode cX9_spelling 49 = .ok (.ldc 100, 2) := by decide +kernel
theorem dX9_spelling_51 : decode cX9_spelling 51 = .ok (.areturn, 1) := by decide +kernel
theorem dX9_spelling_52 : decode cX9_spelling 52 = .ok (.ldc 102, 2) := by decide +kernel
theorem dX9_spelling_54 : decode cX9_spelling 54 = .ok (.areturn, 1) := by decide +kernel
theorem dX9_spelling_55 : decode cX9_spelling 55 = .ok (.ldc 104, 2) := by decide +kernel
theorem dX9_spelling_57 : decode cX9_spelling 57 = .ok (.areturn, 1) := by decide +kernel
theorem dX9_spelling_58 : decode cX9_spelling 58 = .ok (.ldc 106, 2) := by decide +kernel
theorem dX9_spelling_60 : decode cX9_spelling 60 = .ok (.areturn, 1) := by decide +kernel
theorem dX9_readPattern_0 : decode cX9_readPattern 0 = .ok (.aload_n 0, 1) := by decide +kernel
theorem dX9_readPattern_1 : decode cX9_readPattern 1 = .ok (.aload_n 0, 1) := by decide +kernel
theorem dX9_readPattern_2 : decode cX9_readPattern 2 = .ok (.getfield 23, 3) := by decide +kernel
theorem dX9_readPattern_5 : decode cX9_readPattern 5 = .ok (.putfield 29, 3) := by decide +kernel
theorem dX9_readPattern_8 : decode cX9_readPattern 8 = .ok (.iconst 0, 1) := by decide +kernel
theorem dX9_readPattern_9 : decode cX9_readPattern 9 = .ok (.istore_n 1, 1) := by decide +kernel
theorem dX9_readPattern_10 : decode cX9_readPattern 10 = .ok (.bipush 40, 2) := by decide +kernel
theorem dX9_readPattern_12 : decode cX9_readPattern 12 = .ok (.istore_n 2, 1) := by decide +kernel
theorem dX9_readPattern_13 : decode cX9_readPattern 13 = .ok (.aload_n 0, 1) := by decide +kernel
theorem dX9_readPattern_14 : decode cX9_readPattern 14 = .ok (.getfield 23, 3) := by decide +kernel
theorem dX9_readPattern_17 : decode cX9_readPattern 17 = .ok (.aload_n 0, 1) := by decide +kernel
theorem dX9_readPattern_18 : decode cX9_readPattern 18 = .ok (.getfield 19, 3) := by decide +kernel
theorem dX9_readPattern_21 : decode cX9_readPattern 21 = .ok (.if_icmp .ge 62, 3) := by decide +kernel
theorem dX9_readPattern_24 : decode cX9_readPattern 24 = .ok (.iload_n 2, 1) := by decide +kernel
theorem dX9_readPattern_25 : decode cX9_readPattern 25 = .ok (.aload_n 0, 1) := by decide +kernel
theorem dX9_readPattern_26 : decode cX9_readPattern 26 = .ok (.aload_n 0, 1) := by decide +kernel
theorem dX9_readPattern_27 : decode cX9_readPattern 27 = .ok (.getfield 23, 3) := by decide +kernel
theorem dX9_readPattern_30 : decode cX9_readPattern 30 = .ok (.invokevirtual 35, 3) := by decide +kernel
theorem dX9_readPattern_33 : decode cX9_readPattern 33 = .ok (.iload_n 1, 1) := by decide +kernel
theorem dX9_readPattern_34 : decode cX9_readPattern 34 = .ok (.invokestatic 108, 3) := by decide +kernel
theorem dX9_readPattern_37 : decode cX9_readPattern 37 = .ok (.ifCond .eq 46, 3) := by decide +kernel
theorem dX9_readPattern_40 : decode cX9_readPattern 40 = .ok (.aload_n 0, 1) := by decide +kernel
theorem dX9_readPattern_41 : decode cX9_readPattern 41 = .ok (.aload_n 0, 1) := by decide +kernel
theorem dX9_readPattern_42 : decode cX9_readPattern 42 = .ok (.getfield 23, 3) := by decide +kernel
theorem dX9_readPattern_45 : decode cX9_readPattern 45 = .ok (.invokevirtual 35, 3) := by decide +kernel
theorem dX9_readPattern_48 : decode cX9_readPattern 48 = .ok (.istore_n 2, 1) := by decide +kernel
theorem dX9_readPattern_49 : decode cX9_readPattern 49 = .ok (.iload_n 2, 1) := by decide +kernel
theorem dX9_readPattern_50 : decode cX9_readPattern 50 = .ok (.bipush 40, 2) := by decide +kernel
theorem dX9_readPattern_52 : decode cX9_readPattern 52 = .ok (.if_icmp .ne 9, 3) := by decide +kernel
theorem dX9_readPattern_55 : decode cX9_readPattern 55 = .ok (.iinc 1 1, 3) := by decide +kernel
theorem dX9_readPattern_58 : decode cX9_readPattern 58 = .ok (.goto 12, 3) := by decide +kernel
theorem dX9_readPattern_61 : decode cX9_readPattern 61 = .ok (.iload_n 2, 1) := by decide +kernel
theorem dX9_readPattern_62 : decode cX9_readPattern 62 = .ok (.bipush 41, 2) := by decide +kernel
theorem dX9_readPattern_64 : decode cX9_readPattern 64 = .ok (.if_icmp .ne 6, 3) := by decide +kernel
theorem dX9_readPattern_67 : decode cX9_readPattern 67 = .ok (.iinc 1 (-1), 3) := by decide +kernel
theorem dX9_readPattern_70 : decode cX9_readPattern 70 = .ok (.aload_n 0, 1) := by decide +kernel
theorem dX9_readPattern_71 : decode cX9_readPattern 71 = .ok (.dup, 1) := by decide +kernel
theorem dX9_readPattern_72 : decode cX9_readPattern 72 = .ok (.getfield 23, 3) := by decide +kernel
theorem dX9_readPattern_75 : decode cX9_readPattern 75 = .ok (.iconst 1, 1) := by decide +kernel
theorem dX9_readPattern_76 : decode cX9_readPattern 76 = .ok (.iadd, 1) := by decide +kernel
theorem dX9_readPattern_77 : decode cX9_readPattern 77 = .ok (.putfield 23, 3) := by decide +kernel
theorem dX9_readPattern_80 : decode cX9_readPattern 80 = .ok (.goto (-67), 3) := by decide +kernel
theorem dX9_readPattern_83 : decode cX9_readPattern 83 = .ok (.aload_n 0, 1) := by decide +kernel
theorem dX9_readPattern_84 : decode cX9_readPattern 84 = .ok (.aload_n 0, 1) := by decide +kernel
theorem dX9_readPattern_85 : decode cX9_readPattern 85 = .ok (.getfield 23, 3) := by decide +kernel
theorem dX9_readPattern_88 : decode cX9_readPattern 88 = .ok (.putfield 32, 3) := by decide +kernel
theorem dX9_readPattern_91 : decode cX9_readPattern 91 = .ok (.iload_n 1, 1) := by decide +kernel
theorem dX9_readPattern_92 : decode cX9_readPattern 92 = .ok (.ifCond .ne 14, 3) := by decide +kernel
theorem dX9_readPattern_95 : decode cX9_readPattern 95 = .ok (.iload_n 2, 1) := by decide +kernel
theorem dX9_readPattern_96 : decode cX9_readPattern 96 = .ok (.invokestatic 112, 3) := by decide +kernel
theorem dX9_readPattern_99 : decode cX9_readPattern 99 = .ok (.ifCond .eq 7, 3) := by decide +kernel
theorem dX9_readPattern_102 : decode cX9_readPattern 102 = .ok (.iconst 1, 1) := by decide +kernel
theorem dX9_readPattern_103 : decode cX9_readPattern 103 = .ok (.goto 4, 3) := by decide +kernel
theorem dX9_readPattern_106 : decode cX9_readPattern 106 = .ok (.iconst 0, 1) := by decide +kernel
theorem dX9_readPattern_107 : decode cX9_readPattern 107 = .ok (.ireturn, 1) := by decide +kernel
theorem dX9_canFollow_0 : decode cX9_canFollow 0 = .ok (.iload_n 1, 1) := by decide +kernel
theorem dX9_canFollow_1 : decode cX9_canFollow 1 = .ok (.invokestatic 39, 3) := by decide +kernel
theorem dX9_canFollow_4 : decode cX9_canFollow 4 = .ok (.ifCond .ne 9, 3) := by decide +kernel
theorem dX9_canFollow_7 : decode cX9_canFollow 7 = .ok (.iload_n 1, 1) := by decide +kernel
theorem dX9_canFollow_8 : decode cX9_canFollow 8 = .ok (.bipush 40, 2) := by decide +kernel
theorem dX9_canFollow_10 : decode cX9_canFollow 10 = .ok (.if_icmp .ne 5, 3) := by decide +kernel
theorem dX9_canFollow_13 : decode cX9_canFollow 13 = .ok (.iconst 1, 1) := by decide +kernel
theorem dX9_canFollow_14 : decode cX9_canFollow 14 = .ok (.ireturn, 1) := by decide +kernel
theorem dX9_canFollow_15 : decode cX9_canFollow 15 = .ok (.iload_n 1, 1) := by decide +kernel
theorem dX9_canFollow_16 : decode cX9_canFollow 16 = .ok (.invokestatic 115, 3) := by decide +kernel
theorem dX9_canFollow_19 : decode cX9_canFollow 19 = .ok (.ifCond .eq 22, 3) := by decide +kernel
theorem dX9_canFollow_22 : decode cX9_canFollow 22 = .ok (.iload_n 0, 1) := by decide +kernel
theorem dX9_canFollow_23 : decode cX9_canFollow 23 = .ok (.invokestatic 39, 3) := by decide +kernel
theorem dX9_canFollow_26 : decode cX9_canFollow 26 = .ok (.ifCond .ne 9, 3) := by decide +kernel
theorem dX9_canFollow_29 : decode cX9_canFollow 29 = .ok (.iload_n 0, 1) := by decide +kernel
theorem dX9_canFollow_30 : decode cX9_canFollow 30 = .ok (.bipush 41, 2) := by decide +kernel
theorem dX9_canFollow_32 : decode cX9_canFollow 32 = .ok (.if_icmp .ne 7, 3) := by decide +kernel
theorem dX9_canFollow_35 : decode cX9_canFollow 35 = .ok (.iconst 1, 1) := by decide +kernel
theorem dX9_canFollow_36 : decode cX9_canFollow 36 = .ok (.goto 4, 3) := by decide +kernel
theorem dX9_canFollow_39 : decode cX9_canFollow 39 = .ok (.iconst 0, 1) := by decide +kernel
theorem dX9_canFollow_40 : decode cX9_canFollow 40 = .ok (.ireturn, 1) := by decide +kernel
theorem dX9_canFollow_41 : decode cX9_canFollow 41 = .ok (.iload_n 0, 1) := by decide +kernel
theorem dX9_canFollow_42 : decode cX9_canFollow 42 = .ok (.invokestatic 112, 3) := by decide +kernel
theorem dX9_canFollow_45 : decode cX9_canFollow 45 = .ok (.ifCond .eq 23, 3) := by decide +kernel
theorem dX9_canFollow_48 : decode cX9_canFollow 48 = .ok (.iload_n 1, 1) := by decide +kernel
theorem dX9_canFollow_49 : decode cX9_canFollow 49 = .ok (.bipush 124, 2) := by decide +kernel
theorem dX9_canFollow_51 : decode cX9_canFollow 51 = .ok (.if_icmp .eq 13, 3) := by decide +kernel
theorem dX9_canFollow_54 : decode cX9_canFollow 54 = .ok (.iload_n 1, 1) := by decide +kernel
theorem dX9_canFollow_55 : decode cX9_canFollow 55 = .ok (.bipush 41, 2) := by decide +kernel
theorem dX9_canFollow_57 : decode cX9_canFollow 57 = .ok (.if_icmp .ne 11, 3) := by decide +kernel
theorem dX9_canFollow_60 : decode cX9_canFollow 60 = .ok (.iload_n 2, 1) := by decide +kernel
theorem dX9_canFollow_61 : decode cX9_canFollow 61 = .ok (.ifCond .le 7, 3) := by decide +kernel
theorem dX9_canFollow_64 : decode cX9_canFollow 64 = .ok (.iconst 1, 1) := by decide +kernel
theorem dX9_canFollow_65 : decode cX9_canFollow 65 = .ok (.goto 4, 3) := by decide +kernel
theorem dX9_canFollow_68 : decode cX9_canFollow 68 = .ok (.iconst 0, 1) := by decide +kernel
theorem dX9_canFollow_69 : decode cX9_canFollow 69 = .ok (.ireturn, 1) := by decide +kernel
theorem dX9_endsFactor_0 : decode cX9_endsFactor 0 = .ok (.iload_n 0, 1) := by decide +kernel
theorem dX9_endsFactor_1 : decode cX9_endsFactor 1 = .ok (.invokestatic 39, 3) := by decide +kernel
theorem dX9_endsFactor_4 : decode cX9_endsFactor 4 = .ok (.ifCond .ne 16, 3) := by decide +kernel
theorem dX9_endsFactor_7 : decode cX9_endsFactor 7 = .ok (.iload_n 0, 1) := by decide +kernel
theorem dX9_endsFactor_8 : decode cX9_endsFactor 8 = .ok (.invokestatic 115, 3) := by decide +kernel
theorem dX9_endsFactor_11 : decode cX9_endsFactor 11 = .ok (.ifCond .ne 9, 3) := by decide +kernel
theorem dX9_endsFactor_14 : decode cX9_endsFactor 14 = .ok (.iload_n 0, 1) := by decide +kernel
theorem dX9_endsFactor_15 : decode cX9_endsFactor 15 = .ok (.bipush 41, 2) := by decide +kernel
theorem dX9_endsFactor_17 : decode cX9_endsFactor 17 = .ok (.if_icmp .ne 7, 3) := by decide +kernel
theorem dX9_endsFactor_20 : decode cX9_endsFactor 20 = .ok (.iconst 1, 1) := by decide +kernel
theorem dX9_endsFactor_21 : decode cX9_endsFactor 21 = .ok (.goto 4, 3) := by decide +kernel
theorem dX9_endsFactor_24 : decode cX9_endsFactor 24 = .ok (.iconst 0, 1) := by decide +kernel
theorem dX9_endsFactor_25 : decode cX9_endsFactor 25 = .ok (.ireturn, 1) := by decide +kernel
theorem dX10_init_0 : decode cX10_init 0 = .ok (.aload_n 0, 1) := by decide +kernel
theorem dX10_init_1 : decode cX10_init 1 = .ok (.invokespecial 1, 3) := by decide +kernel
theorem dX10_init_4 : decode cX10_init 4 = .ok (.aload_n 0, 1) := by decide +kernel
theorem dX10_init_5 : decode cX10_init 5 = .ok (.aload_n 1, 1) := by decide +kernel
theorem dX10_init_6 : decode cX10_init 6 = .ok (.putfield 7, 3) := by decide +kernel
theorem dX10_init_9 : decode cX10_init 9 = .ok (.return_, 1) := by decide +kernel
theorem dX10_size_0 : decode cX10_size 0 = .ok (.aload_n 0, 1) := by decide +kernel
theorem dX10_size_1 : decode cX10_size 1 = .ok (.getfield 7, 3) := by decide +kernel
theorem dX10_size_4 : decode cX10_size 4 = .ok (.arraylength, 1) := by decide +kernel
theorem dX10_size_5 : decode cX10_size 5 = .ok (.ireturn, 1) := by decide +kernel
theorem dX10_letter_0 : decode cX10_letter 0 = .ok (.iload_n 1, 1) := by decide +kernel
theorem dX10_letter_1 : decode cX10_letter 1 = .ok (.ifCond .lt 12, 3) := by decide +kernel
theorem dX10_letter_4 : decode cX10_letter 4 = .ok (.iload_n 1, 1) := by decide +kernel
theorem dX10_letter_5 : decode cX10_letter 5 = .ok (.aload_n 0, 1) := by decide +kernel
theorem dX10_letter_6 : decode cX10_letter 6 = .ok (.getfield 7, 3) := by decide +kernel
theorem dX10_letter_9 : decode cX10_letter 9 = .ok (.arraylength, 1) := by decide +kernel
theorem dX10_letter_10 : decode cX10_letter 10 = .ok (.if_icmp .lt 7, 3) := by decide +kernel
theorem dX10_letter_13 : decode cX10_letter 13 = .ok (.iconst (-1), 1) := by decide +kernel
theorem dX10_letter_14 : decode cX10_letter 14 = .ok (.goto 9, 3) := by decide +kernel
theorem dX10_letter_17 : decode cX10_letter 17 = .ok (.aload_n 0, 1) := by decide +kernel
theorem dX10_letter_18 : decode cX10_letter 18 = .ok (.getfield 7, 3) := by decide +kernel
theorem dX10_letter_21 : decode cX10_letter 21 = .ok (.iload_n 1, 1) := by decide +kernel
theorem dX10_letter_22 : decode cX10_letter 22 = .ok (.iaload, 1) := by decide +kernel
theorem dX10_letter_23 : decode cX10_letter 23 = .ok (.ireturn, 1) := by decide +kernel
